/-! THE GROWING WORLD: while the objects are being made, a world is a list of cells; a reference is a place in that list. -/
abbrev nE : Type := (Nat × Nat) ⊕ ((Nat × List (Option Nat)) ⊕ (Nat × List Value))
def n_ar (k n : Nat) : vp_A := if k = 1 then (n, .inr (.inl (fun _ => 0))) else (n, .inl (fun _ => 0))
def n_cv (kA : Nat → ClassId) (ad : Nat → Nat) (e : nE) : va_E := match e with
  | .inl (k, n) => .inl (kA k, n_ar k n)
  | .inr (.inl (k, l)) => .inl (kA k, l.length, .inr (.inr (.inr (.inr (fun j => (l.getD j none).map ad)))))
  | .inr (.inr (k, fs)) => .inr (k, fs.map (a_cv ad))
def n_wl (kA : Nat → ClassId) (ad : Nat → Nat) (ws : List nE) : va_W := ws.mapIdx (fun i e => (ad i, n_cv kA ad e))
theorem n_at {kA : Nat → ClassId} {ad : Nat → Nat} {ws : List nE} {i : Nat} {e : nE} (h : ws[i]? = some e) : (n_wl kA ad ws)[i]? = some (ad i, n_cv kA ad e) := by simp [n_wl, List.getElem?_mapIdx, h]
theorem n_set {kA : Nat → ClassId} {ad : Nat → Nat} {ws ws' : List nE} {i : Nat} {e : nE} {x : va_E} (hx : n_cv kA ad e = x) (hw : ws.set i e = ws') : (n_wl kA ad ws).set i (ad i, x) = n_wl kA ad ws' := by
  subst hx; subst hw
  apply List.ext_getElem?
  intro j
  rw [List.getElem?_set]
  simp only [n_wl, List.length_mapIdx, List.getElem?_mapIdx, List.getElem?_set]
  by_cases hj : i = j
  · subst hj
    by_cases hl : i < ws.length
    · simp [hl]
    · simp [hl]
  · simp [hj]
def n_okV (n : Nat) (v : Value) : Bool := match v with
  | .ref i => decide (i < n)
  | _ => true
def n_okE (n : Nat) (e : nE) : Bool := match e with
  | .inl _ => true
  | .inr (.inl (_, l)) => l.all (fun r => match r with | some i => decide (i < n) | none => true)
  | .inr (.inr (_, fs)) => fs.all (n_okV n)
def n_ok (ws : List nE) : Bool := ws.all (n_okE ws.length)
def n_up (ad : Nat → Nat) (n q : Nat) : Nat → Nat := fun i => if i = n then q else ad i
theorem n_up_ne {ad : Nat → Nat} {n q i : Nat} (h : i < n) : n_up ad n q i = ad i := by simp [n_up]; omega
theorem n_cvV {ad : Nat → Nat} {n q : Nat} {v : Value} (h : n_okV n v = true) : a_cv (n_up ad n q) v = a_cv ad v := by
  cases v with
  | ref i =>
    have : i < n := by simpa [n_okV] using h
    show Value.ref (n_up ad n q i) = Value.ref (ad i)
    rw [n_up_ne this]
  | _ => rfl
theorem n_cvE {kA : Nat → ClassId} {ad : Nat → Nat} {n q : Nat} {e : nE} (h : n_okE n e = true) : n_cv kA (n_up ad n q) e = n_cv kA ad e := by
  match e, h with
  | .inl (k, m), _ => rfl
  | .inr (.inl (k, l)), h =>
    show Sum.inl (kA k, l.length, _) = Sum.inl (kA k, l.length, _)
    congr 7
    funext j
    simp only [n_okE, List.all_eq_true] at h
    cases hj : l.getD j none with
    | none => rfl
    | some i =>
      have hm : some i ∈ l := by
        rw [List.getD_eq_getElem?_getD] at hj
        cases hx : l[j]? with
        | none => rw [hx] at hj; cases hj
        | some y => rw [hx] at hj; exact hj ▸ List.mem_of_getElem? hx
      have h2 := h _ hm
      have h3 : i < n := by simpa using h2
      show some (n_up ad n q i) = some (ad i)
      rw [n_up_ne h3]
  | .inr (.inr (k, fs)), h =>
    simp only [n_okE, List.all_eq_true] at h
    show Sum.inr (k, _) = Sum.inr (k, _)
    congr 2
    exact List.map_congr_left (fun v hv => n_cvV (h v hv))
theorem n_push {kA : Nat → ClassId} {ad : Nat → Nat} {ws ws' : List nE} {e : nE} {x : va_E} {q n : Nat} (hn : ws.length = n) (hok : n_ok ws = true) (hx : n_cv kA (n_up ad n q) e = x) (hw : ws ++ [e] = ws') : n_wl kA ad ws ++ [(q, x)] = n_wl kA (n_up ad n q) ws' := by
  subst hx; subst hw; subst hn
  simp only [n_ok, List.all_eq_true] at hok
  rw [n_wl, n_wl, List.mapIdx_append]
  congr 1
  · apply List.ext_getElem?
    intro j
    simp only [List.getElem?_mapIdx]
    cases hj : ws[j]? with
    | none => rfl
    | some y =>
      have hl : j < ws.length := (List.getElem?_eq_some_iff.mp hj).1
      simp only [Option.map_some]
      rw [n_up_ne hl, n_cvE (hok y (List.mem_of_getElem? hj))]
  · simp [n_up]
def n_okL (n : Nat) (L : List (Nat × Value)) : Bool := L.all (fun q => n_okV n q.2)
theorem n_lc {ad : Nat → Nat} {n q : Nat} {L : List (Nat × Value)} (h : n_okL n L = true) : a_lc (n_up ad n q) L = a_lc ad L := by
  simp only [n_okL, List.all_eq_true] at h
  exact List.map_congr_left (fun x hx => by rw [n_cvV (h x hx)])
theorem n_st {ad : Nat → Nat} {n q : Nat} {st : List Value} (h : st.all (n_okV n) = true) : st.map (a_cv (n_up ad n q)) = st.map (a_cv ad) := by
  simp only [List.all_eq_true] at h
  exact List.map_congr_left (fun x hx => n_cvV (h x hx))
/-- the words that a call doesn't carry by itself: private constructors of nest mates, arrays of references -/
def n_nest : List Cond := [.methodLinkNest RX7 9 yX5_init "CoastLights", .methodLinkNest RX7 34 yX6_init "CoastLights", .methodLinkNest RX7 44 yX0_init "CoastLights", .methodLinkNest RX2 15 yX4_init "CoastLights", .methodLinkNest RX7 66 yX1_init "CoastLights", .methodLinkNest RX7 67 yX3_init "CoastLights"]
def n_Nw (U : State) : Prop := (va_Nw (.methodLinkNest RX7 9 yX5_init "CoastLights") U ∧ va_Nw (.methodLinkNest RX7 34 yX6_init "CoastLights") U ∧ va_Nw (.methodLinkNest RX7 44 yX0_init "CoastLights") U ∧ va_Nw (.methodLinkNest RX2 15 yX4_init "CoastLights") U ∧ va_Nw (.methodLinkNest RX7 66 yX1_init "CoastLights") U ∧ va_Nw (.methodLinkNest RX7 67 yX3_init "CoastLights") U) ∧ va_AO RX1 U ∧ va_AO RX3 U ∧ va_AO RX4 U
theorem n_Nw.warm {s U : State} (hW : s.WarmedH U.vm) (h : n_Nw s) : n_Nw U := ⟨⟨h.1.1.warmM hW, h.1.2.1.warmM hW, h.1.2.2.1.warmM hW, h.1.2.2.2.1.warmM hW, h.1.2.2.2.2.1.warmM hW, h.1.2.2.2.2.2.warmM hW⟩, h.2.1.moved hW.alike, h.2.2.1.moved hW.alike, h.2.2.2.moved hW.alike⟩
theorem n_Nw.same {u U : State} (e : u.vm = U.vm) (h : n_Nw u) : n_Nw U := ⟨⟨h.1.1.same rfl e, h.1.2.1.same rfl e, h.1.2.2.1.same rfl e, h.1.2.2.2.1.same rfl e, h.1.2.2.2.2.1.same rfl e, h.1.2.2.2.2.2.same rfl e⟩, h.2.1.moved (by rw [e]; exact Vm.Alike.refl _), h.2.2.1.moved (by rw [e]; exact Vm.Alike.refl _), h.2.2.2.moved (by rw [e]; exact Vm.Alike.refl _)⟩
def n_Cx (mi : aMi) (D : va_G) (kA : Nat → ClassId) (A : Nat → Prop) (p : Program) (s : State) (m : MethodId) (args : Array Value) (meth : Method) (c : Code) : Prop :=
  p.tables.exec = Jvm.exec ∧ c.code = mi.1 ∧ c.maxLocals = mi.2.1 ∧ s.vm.findClass mi.2.2.1 = some m.cls ∧ (∀ w ∈ a_tbl, w.before args s = true) ∧ meth.sig.returnType = mi.2.2.2.1 ∧ meth.locks = false ∧ va_K D vwCl (a_tys kA) s ∧ (∀ q, s.heap.size ≤ q → A q) ∧ meth.name = "<init>" ∧ n_Nw s
/-- what a constructor ends with -/
def n_Q (D : va_G) (kA : Nat → ClassId) (ad : Nat → Nat) (A : Nat → Prop) (n0 : Nat) (wF : List nE) : Array Value → State → Outcome → State → Prop := fun _ st oc t =>
  (∃ ad' : Nat → Nat, (∀ i, i < n0 → ad' i = ad i) ∧ oc = .returned none ∧ va_P D vwCl (n_wl kA ad' wF) t.heap ∧ va_D A (n_wl kA ad' wF)) ∧ va_F A st t
def JN (mi : aMi) (n0 : Nat) (wF : List nE) (ck sk pc : Nat) (L : List (Nat × Value)) (st : List Value) (S : List nE) : Prop :=
  ∀ (p : Program) (l : Launch) (e : Env) (s : State) (m : MethodId) (args : Array Value) (below : List Frame) (meth : Method) (c : Code) (D : va_G) (kA : Nat → ClassId) (ad : Nat → Nat) (A : Nat → Prop) (H : Heap) (locs : List Loc) (ls : Array Slot) (ad0 : Nat → Nat),
    n_Cx mi D kA A p s m args meth c → (∀ i, i < n0 → ad i = ad0 i) → n0 ≤ S.length → lv_has ls mi.2.1 (a_lc ad L) → va_P D vwCl (n_wl kA ad S) H → va_D A (n_wl kA ad S) → va_S A s.heap H locs →
    W p l e mi.2.2.2.2 s m args below meth c H locs ck sk (MQ below (n_Q D kA ad0 A n0 wF) args s mi.2.2.2.2.cells mi.2.2.2.2.slots A) (F0 m pc ls (st.map (a_cv ad)))

theorem N_iconst {mi : aMi} {n0 : Nat} {wF : List nE} {ck sk pc : Nat} {L : List (Nat × Value)} {st : List Value} {S : List nE} {n : Int} (v : Int32) (d : decode mi.1 pc = .ok (.iconst n, 1)) (hv : Int32.ofInt n = v) (K : JN mi n0 wF ck sk (pc + 1) L (.int v :: st) S) : JN mi n0 wF ck sk pc L (st) S := by
  intro p l e s m args below meth c D kA ad A H locs ls ad0 X ha1 ha2 hl hP hD hS
  exact lv_iconst X.1 X.2.1 d hv (K p l e s m args below meth c D kA ad A H locs ls ad0 X ha1 ha2 hl hP hD hS)

theorem N_bipush {mi : aMi} {n0 : Nat} {wF : List nE} {ck sk pc : Nat} {L : List (Nat × Value)} {st : List Value} {S : List nE} {n : Int} (v : Int32) (d : decode mi.1 pc = .ok (.bipush n, 2)) (hv : (Int8.ofInt n).toInt32 = v) (K : JN mi n0 wF ck sk (pc + 2) L (.int v :: st) S) : JN mi n0 wF ck sk pc L (st) S := by
  intro p l e s m args below meth c D kA ad A H locs ls ad0 X ha1 ha2 hl hP hD hS
  exact lv_bipush X.1 X.2.1 d hv (K p l e s m args below meth c D kA ad A H locs ls ad0 X ha1 ha2 hl hP hD hS)

theorem N_sipush {mi : aMi} {n0 : Nat} {wF : List nE} {ck sk pc : Nat} {L : List (Nat × Value)} {st : List Value} {S : List nE} {n : Int} (v : Int32) (d : decode mi.1 pc = .ok (.sipush n, 3)) (hv : (Int16.ofInt n).toInt32 = v) (K : JN mi n0 wF ck sk (pc + 3) L (.int v :: st) S) : JN mi n0 wF ck sk pc L (st) S := by
  intro p l e s m args below meth c D kA ad A H locs ls ad0 X ha1 ha2 hl hP hD hS
  exact lv_sipush X.1 X.2.1 d hv (K p l e s m args below meth c D kA ad A H locs ls ad0 X ha1 ha2 hl hP hD hS)

theorem N_iload_n {mi : aMi} {n0 : Nat} {wF : List nE} {ck sk pc : Nat} {L : List (Nat × Value)} {st : List Value} {S : List nE} {k : Fin 4} {i : Nat} {x : Int32} (d : decode mi.1 pc = .ok (.iload_n k, 1)) (hi : (k : Nat) = i) (j : Nat) (hL : L[j]? = some (i, .int x)) (K : JN mi n0 wF ck sk (pc + 1) L (.int x :: st) S) : JN mi n0 wF ck sk pc L (st) S := by
  intro p l e s m args below meth c D kA ad A H locs ls ad0 X ha1 ha2 hl hP hD hS
  exact lv_iload_n X.1 X.2.1 d hi (a_lc_at hl hL) (K p l e s m args below meth c D kA ad A H locs ls ad0 X ha1 ha2 hl hP hD hS)

theorem N_aload_n {mi : aMi} {n0 : Nat} {wF : List nE} {ck sk pc : Nat} {L : List (Nat × Value)} {st : List Value} {S : List nE} {k : Fin 4} {i : Nat} {x : Nat} (d : decode mi.1 pc = .ok (.aload_n k, 1)) (hi : (k : Nat) = i) (j : Nat) (hL : L[j]? = some (i, .ref x)) (K : JN mi n0 wF ck sk (pc + 1) L (.ref x :: st) S) : JN mi n0 wF ck sk pc L (st) S := by
  intro p l e s m args below meth c D kA ad A H locs ls ad0 X ha1 ha2 hl hP hD hS
  exact lv_aload_n X.1 X.2.1 d hi (a_lc_at hl hL) (K p l e s m args below meth c D kA ad A H locs ls ad0 X ha1 ha2 hl hP hD hS)

theorem N_istore_n {mi : aMi} {n0 : Nat} {wF : List nE} {ck sk pc : Nat} {L : List (Nat × Value)} {st : List Value} {S : List nE} {k : Fin 4} {i : Nat} {x : Int32} {L' : List (Nat × Value)} (d : decode mi.1 pc = .ok (.istore_n k, 1)) (hi : (k : Nat) = i) (hn : i < mi.2.1) (hL : (i, Value.int x) :: a_f1 i L = L') (K : JN mi n0 wF ck sk (pc + 1) L' (st) S) : JN mi n0 wF ck sk pc L (.int x :: st) S := by
  intro p l e s m args below meth c D kA ad A H locs ls ad0 X ha1 ha2 hl hP hD hS
  exact lv_istore_n (lv' := a_lc ad L') X.1 X.2.1 d hi hl hn (by rw [a_lc_f1, ← hL]; rfl) (fun ls hl => K p l e s m args below meth c D kA ad A H locs ls ad0 X ha1 ha2 hl hP hD hS)

theorem N_iinc {mi : aMi} {n0 : Nat} {wF : List nE} {ck sk pc : Nat} {L : List (Nat × Value)} {st : List Value} {S : List nE} {i j : Nat} {n : Int} {x v : Int32} {L' : List (Nat × Value)} (d : decode mi.1 pc = .ok (.iinc i n, 3)) (hj : L[j]? = some (i, .int x)) (hv : x + Int32.ofInt n = v) (hn : i < mi.2.1) (hL : (i, Value.int v) :: a_f1 i L = L') (K : JN mi n0 wF ck sk (pc + 3) L' (st) S) : JN mi n0 wF ck sk pc L (st) S := by
  intro p l e s m args below meth c D kA ad A H locs ls ad0 X ha1 ha2 hl hP hD hS
  exact lv_iinc (lv' := a_lc ad L') (k := j) X.1 X.2.1 d hl (by simp [a_lc, List.getElem?_map, hj, a_cv]) hv hn (by rw [a_lc_f1, ← hL]; rfl) (fun ls hl => K p l e s m args below meth c D kA ad A H locs ls ad0 X ha1 ha2 hl hP hD hS)

theorem N_dup {mi : aMi} {n0 : Nat} {wF : List nE} {ck sk pc : Nat} {L : List (Nat × Value)} {st : List Value} {S : List nE} {v : Value} (d : decode mi.1 pc = .ok (.dup, 1)) (hv : v.category = 1) (K : JN mi n0 wF ck sk (pc + 1) L (v :: v :: st) S) : JN mi n0 wF ck sk pc L (v :: st) S := by
  intro p l e s m args below meth c D kA ad A H locs ls ad0 X ha1 ha2 hl hP hD hS
  exact lv_dup X.1 X.2.1 d ((a_cv_cat ad v).trans hv) (K p l e s m args below meth c D kA ad A H locs ls ad0 X ha1 ha2 hl hP hD hS)

theorem N_goto {mi : aMi} {n0 : Nat} {wF : List nE} {ck sk pc : Nat} {L : List (Nat × Value)} {st : List Value} {S : List nE} {off : Int} (tgt : Nat) (d : decode mi.1 pc = .ok (.goto off, 3)) (ht : (pc : Int) + off = (tgt : Int)) (K : JN mi n0 wF ck sk (tgt) L (st) S) : JN mi n0 wF ck sk pc L (st) S := by
  intro p l e s m args below meth c D kA ad A H locs ls ad0 X ha1 ha2 hl hP hD hS
  exact lv_goto X.1 X.2.1 d ht (K p l e s m args below meth c D kA ad A H locs ls ad0 X ha1 ha2 hl hP hD hS)

theorem N_geT {mi : aMi} {n0 : Nat} {wF : List nE} {ck sk pc : Nat} {L : List (Nat × Value)} {st : List Value} {S : List nE} {x y : Int32} {off : Int} (tgt : Nat) (d : decode mi.1 pc = .ok (.if_icmp .ge off, 3)) (ht : (pc : Int) + off = (tgt : Int)) (hc : y ≤ x) (K : JN mi n0 wF ck sk (tgt) L (st) S) : JN mi n0 wF ck sk pc L (.int y :: .int x :: st) S := by
  intro p l e s m args below meth c D kA ad A H locs ls ad0 X ha1 ha2 hl hP hD hS
  exact lv_icmp_ge X.1 X.2.1 d ht (fun _ => (K p l e s m args below meth c D kA ad A H locs ls ad0 X ha1 ha2 hl hP hD hS)) (fun h => absurd hc h)

theorem N_geF {mi : aMi} {n0 : Nat} {wF : List nE} {ck sk pc : Nat} {L : List (Nat × Value)} {st : List Value} {S : List nE} {x y : Int32} {off : Int} (tgt : Nat) (d : decode mi.1 pc = .ok (.if_icmp .ge off, 3)) (ht : (pc : Int) + off = (tgt : Int)) (hc : ¬ y ≤ x) (K : JN mi n0 wF ck sk (pc + 3) L (st) S) : JN mi n0 wF ck sk pc L (.int y :: .int x :: st) S := by
  intro p l e s m args below meth c D kA ad A H locs ls ad0 X ha1 ha2 hl hP hD hS
  exact lv_icmp_ge X.1 X.2.1 d ht (fun h => absurd h hc) (fun _ => (K p l e s m args below meth c D kA ad A H locs ls ad0 X ha1 ha2 hl hP hD hS))

section NM
variable {mi mj : aMi} {n0 : Nat} {wF : List nE} {ck sk pc : Nat} {L : List (Nat × Value)} {st rest : List Value} {S S' : List nE} {y : MethodName}
theorem N_obj {i idx : Nat} (h1 : Cond.methodLink mi.2.2.1 idx objectInit ∈ a_tbl) (h2 : Cond.instanceMethod objectInit ∈ a_tbl) (h3 : Cond.code objectInit ⟨#[0xb1]⟩ 1 none ∈ a_tbl) (hf : 1 ≤ mi.2.2.2.2.frames) (hsum : (st.map fun v => v.category).sum + 12 ≤ mi.2.2.2.2.locals) (d : decode mi.1 pc = .ok (.invokespecial idx, 3)) (K : JN mi n0 wF ck sk (pc + 3) L st S) : JN mi n0 wF ck sk pc L (.ref i :: st) S := by
  intro p l e s m args below meth c D kA ad A H locs ls ad0 X ha1 ha2 hl hP hD hS
  have hq : (Cond.code Lib.objectInit ⟨#[0xb1]⟩ 1 none).before args s = true := X.2.2.2.2.1 _ h3
  exact W.objInit X.1 X.2.1 X.2.2.2.1 (X.2.2.2.2.1 _ h1) (X.2.2.2.2.1 _ h2) hq rfl (by show ls.size = _; rw [hl.1]; exact X.2.2.1.symm) rfl d hf (by show 2 * 0 + ((st.map (a_cv ad)).map fun v => v.category).sum + 12 ≤ _; rw [a_cats]; omega) (K p l e s m args below meth c D kA ad A H locs ls ad0 X ha1 ha2 hl hP hD hS)
theorem n_cA {kA : Nat → ClassId} {D : va_G} {s : State} {cA : ClassId} {ty : FieldType} {k : Nat} (hK : va_K D vwCl (a_tys kA) s) (hk : (a_tys kA)[k]? = some (kA k, ty)) (h : va_K D vwCl (a_tys kA ++ [(cA, ty)]) s) : cA = kA k := by
  have h1 := (hK.2 k _ hk).2
  have h2 := (h.2 (a_tys kA).length (cA, ty) (by simp)).2
  cases ty with
  | object C =>
    obtain ⟨_, _, _, _, _, e1⟩ := h1
    obtain ⟨_, _, _, _, _, e2⟩ := h2
    exact Option.some.inj (e2.symm.trans e1)
  | _ => exact Option.some.inj (Eq.trans (Eq.symm h2) h1)
theorem N_newarr {k : Nat} {n : Int32} {N' : Nat} {atype : ArrayType} {ty : FieldType} (hty : newarray.typeOf atype = ty) (hk : ∀ kA : Nat → ClassId, (a_tys kA)[k]? = some (kA k, ty)) (hw : Cond.arrayClass ty ∈ a_tbl) (hdef : ∀ (cA : ClassId), vp_cell cA (n_ar k N') = arrV cA N' (fun _ => defaultValue ty)) (hn : ¬ n < 0) (hN : n.toNatClampNeg = N') (hbytes : N' * componentBytes ty ≤ 536870912) (hcells : ck + 1 ≤ mi.2.2.2.2.cells) (hslots : sk + N' ≤ mi.2.2.2.2.slots) {q : Nat} (hq : S.length = q) (hok : n_ok S = true) (hoL : n_okL q L = true) (hoS : st.all (n_okV q) = true) (hS' : S ++ [.inl (k, N')] = S') (d : decode mi.1 pc = .ok (.newarray atype, 2))
    (K : JN mi n0 wF (ck + 1) (sk + N') (pc + 2) L (.ref q :: st) S') : JN mi n0 wF ck sk pc L (.int n :: st) S := by
  intro p l e s m args below meth c D kA ad A H locs ls ad0 X ha1 ha2 hl hP hD hS
  refine va_newa X.1 X.2.1 (atype := atype) (ty := ty) (a0 := n_ar k N') (by rw [hty]; exact X.2.2.2.2.1 _ hw) hty X.2.2.2.2.2.2.2.1 hP hD hS X.2.2.2.2.2.2.2.2.1 hdef hn hN hbytes hcells hslots d ?_
  intro a cA H1 hK1 hP1 hD1 hS1
  have hc := n_cA X.2.2.2.2.2.2.2.1 (hk kA) hK1
  subst hc
  have hpush := n_push (kA := kA) (ad := ad) (q := a) (x := .inl (kA k, n_ar k N')) hq hok rfl hS'
  rw [hpush] at hP1 hD1
  have e2 : (Value.ref a :: st.map (a_cv ad)) = (Value.ref q :: st).map (a_cv (n_up ad q a)) := by
    show _ = Value.ref (n_up ad q a q) :: st.map _
    rw [n_st hoS]
    simp [n_up]
  rw [e2]
  exact K p l e s m args below meth c D kA (n_up ad q a) A H1 locs ls ad0 X (fun i hi => by rw [n_up_ne (by omega)]; exact ha1 i hi) (by rw [← hS']; simp; omega) (by rw [n_lc hoL]; exact hl) hP1 hD1 hS1
theorem N_newq {k idx : Nat} {n : Int32} {N' : Nat} {Cn : String} (hk : ∀ kA : Nat → ClassId, (a_tys kA)[k]? = some (kA k, .object Cn)) (hao : ∀ U, n_Nw U → va_AO Cn U) (hcl : Cond.classLink mi.2.2.1 idx Cn ∈ a_tbl) (hn : ¬ n < 0) (hN : n.toNatClampNeg = N') (hbytes : N' * 4 ≤ 536870912) (hcells : ck + 1 ≤ mi.2.2.2.2.cells) (hslots : sk + N' ≤ mi.2.2.2.2.slots) {q : Nat} (hq : S.length = q) (hok : n_ok S = true) (hoL : n_okL q L = true) (hoS : st.all (n_okV q) = true) (hS' : S ++ [.inr (.inl (k, List.replicate N' none))] = S') (d : decode mi.1 pc = .ok (.anewarray idx, 3))
    (K : JN mi n0 wF (ck + 1) (sk + N') (pc + 3) L (.ref q :: st) S') : JN mi n0 wF ck sk pc L (.int n :: st) S := by
  intro p l e s m args below meth c D kA ad A H locs ls ad0 X ha1 ha2 hl hP hD hS
  refine va_newq X.1 X.2.1 X.2.2.2.1 (X.2.2.2.2.1 _ hcl) (hao s X.2.2.2.2.2.2.2.2.2.2) X.2.2.2.2.2.2.2.1 hP hD hS X.2.2.2.2.2.2.2.2.1 hn hN hbytes hcells hslots d ?_
  intro a cA H1 hK1 hP1 hD1 hS1
  have hc := n_cA X.2.2.2.2.2.2.2.1 (hk kA) hK1
  subst hc
  have hx : n_cv kA (n_up ad q a) (.inr (.inl (k, List.replicate N' none))) = .inl (kA k, N', .inr (.inr (.inr (.inr (fun _ => none))))) := by
    show Sum.inl (kA k, (List.replicate N' (none : Option Nat)).length, _) = _
    rw [List.length_replicate]
    congr 7
    funext j
    rw [List.getD_eq_getElem?_getD]
    by_cases hj : j < N'
    · simp [List.getElem?_replicate, hj]
    · simp [List.getElem?_replicate, hj]
  have hpush := n_push (kA := kA) (ad := ad) (q := a) hq hok hx hS'
  rw [hpush] at hP1 hD1
  have e2 : (Value.ref a :: st.map (a_cv ad)) = (Value.ref q :: st).map (a_cv (n_up ad q a)) := by
    show _ = Value.ref (n_up ad q a q) :: st.map _
    rw [n_st hoS]
    simp [n_up]
  rw [e2]
  exact K p l e s m args below meth c D kA (n_up ad q a) A H1 locs ls ad0 X (fun i hi => by rw [n_up_ne (by omega)]; exact ha1 i hi) (by rw [← hS']; simp; omega) (by rw [n_lc hoL]; exact hl) hP1 hD1 hS1
theorem N_new {ci idx : Nat} {r : vw_C} {ty : Nat → FieldType} {fs : List Value} (hc : vwCl[ci]? = some r) (hty : ∀ k, k < r.2.2 → parseFieldDescriptor (r.2.1 k).2.2.1 = some (ty k)) (hfs : ∀ j, j < r.2.2 → defaultValue (ty j) = vp_V fs j) (hfsr : ∀ ad, fs.map (a_cv ad) = fs) (hcl : Cond.classLink mi.2.2.1 idx r.1 ∈ a_tbl) (hinst : Cond.instantiable r.1 r.2.2 ∈ a_tbl) (hini : Cond.initialized r.1 ∈ a_tbl) (hcells : ck + 1 ≤ mi.2.2.2.2.cells) (hslots : sk + r.2.2 ≤ mi.2.2.2.2.slots) {q : Nat} (hq : S.length = q) (hok : n_ok S = true) (hoL : n_okL q L = true) (hoS : st.all (n_okV q) = true) (hS' : S ++ [.inr (.inr (ci, fs))] = S') (d : decode mi.1 pc = .ok (.new idx, 3))
    (K : JN mi n0 wF (ck + 1) (sk + r.2.2) (pc + 3) L (.ref q :: st) S') : JN mi n0 wF ck sk pc L st S := by
  intro p l e s m args below meth c D kA ad A H locs ls ad0 X ha1 ha2 hl hP hD hS
  refine va_new X.1 X.2.1 X.2.2.2.2.1 (a_cls hc).1 ty hty X.2.2.2.1 (X.2.2.2.2.1 _ hcl) (X.2.2.2.2.1 _ hinst) (X.2.2.2.2.1 _ hini) X.2.2.2.2.2.2.2.1 hP hD hS X.2.2.2.2.2.2.2.2.1 hc hfs hcells hslots d ?_
  intro a H1 hP1 hD1 hS1
  have hx : n_cv kA (n_up ad q a) (.inr (.inr (ci, fs))) = .inr (ci, fs) := by
    show Sum.inr (ci, fs.map _) = _
    rw [hfsr]
  have hpush := n_push (kA := kA) (ad := ad) (q := a) hq hok hx hS'
  rw [hpush] at hP1 hD1
  have e2 : (Value.ref a :: st.map (a_cv ad)) = (Value.ref q :: st).map (a_cv (n_up ad q a)) := by
    show _ = Value.ref (n_up ad q a q) :: st.map _
    rw [n_st hoS]
    simp [n_up]
  rw [e2]
  exact K p l e s m args below meth c D kA (n_up ad q a) A H1 locs ls ad0 X (fun i hi => by rw [n_up_ne (by omega)]; exact ha1 i hi) (by rw [← hS']; simp; omega) (by rw [n_lc hoL]; exact hl) hP1 hD1 hS1
theorem N_put {i x ci j idx : Nat} {r : vw_C} {fs : List Value} {ty : FieldType} (he : S[i]? = some (.inr (.inr (ci, fs)))) (hc : vwCl[ci]? = some r) (hj : j < r.2.2) (hl2 : j < fs.length) (hd : parseFieldDescriptor (r.2.1 j).2.2.1 = some ty) (hr : ∀ a, narrow ty (.ref a) = .ref a ∧ fits ty (.ref a) = true) (hdecl : (r.2.1 j).1 = mi.2.2.1) (hw : Cond.fieldLink mi.2.2.1 idx (r.2.1 j).1 (r.2.1 j).2.1 (r.2.1 j).2.2.1 ∈ a_tbl) (hS' : S.set i (.inr (.inr (ci, fs.set j (.ref x)))) = S') (d : decode mi.1 pc = .ok (.putfield idx, 3))
    (K : JN mi n0 wF ck sk (pc + 3) L st S') : JN mi n0 wF ck sk pc L (.ref x :: .ref i :: st) S := by
  intro p l e s m args below meth c D kA ad A H locs ls ad0 X ha1 ha2 hl hP hD hS
  have hat := n_at (kA := kA) (ad := ad) he
  obtain ⟨hin, ⟨ty0, hty⟩, hnm⟩ := a_cls hc
  have fin : ∀ (H1 : Heap) (locs1 : List Loc), va_P D vwCl ((n_wl kA ad S).set i (ad i, .inr (ci, (fs.map (a_cv ad)).set j (.ref (ad x))))) H1 → va_D A ((n_wl kA ad S).set i (ad i, .inr (ci, (fs.map (a_cv ad)).set j (.ref (ad x))))) → va_S A s.heap H1 locs1 → W p l e mi.2.2.2.2 s m args below meth c H1 locs1 ck sk (MQ below (n_Q D kA ad0 A n0 wF) args s mi.2.2.2.2.cells mi.2.2.2.2.slots A) (F0 m (pc + 3) ls (st.map (a_cv ad))) := by
    intro H1 locs1 hP1 hD1 hS1
    have hset : (n_wl kA ad S).set i (ad i, .inr (ci, (fs.map (a_cv ad)).set j (.ref (ad x)))) = n_wl kA ad S' := n_set (e := .inr (.inr (ci, fs.set j (.ref x)))) (by show Sum.inr (ci, (fs.set j (.ref x)).map (a_cv ad)) = _; rw [List.map_set]; rfl) hS'
    rw [hset] at hP1 hD1
    exact K p l e s m args below meth c D kA ad A H1 locs1 ls ad0 X ha1 (by rw [← hS', List.length_set]; exact ha2) hl hP1 hD1 hS1
  by_cases hfin : (r.2.1 j).2.2.2 = true
  · exact va_putF (v := .ref (ad x)) (ty := ty) X.1 X.2.1 X.2.2.2.2.1 hin ty0 hty hnm X.2.2.2.1 X.2.2.2.2.2.2.2.1 hP hD hS i hat hc j hj (X.2.2.2.2.1 _ hw) (fun _ h9 => h9) hfin X.2.2.2.2.2.2.2.2.2.1 hdecl hd (hr _).1 (hr _).2 (by rw [List.length_map]; exact hl2) d fin
  · exact va_put (v := .ref (ad x)) (ty := ty) X.1 X.2.1 X.2.2.2.2.1 hin ty0 hty hnm X.2.2.2.1 X.2.2.2.2.2.2.2.1 hP hD hS i hat hc j hj (X.2.2.2.2.1 _ hw) (fun _ h9 => h9) (by simpa using hfin) hd (hr _).1 (hr _).2 (by rw [List.length_map]; exact hl2) d fin
theorem N_getr {i x ci j idx : Nat} {r : vw_C} {fs : List Value} (he : S[i]? = some (.inr (.inr (ci, fs)))) (hc : vwCl[ci]? = some r) (hj : j < r.2.2) (hv : fs[j]? = some (.ref x)) (hw : Cond.fieldLink mi.2.2.1 idx (r.2.1 j).1 (r.2.1 j).2.1 (r.2.1 j).2.2.1 ∈ a_tbl) (d : decode mi.1 pc = .ok (.getfield idx, 3))
    (K : JN mi n0 wF ck sk (pc + 3) L (.ref x :: st) S) : JN mi n0 wF ck sk pc L (.ref i :: st) S := by
  intro p l e s m args below meth c D kA ad A H locs ls ad0 X ha1 ha2 hl hP hD hS
  have hat := n_at (kA := kA) (ad := ad) he
  exact va_get (v := .ref (ad x)) X.1 X.2.1 X.2.2.2.2.1 (a_cls hc).1 X.2.2.2.1 X.2.2.2.2.2.2.2.1 hP i hat hc j hj (X.2.2.2.2.1 _ hw) (fun _ h9 => h9) (by rw [List.getElem?_map, hv]; rfl) d (K p l e s m args below meth c D kA ad A H locs ls ad0 X ha1 ha2 hl hP hD hS)
theorem N_aast {i x k ci jn : Nat} {j : Int32} {l0 : List (Option Nat)} {r : vw_C} {fs : List Value} (he : S[i]? = some (.inr (.inl (k, l0)))) (hk : ∀ kA : Nat → ClassId, (a_tys kA)[k]? = some (kA k, .object r.1)) (hx : S[x]? = some (.inr (.inr (ci, fs)))) (hc : vwCl[ci]? = some r) (hj : j.toNatClampNeg = jn) (hin : vp_in j l0.length) (hjl : jn < l0.length) (hS' : S.set i (.inr (.inl (k, l0.set jn (some x)))) = S') (d : decode mi.1 pc = .ok (.aastore, 1))
    (K : JN mi n0 wF ck sk (pc + 1) L st S') : JN mi n0 wF ck sk pc L (.ref x :: .int j :: .ref i :: st) S := by
  intro p l e s m args below meth c D kA ad A H locs ls ad0 X ha1 ha2 hl hP hD hS
  have hat := n_at (kA := kA) (ad := ad) he
  have hxt := n_at (kA := kA) (ad := ad) hx
  refine va_astq X.1 X.2.1 X.2.2.2.2.2.2.2.1 hP hD hS i k x ci hat (hk kA) hxt hc hin d ?_
  intro H1 locs1 hP1 hD1 hS1
  have hset : (n_wl kA ad S).set i (ad i, .inl (kA k, l0.length, .inr (.inr (.inr (.inr (va_up (fun j => (l0.getD j none).map ad) j.toNatClampNeg (some (ad x)))))))) = n_wl kA ad S' := n_set (e := .inr (.inl (k, l0.set jn (some x)))) (by
    show Sum.inl (kA k, (l0.set jn (some x)).length, _) = _
    rw [List.length_set, hj]
    congr 7
    funext q
    by_cases hq : q = jn
    · subst hq
      simp [va_up, List.getD_eq_getElem?_getD, List.getElem?_set, hjl]
    · have hq' : ¬ jn = q := fun z => hq z.symm
      simp [va_up, List.getD_eq_getElem?_getD, List.getElem?_set, hq, hq']) hS'
  rw [hset] at hP1 hD1
  exact K p l e s m args below meth c D kA ad A H1 locs1 ls ad0 X ha1 (by rw [← hS', List.length_set]; exact ha2) hl hP1 hD1 hS1
theorem N_vret (hr : mi.2.2.2.1 = none) (hck : ck = mi.2.2.2.2.cells) (hsk : sk = mi.2.2.2.2.slots) (hw : S = wF) (d : decode mi.1 pc = .ok (.return_, 1)) : JN mi n0 wF ck sk pc L [] S := by
  intro p l e s m args below meth cd D kA ad A H locs ls ad0 X ha1 ha2 hl hP hD hS
  subst hck; subst hsk; subst hw
  exact W.vret X.1 X.2.1 (X.2.2.2.2.2.1.trans hr) (fun t ht hW => ⟨⟨ad, ha1, rfl, by rw [ht]; exact hP, hD⟩, hS.F ht⟩) hS.2.2 d X.2.2.2.2.2.2.1
def n_Pc (D : va_G) (kA : Nat → ClassId) (ad : Nat → Nat) (sz : Nat) (S : List nE) (U : State) : Prop := U.heap.size = sz ∧ va_P D vwCl (n_wl kA ad S) U.heap ∧ va_K D vwCl (a_tys kA) U ∧ va_D (fun _ => True) (n_wl kA ad S) ∧ n_Nw U
/-- a constructor's contract: from the world S, at place b, to the world S' -/
def CtN (mi : aMi) (y : MethodName) (b : Nat) (S S' : List nE) : Prop := ∀ (l : Launch) (D : va_G) (kA : Nat → ClassId) (ad : Nat → Nat) (sz : Nat),
  Met l y (Cond.code y mi.1 mi.2.1 mi.2.2.2.1 :: a_tbl) mi.2.2.2.2 (va_Pc [.ref (ad b)] (n_Pc D kA ad sz S)) (n_Q D kA ad (va_A (n_wl kA ad S) sz) S.length S') mi.2.2.2.2.cells mi.2.2.2.2.slots (va_A (n_wl kA ad S) sz)
theorem CtN_of {b : Nat} (hy : plainName y.cls = true) (hown : mi.2.2.1 = y.cls) (hlen : 1 ≤ mi.2.1) (hname : y.name = "<init>") (h : JN mi S.length S' 0 0 0 [(0, .ref b)] [] S) : CtN mi y b S S' := by
  intro l D kA ad sz
  refine Met.ofW (cc := mi.1) (maxL := mi.2.1) (ret := mi.2.2.2.1) hy rfl ?_
  intro p e s m args below meth c s₁ B hml hv
  obtain ⟨rfl, hsz, hP, hK, hD0, hN⟩ := hv
  have hts := atoms_spec (ws := Cond.code y mi.1 mi.2.1 mi.2.2.2.1 :: a_tbl) B.pre
  have hown' : s.vm.findClass y.cls = some m.cls := findClass_of_methodNamed B.named
  have hin : meth.name = y.name := (name_of_methodNamed B.named B.method).1
  subst hsz
  have hl := lv_entry ([Value.ref (ad b)]) (n := mi.2.1) hlen
  rw [lg_entry_eq]
  generalize (lg_sl ([Value.ref (ad b)]) ++ List.replicate (mi.2.1 - (lg_sl ([Value.ref (ad b)])).length) Slot.unset).toArray = ls at hl ⊢
  exact h p l e s m _ below meth c D kA ad (va_A (n_wl kA ad S) s.heap.size) s.heap [] ls ad ⟨B.exec, B.bytes, hml, by rw [hown]; exact hown', fun w hw => hts w (List.mem_cons_of_mem _ hw), B.returns, B.notSynchronized, hK, fun q h => Or.inr h, hin.trans hname, hN⟩ (fun _ _ => rfl) (Nat.le_refl _) hl hP hD0.self va_S.rf
theorem n_go {p : Program} {l : Launch} {e : Env} {R : Room} {s : State} {m : MethodId} {args : Array Value} {below : List Frame} {meth : Method} {c : Code} {H : Heap} {locs : List Loc} {ck sk mc ms pc nn : Nat} {ls : Array Slot} {st0 rest' : List Value} {D : va_G} {kA : Nat → ClassId} {ad : Nat → Nat} {A A1 : Nat → Prop} {S' : List nE} {a : Array Value} {Q : State → Prop}
    (hr : va_Run p l e R s m args below meth c H locs ck sk mc ms (F0 m pc ls st0) rest' (n_Q D kA ad A1 nn S' a) A1) (hS : va_S A s.heap H locs) (hF : ∀ q, A1 q → A q)
    (kk : ∀ (ad' : Nat → Nat) (H1 : Heap) (locs1 : List Loc), (∀ i, i < nn → ad' i = ad i) → va_P D vwCl (n_wl kA ad' S') H1 → va_D A (n_wl kA ad' S') → va_S A s.heap H1 locs1 → W p l e R s m args below meth c H1 locs1 (ck + mc) (sk + ms) Q (F0 m (pc + 3) ls rest')) :
    W p l e R s m args below meth c H locs ck sk Q (F0 m pc ls st0) := by
  intro T hT X
  obtain ⟨v0, st₀, t, T', L, h0, X', hL, e1, e2, ⟨⟨ad', had, hv, hP', hD'⟩, hz, hk⟩, st⟩ := hr T hT X
  have hv' : v0 = none := by injection hv
  subst hv'
  rw [h0] at hz hk
  obtain ⟨t2, a1, b1⟩ := kk ad' T'.heap (locs ++ L) had (by rw [e1]; exact hP') (hD'.weaken (fun _ _ _ h => hF _ h))
    ⟨Nat.le_trans hS.1 (by rw [e1]; exact hz), fun q h1 h2 => by rw [e1, hk q (Nat.lt_of_lt_of_le h1 hS.1) (fun z => h2 (hF q z))]; exact hS.2.1 q h1 h2, fun q hq => by
      rcases List.mem_append.mp hq with h | h
      · exact hS.2.2 q h
      · exact hF _ (hL q h)⟩ T' rfl X'
  exact ⟨t2, st t2 a1, b1⟩
theorem n_blind (av : List Value) (D : va_G) (kA : Nat → ClassId) (ad : Nat → Nat) (sz : Nat) (S : List nE) : FrameBlind (va_Pc av (n_Pc D kA ad sz S)) := by
  intro a U g mk q
  obtain ⟨q0, q1, qP, qK, qD, qN⟩ := q
  exact ⟨q0, q1, qP, va_K.moved (u := U) (U := U.calling g mk a) (Vm.Alike.refl U.vm) qK, qD, qN.same (u := U) (U := U.calling g mk a) rfl⟩
theorem n_wA {kA : Nat → ClassId} {ad : Nat → Nat} {S : List nE} {A : Nat → Prop} {H0 H : Heap} {locs : List Loc} (hD : va_D A (n_wl kA ad S)) (hS : va_S A H0 H locs) (hA : ∀ q, H0.size ≤ q → A q) : ∀ q, va_A (n_wl kA ad S) H.size q → A q := by
  intro q h
  rcases h with ⟨k, e, h⟩ | h
  · exact hD.2 k (q, e) h
  · exact hA q (Nat.le_trans hS.1 h)
theorem n_pre {kA : Nat → ClassId} {ad : Nat → Nat} {S : List nE} {A : Nat → Prop} {D : va_G} {s : State} {H : Heap} (av : List Value) (hK : va_K D vwCl (a_tys kA) s) (hN : n_Nw s) (hP : va_P D vwCl (n_wl kA ad S) H) (hD : va_D A (n_wl kA ad S)) :
    ∀ U : State, U.heap = H → s.WarmedH U.vm → va_Pc av (n_Pc D kA ad H.size S) av.toArray U := fun U hU hW =>
  ⟨rfl, by rw [hU], by rw [hU]; exact hP, va_K.moved hW.alike hK, hD.weaken (fun _ _ _ _ => trivial), hN.warm hW⟩
theorem n_lcA {ad ad' : Nat → Nat} {n : Nat} (h : ∀ i, i < n → ad' i = ad i) {L : List (Nat × Value)} (hL : n_okL n L = true) : a_lc ad' L = a_lc ad L := by
  simp only [n_okL, List.all_eq_true] at hL
  refine List.map_congr_left (fun x hx => ?_)
  have := hL x hx
  obtain ⟨i, v⟩ := x
  cases v with
  | ref r =>
    have hr : r < n := by simpa [n_okV] using this
    show (i, Value.ref (ad' r)) = (i, Value.ref (ad r))
    rw [h r hr]
  | _ => rfl
theorem n_stA {ad ad' : Nat → Nat} {n : Nat} (h : ∀ i, i < n → ad' i = ad i) {st : List Value} (hL : st.all (n_okV n) = true) : st.map (a_cv ad') = st.map (a_cv ad) := by
  simp only [List.all_eq_true] at hL
  refine List.map_congr_left (fun v hv => ?_)
  have := hL v hv
  cases v with
  | ref r =>
    have hr : r < n := by simpa [n_okV] using this
    show Value.ref (ad' r) = Value.ref (ad r)
    rw [h r hr]
  | _ => rfl
theorem n_goodI {cw : Cond} (h : cw ∈ a_tbl) : GoodIn a_tbl (cw :: a_tbl) := a_goodS (w := cw) (fun x hx => by
  rcases List.mem_cons.mp hx with rfl | hx
  · exact h
  · exact hx)
theorem N_callN {b idx q : Nat} (hC : CtN mj y b S S') (hq : S.length = q) (hq2 : q ≤ S'.length) (hnw : ∀ U, n_Nw U → va_Nw (.methodLinkNest mi.2.2.1 idx y "CoastLights") U) (hcode : Cond.code y mj.1 mj.2.1 none ∈ a_tbl) (hrn : mj.2.2.2.1 = none) (hini : Cond.initialized y.cls ∈ a_tbl) (hy : y.name = "<init>") (hinst : Cond.instanceMethod y ∈ a_tbl) (hd : y.cls ≠ "java/lang/invoke/MethodHandle" ∧ y.cls ≠ "java/lang/invoke/VarHandle" ∧ (parseMethodDescriptor y.desc).map (fun d => d.parameters.length) = some 0)
    (hR : mj.2.2.2.2.frames + 1 ≤ mi.2.2.2.2.frames ∧ 8 + (mj.2.1 + 11) + mj.2.2.2.2.locals ≤ mi.2.2.2.2.locals) (hoL : n_okL q L = true) (hoS : st.all (n_okV q) = true) (hsum : (st.map fun v => v.category).sum ≤ 8) (hcs : ck + mj.2.2.2.2.cells ≤ mi.2.2.2.2.cells ∧ sk + mj.2.2.2.2.slots ≤ mi.2.2.2.2.slots) (d : decode mi.1 pc = .ok (.invokespecial idx, 3))
    (K : JN mi n0 wF (ck + mj.2.2.2.2.cells) (sk + mj.2.2.2.2.slots) (pc + 3) L st S') : JN mi n0 wF ck sk pc L (.ref b :: st) S := by
  intro p l e s m args below meth c D kA ad A H locs ls ad0 X ha1 ha2 hl hP hD hS
  obtain ⟨hx, hbc, hml, hown, hts, hrt, hlk, hKK, hA, hnm, hN⟩ := id X
  have hF := n_wA hD hS hA
  have hM := hC l D kA ad H.size
  rw [hrn] at hM
  subst hq
  refine n_go (va_runIN (As := []) (rest := st.map (a_cv ad)) (b := ad b) ⟨hx, hbc, hml, hown, hts⟩ hM ⟨va_cnB 0 hts (n_goodI hcode) rfl rfl rfl (hnw s hN) (hts _ hini) hd hR, hy, hts _ hinst⟩ ⟨n_blind _ _ _ _ _ _, n_pre _ hKK hN hP hD⟩ rfl rfl hl.1 rfl (lv_room (by rw [a_cats]; exact hsum)) d hcs) hS hF ?_
  intro ad' H1 locs1 h1 hP1 hD1 hS1
  rw [← n_stA h1 hoS]
  exact K p l e s m args below meth c D kA ad' A H1 locs1 ls ad0 X (fun i hi => (h1 i (by omega)).trans (ha1 i hi)) (by omega) (by rw [n_lcA h1 hoL]; exact hl) hP1 hD1 hS1
theorem N_callI {b idx q : Nat} (hC : CtN mj y b S S') (hq : S.length = q) (hq2 : q ≤ S'.length) (hlk0 : Cond.methodLink mi.2.2.1 idx y ∈ a_tbl) (hcode : Cond.code y mj.1 mj.2.1 none ∈ a_tbl) (hrn : mj.2.2.2.1 = none) (hini : Cond.initialized y.cls ∈ a_tbl) (hy : y.name = "<init>") (hinst : Cond.instanceMethod y ∈ a_tbl) (hd : y.cls ≠ "java/lang/invoke/MethodHandle" ∧ y.cls ≠ "java/lang/invoke/VarHandle" ∧ (parseMethodDescriptor y.desc).map (fun d => d.parameters.length) = some 0)
    (hR : mj.2.2.2.2.frames + 1 ≤ mi.2.2.2.2.frames ∧ 8 + (mj.2.1 + 11) + mj.2.2.2.2.locals ≤ mi.2.2.2.2.locals) (hoL : n_okL q L = true) (hoS : st.all (n_okV q) = true) (hsum : (st.map fun v => v.category).sum ≤ 8) (hcs : ck + mj.2.2.2.2.cells ≤ mi.2.2.2.2.cells ∧ sk + mj.2.2.2.2.slots ≤ mi.2.2.2.2.slots) (d : decode mi.1 pc = .ok (.invokespecial idx, 3))
    (K : JN mi n0 wF (ck + mj.2.2.2.2.cells) (sk + mj.2.2.2.2.slots) (pc + 3) L st S') : JN mi n0 wF ck sk pc L (.ref b :: st) S := by
  intro p l e s m args below meth c D kA ad A H locs ls ad0 X ha1 ha2 hl hP hD hS
  obtain ⟨hx, hbc, hml, hown, hts, hrt, hlk, hKK, hA, hnm, hN⟩ := id X
  have hF := n_wA hD hS hA
  have hM := hC l D kA ad H.size
  rw [hrn] at hM
  subst hq
  refine n_go (va_runI (As := []) (rest := st.map (a_cv ad)) (b := ad b) ⟨hx, hbc, hml, hown, hts⟩ hM (cwI 0 hts (n_goodI hcode) rfl rfl rfl (hts _ hini) (hts _ hlk0) (hts _ hinst) hy hd hR) ⟨n_blind _ _ _ _ _ _, n_pre _ hKK hN hP hD⟩ rfl rfl hl.1 rfl (lv_room (by rw [a_cats]; exact hsum)) d hcs) hS hF ?_
  intro ad' H1 locs1 h1 hP1 hD1 hS1
  rw [← n_stA h1 hoS]
  exact K p l e s m args below meth c D kA ad' A H1 locs1 ls ad0 X (fun i hi => (h1 i (by omega)).trans (ha1 i hi)) (by omega) (by rw [n_lcA h1 hoL]; exact hl) hP1 hD1 hS1
end NM


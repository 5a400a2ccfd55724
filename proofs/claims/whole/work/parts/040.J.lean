/-- the tables' words that hold at a call, too -/
def a_tbl : List Cond := lw_tbl.filter goodWord
theorem a_tbl_of {w : Cond} (h : w ∈ lw_tbl) (g : goodWord w = true) : w ∈ a_tbl := List.mem_filter.mpr ⟨h, g⟩
theorem a_tbl_in {w : Cond} (h : w ∈ a_tbl) : w ∈ lw_tbl := (List.mem_filter.mp h).1
theorem a_good {w : Cond} (h : w ∈ a_tbl) : goodWord w = true := (List.mem_filter.mp h).2
/-! THE FLAT WORLD: every cell of the class's object graph (0 .. 93) and of the reference's (94 .. 103) has a fixed number; a state is what the cells hold. -/
abbrev aMm : Type := Nat → Nat → Int32
abbrev aSc : Type := aMm × (Nat → Nat → Int64) × (Nat → Nat)
abbrev aSt : Type := aSc × aMm
abbrev aRw : Type := (Nat → Int32) × (Nat → Int64) × Nat
def a_row (S : aSt) (c : Nat) : aRw := if c < 94 then (S.1.1 c, S.1.2.1 c, S.1.2.2 c) else (S.2 (c - 94), fun _ => 0, 0)
theorem a_rowC {C : aSc} {M : aMm} {c : Nat} (h : c < 94) : a_row (C, M) c = (C.1 c, C.2.1 c, C.2.2 c) := by simp [a_row, h]
theorem a_rowM {C : aSc} {M : aMm} (m : Nat) : a_row (C, M) (94 + m) = (M m, fun _ => 0, 0) := by
  have h : ¬ 94 + m < 94 := by omega
  simp [a_row, h]
/-- kinds: 0 .. 8 objects of the class of that number in vwCl; 10 int[], 11 long[], 12 boolean[], 13 Light[], 14 Sheet[], 15 Step[] -/
def a_kd (c : Nat) : Nat :=
  if c < 24 then ([7, 5, 10, 13, 10, 10, 10, 6, 10, 10, 10, 10, 12, 10, 0, 10, 10, 10, 10, 10, 12, 14, 2, 15] : List Nat).getD c 99
  else if c < 54 then (if c % 3 = 0 then 1 else if c % 3 = 1 then 11 else 10)
  else if c < 62 then (if c % 2 = 0 then 3 else 10)
  else if c < 94 then (if c % 2 = 0 then 4 else 10)
  else if c = 94 then 8 else if c < 104 then 10 else 99
def a_len (c n : Nat) : Nat :=
  if c < 24 then (if c = 18 ∨ c = 19 then n else ([0, 0, 40, 10, 8, 12, 12, 0, 20, 20, 20, 20, 20, 20, 0, 20, 10, 10, 0, 0, 256, 4, 0, 16] : List Nat).getD c 0)
  else if c < 54 then (if c % 3 = 1 then 30 else 4)
  else if c < 62 then 30
  else if c < 94 then 20
  else ([0, 386, 6176, 40, 4, 4, 120, 12, 21504, 30] : List Nat).getD (c - 94) 0
/-- the slots of an object: 0 an int, 1 a long, 2 the next cell, 3 the one behind that, 10 + q cell q -/
def a_ft (k : Nat) : List Nat := match k with
  | 0 => [0, 25, 26, 0, 27, 0, 28, 29]
  | 1 => [0, 0, 0, 0, 0, 1, 2, 3, 0, 0, 0, 0]
  | 2 => [33, 0, 0]
  | 3 => [0, 0, 2]
  | 4 => [0, 0, 0, 2]
  | 5 => [12, 0, 0, 0, 0, 0, 0, 0, 0]
  | 6 => [0, 18, 19, 20, 21, 22]
  | 7 => [11, 13, 0, 0, 0, 14, 0, 15, 0, 16, 17, 23, 24, 0, 30, 0, 31, 32, 0]
  | 8 => [105, 106, 0, 0, 107, 0, 108, 109, 110, 0, 0, 0, 0, 0, 0, 0, 111, 112, 113]
  | _ => []
def a_tg (t c : Nat) : Nat := if t = 2 then c + 1 else if t = 3 then c + 2 else t - 10
def a_fv (ad : Nat → Nat) (c : Nat) (r : aRw) (j t : Nat) : Value := if t = 0 then .int (r.1 j) else if t = 1 then .long (r.2.1 j) else .ref (ad (a_tg t c))
def a_fs (k : Nat) (ad : Nat → Nat) (c : Nat) (r : aRw) : List Value := (a_ft k).mapIdx (a_fv ad c r)
theorem a_fs_at {k c j t : Nat} {ad : Nat → Nat} {r : aRw} (h : (a_ft k)[j]? = some t) : (a_fs k ad c r)[j]? = some (a_fv ad c r j t) := by
  simp [a_fs, List.getElem?_mapIdx, h]
theorem a_fs_len {k c : Nat} {ad : Nat → Nat} {r : aRw} : (a_fs k ad c r).length = (a_ft k).length := by simp [a_fs]
theorem a_fs_seti {k c j : Nat} {ad : Nat → Nat} {r : aRw} {v : Int32} (h : (a_ft k)[j]? = some 0) : (a_fs k ad c r).set j (.int v) = a_fs k ad c (upd r.1 j v, r.2) := by
  apply List.ext_getElem?
  intro i
  rw [List.getElem?_set]
  by_cases hi : j = i
  · subst hi
    have hl : j < (a_ft k).length := (List.getElem?_eq_some_iff.mp h).1
    rw [if_pos rfl, a_fs_len, if_pos hl, a_fs_at h]
    simp [a_fv, upd]
  · rw [if_neg hi]
    cases ht : (a_ft k)[i]? with
    | none => simp [a_fs, List.getElem?_mapIdx, ht]
    | some t =>
      rw [a_fs_at ht, a_fs_at ht]
      have hne : ¬ i = j := fun q => hi q.symm
      simp [a_fv, upd, hne]
theorem a_fs_setl {k c j : Nat} {ad : Nat → Nat} {r : aRw} {v : Int64} (h : (a_ft k)[j]? = some 1) : (a_fs k ad c r).set j (.long v) = a_fs k ad c (r.1, vp_updL r.2.1 j v, r.2.2) := by
  apply List.ext_getElem?
  intro i
  rw [List.getElem?_set]
  by_cases hi : j = i
  · subst hi
    have hl : j < (a_ft k).length := (List.getElem?_eq_some_iff.mp h).1
    rw [if_pos rfl, a_fs_len, if_pos hl, a_fs_at h]
    simp [a_fv, vp_updL]
  · rw [if_neg hi]
    cases ht : (a_ft k)[i]? with
    | none => simp [a_fs, List.getElem?_mapIdx, ht]
    | some t =>
      rw [a_fs_at ht, a_fs_at ht]
      have hne : ¬ i = j := fun q => hi q.symm
      simp [a_fv, vp_updL, hne]
def a_mk (kA : Nat → ClassId) (ad : Nat → Nat) (c : Nat) (r : aRw) : va_E := match a_kd c with
  | 10 => .inl (kA 0, a_len c r.2.2, .inl r.1)
  | 11 => .inl (kA 1, a_len c r.2.2, .inr (.inl r.2.1))
  | 12 => .inl (kA 2, a_len c r.2.2, .inl r.1)
  | 13 => .inl (kA 3, 10, .inr (.inr (.inr (.inr (fun j => some (ad (24 + 3 * j)))))))
  | 14 => .inl (kA 4, 4, .inr (.inr (.inr (.inr (fun j => some (ad (54 + 2 * j)))))))
  | 15 => .inl (kA 5, 16, .inr (.inr (.inr (.inr (fun j => some (ad (62 + 2 * j)))))))
  | k => .inr (k, a_fs k ad c r)
theorem a_mk_o {kA : Nat → ClassId} {ad : Nat → Nat} {c k : Nat} {r : aRw} (h : a_kd c = k) (hk : k < 9) : a_mk kA ad c r = .inr (k, a_fs k ad c r) := by
  unfold a_mk
  rw [h]
  match k, hk with
  | 0, _ => rfl
  | 1, _ => rfl
  | 2, _ => rfl
  | 3, _ => rfl
  | 4, _ => rfl
  | 5, _ => rfl
  | 6, _ => rfl
  | 7, _ => rfl
  | 8, _ => rfl
theorem a_mk_i {kA : Nat → ClassId} {ad : Nat → Nat} {c : Nat} {r : aRw} (h : a_kd c = 10) : a_mk kA ad c r = .inl (kA 0, a_len c r.2.2, .inl r.1) := by unfold a_mk; rw [h]; rfl
theorem a_mk_l {kA : Nat → ClassId} {ad : Nat → Nat} {c : Nat} {r : aRw} (h : a_kd c = 11) : a_mk kA ad c r = .inl (kA 1, a_len c r.2.2, .inr (.inl r.2.1)) := by unfold a_mk; rw [h]; rfl
theorem a_mk_z {kA : Nat → ClassId} {ad : Nat → Nat} {c : Nat} {r : aRw} (h : a_kd c = 12) : a_mk kA ad c r = .inl (kA 2, a_len c r.2.2, .inl r.1) := by unfold a_mk; rw [h]; rfl
def a_tys (kA : Nat → ClassId) : List (ClassId × FieldType) := [(kA 0, .int), (kA 1, .long), (kA 2, .boolean), (kA 3, .object RX1), (kA 4, .object RX3), (kA 5, .object RX4)]
def a_wl (kA : Nat → ClassId) (ad : Nat → Nat) (S : aSt) : va_W := (List.range 104).map (fun c => (ad c, a_mk kA ad c (a_row S c)))
theorem a_wl_at {kA : Nat → ClassId} {ad : Nat → Nat} {S : aSt} {c : Nat} (h : c < 104) : (a_wl kA ad S)[c]? = some (ad c, a_mk kA ad c (a_row S c)) := by
  simp [a_wl, List.getElem?_map, List.getElem?_range h]
theorem a_wl_set {kA : Nat → ClassId} {ad : Nat → Nat} {S S' : aSt} {c : Nat} {x : va_E} (hx : x = a_mk kA ad c (a_row S' c)) (ho : ∀ q, q ≠ c → a_row S' q = a_row S q) : (a_wl kA ad S).set c (ad c, x) = a_wl kA ad S' := by
  apply List.ext_getElem?
  intro i
  rw [List.getElem?_set]
  have hlen : (a_wl kA ad S).length = 104 := by simp [a_wl]
  by_cases hi : c = i
  · subst hi
    rw [if_pos rfl, hlen]
    by_cases hc : c < 104
    · rw [if_pos hc, a_wl_at hc, hx]
    · rw [if_neg hc]
      have : (a_wl kA ad S').length = 104 := by simp [a_wl]
      exact (List.getElem?_eq_none (by omega)).symm
  · rw [if_neg hi]
    by_cases hc : i < 104
    · rw [a_wl_at hc, a_wl_at hc, ho i (fun q => hi q.symm)]
    · have h1 : (a_wl kA ad S).length = 104 := by simp [a_wl]
      have h2 : (a_wl kA ad S').length = 104 := by simp [a_wl]
      rw [List.getElem?_eq_none (by omega), List.getElem?_eq_none (by omega)]
theorem a_wl_mem {kA : Nat → ClassId} {ad : Nat → Nat} {S : aSt} {k : Nat} {q : Nat × va_E} (h : (a_wl kA ad S)[k]? = some q) : k < 104 ∧ q = (ad k, a_mk kA ad k (a_row S k)) := by
  have hl : (a_wl kA ad S).length = 104 := by simp [a_wl]
  have hk : k < 104 := by have := (List.getElem?_eq_some_iff.mp h).1; omega
  rw [a_wl_at hk] at h
  exact ⟨hk, (Option.some.inj h).symm⟩
/-- an abstract value: a reference is a cell's number -/
def a_cv (ad : Nat → Nat) (v : Value) : Value := match v with
  | .ref i => .ref (ad i)
  | v => v
theorem a_cv_cat (ad : Nat → Nat) (v : Value) : (a_cv ad v).category = v.category := by cases v <;> rfl
def a_lc (ad : Nat → Nat) (L : List (Nat × Value)) : List (Nat × Value) := L.map (fun q => (q.1, a_cv ad q.2))
def a_f1 (i : Nat) (L : List (Nat × Value)) : List (Nat × Value) := L.filter (fun q => !(q.1 == i) && !(q.1 + 1 == i && q.2.category == 2))
def a_f2 (i : Nat) (L : List (Nat × Value)) : List (Nat × Value) := L.filter (fun q => !(q.1 == i) && (!(q.1 == i + 1) && !(q.1 + 1 == i && q.2.category == 2)))
theorem a_lc_f1 (ad : Nat → Nat) (i : Nat) (L : List (Nat × Value)) : (a_lc ad L).filter (fun q => !(q.1 == i) && !(q.1 + 1 == i && q.2.category == 2)) = a_lc ad (a_f1 i L) := by
  induction L with
  | nil => rfl
  | cons a L ih =>
    show List.filter _ ((a.1, a_cv ad a.2) :: a_lc ad L) = a_lc ad (a_f1 i (a :: L))
    unfold a_f1
    rw [List.filter_cons, List.filter_cons, ih]
    simp only [a_cv_cat]
    by_cases hc : (!(a.1 == i) && !(a.1 + 1 == i && a.2.category == 2)) = true
    · rw [if_pos hc, if_pos hc]; rfl
    · rw [if_neg hc, if_neg hc]; rfl
theorem a_lc_f2 (ad : Nat → Nat) (i : Nat) (L : List (Nat × Value)) : (a_lc ad L).filter (fun q => !(q.1 == i) && (!(q.1 == i + 1) && !(q.1 + 1 == i && q.2.category == 2))) = a_lc ad (a_f2 i L) := by
  induction L with
  | nil => rfl
  | cons a L ih =>
    show List.filter _ ((a.1, a_cv ad a.2) :: a_lc ad L) = a_lc ad (a_f2 i (a :: L))
    unfold a_f2
    rw [List.filter_cons, List.filter_cons, ih]
    simp only [a_cv_cat]
    by_cases hc : (!(a.1 == i) && (!(a.1 == i + 1) && !(a.1 + 1 == i && a.2.category == 2))) = true
    · rw [if_pos hc, if_pos hc]; rfl
    · rw [if_neg hc, if_neg hc]; rfl
theorem a_lc_at {ad : Nat → Nat} {L : List (Nat × Value)} {ls : Array Slot} {nL j i : Nat} {v : Value} (hl : lv_has ls nL (a_lc ad L)) (h : L[j]? = some (i, v)) : ls[i]? = some (.val (a_cv ad v)) :=
  lv_at hl j (by simp [a_lc, List.getElem?_map, h])
/-- the static tables: cells 200, 201, 202 -/
def a_tK (j : Nat) : Int32 := ([-1, 0, 0, 1] : List Int32).getD j 0
def a_tX (j : Nat) : Int32 := ([0, 1, 1, 2, 1, 2, 1, 1] : List Int32).getD j 0
def a_tY (j : Nat) : Int32 := ([1, 2, 1, 1, 0, -1, -1, -2] : List Int32).getD j 0
def a_tn (c : Nat) : String := if c = 200 then "KIND_OVER" else if c = 201 then "STEP_X" else "STEP_Y"
def a_tl (c : Nat) : Nat := if c = 200 then 4 else 8
def a_tv (c j : Nat) : Int32 := if c = 200 then a_tK j else if c = 201 then a_tX j else a_tY j
def a_Sx (ad : Nat → Nat) (A : Nat → Prop) (U : State) (H : Heap) : Prop := ∀ c, 200 ≤ c → c ≤ 202 → va_Z "CoastLights" (a_tn c) "[I" (.ref (ad c)) A U H ∧ va_T .int (ad c) (a_tl c) (fun j => .int (a_tv c j)) A U H
theorem a_Sx.moved {ad : Nat → Nat} {A : Nat → Prop} {u U : State} {H : Heap} (hvm : u.vm.Alike U.vm) (h : a_Sx ad A u H) : a_Sx ad A U H := fun c h1 h2 => ⟨(h c h1 h2).1.moved hvm, (h c h1 h2).2.moved hvm⟩
theorem a_Sx.kept {ad : Nat → Nat} {A : Nat → Prop} {U : State} {H H1 : Heap} (h : a_Sx ad A U H) (hq : ∀ a : Nat, a < H.size → ¬ A a → H1[a]? = H[a]?) : a_Sx ad A U H1 := fun c h1 h2 => ⟨(h c h1 h2).1.kept hq, (h c h1 h2).2.kept hq⟩
theorem a_Sx.narrow {ad : Nat → Nat} {A B : Nat → Prop} {U : State} {H : Heap} (h : a_Sx ad A U H) (hAB : ∀ q, B q → A q) : a_Sx ad B U H := fun c h1 h2 => ⟨(h c h1 h2).1.narrow hAB, (h c h1 h2).2.narrow hAB⟩
/-- a method: its code, locals, class, answer's type, room, cells and slots that it makes -/
abbrev aMi : Type := ByteArray × Nat × String × Option FieldType × Room
def a_Cx (mi : aMi) (D : va_G) (kA : Nat → ClassId) (ad : Nat → Nat) (A : Nat → Prop) (p : Program) (s : State) (m : MethodId) (args : Array Value) (meth : Method) (c : Code) : Prop :=
  p.tables.exec = Jvm.exec ∧ c.code = mi.1 ∧ c.maxLocals = mi.2.1 ∧ s.vm.findClass mi.2.2.1 = some m.cls ∧ (∀ w ∈ a_tbl, w.before args s = true) ∧ meth.sig.returnType = mi.2.2.2.1 ∧ meth.locks = false ∧ va_K D vwCl (a_tys kA) s ∧ (∀ q, s.heap.size ≤ q → A q) ∧ a_Sx ad A s s.heap
abbrev aRes : Type := Option Value × aSt
/-- what a method ends with: its answer, its state; the addresses are the same, but for the cells 18, 19, if it makes any -/
def a_Q (D : va_G) (kA : Nat → ClassId) (ad : Nat → Nat) (A : Nat → Prop) (mc : Nat) (res : aRes) : Array Value → State → Outcome → State → Prop := fun _ st oc t =>
  (∃ ad' : Nat → Nat, (∀ c, ¬ (c = 18 ∨ c = 19) → ad' c = ad c) ∧ (mc = 0 → ad' = ad) ∧ oc = .returned (res.1.map (a_cv ad')) ∧ va_P D vwCl (a_wl kA ad' res.2) t.heap ∧ va_D A (a_wl kA ad' res.2)) ∧ va_F A st t
/-- THE JUDGEMENT: from this point of a method's body it ends with 'res' -/
def J (mi : aMi) (res : aRes) (ck sk : Nat) (pc : Nat) (L : List (Nat × Value)) (st : List Value) (S : aSt) : Prop :=
  ∀ (p : Program) (l : Launch) (e : Env) (s : State) (m : MethodId) (args : Array Value) (below : List Frame) (meth : Method) (c : Code) (D : va_G) (kA : Nat → ClassId) (ad : Nat → Nat) (A : Nat → Prop) (H : Heap) (locs : List Loc) (ls : Array Slot) (ad0 : Nat → Nat),
    a_Cx mi D kA ad A p s m args meth c → (∀ c, ¬ (c = 18 ∨ c = 19) → ad c = ad0 c) → (mi.2.2.2.2.cells = 0 → ad = ad0) → lv_has ls mi.2.1 (a_lc ad L) → va_P D vwCl (a_wl kA ad S) H → va_D A (a_wl kA ad S) → va_S A s.heap H locs →
    W p l e mi.2.2.2.2 s m args below meth c H locs ck sk (MQ below (a_Q D kA ad0 A mi.2.2.2.2.cells res) args s mi.2.2.2.2.cells mi.2.2.2.2.slots A) (F0 m pc ls (st.map (a_cv ad)))
/-- the pure operations -/
def a_gi (C : aSc) (c j : Nat) : Int32 := C.1 c j
def a_gl (C : aSc) (c j : Nat) : Int64 := C.2.1 c j
def a_up (f : aMm) (c j : Nat) (v : Int32) : aMm := fun q => if q = c then upd (f c) j v else f q
def a_upl (f : Nat → Nat → Int64) (c j : Nat) (v : Int64) : Nat → Nat → Int64 := fun q => if q = c then vp_updL (f c) j v else f q
def a_pi (C : aSc) (c j : Nat) (v : Int32) : aSc := (a_up C.1 c j v, C.2)
def a_pl (C : aSc) (c j : Nat) (v : Int64) : aSc := (C.1, a_upl C.2.1 c j v, C.2.2)
def a_ix (i : Int32) (n : Nat) : Prop := 0 ≤ i.toInt ∧ i.toInt < (n : Int)
def a_ln (C : aSc) (c : Nat) : Nat := a_len c (C.2.2 c)
def a_ld (C : aSc) (c : Nat) (i : Int32) : Option Int32 := if 0 ≤ i.toInt ∧ i.toInt < (a_len c (C.2.2 c) : Int) then some (C.1 c i.toNatClampNeg) else none
def a_ldl (C : aSc) (c : Nat) (i : Int32) : Option Int64 := if 0 ≤ i.toInt ∧ i.toInt < (a_len c (C.2.2 c) : Int) then some (C.2.1 c i.toNatClampNeg) else none
def a_st (C : aSc) (c : Nat) (i v : Int32) : Option aSc := if 0 ≤ i.toInt ∧ i.toInt < (a_len c (C.2.2 c) : Int) then some (a_pi C c i.toNatClampNeg v) else none
def a_stl (C : aSc) (c : Nat) (i : Int32) (v : Int64) : Option aSc := if 0 ≤ i.toInt ∧ i.toInt < (a_len c (C.2.2 c) : Int) then some (a_pl C c i.toNatClampNeg v) else none
def a_rf (b k n : Nat) (i : Int32) : Option Nat := if 0 ≤ i.toInt ∧ i.toInt < (n : Int) then some (b + k * i.toNatClampNeg) else none
def a_tb (c : Nat) (i : Int32) : Option Int32 := if 0 ≤ i.toInt ∧ i.toInt < (a_tl c : Int) then some (a_tv c i.toNatClampNeg) else none
def m_gi (M : aMm) (m j : Nat) : Int32 := M m j
def m_pi (M : aMm) (m j : Nat) (v : Int32) : aMm := a_up M m j v
def m_ld (M : aMm) (m : Nat) (i : Int32) : Option Int32 := if 0 ≤ i.toInt ∧ i.toInt < (a_len (94 + m) 0 : Int) then some (M m i.toNatClampNeg) else none
def m_st (M : aMm) (m : Nat) (i v : Int32) : Option aMm := if 0 ≤ i.toInt ∧ i.toInt < (a_len (94 + m) 0 : Int) then some (m_pi M m i.toNatClampNeg v) else none
def a_max (x y : Int32) : Int32 := if x < y then y else x
def a_min (x y : Int32) : Int32 := if y < x then y else x
theorem a_row_pi {C : aSc} {M : aMm} {c j : Nat} {v : Int32} (hc : c < 94) : a_row (a_pi C c j v, M) c = (upd (C.1 c) j v, C.2.1 c, C.2.2 c) := by simp [a_row, hc, a_pi, a_up]
theorem a_row_pi_ne {C : aSc} {M : aMm} {c j q : Nat} {v : Int32} (h : q ≠ c) : a_row (a_pi C c j v, M) q = a_row (C, M) q := by simp [a_row, a_pi, a_up, h]
theorem a_row_pl {C : aSc} {M : aMm} {c j : Nat} {v : Int64} (hc : c < 94) : a_row (a_pl C c j v, M) c = (C.1 c, vp_updL (C.2.1 c) j v, C.2.2 c) := by simp [a_row, hc, a_pl, a_upl]
theorem a_row_pl_ne {C : aSc} {M : aMm} {c j q : Nat} {v : Int64} (h : q ≠ c) : a_row (a_pl C c j v, M) q = a_row (C, M) q := by simp [a_row, a_pl, a_upl, h]
theorem a_row_pm {C : aSc} {M : aMm} {m j : Nat} {v : Int32} : a_row (C, m_pi M m j v) (94 + m) = (upd (M m) j v, fun _ => 0, 0) := by rw [a_rowM]; simp [m_pi, a_up]
theorem a_row_pm_ne {C : aSc} {M : aMm} {m j q : Nat} {v : Int32} (h : q ≠ 94 + m) : a_row (C, m_pi M m j v) q = a_row (C, M) q := by
  by_cases hq : q < 94
  · simp [a_row, hq]
  · have : q - 94 ≠ m := by omega
    simp [a_row, hq, m_pi, a_up, this]
theorem a_lt {c k : Nat} (h : a_kd c = k) (hk : k < 99) : c < 104 := by
  unfold a_kd at h
  by_cases h1 : c < 104
  · exact h1
  · exfalso
    have : ¬ c < 24 ∧ ¬ c < 54 ∧ ¬ c < 62 ∧ ¬ c < 94 ∧ ¬ c = 94 := by omega
    simp [this, h1] at h
    omega
/-- steps of the pure side -/
theorem br_p {α : Type} {c : Prop} [Decidable c] {a b r : α} (hc : c) (h : (if c then a else b) = r) : a = r := by rw [if_pos hc] at h; exact h
theorem br_n {α : Type} {c : Prop} [Decidable c] {a b r : α} (hc : ¬ c) (h : (if c then a else b) = r) : b = r := by rw [if_neg hc] at h; exact h
theorem br_b {α β : Type} {o : Option α} {f : α → Option β} {r : β} (h : o.bind f = some r) : ∃ x, o = some x ∧ f x = some r := by
  cases o with
  | none => cases h
  | some x => exact ⟨x, rfl, h⟩
theorem br_s {α β : Type} {o : α} {f : α → Option β} {r : β} (h : (some o).bind f = some r) : ∃ x, o = x ∧ f x = some r := ⟨o, rfl, h⟩
theorem br_g {α : Type} {c : Prop} [Decidable c] {a : Option α} {r : α} (h : (if c then a else none) = some r) : c ∧ a = some r := by
  by_cases hc : c
  · rw [if_pos hc] at h; exact ⟨hc, h⟩
  · rw [if_neg hc] at h; cases h
theorem br_l {α β γ : Type} {f : α → γ} {g : β → γ} {a : α} {r : γ} (h : Sum.elim f g (.inl a) = r) : f a = r := h
theorem br_r {α β γ : Type} {f : α → γ} {g : β → γ} {a : β} {r : γ} (h : Sum.elim f g (.inr a) = r) : g a = r := h
/-- a loop: a body that goes on with .inl or ends with .inr -/
def lpf {α β : Type} (body : α → Option (α ⊕ β)) : Nat → α → Option β
  | 0, _ => none
  | n + 1, a => (body a).bind (Sum.elim (lpf body n) some)
theorem lpf_s {α β : Type} {body : α → Option (α ⊕ β)} {n : Nat} {a : α} {b : β} (h : lpf body (n + 1) a = some b) : (∃ a', body a = some (.inl a') ∧ lpf body n a' = some b) ∨ body a = some (.inr b) := by
  obtain ⟨x, h1, h2⟩ := br_b (show (body a).bind (Sum.elim (lpf body n) some) = some b from h)
  cases x with
  | inl a' => exact Or.inl ⟨a', h1, h2⟩
  | inr b' =>
    have : some b' = some b := h2
    cases this
    exact Or.inr h1
def FU : Nat := 100000

theorem J_iconst {mi : aMi} {res : aRes} {ck sk pc : Nat} {L : List (Nat × Value)} {st : List Value} {S : aSt} {n : Int} (v : Int32) (d : decode mi.1 pc = .ok (.iconst n, 1)) (hv : Int32.ofInt n = v) (K : J mi res ck sk (pc + 1) L (.int v :: st) S) : J mi res ck sk pc L (st) S := by
  intro p l e s m args below meth c D kA ad A H locs ls ad0 X ha1 ha2 hl hP hD hS
  exact lv_iconst X.1 X.2.1 d hv (K p l e s m args below meth c D kA ad A H locs ls ad0 X ha1 ha2 hl hP hD hS)

theorem J_bipush {mi : aMi} {res : aRes} {ck sk pc : Nat} {L : List (Nat × Value)} {st : List Value} {S : aSt} {n : Int} (v : Int32) (d : decode mi.1 pc = .ok (.bipush n, 2)) (hv : (Int8.ofInt n).toInt32 = v) (K : J mi res ck sk (pc + 2) L (.int v :: st) S) : J mi res ck sk pc L (st) S := by
  intro p l e s m args below meth c D kA ad A H locs ls ad0 X ha1 ha2 hl hP hD hS
  exact lv_bipush X.1 X.2.1 d hv (K p l e s m args below meth c D kA ad A H locs ls ad0 X ha1 ha2 hl hP hD hS)

theorem J_sipush {mi : aMi} {res : aRes} {ck sk pc : Nat} {L : List (Nat × Value)} {st : List Value} {S : aSt} {n : Int} (v : Int32) (d : decode mi.1 pc = .ok (.sipush n, 3)) (hv : (Int16.ofInt n).toInt32 = v) (K : J mi res ck sk (pc + 3) L (.int v :: st) S) : J mi res ck sk pc L (st) S := by
  intro p l e s m args below meth c D kA ad A H locs ls ad0 X ha1 ha2 hl hP hD hS
  exact lv_sipush X.1 X.2.1 d hv (K p l e s m args below meth c D kA ad A H locs ls ad0 X ha1 ha2 hl hP hD hS)

theorem J_lconst {mi : aMi} {res : aRes} {ck sk pc : Nat} {L : List (Nat × Value)} {st : List Value} {S : aSt} {n : Fin 2} (v : Int64) (d : decode mi.1 pc = .ok (.lconst n, 1)) (hv : Int64.ofNat (n : Nat) = v) (K : J mi res ck sk (pc + 1) L (.long v :: st) S) : J mi res ck sk pc L (st) S := by
  intro p l e s m args below meth c D kA ad A H locs ls ad0 X ha1 ha2 hl hP hD hS
  exact lv_lconst X.1 X.2.1 d hv (K p l e s m args below meth c D kA ad A H locs ls ad0 X ha1 ha2 hl hP hD hS)

theorem J_ldc {mi : aMi} {res : aRes} {ck sk pc : Nat} {L : List (Nat × Value)} {st : List Value} {S : aSt} {index : Nat} (v : Int32) (d : decode mi.1 pc = .ok (.ldc index, 2)) (hw : Cond.constant mi.2.2.1 index v ∈ a_tbl) (K : J mi res ck sk (pc + 2) L (.int v :: st) S) : J mi res ck sk pc L (st) S := by
  intro p l e s m args below meth c D kA ad A H locs ls ad0 X ha1 ha2 hl hP hD hS
  exact lv_ldc X.1 X.2.1 X.2.2.2.1 (X.2.2.2.2.1 _ hw) d (K p l e s m args below meth c D kA ad A H locs ls ad0 X ha1 ha2 hl hP hD hS)

theorem J_ldcw {mi : aMi} {res : aRes} {ck sk pc : Nat} {L : List (Nat × Value)} {st : List Value} {S : aSt} {index : Nat} (v : Int32) (d : decode mi.1 pc = .ok (.ldc_w index, 3)) (hw : Cond.constant mi.2.2.1 index v ∈ a_tbl) (K : J mi res ck sk (pc + 3) L (.int v :: st) S) : J mi res ck sk pc L (st) S := by
  intro p l e s m args below meth c D kA ad A H locs ls ad0 X ha1 ha2 hl hP hD hS
  exact lv_ldcw X.1 X.2.1 X.2.2.2.1 (X.2.2.2.2.1 _ hw) d (K p l e s m args below meth c D kA ad A H locs ls ad0 X ha1 ha2 hl hP hD hS)

theorem J_ldc2 {mi : aMi} {res : aRes} {ck sk pc : Nat} {L : List (Nat × Value)} {st : List Value} {S : aSt} {index : Nat} (v : Int64) (d : decode mi.1 pc = .ok (.ldc2_w index, 3)) (hw : Cond.constantLong mi.2.2.1 index v ∈ a_tbl) (K : J mi res ck sk (pc + 3) L (.long v :: st) S) : J mi res ck sk pc L (st) S := by
  intro p l e s m args below meth c D kA ad A H locs ls ad0 X ha1 ha2 hl hP hD hS
  exact lv_ldc2 X.1 X.2.1 X.2.2.2.1 (X.2.2.2.2.1 _ hw) d (K p l e s m args below meth c D kA ad A H locs ls ad0 X ha1 ha2 hl hP hD hS)

theorem J_null {mi : aMi} {res : aRes} {ck sk pc : Nat} {L : List (Nat × Value)} {st : List Value} {S : aSt} (d : decode mi.1 pc = .ok (.aconst_null, 1)) (K : J mi res ck sk (pc + 1) L (.null :: st) S) : J mi res ck sk pc L (st) S := by
  intro p l e s m args below meth c D kA ad A H locs ls ad0 X ha1 ha2 hl hP hD hS
  exact lv_null X.1 X.2.1 d (K p l e s m args below meth c D kA ad A H locs ls ad0 X ha1 ha2 hl hP hD hS)

theorem J_iload_n {mi : aMi} {res : aRes} {ck sk pc : Nat} {L : List (Nat × Value)} {st : List Value} {S : aSt} {k : Fin 4} {i : Nat} {x : Int32} (d : decode mi.1 pc = .ok (.iload_n k, 1)) (hi : (k : Nat) = i) (j : Nat) (hL : L[j]? = some (i, .int x)) (K : J mi res ck sk (pc + 1) L (.int x :: st) S) : J mi res ck sk pc L (st) S := by
  intro p l e s m args below meth c D kA ad A H locs ls ad0 X ha1 ha2 hl hP hD hS
  exact lv_iload_n X.1 X.2.1 d hi (a_lc_at hl hL) (K p l e s m args below meth c D kA ad A H locs ls ad0 X ha1 ha2 hl hP hD hS)

theorem J_iload {mi : aMi} {res : aRes} {ck sk pc : Nat} {L : List (Nat × Value)} {st : List Value} {S : aSt} {i : Nat} {x : Int32} (d : decode mi.1 pc = .ok (.iload i, 2)) (j : Nat) (hL : L[j]? = some (i, .int x)) (K : J mi res ck sk (pc + 2) L (.int x :: st) S) : J mi res ck sk pc L (st) S := by
  intro p l e s m args below meth c D kA ad A H locs ls ad0 X ha1 ha2 hl hP hD hS
  exact lv_iload X.1 X.2.1 d (a_lc_at hl hL) (K p l e s m args below meth c D kA ad A H locs ls ad0 X ha1 ha2 hl hP hD hS)

theorem J_istore_n {mi : aMi} {res : aRes} {ck sk pc : Nat} {L : List (Nat × Value)} {st : List Value} {S : aSt} {k : Fin 4} {i : Nat} {x : Int32} {L' : List (Nat × Value)} (d : decode mi.1 pc = .ok (.istore_n k, 1)) (hi : (k : Nat) = i) (hn : i < mi.2.1) (hL : (i, Value.int x) :: a_f1 i L = L') (K : J mi res ck sk (pc + 1) L' (st) S) : J mi res ck sk pc L (.int x :: st) S := by
  intro p l e s m args below meth c D kA ad A H locs ls ad0 X ha1 ha2 hl hP hD hS
  exact lv_istore_n (lv' := a_lc ad L') X.1 X.2.1 d hi hl hn (by rw [a_lc_f1, ← hL]; rfl) (fun ls hl => K p l e s m args below meth c D kA ad A H locs ls ad0 X ha1 ha2 hl hP hD hS)

theorem J_istore {mi : aMi} {res : aRes} {ck sk pc : Nat} {L : List (Nat × Value)} {st : List Value} {S : aSt} {i : Nat} {x : Int32} {L' : List (Nat × Value)} (d : decode mi.1 pc = .ok (.istore i, 2)) (hn : i < mi.2.1) (hL : (i, Value.int x) :: a_f1 i L = L') (K : J mi res ck sk (pc + 2) L' (st) S) : J mi res ck sk pc L (.int x :: st) S := by
  intro p l e s m args below meth c D kA ad A H locs ls ad0 X ha1 ha2 hl hP hD hS
  exact lv_istore (lv' := a_lc ad L') X.1 X.2.1 d hl hn (by rw [a_lc_f1, ← hL]; rfl) (fun ls hl => K p l e s m args below meth c D kA ad A H locs ls ad0 X ha1 ha2 hl hP hD hS)

theorem J_lload_n {mi : aMi} {res : aRes} {ck sk pc : Nat} {L : List (Nat × Value)} {st : List Value} {S : aSt} {k : Fin 4} {i : Nat} {x : Int64} (d : decode mi.1 pc = .ok (.lload_n k, 1)) (hi : (k : Nat) = i) (j : Nat) (hL : L[j]? = some (i, .long x)) (K : J mi res ck sk (pc + 1) L (.long x :: st) S) : J mi res ck sk pc L (st) S := by
  intro p l e s m args below meth c D kA ad A H locs ls ad0 X ha1 ha2 hl hP hD hS
  exact lv_lload_n X.1 X.2.1 d hi (a_lc_at hl hL) (K p l e s m args below meth c D kA ad A H locs ls ad0 X ha1 ha2 hl hP hD hS)

theorem J_lload {mi : aMi} {res : aRes} {ck sk pc : Nat} {L : List (Nat × Value)} {st : List Value} {S : aSt} {i : Nat} {x : Int64} (d : decode mi.1 pc = .ok (.lload i, 2)) (j : Nat) (hL : L[j]? = some (i, .long x)) (K : J mi res ck sk (pc + 2) L (.long x :: st) S) : J mi res ck sk pc L (st) S := by
  intro p l e s m args below meth c D kA ad A H locs ls ad0 X ha1 ha2 hl hP hD hS
  exact lv_lload X.1 X.2.1 d (a_lc_at hl hL) (K p l e s m args below meth c D kA ad A H locs ls ad0 X ha1 ha2 hl hP hD hS)

theorem J_lstore_n {mi : aMi} {res : aRes} {ck sk pc : Nat} {L : List (Nat × Value)} {st : List Value} {S : aSt} {k : Fin 4} {i : Nat} {x : Int64} {L' : List (Nat × Value)} (d : decode mi.1 pc = .ok (.lstore_n k, 1)) (hi : (k : Nat) = i) (hn : i + 1 < mi.2.1) (hL : (i, Value.long x) :: a_f2 i L = L') (K : J mi res ck sk (pc + 1) L' (st) S) : J mi res ck sk pc L (.long x :: st) S := by
  intro p l e s m args below meth c D kA ad A H locs ls ad0 X ha1 ha2 hl hP hD hS
  exact lv_lstore_n (lv' := a_lc ad L') X.1 X.2.1 d hi hl hn (by rw [a_lc_f2, ← hL]; rfl) (fun ls hl => K p l e s m args below meth c D kA ad A H locs ls ad0 X ha1 ha2 hl hP hD hS)

theorem J_lstore {mi : aMi} {res : aRes} {ck sk pc : Nat} {L : List (Nat × Value)} {st : List Value} {S : aSt} {i : Nat} {x : Int64} {L' : List (Nat × Value)} (d : decode mi.1 pc = .ok (.lstore i, 2)) (hn : i + 1 < mi.2.1) (hL : (i, Value.long x) :: a_f2 i L = L') (K : J mi res ck sk (pc + 2) L' (st) S) : J mi res ck sk pc L (.long x :: st) S := by
  intro p l e s m args below meth c D kA ad A H locs ls ad0 X ha1 ha2 hl hP hD hS
  exact lv_lstore (lv' := a_lc ad L') X.1 X.2.1 d hl hn (by rw [a_lc_f2, ← hL]; rfl) (fun ls hl => K p l e s m args below meth c D kA ad A H locs ls ad0 X ha1 ha2 hl hP hD hS)

theorem J_aload_n {mi : aMi} {res : aRes} {ck sk pc : Nat} {L : List (Nat × Value)} {st : List Value} {S : aSt} {k : Fin 4} {i : Nat} {x : Nat} (d : decode mi.1 pc = .ok (.aload_n k, 1)) (hi : (k : Nat) = i) (j : Nat) (hL : L[j]? = some (i, .ref x)) (K : J mi res ck sk (pc + 1) L (.ref x :: st) S) : J mi res ck sk pc L (st) S := by
  intro p l e s m args below meth c D kA ad A H locs ls ad0 X ha1 ha2 hl hP hD hS
  exact lv_aload_n X.1 X.2.1 d hi (a_lc_at hl hL) (K p l e s m args below meth c D kA ad A H locs ls ad0 X ha1 ha2 hl hP hD hS)

theorem J_aload {mi : aMi} {res : aRes} {ck sk pc : Nat} {L : List (Nat × Value)} {st : List Value} {S : aSt} {i : Nat} {x : Nat} (d : decode mi.1 pc = .ok (.aload i, 2)) (j : Nat) (hL : L[j]? = some (i, .ref x)) (K : J mi res ck sk (pc + 2) L (.ref x :: st) S) : J mi res ck sk pc L (st) S := by
  intro p l e s m args below meth c D kA ad A H locs ls ad0 X ha1 ha2 hl hP hD hS
  exact lv_aload X.1 X.2.1 d (a_lc_at hl hL) (K p l e s m args below meth c D kA ad A H locs ls ad0 X ha1 ha2 hl hP hD hS)

theorem J_astore_n {mi : aMi} {res : aRes} {ck sk pc : Nat} {L : List (Nat × Value)} {st : List Value} {S : aSt} {k : Fin 4} {i : Nat} {x : Nat} {L' : List (Nat × Value)} (d : decode mi.1 pc = .ok (.astore_n k, 1)) (hi : (k : Nat) = i) (hn : i < mi.2.1) (hL : (i, Value.ref x) :: a_f1 i L = L') (K : J mi res ck sk (pc + 1) L' (st) S) : J mi res ck sk pc L (.ref x :: st) S := by
  intro p l e s m args below meth c D kA ad A H locs ls ad0 X ha1 ha2 hl hP hD hS
  exact lv_astore_n (lv' := a_lc ad L') X.1 X.2.1 d hi hl hn (by rw [a_lc_f1, ← hL]; rfl) (fun ls hl => K p l e s m args below meth c D kA ad A H locs ls ad0 X ha1 ha2 hl hP hD hS)

theorem J_astore {mi : aMi} {res : aRes} {ck sk pc : Nat} {L : List (Nat × Value)} {st : List Value} {S : aSt} {i : Nat} {x : Nat} {L' : List (Nat × Value)} (d : decode mi.1 pc = .ok (.astore i, 2)) (hn : i < mi.2.1) (hL : (i, Value.ref x) :: a_f1 i L = L') (K : J mi res ck sk (pc + 2) L' (st) S) : J mi res ck sk pc L (.ref x :: st) S := by
  intro p l e s m args below meth c D kA ad A H locs ls ad0 X ha1 ha2 hl hP hD hS
  exact lv_astore (lv' := a_lc ad L') X.1 X.2.1 d hl hn (by rw [a_lc_f1, ← hL]; rfl) (fun ls hl => K p l e s m args below meth c D kA ad A H locs ls ad0 X ha1 ha2 hl hP hD hS)

theorem J_astoreN_n {mi : aMi} {res : aRes} {ck sk pc : Nat} {L : List (Nat × Value)} {st : List Value} {S : aSt} {k : Fin 4} {i : Nat} {L' : List (Nat × Value)} (d : decode mi.1 pc = .ok (.astore_n k, 1)) (hi : (k : Nat) = i) (hn : i < mi.2.1) (hL : (i, Value.null) :: a_f1 i L = L') (K : J mi res ck sk (pc + 1) L' (st) S) : J mi res ck sk pc L (.null :: st) S := by
  intro p l e s m args below meth c D kA ad A H locs ls ad0 X ha1 ha2 hl hP hD hS
  exact lv_astore_nN (lv' := a_lc ad L') X.1 X.2.1 d hi hl hn (by rw [a_lc_f1, ← hL]; rfl) (fun ls hl => K p l e s m args below meth c D kA ad A H locs ls ad0 X ha1 ha2 hl hP hD hS)

theorem J_aloadN_n {mi : aMi} {res : aRes} {ck sk pc : Nat} {L : List (Nat × Value)} {st : List Value} {S : aSt} {k : Fin 4} {i : Nat} (d : decode mi.1 pc = .ok (.aload_n k, 1)) (hi : (k : Nat) = i) (j : Nat) (hL : L[j]? = some (i, .null)) (K : J mi res ck sk (pc + 1) L (.null :: st) S) : J mi res ck sk pc L (st) S := by
  intro p l e s m args below meth c D kA ad A H locs ls ad0 X ha1 ha2 hl hP hD hS
  exact lv_aload_nN X.1 X.2.1 d hi (a_lc_at hl hL) (K p l e s m args below meth c D kA ad A H locs ls ad0 X ha1 ha2 hl hP hD hS)

theorem J_iinc {mi : aMi} {res : aRes} {ck sk pc : Nat} {L : List (Nat × Value)} {st : List Value} {S : aSt} {i j : Nat} {n : Int} {x v : Int32} {L' : List (Nat × Value)} (d : decode mi.1 pc = .ok (.iinc i n, 3)) (hj : L[j]? = some (i, .int x)) (hv : x + Int32.ofInt n = v) (hn : i < mi.2.1) (hL : (i, Value.int v) :: a_f1 i L = L') (K : J mi res ck sk (pc + 3) L' (st) S) : J mi res ck sk pc L (st) S := by
  intro p l e s m args below meth c D kA ad A H locs ls ad0 X ha1 ha2 hl hP hD hS
  exact lv_iinc (lv' := a_lc ad L') (k := j) X.1 X.2.1 d hl (by simp [a_lc, List.getElem?_map, hj, a_cv]) hv hn (by rw [a_lc_f1, ← hL]; rfl) (fun ls hl => K p l e s m args below meth c D kA ad A H locs ls ad0 X ha1 ha2 hl hP hD hS)

theorem J_iadd {mi : aMi} {res : aRes} {ck sk pc : Nat} {L : List (Nat × Value)} {st : List Value} {S : aSt} {x y : Int32} (d : decode mi.1 pc = .ok (.iadd, 1)) (K : J mi res ck sk (pc + 1) L (.int (x + y) :: st) S) : J mi res ck sk pc L (.int y :: .int x :: st) S := by
  intro p l e s m args below meth c D kA ad A H locs ls ad0 X ha1 ha2 hl hP hD hS
  exact lv_iadd X.1 X.2.1 d (K p l e s m args below meth c D kA ad A H locs ls ad0 X ha1 ha2 hl hP hD hS)

theorem J_isub {mi : aMi} {res : aRes} {ck sk pc : Nat} {L : List (Nat × Value)} {st : List Value} {S : aSt} {x y : Int32} (d : decode mi.1 pc = .ok (.isub, 1)) (K : J mi res ck sk (pc + 1) L (.int (x - y) :: st) S) : J mi res ck sk pc L (.int y :: .int x :: st) S := by
  intro p l e s m args below meth c D kA ad A H locs ls ad0 X ha1 ha2 hl hP hD hS
  exact lv_isub X.1 X.2.1 d (K p l e s m args below meth c D kA ad A H locs ls ad0 X ha1 ha2 hl hP hD hS)

theorem J_imul {mi : aMi} {res : aRes} {ck sk pc : Nat} {L : List (Nat × Value)} {st : List Value} {S : aSt} {x y : Int32} (d : decode mi.1 pc = .ok (.imul, 1)) (K : J mi res ck sk (pc + 1) L (.int (x * y) :: st) S) : J mi res ck sk pc L (.int y :: .int x :: st) S := by
  intro p l e s m args below meth c D kA ad A H locs ls ad0 X ha1 ha2 hl hP hD hS
  exact lv_imul X.1 X.2.1 d (K p l e s m args below meth c D kA ad A H locs ls ad0 X ha1 ha2 hl hP hD hS)

theorem J_iand {mi : aMi} {res : aRes} {ck sk pc : Nat} {L : List (Nat × Value)} {st : List Value} {S : aSt} {x y : Int32} (d : decode mi.1 pc = .ok (.iand, 1)) (K : J mi res ck sk (pc + 1) L (.int (x &&& y) :: st) S) : J mi res ck sk pc L (.int y :: .int x :: st) S := by
  intro p l e s m args below meth c D kA ad A H locs ls ad0 X ha1 ha2 hl hP hD hS
  exact lv_iand X.1 X.2.1 d (K p l e s m args below meth c D kA ad A H locs ls ad0 X ha1 ha2 hl hP hD hS)

theorem J_ior {mi : aMi} {res : aRes} {ck sk pc : Nat} {L : List (Nat × Value)} {st : List Value} {S : aSt} {x y : Int32} (d : decode mi.1 pc = .ok (.ior, 1)) (K : J mi res ck sk (pc + 1) L (.int (x ||| y) :: st) S) : J mi res ck sk pc L (.int y :: .int x :: st) S := by
  intro p l e s m args below meth c D kA ad A H locs ls ad0 X ha1 ha2 hl hP hD hS
  exact lv_ior X.1 X.2.1 d (K p l e s m args below meth c D kA ad A H locs ls ad0 X ha1 ha2 hl hP hD hS)

theorem J_ixor {mi : aMi} {res : aRes} {ck sk pc : Nat} {L : List (Nat × Value)} {st : List Value} {S : aSt} {x y : Int32} (d : decode mi.1 pc = .ok (.ixor, 1)) (K : J mi res ck sk (pc + 1) L (.int (x ^^^ y) :: st) S) : J mi res ck sk pc L (.int y :: .int x :: st) S := by
  intro p l e s m args below meth c D kA ad A H locs ls ad0 X ha1 ha2 hl hP hD hS
  exact lv_ixor X.1 X.2.1 d (K p l e s m args below meth c D kA ad A H locs ls ad0 X ha1 ha2 hl hP hD hS)

theorem J_ishl {mi : aMi} {res : aRes} {ck sk pc : Nat} {L : List (Nat × Value)} {st : List Value} {S : aSt} {x y : Int32} (d : decode mi.1 pc = .ok (.ishl, 1)) (K : J mi res ck sk (pc + 1) L (.int (x <<< (y &&& 31)) :: st) S) : J mi res ck sk pc L (.int y :: .int x :: st) S := by
  intro p l e s m args below meth c D kA ad A H locs ls ad0 X ha1 ha2 hl hP hD hS
  exact lv_ishl X.1 X.2.1 d (K p l e s m args below meth c D kA ad A H locs ls ad0 X ha1 ha2 hl hP hD hS)

theorem J_ishr {mi : aMi} {res : aRes} {ck sk pc : Nat} {L : List (Nat × Value)} {st : List Value} {S : aSt} {x y : Int32} (d : decode mi.1 pc = .ok (.ishr, 1)) (K : J mi res ck sk (pc + 1) L (.int (x >>> (y &&& 31)) :: st) S) : J mi res ck sk pc L (.int y :: .int x :: st) S := by
  intro p l e s m args below meth c D kA ad A H locs ls ad0 X ha1 ha2 hl hP hD hS
  exact lv_ishr X.1 X.2.1 d (K p l e s m args below meth c D kA ad A H locs ls ad0 X ha1 ha2 hl hP hD hS)

theorem J_idiv {mi : aMi} {res : aRes} {ck sk pc : Nat} {L : List (Nat × Value)} {st : List Value} {S : aSt} {x y : Int32} (d : decode mi.1 pc = .ok (.idiv, 1)) (hne : ¬ y = 0) (K : J mi res ck sk (pc + 1) L (.int (x / y) :: st) S) : J mi res ck sk pc L (.int y :: .int x :: st) S := by
  intro p l e s m args below meth c D kA ad A H locs ls ad0 X ha1 ha2 hl hP hD hS
  exact lv_idiv X.1 X.2.1 d hne (K p l e s m args below meth c D kA ad A H locs ls ad0 X ha1 ha2 hl hP hD hS)

theorem J_irem {mi : aMi} {res : aRes} {ck sk pc : Nat} {L : List (Nat × Value)} {st : List Value} {S : aSt} {x y : Int32} (d : decode mi.1 pc = .ok (.irem, 1)) (hne : ¬ y = 0) (K : J mi res ck sk (pc + 1) L (.int (x - x / y * y) :: st) S) : J mi res ck sk pc L (.int y :: .int x :: st) S := by
  intro p l e s m args below meth c D kA ad A H locs ls ad0 X ha1 ha2 hl hP hD hS
  exact lv_irem X.1 X.2.1 d hne (K p l e s m args below meth c D kA ad A H locs ls ad0 X ha1 ha2 hl hP hD hS)

theorem J_ineg {mi : aMi} {res : aRes} {ck sk pc : Nat} {L : List (Nat × Value)} {st : List Value} {S : aSt} {x : Int32} (d : decode mi.1 pc = .ok (.ineg, 1)) (K : J mi res ck sk (pc + 1) L (.int (-x) :: st) S) : J mi res ck sk pc L (.int x :: st) S := by
  intro p l e s m args below meth c D kA ad A H locs ls ad0 X ha1 ha2 hl hP hD hS
  exact lv_ineg X.1 X.2.1 d (K p l e s m args below meth c D kA ad A H locs ls ad0 X ha1 ha2 hl hP hD hS)

theorem J_iushr {mi : aMi} {res : aRes} {ck sk pc : Nat} {L : List (Nat × Value)} {st : List Value} {S : aSt} {x y : Int32} (d : decode mi.1 pc = .ok (.iushr, 1)) (K : J mi res ck sk (pc + 1) L (.int (x.toUInt32 >>> (y.toUInt32 &&& Int32.toUInt32 31)).toInt32 :: st) S) : J mi res ck sk pc L (.int y :: .int x :: st) S := by
  intro p l e s m args below meth c D kA ad A H locs ls ad0 X ha1 ha2 hl hP hD hS
  exact lv_iushr X.1 X.2.1 d rfl (K p l e s m args below meth c D kA ad A H locs ls ad0 X ha1 ha2 hl hP hD hS)

theorem J_ladd {mi : aMi} {res : aRes} {ck sk pc : Nat} {L : List (Nat × Value)} {st : List Value} {S : aSt} {x y : Int64} (d : decode mi.1 pc = .ok (.ladd, 1)) (K : J mi res ck sk (pc + 1) L (.long (x + y) :: st) S) : J mi res ck sk pc L (.long y :: .long x :: st) S := by
  intro p l e s m args below meth c D kA ad A H locs ls ad0 X ha1 ha2 hl hP hD hS
  exact lv_ladd X.1 X.2.1 d (K p l e s m args below meth c D kA ad A H locs ls ad0 X ha1 ha2 hl hP hD hS)

theorem J_lsub {mi : aMi} {res : aRes} {ck sk pc : Nat} {L : List (Nat × Value)} {st : List Value} {S : aSt} {x y : Int64} (d : decode mi.1 pc = .ok (.lsub, 1)) (K : J mi res ck sk (pc + 1) L (.long (x - y) :: st) S) : J mi res ck sk pc L (.long y :: .long x :: st) S := by
  intro p l e s m args below meth c D kA ad A H locs ls ad0 X ha1 ha2 hl hP hD hS
  exact lv_lsub X.1 X.2.1 d (K p l e s m args below meth c D kA ad A H locs ls ad0 X ha1 ha2 hl hP hD hS)

theorem J_land {mi : aMi} {res : aRes} {ck sk pc : Nat} {L : List (Nat × Value)} {st : List Value} {S : aSt} {x y : Int64} (d : decode mi.1 pc = .ok (.land, 1)) (K : J mi res ck sk (pc + 1) L (.long (x &&& y) :: st) S) : J mi res ck sk pc L (.long y :: .long x :: st) S := by
  intro p l e s m args below meth c D kA ad A H locs ls ad0 X ha1 ha2 hl hP hD hS
  exact lv_land X.1 X.2.1 d (K p l e s m args below meth c D kA ad A H locs ls ad0 X ha1 ha2 hl hP hD hS)

theorem J_lor {mi : aMi} {res : aRes} {ck sk pc : Nat} {L : List (Nat × Value)} {st : List Value} {S : aSt} {x y : Int64} (d : decode mi.1 pc = .ok (.lor, 1)) (K : J mi res ck sk (pc + 1) L (.long (x ||| y) :: st) S) : J mi res ck sk pc L (.long y :: .long x :: st) S := by
  intro p l e s m args below meth c D kA ad A H locs ls ad0 X ha1 ha2 hl hP hD hS
  exact lv_lor X.1 X.2.1 d (K p l e s m args below meth c D kA ad A H locs ls ad0 X ha1 ha2 hl hP hD hS)

theorem J_lxor {mi : aMi} {res : aRes} {ck sk pc : Nat} {L : List (Nat × Value)} {st : List Value} {S : aSt} {x y : Int64} (d : decode mi.1 pc = .ok (.lxor, 1)) (K : J mi res ck sk (pc + 1) L (.long (x ^^^ y) :: st) S) : J mi res ck sk pc L (.long y :: .long x :: st) S := by
  intro p l e s m args below meth c D kA ad A H locs ls ad0 X ha1 ha2 hl hP hD hS
  exact lv_lxor X.1 X.2.1 d (K p l e s m args below meth c D kA ad A H locs ls ad0 X ha1 ha2 hl hP hD hS)

theorem J_lneg {mi : aMi} {res : aRes} {ck sk pc : Nat} {L : List (Nat × Value)} {st : List Value} {S : aSt} {x : Int64} (d : decode mi.1 pc = .ok (.lneg, 1)) (K : J mi res ck sk (pc + 1) L (.long (-x) :: st) S) : J mi res ck sk pc L (.long x :: st) S := by
  intro p l e s m args below meth c D kA ad A H locs ls ad0 X ha1 ha2 hl hP hD hS
  exact lv_lneg X.1 X.2.1 d (K p l e s m args below meth c D kA ad A H locs ls ad0 X ha1 ha2 hl hP hD hS)

theorem J_lushr {mi : aMi} {res : aRes} {ck sk pc : Nat} {L : List (Nat × Value)} {st : List Value} {S : aSt} {x : Int64} {y : Int32} (d : decode mi.1 pc = .ok (.lushr, 1)) (K : J mi res ck sk (pc + 1) L (.long (x.toUInt64 >>> (y.toInt64.toUInt64 &&& Int64.toUInt64 63)).toInt64 :: st) S) : J mi res ck sk pc L (.int y :: .long x :: st) S := by
  intro p l e s m args below meth c D kA ad A H locs ls ad0 X ha1 ha2 hl hP hD hS
  exact lv_lushr X.1 X.2.1 d rfl (K p l e s m args below meth c D kA ad A H locs ls ad0 X ha1 ha2 hl hP hD hS)

theorem J_lshl {mi : aMi} {res : aRes} {ck sk pc : Nat} {L : List (Nat × Value)} {st : List Value} {S : aSt} {x : Int64} {y : Int32} (d : decode mi.1 pc = .ok (.lshl, 1)) (K : J mi res ck sk (pc + 1) L (.long (x <<< (y.toInt64 &&& 63)) :: st) S) : J mi res ck sk pc L (.int y :: .long x :: st) S := by
  intro p l e s m args below meth c D kA ad A H locs ls ad0 X ha1 ha2 hl hP hD hS
  exact lv_lshl X.1 X.2.1 d rfl (K p l e s m args below meth c D kA ad A H locs ls ad0 X ha1 ha2 hl hP hD hS)

theorem J_lshr {mi : aMi} {res : aRes} {ck sk pc : Nat} {L : List (Nat × Value)} {st : List Value} {S : aSt} {x : Int64} {y : Int32} (d : decode mi.1 pc = .ok (.lshr, 1)) (K : J mi res ck sk (pc + 1) L (.long (x >>> (y.toInt64 &&& 63)) :: st) S) : J mi res ck sk pc L (.int y :: .long x :: st) S := by
  intro p l e s m args below meth c D kA ad A H locs ls ad0 X ha1 ha2 hl hP hD hS
  exact lv_lshr X.1 X.2.1 d rfl (K p l e s m args below meth c D kA ad A H locs ls ad0 X ha1 ha2 hl hP hD hS)

theorem J_lcmp {mi : aMi} {res : aRes} {ck sk pc : Nat} {L : List (Nat × Value)} {st : List Value} {S : aSt} {x y : Int64} (d : decode mi.1 pc = .ok (.lcmp, 1)) (K : J mi res ck sk (pc + 1) L (.int (lg_cmp x y) :: st) S) : J mi res ck sk pc L (.long y :: .long x :: st) S := by
  intro p l e s m args below meth c D kA ad A H locs ls ad0 X ha1 ha2 hl hP hD hS
  exact W.lcmp X.1 X.2.1 d (K p l e s m args below meth c D kA ad A H locs ls ad0 X ha1 ha2 hl hP hD hS)

theorem J_i2l {mi : aMi} {res : aRes} {ck sk pc : Nat} {L : List (Nat × Value)} {st : List Value} {S : aSt} {x : Int32} (d : decode mi.1 pc = .ok (.i2l, 1)) (K : J mi res ck sk (pc + 1) L (.long x.toInt64 :: st) S) : J mi res ck sk pc L (.int x :: st) S := by
  intro p l e s m args below meth c D kA ad A H locs ls ad0 X ha1 ha2 hl hP hD hS
  exact lv_i2l X.1 X.2.1 d rfl (K p l e s m args below meth c D kA ad A H locs ls ad0 X ha1 ha2 hl hP hD hS)

theorem J_l2i {mi : aMi} {res : aRes} {ck sk pc : Nat} {L : List (Nat × Value)} {st : List Value} {S : aSt} {x : Int64} (d : decode mi.1 pc = .ok (.l2i, 1)) (K : J mi res ck sk (pc + 1) L (.int x.toInt32 :: st) S) : J mi res ck sk pc L (.long x :: st) S := by
  intro p l e s m args below meth c D kA ad A H locs ls ad0 X ha1 ha2 hl hP hD hS
  exact lv_l2i X.1 X.2.1 d rfl (K p l e s m args below meth c D kA ad A H locs ls ad0 X ha1 ha2 hl hP hD hS)

theorem J_i2b {mi : aMi} {res : aRes} {ck sk pc : Nat} {L : List (Nat × Value)} {st : List Value} {S : aSt} {x : Int32} (d : decode mi.1 pc = .ok (.i2b, 1)) (K : J mi res ck sk (pc + 1) L (.int x.toInt8.toInt32 :: st) S) : J mi res ck sk pc L (.int x :: st) S := by
  intro p l e s m args below meth c D kA ad A H locs ls ad0 X ha1 ha2 hl hP hD hS
  exact lv_i2b X.1 X.2.1 d rfl (K p l e s m args below meth c D kA ad A H locs ls ad0 X ha1 ha2 hl hP hD hS)

theorem J_i2s {mi : aMi} {res : aRes} {ck sk pc : Nat} {L : List (Nat × Value)} {st : List Value} {S : aSt} {x : Int32} (d : decode mi.1 pc = .ok (.i2s, 1)) (K : J mi res ck sk (pc + 1) L (.int x.toInt16.toInt32 :: st) S) : J mi res ck sk pc L (.int x :: st) S := by
  intro p l e s m args below meth c D kA ad A H locs ls ad0 X ha1 ha2 hl hP hD hS
  exact lv_i2s X.1 X.2.1 d rfl (K p l e s m args below meth c D kA ad A H locs ls ad0 X ha1 ha2 hl hP hD hS)

theorem J_dup {mi : aMi} {res : aRes} {ck sk pc : Nat} {L : List (Nat × Value)} {st : List Value} {S : aSt} {v : Value} (d : decode mi.1 pc = .ok (.dup, 1)) (hv : v.category = 1) (K : J mi res ck sk (pc + 1) L (v :: v :: st) S) : J mi res ck sk pc L (v :: st) S := by
  intro p l e s m args below meth c D kA ad A H locs ls ad0 X ha1 ha2 hl hP hD hS
  exact lv_dup X.1 X.2.1 d ((a_cv_cat ad v).trans hv) (K p l e s m args below meth c D kA ad A H locs ls ad0 X ha1 ha2 hl hP hD hS)

theorem J_pop {mi : aMi} {res : aRes} {ck sk pc : Nat} {L : List (Nat × Value)} {st : List Value} {S : aSt} {v : Value} (d : decode mi.1 pc = .ok (.pop, 1)) (hv : v.category = 1) (K : J mi res ck sk (pc + 1) L (st) S) : J mi res ck sk pc L (v :: st) S := by
  intro p l e s m args below meth c D kA ad A H locs ls ad0 X ha1 ha2 hl hP hD hS
  exact lv_pop X.1 X.2.1 d ((a_cv_cat ad v).trans hv) (K p l e s m args below meth c D kA ad A H locs ls ad0 X ha1 ha2 hl hP hD hS)

theorem J_dup2 {mi : aMi} {res : aRes} {ck sk pc : Nat} {L : List (Nat × Value)} {st : List Value} {S : aSt} {v u : Value} (d : decode mi.1 pc = .ok (.dup2, 1)) (hv : v.category = 1) (hu : u.category = 1) (K : J mi res ck sk (pc + 1) L (v :: u :: v :: u :: st) S) : J mi res ck sk pc L (v :: u :: st) S := by
  intro p l e s m args below meth c D kA ad A H locs ls ad0 X ha1 ha2 hl hP hD hS
  exact lv_dup2_11 X.1 X.2.1 d ((a_cv_cat ad v).trans hv) ((a_cv_cat ad u).trans hu) (K p l e s m args below meth c D kA ad A H locs ls ad0 X ha1 ha2 hl hP hD hS)

-- COND IF eq : x = 0 | ¬ x = 0
theorem J_if_eq {mi : aMi} {res : aRes} {ck sk pc : Nat} {L : List (Nat × Value)} {st : List Value} {S : aSt} {x : Int32} {off : Int} (tgt : Nat) (d : decode mi.1 pc = .ok (.ifCond .eq off, 3)) (ht : (pc : Int) + off = (tgt : Int)) (Kt : x = 0 → J mi res ck sk tgt L st S) (Kf : ¬ x = 0 → J mi res ck sk (pc + 3) L st S) : J mi res ck sk pc L (.int x :: st) S := by
  intro p l e s m args below meth c D kA ad A H locs ls ad0 X ha1 ha2 hl hP hD hS
  exact lv_if_eq X.1 X.2.1 d ht (fun h => Kt h p l e s m args below meth c D kA ad A H locs ls ad0 X ha1 ha2 hl hP hD hS) (fun h => Kf h p l e s m args below meth c D kA ad A H locs ls ad0 X ha1 ha2 hl hP hD hS)

-- COND ICMP eq : x = y | ¬ x = y
theorem J_icmp_eq {mi : aMi} {res : aRes} {ck sk pc : Nat} {L : List (Nat × Value)} {st : List Value} {S : aSt} {x y : Int32} {off : Int} (tgt : Nat) (d : decode mi.1 pc = .ok (.if_icmp .eq off, 3)) (ht : (pc : Int) + off = (tgt : Int)) (Kt : x = y → J mi res ck sk tgt L st S) (Kf : ¬ x = y → J mi res ck sk (pc + 3) L st S) : J mi res ck sk pc L (.int y :: .int x :: st) S := by
  intro p l e s m args below meth c D kA ad A H locs ls ad0 X ha1 ha2 hl hP hD hS
  exact lv_icmp_eq X.1 X.2.1 d ht (fun h => Kt h p l e s m args below meth c D kA ad A H locs ls ad0 X ha1 ha2 hl hP hD hS) (fun h => Kf h p l e s m args below meth c D kA ad A H locs ls ad0 X ha1 ha2 hl hP hD hS)

-- COND IF ne : ¬ x = 0 | x = 0
theorem J_if_ne {mi : aMi} {res : aRes} {ck sk pc : Nat} {L : List (Nat × Value)} {st : List Value} {S : aSt} {x : Int32} {off : Int} (tgt : Nat) (d : decode mi.1 pc = .ok (.ifCond .ne off, 3)) (ht : (pc : Int) + off = (tgt : Int)) (Kt : ¬ x = 0 → J mi res ck sk tgt L st S) (Kf : x = 0 → J mi res ck sk (pc + 3) L st S) : J mi res ck sk pc L (.int x :: st) S := by
  intro p l e s m args below meth c D kA ad A H locs ls ad0 X ha1 ha2 hl hP hD hS
  exact lv_if_ne X.1 X.2.1 d ht (fun h => Kt h p l e s m args below meth c D kA ad A H locs ls ad0 X ha1 ha2 hl hP hD hS) (fun h => Kf h p l e s m args below meth c D kA ad A H locs ls ad0 X ha1 ha2 hl hP hD hS)

-- COND ICMP ne : ¬ x = y | x = y
theorem J_icmp_ne {mi : aMi} {res : aRes} {ck sk pc : Nat} {L : List (Nat × Value)} {st : List Value} {S : aSt} {x y : Int32} {off : Int} (tgt : Nat) (d : decode mi.1 pc = .ok (.if_icmp .ne off, 3)) (ht : (pc : Int) + off = (tgt : Int)) (Kt : ¬ x = y → J mi res ck sk tgt L st S) (Kf : x = y → J mi res ck sk (pc + 3) L st S) : J mi res ck sk pc L (.int y :: .int x :: st) S := by
  intro p l e s m args below meth c D kA ad A H locs ls ad0 X ha1 ha2 hl hP hD hS
  exact lv_icmp_ne X.1 X.2.1 d ht (fun h => Kt h p l e s m args below meth c D kA ad A H locs ls ad0 X ha1 ha2 hl hP hD hS) (fun h => Kf h p l e s m args below meth c D kA ad A H locs ls ad0 X ha1 ha2 hl hP hD hS)

-- COND IF lt : x < 0 | ¬ x < 0
theorem J_if_lt {mi : aMi} {res : aRes} {ck sk pc : Nat} {L : List (Nat × Value)} {st : List Value} {S : aSt} {x : Int32} {off : Int} (tgt : Nat) (d : decode mi.1 pc = .ok (.ifCond .lt off, 3)) (ht : (pc : Int) + off = (tgt : Int)) (Kt : x < 0 → J mi res ck sk tgt L st S) (Kf : ¬ x < 0 → J mi res ck sk (pc + 3) L st S) : J mi res ck sk pc L (.int x :: st) S := by
  intro p l e s m args below meth c D kA ad A H locs ls ad0 X ha1 ha2 hl hP hD hS
  exact lv_if_lt X.1 X.2.1 d ht (fun h => Kt h p l e s m args below meth c D kA ad A H locs ls ad0 X ha1 ha2 hl hP hD hS) (fun h => Kf h p l e s m args below meth c D kA ad A H locs ls ad0 X ha1 ha2 hl hP hD hS)

-- COND ICMP lt : x < y | ¬ x < y
theorem J_icmp_lt {mi : aMi} {res : aRes} {ck sk pc : Nat} {L : List (Nat × Value)} {st : List Value} {S : aSt} {x y : Int32} {off : Int} (tgt : Nat) (d : decode mi.1 pc = .ok (.if_icmp .lt off, 3)) (ht : (pc : Int) + off = (tgt : Int)) (Kt : x < y → J mi res ck sk tgt L st S) (Kf : ¬ x < y → J mi res ck sk (pc + 3) L st S) : J mi res ck sk pc L (.int y :: .int x :: st) S := by
  intro p l e s m args below meth c D kA ad A H locs ls ad0 X ha1 ha2 hl hP hD hS
  exact lv_icmp_lt X.1 X.2.1 d ht (fun h => Kt h p l e s m args below meth c D kA ad A H locs ls ad0 X ha1 ha2 hl hP hD hS) (fun h => Kf h p l e s m args below meth c D kA ad A H locs ls ad0 X ha1 ha2 hl hP hD hS)

-- COND IF ge : 0 ≤ x | ¬ 0 ≤ x
theorem J_if_ge {mi : aMi} {res : aRes} {ck sk pc : Nat} {L : List (Nat × Value)} {st : List Value} {S : aSt} {x : Int32} {off : Int} (tgt : Nat) (d : decode mi.1 pc = .ok (.ifCond .ge off, 3)) (ht : (pc : Int) + off = (tgt : Int)) (Kt : 0 ≤ x → J mi res ck sk tgt L st S) (Kf : ¬ 0 ≤ x → J mi res ck sk (pc + 3) L st S) : J mi res ck sk pc L (.int x :: st) S := by
  intro p l e s m args below meth c D kA ad A H locs ls ad0 X ha1 ha2 hl hP hD hS
  exact lv_if_ge X.1 X.2.1 d ht (fun h => Kt h p l e s m args below meth c D kA ad A H locs ls ad0 X ha1 ha2 hl hP hD hS) (fun h => Kf h p l e s m args below meth c D kA ad A H locs ls ad0 X ha1 ha2 hl hP hD hS)

-- COND ICMP ge : y ≤ x | ¬ y ≤ x
theorem J_icmp_ge {mi : aMi} {res : aRes} {ck sk pc : Nat} {L : List (Nat × Value)} {st : List Value} {S : aSt} {x y : Int32} {off : Int} (tgt : Nat) (d : decode mi.1 pc = .ok (.if_icmp .ge off, 3)) (ht : (pc : Int) + off = (tgt : Int)) (Kt : y ≤ x → J mi res ck sk tgt L st S) (Kf : ¬ y ≤ x → J mi res ck sk (pc + 3) L st S) : J mi res ck sk pc L (.int y :: .int x :: st) S := by
  intro p l e s m args below meth c D kA ad A H locs ls ad0 X ha1 ha2 hl hP hD hS
  exact lv_icmp_ge X.1 X.2.1 d ht (fun h => Kt h p l e s m args below meth c D kA ad A H locs ls ad0 X ha1 ha2 hl hP hD hS) (fun h => Kf h p l e s m args below meth c D kA ad A H locs ls ad0 X ha1 ha2 hl hP hD hS)

-- COND IF gt : 0 < x | ¬ 0 < x
theorem J_if_gt {mi : aMi} {res : aRes} {ck sk pc : Nat} {L : List (Nat × Value)} {st : List Value} {S : aSt} {x : Int32} {off : Int} (tgt : Nat) (d : decode mi.1 pc = .ok (.ifCond .gt off, 3)) (ht : (pc : Int) + off = (tgt : Int)) (Kt : 0 < x → J mi res ck sk tgt L st S) (Kf : ¬ 0 < x → J mi res ck sk (pc + 3) L st S) : J mi res ck sk pc L (.int x :: st) S := by
  intro p l e s m args below meth c D kA ad A H locs ls ad0 X ha1 ha2 hl hP hD hS
  exact lv_if_gt X.1 X.2.1 d ht (fun h => Kt h p l e s m args below meth c D kA ad A H locs ls ad0 X ha1 ha2 hl hP hD hS) (fun h => Kf h p l e s m args below meth c D kA ad A H locs ls ad0 X ha1 ha2 hl hP hD hS)

-- COND ICMP gt : y < x | ¬ y < x
theorem J_icmp_gt {mi : aMi} {res : aRes} {ck sk pc : Nat} {L : List (Nat × Value)} {st : List Value} {S : aSt} {x y : Int32} {off : Int} (tgt : Nat) (d : decode mi.1 pc = .ok (.if_icmp .gt off, 3)) (ht : (pc : Int) + off = (tgt : Int)) (Kt : y < x → J mi res ck sk tgt L st S) (Kf : ¬ y < x → J mi res ck sk (pc + 3) L st S) : J mi res ck sk pc L (.int y :: .int x :: st) S := by
  intro p l e s m args below meth c D kA ad A H locs ls ad0 X ha1 ha2 hl hP hD hS
  exact lv_icmp_gt X.1 X.2.1 d ht (fun h => Kt h p l e s m args below meth c D kA ad A H locs ls ad0 X ha1 ha2 hl hP hD hS) (fun h => Kf h p l e s m args below meth c D kA ad A H locs ls ad0 X ha1 ha2 hl hP hD hS)

-- COND IF le : x ≤ 0 | ¬ x ≤ 0
theorem J_if_le {mi : aMi} {res : aRes} {ck sk pc : Nat} {L : List (Nat × Value)} {st : List Value} {S : aSt} {x : Int32} {off : Int} (tgt : Nat) (d : decode mi.1 pc = .ok (.ifCond .le off, 3)) (ht : (pc : Int) + off = (tgt : Int)) (Kt : x ≤ 0 → J mi res ck sk tgt L st S) (Kf : ¬ x ≤ 0 → J mi res ck sk (pc + 3) L st S) : J mi res ck sk pc L (.int x :: st) S := by
  intro p l e s m args below meth c D kA ad A H locs ls ad0 X ha1 ha2 hl hP hD hS
  exact lv_if_le X.1 X.2.1 d ht (fun h => Kt h p l e s m args below meth c D kA ad A H locs ls ad0 X ha1 ha2 hl hP hD hS) (fun h => Kf h p l e s m args below meth c D kA ad A H locs ls ad0 X ha1 ha2 hl hP hD hS)

-- COND ICMP le : x ≤ y | ¬ x ≤ y
theorem J_icmp_le {mi : aMi} {res : aRes} {ck sk pc : Nat} {L : List (Nat × Value)} {st : List Value} {S : aSt} {x y : Int32} {off : Int} (tgt : Nat) (d : decode mi.1 pc = .ok (.if_icmp .le off, 3)) (ht : (pc : Int) + off = (tgt : Int)) (Kt : x ≤ y → J mi res ck sk tgt L st S) (Kf : ¬ x ≤ y → J mi res ck sk (pc + 3) L st S) : J mi res ck sk pc L (.int y :: .int x :: st) S := by
  intro p l e s m args below meth c D kA ad A H locs ls ad0 X ha1 ha2 hl hP hD hS
  exact lv_icmp_le X.1 X.2.1 d ht (fun h => Kt h p l e s m args below meth c D kA ad A H locs ls ad0 X ha1 ha2 hl hP hD hS) (fun h => Kf h p l e s m args below meth c D kA ad A H locs ls ad0 X ha1 ha2 hl hP hD hS)

theorem J_goto {mi : aMi} {res : aRes} {ck sk pc : Nat} {L : List (Nat × Value)} {st : List Value} {S : aSt} {off : Int} (tgt : Nat) (d : decode mi.1 pc = .ok (.goto off, 3)) (ht : (pc : Int) + off = (tgt : Int)) (K : J mi res ck sk (tgt) L (st) S) : J mi res ck sk pc L (st) S := by
  intro p l e s m args below meth c D kA ad A H locs ls ad0 X ha1 ha2 hl hP hD hS
  exact lv_goto X.1 X.2.1 d ht (K p l e s m args below meth c D kA ad A H locs ls ad0 X ha1 ha2 hl hP hD hS)

theorem J_ifnonnull {mi : aMi} {res : aRes} {ck sk pc : Nat} {L : List (Nat × Value)} {st : List Value} {S : aSt} {off : Int} {x : Nat} (tgt : Nat) (d : decode mi.1 pc = .ok (.ifnonnull off, 3)) (ht : (pc : Int) + off = (tgt : Int)) (K : J mi res ck sk (tgt) L (st) S) : J mi res ck sk pc L (.ref x :: st) S := by
  intro p l e s m args below meth c D kA ad A H locs ls ad0 X ha1 ha2 hl hP hD hS
  exact lv_ifnonnull X.1 X.2.1 d ht (K p l e s m args below meth c D kA ad A H locs ls ad0 X ha1 ha2 hl hP hD hS)

theorem J_ifnonnullN {mi : aMi} {res : aRes} {ck sk pc : Nat} {L : List (Nat × Value)} {st : List Value} {S : aSt} {off : Int} (d : decode mi.1 pc = .ok (.ifnonnull off, 3)) (K : J mi res ck sk (pc + 3) L (st) S) : J mi res ck sk pc L (.null :: st) S := by
  intro p l e s m args below meth c D kA ad A H locs ls ad0 X ha1 ha2 hl hP hD hS
  exact lv_ifnonnullN X.1 X.2.1 d (K p l e s m args below meth c D kA ad A H locs ls ad0 X ha1 ha2 hl hP hD hS)


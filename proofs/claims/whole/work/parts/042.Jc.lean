theorem a_lc_args (ad : Nat → Nat) : ∀ (as : List Value) (i : Nat), lv_args i (as.map (a_cv ad)) = a_lc ad (lv_args i as)
  | [], _ => rfl
  | v :: as, i => by
    show (i, a_cv ad v) :: lv_args (if (a_cv ad v).category = 2 then i + 2 else i + 1) (as.map (a_cv ad)) = _
    rw [a_cv_cat, a_lc_args ad as]
    rfl
theorem a_cats (ad : Nat → Nat) (st : List Value) : ((st.map (a_cv ad)).map fun v => v.category).sum = (st.map fun v => v.category).sum := by
  rw [List.map_map]
  congr 1
  apply List.map_congr_left
  intro v _
  exact a_cv_cat ad v
theorem a_sl_len (ad : Nat → Nat) : ∀ as : List Value, (lg_sl (as.map (a_cv ad))).length = (as.map fun v => v.category).sum
  | [] => rfl
  | v :: as => by
    have ih := a_sl_len ad as
    have e : (lg_sl ((v :: as).map (a_cv ad))).length = ((if (a_cv ad v).category = 2 then [Slot.val (a_cv ad v), .second] else [.val (a_cv ad v)]) ++ lg_sl (as.map (a_cv ad))).length := rfl
    rw [e, List.length_append, ih, a_cv_cat, List.map_cons, List.sum_cons]
    rcases lv_cat v with h | h <;> simp [h]
def a_Pc (D : va_G) (kA : Nat → ClassId) (ad : Nat → Nat) (sz : Nat) (S : aSt) (U : State) : Prop := U.heap.size = sz ∧ va_P D vwCl (a_wl kA ad S) U.heap ∧ va_K D vwCl (a_tys kA) U ∧ va_D (fun _ => True) (a_wl kA ad S) ∧ a_Sx ad (va_A (a_wl kA ad S) sz) U U.heap
/-- A METHOD'S CONTRACT: from these arguments in this state it ends with 'res' -/
def Ct (mi : aMi) (y : MethodName) (as : List Value) (S : aSt) (res : aRes) : Prop := ∀ (l : Launch) (D : va_G) (kA : Nat → ClassId) (ad : Nat → Nat) (sz : Nat),
  Met l y (Cond.code y mi.1 mi.2.1 mi.2.2.2.1 :: a_tbl) mi.2.2.2.2 (va_Pc (as.map (a_cv ad)) (a_Pc D kA ad sz S)) (a_Q D kA ad (va_A (a_wl kA ad S) sz) mi.2.2.2.2.cells res) mi.2.2.2.2.cells mi.2.2.2.2.slots (va_A (a_wl kA ad S) sz)
theorem Ct_of_J {mi : aMi} {y : MethodName} {as : List Value} {S : aSt} {res : aRes} (hy : plainName y.cls = true) (hown : mi.2.2.1 = y.cls) (hlen : (as.map fun v => v.category).sum ≤ mi.2.1) (h : J mi res 0 0 0 (lv_args 0 as) [] S) : Ct mi y as S res := by
  intro l D kA ad sz
  refine Met.ofW (cc := mi.1) (maxL := mi.2.1) (ret := mi.2.2.2.1) hy rfl ?_
  intro p e s m args below meth c s₁ B hml hv
  obtain ⟨rfl, hsz, hP, hK, hD0, hSx⟩ := hv
  have hts := atoms_spec (ws := Cond.code y mi.1 mi.2.1 mi.2.2.2.1 :: a_tbl) B.pre
  have hown' : s.vm.findClass y.cls = some m.cls := findClass_of_methodNamed B.named
  subst hsz
  have hl := lv_entry (as.map (a_cv ad)) (n := mi.2.1) (by rw [a_sl_len]; exact hlen)
  rw [lg_entry_eq]
  generalize (lg_sl (as.map (a_cv ad)) ++ List.replicate (mi.2.1 - (lg_sl (as.map (a_cv ad))).length) Slot.unset).toArray = ls at hl ⊢
  rw [a_lc_args] at hl
  exact h p l e s m _ below meth c D kA ad (va_A (a_wl kA ad S) s.heap.size) s.heap [] ls ad ⟨B.exec, B.bytes, hml, by rw [hown]; exact hown', fun w hw => hts w (List.mem_cons_of_mem _ hw), B.returns, B.notSynchronized, hK, fun q h => Or.inr h, hSx⟩ (fun _ _ => rfl) (fun _ => rfl) hl hP hD0.self va_S.rf
theorem a_go {p : Program} {l : Launch} {e : Env} {R : Room} {s : State} {m : MethodId} {args : Array Value} {below : List Frame} {meth : Method} {c : Code} {H : Heap} {locs : List Loc} {ck sk mc ms pc : Nat} {ls : Array Slot} {st0 rest' : List Value} {D : va_G} {kA : Nat → ClassId} {ad : Nat → Nat} {A A1 : Nat → Prop} {v : Option Value} {S' : aSt} {a : Array Value} {Q : State → Prop}
    (hr : va_Run p l e R s m args below meth c H locs ck sk mc ms (F0 m pc ls st0) rest' (a_Q D kA ad A1 mc (v, S') a) A1) (hS : va_S A s.heap H locs) (hF : ∀ q, A1 q → A q)
    (kk : ∀ (ad' : Nat → Nat) (H1 : Heap) (locs1 : List Loc), (∀ c, ¬ (c = 18 ∨ c = 19) → ad' c = ad c) → (mc = 0 → ad' = ad) → va_P D vwCl (a_wl kA ad' S') H1 → va_D A (a_wl kA ad' S') → va_S A s.heap H1 locs1 → W p l e R s m args below meth c H1 locs1 (ck + mc) (sk + ms) Q (F0 m (pc + 3) ls ((v.map (a_cv ad')).toList ++ rest'))) :
    W p l e R s m args below meth c H locs ck sk Q (F0 m pc ls st0) := by
  intro T hT X
  obtain ⟨v0, st₀, t, T', L, h0, X', hL, e1, e2, ⟨⟨ad', had, had0, hv, hP', hD'⟩, hz, hk⟩, st⟩ := hr T hT X
  have hv' : v0 = v.map (a_cv ad') := by injection hv
  subst hv'
  rw [h0] at hz hk
  obtain ⟨t2, a1, b1⟩ := kk ad' T'.heap (locs ++ L) had had0 (by rw [e1]; exact hP') (hD'.weaken (fun _ _ _ h => hF _ h))
    ⟨Nat.le_trans hS.1 (by rw [e1]; exact hz), fun q h1 h2 => by rw [e1, hk q (Nat.lt_of_lt_of_le h1 hS.1) (fun z => h2 (hF q z))]; exact hS.2.1 q h1 h2, fun q hq => by
      rcases List.mem_append.mp hq with h | h
      · exact hS.2.2 q h
      · exact hF _ (hL q h)⟩ T' rfl X'
  exact ⟨t2, st t2 a1, b1⟩
theorem a_blind (av : List Value) (D : va_G) (kA : Nat → ClassId) (ad : Nat → Nat) (sz : Nat) (S : aSt) : FrameBlind (va_Pc av (a_Pc D kA ad sz S)) := by
  intro a U g mk q
  obtain ⟨q0, q1, qP, qK, qD, qS⟩ := q
  exact ⟨q0, q1, qP, va_K.moved (u := U) (U := U.calling g mk a) (Vm.Alike.refl U.vm) qK, qD, qS.moved (u := U) (U := U.calling g mk a) (Vm.Alike.refl U.vm)⟩
theorem a_wA {kA : Nat → ClassId} {ad : Nat → Nat} {S : aSt} {A : Nat → Prop} {H0 H : Heap} {locs : List Loc} (hD : va_D A (a_wl kA ad S)) (hS : va_S A H0 H locs) (hA : ∀ q, H0.size ≤ q → A q) : ∀ q, va_A (a_wl kA ad S) H.size q → A q := by
  intro q h
  rcases h with ⟨k, e, h⟩ | h
  · exact hD.2 k (q, e) h
  · exact hA q (Nat.le_trans hS.1 h)
theorem a_pre {kA : Nat → ClassId} {ad : Nat → Nat} {S : aSt} {A : Nat → Prop} {D : va_G} {s : State} {H : Heap} {locs : List Loc} (av : List Value) (hK : va_K D vwCl (a_tys kA) s) (hSx : a_Sx ad A s s.heap) (hA : ∀ q, s.heap.size ≤ q → A q) (hP : va_P D vwCl (a_wl kA ad S) H) (hD : va_D A (a_wl kA ad S)) (hS : va_S A s.heap H locs) :
    ∀ U : State, U.heap = H → s.WarmedH U.vm → va_Pc av (a_Pc D kA ad H.size S) av.toArray U := fun U hU hW =>
  ⟨rfl, by rw [hU], by rw [hU]; exact hP, va_K.moved hW.alike hK, hD.weaken (fun _ _ _ _ => trivial), by
    rw [hU]
    exact ((hSx.kept hS.2.1).narrow (a_wA hD hS hA)).moved hW.alike⟩
theorem a_goodS {w : Cond} {ws : List Cond} (h : ∀ x ∈ ws, x ∈ a_tbl) : GoodIn a_tbl ws := fun x hx => ⟨h x hx, good_of_word (a_good (h x hx))⟩
theorem a_goodV {own : String} {idx : Nat} {Cn : String} {y : MethodName} {cw : Cond} (h1 : Cond.methodLink own idx y ∈ a_tbl) (h2 : Cond.instanceMethod y ∈ a_tbl) (h3 : Cond.selects Cn y y ∈ a_tbl) (h4 : Cond.initialized Cn ∈ a_tbl) (h5 : cw ∈ a_tbl) : GoodIn a_tbl (wsV own idx Cn y (cw :: a_tbl)) := by
  refine a_goodS (w := cw) (fun x hx => ?_)
  unfold wsV at hx
  simp only [List.cons_append, List.nil_append, List.mem_cons] at hx
  rcases hx with rfl | rfl | rfl | rfl | rfl | hx
  · exact h1
  · exact h2
  · exact h3
  · exact h4
  · exact h5
  · exact hx
theorem a_goodT {own : String} {idx : Nat} {y : MethodName} {cw : Cond} (h1 : Cond.methodLink own idx y ∈ a_tbl) (h2 : Cond.static y ∈ a_tbl) (h4 : Cond.initialized y.cls ∈ a_tbl) (h5 : cw ∈ a_tbl) : GoodIn a_tbl (va_wsS own idx y (cw :: a_tbl)) := by
  refine a_goodS (w := cw) (fun x hx => ?_)
  unfold va_wsS at hx
  simp only [List.cons_append, List.nil_append, List.mem_cons] at hx
  rcases hx with rfl | rfl | rfl | rfl | hx
  · exact h1
  · exact h2
  · exact h4
  · exact h5
  · exact hx
section JC
variable {mi mj : aMi} {res : aRes} {ck sk pc : Nat} {L : List (Nat × Value)} {st rest as : List Value} {C C' : aSc} {M M' : aMm} {S S' : aSt} {y : MethodName} {v : Option Value}
theorem a_app (ad : Nat → Nat) (v : Option Value) (rest : List Value) : (v.map (a_cv ad)).toList ++ rest.map (a_cv ad) = (v.toList ++ rest).map (a_cv ad) := by cases v <;> rfl
theorem J_callV {b k n idx : Nat} {q : vw_C} (hC : Ct mj y (.ref b :: as) S (v, S')) (h0 : mj.2.2.2.2.cells = 0 ∧ mj.2.2.2.2.slots = 0) (hst : st = as.reverse ++ .ref b :: rest) (hk : a_kd b = k) (hk9 : k < 9) (hcl : vwCl[k]? = some q)
    (hG : GoodIn a_tbl (wsV mi.2.2.1 idx q.1 y (Cond.code y mj.1 mj.2.1 mj.2.2.2.1 :: a_tbl))) (hd : y.cls = q.1 ∧ y.cls ≠ "java/lang/invoke/MethodHandle" ∧ y.cls ≠ "java/lang/invoke/VarHandle" ∧ (parseMethodDescriptor y.desc).map (fun d => d.parameters.length) = some n) (hn : as.length = n)
    (hR : mj.2.2.2.2.frames + 1 ≤ mi.2.2.2.2.frames ∧ 8 + (mj.2.1 + 11) + mj.2.2.2.2.locals ≤ mi.2.2.2.2.locals) (hsum : (rest.map fun v => v.category).sum ≤ 8) (hcs : ck ≤ mi.2.2.2.2.cells ∧ sk ≤ mi.2.2.2.2.slots) (d : decode mi.1 pc = .ok (.invokevirtual idx, 3))
    (K : J mi res ck sk (pc + 3) L (v.toList ++ rest) S') : J mi res ck sk pc L st S := by
  intro p l e s m args below meth cd D kA ad A H locs ls ad0 X ha1 ha2 hl hP hD hS
  have hb : b < 104 := a_lt hk (by omega)
  have he := a_wl_at (kA := kA) (ad := ad) (S := S) (c := b) hb
  rw [a_mk_o hk hk9] at he
  obtain ⟨hx, hbc, hml, hown, hts, hrt, hlk, hKK, hA, hSx⟩ := id X
  have hF := a_wA hD hS hA
  have hM := hC l D kA ad H.size
  rw [h0.1, h0.2] at hM
  refine a_go (mc := 0) (ms := 0) (va_runV (As := as.map (a_cv ad)) (rest := rest.map (a_cv ad)) (b := ad b) ⟨hx, hbc, hml, hown, hts⟩ hM (cwV n hts hG rfl h0.1 h0.2 hd hR) ⟨a_blind _ _ _ _ _ _, va_recv hKK hP hcl he, a_pre _ hKK hSx hA hP hD hS⟩ rfl (by rw [List.length_map]; exact hn) hl.1 (by rw [hst]; simp [a_cv]) (lv_room (by rw [a_cats]; exact hsum)) d ⟨hcs.1, hcs.2⟩) hS hF ?_
  intro ad' H1 locs1 h1 h2 hP1 hD1 hS1
  have hh := h2 rfl
  subst hh
  rw [a_app]
  exact K p l e s m args below meth cd D kA ad' A H1 locs1 ls ad0 X ha1 ha2 hl hP1 hD1 hS1
theorem J_callS {n idx : Nat} (hC : Ct mj y as S (v, S')) (h0 : mj.2.2.2.2.cells = 0 ∧ mj.2.2.2.2.slots = 0) (hst : st = as.reverse ++ rest)
    (hG : GoodIn a_tbl (va_wsS mi.2.2.1 idx y (Cond.code y mj.1 mj.2.1 mj.2.2.2.1 :: a_tbl))) (hd : y.cls ≠ "java/lang/invoke/MethodHandle" ∧ y.cls ≠ "java/lang/invoke/VarHandle" ∧ (parseMethodDescriptor y.desc).map (fun d => d.parameters.length) = some n) (hn : as.length = n)
    (hR : mj.2.2.2.2.frames + 1 ≤ mi.2.2.2.2.frames ∧ 8 + (mj.2.1 + 11) + mj.2.2.2.2.locals ≤ mi.2.2.2.2.locals) (hsum : (rest.map fun v => v.category).sum ≤ 8) (hcs : ck ≤ mi.2.2.2.2.cells ∧ sk ≤ mi.2.2.2.2.slots) (d : decode mi.1 pc = .ok (.invokestatic idx, 3))
    (K : J mi res ck sk (pc + 3) L (v.toList ++ rest) S') : J mi res ck sk pc L st S := by
  intro p l e s m args below meth cd D kA ad A H locs ls ad0 X ha1 ha2 hl hP hD hS
  obtain ⟨hx, hbc, hml, hown, hts, hrt, hlk, hKK, hA, hSx⟩ := id X
  have hF := a_wA hD hS hA
  have hM := hC l D kA ad H.size
  rw [h0.1, h0.2] at hM
  refine a_go (mc := 0) (ms := 0) (va_runS (As := as.map (a_cv ad)) (rest := rest.map (a_cv ad)) ⟨hx, hbc, hml, hown, hts⟩ hM (va_cwS n hts hG rfl h0.1 h0.2 hd hR) ⟨a_blind _ _ _ _ _ _, a_pre _ hKK hSx hA hP hD hS⟩ rfl (by rw [List.length_map]; exact hn) hl.1 (by rw [hst]; simp [a_cv]) (lv_room (by rw [a_cats]; exact hsum)) d ⟨hcs.1, hcs.2⟩) hS hF ?_
  intro ad' H1 locs1 h1 h2 hP1 hD1 hS1
  have hh := h2 rfl
  subst hh
  rw [a_app]
  exact K p l e s m args below meth cd D kA ad' A H1 locs1 ls ad0 X ha1 ha2 hl hP1 hD1 hS1
theorem J_mmax {idx : Nat} {x z : Int32} (hw : Cond.methodLink mi.2.2.1 idx Lib.Math.max.name ∈ a_tbl) (hs : Cond.static Lib.Math.max.name ∈ a_tbl) (hi : Cond.initialized "java/lang/Math" ∈ a_tbl) (hc : Cond.code Lib.Math.max.name Lib.Math.max.code 2 (some .int) ∈ a_tbl) (hfr : 1 ≤ mi.2.2.2.2.frames) (hsum : (st.map fun v => v.category).sum + 13 ≤ mi.2.2.2.2.locals) (hcs : ck ≤ mi.2.2.2.2.cells ∧ sk ≤ mi.2.2.2.2.slots) (d : decode mi.1 pc = .ok (.invokestatic idx, 3)) (K : J mi res ck sk (pc + 3) L (.int (a_max x z) :: st) S) : J mi res ck sk pc L (.int z :: .int x :: st) S := by
  intro p l e s m args below meth cd D kA ad A H locs ls ad0 X ha1 ha2 hl hP hD hS
  obtain ⟨hx, hbc, hml, hown, hts, hrt, hlk, hKK, hA, hSx⟩ := id X
  exact va_mmax hx hbc (hml.trans hl.1.symm) hown (hts _ hw) (hts _ hs) (hts _ hi) (hts _ hc) hfr (by rw [a_cats]; exact hsum) hcs.1 hcs.2 d (K p l e s m args below meth cd D kA ad A H locs ls ad0 X ha1 ha2 hl hP hD hS)
theorem J_mmin {idx : Nat} {x z : Int32} (hw : Cond.methodLink mi.2.2.1 idx Lib.Math.min.name ∈ a_tbl) (hs : Cond.static Lib.Math.min.name ∈ a_tbl) (hi : Cond.initialized "java/lang/Math" ∈ a_tbl) (hc : Cond.code Lib.Math.min.name Lib.Math.min.code 2 (some .int) ∈ a_tbl) (hfr : 1 ≤ mi.2.2.2.2.frames) (hsum : (st.map fun v => v.category).sum + 13 ≤ mi.2.2.2.2.locals) (hcs : ck ≤ mi.2.2.2.2.cells ∧ sk ≤ mi.2.2.2.2.slots) (d : decode mi.1 pc = .ok (.invokestatic idx, 3)) (K : J mi res ck sk (pc + 3) L (.int (a_min x z) :: st) S) : J mi res ck sk pc L (.int z :: .int x :: st) S := by
  intro p l e s m args below meth cd D kA ad A H locs ls ad0 X ha1 ha2 hl hP hD hS
  obtain ⟨hx, hbc, hml, hown, hts, hrt, hlk, hKK, hA, hSx⟩ := id X
  exact va_mmin hx hbc (hml.trans hl.1.symm) hown (hts _ hw) (hts _ hs) (hts _ hi) (hts _ hc) hfr (by rw [a_cats]; exact hsum) hcs.1 hcs.2 d (K p l e s m args below meth cd D kA ad A H locs ls ad0 X ha1 ha2 hl hP hD hS)
/-- System.arraycopy between int arrays of the class -/
def a_cpr (C : aSc) (c0 sp c1 dp n : Nat) : aSc := ((fun q => if q = c1 then va_cpy (C.1 c0) (C.1 c1) sp dp n else C.1 q), C.2)
def a_cpy (C : aSc) (c0 : Nat) (sp : Int32) (c1 : Nat) (dp n : Int32) : Option aSc :=
  if ¬ sp < 0 ∧ ¬ dp < 0 ∧ ¬ n < 0 ∧ sp.toNatClampNeg + n.toNatClampNeg ≤ a_len c0 (C.2.2 c0) ∧ dp.toNatClampNeg + n.toNatClampNeg ≤ a_len c1 (C.2.2 c1) then some (a_cpr C c0 sp.toNatClampNeg c1 dp.toNatClampNeg n.toNatClampNeg) else none
theorem J_copy {idx c0 c1 : Nat} {sp dp n : Int32} (hw : Cond.methodLink mi.2.2.1 idx arraycopyName ∈ a_tbl) (h1 : Cond.native arraycopyName ∈ a_tbl) (h2 : Cond.static arraycopyName ∈ a_tbl) (h3 : Cond.initialized "java/lang/System" ∈ a_tbl) (hk0 : a_kd c0 = 10) (hc0 : c0 < 94) (hk1 : a_kd c1 = 10) (hc1 : c1 < 94) (hv : a_cpy C c0 sp c1 dp n = some C') (hfr : 1 ≤ mi.2.2.2.2.frames) (hsum : (st.map fun v => v.category).sum + (nativeFrameWords "java/lang/System" "arraycopy" 5 + 11) ≤ mi.2.2.2.2.locals) (d : decode mi.1 pc = .ok (.invokestatic idx, 3)) (K : J mi res ck sk (pc + 3) L st (C', M)) : J mi res ck sk pc L (.int n :: .int dp :: .ref c1 :: .int sp :: .ref c0 :: st) (C, M) := by
  intro p l e s m args below meth cd D kA ad A H locs ls ad0 X ha1 ha2 hl hP hD hS
  obtain ⟨hx, hbc, hml, hown, hts, hrt, hlk, hKK, hA, hSx⟩ := id X
  have he0 := a_wl_at (kA := kA) (ad := ad) (S := (C, M)) (c := c0) (by omega)
  have he1 := a_wl_at (kA := kA) (ad := ad) (S := (C, M)) (c := c1) (by omega)
  rw [a_mk_i hk0, a_rowC hc0] at he0
  rw [a_mk_i hk1, a_rowC hc1] at he1
  obtain ⟨⟨g1, g2, g3, g4, g5⟩, hv⟩ := br_g hv
  cases hv
  refine va_copyi (ty := .int) hx hbc (hml.trans hl.1.symm) hown (hts _ hw) (hts _ h1) (hts _ h2) (hts _ h3) hKK hP hD hS c0 c1 0 0 he0 he1 rfl rfl rfl g1 g2 g3 g4 g5 (fun i _ => rfl) hfr (by rw [a_cats]; exact hsum) d ?_
  intro H1 locs1 hP1 hD1 hS2
  have hset : (a_wl kA ad (C, M)).set c1 (ad c1, .inl (kA 0, a_len c1 (C.2.2 c1), .inl (va_cpy (C.1 c0) (C.1 c1) sp.toNatClampNeg dp.toNatClampNeg n.toNatClampNeg))) = a_wl kA ad (a_cpr C c0 sp.toNatClampNeg c1 dp.toNatClampNeg n.toNatClampNeg, M) := a_wl_set (by rw [a_mk_i hk1, a_rowC hc1]; simp [a_cpr]) (fun q hq => by simp [a_row, a_cpr, hq])
  have hP2 := hset ▸ hP1
  have hD2 := hset ▸ hD1
  exact K p l e s m args below meth cd D kA ad A H1 locs1 ls ad0 X ha1 ha2 hl hP2 hD2 hS2
/-! switches -/
def a_tsw (dflt lo hi : Int) (offs : Array Int) (x : Int) : Int := if x < lo ∨ hi < x then dflt else (offs[(x - lo).toNat]?).getD dflt
theorem J_tsw {dflt lo hi : Int} {offs : Array Int} {len : Nat} {x : Int32} (tgt : Nat) (d : decode mi.1 pc = .ok (.tableswitch dflt lo hi offs, len)) (hlen : (hi - lo).toNat < offs.size) (ht : (pc : Int) + a_tsw dflt lo hi offs x.toInt = (tgt : Int)) (K : J mi res ck sk tgt L st S) : J mi res ck sk pc L (.int x :: st) S := by
  intro p l e s m args below meth cd D kA ad A H locs ls ad0 X ha1 ha2 hl hP hD hS
  unfold a_tsw at ht
  by_cases h : x.toInt < lo ∨ hi < x.toInt
  · rw [if_pos h] at ht
    exact lv_tableOut X.1 X.2.1 d h ht (K p l e s m args below meth cd D kA ad A H locs ls ad0 X ha1 ha2 hl hP hD hS)
  · rw [if_neg h] at ht
    have hl2 : (x.toInt - lo).toNat < offs.size := by omega
    obtain ⟨off, ho⟩ : ∃ off, offs[(x.toInt - lo).toNat]? = some off := ⟨_, Array.getElem?_eq_getElem hl2⟩
    rw [ho] at ht
    exact lv_tableIn X.1 X.2.1 d (fun q => h (Or.inl q)) (fun q => h (Or.inr q)) ho ht (K p l e s m args below meth cd D kA ad A H locs ls ad0 X ha1 ha2 hl hP hD hS)
theorem J_lsw {dflt : Int} {ps : Array (Int × Int)} {len : Nat} {x : Int32} (tgt : Nat) (d : decode mi.1 pc = .ok (.lookupswitch dflt ps, len)) (hp : (ps.toList.zip (ps.toList.drop 1)).all (fun (a, next) => a.1 < next.1) = true) (ht : (pc : Int) + Op.lookupswitch.offset ps.toList dflt x.toInt = (tgt : Int)) (K : J mi res ck sk tgt L st S) : J mi res ck sk pc L (.int x :: st) S := by
  intro p l e s m args below meth cd D kA ad A H locs ls ad0 X ha1 ha2 hl hP hD hS
  exact lv_lookup X.1 X.2.1 d hp rfl ht (K p l e s m args below meth cd D kA ad A H locs ls ad0 X ha1 ha2 hl hP hD hS)
end JC

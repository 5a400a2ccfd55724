theorem a_in0 : ∀ w ∈ wsX00, w ∈ a_tbl := by decide +kernel
theorem a_in1 : ∀ w ∈ wsX10, w ∈ a_tbl := by decide +kernel
theorem a_in2 : ∀ w ∈ wsX20, w ∈ a_tbl := by decide +kernel
theorem a_in3 : ∀ w ∈ wsX30, w ∈ a_tbl := by decide +kernel
theorem a_in4 : ∀ w ∈ wsX40, w ∈ a_tbl := by decide +kernel
theorem a_in5 : ∀ w ∈ wsX50, w ∈ a_tbl := by decide +kernel
theorem a_in6 : ∀ w ∈ wsX60, w ∈ a_tbl := by decide +kernel
theorem a_in7 : ∀ w ∈ wsX70, w ∈ a_tbl := by decide +kernel
theorem a_in8 : ∀ w ∈ wsX80, w ∈ a_tbl := by decide +kernel
def a_clsP (C : String) (T : u_T) (N : Nat) : Prop := (∀ w ∈ u_ws C T N, w ∈ a_tbl) ∧ (∃ ty0 : Nat → FieldType, ∀ j, j < N → parseFieldDescriptor (T j).2.2.1 = some (ty0 j)) ∧ (∀ a, a < N → ∀ b, b < N → a ≠ b → (T a).2.1 ≠ (T b).2.1)
theorem a_cls {k : Nat} {q : vw_C} (h : vwCl[k]? = some q) : a_clsP q.1 q.2.1 q.2.2 := by
  match k, h with
  | 0, h => cases h; exact ⟨a_in0, ⟨tyX0, tyX0_ok⟩, nmX0⟩
  | 1, h => cases h; exact ⟨a_in1, ⟨tyX1, tyX1_ok⟩, nmX1⟩
  | 2, h => cases h; exact ⟨a_in2, ⟨tyX2, tyX2_ok⟩, nmX2⟩
  | 3, h => cases h; exact ⟨a_in3, ⟨tyX3, tyX3_ok⟩, nmX3⟩
  | 4, h => cases h; exact ⟨a_in4, ⟨tyX4, tyX4_ok⟩, nmX4⟩
  | 5, h => cases h; exact ⟨a_in5, ⟨tyX5, tyX5_ok⟩, nmX5⟩
  | 6, h => cases h; exact ⟨a_in6, ⟨tyX6, tyX6_ok⟩, nmX6⟩
  | 7, h => cases h; exact ⟨a_in7, ⟨tyX7, tyX7_ok⟩, nmX7⟩
  | 8, h => cases h; exact ⟨a_in8, ⟨tyX8, tyX8_ok⟩, nmX8⟩
  | k + 9, h => simp [vwCl] at h
section JM
variable {mi : aMi} {res : aRes} {ck sk pc : Nat} {L : List (Nat × Value)} {st : List Value} {C C' : aSc} {M M' : aMm} {S : aSt}
theorem J_sub {L' : List (Nat × Value)} (ks : List Nat) (hL : lv_pick L ks = L') (K : J mi res ck sk pc L' st S) : J mi res ck sk pc L st S := by
  intro p l e s m args below meth c D kA ad A H locs ls ad0 X ha1 ha2 hl hP hD hS
  refine K p l e s m args below meth c D kA ad A H locs ls ad0 X ha1 ha2 (lv_sub hl ks ?_) hP hD hS
  subst hL
  clear hl
  unfold lv_pick a_lc
  rw [List.map_filterMap]
  congr 1
  funext k
  simp
theorem J_eq {pc' : Nat} (h : pc = pc') (K : J mi res ck sk pc' L st S) : J mi res ck sk pc L st S := h ▸ K
/-! fields -/
theorem J_geti {c k j idx : Nat} {q : vw_C} (hk : a_kd c = k) (hc : c < 94) (hk9 : k < 9) (hcl : vwCl[k]? = some q) (hj : j < q.2.2) (ht : (a_ft k)[j]? = some 0) (hw : Cond.fieldLink mi.2.2.1 idx (q.2.1 j).1 (q.2.1 j).2.1 (q.2.1 j).2.2.1 ∈ a_tbl) (d : decode mi.1 pc = .ok (.getfield idx, 3)) (K : J mi res ck sk (pc + 3) L (.int (a_gi C c j) :: st) (C, M)) : J mi res ck sk pc L (.ref c :: st) (C, M) := by
  intro p l e s m args below meth cd D kA ad A H locs ls ad0 X ha1 ha2 hl hP hD hS
  have he := a_wl_at (kA := kA) (ad := ad) (S := (C, M)) (c := c) (by omega)
  rw [a_mk_o hk hk9, a_rowC hc] at he
  exact va_get (v := .int (C.1 c j)) X.1 X.2.1 X.2.2.2.2.1 (a_cls hcl).1 X.2.2.2.1 X.2.2.2.2.2.2.2.1 hP c he hcl j hj (X.2.2.2.2.1 _ hw) (fun _ h9 => h9) (by rw [a_fs_at ht]; rfl) d (K p l e s m args below meth cd D kA ad A H locs ls ad0 X ha1 ha2 hl hP hD hS)
theorem J_getl {c k j idx : Nat} {q : vw_C} (hk : a_kd c = k) (hc : c < 94) (hk9 : k < 9) (hcl : vwCl[k]? = some q) (hj : j < q.2.2) (ht : (a_ft k)[j]? = some 1) (hw : Cond.fieldLink mi.2.2.1 idx (q.2.1 j).1 (q.2.1 j).2.1 (q.2.1 j).2.2.1 ∈ a_tbl) (d : decode mi.1 pc = .ok (.getfield idx, 3)) (K : J mi res ck sk (pc + 3) L (.long (a_gl C c j) :: st) (C, M)) : J mi res ck sk pc L (.ref c :: st) (C, M) := by
  intro p l e s m args below meth cd D kA ad A H locs ls ad0 X ha1 ha2 hl hP hD hS
  have he := a_wl_at (kA := kA) (ad := ad) (S := (C, M)) (c := c) (by omega)
  rw [a_mk_o hk hk9, a_rowC hc] at he
  exact va_get (v := .long (C.2.1 c j)) X.1 X.2.1 X.2.2.2.2.1 (a_cls hcl).1 X.2.2.2.1 X.2.2.2.2.2.2.2.1 hP c he hcl j hj (X.2.2.2.2.1 _ hw) (fun _ h9 => h9) (by rw [a_fs_at ht]; rfl) d (K p l e s m args below meth cd D kA ad A H locs ls ad0 X ha1 ha2 hl hP hD hS)
theorem J_getr {c k j idx t r : Nat} {q : vw_C} (hk : a_kd c = k) (hc : c < 104) (hk9 : k < 9) (hcl : vwCl[k]? = some q) (hj : j < q.2.2) (ht : (a_ft k)[j]? = some (t + 2)) (hr : a_tg (t + 2) c = r) (hw : Cond.fieldLink mi.2.2.1 idx (q.2.1 j).1 (q.2.1 j).2.1 (q.2.1 j).2.2.1 ∈ a_tbl) (d : decode mi.1 pc = .ok (.getfield idx, 3)) (K : J mi res ck sk (pc + 3) L (.ref r :: st) S) : J mi res ck sk pc L (.ref c :: st) S := by
  intro p l e s m args below meth cd D kA ad A H locs ls ad0 X ha1 ha2 hl hP hD hS
  have he := a_wl_at (kA := kA) (ad := ad) (S := S) (c := c) (by omega)
  rw [a_mk_o hk hk9] at he
  subst hr
  exact va_get (v := .ref (ad (a_tg (t + 2) c))) X.1 X.2.1 X.2.2.2.2.1 (a_cls hcl).1 X.2.2.2.1 X.2.2.2.2.2.2.2.1 hP c he hcl j hj (X.2.2.2.2.1 _ hw) (fun _ h9 => h9) (by rw [a_fs_at ht]; rfl) d (K p l e s m args below meth cd D kA ad A H locs ls ad0 X ha1 ha2 hl hP hD hS)
theorem J_getiM {c m0 j idx : Nat} {k : Nat} {q : vw_C} (hm : c = 94 + m0) (hk : a_kd c = k) (hk9 : k < 9) (hcl : vwCl[k]? = some q) (hj : j < q.2.2) (ht : (a_ft k)[j]? = some 0) (hw : Cond.fieldLink mi.2.2.1 idx (q.2.1 j).1 (q.2.1 j).2.1 (q.2.1 j).2.2.1 ∈ a_tbl) (d : decode mi.1 pc = .ok (.getfield idx, 3)) (K : J mi res ck sk (pc + 3) L (.int (m_gi M m0 j) :: st) (C, M)) : J mi res ck sk pc L (.ref c :: st) (C, M) := by
  intro p l e s m args below meth cd D kA ad A H locs ls ad0 X ha1 ha2 hl hP hD hS
  have he := a_wl_at (kA := kA) (ad := ad) (S := (C, M)) (c := c) (a_lt hk (by omega))
  rw [a_mk_o hk hk9, hm, a_rowM] at he
  exact va_get (v := .int (M m0 j)) X.1 X.2.1 X.2.2.2.2.1 (a_cls hcl).1 X.2.2.2.1 X.2.2.2.2.2.2.2.1 hP _ (by rw [hm]; exact he) hcl j hj (X.2.2.2.2.1 _ hw) (fun _ h9 => h9) (by rw [a_fs_at ht]; rfl) d (K p l e s m args below meth cd D kA ad A H locs ls ad0 X ha1 ha2 hl hP hD hS)
theorem J_putG {c k j idx : Nat} {q : vw_C} {x : Int32} {ty : FieldType} (hk : a_kd c = k) (hc : c < 94) (hk9 : k < 9) (hcl : vwCl[k]? = some q) (hj : j < q.2.2) (ht : (a_ft k)[j]? = some 0) (hfin : (q.2.1 j).2.2.2 = false) (hd : parseFieldDescriptor (q.2.1 j).2.2.1 = some ty) (hn : narrow ty (.int x) = .int x) (hfit : fits ty (.int x) = true) (hw : Cond.fieldLink mi.2.2.1 idx (q.2.1 j).1 (q.2.1 j).2.1 (q.2.1 j).2.2.1 ∈ a_tbl) (hS1 : a_pi C c j x = C') (d : decode mi.1 pc = .ok (.putfield idx, 3)) (K : J mi res ck sk (pc + 3) L st (C', M)) : J mi res ck sk pc L (.int x :: .ref c :: st) (C, M) := by
  intro p l e s m args below meth cd D kA ad A H locs ls ad0 X ha1 ha2 hl hP hD hS
  have he := a_wl_at (kA := kA) (ad := ad) (S := (C, M)) (c := c) (by omega)
  rw [a_mk_o hk hk9, a_rowC hc] at he
  obtain ⟨hin, ⟨ty0, hty⟩, hnm⟩ := a_cls hcl
  refine va_put (v := .int x) (ty := ty) X.1 X.2.1 X.2.2.2.2.1 hin ty0 hty hnm X.2.2.2.1 X.2.2.2.2.2.2.2.1 hP hD hS c he hcl j hj (X.2.2.2.2.1 _ hw) (fun _ h9 => h9) hfin hd hn hfit (by rw [a_fs_len]; exact (List.getElem?_eq_some_iff.mp ht).1) d ?_
  intro H1 locs1 hP1 hD1 hS2
  subst hS1
  have hset : (a_wl kA ad (C, M)).set c (ad c, .inr (k, (a_fs k ad c (C.1 c, C.2.1 c, C.2.2 c)).set j (.int x))) = a_wl kA ad (a_pi C c j x, M) := a_wl_set (by rw [a_mk_o hk hk9, a_row_pi hc, a_fs_seti ht]) (fun q hq => a_row_pi_ne hq)
  rw [hset] at hP1 hD1
  exact K p l e s m args below meth cd D kA ad A H1 locs1 ls ad0 X ha1 ha2 hl hP1 hD1 hS2
theorem J_puti {c k j idx : Nat} {q : vw_C} {x : Int32} (hk : a_kd c = k) (hc : c < 94) (hk9 : k < 9) (hcl : vwCl[k]? = some q) (hj : j < q.2.2) (ht : (a_ft k)[j]? = some 0) (hfin : (q.2.1 j).2.2.2 = false) (hd : parseFieldDescriptor (q.2.1 j).2.2.1 = some .int) (hw : Cond.fieldLink mi.2.2.1 idx (q.2.1 j).1 (q.2.1 j).2.1 (q.2.1 j).2.2.1 ∈ a_tbl) (hS1 : a_pi C c j x = C') (d : decode mi.1 pc = .ok (.putfield idx, 3)) (K : J mi res ck sk (pc + 3) L st (C', M)) : J mi res ck sk pc L (.int x :: .ref c :: st) (C, M) :=
  J_putG hk hc hk9 hcl hj ht hfin hd rfl rfl hw hS1 d K
theorem a_nz {x : Int32} (h : x = 0 ∨ x = 1) : narrow .boolean (.int x) = .int x := by rcases h with rfl | rfl <;> rfl
theorem J_putz {c k j idx : Nat} {q : vw_C} {x : Int32} (hz : x = 0 ∨ x = 1) (hk : a_kd c = k) (hc : c < 94) (hk9 : k < 9) (hcl : vwCl[k]? = some q) (hj : j < q.2.2) (ht : (a_ft k)[j]? = some 0) (hfin : (q.2.1 j).2.2.2 = false) (hd : parseFieldDescriptor (q.2.1 j).2.2.1 = some .boolean) (hw : Cond.fieldLink mi.2.2.1 idx (q.2.1 j).1 (q.2.1 j).2.1 (q.2.1 j).2.2.1 ∈ a_tbl) (hS1 : a_pi C c j x = C') (d : decode mi.1 pc = .ok (.putfield idx, 3)) (K : J mi res ck sk (pc + 3) L st (C', M)) : J mi res ck sk pc L (.int x :: .ref c :: st) (C, M) :=
  J_putG hk hc hk9 hcl hj ht hfin hd (a_nz hz) (by rcases hz with rfl | rfl <;> rfl) hw hS1 d K
theorem J_putl {c k j idx : Nat} {q : vw_C} {x : Int64} (hk : a_kd c = k) (hc : c < 94) (hk9 : k < 9) (hcl : vwCl[k]? = some q) (hj : j < q.2.2) (ht : (a_ft k)[j]? = some 1) (hfin : (q.2.1 j).2.2.2 = false) (hd : parseFieldDescriptor (q.2.1 j).2.2.1 = some .long) (hw : Cond.fieldLink mi.2.2.1 idx (q.2.1 j).1 (q.2.1 j).2.1 (q.2.1 j).2.2.1 ∈ a_tbl) (hS1 : a_pl C c j x = C') (d : decode mi.1 pc = .ok (.putfield idx, 3)) (K : J mi res ck sk (pc + 3) L st (C', M)) : J mi res ck sk pc L (.long x :: .ref c :: st) (C, M) := by
  intro p l e s m args below meth cd D kA ad A H locs ls ad0 X ha1 ha2 hl hP hD hS
  have he := a_wl_at (kA := kA) (ad := ad) (S := (C, M)) (c := c) (by omega)
  rw [a_mk_o hk hk9, a_rowC hc] at he
  obtain ⟨hin, ⟨ty0, hty⟩, hnm⟩ := a_cls hcl
  refine va_put (v := .long x) (ty := .long) X.1 X.2.1 X.2.2.2.2.1 hin ty0 hty hnm X.2.2.2.1 X.2.2.2.2.2.2.2.1 hP hD hS c he hcl j hj (X.2.2.2.2.1 _ hw) (fun _ h9 => h9) hfin hd rfl rfl (by rw [a_fs_len]; exact (List.getElem?_eq_some_iff.mp ht).1) d ?_
  intro H1 locs1 hP1 hD1 hS2
  subst hS1
  have hset : (a_wl kA ad (C, M)).set c (ad c, .inr (k, (a_fs k ad c (C.1 c, C.2.1 c, C.2.2 c)).set j (.long x))) = a_wl kA ad (a_pl C c j x, M) := a_wl_set (by rw [a_mk_o hk hk9, a_row_pl hc, a_fs_setl ht]) (fun q hq => a_row_pl_ne hq)
  rw [hset] at hP1 hD1
  exact K p l e s m args below meth cd D kA ad A H1 locs1 ls ad0 X ha1 ha2 hl hP1 hD1 hS2
theorem J_putGM {c m0 k j idx : Nat} {q : vw_C} {x : Int32} {ty : FieldType} (hm : c = 94 + m0) (hk : a_kd c = k) (hk9 : k < 9) (hcl : vwCl[k]? = some q) (hj : j < q.2.2) (ht : (a_ft k)[j]? = some 0) (hfin : (q.2.1 j).2.2.2 = false) (hd : parseFieldDescriptor (q.2.1 j).2.2.1 = some ty) (hn : narrow ty (.int x) = .int x) (hfit : fits ty (.int x) = true) (hw : Cond.fieldLink mi.2.2.1 idx (q.2.1 j).1 (q.2.1 j).2.1 (q.2.1 j).2.2.1 ∈ a_tbl) (hS1 : m_pi M m0 j x = M') (d : decode mi.1 pc = .ok (.putfield idx, 3)) (K : J mi res ck sk (pc + 3) L st (C, M')) : J mi res ck sk pc L (.int x :: .ref c :: st) (C, M) := by
  intro p l e s m args below meth cd D kA ad A H locs ls ad0 X ha1 ha2 hl hP hD hS
  have he := a_wl_at (kA := kA) (ad := ad) (S := (C, M)) (c := c) (a_lt hk (by omega))
  rw [a_mk_o hk hk9] at he
  obtain ⟨hin, ⟨ty0, hty⟩, hnm⟩ := a_cls hcl
  refine va_put (v := .int x) (ty := ty) X.1 X.2.1 X.2.2.2.2.1 hin ty0 hty hnm X.2.2.2.1 X.2.2.2.2.2.2.2.1 hP hD hS c he hcl j hj (X.2.2.2.2.1 _ hw) (fun _ h9 => h9) hfin hd hn hfit (by rw [a_fs_len]; exact (List.getElem?_eq_some_iff.mp ht).1) d ?_
  intro H1 locs1 hP1 hD1 hS2
  subst hS1
  subst hm
  have hset : (a_wl kA ad (C, M)).set (94 + m0) (ad (94 + m0), .inr (k, (a_fs k ad (94 + m0) (a_row (C, M) (94 + m0))).set j (.int x))) = a_wl kA ad (C, m_pi M m0 j x) := a_wl_set (by rw [a_mk_o hk hk9, a_row_pm, a_rowM, a_fs_seti ht]) (fun q hq => a_row_pm_ne hq)
  rw [hset] at hP1 hD1
  exact K p l e s m args below meth cd D kA ad A H1 locs1 ls ad0 X ha1 ha2 hl hP1 hD1 hS2
theorem J_putiM {c m0 k j idx : Nat} {q : vw_C} {x : Int32} (hm : c = 94 + m0) (hk : a_kd c = k) (hk9 : k < 9) (hcl : vwCl[k]? = some q) (hj : j < q.2.2) (ht : (a_ft k)[j]? = some 0) (hfin : (q.2.1 j).2.2.2 = false) (hd : parseFieldDescriptor (q.2.1 j).2.2.1 = some .int) (hw : Cond.fieldLink mi.2.2.1 idx (q.2.1 j).1 (q.2.1 j).2.1 (q.2.1 j).2.2.1 ∈ a_tbl) (hS1 : m_pi M m0 j x = M') (d : decode mi.1 pc = .ok (.putfield idx, 3)) (K : J mi res ck sk (pc + 3) L st (C, M')) : J mi res ck sk pc L (.int x :: .ref c :: st) (C, M) :=
  J_putGM hm hk hk9 hcl hj ht hfin hd rfl rfl hw hS1 d K
theorem J_putzM {c m0 k j idx : Nat} {q : vw_C} {x : Int32} (hz : x = 0 ∨ x = 1) (hm : c = 94 + m0) (hk : a_kd c = k) (hk9 : k < 9) (hcl : vwCl[k]? = some q) (hj : j < q.2.2) (ht : (a_ft k)[j]? = some 0) (hfin : (q.2.1 j).2.2.2 = false) (hd : parseFieldDescriptor (q.2.1 j).2.2.1 = some .boolean) (hw : Cond.fieldLink mi.2.2.1 idx (q.2.1 j).1 (q.2.1 j).2.1 (q.2.1 j).2.2.1 ∈ a_tbl) (hS1 : m_pi M m0 j x = M') (d : decode mi.1 pc = .ok (.putfield idx, 3)) (K : J mi res ck sk (pc + 3) L st (C, M')) : J mi res ck sk pc L (.int x :: .ref c :: st) (C, M) :=
  J_putGM hm hk hk9 hcl hj ht hfin hd (a_nz hz) (by rcases hz with rfl | rfl <;> rfl) hw hS1 d K
/-! arrays -/
theorem a_inb {i : Int32} {n : Nat} {α : Type} {x y : α} (h : (if 0 ≤ i.toInt ∧ i.toInt < (n : Int) then some x else none) = some y) : vp_in i n ∧ x = y := by
  obtain ⟨h1, h2⟩ := br_g h
  exact ⟨vp_in_iff.mpr h1, Option.some.inj h2⟩
theorem J_iald {c : Nat} {i x : Int32} (hk : a_kd c = 10) (hc : c < 94) (hv : a_ld C c i = some x) (d : decode mi.1 pc = .ok (.iaload, 1)) (K : J mi res ck sk (pc + 1) L (.int x :: st) (C, M)) : J mi res ck sk pc L (.int i :: .ref c :: st) (C, M) := by
  intro p l e s m args below meth cd D kA ad A H locs ls ad0 X ha1 ha2 hl hP hD hS
  have he := a_wl_at (kA := kA) (ad := ad) (S := (C, M)) (c := c) (by omega)
  rw [a_mk_i hk, a_rowC hc] at he
  obtain ⟨h1, rfl⟩ := a_inb hv
  exact va_iald X.1 X.2.1 X.2.2.2.2.2.2.2.1 hP c 0 he rfl h1 d (K p l e s m args below meth cd D kA ad A H locs ls ad0 X ha1 ha2 hl hP hD hS)
theorem J_zald {c : Nat} {i x : Int32} (hk : a_kd c = 12) (hc : c < 94) (hv : a_ld C c i = some x) (d : decode mi.1 pc = .ok (.baload, 1)) (K : J mi res ck sk (pc + 1) L (.int x :: st) (C, M)) : J mi res ck sk pc L (.int i :: .ref c :: st) (C, M) := by
  intro p l e s m args below meth cd D kA ad A H locs ls ad0 X ha1 ha2 hl hP hD hS
  have he := a_wl_at (kA := kA) (ad := ad) (S := (C, M)) (c := c) (by omega)
  rw [a_mk_z hk, a_rowC hc] at he
  obtain ⟨h1, rfl⟩ := a_inb hv
  exact va_zald X.1 X.2.1 X.2.2.2.2.2.2.2.1 hP c 2 he rfl h1 d (K p l e s m args below meth cd D kA ad A H locs ls ad0 X ha1 ha2 hl hP hD hS)
theorem J_lald {c : Nat} {i : Int32} {x : Int64} (hk : a_kd c = 11) (hc : c < 94) (hv : a_ldl C c i = some x) (d : decode mi.1 pc = .ok (.laload, 1)) (K : J mi res ck sk (pc + 1) L (.long x :: st) (C, M)) : J mi res ck sk pc L (.int i :: .ref c :: st) (C, M) := by
  intro p l e s m args below meth cd D kA ad A H locs ls ad0 X ha1 ha2 hl hP hD hS
  have he := a_wl_at (kA := kA) (ad := ad) (S := (C, M)) (c := c) (by omega)
  rw [a_mk_l hk, a_rowC hc] at he
  obtain ⟨h1, rfl⟩ := a_inb hv
  exact va_lald X.1 X.2.1 X.2.2.2.2.2.2.2.1 hP c 1 he rfl h1 d (K p l e s m args below meth cd D kA ad A H locs ls ad0 X ha1 ha2 hl hP hD hS)
theorem J_ialdM {c m0 : Nat} {i x : Int32} (hm : c = 94 + m0) (hk : a_kd c = 10) (hv : m_ld M m0 i = some x) (d : decode mi.1 pc = .ok (.iaload, 1)) (K : J mi res ck sk (pc + 1) L (.int x :: st) (C, M)) : J mi res ck sk pc L (.int i :: .ref c :: st) (C, M) := by
  intro p l e s m args below meth cd D kA ad A H locs ls ad0 X ha1 ha2 hl hP hD hS
  subst hm
  have he := a_wl_at (kA := kA) (ad := ad) (S := (C, M)) (c := 94 + m0) (a_lt hk (by omega))
  rw [a_mk_i hk, a_rowM] at he
  obtain ⟨h1, rfl⟩ := a_inb hv
  exact va_iald X.1 X.2.1 X.2.2.2.2.2.2.2.1 hP _ 0 he rfl h1 d (K p l e s m args below meth cd D kA ad A H locs ls ad0 X ha1 ha2 hl hP hD hS)
theorem J_iast {c : Nat} {i x : Int32} (hk : a_kd c = 10) (hc : c < 94) (hv : a_st C c i x = some C') (d : decode mi.1 pc = .ok (.iastore, 1)) (K : J mi res ck sk (pc + 1) L st (C', M)) : J mi res ck sk pc L (.int x :: .int i :: .ref c :: st) (C, M) := by
  intro p l e s m args below meth cd D kA ad A H locs ls ad0 X ha1 ha2 hl hP hD hS
  have he := a_wl_at (kA := kA) (ad := ad) (S := (C, M)) (c := c) (by omega)
  rw [a_mk_i hk, a_rowC hc] at he
  obtain ⟨h1, rfl⟩ := a_inb hv
  refine va_iast X.1 X.2.1 X.2.2.2.2.2.2.2.1 hP hD hS c 0 he rfl h1 d ?_
  intro H1 locs1 hP1 hD1 hS2
  have hset : (a_wl kA ad (C, M)).set c (ad c, .inl (kA 0, a_len c (C.2.2 c), .inl (upd (C.1 c) i.toNatClampNeg x))) = a_wl kA ad (a_pi C c i.toNatClampNeg x, M) := a_wl_set (by rw [a_mk_i hk, a_row_pi hc]) (fun q hq => a_row_pi_ne hq)
  have hP2 := hset ▸ hP1
  have hD2 := hset ▸ hD1
  exact K p l e s m args below meth cd D kA ad A H1 locs1 ls ad0 X ha1 ha2 hl hP2 hD2 hS2
theorem J_zast {c : Nat} {i x : Int32} (hk : a_kd c = 12) (hc : c < 94) (hv : a_st C c i (vp_nar .boolean x) = some C') (d : decode mi.1 pc = .ok (.bastore, 1)) (K : J mi res ck sk (pc + 1) L st (C', M)) : J mi res ck sk pc L (.int x :: .int i :: .ref c :: st) (C, M) := by
  intro p l e s m args below meth cd D kA ad A H locs ls ad0 X ha1 ha2 hl hP hD hS
  have he := a_wl_at (kA := kA) (ad := ad) (S := (C, M)) (c := c) (by omega)
  rw [a_mk_z hk, a_rowC hc] at he
  obtain ⟨h1, rfl⟩ := a_inb hv
  refine va_zast X.1 X.2.1 X.2.2.2.2.2.2.2.1 hP hD hS c 2 he rfl h1 d ?_
  intro H1 locs1 hP1 hD1 hS2
  have hset : (a_wl kA ad (C, M)).set c (ad c, .inl (kA 2, a_len c (C.2.2 c), .inl (upd (C.1 c) i.toNatClampNeg (vp_nar .boolean x)))) = a_wl kA ad (a_pi C c i.toNatClampNeg (vp_nar .boolean x), M) := a_wl_set (by rw [a_mk_z hk, a_row_pi hc]) (fun q hq => a_row_pi_ne hq)
  have hP2 := hset ▸ hP1
  have hD2 := hset ▸ hD1
  exact K p l e s m args below meth cd D kA ad A H1 locs1 ls ad0 X ha1 ha2 hl hP2 hD2 hS2
theorem J_last {c : Nat} {i : Int32} {x : Int64} (hk : a_kd c = 11) (hc : c < 94) (hv : a_stl C c i x = some C') (d : decode mi.1 pc = .ok (.lastore, 1)) (K : J mi res ck sk (pc + 1) L st (C', M)) : J mi res ck sk pc L (.long x :: .int i :: .ref c :: st) (C, M) := by
  intro p l e s m args below meth cd D kA ad A H locs ls ad0 X ha1 ha2 hl hP hD hS
  have he := a_wl_at (kA := kA) (ad := ad) (S := (C, M)) (c := c) (by omega)
  rw [a_mk_l hk, a_rowC hc] at he
  obtain ⟨h1, rfl⟩ := a_inb hv
  refine va_last X.1 X.2.1 X.2.2.2.2.2.2.2.1 hP hD hS c 1 he rfl h1 d ?_
  intro H1 locs1 hP1 hD1 hS2
  have hset : (a_wl kA ad (C, M)).set c (ad c, .inl (kA 1, a_len c (C.2.2 c), .inr (.inl (vp_updL (C.2.1 c) i.toNatClampNeg x)))) = a_wl kA ad (a_pl C c i.toNatClampNeg x, M) := a_wl_set (by rw [a_mk_l hk, a_row_pl hc]) (fun q hq => a_row_pl_ne hq)
  have hP2 := hset ▸ hP1
  have hD2 := hset ▸ hD1
  exact K p l e s m args below meth cd D kA ad A H1 locs1 ls ad0 X ha1 ha2 hl hP2 hD2 hS2
theorem J_iastM {c m0 : Nat} {i x : Int32} (hm : c = 94 + m0) (hk : a_kd c = 10) (hv : m_st M m0 i x = some M') (d : decode mi.1 pc = .ok (.iastore, 1)) (K : J mi res ck sk (pc + 1) L st (C, M')) : J mi res ck sk pc L (.int x :: .int i :: .ref c :: st) (C, M) := by
  intro p l e s m args below meth cd D kA ad A H locs ls ad0 X ha1 ha2 hl hP hD hS
  subst hm
  have he := a_wl_at (kA := kA) (ad := ad) (S := (C, M)) (c := 94 + m0) (a_lt hk (by omega))
  rw [a_mk_i hk, a_rowM] at he
  obtain ⟨h1, rfl⟩ := a_inb hv
  refine va_iast X.1 X.2.1 X.2.2.2.2.2.2.2.1 hP hD hS _ 0 he rfl h1 d ?_
  intro H1 locs1 hP1 hD1 hS2
  have hset : (a_wl kA ad (C, M)).set (94 + m0) (ad (94 + m0), .inl (kA 0, a_len (94 + m0) 0, .inl (upd (M m0) i.toNatClampNeg x))) = a_wl kA ad (C, m_pi M m0 i.toNatClampNeg x) := a_wl_set (by rw [a_mk_i hk, a_row_pm]) (fun q hq => a_row_pm_ne hq)
  have hP2 := hset ▸ hP1
  have hD2 := hset ▸ hD1
  exact K p l e s m args below meth cd D kA ad A H1 locs1 ls ad0 X ha1 ha2 hl hP2 hD2 hS2
theorem J_aaldL {i : Int32} {r : Nat} (hv : a_rf 24 3 10 i = some r) (d : decode mi.1 pc = .ok (.aaload, 1)) (K : J mi res ck sk (pc + 1) L (.ref r :: st) S) : J mi res ck sk pc L (.int i :: .ref 3 :: st) S := by
  intro p l e s m args below meth cd D kA ad A H locs ls ad0 X ha1 ha2 hl hP hD hS
  have he := a_wl_at (kA := kA) (ad := ad) (S := S) (c := 3) (by omega)
  obtain ⟨h1, rfl⟩ := a_inb hv
  exact va_aldq (C := RX1) X.1 X.2.1 X.2.2.2.2.2.2.2.1 hP 3 3 he rfl h1 d (K p l e s m args below meth cd D kA ad A H locs ls ad0 X ha1 ha2 hl hP hD hS)
theorem J_aaldS {i : Int32} {r : Nat} (hv : a_rf 54 2 4 i = some r) (d : decode mi.1 pc = .ok (.aaload, 1)) (K : J mi res ck sk (pc + 1) L (.ref r :: st) S) : J mi res ck sk pc L (.int i :: .ref 21 :: st) S := by
  intro p l e s m args below meth cd D kA ad A H locs ls ad0 X ha1 ha2 hl hP hD hS
  have he := a_wl_at (kA := kA) (ad := ad) (S := S) (c := 21) (by omega)
  obtain ⟨h1, rfl⟩ := a_inb hv
  exact va_aldq (C := RX3) X.1 X.2.1 X.2.2.2.2.2.2.2.1 hP 21 4 he rfl h1 d (K p l e s m args below meth cd D kA ad A H locs ls ad0 X ha1 ha2 hl hP hD hS)
theorem J_aaldP {i : Int32} {r : Nat} (hv : a_rf 62 2 16 i = some r) (d : decode mi.1 pc = .ok (.aaload, 1)) (K : J mi res ck sk (pc + 1) L (.ref r :: st) S) : J mi res ck sk pc L (.int i :: .ref 23 :: st) S := by
  intro p l e s m args below meth cd D kA ad A H locs ls ad0 X ha1 ha2 hl hP hD hS
  have he := a_wl_at (kA := kA) (ad := ad) (S := S) (c := 23) (by omega)
  obtain ⟨h1, rfl⟩ := a_inb hv
  exact va_aldq (C := RX4) X.1 X.2.1 X.2.2.2.2.2.2.2.1 hP 23 5 he rfl h1 d (K p l e s m args below meth cd D kA ad A H locs ls ad0 X ha1 ha2 hl hP hD hS)
theorem a_clamp {i : Int32} {n : Nat} (h : vp_in i n) : i.toNatClampNeg < n := Nat.not_le.mp fun q => h (Or.inr q)
theorem a_rfL {i : Int32} {r : Nat} (hv : a_rf 24 3 10 i = some r) : a_kd r = 1 ∧ r < 94 ∧ a_kd (r + 1) = 11 ∧ r + 1 < 94 ∧ a_kd (r + 2) = 10 ∧ r + 2 < 94 := by
  obtain ⟨h1, rfl⟩ := a_inb hv
  have h2 := a_clamp h1
  generalize i.toNatClampNeg = j at h2
  revert j
  decide
theorem a_rfS {i : Int32} {r : Nat} (hv : a_rf 54 2 4 i = some r) : a_kd r = 3 ∧ r < 94 ∧ a_kd (r + 1) = 10 ∧ r + 1 < 94 := by
  obtain ⟨h1, rfl⟩ := a_inb hv
  have h2 := a_clamp h1
  generalize i.toNatClampNeg = j at h2
  revert j
  decide
theorem a_rfP {i : Int32} {r : Nat} (hv : a_rf 62 2 16 i = some r) : a_kd r = 4 ∧ r < 94 ∧ a_kd (r + 1) = 10 ∧ r + 1 < 94 := by
  obtain ⟨h1, rfl⟩ := a_inb hv
  have h2 := a_clamp h1
  generalize i.toNatClampNeg = j at h2
  revert j
  decide
theorem J_alen {c : Nat} (hk : a_kd c = 10) (hc : c < 94) (d : decode mi.1 pc = .ok (.arraylength, 1)) (K : J mi res ck sk (pc + 1) L (.int (Int32.ofNat (a_ln C c)) :: st) (C, M)) : J mi res ck sk pc L (.ref c :: st) (C, M) := by
  intro p l e s m args below meth cd D kA ad A H locs ls ad0 X ha1 ha2 hl hP hD hS
  have he := a_wl_at (kA := kA) (ad := ad) (S := (C, M)) (c := c) (by omega)
  rw [a_mk_i hk, a_rowC hc] at he
  exact va_alen (ty := .int) X.1 X.2.1 X.2.2.2.2.2.2.2.1 hP c 0 he rfl rfl d (K p l e s m args below meth cd D kA ad A H locs ls ad0 X ha1 ha2 hl hP hD hS)
/-! static tables -/
theorem J_gets {c idx : Nat} (h1 : 200 ≤ c) (h2 : c ≤ 202) (hw : Cond.fieldLink mi.2.2.1 idx "CoastLights" (a_tn c) "[I" ∈ a_tbl) (d : decode mi.1 pc = .ok (.getstatic idx, 3)) (K : J mi res ck sk (pc + 3) L (.ref c :: st) S) : J mi res ck sk pc L st S := by
  intro p l e s m args below meth cd D kA ad A H locs ls ad0 X ha1 ha2 hl hP hD hS
  exact va_gets X.1 X.2.1 (X.2.2.2.2.2.2.2.2.2 c h1 h2).1 hS X.2.2.2.1 (X.2.2.2.2.1 _ hw) (fun _ h => h) d (K p l e s m args below meth cd D kA ad A H locs ls ad0 X ha1 ha2 hl hP hD hS)
theorem J_tld {c : Nat} {i x : Int32} (h1 : 200 ≤ c) (h2 : c ≤ 202) (hv : a_tb c i = some x) (d : decode mi.1 pc = .ok (.iaload, 1)) (K : J mi res ck sk (pc + 1) L (.int x :: st) S) : J mi res ck sk pc L (.int i :: .ref c :: st) S := by
  intro p l e s m args below meth cd D kA ad A H locs ls ad0 X ha1 ha2 hl hP hD hS
  obtain ⟨h3, rfl⟩ := a_inb hv
  exact va_ti X.1 X.2.1 (X.2.2.2.2.2.2.2.2.2 c h1 h2).2 hS h3 rfl d (K p l e s m args below meth cd D kA ad A H locs ls ad0 X ha1 ha2 hl hP hD hS)
theorem J_tlen {c : Nat} {v : Int32} (h1 : 200 ≤ c) (h2 : c ≤ 202) (hv : Int32.ofNat (a_tl c) = v) (d : decode mi.1 pc = .ok (.arraylength, 1)) (K : J mi res ck sk (pc + 1) L (.int v :: st) S) : J mi res ck sk pc L (.ref c :: st) S := by
  intro p l e s m args below meth cd D kA ad A H locs ls ad0 X ha1 ha2 hl hP hD hS
  exact va_tlen X.1 X.2.1 (X.2.2.2.2.2.2.2.2.2 c h1 h2).2 hS hv d (K p l e s m args below meth cd D kA ad A H locs ls ad0 X ha1 ha2 hl hP hD hS)
/-! returns -/
theorem J_iret {v : Int32} (hr : mi.2.2.2.1 = some .int) (hck : ck = mi.2.2.2.2.cells) (hsk : sk = mi.2.2.2.2.slots) (hres : res = (some (.int v), S)) (d : decode mi.1 pc = .ok (.ireturn, 1)) : J mi res ck sk pc L [.int v] S := by
  intro p l e s m args below meth cd D kA ad A H locs ls ad0 X ha1 ha2 hl hP hD hS
  subst hck; subst hsk; subst hres
  exact W.iret X.1 X.2.1 (X.2.2.2.2.2.1.trans hr) (fun t ht hW => ⟨⟨ad, ha1, ha2, rfl, by rw [ht]; exact hP, hD⟩, hS.F ht⟩) hS.2.2 d X.2.2.2.2.2.2.1
theorem J_zret {v : Int32} (hz : v = 0 ∨ v = 1) (hr : mi.2.2.2.1 = some .boolean) (hck : ck = mi.2.2.2.2.cells) (hsk : sk = mi.2.2.2.2.slots) (hres : res = (some (.int v), S)) (d : decode mi.1 pc = .ok (.ireturn, 1)) : J mi res ck sk pc L [.int v] S := by
  intro p l e s m args below meth cd D kA ad A H locs ls ad0 X ha1 ha2 hl hP hD hS
  subst hck; subst hsk; subst hres
  exact W.zret X.1 X.2.1 (X.2.2.2.2.2.1.trans hr) (a_nz hz) (fun t ht hW => ⟨⟨ad, ha1, ha2, rfl, by rw [ht]; exact hP, hD⟩, hS.F ht⟩) hS.2.2 d X.2.2.2.2.2.2.1
theorem J_lret {v : Int64} (hr : mi.2.2.2.1 = some .long) (hck : ck = mi.2.2.2.2.cells) (hsk : sk = mi.2.2.2.2.slots) (hres : res = (some (.long v), S)) (d : decode mi.1 pc = .ok (.lreturn, 1)) : J mi res ck sk pc L [.long v] S := by
  intro p l e s m args below meth cd D kA ad A H locs ls ad0 X ha1 ha2 hl hP hD hS
  subst hck; subst hsk; subst hres
  exact W.lret X.1 X.2.1 (X.2.2.2.2.2.1.trans hr) (fun t ht hW => ⟨⟨ad, ha1, ha2, rfl, by rw [ht]; exact hP, hD⟩, hS.F ht⟩) hS.2.2 d X.2.2.2.2.2.2.1
theorem J_vret (hr : mi.2.2.2.1 = none) (hck : ck = mi.2.2.2.2.cells) (hsk : sk = mi.2.2.2.2.slots) (hres : res = (none, S)) (d : decode mi.1 pc = .ok (.return_, 1)) : J mi res ck sk pc L [] S := by
  intro p l e s m args below meth cd D kA ad A H locs ls ad0 X ha1 ha2 hl hP hD hS
  subst hck; subst hsk; subst hres
  exact W.vret X.1 X.2.1 (X.2.2.2.2.2.1.trans hr) (fun t ht hW => ⟨⟨ad, ha1, ha2, rfl, by rw [ht]; exact hP, hD⟩, hS.F ht⟩) hS.2.2 d X.2.2.2.2.2.2.1
theorem J_aret {r : Nat} {rt : FieldType} (hrt : (∃ n, rt = .object n) ∨ ∃ t, rt = .array t) (hr : mi.2.2.2.1 = some rt) (hck : ck = mi.2.2.2.2.cells) (hsk : sk = mi.2.2.2.2.slots) (hres : res = (some (.ref r), S)) (d : decode mi.1 pc = .ok (.areturn, 1)) : J mi res ck sk pc L [.ref r] S := by
  intro p l e s m args below meth cd D kA ad A H locs ls ad0 X ha1 ha2 hl hP hD hS
  subst hck; subst hsk; subst hres
  exact W.aret X.1 X.2.1 (X.2.2.2.2.2.1.trans hr) hrt (Or.inr ⟨_, rfl⟩) (fun t ht hW => ⟨⟨ad, ha1, ha2, rfl, by rw [ht]; exact hP, hD⟩, hS.F ht⟩) hS.2.2 d X.2.2.2.2.2.2.1
theorem J_aretN {rt : FieldType} (hrt : (∃ n, rt = .object n) ∨ ∃ t, rt = .array t) (hr : mi.2.2.2.1 = some rt) (hck : ck = mi.2.2.2.2.cells) (hsk : sk = mi.2.2.2.2.slots) (hres : res = (some .null, S)) (d : decode mi.1 pc = .ok (.areturn, 1)) : J mi res ck sk pc L [.null] S := by
  intro p l e s m args below meth cd D kA ad A H locs ls ad0 X ha1 ha2 hl hP hD hS
  subst hck; subst hsk; subst hres
  exact W.aret X.1 X.2.1 (X.2.2.2.2.2.1.trans hr) hrt (Or.inl rfl) (fun t ht hW => ⟨⟨ad, ha1, ha2, rfl, by rw [ht]; exact hP, hD⟩, hS.F ht⟩) hS.2.2 d X.2.2.2.2.2.2.1
end JM

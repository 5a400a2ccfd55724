theorem a_ne18 {c k : Nat} (h : a_kd c = k) (hk : k ≠ 10) : c ≠ 18 ∧ c ≠ 19 := by
  constructor
  · intro e; subst e; exact hk (h.symm.trans rfl)
  · intro e; subst e; exact hk (h.symm.trans rfl)
def mi_X0_makeRoom : aMi := (cX0_makeRoom, 1, RX0, none, { frames := 0, cells := 2, slots := 21504, locals := 0 })
/-- a fresh row for cell c -/
def a_new1 (C : aSc) (c n : Nat) : aSc := ((fun q => if q = c then (fun _ => 0) else C.1 q), C.2.1, (fun q => if q = c then n else C.2.2 q))
def f_X0_makeRoom (C : aSc) : Option aSc :=
  (some (a_pi C 14 5 ((1 : Int32) <<< ((a_gi C 14 3) &&& 31)))).bind fun C1 =>
    if a_gi C1 14 5 ≤ Int32.ofNat (a_ln C1 18) then some C1
    else if (0 ≤ (a_gi C1 14 5).toInt ∧ (a_gi C1 14 5).toInt ≤ 1024) then some (a_new1 (a_new1 C1 18 (a_gi C1 14 5).toNatClampNeg) 19 (a_gi C1 14 5 * 20).toNatClampNeg) else none
def a_ad (ad : Nat → Nat) (c q : Nat) : Nat → Nat := fun i => if i = c then q else ad i
theorem a_tgs : ∀ c, c < 104 → c ≠ 14 → ∀ t ∈ a_ft (a_kd c), 2 ≤ t → (a_tg t c ≠ 18 ∧ a_tg t c ≠ 19) := by decide
theorem a_kds : ∀ c, c < 104 → a_kd c < 16 ∧ a_kd c ≠ 9 := by decide
theorem a_mk_ad {kA : Nat → ClassId} {ad : Nat → Nat} {c q k : Nat} {r : aRw} (hc : c = 18 ∨ c = 19) (hk : k < 104) (h14 : k ≠ 14) : a_mk kA (a_ad ad c q) k r = a_mk kA ad k r := by
  have hob : ∀ n, a_kd k = n → a_fs n (a_ad ad c q) k r = a_fs n ad k r := by
    intro n hn
    apply List.ext_getElem?
    intro j
    cases ht : (a_ft n)[j]? with
    | none => simp [a_fs, List.getElem?_mapIdx, ht]
    | some t =>
      rw [a_fs_at ht, a_fs_at ht]
      have hm : t ∈ a_ft (a_kd k) := by rw [hn]; exact List.mem_of_getElem? ht
      unfold a_fv
      by_cases h0 : t = 0
      · rw [if_pos h0, if_pos h0]
      · by_cases h1 : t = 1
        · rw [if_neg h0, if_neg h0, if_pos h1, if_pos h1]
        · rw [if_neg h0, if_neg h0, if_neg h1, if_neg h1]
          have := a_tgs k hk h14 t hm (by omega)
          have e : a_tg t k ≠ c := by omega
          simp [a_ad, e]
  have hr : ∀ b s : Nat, 20 ≤ b → (fun j : Nat => some ((a_ad ad c q) (b + s * j))) = (fun j : Nat => some (ad (b + s * j))) := by
    intro b s hb
    funext j
    have : b + s * j ≠ c := by omega
    simp [a_ad, this]
  obtain ⟨h16, h9⟩ := a_kds k hk
  unfold a_mk
  generalize hn : a_kd k = n at h16 h9
  match n, h16, h9 with
  | 0, _, _ => exact congrArg (fun x => Sum.inr (0, x)) (hob 0 hn)
  | 1, _, _ => exact congrArg (fun x => Sum.inr (1, x)) (hob 1 hn)
  | 2, _, _ => exact congrArg (fun x => Sum.inr (2, x)) (hob 2 hn)
  | 3, _, _ => exact congrArg (fun x => Sum.inr (3, x)) (hob 3 hn)
  | 4, _, _ => exact congrArg (fun x => Sum.inr (4, x)) (hob 4 hn)
  | 5, _, _ => exact congrArg (fun x => Sum.inr (5, x)) (hob 5 hn)
  | 6, _, _ => exact congrArg (fun x => Sum.inr (6, x)) (hob 6 hn)
  | 7, _, _ => exact congrArg (fun x => Sum.inr (7, x)) (hob 7 hn)
  | 8, _, _ => exact congrArg (fun x => Sum.inr (8, x)) (hob 8 hn)
  | 9, _, h => exact absurd rfl h
  | 10, _, _ => rfl
  | 11, _, _ => rfl
  | 12, _, _ => rfl
  | 13, _, _ => exact congrArg (fun x => Sum.inl (kA 3, 10, Sum.inr (Sum.inr (Sum.inr (Sum.inr x))))) (hr 24 3 (by omega))
  | 14, _, _ => exact congrArg (fun x => Sum.inl (kA 4, 4, Sum.inr (Sum.inr (Sum.inr (Sum.inr x))))) (hr 54 2 (by omega))
  | 15, _, _ => exact congrArg (fun x => Sum.inl (kA 5, 16, Sum.inr (Sum.inr (Sum.inr (Sum.inr x))))) (hr 62 2 (by omega))
  | n + 16, h, _ => exact absurd h (by omega)
theorem a_repoint {kA : Nat → ClassId} {ad : Nat → Nat} {S' : aSt} {c q : Nat} {D : va_G} {A : Nat → Prop} {H : Heap} {L1 : va_W} (hc : c = 18 ∨ c = 19) (hP : va_P D vwCl L1 H) (hD : va_D A L1) (hL : ∀ k, k < 104 → k ≠ c → L1[k]? = some (ad k, a_mk kA (a_ad ad c q) k (a_row S' k))) (hq : L1[104]? = some (q, a_mk kA (a_ad ad c q) c (a_row S' c))) : va_P D vwCl (a_wl kA (a_ad ad c q) S') H ∧ va_D A (a_wl kA (a_ad ad c q) S') := by
  have key : ∀ k x, (a_wl kA (a_ad ad c q) S')[k]? = some x → L1[if k = c then 104 else k]? = some x ∧ k < 104 := by
    intro k x hx
    obtain ⟨hk, rfl⟩ := a_wl_mem hx
    refine ⟨?_, hk⟩
    by_cases h : k = c
    · subst h
      rw [if_pos rfl, hq]
      simp [a_ad]
    · rw [if_neg h, hL k hk h]
      simp [a_ad, h]
  refine ⟨fun k x hx => hP _ x (key k x hx).1, fun i j x y hx hy hxy => ?_, fun k x hx => hD.2 _ x (key k x hx).1⟩
  have h := hD.1 _ _ x y (key i x hx).1 (key j y hy).1 hxy
  have hi := (key i x hx).2
  have hj := (key j y hy).2
  by_cases h1 : i = c <;> by_cases h2 : j = c
  · omega
  · rw [if_pos h1, if_neg h2] at h; omega
  · rw [if_neg h1, if_pos h2] at h; omega
  · rw [if_neg h1, if_neg h2] at h; exact h
theorem kar0 : Cond.arrayClass .int ∈ a_tbl := a_tbl_of (List.mem_of_getElem? (i := 119) rfl) rfl
theorem a_new1_row {C : aSc} {M : aMm} {c n q : Nat} (hc : c < 94) : a_row (a_new1 C c n, M) q = if q = c then ((fun _ => 0), C.2.1 c, n) else a_row (C, M) q := by
  by_cases h : q = c
  · subst h; simp [a_row, hc, a_new1]
  · simp [a_row, a_new1, h]
theorem J_newc {mi : aMi} {res : aRes} {ck sk pc c j idx N' : Nat} {L : List (Nat × Value)} {st : List Value} {C : aSc} {M : aMm} {n : Int32} (hc : c = 18 ∨ c = 19) (hj : j = c - 12) (hw : Cond.fieldLink mi.2.2.1 idx (TX0 j).1 (TX0 j).2.1 (TX0 j).2.2.1 ∈ a_tbl) (hn : ¬ n < 0) (hN : n.toNatClampNeg = N') (hbytes : N' ≤ 100000) (hcells : ck + 1 ≤ mi.2.2.2.2.cells) (hslots : sk + N' ≤ mi.2.2.2.2.slots) (hm0 : mi.2.2.2.2.cells ≠ 0) (hL : a_stb L = true) (hst : st = []) (d1 : decode mi.1 pc = .ok (.newarray .int, 2)) (d2 : decode mi.1 (pc + 2) = .ok (.putfield idx, 3))
    (K : J mi res (ck + 1) (sk + N') (pc + 5) L st (a_new1 C c N', M)) : J mi res ck sk pc L (.int n :: .ref 14 :: st) (C, M) := by
  intro p l e s m args below meth cd D kA ad A H locs ls ad0 X ha1 ha2 hl hP hD hS
  subst hst
  refine va_newa X.1 X.2.1 (atype := .int) (ty := .int) (a0 := (N', .inl (fun _ => 0))) (X.2.2.2.2.1 _ kar0) rfl X.2.2.2.2.2.2.2.1 hP hD hS X.2.2.2.2.2.2.2.2.1 (fun _ => rfl) hn hN (by show N' * 4 ≤ 536870912; omega) hcells hslots d1 ?_
  intro a cA H1 hK1 hP1 hD1 hS1
  have hcA : cA = kA 0 := by
    have h1 := (X.2.2.2.2.2.2.2.1.2 0 (kA 0, .int) rfl).2
    have h2 := (hK1.2 (a_tys kA).length (cA, .int) (by simp)).2
    exact Option.some.inj (Eq.trans (Eq.symm h2) h1)
  subst hcA
  have hlen : (a_wl kA ad (C, M)).length = 104 := by simp [a_wl]
  have he : (a_wl kA ad (C, M) ++ [(a, Sum.inl (kA 0, N', .inl (fun _ => 0)))])[14]? = some (ad 14, .inr (0, a_fs 0 ad 14 (a_row (C, M) 14))) := by
    rw [List.getElem?_append_left (by omega), a_wl_at (by omega), a_mk_o (k := 0) rfl (by decide)]
  have hj2 : j = 6 ∨ j = 7 := by omega
  have hd : parseFieldDescriptor (TX0 j).2.2.1 = some (.array .int) := by rcases hj2 with rfl | rfl <;> decide +kernel
  have hfin : (TX0 j).2.2.2 = false := by rcases hj2 with rfl | rfl <;> rfl
  refine va_put (v := .ref a) (ty := .array .int) (C := RX0) (T := TX0) (N := 8) X.1 X.2.1 X.2.2.2.2.1 (a_cls (k := 0) (q := (RX0, TX0, 8)) rfl).1 tyX0 tyX0_ok nmX0 X.2.2.2.1 X.2.2.2.2.2.2.2.1 hP1 hD1 hS1 14 he rfl j (by omega) (X.2.2.2.2.1 _ hw) (fun _ h9 => h9) hfin hd rfl rfl (by rw [a_fs_len]; show j < 8; omega) d2 ?_
  intro H2 locs2 hP2 hD2 hS2
  have hr14 : a_row (a_new1 C c N', M) 14 = a_row (C, M) 14 := by rw [a_new1_row (by omega), if_neg (by omega)]
  have hfs : (a_fs 0 ad 14 (a_row (C, M) 14)).set j (.ref a) = a_fs 0 (a_ad ad c a) 14 (a_row (C, M) 14) := by
    rcases hc with rfl | rfl
    · have : j = 6 := by omega
      subst this
      rfl
    · have : j = 7 := by omega
      subst this
      rfl
  obtain ⟨hP3, hD3⟩ := a_repoint (kA := kA) (ad := ad) (S' := (a_new1 C c N', M)) (q := a) hc hP2 hD2 (by
    intro k hk hkc
    rw [List.getElem?_set]
    by_cases h14 : 14 = k
    · subst h14
      rw [if_pos rfl, if_pos (by simp [hlen]), a_mk_o (k := 0) rfl (by decide), hfs, hr14]
    · rw [if_neg h14, List.getElem?_append_left (by omega), a_wl_at hk, a_mk_ad hc hk (fun z => h14 z.symm), a_new1_row (by omega), if_neg hkc]) (by
    rw [List.getElem?_set, if_neg (by omega), List.getElem?_append_right (by omega), hlen]
    rw [a_mk_i (by rcases hc with rfl | rfl <;> rfl), a_new1_row (by omega), if_pos rfl]
    have : a_len c N' = N' := by rcases hc with rfl | rfl <;> rfl
    show some (a, Sum.inl (kA 0, N', Sum.inl fun _ => 0)) = some (a, Sum.inl (kA 0, a_len c N', Sum.inl fun _ => 0))
    rw [this])
  have h1 : ∀ x, ¬ (x = 18 ∨ x = 19) → a_ad ad c a x = ad x := fun x hx => by
    have : x ≠ c := by omega
    simp [a_ad, this]
  obtain ⟨hx, hbc, hml, hown, hts, hrt, hlk, hKK, hA, hSx⟩ := id X
  have X' : a_Cx mi D kA (a_ad ad c a) A p s m args meth cd := ⟨hx, hbc, hml, hown, hts, hrt, hlk, hKK, hA, fun c' h3 h4 => by rw [h1 c' (by omega)]; exact hSx c' h3 h4⟩
  exact K p l e s m args below meth cd D kA (a_ad ad c a) A H2 locs2 ls ad0 X' (fun x hx => (h1 x hx).trans (ha1 x hx)) (fun z => absurd z hm0) (by rw [a_lc_stb h1 hL]; exact hl) hP3 hD3 hS2
theorem jm_X0_makeRoom {C : aSc} {M : aMm} {res : aRes} {r : aSc} (h : f_X0_makeRoom C = some r) (Kr : ∀ (S' : aSc), r = S' → res = (none, (S', M))) : J mi_X0_makeRoom res 0 0 0 [(0, .ref 14)] [] (C, M) := by
  rw [f_X0_makeRoom] at h
  refine J_aload_n dX0_makeRoom_0 rfl 0 rfl ?_
  refine J_iconst 1 dX0_makeRoom_1 rfl ?_
  refine J_aload_n dX0_makeRoom_2 rfl 0 rfl ?_
  refine J_geti (j := 3) rfl (by decide) (by decide) rfl (by decide) rfl kf_X0_53 dX0_makeRoom_3 ?_
  refine J_ishl dX0_makeRoom_6 ?_
  obtain ⟨C1, e1, h⟩ := br_s h
  refine J_puti (j := 5) rfl (by decide) (by decide) rfl (by decide) rfl rfl rfl kf_X0_74 e1 dX0_makeRoom_7 ?_
  refine J_aload_n dX0_makeRoom_10 rfl 0 rfl ?_
  refine J_getr (j := 6) (t := 26) (r := 18) rfl (by decide) (by decide) rfl (by decide) rfl rfl kf_X0_21 dX0_makeRoom_11 ?_
  refine J_alen rfl (by decide) dX0_makeRoom_14 ?_
  refine J_aload_n dX0_makeRoom_15 rfl 0 rfl ?_
  refine J_geti (j := 5) rfl (by decide) (by decide) rfl (by decide) rfl kf_X0_74 dX0_makeRoom_16 ?_
  refine J_icmp_ge 45 dX0_makeRoom_19 (by decide) (fun c2 => ?_) (fun c2 => ?_)
  · have h := br_p c2 h
    have h := Option.some.inj h
    subst h
    refine J_wide (ck' := 2) (sk' := 21504) (by decide) (by decide) ?_
    exact J_vret rfl rfl rfl (Kr _ rfl) dX0_makeRoom_45
  · have h := br_n c2 h
    obtain ⟨⟨g1, g2⟩, h⟩ := br_g h
    have h := Option.some.inj h
    subst h
    have gn : ¬ a_gi C1 14 5 < 0 := by
      intro z
      have := Int32.lt_iff_toInt_lt.mp z
      have e0 : (0 : Int32).toInt = 0 := rfl
      omega
    obtain ⟨n, hn, en⟩ := nI_of gn
    have hti : (a_gi C1 14 5).toInt = (n : Int) := by rw [en]; exact nI_toInt hn
    have hn2 : n ≤ 1024 := by omega
    have ecl : (a_gi C1 14 5).toNatClampNeg = n := by rw [en]; exact nI_clamp hn
    have em : a_gi C1 14 5 * 20 = nI (n * 20) := by rw [en]; exact pk_mul n 20
    have ecl2 : (a_gi C1 14 5 * 20).toNatClampNeg = n * 20 := by rw [em]; exact nI_clamp (by omega)
    rw [ecl, ecl2] at Kr
    refine J_aload_n dX0_makeRoom_22 rfl 0 rfl ?_
    refine J_aload_n dX0_makeRoom_23 rfl 0 rfl ?_
    refine J_geti (j := 5) rfl (by decide) (by decide) rfl (by decide) rfl kf_X0_74 dX0_makeRoom_24 ?_
    refine J_newc (c := 18) (j := 6) (N' := n) (Or.inl rfl) rfl kf_X0_21 gn ecl (by omega) (by decide) (by show 0 + n ≤ 21504; omega) (by decide) rfl rfl dX0_makeRoom_27 dX0_makeRoom_29 ?_
    refine J_aload_n dX0_makeRoom_32 rfl 0 rfl ?_
    refine J_aload_n dX0_makeRoom_33 rfl 0 rfl ?_
    refine J_geti (j := 5) rfl (by decide) (by decide) rfl (by decide) rfl kf_X0_74 dX0_makeRoom_34 ?_
    refine J_bipush 20 dX0_makeRoom_37 rfl ?_
    refine J_imul dX0_makeRoom_39 ?_
    have eg : a_gi (a_new1 C1 18 n) 14 5 = a_gi C1 14 5 := rfl
    rw [eg]
    refine J_newc (c := 19) (j := 7) (N' := n * 20) (Or.inr rfl) rfl kf_X0_24 (by rw [em]; exact nI_pos (by omega)) ecl2 (by omega) (by decide) (by show 0 + n + n * 20 ≤ 21504; omega) (by decide) rfl rfl dX0_makeRoom_40 dX0_makeRoom_42 ?_
    refine J_wide (ck' := 2) (sk' := 21504) (by decide) (by omega) ?_
    exact J_vret rfl rfl rfl (Kr _ rfl) dX0_makeRoom_45
theorem ct_X0_makeRoom {C : aSc} {M : aMm} {S' : aSc} (h : f_X0_makeRoom C = some S') : Ct mi_X0_makeRoom yX0_makeRoom [.ref 14] (C, M) (none, (S', M)) := Ct_of_J (by decide +kernel) rfl (Nat.le_of_ble_eq_true rfl) (jm_X0_makeRoom h (fun _ e => by cases e; rfl))

set_option maxHeartbeats 4000000 in
set_option maxRecDepth 100000 in
/-- THE LAW'S LOOP -/
theorem law_loop {Ln : Nat} {xs : Nat → Int32} (hL : Ln ≤ 384) : ∀ (n t : Nat) (C : aSc) (M : aMm), 65 ≤ t + n → 6 * t ≤ Ln + 5 → Rel C M → JL Ln xs (104 + 2 * t) (29834 + 21504 * t) 18 [(0, .ref 300), (1, .ref 0), (2, .ref 94), (3, .int (nI (6 * t)))] [] (C, M) := by
  intro n
  induction n with
  | zero => intro t C M h1 h2; exact absurd h2 (by omega)
  | succ n ih =>
    intro t C M h1 h2 hR
    refine L_iload_n dL_law_18 rfl 3 rfl ?_
    refine L_aload_n dL_law_19 rfl 0 rfl ?_
    refine L_slen dL_law_20 ?_
    refine L_bipush 6 dL_law_21 rfl ?_
    refine L_isub dL_law_23 ?_
    have hsub : (Int32.ofNat Ln - 6).toInt = (Ln : Int) - 6 := pk_sub_toInt (a := Ln) (b := 6) (by omega) (by omega)
    have hti : (nI (6 * t)).toInt = ((6 * t : Nat) : Int) := nI_toInt (by omega)
    by_cases hc : Int32.ofNat Ln - 6 < nI (6 * t)
    · refine L_gtT 1320 dL_law_24 (by decide) hc ?_
      refine L_iconst 1 dL_law_1320 rfl ?_
      have ht : t ≤ 64 := by omega
      exact L_end (by omega) (by omega) dL_law_1321
    · refine L_gtF 1320 dL_law_24 (by decide) hc ?_
      have hc2 : 6 * t + 6 ≤ Ln := by
        have h3 : ¬ (Int32.ofNat Ln - 6).toInt < (nI (6 * t)).toInt := fun z => hc (Int32.lt_iff_toInt_lt.mpr z)
        rw [hsub, hti] at h3
        omega
      have ht : t ≤ 63 := by omega
      have hi0 : vp_in (nI (6 * t)) Ln := vp_in_nI (by omega) (by omega)
      have hi1 : vp_in (nI (6 * t) + (1 : Int32)) Ln := by rw [nI_1]; exact vp_in_nI (by omega) (by omega)
      have hi2 : vp_in (nI (6 * t) + (2 : Int32)) Ln := by rw [show (2 : Int32) = nI 2 from rfl, nI_add]; exact vp_in_nI (by omega) (by omega)
      have hi3 : vp_in (nI (6 * t) + (3 : Int32)) Ln := by rw [show (3 : Int32) = nI 3 from rfl, nI_add]; exact vp_in_nI (by omega) (by omega)
      have hi4 : vp_in (nI (6 * t) + (4 : Int32)) Ln := by rw [show (4 : Int32) = nI 4 from rfl, nI_add]; exact vp_in_nI (by omega) (by omega)
      have hi5 : vp_in (nI (6 * t) + (5 : Int32)) Ln := by rw [show (5 : Int32) = nI 5 from rfl, nI_add]; exact vp_in_nI (by omega) (by omega)
      have K : ∀ (C' : aSc) (M' : aMm), Rel C' M' → JL Ln xs (104 + 2 * t + 2) (29834 + 21504 * t + 21504) 1314 [(0, .ref 300), (1, .ref 0), (2, .ref 94), (3, .int (nI (6 * t)))] [] (C', M') := by
        intro C' M' hR'
        refine L_iinc (j := 3) (v := nI (6 * (t + 1))) (L' := [(3, .int (nI (6 * (t + 1)))), (0, .ref 300), (1, .ref 0), (2, .ref 94)]) dL_law_1314 rfl (by show nI (6 * t) + nI 6 = _; rw [nI_add]; rfl) (by decide) rfl ?_
        refine L_goto 18 dL_law_1317 (by decide) ?_
        refine L_sub [1, 2, 3, 0] rfl ?_
        exact ih (t + 1) C' M' (by omega) (by omega) hR'
      refine L_aload_n dL_law_27 rfl 0 rfl ?_
      refine L_iload_n dL_law_28 rfl 3 rfl ?_
      refine L_sld hi0 dL_law_29 ?_
      refine L_bipush 63 dL_law_30 rfl ?_
      refine L_iand dL_law_32 ?_
      generalize xs (nI (6 * t)).toNatClampNeg &&& 63 = op
      have hck : 104 + 2 * t + 2 ≤ 600000 := by omega
      have hsk : 29834 + 21504 * t + 21504 ≤ 7302250 := by omega
      by_cases c0 : op = 0
      · refine L_tsw 184 dL_law_33 (by decide) (by rw [c0]; decide) ?_
        exact law_case_0 hR hi1 hi2 hi3 hi4 hi5 hck hsk K
      by_cases c1 : op = 1
      · refine L_tsw 247 dL_law_33 (by decide) (by rw [c1]; decide) ?_
        exact law_case_1 hR hi1 hi2 hi3 hi4 hi5 hck hsk K
      by_cases c2 : op = 2
      · refine L_tsw 290 dL_law_33 (by decide) (by rw [c2]; decide) ?_
        exact law_case_2 hR hi1 hi2 hi3 hi4 hi5 hck hsk K
      by_cases c3 : op = 3
      · refine L_tsw 323 dL_law_33 (by decide) (by rw [c3]; decide) ?_
        exact law_case_3 hR hi1 hi2 hi3 hi4 hi5 hck hsk K
      by_cases c4 : op = 4
      · refine L_tsw 356 dL_law_33 (by decide) (by rw [c4]; decide) ?_
        exact law_case_4 hR hi1 hi2 hi3 hi4 hi5 hck hsk K
      by_cases c5 : op = 5
      · refine L_tsw 389 dL_law_33 (by decide) (by rw [c5]; decide) ?_
        exact law_case_5 hR hi1 hi2 hi3 hi4 hi5 hck hsk K
      by_cases c6 : op = 6
      · refine L_tsw 442 dL_law_33 (by decide) (by rw [c6]; decide) ?_
        exact law_case_6 hR hi1 hi2 hi3 hi4 hi5 hck hsk K
      by_cases c7 : op = 7
      · refine L_tsw 475 dL_law_33 (by decide) (by rw [c7]; decide) ?_
        exact law_case_7 hR hi1 hi2 hi3 hi4 hi5 hck hsk K
      by_cases c8 : op = 8
      · refine L_tsw 508 dL_law_33 (by decide) (by rw [c8]; decide) ?_
        exact law_case_8 hR hi1 hi2 hi3 hi4 hi5 hck hsk K
      by_cases c9 : op = 9
      · refine L_tsw 541 dL_law_33 (by decide) (by rw [c9]; decide) ?_
        exact law_case_9 hR hi1 hi2 hi3 hi4 hi5 hck hsk K
      by_cases c10 : op = 10
      · refine L_tsw 564 dL_law_33 (by decide) (by rw [c10]; decide) ?_
        exact law_case_10 hR hi1 hi2 hi3 hi4 hi5 hck hsk K
      by_cases c11 : op = 11
      · refine L_tsw 587 dL_law_33 (by decide) (by rw [c11]; decide) ?_
        exact law_case_11 hR hi1 hi2 hi3 hi4 hi5 hck hsk K
      by_cases c12 : op = 12
      · refine L_tsw 610 dL_law_33 (by decide) (by rw [c12]; decide) ?_
        exact law_case_12 hR hi1 hi2 hi3 hi4 hi5 hck hsk K
      by_cases c13 : op = 13
      · refine L_tsw 643 dL_law_33 (by decide) (by rw [c13]; decide) ?_
        exact law_case_13 hR hi1 hi2 hi3 hi4 hi5 hck hsk K
      by_cases c14 : op = 14
      · refine L_tsw 666 dL_law_33 (by decide) (by rw [c14]; decide) ?_
        exact law_case_14 hR hi1 hi2 hi3 hi4 hi5 hck hsk K
      by_cases c15 : op = 15
      · refine L_tsw 689 dL_law_33 (by decide) (by rw [c15]; decide) ?_
        exact law_case_15 hR hi1 hi2 hi3 hi4 hi5 hck hsk K
      by_cases c16 : op = 16
      · refine L_tsw 732 dL_law_33 (by decide) (by rw [c16]; decide) ?_
        exact law_case_16 hR hi1 hi2 hi3 hi4 hi5 hck hsk K
      by_cases c17 : op = 17
      · refine L_tsw 745 dL_law_33 (by decide) (by rw [c17]; decide) ?_
        exact law_case_17 hR hi1 hi2 hi3 hi4 hi5 hck hsk K
      by_cases c18 : op = 18
      · refine L_tsw 784 dL_law_33 (by decide) (by rw [c18]; decide) ?_
        exact law_case_18 hR hi1 hi2 hi3 hi4 hi5 hck hsk K
      by_cases c19 : op = 19
      · refine L_tsw 807 dL_law_33 (by decide) (by rw [c19]; decide) ?_
        exact law_case_19 hR hi1 hi2 hi3 hi4 hi5 hck hsk K
      by_cases c20 : op = 20
      · refine L_tsw 856 dL_law_33 (by decide) (by rw [c20]; decide) ?_
        exact law_case_20 hR hi1 hi2 hi3 hi4 hi5 hck hsk K
      by_cases c21 : op = 21
      · refine L_tsw 869 dL_law_33 (by decide) (by rw [c21]; decide) ?_
        exact law_case_21 hR hi1 hi2 hi3 hi4 hi5 hck hsk K
      by_cases c22 : op = 22
      · refine L_tsw 938 dL_law_33 (by decide) (by rw [c22]; decide) ?_
        exact law_case_22 hR hi1 hi2 hi3 hi4 hi5 hck hsk K
      by_cases c23 : op = 23
      · refine L_tsw 981 dL_law_33 (by decide) (by rw [c23]; decide) ?_
        exact law_case_23 hR hi1 hi2 hi3 hi4 hi5 hck hsk K
      by_cases c24 : op = 24
      · refine L_tsw 1014 dL_law_33 (by decide) (by rw [c24]; decide) ?_
        exact law_case_24 hR hi1 hi2 hi3 hi4 hi5 hck hsk K
      by_cases c25 : op = 25
      · refine L_tsw 1047 dL_law_33 (by decide) (by rw [c25]; decide) ?_
        exact law_case_25 hR hi1 hi2 hi3 hi4 hi5 hck hsk K
      by_cases c26 : op = 26
      · refine L_tsw 1070 dL_law_33 (by decide) (by rw [c26]; decide) ?_
        exact law_case_26 hR hi1 hi2 hi3 hi4 hi5 hck hsk K
      by_cases c27 : op = 27
      · refine L_tsw 1083 dL_law_33 (by decide) (by rw [c27]; decide) ?_
        exact law_case_27 hR hi1 hi2 hi3 hi4 hi5 hck hsk K
      by_cases c28 : op = 28
      · refine L_tsw 1106 dL_law_33 (by decide) (by rw [c28]; decide) ?_
        exact law_case_28 hR hi1 hi2 hi3 hi4 hi5 hck hsk K
      by_cases c29 : op = 29
      · refine L_tsw 1129 dL_law_33 (by decide) (by rw [c29]; decide) ?_
        exact law_case_29 hR hi1 hi2 hi3 hi4 hi5 hck hsk K
      by_cases c30 : op = 30
      · refine L_tsw 1172 dL_law_33 (by decide) (by rw [c30]; decide) ?_
        exact law_case_30 hR hi1 hi2 hi3 hi4 hi5 hck hsk K
      by_cases c31 : op = 31
      · refine L_tsw 1215 dL_law_33 (by decide) (by rw [c31]; decide) ?_
        exact law_case_31 hR hi1 hi2 hi3 hi4 hi5 hck hsk K
      by_cases c32 : op = 32
      · refine L_tsw 1278 dL_law_33 (by decide) (by rw [c32]; decide) ?_
        exact law_case_32 hR hi1 hi2 hi3 hi4 hi5 hck hsk K
      by_cases c33 : op = 33
      · refine L_tsw 1291 dL_law_33 (by decide) (by rw [c33]; decide) ?_
        exact law_case_33 hR hi1 hi2 hi3 hi4 hi5 hck hsk K
      refine L_tsw 1314 dL_law_33 (by decide) (by have e0 := lv_neT (a := 0) c0 rfl; have e1 := lv_neT (a := 1) c1 rfl; have e2 := lv_neT (a := 2) c2 rfl; have e3 := lv_neT (a := 3) c3 rfl; have e4 := lv_neT (a := 4) c4 rfl; have e5 := lv_neT (a := 5) c5 rfl; have e6 := lv_neT (a := 6) c6 rfl; have e7 := lv_neT (a := 7) c7 rfl; have e8 := lv_neT (a := 8) c8 rfl; have e9 := lv_neT (a := 9) c9 rfl; have e10 := lv_neT (a := 10) c10 rfl; have e11 := lv_neT (a := 11) c11 rfl; have e12 := lv_neT (a := 12) c12 rfl; have e13 := lv_neT (a := 13) c13 rfl; have e14 := lv_neT (a := 14) c14 rfl; have e15 := lv_neT (a := 15) c15 rfl; have e16 := lv_neT (a := 16) c16 rfl; have e17 := lv_neT (a := 17) c17 rfl; have e18 := lv_neT (a := 18) c18 rfl; have e19 := lv_neT (a := 19) c19 rfl; have e20 := lv_neT (a := 20) c20 rfl; have e21 := lv_neT (a := 21) c21 rfl; have e22 := lv_neT (a := 22) c22 rfl; have e23 := lv_neT (a := 23) c23 rfl; have e24 := lv_neT (a := 24) c24 rfl; have e25 := lv_neT (a := 25) c25 rfl; have e26 := lv_neT (a := 26) c26 rfl; have e27 := lv_neT (a := 27) c27 rfl; have e28 := lv_neT (a := 28) c28 rfl; have e29 := lv_neT (a := 29) c29 rfl; have e30 := lv_neT (a := 30) c30 rfl; have e31 := lv_neT (a := 31) c31 rfl; have e32 := lv_neT (a := 32) c32 rfl; have e33 := lv_neT (a := 33) c33 rfl; unfold a_tsw; rw [if_pos (by omega)]; rfl) ?_
      exact L_wide (by omega) (by omega) (K C M hR)
set_option maxHeartbeats 8000000 in
set_option maxRecDepth 100000 in
/-- THE LAW, from its entry -/
theorem whole_start {p : Program} {e : Env} {s : State} {m : MethodId} {below : List Frame} {meth : Method} {c : Code} (l : Launch) {b L : Nat} {xs : Nat → Int32} (hL : L ≤ 384) (C0 : lw_At p s m meth c b L xs) : W p l e room_1 s m #[Value.ref b] below meth c s.heap [] 0 0 (lw_Z below #[Value.ref b] s) (entryFrame m ([Value.ref b] : List Value).toArray 4) := by
  obtain ⟨hx, hb, hr, hml, hown, hts, hX, hbl, hlocks, hgv⟩ := id C0
  have hA : ∀ q : Nat, s.heap.size ≤ q → (fun q : Nat => s.heap.size ≤ q) q := fun _ h => h
  have hbA : ¬ (fun q : Nat => s.heap.size ≤ q) b := Nat.not_le.mpr hbl
  have hta : ∀ w ∈ a_tbl, w.before #[Value.ref b] s = true := fun w h => hts w (a_tbl_in h)
  obtain ⟨c0, iS0, hKn0⟩ := u_known (C := RX0) (T := TX0) (N := 8) (n := 8) hta a_in0 (hta _ kin_X0)
  obtain ⟨c1, iS1, hKn1⟩ := u_known (C := RX1) (T := TX1) (N := 12) (n := 12) hta a_in1 (hta _ kin_X1)
  obtain ⟨c2, iS2, hKn2⟩ := u_known (C := RX2) (T := TX2) (N := 3) (n := 3) hta a_in2 (hta _ kin_X2)
  obtain ⟨c3, iS3, hKn3⟩ := u_known (C := RX3) (T := TX3) (N := 3) (n := 3) hta a_in3 (hta _ kin_X3)
  obtain ⟨c4, iS4, hKn4⟩ := u_known (C := RX4) (T := TX4) (N := 4) (n := 4) hta a_in4 (hta _ kin_X4)
  obtain ⟨c5, iS5, hKn5⟩ := u_known (C := RX5) (T := TX5) (N := 9) (n := 9) hta a_in5 (hta _ kin_X5)
  obtain ⟨c6, iS6, hKn6⟩ := u_known (C := RX6) (T := TX6) (N := 6) (n := 6) hta a_in6 (hta _ kin_X6)
  obtain ⟨c7, iS7, hKn7⟩ := u_known (C := RX7) (T := TX7) (N := 19) (n := 19) hta a_in7 (hta _ kin_X7)
  obtain ⟨c8, iS8, hKn8⟩ := u_known (C := RX8) (T := TX8) (N := 19) (n := 19) hta a_in8 (hta _ kin_X8)
  obtain ⟨dC, dI, hKc⟩ : ∃ (dC : Nat → ClassId) (dI : Nat → Nat → Nat), ∀ (k : Nat) (q : vw_C), vwCl[k]? = some q → u_Kn s q.1 q.2.1 q.2.2 (dC k) (dI k) := by
    refine ⟨fun k => ([c0, c1, c2, c3, c4, c5, c6, c7, c8] : List ClassId).getD k c0, fun k => ([iS0, iS1, iS2, iS3, iS4, iS5, iS6, iS7, iS8] : List (Nat → Nat)).getD k iS0, ?_⟩
    intro k q hq
    match k, hq with
    | 0, hq => cases hq; exact hKn0
    | 1, hq => cases hq; exact hKn1
    | 2, hq => cases hq; exact hKn2
    | 3, hq => cases hq; exact hKn3
    | 4, hq => cases hq; exact hKn4
    | 5, hq => cases hq; exact hKn5
    | 6, hq => cases hq; exact hKn6
    | 7, hq => cases hq; exact hKn7
    | 8, hq => cases hq; exact hKn8
    | k + 9, hq => simp [vwCl] at hq
  obtain ⟨k0, a0, r0⟩ := l_arrP (ty := .int) (by simp) (hta _ kar_int)
  obtain ⟨k1, a1, r1⟩ := l_arrP (ty := .long) (by simp) (hta _ kar_long)
  obtain ⟨k2, a2, r2⟩ := l_arrP (ty := .boolean) (by simp) (hta _ kar_boolean)
  have hao3 : (Cond.arrayOver (.object RX1)).before #[Value.ref b] s = true := hts _ (List.mem_of_getElem? (i := 121) rfl)
  obtain ⟨k3, a3, r3⟩ := l_arrO hao3
  have hao4 : (Cond.arrayOver (.object RX3)).before #[Value.ref b] s = true := hts _ (List.mem_of_getElem? (i := 183) rfl)
  obtain ⟨k4, a4, r4⟩ := l_arrO hao4
  have hao5 : (Cond.arrayOver (.object RX4)).before #[Value.ref b] s = true := hts _ (List.mem_of_getElem? (i := 191) rfl)
  obtain ⟨k5, a5, r5⟩ := l_arrO hao5
  obtain ⟨kA, hkA⟩ : ∃ kA : Nat → ClassId, kA 0 = k0 ∧ kA 1 = k1 ∧ kA 2 = k2 ∧ kA 3 = k3 ∧ kA 4 = k4 ∧ kA 5 = k5 := ⟨fun k => ([k0, k1, k2, k3, k4, k5] : List ClassId).getD k k0, rfl, rfl, rfl, rfl, rfl, rfl⟩
  obtain ⟨rfl, rfl, rfl, rfl, rfl, rfl⟩ := hkA
  have hK : va_K (dC, dI) vwCl (a_tys kA) s := by
    refine ⟨hKc, fun k q h => ?_⟩
    match k, h with
    | 0, h => cases h; exact ⟨a0, r0⟩
    | 1, h => cases h; exact ⟨a1, r1⟩
    | 2, h => cases h; exact ⟨a2, r2⟩
    | 3, h => cases h; exact ⟨a3, r3⟩
    | 4, h => cases h; exact ⟨a4, r4⟩
    | 5, h => cases h; exact ⟨a5, r5⟩
    | k + 6, h => simp [a_tys] at h
  have hN : n_Nw s := ⟨⟨va_Nw.of rfl (hts (.methodLinkNest RX7 9 yX5_init "CoastLights") (List.mem_of_getElem? (i := 84) rfl)), va_Nw.of rfl (hts (.methodLinkNest RX7 34 yX6_init "CoastLights") (List.mem_of_getElem? (i := 124) rfl)), va_Nw.of rfl (hts (.methodLinkNest RX7 44 yX0_init "CoastLights") (List.mem_of_getElem? (i := 151) rfl)), va_Nw.of rfl (hts (.methodLinkNest RX2 15 yX4_init "CoastLights") (List.mem_of_getElem? (i := 193) rfl)), va_Nw.of rfl (hts (.methodLinkNest RX7 66 yX1_init "CoastLights") (List.mem_of_getElem? (i := 223) rfl)), va_Nw.of rfl (hts (.methodLinkNest RX7 67 yX3_init "CoastLights") (List.mem_of_getElem? (i := 278) rfl))⟩, va_AO.of hao3, va_AO.of hao4, va_AO.of hao5⟩
  have hs := flat_of_before _ hgv
  obtain ⟨t200, z200, y200⟩ := l_tab (nme := "KIND_OVER") (N := 4) (f := a_tK) (by decide) (hts (.laysStatic "CoastLights" "KIND_OVER" "[I") (List.mem_of_getElem? (i := 458) rfl)) (hta _ ki_X7) (hs _ (by decide +kernel)) (hs _ (by decide +kernel)) (fun j hj => by
    match j, hj with
    | 0, _ => exact hs _ (by decide +kernel)
    | 1, _ => exact hs _ (by decide +kernel)
    | 2, _ => exact hs _ (by decide +kernel)
    | 3, _ => exact hs _ (by decide +kernel)
    | j + 4, hj => exact absurd hj (by omega))
  obtain ⟨t201, z201, y201⟩ := l_tab (nme := "STEP_X") (N := 8) (f := a_tX) (by decide) (hts (.laysStatic "CoastLights" "STEP_X" "[I") (List.mem_of_getElem? (i := 501) rfl)) (hta _ ki_X7) (hs _ (by decide +kernel)) (hs _ (by decide +kernel)) (fun j hj => by
    match j, hj with
    | 0, _ => exact hs _ (by decide +kernel)
    | 1, _ => exact hs _ (by decide +kernel)
    | 2, _ => exact hs _ (by decide +kernel)
    | 3, _ => exact hs _ (by decide +kernel)
    | 4, _ => exact hs _ (by decide +kernel)
    | 5, _ => exact hs _ (by decide +kernel)
    | 6, _ => exact hs _ (by decide +kernel)
    | 7, _ => exact hs _ (by decide +kernel)
    | j + 8, hj => exact absurd hj (by omega))
  obtain ⟨t202, z202, y202⟩ := l_tab (nme := "STEP_Y") (N := 8) (f := a_tY) (by decide) (hts (.laysStatic "CoastLights" "STEP_Y" "[I") (List.mem_of_getElem? (i := 503) rfl)) (hta _ ki_X7) (hs _ (by decide +kernel)) (hs _ (by decide +kernel)) (fun j hj => by
    match j, hj with
    | 0, _ => exact hs _ (by decide +kernel)
    | 1, _ => exact hs _ (by decide +kernel)
    | 2, _ => exact hs _ (by decide +kernel)
    | 3, _ => exact hs _ (by decide +kernel)
    | 4, _ => exact hs _ (by decide +kernel)
    | 5, _ => exact hs _ (by decide +kernel)
    | 6, _ => exact hs _ (by decide +kernel)
    | 7, _ => exact hs _ (by decide +kernel)
    | j + 8, hj => exact absurd hj (by omega))
  have hS : va_S (fun q : Nat => s.heap.size ≤ q) s.heap s.heap [] := va_S.rf
  have hP : va_P (dC, dI) vwCl [] s.heap := fun k q h => by simp at h
  have hD : va_D (fun q : Nat => s.heap.size ≤ q) [] := ⟨fun i j p q h => by simp at h, fun k q h => by simp at h⟩
  have hl := lv_entry ([.ref b]) (n := 4) (Nat.le_of_ble_eq_true rfl)
  rw [lg_entry_eq]
  generalize (lg_sl ([.ref b]) ++ List.replicate (4 - (lg_sl ([.ref b])).length) Slot.unset).toArray = ls at hl ⊢
  have hl : lv_has ls 4 [(0, .ref b)] := hl
  refine va_new (ci := 7) (fs := [.null, .null, .int 0, .int 0, .int 0, .null, .int 0, .null, .int 0, .null, .null, .null, .null, .int 0, .null, .int 0, .null, .null, .int 0]) (C := RX7) (T := TX7) (N := 19) hx hb hta a_in7 tyX7 tyX7_ok hown (hts (.classLink R_law 7 RX7) (List.mem_of_getElem? (i := 74) rfl)) (hta _ kin_X7) (hta _ ki_X7) hK hP hD hS hA rfl dfl_X7 (Nat.le_of_ble_eq_true rfl) (Nat.le_of_ble_eq_true rfl) dL_law_0 (fun q0 H hP hD hS => ?_)
  obtain ⟨ad, had⟩ : ∃ ad : Nat → Nat, ad 0 = q0 := ⟨fun _ => q0, rfl⟩
  subst had
  have hP : va_P (dC, dI) vwCl (n_wl kA ad nw_0) H := hP
  have hD : va_D (fun q : Nat => s.heap.size ≤ q) (n_wl kA ad nw_0) := hD
  refine lv_dup hx hb dL_law_3 rfl ?_
  refine n_go (va_runI (As := []) (rest := [.ref (ad 0)]) (b := ad 0) ⟨hx, hb, hml, hown, hts⟩ (cn_34 l (dC, dI) kA ad H.size) (cwI 0 hts (fun w hw => ⟨a_tbl_in (n_goodI kd_X7_init w hw).1, (n_goodI kd_X7_init w hw).2⟩) rfl rfl rfl (hta _ ki_X7) (hts (.methodLink R_law 9 yX7_init) (List.mem_of_getElem? (i := 76) rfl)) (hts (.instanceMethod yX7_init) (List.mem_of_getElem? (i := 77) rfl)) rfl (by decide +kernel) ⟨Nat.le_of_ble_eq_true rfl, Nat.le_of_ble_eq_true rfl⟩) ⟨n_blind _ _ _ _ _ _, n_pre _ hK hN hP hD⟩ rfl rfl hl.1 rfl (lv_room (Nat.le_of_ble_eq_true rfl)) dL_law_4 ⟨Nat.le_of_ble_eq_true rfl, Nat.le_of_ble_eq_true rfl⟩) hS (n_wA hD hS hA) (fun ad1 H locs h1 hP hD hS => ?_)
  rw [← h1 0 (by decide)]
  refine lv_astore_n (lv' := [(1, .ref (ad1 0)), (0, .ref b)]) hx hb dL_law_7 rfl hl (by decide) rfl (fun ls hl => ?_)
  refine va_new (ci := 8) (fs := [.null, .null, .int 0, .int 0, .null, .int 0, .null, .null, .null, .int 0, .int 0, .int 0, .int 0, .int 0, .int 0, .int 0, .null, .null, .null]) (C := RX8) (T := TX8) (N := 19) hx hb hta a_in8 tyX8 tyX8_ok hown (hts (.classLink R_law 10 RX8) (List.mem_of_getElem? (i := 784) rfl)) (hta _ kin_X8) (hta _ ki_X8) hK hP hD hS hA rfl dfl_X8 (Nat.le_of_ble_eq_true rfl) (Nat.le_of_ble_eq_true rfl) dL_law_8 (fun q1 H hP hD hS => ?_)
  have hpush := n_push (kA := kA) (ad := ad1) (q := q1) (n := 94) (ws := nw_186) (ws' := nw_187) (e := .inr (.inr (8, [.null, .null, .int 0, .int 0, .null, .int 0, .null, .null, .null, .int 0, .int 0, .int 0, .int 0, .int 0, .int 0, .int 0, .null, .null, .null]))) (x := .inr (8, [.null, .null, .int 0, .int 0, .null, .int 0, .null, .null, .null, .int 0, .int 0, .int 0, .int 0, .int 0, .int 0, .int 0, .null, .null, .null])) rfl rfl rfl rfl
  rw [hpush] at hP hD
  have had1 : n_up ad1 94 q1 0 = ad1 0 := rfl
  have hadm : n_up ad1 94 q1 94 = q1 := rfl
  rw [← had1] at hl
  rw [← hadm]
  generalize n_up ad1 94 q1 = ad2 at hP hD hl ⊢
  refine lv_dup hx hb dL_law_11 rfl ?_
  refine n_go (va_runI (As := []) (rest := [.ref (ad2 94)]) (b := ad2 94) ⟨hx, hb, hml, hown, hts⟩ (cn_35 l (dC, dI) kA ad2 H.size) (cwI 0 hts (fun w hw => ⟨a_tbl_in (n_goodI kd_X8_init w hw).1, (n_goodI kd_X8_init w hw).2⟩) rfl rfl rfl (hta _ ki_X8) (hts (.methodLink R_law 12 yX8_init) (List.mem_of_getElem? (i := 786) rfl)) (hts (.instanceMethod yX8_init) (List.mem_of_getElem? (i := 787) rfl)) rfl (by decide +kernel) ⟨Nat.le_of_ble_eq_true rfl, Nat.le_of_ble_eq_true rfl⟩) ⟨n_blind _ _ _ _ _ _, n_pre _ hK hN hP hD⟩ rfl rfl hl.1 rfl (lv_room (Nat.le_of_ble_eq_true rfl)) dL_law_12 ⟨Nat.le_of_ble_eq_true rfl, Nat.le_of_ble_eq_true rfl⟩) hS (n_wA hD hS hA) (fun ad3 H locs h3 hP hD hS => ?_)
  rw [← h3 0 (by decide)] at hl
  rw [← h3 94 (by decide)]
  refine lv_astore_n (lv' := [(2, .ref (ad3 94)), (1, .ref (ad3 0)), (0, .ref b)]) hx hb dL_law_15 rfl hl (by decide) rfl (fun ls hl => ?_)
  refine lv_iconst (v := 0) hx hb dL_law_16 (by decide) ?_
  refine lv_istore_n (lv' := [(3, .int 0), (2, .ref (ad3 94)), (1, .ref (ad3 0)), (0, .ref b)]) hx hb dL_law_17 rfl hl (by decide) rfl (fun ls hl => ?_)
  obtain ⟨hP, hD⟩ := n_conv (fun c => if c = 200 then t200 else if c = 201 then t201 else if c = 202 then t202 else b) hP hD
  have hlp := law_loop (xs := xs) hL 65 0 a_S0.1 a_S0.2 (by omega) (by omega) rel_0
  refine hlp p l e s m below meth c b (dC, dI) kA _ H locs ls ⟨C0, hK, fun c h4 h5 => ?_, rfl⟩ (lv_sub hl [3, 2, 1, 0] rfl) hP hD hS
  rcases (show c = 200 ∨ c = 201 ∨ c = 202 by omega) with rfl | rfl | rfl
  · exact ⟨z200, y200⟩
  · exact ⟨z201, y201⟩
  · exact ⟨z202, y202⟩
-- ===== YOUR PART ENDS =====
set_option maxHeartbeats 4000000 in
theorem lw_walk (l : Launch) (b : Addr) (xs : List Int32) : MetFree l x (headSpec (Jvm.Cond.code x code maxLocals ret :: tables_1) room_1) (lw_P b xs) (fun _ _ _ _ _ => True) lw_Q := by
  refine MetFree.of_bodyS (code := code) (maxLocals := maxLocals) (ret := ret) (by decide) ?_ ?_
  · intro args s m h hn
    obtain ⟨meth, c, h1, h2, h3, h4, h5, h6, -, -⟩ := Cond.code_spec hn (atoms_spec (ws := Jvm.Cond.code x code maxLocals ret :: tables_1) h _ List.mem_cons_self)
    exact ⟨meth, c, h1, h2, h3, h4, h5, h6⟩
  · intro p e s m args below meth c s₁ B hml0 hP _
    obtain ⟨rfl, hx, hbd, hgv⟩ := hP
    obtain ⟨scr, harrAt, hlist, hof, hsmall⟩ := hx
    obtain ⟨hcb, hkn, -, -⟩ := State.arrayAt?_spec harrAt
    have hown : s.vm.findClass R_law = some m.cls := findClass_of_methodNamed B.named
    have hts0 : ∀ c ∈ (Jvm.Cond.code x code maxLocals ret :: tables_1), c.before #[Value.ref b] s = true := atoms_spec (ws := Jvm.Cond.code x code maxLocals ret :: tables_1) B.pre
    have hts : ∀ w ∈ lw_tbl, w.before #[Value.ref b] s = true := k2_hts_sels lw_privs (fun w hw => hts0 w (List.mem_cons_of_mem _ hw)) lw_privs_ok
    have hml : c.maxLocals = 4 := B.maxLocals_eq (hts0 _ List.mem_cons_self)
    have X₀ : Stand p l e room_1 s m #[Value.ref b] below meth c s₁ [] 0 0 := Stand.of_body B
    have hh0 : s₁.heap = s.heap := by rw [B.state]; rfl
    have hsz : scr.slots.size = xs.length := by rw [← Array.length_toList, hlist, List.length_map]
    have hval : ∀ j : Nat, j < xs.length → scr.slots[j]? = some (.int (xs.getD j 0)) := fun j hj => by
      rw [← Array.getElem?_toList, hlist]
      simp [hj]
    have hbl : b < s.heap.size := (Array.getElem?_eq_some_iff.mp hcb).1
    have hX : va_X b xs.length (fun j => xs.getD j 0) s s.heap := ⟨scr, hcb, hof, hkn, hsz, hval⟩
    have K : W p l e room_1 s m #[Value.ref b] below meth c s₁.heap [] 0 0 (lw_Z below #[Value.ref b] s) (entryFrame m ([Value.ref b] : List Value).toArray 4) := by
      rw [hh0]
      exact whole_start l hbd ⟨B.exec, B.bytes, B.returns, hml, hown, hts, hX, hbl, B.notSynchronized, hgv⟩
    obtain ⟨t, a1, o, b1, b2, b3⟩ := K s₁ rfl X₀
    exact ⟨t, o, a1, b1, b2, b3⟩
theorem lw_pre_spec {args : Array Value} {s : State} (h : (Jvm.Cond.and given_1 narrow_1).before args s = true) (hr : rest_1_c.before args s = true) : ∃ (b : Addr) (xs : List Int32), lw_P b xs args s := by
  have hs := flat_of_before _ h
  have hq := flat_of_before _ hr
  have hc : (Cond.count 1).before args s = true := hs _ (by decide +kernel)
  have harr : (Cond.arrayOf (.arg 0) .int).before args s = true := hs _ (by decide +kernel)
  have hle : (Cond.le (.length (.arg 0)) (.int 384)).before args s = true := hs _ (by decide +kernel)
  have hlen : (Cond.isInt (.length (.arg 0))).before args s = true := hq _ (by decide +kernel)
  have hall : (Cond.all (.arg 0) (.isInt (.elem (.arg 0) (.index 0)))).before args s = true := hq _ (by decide +kernel)
  obtain ⟨b, xs, hb, hx⟩ := State.ints_of_pre rfl harr hlen hall
  have hsm : xs.length < 2 ^ 31 := hx.choose_spec.2.2.2
  have hev : (Term.length (.arg 0)).eval args s none [] s = some (.int xs.length.toInt32) := hx.length_eval hb
  have hv := Cond.le_ints hev (show (Term.int 384).eval args s none [] s = some (.int 384) from rfl)
  have hd : xs.length.toInt32 ≤ 384 := by
    simpa [Cond.before, Cond.holds, hv] using hle
  have hN : xs.length ≤ 384 := (Int32.ofNat_le_ofNat hsm (by decide)).mp (show Int32.ofNat xs.length ≤ Int32.ofNat 384 from hd)
  exact ⟨b, xs, Cond.one_arg hc (show args[0]? = some (.ref b) from hb), hx, hN, h⟩
theorem lw_comes (l : Launch) : Comes l x (Jvm.Cond.code x code maxLocals ret :: tables_1) room_1 (fun tb e args s => Calls_1 tb e args s ∧ rest_1 tb e args s ∧ Pre_1 tb e args s)
    (fun _ _ args s o t => lw_Q args s o t) := by
  intro p e ha hc hk s m args below hf hfit hheap happ hpre
  obtain ⟨b, xs, hP⟩ := lw_pre_spec hpre.2.2 hpre.2.1
  obtain ⟨k, o, h1, h2, h3, hQ⟩ := lw_walk l b xs p e ha hc hk s m args below hf ((Spec.applies_iff_loose hf).mp happ).1 hP trivial
  exact ⟨k, o, h1, h2, h3, hQ⟩
theorem lw_frame {s t : State} {o : Outcome} {args : Array Value} (h : Framed s o t [] 600000 7302250) :
    Framed s o t (fieldLocs frame_1_writes args s ++ arrayLocs frame_1_arrays args s ++ staticLocs frame_1_statics s) 600000 7302250 := h
theorem lw_limb (L : Cond) (hL : ∀ (args : Array Value) (s t : State), L.after args s (.returned (some (.int 1))) t = true) :
    ArmFor flags0 classFile x code maxLocals ret World_1 tables_1 room_1 Calls_1 rest_1 Pre_1
      (fun tb e a s o t => postC L tb e a s o t ∧ Framed s o t (fieldLocs frame_1_writes a s ++ arrayLocs frame_1_arrays a s ++ staticLocs frame_1_statics s) 600000 7302250) := by
  intro l _ _ _ p e ha hc hk s m args below hf hfit hheap happ hpre
  obtain ⟨k, o, h1, h2, h3, rfl, hF⟩ := lw_comes l p e ha hc hk s m args below hf hfit hheap happ hpre
  exact ⟨k, _, h1, h2, h3, hL args s _, lw_frame hF⟩
theorem i_vc : Claimed_1_1 ∧ Claimed_1_2 := ⟨lw_limb limb_1_1 (fun args s t => by simp [limb_1_1, Cond.after, Cond.holds, Cond.value]), lw_limb limb_1_2 (fun args s t => Cond.after_iff.mpr (by
  first | (rw [show limb_1_2 = Cond.eq .result (.int 1) from rfl, Cond.eq_ints (x := 1) (y := 1) rfl rfl]; simp; done) | (simp [limb_1_2, Cond.value, Term.eval]; done)))⟩

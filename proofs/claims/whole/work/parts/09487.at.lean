theorem sh31 {r : Nat} (h : r < 32) : (((nI r &&& 31) : Int32).toBitVec.smod 32).toNat = r := s_l r h
theorem bit8 {b r : Nat} (hb : b < 2 ^ 31) (hr : r < 32) : (nI b >>> (nI r &&& 31)) &&& 1 = nI (if b.testBit r then 1 else 0) := by
  rw [pk_shrN hb _ r (sh31 hr), pk_andN (Nat.lt_of_le_of_lt (Nat.div_le_self _ _) (by omega)) 1 (by decide), Nat.testBit_eq_decide_div_mod_eq]
  have : b / 2 ^ r % 2 < 2 := Nat.mod_lt _ (by omega)
  congr 1
  by_cases h : b / 2 ^ r % 2 = 1
  · simp [h]
  · have h0 : b / 2 ^ r % 2 = 0 := by omega
    simp [h0]
theorem sh63 {r : Nat} (h : r < 64) : ((((nI r).toInt64 &&& 63) : Int64).toBitVec.smod 64).toNat = r := by
  rw [wb_c r h, wb_tb, wb_sm r h, BitVec.toNat_ofNat, Nat.mod_eq_of_lt (by omega)]
theorem bit7 {b r : Nat} (hb : b < 2 ^ 62) (hr : r < 64) : (lN b >>> ((nI r).toInt64 &&& 63)) &&& 1 = lN (if b.testBit r then 1 else 0) := by
  have hlt : b / 2 ^ r < 2 ^ 64 := Nat.lt_of_le_of_lt (Nat.div_le_self _ _) (by omega)
  rw [pf_shr (sh63 hr) hb, wb_a1 hlt, Nat.testBit_eq_decide_div_mod_eq]
  have : b / 2 ^ r % 2 < 2 := Nat.mod_lt _ (by omega)
  congr 1
  by_cases h : b / 2 ^ r % 2 = 1
  · simp [h]
  · have h0 : b / 2 ^ r % 2 = 0 := by omega
    simp [h0]
theorem se_lt {se b : Nat} (h : se ≤ 30) (hb : b < 2 ^ se) : b < 2 ^ 30 := Nat.lt_of_lt_of_le hb (Nat.pow_le_pow_right (by omega) h)
theorem lit7 {C : aSc} {l se b k : Nat} (h1 : 1 ≤ se) (h30 : se ≤ 30) (hb : b < 2 ^ se) (hk : k < 2 ^ 31) (c4 : C.1 (24 + 3 * l) 4 = nI se) (c5 : C.2.1 (24 + 3 * l) 5 = lN b) : f_X1_isLitAt (24 + 3 * l) (nI k) C = some (if b.testBit (k % se) then 1 else 0) := by
  have g4 : a_gi C (24 + 3 * l) 4 = nI se := c4
  have g5 : a_gl C (24 + 3 * l) 5 = lN b := c5
  have hr : k % se < se := Nat.mod_lt _ (by omega)
  have hb' := se_lt h30 hb
  rw [f_X1_isLitAt, g4, g5, if_neg (nI_nle (by omega) (by omega)), if_neg (nI_ne0 (by omega) (by omega)), pk_rem hk (by omega) (by omega), bit7 (by omega) (by omega)]
  by_cases h : b.testBit (k % se) = true
  · rw [if_pos h, if_pos h, if_pos (by decide)]
  · rw [if_neg h, if_neg h, if_neg (by decide)]
theorem has8 {M : aMm} {l se b k : Nat} (hl : l < 10) (h1 : 1 ≤ se) (h30 : se ≤ 30) (hb : b < 2 ^ se) (hk : k < 2 ^ 31) (c4 : M 1 (10 + 22 * l + 4) = nI se) (c5 : M 1 (10 + 22 * l + 5) = nI b) : f_X8_hasLight (nI l) (nI k) M = some (if b.testBit (k % se) then 1 else 0) := by
  have hlen : a_len (94 + 1) 0 = 386 := rfl
  have hr : k % se < se := Nat.mod_lt _ (by omega)
  have hb' := se_lt h30 hb
  have o5 : f_X8_of (nI l) 5 M = some (nI (10 + 22 * l + 5)) := of_nI
  have o4 : f_X8_of (nI l) 4 M = some (nI (10 + 22 * l + 4)) := of_nI
  rw [f_X8_hasLight, o5, Option.bind_some, m_ldN (by omega) (by omega), Option.bind_some, o4, Option.bind_some, m_ldN (by omega) (by omega), Option.bind_some, c4, c5, if_neg (nI_ne0 (by omega) (by omega)), pk_rem hk (by omega) (by omega), bit8 (by omega) (by omega)]
  by_cases h : b.testBit (k % se) = true
  · rw [if_pos h, if_pos h, if_pos (by decide)]
  · rw [if_neg h, if_neg h, if_neg (by decide)]
theorem ones8 {M : aMm} {b : Nat} (hb : b < 2 ^ 31) : f_X8_ones (nI b) M = some (nI (fb_ct b.testBit 30)) := by
  obtain ⟨r, h1, h2⟩ := lpf_ct (body := fun a : Int32 × Int32 => b_X8_ones_4 (nI b) a.1 a.2 M) (fun i s => (s, nI i)) (fun i s => s = nI (fb_ct b.testBit i)) 30 (Q := fun r => r = nI (fb_ct b.testBit 30)) (by
    rintro s rfl
    refine ⟨_, ?_, rfl⟩
    show b_X8_ones_4 (nI b) _ (nI 30) M = _
    rw [b_X8_ones_4, if_pos (show (30 : Int32) ≤ nI 30 from by decide)]) (by
    rintro i s hi rfl
    refine Or.inl ⟨nI (fb_ct b.testBit (i + 1)), ?_, rfl⟩
    show b_X8_ones_4 (nI b) _ (nI i) M = _
    rw [b_X8_ones_4, if_neg (show ¬ (30 : Int32) ≤ nI i from fun z => by have := (nI_leI (a := 30) (by omega) (by omega)).mp z; omega), bit8 hb (by omega), nI_add, nI_1, fb_ct_succ]) FU 0 0 (by omega) rfl (FU_lt (by omega))
  rw [show (nI 0) = (0 : Int32) from rfl] at h1
  rw [f_X8_ones, h1, Option.bind_some, h2]
theorem pr_at (a0 : Int32) (a1 : Int32) {C : aSc} {M : aMm} (hR : Rel C M) : ∃ (v : Int32) (C' : aSc) (M' : aMm), f_X7_at a0 a1 C = some (v, C') ∧ f_X8_at a0 a1 M = some (v, M') ∧ Rel C' M' := by
  obtain ⟨nl, nb, nf, nw, hz, dy, hV⟩ := hR.1
  obtain ⟨⟨h0, ⟨h1, h1'⟩, -⟩, hL, -⟩ := id hV
  rcases isLight_pair (by omega) h1 h1' a0 with ⟨l, hl, rfl, i1, i2⟩ | ⟨i1, i2⟩
  rotate_left
  · refine ⟨-100001, _, _, ?_, ?_, rel_refuse hR⟩
    · rw [f_X7_at, i1, Option.bind_some, if_pos (by decide)]; rfl
    · rw [f_X8_at, i2, Option.bind_some, if_pos (by decide)]; rfl
  by_cases hneg : a1 < 0
  · have hp : ¬ 0 ≤ a1 := (fa_of_lt hneg).2.1
    refine ⟨-100001, _, _, ?_, ?_, rel_refuse hR⟩
    · rw [f_X7_at, i1, Option.bind_some, if_neg (by decide), if_neg hp]; rfl
    · rw [f_X8_at, i2, Option.bind_some, if_neg (by decide), if_neg hp]; rfl
  obtain ⟨k, hk, rfl⟩ := nI_of hneg
  obtain ⟨-, -, -, -, ⟨se, b, s1, s2, ⟨s3, -⟩, s4, s5, s6, s7, -⟩, -⟩ := hL l hl
  have e7 := lit7 s1 s2 s3 hk s4 s6
  have e8 := has8 (M := M) (by omega) s1 s2 s3 hk s5 s7
  have hp : 0 ≤ nI k := nI_pos' hk
  by_cases ht : b.testBit (k % se) = true
  · rw [if_pos ht] at e7 e8
    refine ⟨1, C, M, ?_, ?_, hR⟩
    · rw [f_X7_at, i1, Option.bind_some, if_neg (by decide), if_pos hp, a_rfN (by omega) (by omega), Option.bind_some, e7, Option.bind_some, if_neg (by decide)]
    · rw [f_X8_at, i2, Option.bind_some, if_neg (by decide), if_pos hp, e8, Option.bind_some, if_neg (by decide)]
  · rw [if_neg ht] at e7 e8
    refine ⟨0, C, M, ?_, ?_, hR⟩
    · rw [f_X7_at, i1, Option.bind_some, if_neg (by decide), if_pos hp, a_rfN (by omega) (by omega), Option.bind_some, e7, Option.bind_some, if_pos (by decide)]
    · rw [f_X8_at, i2, Option.bind_some, if_neg (by decide), if_pos hp, e8, Option.bind_some, if_pos (by decide)]
theorem pr_lightIs (a0 : Int32) (a1 : Int32) {C : aSc} {M : aMm} (hR : Rel C M) : ∃ (v : Int32) (C' : aSc) (M' : aMm), f_X7_lightIs a0 a1 C = some (v, C') ∧ f_X8_lightIs a0 a1 M = some (v, M') ∧ Rel C' M' := by
  obtain ⟨nl, nb, nf, nw, hz, dy, hV⟩ := hR.1
  obtain ⟨⟨h0, ⟨h1, h1'⟩, -⟩, hL, -⟩ := id hV
  have hlen : a_len (94 + 1) 0 = 386 := rfl
  rcases isLight_pair (by omega) h1 h1' a0 with ⟨l, hl, rfl, i1, i2⟩ | ⟨i1, i2⟩
  rotate_left
  · refine ⟨-100001, _, _, ?_, ?_, rel_refuse hR⟩
    · rw [f_X7_lightIs, i1, Option.bind_some, if_pos (by decide)]; rfl
    · rw [f_X8_lightIs, i2, Option.bind_some, if_pos (by decide)]; rfl
  have hbad : ∀ x : Int32, (x ≠ 0 ∧ x ≠ 1 ∧ x ≠ 2 ∧ x ≠ 3 ∧ x ≠ 4 ∧ x ≠ 5 ∧ x ≠ 6 ∧ x ≠ 7) → f_X7_lightIs (nI l) x C = some (-100001, a_pi C 0 18 (a_gi C 0 18 + 1)) := by
    rintro x ⟨z0, z1, z2, z3, z4, z5, z6, z7⟩
    rw [f_X7_lightIs, i1, Option.bind_some, if_neg (by decide), a_rfN (by omega) (by omega), Option.bind_some, if_neg z0, if_neg z1, if_neg z2, if_neg z3, if_neg z4, if_neg z5, if_neg z6, if_neg z7]; rfl
  rcases nI_cases a1 7 (by decide) with ⟨k, hk, rfl⟩ | hneg | hbig
  rotate_left
  · refine ⟨-100001, _, _, hbad a1 ?_, ?_, rel_refuse hR⟩
    · refine ⟨?_, ?_, ?_, ?_, ?_, ?_, ?_, ?_⟩ <;> rintro rfl <;> exact absurd hneg (by decide)
    · rw [f_X8_lightIs, i2, Option.bind_some, if_neg (by decide), within_out (Or.inl hneg), Option.bind_some, if_pos (by decide)]; rfl
  · refine ⟨-100001, _, _, hbad a1 ?_, ?_, rel_refuse hR⟩
    · refine ⟨?_, ?_, ?_, ?_, ?_, ?_, ?_, ?_⟩ <;> rintro rfl <;> exact absurd hbig (by decide)
    · rw [f_X8_lightIs, i2, Option.bind_some, if_neg (by decide), within_out (lo := 0) (hi := 7) (Or.inr hbig), Option.bind_some, if_pos (by decide)]; rfl
  have hw : f_X8_within (nI k) 0 7 M = some 1 := within_in (lo := 0) (hi := 7) (by omega) hk (by omega)
  have e8 : k ≠ 5 → f_X8_lightIs (nI l) (nI k) M = some (M 1 (10 + 22 * l + k), M) := fun h5 => by
    rw [f_X8_lightIs, i2, Option.bind_some, if_neg (by decide), hw, Option.bind_some, if_neg (by decide), of_nI, Option.bind_some, m_ldN (by omega) (by omega), Option.bind_some, if_neg (show ¬ nI k = (5 : Int32) from fun z => h5 ((nI_eq (b := 5) (by omega) (by omega)).mp z))]
  obtain ⟨⟨x0, _, _, c0, n0⟩, ⟨x1, _, _, c1, n1⟩, ⟨x2, _, _, c2, n2⟩, ⟨x3, _, _, c3, n3⟩, ⟨se, b, s1, s2, ⟨s3, sj⟩, s4, s5, s6, s7, -⟩, ⟨ns, _, c6, n6, _⟩, ⟨x7, _, _, c7, n7⟩, -⟩ := hL l hl
  have hb' := se_lt s2 s3
  have go : ∀ (v : Int32), f_X7_lightIs (nI l) (nI k) C = some (v, C) → f_X8_lightIs (nI l) (nI k) M = some (v, M) → ∃ (v : Int32) (C' : aSc) (M' : aMm), f_X7_lightIs (nI l) (nI k) C = some (v, C') ∧ f_X8_lightIs (nI l) (nI k) M = some (v, M') ∧ Rel C' M' := fun v a b => ⟨v, C, M, a, b, hR⟩
  have e7 : f_X7_lightIs (nI l) (nI k) C = if (nI k : Int32) = 0 then some ((a_gi C (24 + 3 * l) 0), C) else if (nI k : Int32) = 1 then some ((a_gi C (24 + 3 * l) 1), C) else if (nI k : Int32) = 2 then some ((a_gi C (24 + 3 * l) 2), C) else if (nI k : Int32) = 3 then some ((a_gi C (24 + 3 * l) 3), C) else if (nI k : Int32) = 4 then some ((a_gi C (24 + 3 * l) 4), C) else if (nI k : Int32) = 5 then (f_J13_bitCount_95d88 (a_gl C (24 + 3 * l) 5)).bind fun r13 => some (r13, C) else if (nI k : Int32) = 6 then some ((a_gi C (24 + 3 * l) 8), C) else if (nI k : Int32) = 7 then some ((a_gi C (24 + 3 * l) 9), C) else bd2 (f_X7_refuse (-100001 : Int32) C) fun r17 C18 => some (r17, C18) := by
    rw [f_X7_lightIs, i1, Option.bind_some, if_neg (by decide), a_rfN (by omega) (by omega), Option.bind_some]
  have hcs : k = 0 ∨ k = 1 ∨ k = 2 ∨ k = 3 ∨ k = 4 ∨ k = 5 ∨ k = 6 ∨ k = 7 := by omega
  rcases hcs with rfl | rfl | rfl | rfl | rfl | rfl | rfl | rfl
  · refine go (nI x0) ?_ (by rw [e8 (by omega), ← n0])
    rw [e7, if_pos (by decide)]; exact congrArg (fun t => some (t, C)) c0
  · refine go (nI x1) ?_ (by rw [e8 (by omega), n1])
    rw [e7, if_neg (by decide), if_pos (by decide)]; exact congrArg (fun t => some (t, C)) c1
  · refine go (nI x2) ?_ (by rw [e8 (by omega), n2])
    rw [e7, if_neg (by decide), if_neg (by decide), if_pos (by decide)]; exact congrArg (fun t => some (t, C)) c2
  · refine go (nI x3) ?_ (by rw [e8 (by omega), n3])
    rw [e7, if_neg (by decide), if_neg (by decide), if_neg (by decide), if_pos (by decide)]; exact congrArg (fun t => some (t, C)) c3
  · refine go (nI se) ?_ (by rw [e8 (by omega), s5])
    rw [e7, if_neg (by decide), if_neg (by decide), if_neg (by decide), if_neg (by decide), if_pos (by decide)]; exact congrArg (fun t => some (t, C)) s4
  · have g5 : a_gl C (24 + 3 * l) 5 = lN b := s6
    refine go (nI (fb_ct b.testBit 30)) ?_ ?_
    · rw [e7, if_neg (by decide), if_neg (by decide), if_neg (by decide), if_neg (by decide), if_neg (by decide), if_pos (by decide), g5, sj, Option.bind_some]
    · rw [f_X8_lightIs, i2, Option.bind_some, if_neg (by decide), hw, Option.bind_some, if_neg (by decide), of_nI, Option.bind_some, m_ldN (by omega) (by omega), Option.bind_some, if_pos (by decide), s7, ones8 (by omega), Option.bind_some]
  · refine go (nI ns) ?_ (by rw [e8 (by omega), n6])
    rw [e7, if_neg (by decide), if_neg (by decide), if_neg (by decide), if_neg (by decide), if_neg (by decide), if_neg (by decide), if_pos (by decide)]; exact congrArg (fun t => some (t, C)) c6
  · refine go (nI x7) ?_ (by rw [e8 (by omega), n7])
    rw [e7, if_neg (by decide), if_neg (by decide), if_neg (by decide), if_neg (by decide), if_neg (by decide), if_neg (by decide), if_neg (by decide), if_pos (by decide)]; exact congrArg (fun t => some (t, C)) c7

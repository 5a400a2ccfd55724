theorem bt_nI {n i : Nat} (hi : i < 32) : bt (nI n) i = n.testBit i := by
  show (BitVec.ofNat 32 n).getLsbD i = _
  rw [BitVec.getLsbD_ofNat]
  simp [hi]
theorem mask_bits {nl i : Nat} (hi : i < 32) : bt (nI (2 ^ nl - 1) ^^^ -1) i = decide (nl ≤ i) := by
  rw [b_xor, b_m1 i hi, bt_nI hi, Nat.testBit_two_pow_sub_one]
  by_cases h : i < nl
  · have : ¬ nl ≤ i := by omega
    simp [h, this]
  · have : nl ≤ i := by omega
    simp [h, this]
theorem low_set {nl : Nat} (h : nl ≤ 10) (x : Int32) : (∃ k, k < 2 ^ nl ∧ x = nI k ∧ x &&& (nI (2 ^ nl - 1) ^^^ -1) = 0) ∨ (¬ x &&& (nI (2 ^ nl - 1) ^^^ -1) = 0 ∧ (x < 0 ∨ (¬ x < 0 ∧ ¬ x < nI (2 ^ nl)))) := by
  have hp : 2 ^ nl ≤ 1024 := Nat.pow_le_pow_right (n := 2) (j := 10) (by omega) h
  have hp1 : 1 ≤ 2 ^ nl := Nat.one_le_two_pow
  have key : x &&& (nI (2 ^ nl - 1) ^^^ -1) = 0 → ∃ k, k < 2 ^ nl ∧ x = nI k := by
    intro hz
    obtain ⟨n, hn, rfl⟩ := wb_of32 x
    refine ⟨n, Nat.lt_pow_two_of_testBit n (fun i hi => ?_), rfl⟩
    rcases Nat.lt_or_ge i 32 with h32 | h32
    · have e := congrArg (fun z => bt z i) hz
      rw [b_and, mask_bits h32, b_0, bt_nI h32] at e
      simpa [hi] using e
    · exact Nat.testBit_lt_two_pow (Nat.lt_of_lt_of_le hn (Nat.pow_le_pow_right (by omega) h32))
  by_cases hc : x &&& (nI (2 ^ nl - 1) ^^^ -1) = 0
  · obtain ⟨k, hk, e⟩ := key hc
    exact Or.inl ⟨k, hk, e, hc⟩
  · refine Or.inr ⟨hc, ?_⟩
    by_cases hneg : x < 0
    · exact Or.inl hneg
    · refine Or.inr ⟨hneg, fun hlt => hc ?_⟩
      obtain ⟨n, hn, rfl⟩ := nI_of hneg
      have hn2 : n < 2 ^ nl := (nI_ltI hn (by omega)).mp hlt
      apply b_ext
      intro i hi
      rw [b_and, mask_bits hi, b_0, bt_nI hi]
      by_cases h2 : nl ≤ i
      · rw [Nat.testBit_lt_two_pow (Nat.lt_of_lt_of_le hn2 (Nat.pow_le_pow_right (by omega) h2))]; rfl
      · simp [h2]
theorem mxk_zero {T : Nat → Nat} {n : Nat} (h : ∀ i, i < n → T i = 0) : mxk T n = 0 := Nat.le_zero.mp (mxk_le (fun i hi => by rw [h i hi]; exact Nat.le_refl _))
theorem pr_allApart (a0 : Int32) {C : aSc} {M : aMm} (hR : Rel C M) : ∃ (v : Int32) (C' : aSc) (M' : aMm), f_X7_allApart a0 C = some (v, C') ∧ f_X8_allApart a0 M = some (v, M') ∧ Rel C' M' := by
  obtain ⟨nl, nb, nf, nw, hz, dy, hV⟩ := hR.1
  obtain ⟨⟨h0, ⟨h1, h1'⟩, -⟩, hL, -⟩ := id hV
  have hp : 2 ^ nl ≤ 1024 := Nat.pow_le_pow_right (n := 2) (j := 10) (by omega) (by omega)
  have hp1 : 1 ≤ 2 ^ nl := Nat.one_le_two_pow
  have g2 : a_gi C 0 2 = nI nl := h1
  have hall : f_X7_allLights C = some (nI (2 ^ nl - 1)) := by
    rw [f_X7_allLights, g2, one_shl (by omega)]
    congr 1
    exact pk_sub (a := 2 ^ nl) (b := 1) hp1
  have ml0 : m_ld M 1 0 = some (nI nl) := by
    have := m_ldN (M := M) (m := 1) (k := 0) (by decide) (by decide)
    rw [h1'] at this
    exact this
  rcases low_set (show nl ≤ 10 by omega) a0 with ⟨k, hk, rfl, hc⟩ | ⟨hc, hx⟩
  rotate_left
  · refine ⟨-100001, _, _, ?_, ?_, rel_refuse hR⟩
    · rw [f_X7_allApart, hall, Option.bind_some, if_neg hc]; rfl
    · rcases hx with hx | ⟨hx, hx2⟩
      · rw [f_X8_allApart, if_pos hx]; rfl
      · rw [f_X8_allApart, if_neg hx, ml0, Option.bind_some, one_shl (by omega), if_neg hx2]; rfl
  have hk1 : k < 1024 := by omega
  have H : ∀ a, a < nl → ∀ b, b < nl → ∃ m, m ≤ 60 ∧ f_X7_mostAlike (24 + 3 * a) (24 + 3 * b) C = some (if m < 60 then nI m else -1) ∧ f_X8_alike (nI a) (nI b) M = some (nI m) := fun a ha b hb => alike_ok (by omega) (by omega) (hL a ha).2.2.2.2.1 (hL b hb).2.2.2.2.1
  obtain ⟨mm, hmm⟩ : ∃ mm : Nat → Nat → Nat, ∀ a, a < nl → ∀ b, b < nl → mm a b ≤ 60 ∧ f_X7_mostAlike (24 + 3 * a) (24 + 3 * b) C = some (if mm a b < 60 then nI (mm a b) else -1) ∧ f_X8_alike (nI a) (nI b) M = some (nI (mm a b)) := by
    refine ⟨fun a b => if h : a < nl then if h' : b < nl then Classical.choose (H a h b h') else 0 else 0, fun a ha b hb => ?_⟩
    simp only [ha, hb, dif_pos]
    exact Classical.choose_spec (H a ha b hb)
  obtain ⟨W, hW⟩ : ∃ W : Nat → Nat → Nat, W = fun a b => if a < b ∧ k.testBit a = true ∧ k.testBit b = true then mm a b else 0 := ⟨_, rfl⟩
  have hW0 : ∀ a b, ¬ (a < b ∧ k.testBit a = true ∧ k.testBit b = true) → W a b = 0 := fun a b h => by rw [hW]; exact if_neg h
  have hW1 : ∀ a b, (a < b ∧ k.testBit a = true ∧ k.testBit b = true) → W a b = mm a b := fun a b h => by rw [hW]; exact if_pos h
  have hW60 : ∀ a, a < nl → ∀ b, b < nl → W a b ≤ 60 := fun a ha b hb => by
    by_cases h : a < b ∧ k.testBit a = true ∧ k.testBit b = true
    · rw [hW1 a b h]; exact (hmm a ha b hb).1
    · rw [hW0 a b h]; omega
  have hrow : ∀ a, a < nl → ∀ n, n ≤ nl → mxk (W a) n ≤ 60 := fun a ha n hn => mxk_le (fun b hb => hW60 a ha b (by omega))
  have hbeg : ∀ a, mxk (W a) (a + 1) = 0 := fun a => mxk_zero (fun b hb => hW0 a b (by omega))
  have hmx : ∀ n, n ≤ nl → mxk (fun a => mxk (W a) nl) n ≤ 60 := fun n hn => mxk_le (fun a ha => hrow a (by omega) nl (Nat.le_refl _))
  have bit : ∀ a, a < nl → (nI k >>> (nI a &&& 31)) &&& 1 = nI (if k.testBit a then 1 else 0) := fun a ha => bit8 (by omega) (by omega)
  -- the reference
  have r8 : ∀ a, a < nl → ∀ s, s ≤ 60 → lpf (fun z : Int32 × Int32 => b_X8_allApart_42 (nI k) (nI a) z.1 z.2 M) FU (nI s, nI (a + 1)) = some (nI (max s (mxk (W a) nl))) := by
    intro a ha s hs
    obtain ⟨r, e1, e2⟩ := lpf_ct (body := fun z : Int32 × Int32 => b_X8_allApart_42 (nI k) (nI a) z.1 z.2 M) (fun b (v : Int32) => (v, nI b)) (fun b v => a < b ∧ v = nI (max s (mxk (W a) b))) nl (Q := fun r => r = nI (max s (mxk (W a) nl))) (by
      rintro v ⟨-, rfl⟩
      refine ⟨_, ?_, rfl⟩
      show b_X8_allApart_42 _ _ _ (nI nl) M = _
      rw [b_X8_allApart_42, ml0, Option.bind_some, if_pos (Int32.le_refl _)]) (by
      rintro b v hb ⟨hab, rfl⟩
      have hm := hrow a ha b (by omega)
      have hw := hW60 a ha b hb
      refine Or.inl ⟨nI (max s (mxk (W a) (b + 1))), ?_, by omega, rfl⟩
      show b_X8_allApart_42 _ _ _ (nI b) M = _
      have hbd : b_X8_allApart_42 (nI k) (nI a) (nI (max s (mxk (W a) b))) (nI b) M = some (.inl (nI (max (max s (mxk (W a) b)) (W a b)), nI (b + 1))) := by
        rw [b_X8_allApart_42, ml0, Option.bind_some, if_neg (fun z => by have := (nI_leI (by omega) (by omega)).mp z; omega), bit a ha, bit b hb, nI_1]
        cases ta : k.testBit a with
        | false =>
          rw [hW0 a b (by rw [ta]; simp)]
          rw [if_neg (by decide)]
          congr 4; omega
        | true =>
          cases tb : k.testBit b with
          | false =>
            rw [hW0 a b (by rw [tb]; simp)]
            rw [if_pos (by decide), if_neg (by decide)]
            congr 4; omega
          | true =>
            have e := hW1 a b ⟨hab, ta, tb⟩
            rw [if_pos (by decide), if_pos (by decide), (hmm a ha b hb).2.2, Option.bind_some, ← e, max_nI (by omega) (by omega)]
      refine hbd.trans ?_
      congr 4
      show max (max s (mxk (W a) b)) (W a b) = max s (max (mxk (W a) b) (W a b))
      omega) FU (a + 1) (nI s) (by omega) ⟨by omega, by rw [hbeg]; congr 1; omega⟩ (FU_lt (by omega))
    rw [e1, e2]
  have f8 : lpf (fun z : Int32 × Int32 => b_X8_allApart_27 (nI k) z.1 z.2 M) FU ((0 : Int32), (0 : Int32)) = some (nI (mxk (fun a => mxk (W a) nl) nl)) := by
    obtain ⟨r, e1, e2⟩ := lpf_ct (body := fun z : Int32 × Int32 => b_X8_allApart_27 (nI k) z.1 z.2 M) (fun a (v : Int32) => (v, nI a)) (fun a v => v = nI (mxk (fun a => mxk (W a) nl) a)) nl (Q := fun r => r = nI (mxk (fun a => mxk (W a) nl) nl)) (by
      rintro v rfl
      refine ⟨_, ?_, rfl⟩
      show b_X8_allApart_27 _ _ (nI nl) M = _
      rw [b_X8_allApart_27, ml0, Option.bind_some, if_pos (Int32.le_refl _)]) (by
      rintro a v ha rfl
      refine Or.inl ⟨nI (mxk (fun a => mxk (W a) nl) (a + 1)), ?_, rfl⟩
      show b_X8_allApart_27 _ _ (nI a) M = _
      rw [b_X8_allApart_27, ml0, Option.bind_some, if_neg (fun z => by have := (nI_leI (by omega) (by omega)).mp z; omega), nI_1, r8 a ha _ (hmx a (by omega)), Option.bind_some]
      rfl) FU 0 0 (by omega) rfl (FU_lt (by omega))
    rw [show (nI 0) = (0 : Int32) from rfl] at e1
    rw [e1, e2]
  -- the class
  have r7 : ∀ a, a < nl → ∀ s, s < 60 → ∃ r, lpf (fun z : Int32 × Int32 × aSc => b_X7_allApart_35 (nI k) (nI a) z.1 z.2.1 z.2.2) FU (nI s, nI (a + 1), C) = some r ∧ ((r = .inl (nI (max s (mxk (W a) nl)), C) ∧ mxk (W a) nl < 60) ∨ (r = .inr (-100006, a_pi C 0 18 (a_gi C 0 18 + 1)) ∧ mxk (W a) nl = 60)) := by
    intro a ha s hs
    obtain ⟨r, e1, e2⟩ := lpf_ct (body := fun z : Int32 × Int32 × aSc => b_X7_allApart_35 (nI k) (nI a) z.1 z.2.1 z.2.2) (fun b (v : Int32) => (v, nI b, C)) (fun b v => a < b ∧ v = nI (max s (mxk (W a) b)) ∧ mxk (W a) b < 60) nl (Q := fun r => (r = .inl (nI (max s (mxk (W a) nl)), C) ∧ mxk (W a) nl < 60) ∨ (r = .inr (-100006, a_pi C 0 18 (a_gi C 0 18 + 1)) ∧ mxk (W a) nl = 60)) (by
      rintro v ⟨-, rfl, hv⟩
      refine ⟨_, ?_, Or.inl ⟨rfl, hv⟩⟩
      show b_X7_allApart_35 _ _ _ (nI nl) C = _
      rw [b_X7_allApart_35, g2, if_pos (Int32.le_refl _)]) (by
      rintro b v hb ⟨hab, rfl, hv⟩
      have hw := hW60 a ha b hb
      have hbd : b_X7_allApart_35 (nI k) (nI a) (nI (max s (mxk (W a) b))) (nI b) C = if W a b < 60 then some (.inl (nI (max (max s (mxk (W a) b)) (W a b)), nI (b + 1), C)) else some (.inr (.inr (-100006, a_pi C 0 18 (a_gi C 0 18 + 1)))) := by
        rw [b_X7_allApart_35, g2, if_neg (fun z => by have := (nI_leI (by omega) (by omega)).mp z; omega), bit a ha, bit b hb, nI_1]
        cases ta : k.testBit a with
        | false =>
          rw [hW0 a b (by rw [ta]; simp)]
          rw [if_pos (by decide), if_pos (show 0 < 60 by decide)]
          congr 4; omega
        | true =>
          cases tb : k.testBit b with
          | false =>
            rw [hW0 a b (by rw [tb]; simp)]
            rw [if_neg (by decide), if_pos (by decide), if_pos (show 0 < 60 by decide)]
            congr 4; omega
          | true =>
            have e := hW1 a b ⟨hab, ta, tb⟩
            rw [if_neg (by decide), if_neg (by decide), a_rfN (by omega) (by omega), Option.bind_some, a_rfN (by omega) (by omega), Option.bind_some, (hmm a ha b hb).2.1, Option.bind_some, ← e]
            by_cases h6 : W a b < 60
            · rw [if_pos h6, if_pos h6, if_pos (nI_pos' (by omega)), max_nI (by omega) (by omega)]
            · rw [if_neg h6, if_neg h6, if_neg (by decide)]; rfl
      by_cases h6 : W a b < 60
      · refine Or.inl ⟨nI (max s (mxk (W a) (b + 1))), hbd.trans ?_, by omega, rfl, ?_⟩
        · rw [if_pos h6]
          congr 4
          show max (max s (mxk (W a) b)) (W a b) = max s (max (mxk (W a) b) (W a b))
          omega
        · show max (mxk (W a) b) (W a b) < 60
          omega
      · refine Or.inr ⟨_, hbd.trans (if_neg h6), Or.inr ⟨rfl, ?_⟩⟩
        have := mxk_ge (T := W a) hb
        have := hrow a ha nl (Nat.le_refl _)
        omega) FU (a + 1) (nI s) (by omega) ⟨by omega, by rw [hbeg]; congr 1; omega, by rw [hbeg]; decide⟩ (FU_lt (by omega))
    exact ⟨r, e1, e2⟩
  obtain ⟨r, e7, e2⟩ := lpf_ct (body := fun z : Int32 × Int32 × aSc => b_X7_allApart_22 (nI k) z.1 z.2.1 z.2.2) (fun a (v : Int32) => (v, nI a, C)) (fun a v => v = nI (mxk (fun a => mxk (W a) nl) a) ∧ mxk (fun a => mxk (W a) nl) a < 60) nl (Q := fun r => (r = .inl (nI (mxk (fun a => mxk (W a) nl) nl), C) ∧ mxk (fun a => mxk (W a) nl) nl < 60) ∨ (r = .inr (-100006, a_pi C 0 18 (a_gi C 0 18 + 1)) ∧ mxk (fun a => mxk (W a) nl) nl = 60)) (by
    rintro v ⟨rfl, hv⟩
    refine ⟨_, ?_, Or.inl ⟨rfl, hv⟩⟩
    show b_X7_allApart_22 _ _ (nI nl) C = _
    rw [b_X7_allApart_22, g2, if_pos (Int32.le_refl _)]) (by
    rintro a v ha ⟨rfl, hv⟩
    obtain ⟨r, u1, u2⟩ := r7 a ha _ hv
    have hbd : b_X7_allApart_22 (nI k) (nI (mxk (fun a => mxk (W a) nl) a)) (nI a) C = Sum.elim (fun z18a => some (.inl (z18a.1, nI (a + 1), z18a.2))) (fun z22 => some (.inr (.inr z22))) r := by
      rw [b_X7_allApart_22, g2, if_neg (fun z => by have := (nI_leI (by omega) (by omega)).mp z; omega), nI_1, u1, Option.bind_some]
    rcases u2 with ⟨rfl, u3⟩ | ⟨rfl, u3⟩
    · refine Or.inl ⟨nI (mxk (fun a => mxk (W a) nl) (a + 1)), hbd, rfl, ?_⟩
      show max (mxk (fun a => mxk (W a) nl) a) (mxk (W a) nl) < 60
      omega
    · refine Or.inr ⟨_, hbd, Or.inr ⟨rfl, ?_⟩⟩
      have h5 : mxk (W a) nl ≤ mxk (fun a => mxk (W a) nl) nl := mxk_ge (T := fun a => mxk (W a) nl) ha
      have := hmx nl (Nat.le_refl _)
      omega) FU 0 0 (by omega) ⟨rfl, by show 0 < 60; decide⟩ (FU_lt (by omega))
  rw [show (nI 0) = (0 : Int32) from rfl] at e7
  have hneg : ¬ nI k < 0 := nI_pos (by omega)
  have hlt : nI k < nI (2 ^ nl) := (nI_ltI (by omega) (by omega)).mpr hk
  rcases e2 with ⟨rfl, u⟩ | ⟨rfl, u⟩
  · refine ⟨nI (mxk (fun a => mxk (W a) nl) nl + 1), C, M, ?_, ?_, hR⟩
    · rw [f_X7_allApart, hall, Option.bind_some, if_pos hc, e7, Option.bind_some]
      show some (nI (mxk (fun a => mxk (W a) nl) nl) + 1, C) = _
      rw [nI_1]
    · rw [f_X8_allApart, if_neg hneg, ml0, Option.bind_some, one_shl (by omega), if_pos hlt, f8, Option.bind_some, if_pos (show nI (mxk (fun a => mxk (W a) nl) nl) < (60 : Int32) from (nI_ltI (b := 60) (by omega) (by omega)).mpr u), nI_1]
  · refine ⟨-100006, _, _, ?_, ?_, rel_refuse hR⟩
    · rw [f_X7_allApart, hall, Option.bind_some, if_pos hc, e7, Option.bind_some]; rfl
    · rw [f_X8_allApart, if_neg hneg, ml0, Option.bind_some, one_shl (by omega), if_pos hlt, f8, Option.bind_some, u, if_neg (by decide)]; rfl
/-! fits -/
theorem one_shlL {i : Nat} (h : i < 63) : (1 : Int64) <<< ((nI i).toInt64 &&& 63) = lN (2 ^ i) := by
  have := wb_shl 1 (k := i) (by omega)
  rw [Nat.one_mul] at this
  exact this
theorem asSec {C : aSc} {s n : Nat} (hs : s ≤ 3) (hn : n ≤ 30) (h : C.1 (54 + 2 * s) 1 = nI n) : ∃ R, R < 2 ^ n ∧ f_X3_asSeconds (54 + 2 * s) C = some (lN R) ∧ ∀ j, j < n → R.testBit j = decide (¬ C.1 (55 + 2 * s) j = 0) := by
  have g : a_gi C (54 + 2 * s) 1 = nI n := h
  have hl : a_len (55 + 2 * s) (C.2.2 (55 + 2 * s)) = 30 := lenS s _ hs
  obtain ⟨r, e1, R, q1, q2, q3⟩ := lpf_ct (body := fun a : Int64 × Int32 => b_X3_asSeconds_4 (54 + 2 * s) a.1 a.2 C) (fun i (v : Int64) => (v, nI i)) (fun i v => ∃ R, R < 2 ^ i ∧ v = lN R ∧ ∀ j, j < i → R.testBit j = decide (¬ C.1 (55 + 2 * s) j = 0)) n (Q := fun v => ∃ R, R < 2 ^ n ∧ v = lN R ∧ ∀ j, j < n → R.testBit j = decide (¬ C.1 (55 + 2 * s) j = 0)) (by
    intro v hv
    refine ⟨v, ?_, hv⟩
    show b_X3_asSeconds_4 _ v (nI n) C = _
    rw [b_X3_asSeconds_4, g, if_pos (Int32.le_refl _)]) (by
    rintro i v hi ⟨R, q1, rfl, q3⟩
    have hR : R < 2 ^ (i + 1) := Nat.lt_of_lt_of_le q1 (Nat.pow_le_pow_right (by omega) (by omega))
    have hbd : b_X3_asSeconds_4 (54 + 2 * s) (lN R) (nI i) C = if C.1 (55 + 2 * s) i = 0 then some (.inl (lN R, nI (i + 1))) else some (.inl (lN (R ||| 2 ^ i), nI (i + 1))) := by
      rw [b_X3_asSeconds_4, g, if_neg (fun z => by have := (nI_leI (by omega) (by omega)).mp z; omega), show 54 + 2 * s + 1 = 55 + 2 * s by omega, a_ldN (by omega) (by omega), Option.bind_some, one_shlL (by omega), fb_orL, nI_1]
    by_cases hc : C.1 (55 + 2 * s) i = 0
    · refine Or.inl ⟨lN R, hbd.trans (if_pos hc), R, hR, rfl, fun j hj => ?_⟩
      by_cases e : j = i
      · subst e
        rw [Nat.testBit_lt_two_pow q1]; simp [hc]
      · exact q3 j (by omega)
    · refine Or.inl ⟨lN (R ||| 2 ^ i), hbd.trans (if_neg hc), R ||| 2 ^ i, or_lt q1, rfl, fun j hj => ?_⟩
      rw [fb_bit_set]
      by_cases e : j = i
      · subst e
        simp [hc]
      · rw [q3 j (by omega)]
        simp [e]) FU 0 0 (by omega) ⟨0, by decide, rfl, fun j hj => absurd hj (by omega)⟩ (FU_lt (by omega))
  rw [show (nI 0) = (0 : Int32) from rfl] at e1
  exact ⟨R, q1, by rw [f_X3_asSeconds, e1, Option.bind_some, q2], q3⟩
def fitA (b se n : Nat) (f : Nat → Int32) (i : Nat) : Prop := ∀ j, j < n → b.testBit ((i + j) % se) = decide (¬ f j = 0)
theorem hasRow7 {C : aSc} {N : Nat → Int32} {l n R : Nat} {f : Nat → Int32} (hl : l < 10) (hn : n ≤ 30) (hR : R < 2 ^ n) (hb : ∀ j, j < n → R.testBit j = decide (¬ f j = 0)) {se b : Nat} (h1 : 1 ≤ se) (h30 : se ≤ 30) (c4 : C.1 (24 + 3 * l) 4 = nI se) (hp : ∀ i, i < se → ∃ p, p < 2 ^ 64 ∧ C.2.1 (25 + 3 * l) i = lN p ∧ ∀ j, j < 64 → p.testBit j = b.testBit ((i + j) % se)) : (f_X1_hasRow (24 + 3 * l) (lN R) (nI n) C = some 1 ∧ ∃ i, i < se ∧ fitA b se n f i) ∨ (f_X1_hasRow (24 + 3 * l) (lN R) (nI n) C = some 0 ∧ ∀ i, i < se → ¬ fitA b se n f i) := by
  have g4 : a_gi C (24 + 3 * l) 4 = nI se := c4
  have la : a_len (25 + 3 * l) (C.2.2 (25 + 3 * l)) = 30 := lenF l _ hl
  have hw : (1 : Int64) <<< ((nI n).toInt64 &&& 63) - 1 = lN (2 ^ n - 1) := by
    rw [one_shlL (by omega)]
    exact lN_sub (b := 1) Nat.one_le_two_pow
  have hpn : 2 ^ n ≤ 2 ^ 30 := Nat.pow_le_pow_right (by omega) hn
  obtain ⟨r, e1, q1⟩ := lpf_ct (body := fun a : Int32 => b_X1_hasRow_10 (24 + 3 * l) (lN R) (lN (2 ^ n - 1)) a C) (fun i (_ : Unit) => nI i) (fun i _ => ∀ j, j < i → ¬ fitA b se n f j) se (Q := fun r => (r = .inr 1 ∧ ∃ i, i < se ∧ fitA b se n f i) ∨ (r = .inl () ∧ ∀ i, i < se → ¬ fitA b se n f i)) (by
    intro _ hI
    refine ⟨.inl (), ?_, Or.inr ⟨rfl, hI⟩⟩
    show b_X1_hasRow_10 _ _ _ (nI se) C = _
    rw [b_X1_hasRow_10, g4, if_pos (Int32.le_refl _)]) (by
    intro i _ hi hI
    obtain ⟨p, p1, p2, p3⟩ := hp i hi
    have hpm : p % 2 ^ n < 2 ^ n := Nat.mod_lt _ (Nat.two_pow_pos n)
    have hbd : b_X1_hasRow_10 (24 + 3 * l) (lN R) (lN (2 ^ n - 1)) (nI i) C = if (lg_cmp (lN (p % 2 ^ n)) (lN R) : Int32) = 0 then some (.inr (.inr 1)) else some (.inl (nI (i + 1))) := by
      rw [b_X1_hasRow_10, g4, if_neg (fun z => by have := (nI_leI (by omega) (by omega)).mp z; omega), show 24 + 3 * l + 1 = 25 + 3 * l by omega, a_ldlN (by omega) (by omega), Option.bind_some, p2, fb_maskL, nI_1]
    have hiff : (lg_cmp (lN (p % 2 ^ n)) (lN R) : Int32) = 0 ↔ fitA b se n f i := by
      rw [lg_cmp_eq, pk_lEQ (by omega) (by omega)]
      constructor
      · intro e j hj
        have : (p % 2 ^ n).testBit j = R.testBit j := by rw [e]
        rw [Nat.testBit_mod_two_pow, p3 j (by omega), hb j hj] at this
        simpa [hj] using this
      · intro hfa
        apply Nat.eq_of_testBit_eq
        intro j
        rw [Nat.testBit_mod_two_pow]
        by_cases hj : j < n
        · rw [p3 j (by omega), hfa j hj, hb j hj]; simp [hj]
        · rw [Nat.testBit_lt_two_pow (Nat.lt_of_lt_of_le hR (Nat.pow_le_pow_right (by omega) (show n ≤ j by omega)))]
          simp [hj]
    by_cases hf : fitA b se n f i
    · exact Or.inr ⟨.inr 1, hbd.trans (if_pos (hiff.mpr hf)), Or.inl ⟨rfl, i, hi, hf⟩⟩
    · refine Or.inl ⟨(), hbd.trans (if_neg (fun z => hf (hiff.mp z))), fun j hj => ?_⟩
      by_cases e : j = i
      · subst e; exact hf
      · exact hI j (by omega)) FU 0 () (by omega) (fun j hj => absurd hj (by omega)) (FU_lt (by omega))
  rw [show (nI 0) = (0 : Int32) from rfl] at e1
  rcases q1 with ⟨rfl, q⟩ | ⟨rfl, q⟩
  · exact Or.inl ⟨by rw [f_X1_hasRow, hw, e1, Option.bind_some]; rfl, q⟩
  · exact Or.inr ⟨by rw [f_X1_hasRow, hw, e1, Option.bind_some]; rfl, q⟩
theorem fitsFrom8 {M : aMm} {l s n se b i : Nat} (hl : l < 10) (hs : s ≤ 3) (hn : n ≤ 30) (h5 : M 5 s = nI n) (h1 : 1 ≤ se) (h30 : se ≤ 30) (hb : b < 2 ^ se) (n4 : M 1 (10 + 22 * l + 4) = nI se) (n5 : M 1 (10 + 22 * l + 5) = nI b) (hi : i < se) : (f_X8_fitsFrom (nI l) (nI i) (nI s) M = some 1 ∧ fitA b se n (fun j => M 6 (30 * s + j)) i) ∨ (f_X8_fitsFrom (nI l) (nI i) (nI s) M = some 0 ∧ ¬ fitA b se n (fun j => M 6 (30 * s + j)) i) := by
  have l5 : a_len (94 + 5) 0 = 4 := rfl
  have l6 : a_len (94 + 6) 0 = 120 := rfl
  obtain ⟨r, e1, q1⟩ := lpf_ct (body := fun a : Int32 => b_X8_fitsFrom_3 (nI l) (nI i) (nI s) a M) (fun j (_ : Unit) => nI j) (fun j _ => fitA b se j (fun j => M 6 (30 * s + j)) i) n (Q := fun r => (r = .inl () ∧ fitA b se n (fun j => M 6 (30 * s + j)) i) ∨ (r = .inr 0 ∧ ¬ fitA b se n (fun j => M 6 (30 * s + j)) i)) (by
    intro _ hI
    refine ⟨.inl (), ?_, Or.inl ⟨rfl, hI⟩⟩
    show b_X8_fitsFrom_3 _ _ _ (nI n) M = _
    rw [b_X8_fitsFrom_3, m_ldN (by omega) (by omega), Option.bind_some, h5, if_pos (Int32.le_refl _)]) (by
    intro j _ hj hI
    have u1 := has8 (M := M) (k := i + j) hl h1 h30 hb (by omega) n4 n5
    have e30 : (30 : Int32) * nI s + nI j = nI (30 * s + j) := by rw [show (30 : Int32) = nI 30 from rfl, pk_mul, nI_add]
    have hbd : b_X8_fitsFrom_3 (nI l) (nI i) (nI s) (nI j) M = if M 6 (30 * s + j) = 0 then if (if b.testBit ((i + j) % se) then (1 : Int32) else 0) = 0 then some (.inl (nI (j + 1))) else some (.inr (.inr 0)) else if (if b.testBit ((i + j) % se) then (1 : Int32) else 0) = 1 then some (.inl (nI (j + 1))) else some (.inr (.inr 0)) := by
      rw [b_X8_fitsFrom_3, m_ldN (by omega) (by omega), Option.bind_some, h5, if_neg (fun z => by have := (nI_leI (by omega) (by omega)).mp z; omega), nI_add, u1, Option.bind_some, e30, m_ldN (by omega) (by omega), Option.bind_some, nI_1]
    have hgo : b.testBit ((i + j) % se) = decide (¬ M 6 (30 * s + j) = 0) → fitA b se (j + 1) (fun j => M 6 (30 * s + j)) i := fun e j' hj' => by
      by_cases ej : j' = j
      · subst ej; exact e
      · exact hI j' (by omega)
    have hno : ¬ b.testBit ((i + j) % se) = decide (¬ M 6 (30 * s + j) = 0) → ¬ fitA b se n (fun j => M 6 (30 * s + j)) i := fun e hf => e (hf j hj)
    by_cases hc : M 6 (30 * s + j) = 0
    · rw [if_pos hc] at hbd
      cases hx : b.testBit ((i + j) % se) with
      | false =>
        rw [hx] at hbd
        exact Or.inl ⟨(), hbd.trans (if_pos (by decide)), hgo (by rw [hx]; simp [hc])⟩
      | true =>
        rw [hx] at hbd
        exact Or.inr ⟨.inr 0, hbd.trans (if_neg (by decide)), Or.inr ⟨rfl, hno (by rw [hx]; simp [hc])⟩⟩
    · rw [if_neg hc] at hbd
      cases hx : b.testBit ((i + j) % se) with
      | false =>
        rw [hx] at hbd
        exact Or.inr ⟨.inr 0, hbd.trans (if_neg (by decide)), Or.inr ⟨rfl, hno (by rw [hx]; simp [hc])⟩⟩
      | true =>
        rw [hx] at hbd
        exact Or.inl ⟨(), hbd.trans (if_pos (by decide)), hgo (by rw [hx]; simp [hc])⟩) FU 0 () (by omega) (fun j hj => absurd hj (by omega)) (FU_lt (by omega))
  rw [show (nI 0) = (0 : Int32) from rfl] at e1
  rcases q1 with ⟨rfl, q⟩ | ⟨rfl, q⟩
  · exact Or.inl ⟨by rw [f_X8_fitsFrom, e1, Option.bind_some]; rfl, q⟩
  · exact Or.inr ⟨by rw [f_X8_fitsFrom, e1, Option.bind_some]; rfl, q⟩
theorem pr_fits (a0 : Int32) {C : aSc} {M : aMm} (hR : Rel C M) : ∃ (v : Int32) (C' : aSc) (M' : aMm), f_X7_fits a0 C = some (v, C') ∧ f_X8_fits a0 M = some (v, M') ∧ Rel C' M' := by
  have hl4 : a_len (94 + 4) 0 = 4 := rfl
  have hlen : a_len (94 + 1) 0 = 386 := rfl
  rcases sheet_pair (C := C) (M := M) a0 with ⟨s, hs, rfl, j1, j2⟩ | ⟨j1, j2⟩
  rotate_left
  · refine ⟨-100001, _, _, ?_, ?_, rel_refuse hR⟩
    · rw [f_X7_fits, j1, Option.bind_some, if_pos (by decide)]; rfl
    · rw [f_X8_fits, j2, Option.bind_some, if_pos (by decide)]; rfl
  obtain ⟨w, n, q1, q2, q3, q4, q5, q6, q7, q8⟩ := hR.2.2.1 s (by omega)
  have c0 : a_gi C (54 + 2 * s) 0 = nI w := q4
  have c1 : a_gi C (54 + 2 * s) 1 = nI n := q6
  have ml4 : m_ld M 4 (nI s) = some (nI w) := by rw [m_ldN (by omega) (by omega), q5]
  by_cases h0 : w = 0
  · subst h0
    refine ⟨-100002, _, _, ?_, ?_, rel_refuse hR⟩
    · rw [f_X7_fits, j1, Option.bind_some, if_neg (by decide), a_rfN (by omega) (by omega), Option.bind_some, c0, if_pos (by decide)]; rfl
    · rw [f_X8_fits, j2, Option.bind_some, if_neg (by decide), ml4, Option.bind_some, if_pos (by decide)]; rfl
  have hne : ¬ nI w = 0 := nI_ne0 (by omega) (by omega)
  obtain ⟨nl, nb, nf, nw, hz, dy, hV⟩ := hR.1
  obtain ⟨⟨hb0, ⟨h1, h1'⟩, -⟩, hL, -⟩ := id hV
  have g2 : a_gi C 0 2 = nI nl := h1
  have ml0 : m_ld M 1 0 = some (nI nl) := by
    have := m_ldN (M := M) (m := 1) (k := 0) (by decide) (by decide)
    rw [h1'] at this
    exact this
  obtain ⟨R, hR1, hR2, hR3⟩ := asSec (C := C) hs q2 q6
  have hR3' : ∀ j, j < n → R.testBit j = decide (¬ (fun j => M 6 (30 * s + j)) j = 0) := fun j hj => by
    rw [hR3 j hj, q8 j (by omega)]
  obtain ⟨b, b', e1, e2, v, hv, rfl, rfl⟩ := lpf_ct2 (body := fun a : Int32 × Int32 => b_X7_fits_46 (54 + 2 * s) (lN R) a.1 a.2 C) (body' := fun a : Int32 × Int32 => b_X8_fits_34 (nI s) a.1 a.2 M) (fun i (t : Nat) => (nI t, nI i)) (fun i t => (nI t, nI i)) (fun i t => t < 2 ^ i) nl (Q := fun b b' => ∃ t, t < 2 ^ nl ∧ b = nI t ∧ b' = nI t) (by
    intro t ht
    refine ⟨nI t, nI t, ?_, ?_, t, ht, rfl, rfl⟩
    · show b_X7_fits_46 _ _ (nI t) (nI nl) C = _
      rw [b_X7_fits_46, g2, if_pos (Int32.le_refl _)]
    · show b_X8_fits_34 _ (nI t) (nI nl) M = _
      rw [b_X8_fits_34, ml0, Option.bind_some, if_pos (Int32.le_refl _)]) (by
    intro l t hl ht
    obtain ⟨-, -, -, -, ⟨se, b, s1, s2, ⟨s3, -⟩, s4, s5, s6, s7, s8⟩, -⟩ := hL l hl
    have hn : ¬ nI nl ≤ nI l := fun z => by have := (nI_leI (by omega) (by omega)).mp z; omega
    have x7 := hasRow7 (C := C) (N := M 1) (l := l) (n := n) (R := R) (f := fun j => M 6 (30 * s + j)) (by omega) q2 hR1 hR3' s1 s2 s4 s8
    have o4 : f_X8_of (nI l) 4 M = some (nI (10 + 22 * l + 4)) := of_nI
    obtain ⟨r, u1, u2⟩ := lpf_ct (body := fun z : Int32 × Int32 => b_X8_fits_47 (nI s) (nI l) z.1 z.2 M) (fun i (v : Int32) => (v, nI i)) (fun i v => (v = nI t ∧ ∀ j, j < i → ¬ fitA b se n (fun j => M 6 (30 * s + j)) j) ∨ (v = nI (t ||| 2 ^ l) ∧ ∃ j, j < se ∧ fitA b se n (fun j => M 6 (30 * s + j)) j)) se (Q := fun v => (v = nI t ∧ ∀ j, j < se → ¬ fitA b se n (fun j => M 6 (30 * s + j)) j) ∨ (v = nI (t ||| 2 ^ l) ∧ ∃ j, j < se ∧ fitA b se n (fun j => M 6 (30 * s + j)) j)) (by
      intro v hv
      refine ⟨v, ?_, hv⟩
      show b_X8_fits_47 _ _ v (nI se) M = _
      rw [b_X8_fits_47, o4, Option.bind_some, m_ldN (by omega) (by omega), Option.bind_some, s5, if_pos (Int32.le_refl _)]) (by
      intro i v hi hv
      have hbd : ∀ q : Int32, f_X8_fitsFrom (nI l) (nI i) (nI s) M = some q → b_X8_fits_47 (nI s) (nI l) v (nI i) M = if q = 0 then some (.inl (v ||| 0, nI (i + 1))) else some (.inl (v ||| nI (2 ^ l), nI (i + 1))) := by
        intro q hq
        rw [b_X8_fits_47, o4, Option.bind_some, m_ldN (by omega) (by omega), Option.bind_some, s5, if_neg (fun z => by have := (nI_leI (by omega) (by omega)).mp z; omega), hq, Option.bind_some, one_shl (by omega), nI_1]
      rcases fitsFrom8 (M := M) (l := l) (s := s) (n := n) (i := i) (by omega) hs q2 q7 s1 s2 s3 s5 s7 hi with ⟨y1, y2⟩ | ⟨y1, y2⟩
      · refine Or.inl ⟨nI (t ||| 2 ^ l), (hbd 1 y1).trans ?_, Or.inr ⟨rfl, i, hi, y2⟩⟩
        rw [if_neg (by decide)]
        rcases hv with ⟨rfl, _⟩ | ⟨rfl, _⟩
        · rw [fa_or]
        · rw [fa_or, Nat.or_assoc, Nat.or_self]
      · refine Or.inl ⟨v, (hbd 0 y1).trans ?_, ?_⟩
        · rw [if_pos (by decide), Int32.or_zero]
        · rcases hv with ⟨rfl, hv⟩ | hv
          · refine Or.inl ⟨rfl, fun j hj => ?_⟩
            by_cases e : j = i
            · subst e; exact y2
            · exact hv j (by omega)
          · exact Or.inr hv) FU 0 (nI t) (by omega) (Or.inl ⟨rfl, fun j hj => absurd hj (by omega)⟩) (FU_lt (by omega))
    rw [show (nI 0) = (0 : Int32) from rfl] at u1
    have b8 : b_X8_fits_34 (nI s) (nI t) (nI l) M = some (.inl (r, nI (l + 1))) := by
      rw [b_X8_fits_34, ml0, Option.bind_some, if_neg hn, u1, Option.bind_some, nI_1]
    have b7 : ∀ q : Int32, f_X1_hasRow (24 + 3 * l) (lN R) (nI n) C = some q → b_X7_fits_46 (54 + 2 * s) (lN R) (nI t) (nI l) C = if q = 0 then some (.inl (nI t, nI (l + 1))) else some (.inl (nI (t ||| 2 ^ l), nI (l + 1))) := by
      intro q hq
      rw [b_X7_fits_46, g2, if_neg hn, a_rfN (by omega) (by omega), Option.bind_some, c1, hq, Option.bind_some, one_shl (by omega), fa_or, nI_1]
    have ht' : t < 2 ^ (l + 1) := Nat.lt_of_lt_of_le ht (Nat.pow_le_pow_right (by omega) (by omega))
    rcases x7 with ⟨a7, p7⟩ | ⟨a7, p7⟩
    · rcases u2 with ⟨rfl, p8⟩ | ⟨rfl, p8⟩
      · obtain ⟨i, hi, hf⟩ := p7
        exact absurd hf (p8 i hi)
      · exact Or.inl ⟨t ||| 2 ^ l, (b7 1 a7).trans (if_neg (by decide)), b8, or_lt ht⟩
    · rcases u2 with ⟨rfl, p8⟩ | ⟨rfl, p8⟩
      · exact Or.inl ⟨t, (b7 0 a7).trans (if_pos (by decide)), b8, ht'⟩
      · obtain ⟨i, hi, hf⟩ := p8
        exact absurd hf (p7 i hi)) FU 0 0 (by omega) (by decide) (FU_lt (by omega))
  rw [show (nI 0) = (0 : Int32) from rfl] at e1 e2
  refine ⟨nI v, C, M, ?_, ?_, hR⟩
  · rw [f_X7_fits, j1, Option.bind_some, if_neg (by decide), a_rfN (by omega) (by omega), Option.bind_some, c0, if_neg hne, hR2, Option.bind_some, e1, Option.bind_some]
  · rw [f_X8_fits, j2, Option.bind_some, if_neg (by decide), ml4, Option.bind_some, if_neg hne, e2, Option.bind_some]

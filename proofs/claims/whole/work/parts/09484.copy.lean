theorem has_ok {C : aSc} {s k : Nat} (hk : k ≤ 30) (h : C.1 (54 + 2 * s) 1 = nI k) (x y : Int32) : f_X3_hasNumbers (54 + 2 * s) x y C = some (if 0 ≤ x.toInt ∧ 0 ≤ y.toInt ∧ x.toInt + y.toInt ≤ k then 1 else 0) := by
  have g : a_gi C (54 + 2 * s) 1 = nI k := h
  have e0 : (0 : Int32).toInt = 0 := rfl
  have ek : (nI k).toInt = k := nI_toInt (by omega)
  rw [f_X3_hasNumbers, g]
  by_cases c1 : x < 0
  · have := Int32.lt_iff_toInt_lt.mp c1
    rw [if_pos c1, if_neg (by omega)]
  have d1 : ¬ x.toInt < (0 : Int32).toInt := fun z => c1 (Int32.lt_iff_toInt_lt.mpr z)
  by_cases c2 : y < 0
  · have := Int32.lt_iff_toInt_lt.mp c2
    rw [if_neg c1, if_pos c2, if_neg (by omega)]
  have d2 : ¬ y.toInt < (0 : Int32).toInt := fun z => c2 (Int32.lt_iff_toInt_lt.mpr z)
  by_cases c3 : nI k < x
  · have := Int32.lt_iff_toInt_lt.mp c3
    rw [if_neg c1, if_neg c2, if_pos c3, if_neg (by omega)]
  have d3 : ¬ (nI k).toInt < x.toInt := fun z => c3 (Int32.lt_iff_toInt_lt.mpr z)
  have es : (nI k - x).toInt = (nI k).toInt - x.toInt := fb_subI (by omega) (by omega)
  by_cases c4 : nI k - x < y
  · have := Int32.lt_iff_toInt_lt.mp c4
    rw [if_neg c1, if_neg c2, if_neg c3, if_pos c4, if_neg (by omega)]
  have d4 : ¬ (nI k - x).toInt < y.toInt := fun z => c4 (Int32.lt_iff_toInt_lt.mpr z)
  rw [if_neg c1, if_neg c2, if_neg c3, if_neg c4, if_pos (by omega)]
theorem lg_sum (x y : Int32) {k : Nat} (hk : k ≤ 30) : (0 < lg_cmp (x.toInt64 + y.toInt64) (nI k).toInt64 ↔ (k : Int) < x.toInt + y.toInt) ∧ (lg_cmp (x.toInt64 + y.toInt64) (nI k).toInt64 ≤ 0 ↔ x.toInt + y.toInt ≤ k) := by
  have ek : (nI k).toInt64.toInt = k := by rw [Int32.toInt_toInt64, nI_toInt (by omega)]
  rw [lg_cmp_gt, lg_cmp_le, Int64.lt_iff_toInt_lt, Int64.le_iff_toInt_le, lg_i2l_add, ek]
  exact ⟨Iff.rfl, Iff.rfl⟩
theorem copy127 (M : aMm) {s f n : Nat} (x3 x4 : Int32) (hs : s ≤ 3) (hn : f + n ≤ 30) : ∃ M', lpf (fun a : Int32 × aMm => b_X8_copy_127 (nI s) (nI f) x3 x4 (nI n) a.1 a.2) FU ((0 : Int32), M) = some M' ∧ (∀ c j, c ≠ 9 → M' c j = M c j) ∧ (∀ j, j < n → M' 9 j = M 6 (30 * s + f + j)) := by
  have l6 : a_len (94 + 6) 0 = 120 := rfl
  have l9 : a_len (94 + 9) 0 = 30 := rfl
  obtain ⟨b, h1, h2⟩ := lpf_ct (body := fun a : Int32 × aMm => b_X8_copy_127 (nI s) (nI f) x3 x4 (nI n) a.1 a.2) (fun i s => (nI i, s)) (fun i t => (∀ c j, c ≠ 9 → t c j = M c j) ∧ (∀ j, j < i → t 9 j = M 6 (30 * s + f + j))) n (Q := fun M' => (∀ c j, c ≠ 9 → M' c j = M c j) ∧ (∀ j, j < n → M' 9 j = M 6 (30 * s + f + j))) (by
    intro t ht
    refine ⟨t, ?_, ht⟩
    show b_X8_copy_127 _ _ _ _ _ (nI n) t = _
    rw [b_X8_copy_127, if_pos (Int32.le_refl _)]) (by
    rintro i t hi ⟨u1, u2⟩
    have e1 : (30 : Int32) * nI s + nI f + nI i = nI (30 * s + f + i) := by rw [show (30 : Int32) = nI 30 from rfl, pk_mul, nI_add, nI_add]
    refine Or.inl ⟨m_pi t 9 i (M 6 (30 * s + f + i)), ?_, ?_, ?_⟩
    · show b_X8_copy_127 _ _ _ _ _ (nI i) t = _
      rw [b_X8_copy_127, if_neg (fun z => by have := (nI_leI (by omega) (by omega)).mp z; omega), e1, m_ldN (by omega) (by omega), Option.bind_some, m_stN (by omega) (by omega), Option.bind_some, nI_1, u1 _ _ (by omega)]
    · intro c j hc
      rw [m_pi_ne (by omega)]; exact u1 c j hc
    · intro j hj
      by_cases e : j = i
      · subst e; rw [m_pi_at]
      · rw [m_pi_ne (by omega)]; exact u2 j (by omega)) FU 0 M (by omega) ⟨fun _ _ _ => rfl, fun j hj => absurd hj (by omega)⟩ (FU_lt (by omega))
  exact ⟨b, h1, h2⟩
theorem copy164 (M : aMm) {s f n : Nat} (hs : s ≤ 3) (hn : f + n ≤ 30) : ∃ M', lpf (fun a : Int32 × aMm => b_X8_copy_164 (nI s) (nI f) (nI n) a.1 a.2) FU ((0 : Int32), M) = some M' ∧ (∀ c j, ¬ (c = 6 ∧ 30 * s + f ≤ j ∧ j < 30 * s + f + n) → M' c j = M c j) ∧ (∀ j, j < n → M' 6 (30 * s + f + j) = M 9 j) := by
  have l6 : a_len (94 + 6) 0 = 120 := rfl
  have l9 : a_len (94 + 9) 0 = 30 := rfl
  obtain ⟨b, h1, h2⟩ := lpf_ct (body := fun a : Int32 × aMm => b_X8_copy_164 (nI s) (nI f) (nI n) a.1 a.2) (fun i s => (nI i, s)) (fun i t => (∀ c j, ¬ (c = 6 ∧ 30 * s + f ≤ j ∧ j < 30 * s + f + i) → t c j = M c j) ∧ (∀ j, j < i → t 6 (30 * s + f + j) = M 9 j)) n (Q := fun M' => (∀ c j, ¬ (c = 6 ∧ 30 * s + f ≤ j ∧ j < 30 * s + f + n) → M' c j = M c j) ∧ (∀ j, j < n → M' 6 (30 * s + f + j) = M 9 j)) (by
    intro t ht
    refine ⟨t, ?_, ht⟩
    show b_X8_copy_164 _ _ _ (nI n) t = _
    rw [b_X8_copy_164, if_pos (Int32.le_refl _)]) (by
    rintro i t hi ⟨u1, u2⟩
    have e1 : (30 : Int32) * nI s + nI f + nI i = nI (30 * s + f + i) := by rw [show (30 : Int32) = nI 30 from rfl, pk_mul, nI_add, nI_add]
    refine Or.inl ⟨m_pi t 6 (30 * s + f + i) (M 9 i), ?_, ?_, ?_⟩
    · show b_X8_copy_164 _ _ _ (nI i) t = _
      rw [b_X8_copy_164, if_neg (fun z => by have := (nI_leI (by omega) (by omega)).mp z; omega), e1, m_ldN (by omega) (by omega), Option.bind_some, m_stN (by omega) (by omega), Option.bind_some, nI_1, u1 _ _ (by omega)]
    · intro c j hc
      rw [m_pi_ne (by omega)]; exact u1 c j (by omega)
    · intro j hj
      by_cases e : j = i
      · subst e; rw [m_pi_at]
      · rw [m_pi_ne (by omega)]; exact u2 j (by omega)) FU 0 M (by omega) ⟨fun _ _ _ => rfl, fun j hj => absurd hj (by omega)⟩ (FU_lt (by omega))
  exact ⟨b, h1, h2⟩
theorem pr_copy (a0 : Int32) (a1 : Int32) (a2 : Int32) (a3 : Int32) (a4 : Int32) {C : aSc} {M : aMm} (hR : Rel C M) : ∃ (v : Int32) (C' : aSc) (M' : aMm), f_X7_copy a0 a1 a2 a3 a4 C = some (v, C') ∧ f_X8_copy a0 a1 a2 a3 a4 M = some (v, M') ∧ Rel C' M' := by
  have hl4 : a_len (94 + 4) 0 = 4 := rfl
  have hl5 : a_len (94 + 5) 0 = 4 := rfl
  rcases sheet_pair (C := C) (M := M) a0 with ⟨s, hs, rfl, j1, j2⟩ | ⟨j1, j2⟩
  rotate_left
  · refine ⟨-100001, _, _, ?_, ?_, rel_refuse hR⟩
    · rw [f_X7_copy, j1, Option.bind_some, if_pos (by decide)]; rfl
    · rw [f_X8_copy, j2, Option.bind_some, if_pos (by decide)]; rfl
  rcases sheet_pair (C := C) (M := M) a2 with ⟨t, ht, rfl, l1, l2⟩ | ⟨l1, l2⟩
  rotate_left
  · refine ⟨-100001, _, _, ?_, ?_, rel_refuse hR⟩
    · rw [f_X7_copy, j1, Option.bind_some, if_neg (by decide), l1, Option.bind_some, if_pos (by decide)]; rfl
    · rw [f_X8_copy, j2, Option.bind_some, if_neg (by decide), l2, Option.bind_some, if_pos (by decide)]; rfl
  obtain ⟨w, n, g1, g2, g3, g4, g5, g6, g7, g8⟩ := hR.2.2.1 s (by omega)
  obtain ⟨w', n', k1, k2, k3, k4, k5, k6, k7, k8⟩ := hR.2.2.1 t (by omega)
  have c0 : a_gi C (54 + 2 * s) 0 = nI w := g4
  have c0' : a_gi C (54 + 2 * t) 0 = nI w' := k4
  have ml4 : m_ld M 4 (nI s) = some (nI w) := by rw [m_ldN (by omega) (by omega), g5]
  have ml4' : m_ld M 4 (nI t) = some (nI w') := by rw [m_ldN (by omega) (by omega), k5]
  have ml5 : m_ld M 5 (nI s) = some (nI n) := by rw [m_ldN (by omega) (by omega), g7]
  have ml5' : m_ld M 5 (nI t) = some (nI n') := by rw [m_ldN (by omega) (by omega), k7]
  by_cases h0 : w = 0
  · subst h0
    refine ⟨-100002, _, _, ?_, ?_, rel_refuse hR⟩
    · rw [f_X7_copy, j1, Option.bind_some, if_neg (by decide), l1, Option.bind_some, if_neg (by decide), a_rfN (by omega) (by omega), Option.bind_some, a_rfN (by omega) (by omega), Option.bind_some, c0, if_pos (by decide)]; rfl
    · rw [f_X8_copy, j2, Option.bind_some, if_neg (by decide), l2, Option.bind_some, if_neg (by decide), ml4, Option.bind_some, if_pos (by decide)]; rfl
  have hne : ¬ nI w = 0 := nI_ne0 (by omega) (by omega)
  by_cases h0' : w' = 0
  · subst h0'
    refine ⟨-100002, _, _, ?_, ?_, rel_refuse hR⟩
    · rw [f_X7_copy, j1, Option.bind_some, if_neg (by decide), l1, Option.bind_some, if_neg (by decide), a_rfN (by omega) (by omega), Option.bind_some, a_rfN (by omega) (by omega), Option.bind_some, c0, if_neg hne, c0', if_pos (by decide)]; rfl
    · rw [f_X8_copy, j2, Option.bind_some, if_neg (by decide), l2, Option.bind_some, if_neg (by decide), ml4, Option.bind_some, if_neg hne, ml4', Option.bind_some, if_pos (by decide)]; rfl
  have hne' : ¬ nI w' = 0 := nI_ne0 (by omega) (by omega)
  by_cases hw : w = w'
  rotate_left
  · have hw' : ¬ nI w = nI w' := fun z => hw ((nI_eq (by omega) (by omega)).mp z)
    refine ⟨-100004, _, _, ?_, ?_, rel_refuse hR⟩
    · rw [f_X7_copy, j1, Option.bind_some, if_neg (by decide), l1, Option.bind_some, if_neg (by decide), a_rfN (by omega) (by omega), Option.bind_some, a_rfN (by omega) (by omega), Option.bind_some, c0, if_neg hne, c0', if_neg hne', if_neg hw']; rfl
    · rw [f_X8_copy, j2, Option.bind_some, if_neg (by decide), l2, Option.bind_some, if_neg (by decide), ml4, Option.bind_some, if_neg hne, ml4', Option.bind_some, if_neg hne', Option.bind_some, Option.bind_some, if_neg hw']; rfl
  subst hw
  have e0 : (0 : Int32).toInt = 0 := rfl
  have s1 := lg_sum a1 a4 g2
  have s2 := lg_sum a3 a4 k2
  by_cases hA : (0 ≤ a1.toInt ∧ 0 ≤ a4.toInt ∧ a1.toInt + a4.toInt ≤ n) ∧ (0 ≤ a3.toInt ∧ 0 ≤ a4.toInt ∧ a3.toInt + a4.toInt ≤ n')
  · have p1 : ¬ a1 < 0 := fun z => by have := Int32.lt_iff_toInt_lt.mp z; omega
    have p3 : ¬ a3 < 0 := fun z => by have := Int32.lt_iff_toInt_lt.mp z; omega
    have p4 : ¬ a4 < 0 := fun z => by have := Int32.lt_iff_toInt_lt.mp z; omega
    obtain ⟨f, hf, rfl⟩ := nI_of p1
    obtain ⟨t', ht', rfl⟩ := nI_of p3
    obtain ⟨k, hk, rfl⟩ := nI_of p4
    rw [nI_toInt hf, nI_toInt hk, nI_toInt ht'] at hA
    obtain ⟨Ma, x1, x2, x3⟩ := copy127 M (s := s) (f := f) (n := k) (nI t) (nI t') hs (by omega)
    obtain ⟨Mb, y1, y2, y3⟩ := copy164 Ma (s := t) (f := t') (n := k) ht (by omega)
    have hls : a_len (55 + 2 * s) (C.2.2 (55 + 2 * s)) = 30 := lenS s _ hs
    have hlt : a_len (55 + 2 * t) (C.2.2 (55 + 2 * t)) = 30 := lenS t _ ht
    have hcp : a_cpy C (55 + 2 * s) (nI f) (55 + 2 * t) (nI t') (nI k) = some (a_cpr C (55 + 2 * s) f (55 + 2 * t) t' k) := by
      unfold a_cpy
      rw [nI_clamp hf, nI_clamp ht', nI_clamp hk, if_pos ⟨nI_pos hf, nI_pos ht', nI_pos hk, by omega, by omega⟩]
    refine ⟨nI k, a_cpr C (55 + 2 * s) f (55 + 2 * t) t' k, Mb, ?_, ?_, rel_sh hR (fun c j h => a_cpr_ne (by omega)) rfl (fun m hm => funext fun j => by rw [y2 m j (by omega), x2 m j (by omega)]) (fun q hq => ?_)⟩
    · rw [f_X7_copy, j1, Option.bind_some, if_neg (by decide), l1, Option.bind_some, if_neg (by decide), a_rfN (by omega) (by omega), Option.bind_some, a_rfN (by omega) (by omega), Option.bind_some, c0, if_neg hne, c0', if_neg hne', if_pos rfl, has_ok g2 g6, Option.bind_some, if_pos (show _ ∧ _ ∧ _ from by rw [nI_toInt hf, nI_toInt hk]; omega), if_neg (by decide), has_ok k2 k6, Option.bind_some, if_pos (show _ ∧ _ ∧ _ from by rw [nI_toInt ht', nI_toInt hk]; omega), if_neg (by decide), show 54 + 2 * s + 1 = 55 + 2 * s by omega, show 54 + 2 * t + 1 = 55 + 2 * t by omega, hcp, Option.bind_some]
    · rw [f_X8_copy, j2, Option.bind_some, if_neg (by decide), l2, Option.bind_some, if_neg (by decide), ml4, Option.bind_some, if_neg hne, ml4', Option.bind_some, if_neg hne', Option.bind_some, Option.bind_some, if_pos rfl, if_neg p1, if_neg p3, if_neg p4, ml5, Option.bind_some, if_neg (fun z => by have := s1.1.mp z; rw [nI_toInt hf, nI_toInt hk] at this; omega), ml5', Option.bind_some, if_pos (s2.2.mpr (by rw [nI_toInt ht', nI_toInt hk]; omega)), x1, Option.bind_some, y1, Option.bind_some]
    · obtain ⟨w1, n1, b1, b2, b3, b4, b5, b6, b7, b8⟩ := hR.2.2.1 q hq
      refine ⟨w1, n1, b1, b2, b3, ?_, ?_, ?_, ?_, ?_⟩
      · rw [a_cpr_ne (by omega)]; exact b4
      · rw [y2 _ _ (by omega), x2 _ _ (by omega)]; exact b5
      · rw [a_cpr_ne (by omega)]; exact b6
      · rw [y2 _ _ (by omega), x2 _ _ (by omega)]; exact b7
      · intro i hi
        by_cases e : q = t
        · subst e
          by_cases hin : t' ≤ i ∧ i < t' + k
          · simp only [a_cpr, if_true]
            rw [pk_cpy_in hin.1 hin.2]
            have e2 : 30 * q + i = 30 * q + t' + (i - t') := by omega
            rw [e2, y3 _ (by omega), x3 _ (by omega), g8 _ (by omega)]
            congr 1
            omega
          · simp only [a_cpr, if_true]
            rw [pk_cpy_out (by omega), y2 _ _ (by omega), x2 _ _ (by omega)]
            exact b8 i hi
        · rw [a_cpr_ne (by omega), y2 _ _ (by omega), x2 _ _ (by omega)]
          exact b8 i hi
  · refine ⟨-100001, _, _, ?_, ?_, rel_refuse hR⟩
    · rw [f_X7_copy, j1, Option.bind_some, if_neg (by decide), l1, Option.bind_some, if_neg (by decide), a_rfN (by omega) (by omega), Option.bind_some, a_rfN (by omega) (by omega), Option.bind_some, c0, if_neg hne, c0', if_neg hne', if_pos rfl, has_ok g2 g6, Option.bind_some]
      by_cases hA1 : 0 ≤ a1.toInt ∧ 0 ≤ a4.toInt ∧ a1.toInt + a4.toInt ≤ n
      · rw [if_pos hA1, if_neg (by decide), has_ok k2 k6, Option.bind_some, if_neg (fun z => hA ⟨hA1, z⟩), if_pos (by decide)]; rfl
      · rw [if_neg hA1, if_pos (by decide)]; rfl
    · rw [f_X8_copy, j2, Option.bind_some, if_neg (by decide), l2, Option.bind_some, if_neg (by decide), ml4, Option.bind_some, if_neg hne, ml4', Option.bind_some, if_neg hne', Option.bind_some, Option.bind_some, if_pos rfl, ml5, Option.bind_some, ml5', Option.bind_some]
      by_cases p1 : a1 < 0
      · rw [if_pos p1]; rfl
      by_cases p3 : a3 < 0
      · rw [if_neg p1, if_pos p3]; rfl
      by_cases p4 : a4 < 0
      · rw [if_neg p1, if_neg p3, if_pos p4]; rfl
      have q1 : ¬ a1.toInt < (0 : Int32).toInt := fun z => p1 (Int32.lt_iff_toInt_lt.mpr z)
      have q3 : ¬ a3.toInt < (0 : Int32).toInt := fun z => p3 (Int32.lt_iff_toInt_lt.mpr z)
      have q4 : ¬ a4.toInt < (0 : Int32).toInt := fun z => p4 (Int32.lt_iff_toInt_lt.mpr z)
      by_cases p5 : (n : Int) < a1.toInt + a4.toInt
      · rw [if_neg p1, if_neg p3, if_neg p4, if_pos (s1.1.mpr p5)]; rfl
      · rw [if_neg p1, if_neg p3, if_neg p4, if_neg (fun z => p5 (s1.1.mp z)), if_neg (fun z => by have := s2.2.mp z; omega)]; rfl

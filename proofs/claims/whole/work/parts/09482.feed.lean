theorem rel_tp {C C' : aSc} {M M' : aMm} (hR : Rel C M) (hC : ∀ c j, c < 94 → c ≠ 1 → c ≠ 2 → C'.1 c j = C.1 c j) (hC2 : C'.2 = C.2) (hM0 : ∀ j, (j = 2 ∨ j = 3) → M' 0 j = M 0 j) (hM : ∀ m, 1 ≤ m → m ≤ 6 → m ≠ 3 → M' m = M m) (hT : R_t C' M') : Rel C' M' := by
  obtain ⟨hV, -, hH, hD, ⟨kp, top, p1, p2, p3, p4, p5, p6⟩, hF, hG⟩ := hR
  have e1 := hM 1 (by omega) (by omega) (by omega)
  have e2 := hM 2 (by omega) (by omega) (by omega)
  refine ⟨?_, hT, ?_, ?_, ⟨kp, top, p1, p2, ?_, ?_, ?_, ?_⟩, ?_, ?_⟩
  · refine Vw_cong (fun c j h => ?_) (fun c j _ _ => by rw [hC2]) (fun j _ => by rw [e1]) hV
    have h' := h
    simp [vr] at h'
    exact hC c j (by omega) (by omega) (by omega)
  · intro s hs
    obtain ⟨w, n, h1, h2, h3, h4, h5, h6, h7, h8⟩ := hH s hs
    refine ⟨w, n, h1, h2, h3, ?_, ?_, ?_, ?_, ?_⟩
    · rw [hC _ _ (by omega) (by omega) (by omega)]; exact h4
    · rw [hM 4 (by omega) (by omega) (by omega)]; exact h5
    · rw [hC _ _ (by omega) (by omega) (by omega)]; exact h6
    · rw [hM 5 (by omega) (by omega) (by omega)]; exact h7
    · intro i hi
      rw [hC _ _ (by omega) (by omega) (by omega), hM 6 (by omega) (by omega) (by omega)]; exact h8 i hi
  · show C'.1 0 18 = M' 0 3
    rw [hC 0 18 (by omega) (by omega) (by omega), hM0 3 (by omega)]; exact hD
  · rw [hC 22 2 (by omega) (by omega) (by omega)]; exact p3
  · rw [hM0 2 (by omega)]; exact p4
  · rw [hC 22 1 (by omega) (by omega) (by omega)]; exact p5
  · intro k hk
    have hr : C'.1 (63 + 2 * ((top + 16 - kp + k) % 16)) = C.1 (63 + 2 * ((top + 16 - kp + k) % 16)) := funext fun j => hC _ j (by omega) (by omega) (by omega)
    have hn : ∀ k, nrow M' k = nrow M k := fun k => by unfold nrow; rw [e2]
    rw [hC _ _ (by omega) (by omega) (by omega), hC _ _ (by omega) (by omega) (by omega), hC _ _ (by omega) (by omega) (by omega), hr, e1, hn, hn]
    exact p6 k hk
  · unfold R_f
    rw [hC 0 15 (by omega) (by omega) (by omega), e1]
    rcases hF with h | ⟨h, h2⟩
    · exact Or.inl h
    · exact Or.inr ⟨h, fun c hc => by rw [hC 20 c (by omega) (by omega) (by omega)]; exact h2 c hc⟩
  · unfold R_g
    rw [hC2, hC 0 13 (by omega) (by omega) (by omega), hC 14 0 (by omega) (by omega) (by omega), e1]
    refine ⟨hG.1, ?_⟩
    rcases hG.2 with h | ⟨h, h2, h3⟩
    · exact Or.inl h
    · exact Or.inr ⟨h, h2, fun d h4 h5 => by rw [hC 15 d (by omega) (by omega) (by omega)]; exact h3 d h4 h5⟩
def byN (x : Int64) (i : Nat) : Int32 := (((x >>> ((((8 : Int32) * nI i) : Int32).toInt64 &&& 63)) &&& (255 : Int64)) : Int64).toInt32
theorem app7 (C : aSc) {t n : Nat} (x : Int64) (hn : t + n ≤ 40) (h : C.1 1 1 = nI t) : ∃ C', f_X5_append (nI n) x C = some C' ∧ C'.2 = C.2 ∧ C'.1 1 1 = nI (t + n) ∧ (∀ j, j < n → C'.1 2 (t + j) = byN x j) ∧ (∀ c j, ¬ (c = 1 ∧ j = 1) → ¬ (c = 2 ∧ t ≤ j) → C'.1 c j = C.1 c j) := by
  obtain ⟨b, h1, h2⟩ := lpf_ct (body := fun a : Int32 × aSc => b_X5_append_3 (nI n) x a.1 a.2) (fun i s => (nI i, s)) (fun i s => s.2 = C.2 ∧ s.1 1 1 = nI (t + i) ∧ (∀ j, j < i → s.1 2 (t + j) = byN x j) ∧ (∀ c j, ¬ (c = 1 ∧ j = 1) → ¬ (c = 2 ∧ t ≤ j) → s.1 c j = C.1 c j)) n (Q := fun C' => C'.2 = C.2 ∧ C'.1 1 1 = nI (t + n) ∧ (∀ j, j < n → C'.1 2 (t + j) = byN x j) ∧ (∀ c j, ¬ (c = 1 ∧ j = 1) → ¬ (c = 2 ∧ t ≤ j) → C'.1 c j = C.1 c j)) (by
    intro s hs
    refine ⟨s, ?_, hs⟩
    show b_X5_append_3 (nI n) x (nI n) s = _
    rw [b_X5_append_3, if_pos (Int32.le_refl _)]) (by
    rintro i s hi ⟨s1, s2, s3, s4⟩
    have g : a_gi s 1 1 = nI (t + i) := s2
    have hl : a_len 2 (s.2.2 2) = 40 := rfl
    refine Or.inl ⟨a_pi (a_pi s 2 (t + i) (byN x i)) 1 1 (nI (t + (i + 1))), ?_, s1, a_pi_at, ?_, ?_⟩
    · show b_X5_append_3 (nI n) x (nI i) s = _
      have g2 : a_gi (a_pi s 2 (t + i) (byN x i)) 1 1 = nI (t + i) := by
        show (a_pi s 2 (t + i) (byN x i)).1 1 1 = _
        rw [a_pi_ne (by omega)]; exact s2
      rw [b_X5_append_3, if_neg (fun z => by have := (nI_leI (by omega) (by omega)).mp z; omega), g, if_neg (show ¬ (40 : Int32) ≤ nI (t + i) from fun z => by have := (nI_leI (a := 40) (by omega) (by omega)).mp z; omega), a_stN (by omega) (by omega), Option.bind_some, Option.bind_some]
      have e : (((x >>> ((((8 : Int32) * nI i) : Int32).toInt64 &&& 63)) &&& (255 : Int64)) : Int64).toInt32 = byN x i := rfl
      rw [e, g2, nI_1, nI_1]
      rfl
    · intro j hj
      rw [a_pi_ne (by omega)]
      by_cases e : j = i
      · subst e; rw [a_pi_at]
      · rw [a_pi_ne (by omega)]; exact s3 j (by omega)
    · intro c j g1 g2
      rw [a_pi_ne g1, a_pi_ne (by omega)]; exact s4 c j g1 g2) FU 0 C (by omega) ⟨rfl, h, fun j hj => absurd hj (by omega), fun _ _ _ _ => rfl⟩ (FU_lt (by omega))
  refine ⟨b, ?_, h2⟩
  rw [f_X5_append]
  rw [show (nI 0) = (0 : Int32) from rfl] at h1
  rw [h1, Option.bind_some]
theorem app8 (M : aMm) {t n : Nat} (x : Int64) (hn : t + n ≤ 40) (h : M 0 5 = nI t) : ∃ M', lpf (fun a : Int32 × aMm => b_X8_feed_38 (nI n) x a.1 a.2) FU ((0 : Int32), M) = some M' ∧ M' 0 5 = nI (t + n) ∧ (∀ j, j < n → M' 3 (t + j) = byN x j) ∧ (∀ c j, ¬ (c = 0 ∧ j = 5) → ¬ (c = 3 ∧ t ≤ j) → M' c j = M c j) := by
  obtain ⟨b, h1, h2⟩ := lpf_ct (body := fun a : Int32 × aMm => b_X8_feed_38 (nI n) x a.1 a.2) (fun i s => (nI i, s)) (fun i s => s 0 5 = nI (t + i) ∧ (∀ j, j < i → s 3 (t + j) = byN x j) ∧ (∀ c j, ¬ (c = 0 ∧ j = 5) → ¬ (c = 3 ∧ t ≤ j) → s c j = M c j)) n (Q := fun M' => M' 0 5 = nI (t + n) ∧ (∀ j, j < n → M' 3 (t + j) = byN x j) ∧ (∀ c j, ¬ (c = 0 ∧ j = 5) → ¬ (c = 3 ∧ t ≤ j) → M' c j = M c j)) (by
    intro s hs
    refine ⟨s, ?_, hs⟩
    show b_X8_feed_38 (nI n) x (nI n) s = _
    rw [b_X8_feed_38, if_pos (Int32.le_refl _)]) (by
    rintro i s hi ⟨s2, s3, s4⟩
    have g : m_gi s 0 5 = nI (t + i) := s2
    have hl : a_len (94 + 3) 0 = 40 := rfl
    refine Or.inl ⟨m_pi (m_pi s 3 (t + i) (byN x i)) 0 5 (nI (t + (i + 1))), ?_, m_pi_at, ?_, ?_⟩
    · show b_X8_feed_38 (nI n) x (nI i) s = _
      have g2 : m_gi (m_pi s 3 (t + i) (byN x i)) 0 5 = nI (t + i) := by
        show (m_pi s 3 (t + i) (byN x i)) 0 5 = _
        rw [m_pi_ne (by omega)]; exact s2
      rw [b_X8_feed_38, if_neg (fun z => by have := (nI_leI (by omega) (by omega)).mp z; omega), g, m_stN (by omega) (by omega), Option.bind_some, Option.bind_some]
      have e : (((x >>> ((((8 : Int32) * nI i) : Int32).toInt64 &&& 63)) &&& (255 : Int64)) : Int64).toInt32 = byN x i := rfl
      rw [e, g2, nI_1, nI_1]
      rfl
    · intro j hj
      rw [m_pi_ne (by omega)]
      by_cases e : j = i
      · subst e; rw [m_pi_at]
      · rw [m_pi_ne (by omega)]; exact s3 j (by omega)
    · intro c j g1 g2
      rw [m_pi_ne g1, m_pi_ne (by omega)]; exact s4 c j g1 g2) FU 0 M (by omega) ⟨h, fun j hj => absurd hj (by omega), fun _ _ _ _ => rfl⟩ (FU_lt (by omega))
  exact ⟨b, h1, h2⟩
theorem pr_feed (a0 : Int32) (a1 : Int64) {C : aSc} {M : aMm} (hR : Rel C M) : ∃ (v : Int32) (C' : aSc) (M' : aMm), f_X7_feed a0 a1 C = some (v, C') ∧ f_X8_feed a0 a1 M = some (v, M') ∧ Rel C' M' := by
  obtain ⟨t, ht, t2, t3, t4⟩ := hR.2.1
  have c1 : a_gi C 1 1 = nI t := t2
  have m1 : m_gi M 0 5 = nI t := t3
  rcases nI_cases a0 8 (by decide) with ⟨n, hn, rfl⟩ | hneg | hbig
  · by_cases n0 : n = 0
    · subst n0
      refine ⟨-100001, _, _, ?_, ?_, rel_refuse hR⟩
      · rw [f_X7_feed, if_pos (by decide)]; rfl
      · rw [f_X8_feed, within_out (Or.inl (by decide)), Option.bind_some, if_pos (by decide)]; rfl
    have g1 : ¬ nI n < (1 : Int32) := fun z => by have := (nI_ltI (b := 1) (by omega) (by omega)).mp z; omega
    have g2 : nI n ≤ (8 : Int32) := (nI_leI (b := 8) (by omega) (by omega)).mpr hn
    have hw : f_X8_within (nI n) 1 8 M = some 1 := within_in (lo := 1) (hi := 8) (by omega) hn (by omega)
    by_cases hf : t + n ≤ 40
    · have g3 : nI t + nI n ≤ (40 : Int32) := by rw [nI_add]; exact (nI_leI (b := 40) (by omega) (by omega)).mpr hf
      obtain ⟨C', p1, p2, p3, p4, p5⟩ := app7 C a1 hf t2
      obtain ⟨M', q1, q3, q4, q5⟩ := app8 M a1 hf t3
      refine ⟨nI (t + n), C', M', ?_, ?_, rel_tp hR (fun c j _ h1 h2 => p5 c j (by omega) (by omega)) p2 (fun j hj => q5 0 j (by omega) (by omega)) (fun m h1 h6 h3 => funext fun j => q5 m j (by omega) (by omega)) ⟨t + n, hf, p3, q3, ?_⟩⟩
      · rw [f_X7_feed, if_neg g1, if_pos g2, c1, if_pos g3, p1, Option.bind_some]
        show some (C'.1 1 1, C') = _
        rw [p3]
      · rw [f_X8_feed, hw, Option.bind_some, if_neg (by decide), m1, if_pos g3, q1, Option.bind_some]
        show some (M' 0 5, M') = _
        rw [q3]
      · intro i hi
        by_cases hi2 : i < t
        · rw [p5 2 i (by omega) (by omega), q5 3 i (by omega) (by omega)]; exact t4 i hi2
        · have e : i = t + (i - t) := by omega
          rw [e, p4 _ (by omega), q4 _ (by omega)]
    · have g3 : ¬ nI t + nI n ≤ (40 : Int32) := by rw [nI_add]; exact fun z => hf ((nI_leI (b := 40) (by omega) (by omega)).mp z)
      refine ⟨-100005, _, _, ?_, ?_, rel_refuse hR⟩
      · rw [f_X7_feed, if_neg g1, if_pos g2, c1, if_neg g3]; rfl
      · rw [f_X8_feed, hw, Option.bind_some, if_neg (by decide), m1, if_neg g3]; rfl
  · have g1 : a0 < (1 : Int32) := Int32.lt_iff_toInt_lt.mpr (by have := Int32.lt_iff_toInt_lt.mp hneg; have e0 : (0 : Int32).toInt = 0 := rfl; have e1 : (1 : Int32).toInt = 1 := rfl; omega)
    refine ⟨-100001, _, _, ?_, ?_, rel_refuse hR⟩
    · rw [f_X7_feed, if_pos g1]; rfl
    · rw [f_X8_feed, within_out (Or.inl g1), Option.bind_some, if_pos (by decide)]; rfl
  · obtain ⟨b1, b2, b3⟩ := nI_big (by decide) hbig
    have g1 : ¬ a0 < (1 : Int32) := fun z => by
      have q1 := Int32.lt_iff_toInt_lt.mp z
      have q2 := Int32.lt_iff_toInt_lt.mp hbig
      have e8 : (nI 8).toInt = 8 := rfl
      have e1 : (1 : Int32).toInt = 1 := rfl
      omega
    refine ⟨-100001, _, _, ?_, ?_, rel_refuse hR⟩
    · rw [f_X7_feed, if_neg g1, if_neg (show ¬ a0 ≤ (8 : Int32) from b2)]; rfl
    · rw [f_X8_feed, within_out (lo := 1) (hi := 8) (Or.inr hbig), Option.bind_some, if_pos (by decide)]; rfl

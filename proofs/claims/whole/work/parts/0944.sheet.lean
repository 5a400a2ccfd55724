theorem rel_sh {C C' : aSc} {M M' : aMm} (hR : Rel C M) (hC : ∀ c j, ¬ (54 ≤ c ∧ c < 62) → C'.1 c j = C.1 c j) (hC2 : C'.2 = C.2) (hM : ∀ m, m ≤ 3 → M' m = M m) (hH : R_h C' M') : Rel C' M' := by
  obtain ⟨hV, ⟨n, t1, t2, t3, t4⟩, -, hD, ⟨kp, top, p1, p2, p3, p4, p5, p6⟩, hF, hG⟩ := hR
  have e0 := hM 0 (by omega)
  have e1 := hM 1 (by omega)
  have e2 := hM 2 (by omega)
  have e3 := hM 3 (by omega)
  refine ⟨?_, ⟨n, t1, ?_, ?_, ?_⟩, hH, ?_, ⟨kp, top, p1, p2, ?_, ?_, ?_, ?_⟩, ?_, ?_⟩
  · rw [e1]
    refine Vw_cong (fun c j h => hC c j ?_) (fun c j _ _ => by rw [hC2]) (fun _ _ => rfl) hV
    simp [vr] at h
    omega
  · rw [hC 1 1 (by omega)]; exact t2
  · rw [e0]; exact t3
  · intro i hi
    rw [hC 2 i (by omega), e3]; exact t4 i hi
  · show C'.1 0 18 = M' 0 3
    rw [hC 0 18 (by omega), e0]; exact hD
  · rw [hC 22 2 (by omega)]; exact p3
  · rw [e0]; exact p4
  · rw [hC 22 1 (by omega)]; exact p5
  · intro k hk
    have hr : C'.1 (63 + 2 * ((top + 16 - kp + k) % 16)) = C.1 (63 + 2 * ((top + 16 - kp + k) % 16)) := funext fun j => hC _ j (by omega)
    have hn : ∀ k, nrow M' k = nrow M k := fun k => by unfold nrow; rw [e2]
    rw [hC _ _ (by omega), hC _ _ (by omega), hC _ _ (by omega), hr, e1, hn, hn]
    exact p6 k hk
  · unfold R_f
    rw [hC 0 15 (by omega), e1]
    rcases hF with h | ⟨h, h2⟩
    · exact Or.inl h
    · exact Or.inr ⟨h, fun c hc => by rw [hC 20 c (by omega)]; exact h2 c hc⟩
  · unfold R_g
    rw [hC2, hC 0 13 (by omega), hC 14 0 (by omega), e1]
    refine ⟨hG.1, ?_⟩
    rcases hG.2 with h | ⟨h, h2, h3⟩
    · exact Or.inl h
    · exact Or.inr ⟨h, h2, fun d h4 h5 => by rw [hC 15 d (by omega)]; exact h3 d h4 h5⟩
def zC (C : aSc) (c i : Nat) : aSc := ((fun q j => if q = c ∧ j < i then 0 else C.1 q j), C.2)
theorem lenS (s n : Nat) (h : s ≤ 3) : a_len (55 + 2 * s) n = 30 := by
  unfold a_len
  rw [if_neg (by omega), if_neg (by omega), if_pos (by omega)]
theorem renew12 (C : aSc) {s : Nat} (hs : s ≤ 3) : lpf (fun a : Int32 × aSc => b_X3_renew_12 (54 + 2 * s) a.1 a.2) FU ((0 : Int32), C) = some (zC C (55 + 2 * s) 30) := by
  obtain ⟨b, h1, h2⟩ := lpf_ct (body := fun a : Int32 × aSc => b_X3_renew_12 (54 + 2 * s) a.1 a.2) (fun i t => (nI i, t)) (fun i t => t = zC C (55 + 2 * s) i) 30 (Q := fun b => b = zC C (55 + 2 * s) 30) (by
    rintro t rfl
    refine ⟨_, ?_, rfl⟩
    show b_X3_renew_12 _ (nI 30) _ = _
    rw [b_X3_renew_12, if_pos (show (30 : Int32) ≤ nI 30 from by decide)]) (by
    rintro i t hi rfl
    refine Or.inl ⟨zC C (55 + 2 * s) (i + 1), ?_, rfl⟩
    show b_X3_renew_12 _ (nI i) _ = _
    have hc : ¬ (30 : Int32) ≤ nI i := fun z => by
      have := (nI_leI (a := 30) (b := i) (by omega) (by omega)).mp z
      omega
    rw [b_X3_renew_12, if_neg hc, show 54 + 2 * s + 1 = 55 + 2 * s by omega, a_stN (by rw [lenS s _ hs]; exact hi) (by omega), Option.bind_some, nI_1]
    congr 3
    unfold a_pi a_up zC
    congr 1
    funext q j
    by_cases hq : q = 55 + 2 * s
    · subst hq
      by_cases hj : j = i
      · subst hj; simp [upd]
      · have : (j < i + 1) = (j < i) := by simp; omega
        simp [upd, hj, this]
    · simp [hq]) FU 0 C (by omega) (by unfold zC; simp) (FU_lt (by omega))
  rw [← h2]; exact h1
theorem renew_ok (C : aSc) {s : Nat} (hs : s ≤ 3) (b n : Int32) : f_X3_renew (54 + 2 * s) b n C = some (zC (a_pi (a_pi C (54 + 2 * s) 0 b) (54 + 2 * s) 1 n) (55 + 2 * s) 30) := by
  rw [f_X3_renew, Option.bind_some, Option.bind_some, renew12 _ hs]
  rfl
def zM (M : aMm) (s i : Nat) : aMm := fun m j => if m = 6 ∧ 30 * s ≤ j ∧ j < 30 * s + i then 0 else M m j
theorem sheet85 (M : aMm) {s : Nat} (hs : s ≤ 3) : lpf (fun a : Int32 × aMm => b_X8_sheet_85 (nI s) a.1 a.2) FU ((0 : Int32), M) = some (zM M s 30) := by
  have hl : a_len (94 + 6) 0 = 120 := rfl
  obtain ⟨b, h1, h2⟩ := lpf_ct (body := fun a : Int32 × aMm => b_X8_sheet_85 (nI s) a.1 a.2) (fun i t => (nI i, t)) (fun i t => t = zM M s i) 30 (Q := fun b => b = zM M s 30) (by
    rintro t rfl
    refine ⟨_, ?_, rfl⟩
    show b_X8_sheet_85 _ (nI 30) _ = _
    rw [b_X8_sheet_85, if_pos (show (30 : Int32) ≤ nI 30 from by decide)]) (by
    rintro i t hi rfl
    refine Or.inl ⟨zM M s (i + 1), ?_, rfl⟩
    show b_X8_sheet_85 _ (nI i) _ = _
    have hc : ¬ (30 : Int32) ≤ nI i := fun z => by
      have := (nI_leI (a := 30) (b := i) (by omega) (by omega)).mp z
      omega
    have e1 : (30 : Int32) * nI s + nI i = nI (30 * s + i) := by rw [show (30 : Int32) = nI 30 from rfl, pk_mul, nI_add]
    rw [b_X8_sheet_85, if_neg hc, e1, m_stN (by omega) (by omega), Option.bind_some, nI_1]
    congr 3
    funext m j
    unfold m_pi a_up zM
    by_cases hm : m = 6
    · subst hm
      by_cases hj : j = 30 * s + i
      · subst hj
        simp [upd]
      · have : (30 * s ≤ j ∧ j < 30 * s + (i + 1)) = (30 * s ≤ j ∧ j < 30 * s + i) := by simp; omega
        simp [upd, hj, this]
    · simp [hm]) FU 0 M (by omega) (by funext m j; simp [zM]; intro a b c; omega) (FU_lt (by omega))
  rw [← h2]; exact h1
/-- a sheet made anew on both sides -/
theorem rel_renew {C : aSc} {M : aMm} (hR : Rel C M) {s w n : Nat} (hs : s ≤ 3) (hw : w = 0 ∨ w = 8 ∨ w = 16 ∨ w = 32) (hn : n ≤ 30) (h0 : w = 0 → n = 0) : Rel (zC (a_pi (a_pi C (54 + 2 * s) 0 (nI w)) (54 + 2 * s) 1 (nI n)) (55 + 2 * s) 30) (zM (m_pi (m_pi M 4 s (nI w)) 5 s (nI n)) s 30) := by
  refine rel_sh hR (fun c j h => ?_) rfl (fun m h => ?_) (fun t ht => ?_)
  · show (if c = 55 + 2 * s ∧ j < 30 then (0 : Int32) else _) = _
    rw [if_neg (by omega), a_pi_ne (by omega), a_pi_ne (by omega)]
  · funext j
    show (if m = 6 ∧ _ then (0 : Int32) else _) = _
    rw [if_neg (by omega), m_pi_ne (by omega), m_pi_ne (by omega)]
  · by_cases e : t = s
    · subst e
      refine ⟨w, n, hw, hn, h0, ?_, ?_, ?_, ?_, ?_⟩
      · show (if 54 + 2 * t = 55 + 2 * t ∧ _ then (0 : Int32) else _) = _
        rw [if_neg (by omega), a_pi_ne (by omega), a_pi_at]
      · show (if (4 : Nat) = 6 ∧ _ then (0 : Int32) else _) = _
        rw [if_neg (by omega), m_pi_ne (by omega), m_pi_at]
      · show (if 54 + 2 * t = 55 + 2 * t ∧ _ then (0 : Int32) else _) = _
        rw [if_neg (by omega), a_pi_at]
      · show (if (5 : Nat) = 6 ∧ _ then (0 : Int32) else _) = _
        rw [if_neg (by omega), m_pi_at]
      · intro i hi
        show (if 55 + 2 * t = 55 + 2 * t ∧ i < 30 then (0 : Int32) else _) = (if (6 : Nat) = 6 ∧ 30 * t ≤ 30 * t + i ∧ 30 * t + i < 30 * t + 30 then (0 : Int32) else _)
        rw [if_pos ⟨rfl, hi⟩, if_pos (by omega)]
    · obtain ⟨w', n', g1, g2, g3, g4, g5, g6, g7, g8⟩ := hR.2.2.1 t ht
      refine ⟨w', n', g1, g2, g3, ?_, ?_, ?_, ?_, ?_⟩
      · show (if 54 + 2 * t = 55 + 2 * s ∧ _ then (0 : Int32) else _) = _
        rw [if_neg (by omega), a_pi_ne (by omega), a_pi_ne (by omega)]; exact g4
      · show (if (4 : Nat) = 6 ∧ _ then (0 : Int32) else _) = _
        rw [if_neg (by omega), m_pi_ne (by omega), m_pi_ne (by omega)]; exact g5
      · show (if 54 + 2 * t = 55 + 2 * s ∧ _ then (0 : Int32) else _) = _
        rw [if_neg (by omega), a_pi_ne (by omega), a_pi_ne (by omega)]; exact g6
      · show (if (5 : Nat) = 6 ∧ _ then (0 : Int32) else _) = _
        rw [if_neg (by omega), m_pi_ne (by omega), m_pi_ne (by omega)]; exact g7
      · intro i hi
        show (if 55 + 2 * t = 55 + 2 * s ∧ i < 30 then (0 : Int32) else _) = (if (6 : Nat) = 6 ∧ 30 * s ≤ 30 * t + i ∧ 30 * t + i < 30 * s + 30 then (0 : Int32) else _)
        rw [if_neg (by omega), if_neg (by omega), a_pi_ne (by omega), a_pi_ne (by omega), m_pi_ne (by omega), m_pi_ne (by omega)]
        exact g8 i hi
/-- with bits that are known -/
theorem sheet_go {C : aSc} {M : aMm} (hR : Rel C M) {w : Nat} (hw : w = 0 ∨ w = 8 ∨ w = 16 ∨ w = 32) {s : Nat} (hs : s ≤ 3) (a2 : Int32) (j1 : f_X7_isSheet (nI s) C = some 1) : ∃ (v : Int32) (C' : aSc) (M' : aMm), g_X7_sheet_27 (nI s) (nI w) a2 1 C = some (v, C') ∧ g_X8_sheet_36 (nI s) (nI w) a2 M = some (v, M') ∧ Rel C' M' := by
  have hl4 : a_len (94 + 4) 0 = 4 := rfl
  have hl5 : a_len (94 + 5) 0 = 4 := rfl
  rcases nI_cases a2 30 (by decide) with ⟨k, hk, rfl⟩ | h | h
  · have hp : 0 ≤ nI k := nI_pos' (by omega)
    have hle : nI k ≤ (30 : Int32) := (nI_leI (b := 30) (by omega) (by omega)).mpr hk
    have g8 : ∀ n : Nat, n ≤ 30 → g_X8_sheet_81 (nI s) (nI n) (nI s) (m_pi M 4 s (nI w)) = some (nI n, zM (m_pi (m_pi M 4 s (nI w)) 5 s (nI n)) s 30) := by
      intro n hn
      rw [g_X8_sheet_81, m_stN (by omega) (by omega), Option.bind_some, sheet85 _ hs, Option.bind_some, m_ldN (by omega) (by omega), Option.bind_some]
      have : zM (m_pi (m_pi M 4 s (nI w)) 5 s (nI n)) s 30 5 s = nI n := by
        show (if (5 : Nat) = 6 ∧ _ then (0 : Int32) else _) = _
        rw [if_neg (by omega), m_pi_at]
      rw [this]
    have g7 : ∀ n : Nat, n ≤ 30 → a_gi (zC (a_pi (a_pi C (54 + 2 * s) 0 (nI w)) (54 + 2 * s) 1 (nI n)) (55 + 2 * s) 30) (54 + 2 * s) 1 = nI n := by
      intro n _
      show (if 54 + 2 * s = 55 + 2 * s ∧ _ then (0 : Int32) else _) = _
      rw [if_neg (by omega), a_pi_at]
    by_cases h0 : w = 0
    · subst h0
      refine ⟨nI 0, _, _, ?_, ?_, rel_renew hR (w := 0) (n := 0) hs (Or.inl rfl) (by omega) (fun _ => rfl)⟩
      · rw [g_X7_sheet_27, j1, Option.bind_some, if_neg (by decide), if_neg (by decide), if_pos hp, if_pos hle, a_rfN (by omega) (by omega), Option.bind_some, if_pos (by decide), show (0 : Int32) = nI 0 from rfl, renew_ok C hs, Option.bind_some, Option.bind_some, g7 0 (by omega)]
      · rw [g_X8_sheet_36, if_pos hp, if_pos hle, m_stN (by omega) (by omega), Option.bind_some, if_pos (by decide), show (0 : Int32) = nI 0 from rfl, g8 0 (by omega)]
    · have hne : ¬ nI w = 0 := nI_ne0 (by omega) (by omega)
      refine ⟨nI k, _, _, ?_, ?_, rel_renew hR (w := w) (n := k) hs hw hk (fun z => absurd z h0)⟩
      · rw [g_X7_sheet_27, j1, Option.bind_some, if_neg (by decide), if_neg (by decide), if_pos hp, if_pos hle, a_rfN (by omega) (by omega), Option.bind_some, if_neg hne, renew_ok C hs, Option.bind_some, Option.bind_some, g7 k hk]
      · rw [g_X8_sheet_36, if_pos hp, if_pos hle, m_stN (by omega) (by omega), Option.bind_some, if_neg hne, g8 k hk]
  · have hp : ¬ 0 ≤ a2 := fun z => by
      have q1 := Int32.lt_iff_toInt_lt.mp h
      have q2 := Int32.le_iff_toInt_le.mp z
      omega
    refine ⟨-100003, _, _, ?_, ?_, rel_refuse hR⟩
    · rw [g_X7_sheet_27, j1, Option.bind_some, if_neg (by decide), if_neg (by decide), if_neg hp]; rfl
    · rw [g_X8_sheet_36, if_neg hp]; rfl
  · obtain ⟨b1, b2, b3⟩ := nI_big (by decide) h
    have hp : 0 ≤ a2 := by
      rcases Int32.le_total 0 a2 with z | z
      · exact z
      · refine Int32.le_iff_toInt_le.mpr ?_
        have q1 : ¬ a2.toInt < (0 : Int32).toInt := fun q => b1 (Int32.lt_iff_toInt_lt.mpr q)
        omega
    refine ⟨-100001, _, _, ?_, ?_, rel_refuse hR⟩
    · rw [g_X7_sheet_27, j1, Option.bind_some, if_neg (by decide), if_neg (by decide), if_pos hp, if_neg (show ¬ a2 ≤ (30 : Int32) from b2)]; rfl
    · rw [g_X8_sheet_36, if_pos hp, if_neg (show ¬ a2 ≤ (30 : Int32) from b2)]; rfl
theorem pr_sheet (a0 : Int32) (a1 : Int32) (a2 : Int32) {C : aSc} {M : aMm} (hR : Rel C M) : ∃ (v : Int32) (C' : aSc) (M' : aMm), f_X7_sheet a0 a1 a2 C = some (v, C') ∧ f_X8_sheet a0 a1 a2 M = some (v, M') ∧ Rel C' M' := by
  rcases sheet_pair (C := C) (M := M) a0 with ⟨s, hs, rfl, j1, j2⟩ | ⟨j1, j2⟩
  · have go : ∀ w : Nat, (w = 0 ∨ w = 8 ∨ w = 16 ∨ w = 32) → a1 = nI w → f_X7_sheet (nI s) a1 a2 C = g_X7_sheet_27 (nI s) (nI w) a2 1 C → f_X8_sheet (nI s) a1 a2 M = g_X8_sheet_36 (nI s) (nI w) a2 M → ∃ (v : Int32) (C' : aSc) (M' : aMm), f_X7_sheet (nI s) a1 a2 C = some (v, C') ∧ f_X8_sheet (nI s) a1 a2 M = some (v, M') ∧ Rel C' M' := by
      intro w hw _ e1 e2
      obtain ⟨v, C', M', q1, q2, q3⟩ := sheet_go hR hw hs a2 j1
      exact ⟨v, C', M', e1.trans q1, e2.trans q2, q3⟩
    by_cases h0 : a1 = 0
    · subst h0
      refine go 0 (by omega) rfl ?_ ?_
      · rw [f_X7_sheet, if_pos (by decide)]; rfl
      · rw [f_X8_sheet, j2, Option.bind_some, if_neg (by decide), if_pos (by decide)]; rfl
    by_cases h8 : a1 = 8
    · subst h8
      refine go 8 (by omega) rfl ?_ ?_
      · rw [f_X7_sheet, if_neg (by decide), if_pos (by decide)]; rfl
      · rw [f_X8_sheet, j2, Option.bind_some, if_neg (by decide), if_neg (by decide), if_pos (by decide)]; rfl
    by_cases h16 : a1 = 16
    · subst h16
      refine go 16 (by omega) rfl ?_ ?_
      · rw [f_X7_sheet, if_neg (by decide), if_neg (by decide), if_pos (by decide)]; rfl
      · rw [f_X8_sheet, j2, Option.bind_some, if_neg (by decide), if_neg (by decide), if_neg (by decide), if_pos (by decide)]; rfl
    by_cases h32 : a1 = 32
    · subst h32
      refine go 32 (by omega) rfl ?_ ?_
      · rw [f_X7_sheet, if_neg (by decide), if_neg (by decide), if_neg (by decide), if_pos (by decide)]; rfl
      · rw [f_X8_sheet, j2, Option.bind_some, if_neg (by decide), if_neg (by decide), if_neg (by decide), if_neg (by decide), if_pos (by decide)]; rfl
    refine ⟨-100001, _, _, ?_, ?_, rel_refuse hR⟩
    · rw [f_X7_sheet, if_neg h0, if_neg h8, if_neg h16, if_neg h32, g_X7_sheet_27, j1, Option.bind_some, if_neg (by decide), if_pos (by decide)]; rfl
    · rw [f_X8_sheet, j2, Option.bind_some, if_neg (by decide), if_neg h0, if_neg h8, if_neg h16, if_neg h32]; rfl
  · have e : ∀ t, g_X7_sheet_27 a0 a1 a2 t C = some (-100001, a_pi C 0 18 (a_gi C 0 18 + 1)) := fun t => by
      rw [g_X7_sheet_27, j1, Option.bind_some, if_pos (by decide)]; rfl
    refine ⟨-100001, _, _, ?_, ?_, rel_refuse hR⟩
    · rw [f_X7_sheet, g_X7_sheet_22, e 1, e 0]
      simp
    · rw [f_X8_sheet, j2, Option.bind_some, if_pos (by decide)]; rfl

theorem fair_go {C : aSc} {M : aMm} (hR : Rel C M) {nl nb nf nw hz dy c : Nat} (hV : V_all C (M 1) nl nb nf nw hz dy) (hc : c < 256) {is was : Int32} (zi : is = 0 ∨ is = 1) (zw : was = 0 ∨ was = 1) : ∃ M1, f_X8_keep M = some M1 ∧ M1 1 = M 1 ∧ ∀ (M2 : aMm) (nf' : Nat), (∀ m, m ≠ 1 → M2 m = M1 m) → (∀ j, j < 386 → j ≠ 2 → (j < 254 ∨ 266 ≤ j) → M2 1 j = M 1 j) → M2 1 2 = nI nf' → nf' ≤ 12 → bd (nfr (M2 1)) nf' → ij (nfr (M2 1)) nf' → (is = 1 → ∀ y, mb (nfr (M2 1)) nf' y ↔ mb (nfr (M 1)) nf y ∨ y = nI c) → (is = 0 → ∀ y, mb (nfr (M2 1)) nf' y ↔ mb (nfr (M 1)) nf y ∧ y ≠ nI c) → (was = 1 → ∀ y, mb (nfr (M 1)) nf y ↔ mb (nfr (M2 1)) nf' y ∨ y = nI c) → (was = 0 → ∀ y, mb (nfr (M 1)) nf y ↔ mb (nfr (M2 1)) nf' y ∧ y ≠ nI c) → ∃ C', g_X7_fairway_52 (nI c) is was C = some (nI nf', C') ∧ Rel C' M2 := by
  obtain ⟨top, C1, M1, ht, r1, k1, q1, q2, q3, q4, fin⟩ := act_ok hR 7 (nI c) was
  have hM1 : M1 1 = M 1 := q3 1 (by omega) (by omega)
  refine ⟨M1, k1, hM1, ?_⟩
  intro M2 nf' p1 p2 p3 p4 p5 p6 p7 p8 p9 p10
  obtain ⟨v1, v2, v3, v4, v5⟩ := V_f_of hV.2.2.2.1
  have hb := hV.1.1
  obtain ⟨C', s1, s2, s3, s4⟩ := setF (act_V hV q1 q2) hc zi p2 p3 p4 p5 p6 p7 p8
  refine ⟨C', ?_, fin C' M2 (fun c j h _ => s3 c j h) (by rw [s4]) p1 ⟨_, _, _, _, _, _, s2⟩ (Bk_fair hc zw p2 hV.1.2.2.2.1.2 (by omega) v2 v4 p3 p4 p9 p10 _)⟩
  have g8 : a_gi C' 0 8 = nI nf' := s2.1.2.2.2.1.1
  rw [g_X7_fairway_52]
  rcases zw with rfl | rfl
  · rw [if_pos (by decide), bd2, r1, Option.bind_some]
    dsimp only
    rw [if_pos (step_ok top ht), s1, Option.bind_some, g8]
  · rw [if_neg (by decide), bd2, r1, Option.bind_some]
    dsimp only
    rw [if_pos (step_ok top ht), s1, Option.bind_some, g8]
theorem pr_fairway (a0 : Int32) (a1 : Int32) (z1 : a1 = 0 ∨ a1 = 1) {C : aSc} {M : aMm} (hR : Rel C M) : ∃ (v : Int32) (C' : aSc) (M' : aMm), f_X7_fairway a0 a1 C = some (v, C') ∧ f_X8_fairway a0 a1 M = some (v, M') ∧ Rel C' M' := by
  obtain ⟨nl, nb, nf, nw, hz, dy, hV⟩ := hR.1
  have hb := hV.1.1
  have h8 : C.1 0 8 = nI nf := hV.1.2.2.2.1.1
  have h2 : M 1 2 = nI nf := hV.1.2.2.2.1.2
  have g8 : a_gi C 0 8 = nI nf := h8
  have hl : a_len (94 + 1) 0 = 386 := rfl
  obtain ⟨v1, v2, v3, v4, v5⟩ := V_f_of hV.2.2.2.1
  have ml2 : ∀ (M' : aMm) (k : Nat), M' 1 2 = nI k → m_ld M' 1 2 = some (nI k) := fun M' k h => by
    have := m_ldN (M := M') (m := 1) (k := 2) (by decide) (by decide)
    rw [h] at this
    exact this
  have ms2 : ∀ (M' : aMm) (v : Int32), m_st M' 1 2 v = some (m_pi M' 1 2 v) := fun M' v => m_stN (M := M') (m := 1) (k := 2) (by decide) (by decide)
  rcases cell_pair (C := C) (M := M) a0 with ⟨c, hc, rfl, j1, j2⟩ | ⟨j1, j2⟩
  rotate_left
  · refine ⟨-100001, _, _, ?_, ?_, rel_refuse hR⟩
    · rw [f_X7_fairway, j1, Option.bind_some, if_pos (by decide)]; rfl
    · rw [f_X8_fairway, j2, Option.bind_some, if_pos (by decide)]; rfl
  have hc' : c < 256 := by omega
  rcases place8 (M := M) (nf := nf) (by omega) (nI c) a1 with ⟨i, hi, e, hp8⟩ | ⟨hx, hp8⟩
  · -- it is a member
    have hmem : mb (nfr (M 1)) nf (nI c) := ⟨i, hi, e⟩
    have hine : ¬ nI i = nI nf := fun z => by have := (nI_eq (by omega) (by omega)).mp z; omega
    have hp7 : ∃ j, f_X7_placeInFairway (nI c) C = some (nI j) ∧ j < 12 := by
      rcases place7 (by omega) h8 (nI c) with ⟨j, hj, _, hp⟩ | ⟨hx, _⟩
      · exact ⟨j, hp, by omega⟩
      · exact absurd ((v5 _).mpr hmem) hx
    obtain ⟨j, hp7, hj⟩ := hp7
    obtain ⟨M1, k1, hM1, go⟩ := fair_go hR hV hc' z1 (was := 1) (Or.inr rfl)
    have e7 : f_X7_fairway (nI c) a1 C = g_X7_fairway_52 (nI c) a1 1 C := by
      rw [f_X7_fairway, j1, Option.bind_some, if_neg (by decide), hp7, Option.bind_some, if_neg (nI_pos (by omega)), g_X7_fairway_27]
      rcases z1 with rfl | rfl
      · rw [if_pos (by decide)]
      · rw [if_neg (by decide), if_neg (by decide)]
    have e8 : f_X8_fairway (nI c) a1 M = g_X8_fairway_112 a1 (nI nf) (nI i) M1 := by
      rw [f_X8_fairway, j2, Option.bind_some, if_neg (by decide), ml2 M nf h2, Option.bind_some, hp8, Option.bind_some, g_X8_fairway_51, if_neg hine, g_X8_fairway_74, k1, Option.bind_some, if_neg hine]
      rcases z1 with rfl | rfl
      · rw [if_pos (by decide), if_pos (by decide)]
      · rw [if_neg (by decide), if_neg (by decide)]
    rcases z1 with rfl | rfl
    · -- taken out
      obtain ⟨n, rfl⟩ : ∃ n, nf = n + 1 := ⟨nf - 1, by omega⟩
      obtain ⟨M2, hM2⟩ : ∃ M2, M2 = m_pi (m_pi M1 1 (254 + i) (M 1 (254 + n))) 1 2 (nI n) := ⟨_, rfl⟩
      have hg : ∀ k, k < n → nfr (M2 1) k = if k = i then nfr (M 1) n else nfr (M 1) k := by
        intro k hk
        show M2 1 (254 + k) = if k = i then M 1 (254 + n) else M 1 (254 + k)
        rw [hM2]
        by_cases ek : k = i
        · subst ek; rw [m_pi_ne (by omega), m_pi_at, if_pos rfl]
        · rw [m_pi_ne (by omega), m_pi_ne (by omega), if_neg ek, hM1]
      have hN2 : ∀ j, j < 386 → j ≠ 2 → (j < 254 ∨ 266 ≤ j) → M2 1 j = M 1 j := fun j _ a b => by rw [hM2, m_pi_ne (by omega), m_pi_ne (by omega), hM1]
      have mm := rem_mb v4 hi e hg
      obtain ⟨C', p1, p2⟩ := go M2 n (fun m hm => by rw [hM2, m_pi_row hm, m_pi_row hm]) hN2 (by rw [hM2, m_pi_at]) (by omega) (rem_bd v2 hg) (rem_ij v4 hg) (fun z => absurd z (by decide)) (fun _ => mm) (fun _ y => by
        rw [mm y]
        constructor
        · intro h
          by_cases ey : y = nI c
          · exact Or.inr ey
          · exact Or.inl ⟨h, ey⟩
        · rintro (h | h)
          · exact h.1
          · rw [h]; exact hmem) (fun z => absurd z (by decide))
      refine ⟨nI n, C', M2, e7.trans p1, ?_, p2⟩
      have ea : (254 : Int32) + nI (n + 1) - 1 = nI (254 + n) := by
        rw [show (254 : Int32) = nI 254 from rfl, nI_add]
        exact pk_sub (a := 254 + (n + 1)) (b := 1) (by omega)
      have eb : (254 : Int32) + nI i = nI (254 + i) := nI_add 254 i
      rw [e8, g_X8_fairway_112, if_pos (by decide), if_neg (fun z => by have := (nI_leI (by omega) (by omega)).mp z; omega), ea, m_ldN (by omega) (by omega), Option.bind_some, eb, m_stN (by omega) (by omega), Option.bind_some, hM1, ml2 _ (n + 1) (by rw [m_pi_ne (by omega), hM1]; exact h2), Option.bind_some, nI_pred, ms2, Option.bind_some, ← hM2, ml2 _ n (by rw [hM2, m_pi_at]), Option.bind_some]
    · -- it is in
      have mm : ∀ y, mb (nfr (M 1)) nf y ↔ mb (nfr (M 1)) nf y ∨ y = nI c := fun y => ⟨Or.inl, fun h => h.elim id (fun h => by rw [h]; exact hmem)⟩
      obtain ⟨C', p1, p2⟩ := go M1 nf (fun _ _ => rfl) (fun j _ _ _ => by rw [hM1]) (by rw [hM1]; exact h2) (by omega) (by rw [hM1]; exact v2) (by rw [hM1]; exact v4) (fun _ => by rw [hM1]; exact mm) (fun z => absurd z (by decide)) (fun _ => by rw [hM1]; exact mm) (fun z => absurd z (by decide))
      refine ⟨nI nf, C', M1, e7.trans p1, ?_, p2⟩
      rw [e8, g_X8_fairway_112, if_neg (by decide), ml2 M1 nf (by rw [hM1]; exact h2), Option.bind_some]
  · -- it is none
    have hp7 : f_X7_placeInFairway (nI c) C = some (-1) := by
      rcases place7 (by omega) h8 (nI c) with ⟨j, hj, e, _⟩ | ⟨_, hp⟩
      · exact absurd ((v5 _).mp ⟨j, hj, e⟩) hx
      · exact hp
    obtain ⟨M1, k1, hM1, go⟩ := fair_go hR hV hc' z1 (was := 0) (Or.inl rfl)
    rcases z1 with rfl | rfl
    · -- it is out
      have mm : ∀ y, mb (nfr (M 1)) nf y ↔ mb (nfr (M 1)) nf y ∧ y ≠ nI c := fun y => ⟨fun h => ⟨h, fun e => hx (by rw [← e]; exact h)⟩, fun h => h.1⟩
      obtain ⟨C', p1, p2⟩ := go M1 nf (fun _ _ => rfl) (fun j _ _ _ => by rw [hM1]) (by rw [hM1]; exact h2) (by omega) (by rw [hM1]; exact v2) (by rw [hM1]; exact v4) (fun z => absurd z (by decide)) (fun _ => by rw [hM1]; exact mm) (fun z => absurd z (by decide)) (fun _ => by rw [hM1]; exact mm)
      refine ⟨nI nf, C', M1, ?_, ?_, p2⟩
      · rw [f_X7_fairway, j1, Option.bind_some, if_neg (by decide), hp7, Option.bind_some, if_pos (by decide), g_X7_fairway_27, if_pos (by decide)]; exact p1
      · rw [f_X8_fairway, j2, Option.bind_some, if_neg (by decide), ml2 M nf h2, Option.bind_some, hp8, Option.bind_some, g_X8_fairway_51, if_pos (by decide), g_X8_fairway_74, k1, Option.bind_some, if_pos (by decide), g_X8_fairway_112, if_pos (by decide), if_pos (Int32.le_refl _), ml2 M1 nf (by rw [hM1]; exact h2), Option.bind_some]
    · by_cases hfull : nf = 12
      · subst hfull
        refine ⟨-100005, _, _, ?_, ?_, rel_refuse hR⟩
        · rw [f_X7_fairway, j1, Option.bind_some, if_neg (by decide), hp7, Option.bind_some, if_pos (by decide), g_X7_fairway_27, if_neg (by decide), if_pos (by decide), g8, if_neg (by decide)]; rfl
        · rw [f_X8_fairway, j2, Option.bind_some, if_neg (by decide), ml2 M 12 h2, Option.bind_some, hp8, Option.bind_some, g_X8_fairway_51, if_neg (by decide), if_pos rfl, if_pos (by decide)]; rfl
      · obtain ⟨M2, hM2⟩ : ∃ M2, M2 = m_pi (m_pi M1 1 (254 + nf) (nI c)) 1 2 (nI (nf + 1)) := ⟨_, rfl⟩
        have hg : ∀ k, k < nf → nfr (M2 1) k = nfr (M 1) k := by
          intro k hk
          show M2 1 (254 + k) = M 1 (254 + k)
          rw [hM2, m_pi_ne (by omega), m_pi_ne (by omega), hM1]
        have hgn : nfr (M2 1) nf = nI c := by
          show M2 1 (254 + nf) = _
          rw [hM2, m_pi_ne (by omega), m_pi_at]
        have hN2 : ∀ j, j < 386 → j ≠ 2 → (j < 254 ∨ 266 ≤ j) → M2 1 j = M 1 j := fun j _ a b => by rw [hM2, m_pi_ne (by omega), m_pi_ne (by omega), hM1]
        have mm := app_mb hg hgn
        obtain ⟨C', p1, p2⟩ := go M2 (nf + 1) (fun m hm => by rw [hM2, m_pi_row hm, m_pi_row hm]) hN2 (by rw [hM2, m_pi_at]) (by omega) (app_bd v2 hc' hg hgn) (app_ij v4 hx hg hgn) (fun _ => mm) (fun z => absurd z (by decide)) (fun z => absurd z (by decide)) (fun _ y => by
          rw [mm y]
          constructor
          · intro h
            exact ⟨Or.inl h, fun e => hx (by rw [← e]; exact h)⟩
          · rintro ⟨h | h, hne⟩
            · exact h
            · exact absurd h hne)
        have hn12 : ¬ nI nf = (12 : Int32) := fun z => by have := (nI_eq (b := 12) (by omega) (by omega)).mp z; omega
        refine ⟨nI (nf + 1), C', M2, ?_, ?_, p2⟩
        · rw [f_X7_fairway, j1, Option.bind_some, if_neg (by decide), hp7, Option.bind_some, if_pos (by decide), g_X7_fairway_27, if_neg (by decide), if_pos (by decide), g8, if_pos (show nI nf < (12 : Int32) from (nI_ltI (b := 12) (by omega) (by omega)).mpr (by omega))]; exact p1
        · have eb : (254 : Int32) + nI nf = nI (254 + nf) := nI_add 254 nf
          rw [f_X8_fairway, j2, Option.bind_some, if_neg (by decide), ml2 M nf h2, Option.bind_some, hp8, Option.bind_some, g_X8_fairway_51, if_neg (by decide), if_pos rfl, if_neg hn12, g_X8_fairway_74, k1, Option.bind_some, if_neg (by decide), if_pos rfl, eb, m_stN (by omega) (by omega), Option.bind_some, ml2 _ nf (by rw [m_pi_ne (by omega), hM1]; exact h2), Option.bind_some, nI_1, ms2, Option.bind_some, ← hM2, ml2 _ (nf + 1) (by rw [hM2, m_pi_at]), Option.bind_some]

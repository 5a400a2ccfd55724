/-- a word more -/
theorem V_word {C C' : aSc} {N N' : Nat → Int32} {nl nb nf nw hz dy : Nat} (hV : V_all C N nl nb nf nw hz dy) (hw : nw < 20) (hC : ∀ c j, vr c j = true → ¬ (8 ≤ c ∧ c ≤ 12 ∧ j = nw) → ¬ (c = 7 ∧ j = 0) → C'.1 c j = C.1 c j) (hC2 : ∀ c j, 24 ≤ c → c < 54 → C'.2.1 c j = C.2.1 c j) (h70 : C'.1 7 0 = nI (nw + 1)) (hW' : V_w C' N' nw) (hN : ∀ j, j < 386 → j ≠ 3 → (j < 266 + 5 * nw ∨ 266 + 5 * nw + 5 ≤ j) → N' j = N j) (n3 : N' 3 = nI (nw + 1)) : V_all C' N' nl nb nf (nw + 1) hz dy := by
  obtain ⟨⟨h0, h1, h2, h3, h4, h5, h6⟩, hL, hB, hF, hW, hD⟩ := hV
  have vl : ∀ c j, 24 ≤ c → c < 54 → vr c j = true := fun c j a b => by simp [vr, a, b]
  have vw : ∀ c j, 8 ≤ c → c ≤ 13 → vr c j = true := fun c j a b => by simp [vr, a, b]
  refine ⟨⟨by omega, ?_, ?_, ?_, ⟨h70, n3⟩, ?_, ?_⟩, ?_, ?_, ?_, ?_, ?_⟩
  · rw [hC 0 2 rfl (by omega) (by omega), hN 0 (by omega) (by omega) (by omega)]; exact h1
  · rw [hC 0 6 rfl (by omega) (by omega), hN 1 (by omega) (by omega) (by omega)]; exact h2
  · rw [hC 0 8 rfl (by omega) (by omega), hN 2 (by omega) (by omega) (by omega)]; exact h3
  · rw [hC 0 3 rfl (by omega) (by omega), hN 4 (by omega) (by omega) (by omega)]; exact h5
  · rw [hC 0 4 rfl (by omega) (by omega), hN 5 (by omega) (by omega) (by omega)]; exact h6
  · intro l' hl'
    exact V_l_cong (fun j => hC _ _ (vl _ _ (by omega) (by omega)) (by omega) (by omega)) (fun j => hC _ _ (vl _ _ (by omega) (by omega)) (by omega) (by omega)) (hC2 _ _ (by omega) (by omega)) (fun j => hC2 _ _ (by omega) (by omega)) (fun g hg => hN _ (by omega) (by omega) (by omega)) (hL l' hl')
  · intro b hb'
    exact V_b_cong (hC _ _ rfl (by omega) (by omega)) (fun g hg => hN _ (by omega) (by omega) (by omega)) (hB b (by omega))
  · exact V_f_cong (fun j _ => hC _ _ rfl (by omega) (by omega)) (fun j h => hN _ (by omega) (by omega) (by omega)) hF
  · intro w hw'
    by_cases e : w = nw
    · subst e; exact hW'
    · exact V_w_cong (fun c a b => hC _ _ (vw _ _ a (by omega)) (by omega) (by omega)) (fun g hg => hN _ (by omega) (by omega) (by omega)) (hW w (by omega))
  · intro d hd
    exact V_d_cong (hC _ _ (vw _ _ (by omega) (by omega)) (by omega) (by omega)) (hN _ (by omega) (by omega) (by omega)) (hD d hd)
theorem Bk_word {No Nn : Nat → Int32} {nw : Nat} (hw : nw < 20) (ho : No 3 = nI nw) (hn3 : Nn 3 = nI (nw + 1)) (hN : ∀ j, j < 386 → j ≠ 3 → (j < 266 + 5 * nw ∨ 266 + 5 * nw + 5 ≤ j) → Nn j = No j) (o w : Int32) (row : Nat → Int32) : Bk 8 o w row Nn No := by
  rintro C c hc e0 e1 e2 e3 ⟨nl, nb, nf, nw', hz, dy, hV⟩
  have hnw' : nw' = nw + 1 := by
    have g1 := hV.1.2.2.2.2.1.2
    rw [hn3] at g1
    exact ((nI_eq (by omega) (by have := hV.1.1.2.2.2.1; omega)).mp g1).symm
  subst hnw'
  refine ⟨a_pi C 7 0 (nI nw), ?_, ⟨nl, nb, nf, nw, hz, dy, ?_⟩, fun c j h => a_pi_ne (by have := vr_t h; omega), rfl⟩
  · have g0 : a_gi C c 0 = 8 := e0
    have g6 : a_gi C 7 0 = nI (nw + 1) := hV.1.2.2.2.2.1.1
    rw [f_X7_takeBack, g0, g6, if_neg (by decide), if_neg (by decide), if_neg (by decide), if_neg (by decide), if_neg (by decide), if_neg (by decide), if_neg (by decide), if_neg (by decide), if_pos (by decide), oneLess7 (by omega)]
    rfl
  · obtain ⟨⟨h0, h1, h2, h3, h4, h5, h6⟩, hL, hB, hF, hW, hD⟩ := hV
    have nn : ∀ j, j < 386 → j ≠ 3 → (j < 266 + 5 * nw ∨ 266 + 5 * nw + 5 ≤ j) → No j = Nn j := fun j a b c => (hN j a b c).symm
    refine ⟨⟨by omega, ?_, ?_, ?_, ⟨a_pi_at, ho⟩, ?_, ?_⟩, ?_, ?_, ?_, ?_, ?_⟩
    · rw [a_pi_ne (by omega), nn 0 (by omega) (by omega) (by omega)]; exact h1
    · rw [a_pi_ne (by omega), nn 1 (by omega) (by omega) (by omega)]; exact h2
    · rw [a_pi_ne (by omega), nn 2 (by omega) (by omega) (by omega)]; exact h3
    · rw [a_pi_ne (by omega), nn 4 (by omega) (by omega) (by omega)]; exact h5
    · rw [a_pi_ne (by omega), nn 5 (by omega) (by omega) (by omega)]; exact h6
    · intro l hl
      exact V_l_cong (fun j => a_pi_ne (by omega)) (fun j => a_pi_ne (by omega)) rfl (fun _ => rfl) (fun g hg => nn _ (by omega) (by omega) (by omega)) (hL l hl)
    · intro b hb'
      exact V_b_cong (a_pi_ne (by omega)) (fun g hg => nn _ (by omega) (by omega) (by omega)) (hB b (by omega))
    · exact V_f_cong (fun j _ => a_pi_ne (by omega)) (fun j h => nn _ (by omega) (by omega) (by omega)) hF
    · intro w hw'
      exact V_w_cong (fun c' _ _ => a_pi_ne (by omega)) (fun g hg => nn _ (by omega) (by omega) (by omega)) (hW w (by omega))
    · intro d hd
      exact V_d_cong (a_pi_ne (by omega)) (nn _ (by omega) (by omega) (by omega)) (hD d hd)
theorem nar01 {x : Int32} (h : x = 0 ∨ x = 1) : vp_nar .boolean x = x := by
  rcases h with rfl | rfl <;> rfl
theorem pr_word (a0 : Int32) (a1 : Int32) (a2 : Int32) (a3 : Int32) (z3 : a3 = 0 ∨ a3 = 1) {C : aSc} {M : aMm} (hR : Rel C M) : ∃ (v : Int32) (C' : aSc) (M' : aMm), f_X7_word a0 a1 a2 a3 C = some (v, C') ∧ f_X8_word a0 a1 a2 a3 M = some (v, M') ∧ Rel C' M' := by
  obtain ⟨nl, nb, nf, nw, hz, dy, hV⟩ := hR.1
  obtain ⟨⟨h0, ⟨h1, h1'⟩, -, -, ⟨h4, h4'⟩, -, -⟩, hL, hB, hF, hW, hD⟩ := id hV
  have hlen : a_len (94 + 1) 0 = 386 := rfl
  have c70 : a_gi C 7 0 = nI nw := h4
  have m3 : m_ld M 1 3 = some (nI nw) := by
    have := m_ldN (M := M) (m := 1) (k := 3) (by decide) (by decide)
    rw [h4'] at this
    exact this
  rcases isLight_pair (by omega) h1 h1' a0 with ⟨l, hl, rfl, i1, i2⟩ | ⟨i1, i2⟩
  rotate_left
  · refine ⟨-100001, _, _, ?_, ?_, rel_refuse hR⟩
    · rw [f_X7_word, i1, Option.bind_some, if_pos (by decide)]; rfl
    · rw [f_X8_word, i2, Option.bind_some, if_pos (by decide)]; rfl
  rcases nI_cases a1 9999 (by decide) with ⟨d, hd, rfl⟩ | hneg | hbig
  rotate_left
  · refine ⟨-100001, _, _, ?_, ?_, rel_refuse hR⟩
    · rw [f_X7_word, i1, Option.bind_some, if_neg (by decide), if_pos hneg]; rfl
    · rw [f_X8_word, i2, Option.bind_some, if_neg (by decide), within_out (Or.inl hneg), Option.bind_some, if_pos (by decide)]; rfl
  · obtain ⟨b1, b2, b3⟩ := nI_big (by decide) hbig
    refine ⟨-100001, _, _, ?_, ?_, rel_refuse hR⟩
    · rw [f_X7_word, i1, Option.bind_some, if_neg (by decide), if_neg b1, if_pos (show (9999 : Int32) < a1 from hbig)]; rfl
    · rw [f_X8_word, i2, Option.bind_some, if_neg (by decide), within_out (lo := 0) (hi := 9999) (Or.inr hbig), Option.bind_some, if_pos (by decide)]; rfl
  have hd1 : ¬ nI d < 0 := nI_pos (by omega)
  have hd2 : ¬ (9999 : Int32) < nI d := fun z => by have := (nI_ltI (a := 9999) (by omega) (by omega)).mp z; omega
  have hwi : f_X8_within (nI d) 0 9999 M = some 1 := within_in (lo := 0) (hi := 9999) (by omega) hd (by omega)
  have ed : nI d / 100 = nI (d / 100) := pk_div (d := 100) (by omega) (by omega) (by omega)
  have er : nI d - nI (d / 100) * 100 = nI (d % 100) := by
    have := pk_rem (a := d) (d := 100) (by omega) (by omega) (by omega)
    rw [← this, ← ed]; rfl
  rcases hour_pair (C := C) (M := M) a2 with ⟨h, hh, rfl, j1, j2⟩ | ⟨j1, j2⟩
  rotate_left
  · refine ⟨-100001, _, _, ?_, ?_, rel_refuse hR⟩
    · rw [f_X7_word, i1, Option.bind_some, if_neg (by decide), if_neg hd1, if_neg hd2, j1, Option.bind_some, if_pos (by decide)]; rfl
    · rw [f_X8_word, i2, Option.bind_some, if_neg (by decide), hwi, Option.bind_some, if_neg (by decide), j2, Option.bind_some, if_pos (by decide)]; rfl
  by_cases hft : d % 100 < d / 100
  · have hft' : nI (d % 100) < nI (d / 100) := (nI_ltI (by omega) (by omega)).mpr hft
    refine ⟨-100003, _, _, ?_, ?_, rel_refuse hR⟩
    · rw [f_X7_word, i1, Option.bind_some, if_neg (by decide), if_neg hd1, if_neg hd2, j1, Option.bind_some, if_neg (by decide), ed, er, if_pos hft']; rfl
    · rw [f_X8_word, i2, Option.bind_some, if_neg (by decide), hwi, Option.bind_some, if_neg (by decide), j2, Option.bind_some, if_neg (by decide), m3, Option.bind_some, ed, er, if_pos hft']; rfl
  have hft' : ¬ nI (d % 100) < nI (d / 100) := fun z => hft ((nI_ltI (by omega) (by omega)).mp z)
  -- the latest hour
  obtain ⟨lh, hlh⟩ : ∃ lh : Int32, lh = if nw = 0 then 0 else C.1 11 (nw - 1) := ⟨_, rfl⟩
  have e7 : f_X6_latestHour C = some lh := by
    by_cases hz0 : nw = 0
    · subst hz0
      rw [f_X6_latestHour, c70, if_pos (by decide), hlh, if_pos (by decide)]
    · have es : nI nw - 1 = nI (nw - 1) := pk_sub (a := nw) (b := 1) (by omega)
      have hl11 : a_len 11 (C.2.2 11) = 20 := rfl
      rw [f_X6_latestHour, c70, if_neg (nI_ne0 (by omega) (by omega)), es, a_ldN (by omega) (by omega), Option.bind_some, hlh, if_neg hz0]
  have e8 : (if nI nw ≤ 0 then g_X8_word_87 (nI l) (nI d) (nI h) a3 (nI nw) M else (m_ld M 1 (((266 : Int32) + ((5 : Int32) * nI nw)) - (2 : Int32))).bind fun u39 => if (u39 : Int32) ≤ nI h then g_X8_word_87 (nI l) (nI d) (nI h) a3 (nI nw) M else bd2 (f_X8_finding (-100003 : Int32) M) fun r42 M43 => some (r42, M43)) = if lh ≤ nI h then g_X8_word_87 (nI l) (nI d) (nI h) a3 (nI nw) M else some (-100003, m_pi M 0 3 (m_gi M 0 3 + 1)) := by
    by_cases hz0 : nw = 0
    · subst hz0
      have hlh0 : lh = 0 := by rw [hlh]; rfl
      rw [if_pos (by decide), hlh0, if_pos (show (0 : Int32) ≤ nI h from nI_pos' (by omega))]
    · have es : (266 : Int32) + 5 * nI nw - 2 = nI (266 + 5 * nw - 2) := by
        rw [show (266 : Int32) = nI 266 from rfl, show (5 : Int32) = nI 5 from rfl, pk_mul, nI_add]
        exact pk_sub (b := 2) (by omega)
      have hq : M 1 (266 + 5 * nw - 2) = C.1 11 (nw - 1) := by
        have := (hW (nw - 1) (by omega)).2.2.2.1
        rw [this]
        congr 1
        omega
      rw [if_neg (nI_nle (by omega) (by omega)), es, m_ldN (by omega) (by omega), Option.bind_some, hq, hlh, if_neg hz0]
      rfl
  by_cases hle : lh ≤ nI h
  rotate_left
  · refine ⟨-100003, _, _, ?_, ?_, rel_refuse hR⟩
    · rw [f_X7_word, i1, Option.bind_some, if_neg (by decide), if_neg hd1, if_neg hd2, j1, Option.bind_some, if_neg (by decide), ed, er, if_neg hft', e7, Option.bind_some, if_neg hle]; rfl
    · rw [f_X8_word, i2, Option.bind_some, if_neg (by decide), hwi, Option.bind_some, if_neg (by decide), j2, Option.bind_some, if_neg (by decide), m3, Option.bind_some, ed, er, if_neg hft', e8, if_neg hle]
  rcases Nat.lt_or_ge nw 20 with h20 | h20
  rotate_left
  · have : nw = 20 := by omega
    subst this
    refine ⟨-100005, _, _, ?_, ?_, rel_refuse hR⟩
    · rw [f_X7_word, i1, Option.bind_some, if_neg (by decide), if_neg hd1, if_neg hd2, j1, Option.bind_some, if_neg (by decide), ed, er, if_neg hft', e7, Option.bind_some, if_pos hle, c70, if_neg (by decide)]; rfl
    · rw [f_X8_word, i2, Option.bind_some, if_neg (by decide), hwi, Option.bind_some, if_neg (by decide), j2, Option.bind_some, if_neg (by decide), m3, Option.bind_some, ed, er, if_neg hft', e8, if_pos hle, g_X8_word_87, if_pos (by decide)]; rfl
  obtain ⟨top, C1, M1, ht, r1, k1, q1, q2, q3, q4, fin⟩ := act_ok hR 8 0 0
  have hM1 : M1 1 = M 1 := q3 1 (by omega) (by omega)
  have c170 : ∀ (C' : aSc), (∀ c j, c = 7 → C'.1 c j = C1.1 c j) → a_gi C' 7 0 = nI nw := fun C' hh => by
    show C'.1 7 0 = _
    rw [hh 7 0 rfl, q1 7 0 (by omega) (by omega) (by omega)]; exact h4
  obtain ⟨C6, hC6⟩ : ∃ C6, C6 = a_pi (a_pi (a_pi (a_pi (a_pi C1 8 nw (nI l)) 9 nw (nI (d / 100))) 10 nw (nI (d % 100))) 11 nw (nI h)) 12 nw a3 := ⟨_, rfl⟩
  have eapp : f_X6_append (nI l) (nI (d / 100)) (nI (d % 100)) (nI h) a3 C1 = some (a_pi C6 7 0 (nI (nw + 1))) := by
    have l8 : ∀ C' : aSc, a_len 8 (C'.2.2 8) = 20 := fun _ => rfl
    have l9 : ∀ C' : aSc, a_len 9 (C'.2.2 9) = 20 := fun _ => rfl
    have l10 : ∀ C' : aSc, a_len 10 (C'.2.2 10) = 20 := fun _ => rfl
    have l11 : ∀ C' : aSc, a_len 11 (C'.2.2 11) = 20 := fun _ => rfl
    have l12 : ∀ C' : aSc, a_len 12 (C'.2.2 12) = 20 := fun _ => rfl
    rw [f_X6_append, nar01 z3, c170 C1 (fun _ _ _ => rfl), a_stN (by rw [l8]; exact h20) (by omega), Option.bind_some,
      c170 _ (fun c j e => a_pi_ne (by omega)), a_stN (by rw [l9]; exact h20) (by omega), Option.bind_some,
      c170 _ (fun c j e => by rw [a_pi_ne (by omega), a_pi_ne (by omega)]), a_stN (by rw [l10]; exact h20) (by omega), Option.bind_some,
      c170 _ (fun c j e => by rw [a_pi_ne (by omega), a_pi_ne (by omega), a_pi_ne (by omega)]), a_stN (by rw [l11]; exact h20) (by omega), Option.bind_some,
      c170 _ (fun c j e => by rw [a_pi_ne (by omega), a_pi_ne (by omega), a_pi_ne (by omega), a_pi_ne (by omega)]), a_stN (by rw [l12]; exact h20) (by omega), Option.bind_some, ← hC6, c170 C6 (fun c j e => by rw [hC6, a_pi_ne (by omega), a_pi_ne (by omega), a_pi_ne (by omega), a_pi_ne (by omega), a_pi_ne (by omega)]), nI_1]
    rfl
  have hC6n : ∀ c j, ¬ (8 ≤ c ∧ c ≤ 12 ∧ j = nw) → C6.1 c j = C1.1 c j := fun c j e => by rw [hC6, a_pi_ne (by omega), a_pi_ne (by omega), a_pi_ne (by omega), a_pi_ne (by omega), a_pi_ne (by omega)]
  have hC62 : C6.2 = C1.2 := by rw [hC6]; rfl
  obtain ⟨M5, hM5⟩ : ∃ M5, M5 = m_pi (m_pi (m_pi (m_pi (m_pi M1 1 (266 + 5 * nw) (nI l)) 1 (266 + 5 * nw + 1) (nI (d / 100))) 1 (266 + 5 * nw + 2) (nI (d % 100))) 1 (266 + 5 * nw + 3) (nI h)) 1 (266 + 5 * nw + 4) a3 := ⟨_, rfl⟩
  have m53 : M5 1 3 = nI nw := by rw [hM5, m_pi_ne (by omega), m_pi_ne (by omega), m_pi_ne (by omega), m_pi_ne (by omega), m_pi_ne (by omega), hM1]; exact h4'
  have g87 : g_X8_word_87 (nI l) (nI d) (nI h) a3 (nI nw) M = some (nI (nw + 1), m_pi M5 1 3 (nI (nw + 1))) := by
    have ea : (266 : Int32) + 5 * nI nw = nI (266 + 5 * nw) := by
      rw [show (266 : Int32) = nI 266 from rfl, show (5 : Int32) = nI 5 from rfl, pk_mul, nI_add]
    have eb1 : nI (266 + 5 * nw) + 1 = nI (266 + 5 * nw + 1) := nI_add _ 1
    have eb2 : nI (266 + 5 * nw) + 2 = nI (266 + 5 * nw + 2) := nI_add _ 2
    have eb3 : nI (266 + 5 * nw) + 3 = nI (266 + 5 * nw + 3) := nI_add _ 3
    have eb4 : nI (266 + 5 * nw) + 4 = nI (266 + 5 * nw + 4) := nI_add _ 4
    have g197 : ∀ b : Int32, b = a3 → g_X8_word_197 (nI nw) b (nI (266 + 5 * nw + 4)) (m_pi (m_pi (m_pi (m_pi M1 1 (266 + 5 * nw) (nI l)) 1 (266 + 5 * nw + 1) (nI (d / 100))) 1 (266 + 5 * nw + 2) (nI (d % 100))) 1 (266 + 5 * nw + 3) (nI h)) = some (nI (nw + 1), m_pi M5 1 3 (nI (nw + 1))) := by
      rintro b rfl
      have ml3 : m_ld M5 1 3 = some (nI nw) := by
        have := m_ldN (M := M5) (m := 1) (k := 3) (by decide) (by decide)
        rw [m53] at this
        exact this
      have ms3 : m_st M5 1 3 (nI (nw + 1)) = some (m_pi M5 1 3 (nI (nw + 1))) := m_stN (M := M5) (m := 1) (k := 3) (by decide) (by decide)
      rw [g_X8_word_197, m_stN (by omega) (by omega), Option.bind_some, ← hM5, ml3, Option.bind_some, nI_1, ms3, Option.bind_some]
    rw [g_X8_word_87, if_neg (show ¬ nI nw = (20 : Int32) from fun z => by have := (nI_eq (b := 20) (by omega) (by omega)).mp z; omega), k1, Option.bind_some, ea, ed, er, eb1, eb2, eb3, eb4, m_stN (by omega) (by omega), Option.bind_some, m_stN (by omega) (by omega), Option.bind_some, m_stN (by omega) (by omega), Option.bind_some, m_stN (by omega) (by omega), Option.bind_some]
    rcases z3 with e | e
    · rw [if_pos e]; exact g197 0 e.symm
    · rw [if_neg (by rw [e]; decide)]; exact g197 1 e.symm
  have hNn : ∀ j, j < 386 → j ≠ 3 → (j < 266 + 5 * nw ∨ 266 + 5 * nw + 5 ≤ j) → m_pi M5 1 3 (nI (nw + 1)) 1 j = M 1 j := fun j a b c => by
    rw [m_pi_ne (by omega), hM5, m_pi_ne (by omega), m_pi_ne (by omega), m_pi_ne (by omega), m_pi_ne (by omega), m_pi_ne (by omega), hM1]
  refine ⟨nI (nw + 1), a_pi C6 7 0 (nI (nw + 1)), m_pi M5 1 3 (nI (nw + 1)), ?_, ?_, fin _ _ ?_ ?_ ?_ ?_ ?_⟩
  · rw [f_X7_word, i1, Option.bind_some, if_neg (by decide), if_neg hd1, if_neg hd2, j1, Option.bind_some, if_neg (by decide), ed, er, if_neg hft', e7, Option.bind_some, if_pos hle, c70, if_pos (show nI nw < (20 : Int32) from (nI_ltI (b := 20) (by omega) (by omega)).mpr h20), bd2, r1, Option.bind_some]
    dsimp only
    rw [if_pos (step_ok top ht), eapp, Option.bind_some]
    show some ((a_pi C6 7 0 (nI (nw + 1))).1 7 0, _) = _
    rw [a_pi_at]
  · rw [f_X8_word, i2, Option.bind_some, if_neg (by decide), hwi, Option.bind_some, if_neg (by decide), j2, Option.bind_some, if_neg (by decide), m3, Option.bind_some, ed, er, if_neg hft', e8, if_pos hle, g87]
  · intro c j hv hc
    have := vr_t hv
    rw [a_pi_ne (by omega), hC6n c j (by omega)]
  · show C6.2.2 = _
    rw [hC62]
  · intro m hm
    rw [m_pi_row hm, hM5, m_pi_row hm, m_pi_row hm, m_pi_row hm, m_pi_row hm, m_pi_row hm]
  · refine ⟨nl, nb, nf, nw + 1, hz, dy, V_word (C := C1) (N := M 1) (act_V hV q1 q2) h20 (fun c j _ a b => by rw [a_pi_ne b, hC6n c j a]) (fun c j _ _ => by show C6.2.1 c j = _; rw [hC62]) a_pi_at ?_ hNn m_pi_at⟩
    unfold V_w
    refine ⟨?_, ?_, ?_, ?_, ?_, ?_⟩
    · rw [a_pi_ne (by omega), hC6, a_pi_ne (by omega), a_pi_ne (by omega), a_pi_ne (by omega), a_pi_ne (by omega), a_pi_at, m_pi_ne (by omega), hM5, m_pi_ne (by omega), m_pi_ne (by omega), m_pi_ne (by omega), m_pi_ne (by omega), m_pi_at]
    · rw [a_pi_ne (by omega), hC6, a_pi_ne (by omega), a_pi_ne (by omega), a_pi_ne (by omega), a_pi_at, m_pi_ne (by omega), hM5, m_pi_ne (by omega), m_pi_ne (by omega), m_pi_ne (by omega), m_pi_at]
    · rw [a_pi_ne (by omega), hC6, a_pi_ne (by omega), a_pi_ne (by omega), a_pi_at, m_pi_ne (by omega), hM5, m_pi_ne (by omega), m_pi_ne (by omega), m_pi_at]
    · rw [a_pi_ne (by omega), hC6, a_pi_ne (by omega), a_pi_at, m_pi_ne (by omega), hM5, m_pi_ne (by omega), m_pi_at]
    · rw [a_pi_ne (by omega), hC6, a_pi_at, m_pi_ne (by omega), hM5, m_pi_at]
    · rw [a_pi_ne (by omega), hC6, a_pi_at]; exact z3
  · exact Bk_word h20 h4' m_pi_at hNn _ _ _

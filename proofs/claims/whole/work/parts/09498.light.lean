/-- a light more -/
theorem V_light {C C' : aSc} {N N' : Nat → Int32} {nl nb nf nw hz dy : Nat} (hV : V_all C N nl nb nf nw hz dy) (hl : nl < 10) (hC : ∀ c j, vr c j = true → ¬ (24 + 3 * nl ≤ c ∧ c < 27 + 3 * nl) → ¬ (c = 0 ∧ j = 2) → C'.1 c j = C.1 c j) (hC2 : ∀ c j, 24 ≤ c → c < 54 → ¬ (24 + 3 * nl ≤ c ∧ c < 27 + 3 * nl) → C'.2.1 c j = C.2.1 c j) (h02 : C'.1 0 2 = nI (nl + 1)) (hN : ∀ j, j < 386 → j ≠ 0 → (j < 10 + 22 * nl ∨ 10 + 22 * nl + 22 ≤ j) → N' j = N j) (n0 : N' 0 = nI (nl + 1)) (hL' : V_l C' N' nl) : V_all C' N' (nl + 1) nb nf nw hz dy := by
  obtain ⟨⟨h0, h1, h2, h3, h4, h5, h6⟩, hL, hB, hF, hW, hD⟩ := hV
  have vl : ∀ c j, 24 ≤ c → c < 54 → vr c j = true := fun c j a b => by simp [vr, a, b]
  have vw : ∀ c j, 8 ≤ c → c ≤ 13 → vr c j = true := fun c j a b => by simp [vr, a, b]
  refine ⟨⟨by omega, ⟨h02, n0⟩, ?_, ?_, ?_, ?_, ?_⟩, ?_, ?_, ?_, ?_, ?_⟩
  · rw [hC 0 6 rfl (by omega) (by omega), hN 1 (by omega) (by omega) (by omega)]; exact h2
  · rw [hC 0 8 rfl (by omega) (by omega), hN 2 (by omega) (by omega) (by omega)]; exact h3
  · rw [hC 7 0 rfl (by omega) (by omega), hN 3 (by omega) (by omega) (by omega)]; exact h4
  · rw [hC 0 3 rfl (by omega) (by omega), hN 4 (by omega) (by omega) (by omega)]; exact h5
  · rw [hC 0 4 rfl (by omega) (by omega), hN 5 (by omega) (by omega) (by omega)]; exact h6
  · intro l' hl'
    by_cases e : l' = nl
    · subst e; exact hL'
    · exact V_l_cong (fun j => hC _ _ (vl _ _ (by omega) (by omega)) (by omega) (by omega)) (fun j => hC _ _ (vl _ _ (by omega) (by omega)) (by omega) (by omega)) (hC2 _ _ (by omega) (by omega) (by omega)) (fun j => hC2 _ _ (by omega) (by omega) (by omega)) (fun g hg => hN _ (by omega) (by omega) (by omega)) (hL l' (by omega))
  · intro b hb'
    obtain ⟨l, fr, to, x1, x2, x3, x4, x5⟩ := V_b_cong (hC 4 b rfl (by omega) (by omega)) (fun g hg => hN _ (by omega) (by omega) (by omega)) (hB b (by omega))
    exact ⟨l, fr, to, by omega, x2, x3, x4, x5⟩
  · exact V_f_cong (fun j _ => hC _ _ rfl (by omega) (by omega)) (fun j h => hN _ (by omega) (by omega) (by omega)) hF
  · intro w hw'
    exact V_w_cong (fun c a b => hC _ _ (vw _ _ a (by omega)) (by omega) (by omega)) (fun g hg => hN _ (by omega) (by omega) (by omega)) (hW w (by omega))
  · intro d hd
    exact V_d_cong (hC _ _ (vw _ _ (by omega) (by omega)) (by omega) (by omega)) (hN _ (by omega) (by omega) (by omega)) (hD d hd)
theorem Bk_light {No Nn : Nat → Int32} {nl nb : Nat} (hl : nl < 10) (hnb : nb ≤ 8) (ho : No 0 = nI nl) (hn0 : Nn 0 = nI (nl + 1)) (hb1 : No 1 = nI nb) (hb : ∀ b, b < nb → ∃ l, l < nl ∧ No (230 + 3 * b) = nI l) (hN : ∀ j, j < 386 → j ≠ 0 → (j < 10 + 22 * nl ∨ 10 + 22 * nl + 22 ≤ j) → Nn j = No j) (o w : Int32) (row : Nat → Int32) : Bk 0 o w row Nn No := by
  rintro C c hc e0 e1 e2 e3 ⟨nl', nb', nf, nw, hz, dy, hV⟩
  have hnl' : nl' = nl + 1 := by
    have g1 := hV.1.2.1.2
    rw [hn0] at g1
    exact ((nI_eq (by omega) (by have := hV.1.1.1; omega)).mp g1).symm
  subst hnl'
  have hnb' : nb' = nb := by
    have g1 := hV.1.2.2.1.2
    rw [hN 1 (by omega) (by omega) (by omega), hb1] at g1
    exact ((nI_eq (by omega) (by have := hV.1.1.2.1; omega)).mp g1).symm
  subst hnb'
  refine ⟨a_pi C 0 2 (nI nl), ?_, ⟨nl, nb', nf, nw, hz, dy, ?_⟩, fun c j h => a_pi_ne (by have := vr_t h; omega), rfl⟩
  · have g0 : a_gi C c 0 = 0 := e0
    have g2 : a_gi C 0 2 = nI (nl + 1) := hV.1.2.1.1
    rw [f_X7_takeBack, g0, g2, if_pos (by decide), oneLess7 (by omega)]
    rfl
  · obtain ⟨⟨h0, h1, h2, h3, h4, h5, h6⟩, hL, hB, hF, hW, hD⟩ := hV
    have nn : ∀ j, j < 386 → j ≠ 0 → (j < 10 + 22 * nl ∨ 10 + 22 * nl + 22 ≤ j) → No j = Nn j := fun j a b c => (hN j a b c).symm
    refine ⟨⟨by omega, ⟨a_pi_at, ho⟩, ?_, ?_, ?_, ?_, ?_⟩, ?_, ?_, ?_, ?_, ?_⟩
    · rw [a_pi_ne (by omega), nn 1 (by omega) (by omega) (by omega)]; exact h2
    · rw [a_pi_ne (by omega), nn 2 (by omega) (by omega) (by omega)]; exact h3
    · rw [a_pi_ne (by omega), nn 3 (by omega) (by omega) (by omega)]; exact h4
    · rw [a_pi_ne (by omega), nn 4 (by omega) (by omega) (by omega)]; exact h5
    · rw [a_pi_ne (by omega), nn 5 (by omega) (by omega) (by omega)]; exact h6
    · intro l hl
      exact V_l_cong (fun j => a_pi_ne (by omega)) (fun j => a_pi_ne (by omega)) rfl (fun _ => rfl) (fun g hg => nn _ (by omega) (by omega) (by omega)) (hL l (by omega))
    · intro b hb'
      obtain ⟨l, fr, to, x1, x2, x3, x4, x5⟩ := V_b_cong (C' := a_pi C 0 2 (nI nl)) (N' := No) (a_pi_ne (by omega)) (fun g hg => nn _ (by omega) (by omega) (by omega)) (hB b hb')
      obtain ⟨l2, hl2, e⟩ := hb b hb'
      rw [x2] at e
      have : l = l2 := (nI_eq (by omega) (by omega)).mp e
      exact ⟨l, fr, to, by omega, x2, x3, x4, x5⟩
    · exact V_f_cong (fun j _ => a_pi_ne (by omega)) (fun j h => nn _ (by omega) (by omega) (by omega)) hF
    · intro w hw'
      exact V_w_cong (fun c' _ _ => a_pi_ne (by omega)) (fun g hg => nn _ (by omega) (by omega) (by omega)) (hW w hw')
    · intro d hd
      exact V_d_cong (a_pi_ne (by omega)) (nn _ (by omega) (by omega) (by omega)) (hD d hd)
/-- a text that is read is kept: both sides -/
theorem light_go {C : aSc} {M : aMm} (hR : Rel C M) {nl nb nf nw hz dy : Nat} (hV : V_all C (M 1) nl nb nf nw hz dy) (hnl : nl < 10) {r s t co pe : Nat} (hr : rhy r s t) (hg : good r t pe) (hco : co ≤ 2) (c4 : a_gi C 1 4 = nI r) (c5 : a_gi C 1 5 = nI t) (c6 : a_gi C 1 6 = nI co) (c7 : a_gi C 1 7 = nI pe) (m11 : m_gi M 0 11 = nI s) (m12 : m_gi M 0 12 = nI t) (m13 : m_gi M 0 13 = nI co) (m14 : m_gi M 0 14 = nI pe) {kd ce ra : Nat} (hkd : kd ≤ 3) (hce : ce ≤ 255) (hra1 : 1 ≤ ra) (hra : ra ≤ 15) : ∃ C' M', (bd2 (f_X7_remember (0 : Int32) (a_gi C 0 2) (0 : Int32) C) fun r20 C21 => if 62 ≤ r20 ∧ r20 < 94 ∧ r20 % 2 = 0 then (a_rf 24 3 10 (a_gi C21 0 2)).bind fun c24 => (f_X1_become c24 (nI kd) (nI ce) (nI ra) C21).bind fun C28 => (a_rf 24 3 10 (a_gi C28 0 2)).bind fun c29 => (f_X1_take c29 C28).bind fun C33 => (some (a_pi C33 0 2 ((a_gi C33 0 2) + (1 : Int32)))).bind fun C34 => some (((a_gi C34 0 2) - (1 : Int32)), C34) else none) = some (nI nl, C') ∧ ((f_X8_keep M).bind fun M21 => (lpf (fun a : Int32 × aMm => b_X8_light_83 (nI kd) (nI ce) (nI ra) (nI nl) a.1 a.2) FU ((0 : Int32), M21)).bind fun z27 => (f_X8_of (nI nl) (0 : Int32) z27).bind fun r31 => (m_st z27 1 r31 (nI kd)).bind fun M32 => (f_X8_of (nI nl) (1 : Int32) M32).bind fun r35 => (m_st M32 1 r35 (nI ce)).bind fun M36 => (f_X8_of (nI nl) (2 : Int32) M36).bind fun r39 => (m_st M36 1 r39 (nI ra)).bind fun M40 => (f_X8_of (nI nl) (3 : Int32) M40).bind fun r43 => (m_st M40 1 r43 (m_gi M40 0 13)).bind fun M44 => (f_X8_of (nI nl) (4 : Int32) M44).bind fun r47 => (m_st M44 1 r47 (m_gi M44 0 14)).bind fun M48 => (lpf (fun a : Int32 × aMm => b_X8_light_178 (nI nl) a.1 a.2) FU ((0 : Int32), M48)).bind fun z62 => (f_X8_of (nI nl) (9 : Int32) z62).bind fun r66 => (m_st z62 1 r66 (4 : Int32)).bind fun M67 => (m_ld M67 1 (0 : Int32)).bind fun u69 => (m_st M67 1 (0 : Int32) (u69 + (1 : Int32))).bind fun M71 => some (nI nl, M71)) = some (nI nl, M') ∧ Rel C' M' := by
  obtain ⟨⟨h0, ⟨h1, h1'⟩, ⟨h2, h2'⟩, -⟩, hL, hB, -⟩ := id hV
  have hlen : a_len (94 + 1) 0 = 386 := rfl
  obtain ⟨top, C1, M1, ht, r1, k1, q1, q2, q3, q4, fin⟩ := act_ok hR 0 (nI nl) 0
  have hM1 : M1 1 = M 1 := q3 1 (by omega) (by omega)
  have g2 : a_gi C 0 2 = nI nl := h1
  have g2' : a_gi C1 0 2 = nI nl := (q1 0 2 (by omega) (by omega) (by omega)).trans h1
  -- the class
  obtain ⟨x, hx⟩ : ∃ x, x = 24 + 3 * nl := ⟨_, rfl⟩
  obtain ⟨C28, hC28⟩ : ∃ C28, C28 = a_pi (a_pi (a_pi (a_pi (a_pi (a_pi (a_pi C1 x 0 (nI kd)) x 1 (nI ce)) x 2 (nI ra)) x 8 0) x 9 0) x 10 0) x 11 4 := ⟨_, rfl⟩
  have hbe : f_X1_become x (nI kd) (nI ce) (nI ra) C1 = some C28 := by rw [hC28]; rfl
  have c28n : ∀ c j, c ≠ x → C28.1 c j = C1.1 c j := fun c j h => by rw [hC28, a_pi_ne (by omega), a_pi_ne (by omega), a_pi_ne (by omega), a_pi_ne (by omega), a_pi_ne (by omega), a_pi_ne (by omega), a_pi_ne (by omega)]
  have c282 : C28.2 = C1.2 := by rw [hC28]; rfl
  have k28 : ∀ j, a_gi C28 1 j = a_gi C 1 j := fun j => (c28n 1 j (by omega)).trans (q1 1 j (by omega) (by omega) (by omega))
  obtain ⟨C33, t1, t2, t3, t4, t5, t6, t7, t8⟩ := take_ok (C := C28) (l := nl) hnl hr hg ((k28 4).trans c4) ((k28 5).trans c5) ((k28 6).trans c6) ((k28 7).trans c7)
  rw [← hx] at t1 t3 t4 t5 t6 t8
  have g33 : a_gi C33 0 2 = nI nl := ((t3 0 2 (by omega)).trans (c28n 0 2 (by omega))).trans g2'
  -- the reference
  obtain ⟨z27, z1, z2, z3⟩ := zero8 M1 hnl (nI kd) (nI ce) (nI ra)
  have o : ∀ (M : aMm) (g : Nat), f_X8_of (nI nl) (nI g) M = some (nI (10 + 22 * nl + g)) := fun M g => of_nI
  obtain ⟨M48, hM48⟩ : ∃ M48, M48 = m_pi (m_pi (m_pi (m_pi (m_pi z27 1 (10 + 22 * nl + 0) (nI kd)) 1 (10 + 22 * nl + 1) (nI ce)) 1 (10 + 22 * nl + 2) (nI ra)) 1 (10 + 22 * nl + 3) (nI co)) 1 (10 + 22 * nl + 4) (nI pe) := ⟨_, rfl⟩
  have m48n : ∀ m j, ¬ (m = 1 ∧ 10 + 22 * nl ≤ j ∧ j < 10 + 22 * nl + 5) → M48 m j = z27 m j := fun m j h => by rw [hM48, m_pi_ne (by omega), m_pi_ne (by omega), m_pi_ne (by omega), m_pi_ne (by omega), m_pi_ne (by omega)]
  have m0j : ∀ j, j ≠ 2 → z27 0 j = M 0 j := fun j h => (z3 0 j (by omega)).trans (q4 j h)
  have m48g : ∀ j, j ≠ 2 → m_gi M48 0 j = m_gi M 0 j := fun j h => (m48n 0 j (by omega)).trans (m0j j h)
  obtain ⟨z62, y1, y2, y3⟩ := bits8 (M := M48) hnl hr hg ((m48g 11 (by omega)).trans m11) ((m48g 12 (by omega)).trans m12) ((m48g 14 (by omega)).trans m14) (by rw [m48n _ _ (by omega)]; exact z2 5 (by omega))
  obtain ⟨M67, hM67⟩ : ∃ M67, M67 = m_pi z62 1 (10 + 22 * nl + 9) 4 := ⟨_, rfl⟩
  have m67n : ∀ m j, ¬ (m = 1 ∧ 10 + 22 * nl ≤ j ∧ j < 10 + 22 * nl + 22) → M67 m j = M1 m j := fun m j h => by rw [hM67, m_pi_ne (by omega), y3 m j (by omega), m48n m j (by omega), z3 m j h]
  have u69 : M67 1 0 = nI nl := by rw [m67n 1 0 (by omega), hM1]; exact h1'
  have ml0 : m_ld M67 1 0 = some (nI nl) := by
    have := m_ldN (M := M67) (m := 1) (k := 0) (by decide) (by decide)
    rw [u69] at this
    exact this
  have ms0 : m_st M67 1 0 (nI (nl + 1)) = some (m_pi M67 1 0 (nI (nl + 1))) := m_stN (M := M67) (m := 1) (k := 0) (by decide) (by decide)
  have hNn : ∀ j, j < 386 → j ≠ 0 → (j < 10 + 22 * nl ∨ 10 + 22 * nl + 22 ≤ j) → m_pi M67 1 0 (nI (nl + 1)) 1 j = M 1 j := fun j a b c => by rw [m_pi_ne (by omega), m67n 1 j (by omega), hM1]
  refine ⟨a_pi C33 0 2 (nI (nl + 1)), m_pi M67 1 0 (nI (nl + 1)), ?_, ?_, fin _ _ ?_ ?_ ?_ ?_ ?_⟩
  · have g34 : a_gi (a_pi C33 0 2 (nI (nl + 1))) 0 2 = nI (nl + 1) := a_pi_at
    have g28 : a_gi C28 0 2 = nI nl := (c28n 0 2 (by omega)).trans g2'
    rw [g2, bd2, r1, Option.bind_some]
    dsimp only
    rw [if_pos (step_ok top ht), g2', a_rfN hnl (by omega), Option.bind_some, ← hx, hbe, Option.bind_some, g28, a_rfN hnl (by omega), Option.bind_some, ← hx, t1, Option.bind_some, g33, nI_1, Option.bind_some, g34, nI_pred]
  · have o0 := fun M => o M 0
    have w13 : m_gi (m_pi (m_pi (m_pi z27 1 (10 + 22 * nl + 0) (nI kd)) 1 (10 + 22 * nl + 1) (nI ce)) 1 (10 + 22 * nl + 2) (nI ra)) 0 13 = nI co := m_nt (by omega) (m_nt (by omega) (m_nt (by omega) ((m0j 13 (by omega)).trans m13)))
    have w14 : m_gi (m_pi (m_pi (m_pi (m_pi z27 1 (10 + 22 * nl + 0) (nI kd)) 1 (10 + 22 * nl + 1) (nI ce)) 1 (10 + 22 * nl + 2) (nI ra)) 1 (10 + 22 * nl + 3) (nI co)) 0 14 = nI pe := m_nt (by omega) (m_nt (by omega) (m_nt (by omega) (m_nt (by omega) ((m0j 14 (by omega)).trans m14))))
    rw [k1, Option.bind_some, z1, Option.bind_some]
    rw [show f_X8_of (nI nl) 0 z27 = _ from o z27 0, Option.bind_some, m_stN (by omega) (by omega), Option.bind_some]
    rw [show f_X8_of (nI nl) 1 _ = _ from o _ 1, Option.bind_some, m_stN (by omega) (by omega), Option.bind_some]
    rw [show f_X8_of (nI nl) 2 _ = _ from o _ 2, Option.bind_some, m_stN (by omega) (by omega), Option.bind_some]
    rw [show f_X8_of (nI nl) 3 _ = _ from o _ 3, Option.bind_some, w13, m_stN (by omega) (by omega), Option.bind_some]
    rw [show f_X8_of (nI nl) 4 _ = _ from o _ 4, Option.bind_some, w14, m_stN (by omega) (by omega), Option.bind_some, ← hM48, y1, Option.bind_some]
    rw [show f_X8_of (nI nl) 9 _ = _ from o _ 9, Option.bind_some, m_stN (by omega) (by omega), Option.bind_some, ← hM67, ml0, Option.bind_some, nI_1, ms0, Option.bind_some]
  · intro c j hv hc
    have := vr_t hv
    rw [a_pi_ne (by omega), t3 c j (by omega), c28n c j (by omega)]
  · show C33.2.2 = _
    rw [t2, c282]
  · intro m hm
    funext j
    rw [m_pi_ne (by omega), m67n m j (by omega)]
  · have n' : ∀ g, g < 22 → g ≠ 5 → g ≠ 9 → m_pi M67 1 0 (nI (nl + 1)) 1 (10 + 22 * nl + g) = M48 1 (10 + 22 * nl + g) := fun g a b c => by rw [m_pi_ne (by omega), hM67, m_pi_ne (by omega), y3 _ _ (by omega)]
    have cx : ∀ j, j ≠ 3 → j ≠ 4 → (a_pi C33 0 2 (nI (nl + 1))).1 x j = C28.1 x j := fun j a b => by rw [a_pi_ne (by omega), t3 x j (by omega)]
    refine ⟨nl + 1, nb, nf, nw, hz, dy, V_light (C := C1) (N := M 1) (act_V hV q1 q2) hnl (fun c j hv a b => ?_) (fun c j a b d => ?_) a_pi_at hNn m_pi_at ?_⟩
    · rw [a_pi_ne b, t3 c j (by omega), c28n c j (by omega)]
    · show C33.2.1 c j = _
      rw [t8 c j (by omega) (by omega), c282]
    · obtain ⟨_, okb, pe1, pe30⟩ := lit_ok (C := C28) hr hg ((k28 4).trans c4) ((k28 5).trans c5) ((k28 7).trans c7)
      have z0 : (0 : Int32) = nI 0 := rfl
      refine ⟨⟨kd, by omega, hkd, ?_, ?_⟩, ⟨ce, by omega, hce, ?_, ?_⟩, ⟨ra, hra1, hra, ?_, ?_⟩, ⟨co, by omega, hco, ?_, ?_⟩, ⟨pe, rfB r t pe pe, pe1, pe30, okb, ?_, ?_, ?_, ?_, ?_⟩, ⟨0, by omega, ?_, ?_, fun s hs => absurd hs (by omega)⟩, ⟨0, by omega, by omega, ?_, ?_⟩, ⟨0, by omega, by omega, ?_, ?_⟩, ⟨4, by omega, by omega, ?_, ?_⟩⟩
      · rw [← hx, cx 0 (by omega) (by omega), hC28, a_pi_ne (by omega), a_pi_ne (by omega), a_pi_ne (by omega), a_pi_ne (by omega), a_pi_ne (by omega), a_pi_ne (by omega), a_pi_at]
      · rw [n' 0 (by omega) (by omega) (by omega), hM48, m_pi_ne (by omega), m_pi_ne (by omega), m_pi_ne (by omega), m_pi_ne (by omega), m_pi_at]
      · rw [← hx, cx 1 (by omega) (by omega), hC28, a_pi_ne (by omega), a_pi_ne (by omega), a_pi_ne (by omega), a_pi_ne (by omega), a_pi_ne (by omega), a_pi_at]
      · rw [n' 1 (by omega) (by omega) (by omega), hM48, m_pi_ne (by omega), m_pi_ne (by omega), m_pi_ne (by omega), m_pi_at]
      · rw [← hx, cx 2 (by omega) (by omega), hC28, a_pi_ne (by omega), a_pi_ne (by omega), a_pi_ne (by omega), a_pi_ne (by omega), a_pi_at]
      · rw [n' 2 (by omega) (by omega) (by omega), hM48, m_pi_ne (by omega), m_pi_ne (by omega), m_pi_at]
      · rw [← hx, a_pi_ne (by omega)]; exact t4
      · rw [n' 3 (by omega) (by omega) (by omega), hM48, m_pi_ne (by omega), m_pi_at]
      · rw [← hx, a_pi_ne (by omega)]; exact t5
      · rw [n' 4 (by omega) (by omega) (by omega), hM48, m_pi_at]
      · rw [← hx]; exact t6
      · rw [m_pi_ne (by omega), hM67, m_pi_ne (by omega)]; exact y2
      · exact t7
      · rw [← hx, cx 8 (by omega) (by omega), hC28, a_pi_ne (by omega), a_pi_ne (by omega), a_pi_ne (by omega), a_pi_at]; rfl
      · rw [n' 6 (by omega) (by omega) (by omega), m48n _ _ (by omega)]; exact z2 6 (by omega)
      · rw [← hx, cx 9 (by omega) (by omega), hC28, a_pi_ne (by omega), a_pi_ne (by omega), a_pi_at]; rfl
      · rw [n' 7 (by omega) (by omega) (by omega), m48n _ _ (by omega)]; exact z2 7 (by omega)
      · rw [← hx, cx 10 (by omega) (by omega), hC28, a_pi_ne (by omega), a_pi_at]; rfl
      · rw [n' 8 (by omega) (by omega) (by omega), m48n _ _ (by omega)]; exact z2 8 (by omega)
      · rw [← hx, cx 11 (by omega) (by omega), hC28, a_pi_at]; rfl
      · rw [m_pi_ne (by omega), hM67, m_pi_at]; rfl
  · refine Bk_light hnl (by omega) h1' m_pi_at h2' (fun b hb => ?_) hNn _ _ _
    obtain ⟨l, fr, to, x1, x2, _⟩ := hB b hb
    exact ⟨l, x1, x2⟩
theorem pr_light (a0 : Int32) (a1 : Int32) (a2 : Int32) {C : aSc} {M : aMm} (hR : Rel C M) : ∃ (v : Int32) (C' : aSc) (M' : aMm), f_X7_light a0 a1 a2 C = some (v, C') ∧ f_X8_light a0 a1 a2 M = some (v, M') ∧ Rel C' M' := by
  obtain ⟨nl, nb, nf, nw, hz, dy, hV⟩ := hR.1
  obtain ⟨⟨h0, ⟨h1, h1'⟩, -⟩, -⟩ := id hV
  have g2 : a_gi C 0 2 = nI nl := h1
  have ml0 : m_ld M 1 0 = some (nI nl) := by
    have := m_ldN (M := M) (m := 1) (k := 0) (by decide) (by decide)
    rw [h1'] at this
    exact this
  rcases kind_pair (C := C) (M := M) a0 with ⟨kd, hkd, rfl, i1, i2⟩ | ⟨i1, i2⟩
  rotate_left
  · refine ⟨-100001, _, _, ?_, ?_, rel_refuse hR⟩
    · rw [f_X7_light, i1, Option.bind_some, if_pos (by decide)]; rfl
    · rw [f_X8_light, i2, Option.bind_some, if_pos (by decide)]; rfl
  rcases cell_pair (C := C) (M := M) a1 with ⟨ce, hce, rfl, j1, j2⟩ | ⟨j1, j2⟩
  rotate_left
  · refine ⟨-100001, _, _, ?_, ?_, rel_refuse hR⟩
    · rw [f_X7_light, i1, Option.bind_some, if_neg (by decide), j1, Option.bind_some, if_pos (by decide)]; rfl
    · rw [f_X8_light, i2, Option.bind_some, if_neg (by decide), j2, Option.bind_some, if_pos (by decide)]; rfl
  have low : a2 < 1 → ∃ (v : Int32) (C' : aSc) (M' : aMm), f_X7_light (nI kd) (nI ce) a2 C = some (v, C') ∧ f_X8_light (nI kd) (nI ce) a2 M = some (v, M') ∧ Rel C' M' := fun hlt => by
    refine ⟨-100001, _, _, ?_, ?_, rel_refuse hR⟩
    · rw [f_X7_light, i1, Option.bind_some, if_neg (by decide), j1, Option.bind_some, if_neg (by decide), if_pos hlt]; rfl
    · rw [f_X8_light, i2, Option.bind_some, if_neg (by decide), j2, Option.bind_some, if_neg (by decide), within_out (Or.inl hlt), Option.bind_some, if_pos (by decide)]; rfl
  rcases nI_cases a2 15 (by decide) with ⟨ra, hra, rfl⟩ | hneg | hbig
  rotate_left
  · exact low (Int32.lt_iff_toInt_lt.mpr (by have := Int32.lt_iff_toInt_lt.mp hneg; have e0 : (0 : Int32).toInt = 0 := rfl; have e1 : (1 : Int32).toInt = 1 := rfl; omega))
  · obtain ⟨b1, b2, b3⟩ := nI_big (by decide) hbig
    have n1 : ¬ a2 < (1 : Int32) := fun z => by
      have q1 := Int32.lt_iff_toInt_lt.mp z
      have q2 := Int32.lt_iff_toInt_lt.mp hbig
      have e8 : (nI 15).toInt = 15 := rfl
      have e1 : (1 : Int32).toInt = 1 := rfl
      omega
    refine ⟨-100001, _, _, ?_, ?_, rel_refuse hR⟩
    · rw [f_X7_light, i1, Option.bind_some, if_neg (by decide), j1, Option.bind_some, if_neg (by decide), if_neg n1, if_neg (show ¬ a2 ≤ (15 : Int32) from b2)]; rfl
    · rw [f_X8_light, i2, Option.bind_some, if_neg (by decide), j2, Option.bind_some, if_neg (by decide), within_out (lo := 1) (hi := 15) (Or.inr hbig), Option.bind_some, if_pos (by decide)]; rfl
  rcases Nat.eq_zero_or_pos ra with z | hra1
  · subst z; exact low (by decide)
  have n1 : ¬ nI ra < (1 : Int32) := fun z => by have := (nI_ltI (b := 1) (by omega) (by omega)).mp z; omega
  have n2 : nI ra ≤ (15 : Int32) := (nI_leI (b := 15) (by omega) (by omega)).mpr hra
  have hw : f_X8_within (nI ra) 1 15 M = some 1 := within_in (lo := 1) (hi := 15) (by omega) hra (by omega)
  rcases Nat.lt_or_ge nl 10 with hnl | hnl
  rotate_left
  · have : nl = 10 := by omega
    subst this
    refine ⟨-100005, _, _, ?_, ?_, rel_refuse hR⟩
    · rw [f_X7_light, i1, Option.bind_some, if_neg (by decide), j1, Option.bind_some, if_neg (by decide), if_neg n1, if_pos n2, g2, if_neg (by decide)]; rfl
    · rw [f_X8_light, i2, Option.bind_some, if_neg (by decide), j2, Option.bind_some, if_neg (by decide), hw, Option.bind_some, if_neg (by decide), ml0, Option.bind_some, if_pos (by decide)]; rfl
  have hlt : nI nl < (10 : Int32) := (nI_ltI (b := 10) (by omega) (by omega)).mpr hnl
  have hne : ¬ nI nl = (10 : Int32) := fun z => by have := (nI_eq (b := 10) (by omega) (by omega)).mp z; omega
  obtain ⟨n, t1, t2, t3, t4⟩ := hR.2.1
  obtain ⟨rr, C16, M17, f1, f2, f3, f4, f5⟩ := fault_ok (n := n) (T := fun i => M 3 i) (C := C) (M := M) ⟨t2, t4⟩ ⟨t3, fun _ _ => rfl⟩ t1
  have xc : ∀ c j, c ≠ 1 → C16.1 c j = C.1 c j := fun c j h => f3.2 c j (fun z => h z.1)
  have hR' : Rel (a_pi C16 1 1 0) (m_pi M17 0 5 0) := rel_tp hR (fun c j _ a b => by rw [a_pi_ne (by omega), xc c j a]) f3.1 (fun j hj => by rw [m_pi_ne (by omega)]; exact f4 0 j (fun z => by have := z.2; simp [kA8] at this; omega)) (fun m a b c => funext fun j => by rw [m_pi_ne (by omega)]; exact f4 m j (fun z => by omega)) ⟨0, by omega, a_pi_at, m_pi_at, fun i hi => absurd hi (by omega)⟩
  have e7 : f_X7_light (nI kd) (nI ce) (nI ra) C = if (rr : Int32) < 0 then bd2 (f_X7_remember (0 : Int32) (a_gi (a_pi C16 1 1 0) 0 2) (0 : Int32) (a_pi C16 1 1 0)) fun r20 C21 => if 62 ≤ r20 ∧ r20 < 94 ∧ r20 % 2 = 0 then (a_rf 24 3 10 (a_gi C21 0 2)).bind fun c24 => (f_X1_become c24 (nI kd) (nI ce) (nI ra) C21).bind fun C28 => (a_rf 24 3 10 (a_gi C28 0 2)).bind fun c29 => (f_X1_take c29 C28).bind fun C33 => (some (a_pi C33 0 2 ((a_gi C33 0 2) + (1 : Int32)))).bind fun C34 => some (((a_gi C34 0 2) - (1 : Int32)), C34) else none else some (((-1 : Int32) - rr), a_pi C16 1 1 0) := by
    rw [f_X7_light, i1, Option.bind_some, if_neg (by decide), j1, Option.bind_some, if_neg (by decide), if_neg n1, if_pos n2, g2, if_pos hlt, bd2, f1, Option.bind_some, Option.bind_some]
  have e8 : f_X8_light (nI kd) (nI ce) (nI ra) M = if (rr : Int32) < 0 then (f_X8_keep (m_pi M17 0 5 0)).bind fun M21 => (lpf (fun a : Int32 × aMm => b_X8_light_83 (nI kd) (nI ce) (nI ra) (nI nl) a.1 a.2) FU ((0 : Int32), M21)).bind fun z27 => (f_X8_of (nI nl) (0 : Int32) z27).bind fun r31 => (m_st z27 1 r31 (nI kd)).bind fun M32 => (f_X8_of (nI nl) (1 : Int32) M32).bind fun r35 => (m_st M32 1 r35 (nI ce)).bind fun M36 => (f_X8_of (nI nl) (2 : Int32) M36).bind fun r39 => (m_st M36 1 r39 (nI ra)).bind fun M40 => (f_X8_of (nI nl) (3 : Int32) M40).bind fun r43 => (m_st M40 1 r43 (m_gi M40 0 13)).bind fun M44 => (f_X8_of (nI nl) (4 : Int32) M44).bind fun r47 => (m_st M44 1 r47 (m_gi M44 0 14)).bind fun M48 => (lpf (fun a : Int32 × aMm => b_X8_light_178 (nI nl) a.1 a.2) FU ((0 : Int32), M48)).bind fun z62 => (f_X8_of (nI nl) (9 : Int32) z62).bind fun r66 => (m_st z62 1 r66 (4 : Int32)).bind fun M67 => (m_ld M67 1 (0 : Int32)).bind fun u69 => (m_st M67 1 (0 : Int32) (u69 + (1 : Int32))).bind fun M71 => some (nI nl, M71) else some (((-1 : Int32) - rr), m_pi M17 0 5 0) := by
    rw [f_X8_light, i2, Option.bind_some, if_neg (by decide), j2, Option.bind_some, if_neg (by decide), hw, Option.bind_some, if_neg (by decide), ml0, Option.bind_some, if_neg hne, bd2, f2, Option.bind_some, Option.bind_some]
  rcases f5 with ⟨q, hq, rfl⟩ | ⟨rfl, r, s, t, co, pe, y1, y2, y3, y4, y5, y6, y7, y8, y9, y10, y11⟩
  · have hn : ¬ nI q < 0 := nI_pos (by omega)
    exact ⟨-1 - nI q, _, _, e7.trans (if_neg hn), e8.trans (if_neg hn), hR'⟩
  · have hV' : V_all (a_pi C16 1 1 0) (m_pi M17 0 5 0 1) nl nb nf nw hz dy := by
      have : m_pi M17 0 5 0 1 = M 1 := funext fun j => by rw [m_pi_ne (by omega)]; exact f4 1 j (fun z => by omega)
      rw [this]
      refine V_all_cong (fun c j h => ?_) (fun c j _ _ => by show C16.2.1 c j = _; rw [f3.1]) (fun _ _ => rfl) hV
      have h' : c ≠ 1 := by rintro rfl; simp [vr] at h
      rw [a_pi_ne (by omega), xc c j h']
    obtain ⟨C', M', w1, w2, w3⟩ := light_go hR' hV' hnl y1 y2 y3 (a_nt (by decide) y4) (a_nt (by decide) y5) (a_nt (by decide) y6) (a_nt (by decide) y7) (m_nt (by decide) y8) (m_nt (by decide) y9) (m_nt (by decide) y10) (m_nt (by decide) y11) hkd hce hra1 hra
    exact ⟨nI nl, C', M', (e7.trans (if_pos (by decide))).trans w1, (e8.trans (if_pos (by decide))).trans w2, w3⟩

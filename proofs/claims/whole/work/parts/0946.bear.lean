def maskN (fr to : Nat) : Nat := (List.range 16).foldl (fun m d => if (d + 16 - fr) % 16 ≤ (to + 16 - fr) % 16 then m + 2 ^ d else m) 0
def cZ : aSc := (fun _ _ => 0, fun _ _ => 0, fun _ => 0)
theorem turned_all : ∀ fr, fr < 16 → ∀ to, to < 16 → f_X7_turnedOver (nI fr) (nI to) cZ = some (nI (maskN fr to)) := by decide +kernel
theorem mask_all : ∀ fr, fr < 16 → ∀ to, to < 16 → maskN fr to < 65536 ∧ ∀ d, d < 16 → (maskN fr to).testBit d = decide ((d + 16 - fr) % 16 ≤ (to + 16 - fr) % 16) := by decide +kernel
theorem turned_ok {C : aSc} {fr to : Nat} (h1 : fr < 16) (h2 : to < 16) : f_X7_turnedOver (nI fr) (nI to) C = some (nI (maskN fr to)) := (show f_X7_turnedOver (nI fr) (nI to) C = f_X7_turnedOver (nI fr) (nI to) cZ from rfl).trans (turned_all fr h1 to h2)
theorem pack_ok {fr to k : Nat} (h1 : fr < 16) (h2 : to < 16) (hk : k < 16) : V_k ((nI k <<< ((16 : Int32) &&& 31)) ||| nI (maskN fr to)) fr to k := by
  obtain ⟨m1, m2⟩ := mask_all fr h1 to h2
  refine ⟨h1, h2, maskN fr to, m1, ?_, m2⟩
  rw [pk_shlN (n := k) ((16 : Int32) &&& 31) 16 (by decide) (by omega), show k * 2 ^ 16 = 2 ^ 16 * k by omega, fa_or_sum k (by omega)]
/-- a bearing more -/
theorem V_bear {C C' : aSc} {N N' : Nat → Int32} {nl nb nf nw hz dy l fr to : Nat} (hV : V_all C N nl nb nf nw hz dy) (hb : nb < 8) (hl : l < nl) (hC : ∀ c j, vr c j = true → ¬ (c = 4 ∧ j = nb) → ¬ (c = 0 ∧ j = 6) → C'.1 c j = C.1 c j) (hC2 : ∀ c j, 24 ≤ c → c < 54 → C'.2.1 c j = C.2.1 c j) (h06 : C'.1 0 6 = nI (nb + 1)) (hk : V_k (C'.1 4 nb) fr to l) (hN : ∀ j, j < 386 → j ≠ 1 → j ≠ 230 + 3 * nb → j ≠ 230 + 3 * nb + 1 → j ≠ 230 + 3 * nb + 2 → N' j = N j) (n1 : N' 1 = nI (nb + 1)) (n2 : N' (230 + 3 * nb) = nI l) (n3 : N' (230 + 3 * nb + 1) = nI fr) (n4 : N' (230 + 3 * nb + 2) = nI to) : V_all C' N' nl (nb + 1) nf nw hz dy := by
  obtain ⟨⟨h0, h1, h2, h3, h4, h5, h6⟩, hL, hB, hF, hW, hD⟩ := hV
  have vl : ∀ c j, 24 ≤ c → c < 54 → vr c j = true := fun c j a b => by simp [vr, a, b]
  have vw : ∀ c j, 8 ≤ c → c ≤ 13 → vr c j = true := fun c j a b => by simp [vr, a, b]
  refine ⟨⟨by omega, ?_, ⟨h06, n1⟩, ?_, ?_, ?_, ?_⟩, ?_, ?_, ?_, ?_, ?_⟩
  · rw [hC 0 2 rfl (by omega) (by omega), hN 0 (by omega) (by omega) (by omega) (by omega) (by omega)]; exact h1
  · rw [hC 0 8 rfl (by omega) (by omega), hN 2 (by omega) (by omega) (by omega) (by omega) (by omega)]; exact h3
  · rw [hC 7 0 rfl (by omega) (by omega), hN 3 (by omega) (by omega) (by omega) (by omega) (by omega)]; exact h4
  · rw [hC 0 3 rfl (by omega) (by omega), hN 4 (by omega) (by omega) (by omega) (by omega) (by omega)]; exact h5
  · rw [hC 0 4 rfl (by omega) (by omega), hN 5 (by omega) (by omega) (by omega) (by omega) (by omega)]; exact h6
  · intro l' hl'
    exact V_l_cong (fun j => hC _ _ (vl _ _ (by omega) (by omega)) (by omega) (by omega)) (fun j => hC _ _ (vl _ _ (by omega) (by omega)) (by omega) (by omega)) (hC2 _ _ (by omega) (by omega)) (fun j => hC2 _ _ (by omega) (by omega)) (fun g hg => hN _ (by omega) (by omega) (by omega) (by omega) (by omega)) (hL l' hl')
  · intro b hb'
    by_cases e : b = nb
    · subst e
      exact ⟨l, fr, to, hl, n2, n3, n4, hk⟩
    · exact V_b_cong (hC _ _ rfl (by omega) (by omega)) (fun g hg => hN _ (by omega) (by omega) (by omega) (by omega) (by omega)) (hB b (by omega))
  · exact V_f_cong (fun j _ => hC _ _ rfl (by omega) (by omega)) (fun j h => hN _ (by omega) (by omega) (by omega) (by omega) (by omega)) hF
  · intro w hw
    exact V_w_cong (fun c a b => hC _ _ (vw _ _ a (by omega)) (by omega) (by omega)) (fun g hg => hN _ (by omega) (by omega) (by omega) (by omega) (by omega)) (hW w hw)
  · intro d hd
    exact V_d_cong (hC _ _ (vw _ _ (by omega) (by omega)) (by omega) (by omega)) (hN _ (by omega) (by omega) (by omega) (by omega) (by omega)) (hD d hd)
theorem Bk_bear {No Nn : Nat → Int32} {nb : Nat} (hb : nb < 8) (ho : No 1 = nI nb) (hn1 : Nn 1 = nI (nb + 1)) (hN : ∀ j, j < 386 → j ≠ 1 → j ≠ 230 + 3 * nb → j ≠ 230 + 3 * nb + 1 → j ≠ 230 + 3 * nb + 2 → Nn j = No j) (o w : Int32) (row : Nat → Int32) : Bk 5 o w row Nn No := by
  rintro C c hc e0 e1 e2 e3 ⟨nl, nb', nf, nw, hz, dy, hV⟩
  have hnb' : nb' = nb + 1 := by
    have g1 := hV.1.2.2.1.2
    rw [hn1] at g1
    exact ((nI_eq (by omega) (by have := hV.1.1.2.1; omega)).mp g1).symm
  subst hnb'
  refine ⟨a_pi C 0 6 (nI nb), ?_, ⟨nl, nb, nf, nw, hz, dy, ?_⟩, fun c j h => a_pi_ne (by have := vr_t h; omega), rfl⟩
  · have g0 : a_gi C c 0 = 5 := e0
    have g6 : a_gi C 0 6 = nI (nb + 1) := hV.1.2.2.1.1
    rw [f_X7_takeBack, g0, g6, if_neg (by decide), if_neg (by decide), if_neg (by decide), if_neg (by decide), if_neg (by decide), if_pos (by decide), oneLess7 (by omega)]
    rfl
  · obtain ⟨⟨h0, h1, h2, h3, h4, h5, h6⟩, hL, hB, hF, hW, hD⟩ := hV
    have nn : ∀ j, j < 386 → j ≠ 1 → j ≠ 230 + 3 * nb → j ≠ 230 + 3 * nb + 1 → j ≠ 230 + 3 * nb + 2 → No j = Nn j := fun j a b c d e => (hN j a b c d e).symm
    refine ⟨⟨by omega, ?_, ⟨a_pi_at, ho⟩, ?_, ?_, ?_, ?_⟩, ?_, ?_, ?_, ?_, ?_⟩
    · rw [a_pi_ne (by omega), nn 0 (by omega) (by omega) (by omega) (by omega) (by omega)]; exact h1
    · rw [a_pi_ne (by omega), nn 2 (by omega) (by omega) (by omega) (by omega) (by omega)]; exact h3
    · rw [a_pi_ne (by omega), nn 3 (by omega) (by omega) (by omega) (by omega) (by omega)]; exact h4
    · rw [a_pi_ne (by omega), nn 4 (by omega) (by omega) (by omega) (by omega) (by omega)]; exact h5
    · rw [a_pi_ne (by omega), nn 5 (by omega) (by omega) (by omega) (by omega) (by omega)]; exact h6
    · intro l hl
      exact V_l_cong (fun j => a_pi_ne (by omega)) (fun j => a_pi_ne (by omega)) rfl (fun _ => rfl) (fun g hg => nn _ (by omega) (by omega) (by omega) (by omega) (by omega)) (hL l hl)
    · intro b hb'
      exact V_b_cong (a_pi_ne (by omega)) (fun g hg => nn _ (by omega) (by omega) (by omega) (by omega) (by omega)) (hB b (by omega))
    · exact V_f_cong (fun j _ => a_pi_ne (by omega)) (fun j h => nn _ (by omega) (by omega) (by omega) (by omega) (by omega)) hF
    · intro w hw
      exact V_w_cong (fun c' _ _ => a_pi_ne (by omega)) (fun g hg => nn _ (by omega) (by omega) (by omega) (by omega) (by omega)) (hW w hw)
    · intro d hd
      exact V_d_cong (a_pi_ne (by omega)) (nn _ (by omega) (by omega) (by omega) (by omega) (by omega)) (hD d hd)
theorem pr_bearing (a0 : Int32) (a1 : Int32) (a2 : Int32) {C : aSc} {M : aMm} (hR : Rel C M) : ∃ (v : Int32) (C' : aSc) (M' : aMm), f_X7_bearing a0 a1 a2 C = some (v, C') ∧ f_X8_bearing a0 a1 a2 M = some (v, M') ∧ Rel C' M' := by
  obtain ⟨nl, nb, nf, nw, hz, dy, hV⟩ := hR.1
  obtain ⟨⟨h0, ⟨h1, h1'⟩, ⟨h2, h2'⟩, _⟩, hL, hB, -⟩ := id hV
  have hlen : a_len (94 + 1) 0 = 386 := rfl
  rcases isLight_pair (by omega) h1 h1' a0 with ⟨l, hl, rfl, i1, i2⟩ | ⟨i1, i2⟩
  rotate_left
  · refine ⟨-100001, _, _, ?_, ?_, rel_refuse hR⟩
    · rw [f_X7_bearing, i1, Option.bind_some, if_pos (by decide)]; rfl
    · rw [f_X8_bearing, i2, Option.bind_some, if_pos (by decide)]; rfl
  rcases way_pair (C := C) (M := M) a1 with ⟨fr, hfr, rfl, j1, j2⟩ | ⟨j1, j2⟩
  rotate_left
  · refine ⟨-100001, _, _, ?_, ?_, rel_refuse hR⟩
    · rw [f_X7_bearing, i1, Option.bind_some, if_neg (by decide), j1, Option.bind_some, if_pos (by decide)]; rfl
    · rw [f_X8_bearing, i2, Option.bind_some, if_neg (by decide), j2, Option.bind_some, if_pos (by decide)]; rfl
  rcases way_pair (C := C) (M := M) a2 with ⟨to, hto, rfl, k1', k2'⟩ | ⟨k1', k2'⟩
  rotate_left
  · refine ⟨-100001, _, _, ?_, ?_, rel_refuse hR⟩
    · rw [f_X7_bearing, i1, Option.bind_some, if_neg (by decide), j1, Option.bind_some, if_neg (by decide), k1', Option.bind_some, if_pos (by decide)]; rfl
    · rw [f_X8_bearing, i2, Option.bind_some, if_neg (by decide), j2, Option.bind_some, if_neg (by decide), k2', Option.bind_some, if_pos (by decide)]; rfl
  have g6 : a_gi C 0 6 = nI nb := h2
  have m1 : m_ld M 1 1 = some (nI nb) := by
    have := m_ldN (M := M) (m := 1) (k := 1) (by decide) (by decide)
    rw [h2'] at this
    exact this
  rcases Nat.lt_or_ge nb 8 with hb | hb
  rotate_left
  · have e8 : nb = 8 := by omega
    subst e8
    refine ⟨-100005, _, _, ?_, ?_, rel_refuse hR⟩
    · rw [f_X7_bearing, i1, Option.bind_some, if_neg (by decide), j1, Option.bind_some, if_neg (by decide), k1', Option.bind_some, if_neg (by decide), g6, if_neg (by decide)]; rfl
    · rw [f_X8_bearing, i2, Option.bind_some, if_neg (by decide), j2, Option.bind_some, if_neg (by decide), k2', Option.bind_some, if_neg (by decide), m1, Option.bind_some, if_pos (by decide)]; rfl
  obtain ⟨top, C1, M1, ht, r1, k1, q1, q2, q3, q4, fin⟩ := act_ok hR 5 0 0
  have hM1 : M1 1 = M 1 := q3 1 (by omega) (by omega)
  have c6 : a_gi C1 0 6 = nI nb := (q1 0 6 (by omega) (by omega) (by omega)).trans h2
  have hl4 : a_len 4 (C1.2.2 4) = 8 := rfl
  obtain ⟨pv, hpv⟩ : ∃ pv, pv = (nI l <<< ((16 : Int32) &&& 31)) ||| nI (maskN fr to) := ⟨_, rfl⟩
  have hpk : V_k pv fr to l := by rw [hpv]; exact pack_ok (by omega) (by omega) (by omega)
  have c6' : a_gi (a_pi C1 4 nb pv) 0 6 = nI nb := by
    show (a_pi C1 4 nb pv).1 0 6 = _
    rw [a_pi_ne (by omega)]; exact c6
  have ei : (230 : Int32) + 3 * nI nb = nI (230 + 3 * nb) := by rw [show (230 : Int32) = nI 230 from rfl, show (3 : Int32) = nI 3 from rfl, pk_mul, nI_add]
  have ei1 : nI (230 + 3 * nb) + 1 = nI (230 + 3 * nb + 1) := nI_1 _
  have ei2 : nI (230 + 3 * nb) + 2 = nI (230 + 3 * nb + 2) := nI_add _ 2
  obtain ⟨M4, hM4⟩ : ∃ M4, M4 = m_pi (m_pi (m_pi M1 1 (230 + 3 * nb) (nI l)) 1 (230 + 3 * nb + 1) (nI fr)) 1 (230 + 3 * nb + 2) (nI to) := ⟨_, rfl⟩
  have m41 : M4 1 1 = nI nb := by rw [hM4, m_pi_ne (by omega), m_pi_ne (by omega), m_pi_ne (by omega), hM1]; exact h2'
  have hNn : ∀ j, j < 386 → j ≠ 1 → j ≠ 230 + 3 * nb → j ≠ 230 + 3 * nb + 1 → j ≠ 230 + 3 * nb + 2 → (m_pi M4 1 1 (nI (nb + 1))) 1 j = M 1 j := fun j _ a b c d => by
    rw [m_pi_ne (by omega), hM4, m_pi_ne (by omega), m_pi_ne (by omega), m_pi_ne (by omega), hM1]
  refine ⟨nI (nb + 1), a_pi (a_pi C1 4 nb pv) 0 6 (nI (nb + 1)), m_pi M4 1 1 (nI (nb + 1)), ?_, ?_, fin _ _ ?_ rfl ?_ ?_ ?_⟩
  · rw [f_X7_bearing, i1, Option.bind_some, if_neg (by decide), j1, Option.bind_some, if_neg (by decide), k1', Option.bind_some, if_neg (by decide), g6, if_pos (show nI nb < (8 : Int32) from (nI_ltI (b := 8) (by omega) (by omega)).mpr hb), bd2, r1, Option.bind_some]
    dsimp only
    rw [if_pos (step_ok top ht), turned_ok (by omega) (by omega), Option.bind_some, ← hpv, c6, a_stN (by omega) (by omega), Option.bind_some, c6', nI_1, Option.bind_some]
    show some ((a_pi (a_pi C1 4 nb pv) 0 6 (nI (nb + 1))).1 0 6, _) = _
    rw [a_pi_at]
  · rw [f_X8_bearing, i2, Option.bind_some, if_neg (by decide), j2, Option.bind_some, if_neg (by decide), k2', Option.bind_some, if_neg (by decide), m1, Option.bind_some, if_neg (show ¬ nI nb = (8 : Int32) from fun z => by have := (nI_eq (b := 8) (by omega) (by omega)).mp z; omega), k1, Option.bind_some, ei, ei1, ei2, m_stN (by omega) (by omega), Option.bind_some, m_stN (by omega) (by omega), Option.bind_some, m_stN (by omega) (by omega), Option.bind_some, ← hM4]
    have m4l : m_ld M4 1 1 = some (nI nb) := by
      have := m_ldN (M := M4) (m := 1) (k := 1) (by decide) (by decide)
      rw [m41] at this
      exact this
    rw [m4l, Option.bind_some, nI_1]
    have hst : m_st M4 1 1 (nI (nb + 1)) = some (m_pi M4 1 1 (nI (nb + 1))) := m_stN (k := 1) (by decide) (by decide)
    rw [hst, Option.bind_some]
  · intro c j h hc
    have := vr_t h
    rw [a_pi_ne (by omega), a_pi_ne (by omega)]
  · intro m hm
    rw [m_pi_row hm, hM4, m_pi_row hm, m_pi_row hm, m_pi_row hm]
  · refine ⟨nl, nb + 1, nf, nw, hz, dy, V_bear (C := C1) (N := M 1) (fr := fr) (to := to) (act_V hV q1 q2) hb hl (fun c j _ a b => by rw [a_pi_ne b, a_pi_ne a]) (fun _ _ _ _ => rfl) a_pi_at ?_ hNn m_pi_at ?_ ?_ ?_⟩
    · rw [a_pi_ne (by omega), a_pi_at]; exact hpk
    · rw [m_pi_ne (by omega), hM4, m_pi_ne (by omega), m_pi_ne (by omega), m_pi_at]
    · rw [m_pi_ne (by omega), hM4, m_pi_ne (by omega), m_pi_at]
    · rw [m_pi_ne (by omega), hM4, m_pi_at]
  · exact Bk_bear hb h2' m_pi_at hNn _ _ _

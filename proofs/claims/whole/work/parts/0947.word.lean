/-- a sector more -/
theorem V_sect {C C' : aSc} {N N' : Nat → Int32} {nl nb nf nw hz dy l ns ns' : Nat} (hV : V_all C N nl nb nf nw hz dy) (hl : l < nl) (hns' : ns' ≤ 4) (hC : ∀ c j, vr c j = true → ¬ (c = 26 + 3 * l ∧ j = ns) → ¬ (c = 24 + 3 * l ∧ j = 8) → C'.1 c j = C.1 c j) (hC2 : ∀ c j, 24 ≤ c → c < 54 → C'.2.1 c j = C.2.1 c j) (hns : ns < 4) (h8 : C'.1 (24 + 3 * l) 8 = nI ns') (hN : ∀ j, j < 386 → j ≠ 10 + 22 * l + 6 → j ≠ 10 + 22 * l + (10 + 3 * ns) → j ≠ 10 + 22 * l + (11 + 3 * ns) → j ≠ 10 + 22 * l + (12 + 3 * ns) → N' j = N j) (n6 : N' (10 + 22 * l + 6) = nI ns') (hs : ∀ s, s < ns' → ∃ fr to k, k ≤ 3 ∧ N' (10 + 22 * l + (10 + 3 * s)) = nI fr ∧ N' (10 + 22 * l + (11 + 3 * s)) = nI to ∧ N' (10 + 22 * l + (12 + 3 * s)) = nI k ∧ V_k (C'.1 (26 + 3 * l) s) fr to k) : V_all C' N' nl nb nf nw hz dy := by
  obtain ⟨⟨h0, h1, h2, h3, h4, h5, h6⟩, hL, hB, hF, hW, hD⟩ := hV
  have vl : ∀ c j, 24 ≤ c → c < 54 → vr c j = true := fun c j a b => by simp [vr, a, b]
  have vw : ∀ c j, 8 ≤ c → c ≤ 13 → vr c j = true := fun c j a b => by simp [vr, a, b]
  have hn : ∀ j, j < 386 → (j < 10 + 22 * l ∨ 10 + 22 * l + 22 ≤ j) → N' j = N j := fun j a b => hN j a (by omega) (by omega) (by omega) (by omega)
  refine ⟨⟨h0, ?_, ?_, ?_, ?_, ?_, ?_⟩, ?_, ?_, ?_, ?_, ?_⟩
  · rw [hC 0 2 rfl (by omega) (by omega), hn 0 (by omega) (by omega)]; exact h1
  · rw [hC 0 6 rfl (by omega) (by omega), hn 1 (by omega) (by omega)]; exact h2
  · rw [hC 0 8 rfl (by omega) (by omega), hn 2 (by omega) (by omega)]; exact h3
  · rw [hC 7 0 rfl (by omega) (by omega), hn 3 (by omega) (by omega)]; exact h4
  · rw [hC 0 3 rfl (by omega) (by omega), hn 4 (by omega) (by omega)]; exact h5
  · rw [hC 0 4 rfl (by omega) (by omega), hn 5 (by omega) (by omega)]; exact h6
  · intro l' hl'
    by_cases e : l' = l
    · subst e
      have vp : ∀ f' g' lo hi', f' ≠ 8 → g' ≠ 6 → g' < 10 → V_p C N l' f' g' lo hi' → V_p C' N' l' f' g' lo hi' := by
        rintro f' g' lo hi' hf' hg' hg2 ⟨x, a, b, c, d⟩
        exact ⟨x, a, b, by rw [hC _ _ (vl _ _ (by omega) (by omega)) (by omega) (by omega)]; exact c, by rw [hN _ (by omega) (by omega) (by omega) (by omega) (by omega)]; exact d⟩
      obtain ⟨p1, p2, p3, p4, ⟨se, bt, r1, r2, r3, r4, r5, r6, r7, r8⟩, -, p5, p6, p7⟩ := hL l' hl'
      refine ⟨vp _ _ _ _ (by omega) (by omega) (by omega) p1, vp _ _ _ _ (by omega) (by omega) (by omega) p2, vp _ _ _ _ (by omega) (by omega) (by omega) p3, vp _ _ _ _ (by omega) (by omega) (by omega) p4, ⟨se, bt, r1, r2, r3, ?_, ?_, ?_, ?_, ?_⟩, ⟨ns', hns', h8, n6, hs⟩, vp _ _ _ _ (by omega) (by omega) (by omega) p5, vp _ _ _ _ (by omega) (by omega) (by omega) p6, vp _ _ _ _ (by omega) (by omega) (by omega) p7⟩
      · rw [hC _ _ (vl _ _ (by omega) (by omega)) (by omega) (by omega)]; exact r4
      · rw [hN _ (by omega) (by omega) (by omega) (by omega) (by omega)]; exact r5
      · rw [hC2 _ _ (by omega) (by omega)]; exact r6
      · rw [hN _ (by omega) (by omega) (by omega) (by omega) (by omega)]; exact r7
      · intro i hi
        rw [hC2 _ _ (by omega) (by omega)]
        exact r8 i hi
    · exact V_l_cong (fun j => hC _ _ (vl _ _ (by omega) (by omega)) (by omega) (by omega)) (fun j => hC _ _ (vl _ _ (by omega) (by omega)) (by omega) (by omega)) (hC2 _ _ (by omega) (by omega)) (fun j => hC2 _ _ (by omega) (by omega)) (fun g hg => hn _ (by omega) (by omega)) (hL l' hl')
  · intro b hb'
    exact V_b_cong (hC _ _ rfl (by omega) (by omega)) (fun g hg => hn _ (by omega) (by omega)) (hB b hb')
  · exact V_f_cong (fun j _ => hC _ _ rfl (by omega) (by omega)) (fun j h => hn _ (by omega) (by omega)) hF
  · intro w hw
    exact V_w_cong (fun c a b => hC _ _ (vw _ _ a (by omega)) (by omega) (by omega)) (fun g hg => hn _ (by omega) (by omega)) (hW w hw)
  · intro d hd
    exact V_d_cong (hC _ _ (vw _ _ (by omega) (by omega)) (by omega) (by omega)) (hn _ (by omega) (by omega)) (hD d hd)
theorem Bk_sect {No Nn : Nat → Int32} {nl l ns : Nat} (hnl : nl ≤ 10) (hl : l < nl) (h0 : No 0 = nI nl) (hns : ns < 4) (ho : No (10 + 22 * l + 6) = nI ns) (hn1 : Nn (10 + 22 * l + 6) = nI (ns + 1)) (hN : ∀ j, j < 386 → j ≠ 10 + 22 * l + 6 → j ≠ 10 + 22 * l + (10 + 3 * ns) → j ≠ 10 + 22 * l + (11 + 3 * ns) → j ≠ 10 + 22 * l + (12 + 3 * ns) → Nn j = No j) (w : Int32) (row : Nat → Int32) : Bk 1 (nI l) w row Nn No := by
  rintro C c hc e0 e1 e2 e3 ⟨nl', nb, nf, nw, hz, dy, hV⟩
  have hnl' : nl' = nl := by
    have g1 := hV.1.2.1.2
    rw [hN 0 (by omega) (by omega) (by omega) (by omega) (by omega), h0] at g1
    exact ((nI_eq (by omega) (by have := hV.1.1.1; omega)).mp g1).symm
  subst hnl'
  obtain ⟨-, -, -, -, -, ⟨ns', s1, s2, s3, s4⟩, -⟩ := hV.2.1 l hl
  have hns' : ns' = ns + 1 := by
    rw [hn1] at s3
    exact ((nI_eq (by omega) (by omega)).mp s3).symm
  subst hns'
  refine ⟨a_pi C (24 + 3 * l) 8 (nI ns), ?_, ⟨nl', nb, nf, nw, hz, dy, ?_⟩, fun c j h => a_pi_ne (by have := vr_t h; omega), rfl⟩
  · have g0 : a_gi C c 0 = 1 := e0
    have g1 : a_gi C c 1 = nI l := e1
    have g8 : a_gi C (24 + 3 * l) 8 = nI (ns + 1) := s2
    rw [f_X7_takeBack, g0, g1, if_neg (by decide), if_pos (by decide), a_rfN (by omega) (by omega), Option.bind_some, Option.bind_some, g8, oneLess7 (by omega)]
    rfl
  · refine V_sect (ns := ns) (ns' := ns) hV hl (by omega) (fun c j _ _ b => a_pi_ne b) (fun _ _ _ _ => rfl) hns a_pi_at (fun j a b c d e => (hN j a b c d e).symm) ho (fun s hs => ?_)
    obtain ⟨fr, to, k, k1, k2, k3, k4, k5⟩ := s4 s (by omega)
    exact ⟨fr, to, k, k1, by rw [← hN _ (by omega) (by omega) (by omega) (by omega) (by omega)]; exact k2, by rw [← hN _ (by omega) (by omega) (by omega) (by omega) (by omega)]; exact k3, by rw [← hN _ (by omega) (by omega) (by omega) (by omega) (by omega)]; exact k4, by rw [a_pi_ne (by omega)]; exact k5⟩
theorem pr_sector (a0 : Int32) (a1 : Int32) (a2 : Int32) (a3 : Int32) {C : aSc} {M : aMm} (hR : Rel C M) : ∃ (v : Int32) (C' : aSc) (M' : aMm), f_X7_sector a0 a1 a2 a3 C = some (v, C') ∧ f_X8_sector a0 a1 a2 a3 M = some (v, M') ∧ Rel C' M' := by
  obtain ⟨nl, nb, nf, nw, hz, dy, hV⟩ := hR.1
  obtain ⟨⟨h0, ⟨h1, h1'⟩, ⟨h2, h2'⟩, _⟩, hL, hB, -⟩ := id hV
  have hlen : a_len (94 + 1) 0 = 386 := rfl
  rcases isLight_pair (by omega) h1 h1' a0 with ⟨l, hl, rfl, i1, i2⟩ | ⟨i1, i2⟩
  rotate_left
  · refine ⟨-100001, _, _, ?_, ?_, rel_refuse hR⟩
    · rw [f_X7_sector, i1, Option.bind_some, if_pos (by decide)]; rfl
    · rw [f_X8_sector, i2, Option.bind_some, if_pos (by decide)]; rfl
  rcases way_pair (C := C) (M := M) a1 with ⟨fr, hfr, rfl, j1, j2⟩ | ⟨j1, j2⟩
  rotate_left
  · refine ⟨-100001, _, _, ?_, ?_, rel_refuse hR⟩
    · rw [f_X7_sector, i1, Option.bind_some, if_neg (by decide), j1, Option.bind_some, if_pos (by decide)]; rfl
    · rw [f_X8_sector, i2, Option.bind_some, if_neg (by decide), j2, Option.bind_some, if_pos (by decide)]; rfl
  rcases way_pair (C := C) (M := M) a2 with ⟨to, hto, rfl, k1', k2'⟩ | ⟨k1', k2'⟩
  rotate_left
  · refine ⟨-100001, _, _, ?_, ?_, rel_refuse hR⟩
    · rw [f_X7_sector, i1, Option.bind_some, if_neg (by decide), j1, Option.bind_some, if_neg (by decide), k1', Option.bind_some, if_pos (by decide)]; rfl
    · rw [f_X8_sector, i2, Option.bind_some, if_neg (by decide), j2, Option.bind_some, if_neg (by decide), k2', Option.bind_some, if_pos (by decide)]; rfl
  rcases nI_cases a3 3 (by decide) with ⟨k, hk, rfl⟩ | hneg | hbig
  rotate_left
  · refine ⟨-100001, _, _, ?_, ?_, rel_refuse hR⟩
    · rw [f_X7_sector, i1, Option.bind_some, if_neg (by decide), j1, Option.bind_some, if_neg (by decide), k1', Option.bind_some, if_neg (by decide), if_pos hneg]; rfl
    · rw [f_X8_sector, i2, Option.bind_some, if_neg (by decide), j2, Option.bind_some, if_neg (by decide), k2', Option.bind_some, if_neg (by decide), within_out (Or.inl hneg), Option.bind_some, if_pos (by decide)]; rfl
  · obtain ⟨b1, b2, b3⟩ := nI_big (by decide) hbig
    refine ⟨-100001, _, _, ?_, ?_, rel_refuse hR⟩
    · rw [f_X7_sector, i1, Option.bind_some, if_neg (by decide), j1, Option.bind_some, if_neg (by decide), k1', Option.bind_some, if_neg (by decide), if_neg b1, if_neg (show ¬ a3 ≤ (3 : Int32) from b2)]; rfl
    · rw [f_X8_sector, i2, Option.bind_some, if_neg (by decide), j2, Option.bind_some, if_neg (by decide), k2', Option.bind_some, if_neg (by decide), within_out (lo := 0) (hi := 3) (Or.inr hbig), Option.bind_some, if_pos (by decide)]; rfl
  have hle : nI k ≤ (3 : Int32) := (nI_leI (b := 3) (by omega) (by omega)).mpr hk
  have hwi : f_X8_within (nI k) 0 3 M = some 1 := within_in (lo := 0) (hi := 3) (by omega) hk (by omega)
  obtain ⟨-, -, -, -, -, ⟨ns, s1, s2, s3, s4⟩, -⟩ := hL l hl
  have g8 : a_gi C (24 + 3 * l) 8 = nI ns := s2
  have m6 : m_ld M 1 (nI (10 + 22 * l + 6)) = some (nI ns) := by rw [m_ldN (by omega) (by omega), s3]
  have of6 : ∀ X : aMm, f_X8_of (nI l) 6 X = some (nI (10 + 22 * l + 6)) := fun X => of_nI (g := 6)
  rcases Nat.lt_or_ge ns 4 with hns | hns
  rotate_left
  · have e4 : ns = 4 := by omega
    subst e4
    refine ⟨-100005, _, _, ?_, ?_, rel_refuse hR⟩
    · rw [f_X7_sector, i1, Option.bind_some, if_neg (by decide), j1, Option.bind_some, if_neg (by decide), k1', Option.bind_some, if_neg (by decide), if_neg (nI_pos (by omega)), if_pos hle, a_rfN (by omega) (by omega), Option.bind_some, g8, if_neg (by decide)]; rfl
    · rw [f_X8_sector, i2, Option.bind_some, if_neg (by decide), j2, Option.bind_some, if_neg (by decide), k2', Option.bind_some, if_neg (by decide), hwi, Option.bind_some, if_neg (by decide), of6, Option.bind_some, m6, Option.bind_some, if_pos (by decide)]; rfl
  obtain ⟨top, C1, M1, ht, r1, k1, q1, q2, q3, q4, fin⟩ := act_ok hR 1 (nI l) 0
  have hM1 : M1 1 = M 1 := q3 1 (by omega) (by omega)
  have c8 : a_gi C1 (24 + 3 * l) 8 = nI ns := (q1 _ 8 (by omega) (by omega) (by omega)).trans s2
  have hl26 : a_len (26 + 3 * l) (C1.2.2 (26 + 3 * l)) = 4 := by
    unfold a_len
    rw [if_neg (by omega), if_pos (by omega), if_neg (by omega)]
  obtain ⟨pv, hpv⟩ : ∃ pv, pv = (nI k <<< ((16 : Int32) &&& 31)) ||| nI (maskN fr to) := ⟨_, rfl⟩
  have hpk : V_k pv fr to k := by rw [hpv]; exact pack_ok (by omega) (by omega) (by omega)
  have c8' : a_gi (a_pi C1 (26 + 3 * l) ns pv) (24 + 3 * l) 8 = nI ns := by
    show (a_pi C1 (26 + 3 * l) ns pv).1 (24 + 3 * l) 8 = _
    rw [a_pi_ne (by omega)]; exact c8
  have ei : (10 : Int32) + 3 * nI ns = nI (10 + 3 * ns) := by rw [show (10 : Int32) = nI 10 from rfl, show (3 : Int32) = nI 3 from rfl, pk_mul, nI_add]
  have ei1 : nI (10 + 22 * l + (10 + 3 * ns)) + 1 = nI (10 + 22 * l + (11 + 3 * ns)) := (nI_1 _).trans (by congr 1; omega)
  have ei2 : nI (10 + 22 * l + (10 + 3 * ns)) + 2 = nI (10 + 22 * l + (12 + 3 * ns)) := (nI_add _ 2).trans (by congr 1; omega)
  obtain ⟨M4, hM4⟩ : ∃ M4, M4 = m_pi (m_pi (m_pi M1 1 (10 + 22 * l + (10 + 3 * ns)) (nI fr)) 1 (10 + 22 * l + (11 + 3 * ns)) (nI to)) 1 (10 + 22 * l + (12 + 3 * ns)) (nI k) := ⟨_, rfl⟩
  have m46 : M4 1 (10 + 22 * l + 6) = nI ns := by rw [hM4, m_pi_ne (by omega), m_pi_ne (by omega), m_pi_ne (by omega), hM1]; exact s3
  obtain ⟨M5, hM5⟩ : ∃ M5, M5 = m_pi M4 1 (10 + 22 * l + 6) (nI (ns + 1)) := ⟨_, rfl⟩
  have hNn : ∀ j, j < 386 → j ≠ 10 + 22 * l + 6 → j ≠ 10 + 22 * l + (10 + 3 * ns) → j ≠ 10 + 22 * l + (11 + 3 * ns) → j ≠ 10 + 22 * l + (12 + 3 * ns) → M5 1 j = M 1 j := fun j _ a b c d => by
    rw [hM5, m_pi_ne (by omega), hM4, m_pi_ne (by omega), m_pi_ne (by omega), m_pi_ne (by omega), hM1]
  have n6 : M5 1 (10 + 22 * l + 6) = nI (ns + 1) := by rw [hM5, m_pi_at]
  refine ⟨nI (ns + 1), a_pi (a_pi C1 (26 + 3 * l) ns pv) (24 + 3 * l) 8 (nI (ns + 1)), M5, ?_, ?_, fin _ _ ?_ rfl ?_ ?_ ?_⟩
  · rw [f_X7_sector, i1, Option.bind_some, if_neg (by decide), j1, Option.bind_some, if_neg (by decide), k1', Option.bind_some, if_neg (by decide), if_neg (nI_pos (by omega)), if_pos hle, a_rfN (by omega) (by omega), Option.bind_some, g8, if_pos (show nI ns < (4 : Int32) from (nI_ltI (b := 4) (by omega) (by omega)).mpr hns), bd2, r1, Option.bind_some]
    dsimp only
    rw [if_pos (step_ok top ht), turned_ok (by omega) (by omega), Option.bind_some, ← hpv, c8, show 24 + 3 * l + 2 = 26 + 3 * l by omega, a_stN (by omega) (by omega), Option.bind_some, c8', nI_1, Option.bind_some]
    show some ((a_pi (a_pi C1 (26 + 3 * l) ns pv) (24 + 3 * l) 8 (nI (ns + 1))).1 (24 + 3 * l) 8, _) = _
    rw [a_pi_at]
  · rw [f_X8_sector, i2, Option.bind_some, if_neg (by decide), j2, Option.bind_some, if_neg (by decide), k2', Option.bind_some, if_neg (by decide), hwi, Option.bind_some, if_neg (by decide), of6, Option.bind_some, m6, Option.bind_some, if_neg (show ¬ nI ns = (4 : Int32) from fun z => by have := (nI_eq (b := 4) (by omega) (by omega)).mp z; omega), k1, Option.bind_some, ei, of_nI, Option.bind_some, ei1, ei2, m_stN (by omega) (by omega), Option.bind_some, m_stN (by omega) (by omega), Option.bind_some, m_stN (by omega) (by omega), Option.bind_some, ← hM4, of6, Option.bind_some, m_ldN (by omega) (by omega), Option.bind_some, m46, nI_1, m_stN (by omega) (by omega), Option.bind_some, ← hM5]
  · intro c j h hc
    have := vr_t h
    rw [a_pi_ne (by omega), a_pi_ne (by omega)]
  · intro m hm
    rw [hM5, m_pi_row hm, hM4, m_pi_row hm, m_pi_row hm, m_pi_row hm]
  · refine ⟨nl, nb, nf, nw, hz, dy, V_sect (C := C1) (N := M 1) (ns := ns) (ns' := ns + 1) (act_V hV q1 q2) hl (by omega) (fun c j _ a b => by rw [a_pi_ne b, a_pi_ne a]) (fun _ _ _ _ => rfl) hns a_pi_at hNn n6 (fun s hs => ?_)⟩
    by_cases e : s = ns
    · subst e
      refine ⟨fr, to, k, hk, ?_, ?_, ?_, ?_⟩
      · rw [hM5, m_pi_ne (by omega), hM4, m_pi_ne (by omega), m_pi_ne (by omega), m_pi_at]
      · rw [hM5, m_pi_ne (by omega), hM4, m_pi_ne (by omega), m_pi_at]
      · rw [hM5, m_pi_ne (by omega), hM4, m_pi_at]
      · rw [a_pi_ne (by omega), a_pi_at]; exact hpk
    · obtain ⟨fr', to', k', x1, x2, x3, x4, x5⟩ := s4 s (by omega)
      refine ⟨fr', to', k', x1, ?_, ?_, ?_, ?_⟩
      · rw [hNn _ (by omega) (by omega) (by omega) (by omega) (by omega)]; exact x2
      · rw [hNn _ (by omega) (by omega) (by omega) (by omega) (by omega)]; exact x3
      · rw [hNn _ (by omega) (by omega) (by omega) (by omega) (by omega)]; exact x4
      · rw [a_pi_ne (by omega), a_pi_ne (by omega), q1 _ _ (by omega) (by omega) (by omega)]; exact x5
  · exact Bk_sect (by omega) hl h1' hns s3 n6 hNn _ _

theorem nI_big {n : Nat} {x : Int32} (hn : n + 1 < 2 ^ 31) (h : nI n < x) : ¬ x < 0 ∧ ¬ x ≤ nI n ∧ nI (n + 1) ≤ x := by
  have h3 := Int32.lt_iff_toInt_lt.mp h
  rw [nI_toInt (by omega)] at h3
  refine ⟨fun z => ?_, fun z => ?_, Int32.le_iff_toInt_le.mpr ?_⟩
  · have := Int32.lt_iff_toInt_lt.mp z
    have e0 : (0 : Int32).toInt = 0 := rfl
    omega
  · have := Int32.le_iff_toInt_le.mp z
    rw [nI_toInt (by omega)] at this
    omega
  · rw [nI_toInt hn]
    omega
theorem act_V {C C1 : aSc} {N : Nat → Int32} {top nl nb nf nw hz dy : Nat} (hV : V_all C N nl nb nf nw hz dy) (q1 : ∀ c j, ¬ (c = 0 ∧ (j = 13 ∨ j = 15)) → ¬ (c = 22 ∧ (j = 1 ∨ j = 2)) → ¬ (c = 62 + 2 * top ∧ j < 3) → C1.1 c j = C.1 c j) (q2 : C1.2 = C.2) : V_all C1 N nl nb nf nw hz dy := by
  refine V_all_cong (fun c j h => q1 c j ?_ ?_ ?_) (fun c j _ _ => by rw [q2]) (fun _ _ => rfl) hV
  · rintro ⟨rfl, hj⟩; rcases hj with rfl | rfl <;> simp [vr] at h
  · rintro ⟨rfl, hj⟩; simp [vr] at h
  · rintro ⟨rfl, hj⟩; simp [vr] at h; omega
theorem pr_day (a0 : Int32) {C : aSc} {M : aMm} (hR : Rel C M) : ∃ (v : Int32) (C' : aSc) (M' : aMm), f_X7_day a0 C = some (v, C') ∧ f_X8_day a0 M = some (v, M') ∧ Rel C' M' := by
  obtain ⟨nl, nb, nf, nw, hz, dy, hV⟩ := hR.1
  obtain ⟨⟨h0, _, _, _, _, _, ⟨h5, h5'⟩⟩, -⟩ := id hV
  rcases nI_cases a0 19 (by decide) with ⟨k, hk, rfl⟩ | hneg | hbig
  · obtain ⟨top, C1, M1, ht, r1, k1, q1, q2, q3, q4, fin⟩ := act_ok hR 4 0 (nI dy)
    have e5 : a_gi C 0 4 = nI dy := h5
    have hM1 : M1 1 = M 1 := q3 1 (by omega) (by omega)
    have hd : f_X7_isDay (nI k) C = some 1 := by
      rw [f_X7_isDay, if_neg (nI_pos (by omega)), if_neg (show ¬ (20 : Int32) ≤ nI k from fun z => by have := (nI_leI (a := 20) (by omega) (by omega)).mp z; omega)]
    refine ⟨nI dy, a_pi C1 0 4 (nI k), m_pi M1 1 5 (nI k), ?_, ?_, fin _ _ ?_ rfl ?_ ?_ ?_⟩
    · rw [f_X7_day, hd, Option.bind_some, if_neg (by decide), e5, bd2, r1, Option.bind_some]
      show (if _ then _ else none) = _
      rw [if_pos (step_ok top ht)]
      rfl
    · rw [f_X8_day, show (0 : Int32) = nI 0 from rfl, show (19 : Int32) = nI 19 from rfl, within_in (by omega) hk (by omega), Option.bind_some, if_neg (by decide), show (5 : Int32) = nI 5 from rfl, bd2, becomes_ok (by omega) k1 hM1, Option.bind_some, ← h5']
    · intro c j h hc
      exact a_pi_ne (by have := vr_t h; omega)
    · intro m hm
      exact m_pi_row hm
    · refine ⟨nl, nb, nf, nw, hz, k, ?_⟩
      rw [m_pi_self, hM1]
      exact V_day (C := C1) (N := M 1) (act_V hV q1 q2) hk (fun _ _ => rfl)
    · rw [m_pi_self, hM1]
      exact Bk_day (by omega) h5' (nI k) (fun _ _ => rfl) _ _
  · refine ⟨-100001, _, _, ?_, ?_, rel_refuse hR⟩
    · rw [f_X7_day, f_X7_isDay, if_pos hneg, Option.bind_some, if_pos (by decide)]; rfl
    · rw [f_X8_day, within_out (Or.inl hneg), Option.bind_some, if_pos (by decide)]; rfl
  · obtain ⟨b1, b2, b3⟩ := nI_big (by decide) hbig
    refine ⟨-100001, _, _, ?_, ?_, rel_refuse hR⟩
    · rw [f_X7_day, f_X7_isDay, if_neg b1, if_pos (show (20 : Int32) ≤ a0 from b3), Option.bind_some, if_pos (by decide)]; rfl
    · rw [f_X8_day, within_out (lo := 0) (hi := 19) (Or.inr hbig), Option.bind_some, if_pos (by decide)]; rfl
theorem Bk_fld {No Nn : Nat → Int32} {nl l f g hi k : Nat} {a : Int32} (hnl : nl ≤ 10) (hl : l < nl) (h0 : No 0 = nI nl) (hfg : (a = 2 ∧ f = 9 ∧ g = 7 ∧ hi = 3) ∨ (a = 9 ∧ f = 10 ∧ g = 8 ∧ hi = 19) ∨ (a = 10 ∧ f = 11 ∧ g = 9 ∧ hi = 9)) (hk : k ≤ hi) (ho : No (10 + 22 * l + g) = nI k) (v : Int32) (hn : ∀ j, j < 386 → Nn j = upd No (10 + 22 * l + g) v j) (row : Nat → Int32) : Bk a (nI l) (nI k) row Nn No := by
  rintro C c hc e0 e1 e2 e3 ⟨nl', nb, nf, nw, hz, dy, hV⟩
  have hnl' : nl' = nl := by
    have g1 := hV.1.2.1.2
    rw [hn 0 (by omega), upd_ne (by omega), h0] at g1
    exact ((nI_eq (by omega) (by have := hV.1.1.1; omega)).mp g1).symm
  subst hnl'
  have hfg' : (f = 9 ∧ g = 7 ∧ hi = 3) ∨ (f = 10 ∧ g = 8 ∧ hi = 19) ∨ (f = 11 ∧ g = 9 ∧ hi = 9) := by
    rcases hfg with ⟨_, h⟩ | ⟨_, h⟩ | ⟨_, h⟩
    · exact Or.inl h
    · exact Or.inr (Or.inl h)
    · exact Or.inr (Or.inr h)
  refine ⟨a_pi C (24 + 3 * l) f (nI k), ?_, ⟨nl', nb, nf, nw, hz, dy, V_fld hV hl hfg' hk (fun j hj => ?_)⟩, fun c j h => a_pi_ne (by have := vr_t h; omega), rfl⟩
  · have g0 : a_gi C c 0 = a := e0
    have g1 : a_gi C c 1 = nI l := e1
    have g2 : a_gi C c 2 = nI k := e2
    rcases hfg with ⟨rfl, rfl, _⟩ | ⟨rfl, rfl, _⟩ | ⟨rfl, rfl, _⟩
    · rw [f_X7_takeBack, g0, g1, g2, a_rfN (by omega) (by omega)]; rfl
    · rw [f_X7_takeBack, g0, g1, g2, a_rfN (by omega) (by omega)]; rfl
    · rw [f_X7_takeBack, g0, g1, g2, a_rfN (by omega) (by omega)]; rfl
  · by_cases h4 : j = 10 + 22 * l + g
    · subst h4; rw [upd_at]; exact ho
    · rw [upd_ne h4, hn j hj, upd_ne h4]
/-- a light's number is set: both sides -/
theorem fld_ok {C : aSc} {M : aMm} (hR : Rel C M) {nl nb nf nw hz dy l f g hi k w : Nat} {a : Int32} (hV : V_all C (M 1) nl nb nf nw hz dy) (hl : l < nl) (hfg : (a = 2 ∧ f = 9 ∧ g = 7 ∧ hi = 3) ∨ (a = 9 ∧ f = 10 ∧ g = 8 ∧ hi = 19) ∨ (a = 10 ∧ f = 11 ∧ g = 9 ∧ hi = 9)) (hk : k ≤ hi) (hw : w ≤ hi) (ho : M 1 (10 + 22 * l + g) = nI w) : ∃ top C1 M1, top < 16 ∧ f_X7_remember a (nI l) (nI w) C = some (62 + 2 * top, C1) ∧ f_X8_keep M = some M1 ∧ M1 1 = M 1 ∧ Rel (a_pi C1 (24 + 3 * l) f (nI k)) (m_pi M1 1 (10 + 22 * l + g) (nI k)) := by
  obtain ⟨top, C1, M1, ht, r1, k1, q1, q2, q3, q4, fin⟩ := act_ok hR a (nI l) (nI w)
  have hM1 : M1 1 = M 1 := q3 1 (by omega) (by omega)
  have hfg' : (f = 9 ∧ g = 7 ∧ hi = 3) ∨ (f = 10 ∧ g = 8 ∧ hi = 19) ∨ (f = 11 ∧ g = 9 ∧ hi = 9) := by
    rcases hfg with ⟨_, h⟩ | ⟨_, h⟩ | ⟨_, h⟩
    · exact Or.inl h
    · exact Or.inr (Or.inl h)
    · exact Or.inr (Or.inr h)
  have hb := hV.1.1.1
  refine ⟨top, C1, M1, ht, r1, k1, hM1, fin _ _ ?_ rfl ?_ ?_ ?_⟩
  · intro c j h hc
    exact a_pi_ne (by have := vr_t h; omega)
  · intro m hm
    exact m_pi_row hm
  · refine ⟨nl, nb, nf, nw, hz, dy, ?_⟩
    rw [m_pi_self, hM1]
    exact V_fld (C := C1) (N := M 1) (act_V hV q1 q2) hl hfg' hk (fun _ _ => rfl)
  · rw [m_pi_self, hM1]
    exact Bk_fld hb hl hV.1.2.1.2 hfg hw ho (nI k) (fun _ _ => rfl) _
theorem of_nI {M : aMm} {l g : Nat} : f_X8_of (nI l) (nI g) M = some (nI (10 + 22 * l + g)) := by
  rw [f_X8_of, show (10 : Int32) = nI 10 from rfl, show (22 : Int32) = nI 22 from rfl, pk_mul, nI_add, nI_add]
theorem isRock1 {C : aSc} {l kd : Nat} (hk : kd ≤ 3) (h : C.1 (24 + 3 * l) 0 = nI kd) : f_X1_isRock (24 + 3 * l) C = some (if kd = 1 ∨ kd = 3 then 1 else 0) := by
  have g : a_gi C (24 + 3 * l) 0 = nI kd := h
  rw [f_X1_isRock, g]
  have : kd = 0 ∨ kd = 1 ∨ kd = 2 ∨ kd = 3 := by omega
  rcases this with rfl | rfl | rfl | rfl <;> rfl
theorem isRock8 {M : aMm} {l kd : Nat} (hl : l < 10) (hk : kd ≤ 3) (h : M 1 (10 + 22 * l) = nI kd) : f_X8_isRock (nI l) M = some (if kd = 1 ∨ kd = 3 then 1 else 0) := by
  have hlen : a_len (94 + 1) 0 = 386 := rfl
  rw [f_X8_isRock, show (0 : Int32) = nI 0 from rfl, of_nI, Option.bind_some, m_ldN (by omega) (by omega), Option.bind_some, Nat.add_zero, h]
  have : kd = 0 ∨ kd = 1 ∨ kd = 2 ∨ kd = 3 := by omega
  rcases this with rfl | rfl | rfl | rfl <;> rfl
theorem pr_doubt (a0 : Int32) (a1 : Int32) {C : aSc} {M : aMm} (hR : Rel C M) : ∃ (v : Int32) (C' : aSc) (M' : aMm), f_X7_doubt a0 a1 C = some (v, C') ∧ f_X8_doubt a0 a1 M = some (v, M') ∧ Rel C' M' := by
  obtain ⟨nl, nb, nf, nw, hz, dy, hV⟩ := hR.1
  obtain ⟨⟨h0, ⟨h1, h1'⟩, _⟩, hL, -⟩ := id hV
  have hlen : a_len (94 + 1) 0 = 386 := rfl
  rcases isLight_pair (by omega) h1 h1' a0 with ⟨l, hl, rfl, i1, i2⟩ | ⟨i1, i2⟩
  · rcases nI_cases a1 3 (by decide) with ⟨k, hk, rfl⟩ | hneg | hbig
    · obtain ⟨⟨kd, _, hkd, c0, n0⟩, -, -, -, -, -, ⟨w, _, hw, c9, n7⟩, -, -⟩ := hL l hl
      have hle : nI k ≤ (3 : Int32) := (nI_leI (b := 3) (by omega) (by omega)).mpr hk
      have g0 : a_gi C (24 + 3 * l) 0 = nI kd := c0
      have g9 : a_gi C (24 + 3 * l) 9 = nI w := c9
      by_cases h2 : kd = 2
      · subst h2
        obtain ⟨top, C1, M1, ht, r1, k1, hM1, hR'⟩ := fld_ok hR (a := 2) (f := 9) (g := 7) (hi := 3) hV hl (Or.inl ⟨rfl, rfl, rfl, rfl⟩) hk hw n7
        refine ⟨nI w, _, _, ?_, ?_, hR'⟩
        · rw [f_X7_doubt, i1, Option.bind_some, if_neg (by decide), if_neg (nI_pos (by omega)), if_pos hle, a_rfN (by omega) (by omega), Option.bind_some, g0, if_pos (by decide), g9, bd2, r1, Option.bind_some]
          show (if _ then _ else none) = _
          rw [if_pos (step_ok top ht)]
          rfl
        · rw [f_X8_doubt, i2, Option.bind_some, if_neg (by decide), show (0 : Int32) = nI 0 from rfl, show (3 : Int32) = nI 3 from rfl, within_in (by omega) hk (by omega), Option.bind_some, if_neg (by decide), of_nI, Option.bind_some, m_ldN (by omega) (by omega), Option.bind_some, n0, if_pos (by decide), k1, Option.bind_some, show (7 : Int32) = nI 7 from rfl, of_nI, Option.bind_some, m_ldN (by omega) (by omega), Option.bind_some, Option.bind_some, m_stN (by omega) (by omega), Option.bind_some, hM1, n7]
      · have hne : ¬ nI kd = 2 := fun z => h2 ((nI_eq (b := 2) (by omega) (by omega)).mp z)
        refine ⟨-100004, _, _, ?_, ?_, rel_refuse hR⟩
        · rw [f_X7_doubt, i1, Option.bind_some, if_neg (by decide), if_neg (nI_pos (by omega)), if_pos hle, a_rfN (by omega) (by omega), Option.bind_some, g0, if_neg hne]; rfl
        · rw [f_X8_doubt, i2, Option.bind_some, if_neg (by decide), show (0 : Int32) = nI 0 from rfl, show (3 : Int32) = nI 3 from rfl, within_in (by omega) hk (by omega), Option.bind_some, if_neg (by decide), of_nI, Option.bind_some, m_ldN (by omega) (by omega), Option.bind_some, n0, if_neg hne]; rfl
    · refine ⟨-100001, _, _, ?_, ?_, rel_refuse hR⟩
      · rw [f_X7_doubt, i1, Option.bind_some, if_neg (by decide), if_pos hneg]; rfl
      · rw [f_X8_doubt, i2, Option.bind_some, if_neg (by decide), within_out (Or.inl hneg), Option.bind_some, if_pos (by decide)]; rfl
    · obtain ⟨b1, b2, b3⟩ := nI_big (by decide) hbig
      refine ⟨-100001, _, _, ?_, ?_, rel_refuse hR⟩
      · rw [f_X7_doubt, i1, Option.bind_some, if_neg (by decide), if_neg b1, if_neg (show ¬ a1 ≤ (3 : Int32) from b2)]; rfl
      · rw [f_X8_doubt, i2, Option.bind_some, if_neg (by decide), within_out (lo := 0) (hi := 3) (Or.inr hbig), Option.bind_some, if_pos (by decide)]; rfl
  · refine ⟨-100001, _, _, ?_, ?_, rel_refuse hR⟩
    · rw [f_X7_doubt, i1, Option.bind_some, if_pos (by decide)]; rfl
    · rw [f_X8_doubt, i2, Option.bind_some, if_pos (by decide)]; rfl
theorem ofRock_ok {M M1 : aMm} {l g k n : Nat} {w : Int32} (hl : l < 10) (hg : g < 22) (hk : k ≤ n) (hn : n < 100) (i2 : f_X8_isLight (nI l) M = some 1) (hr : f_X8_isRock (nI l) M = some 1) (k1 : f_X8_keep M = some M1) (hM1 : M1 1 = M 1) (hw : M 1 (10 + 22 * l + g) = w) : f_X8_ofRock (nI l) (nI k) (nI n) (nI g) M = some (w, m_pi M1 1 (10 + 22 * l + g) (nI k)) := by
  rw [f_X8_ofRock, i2, Option.bind_some, if_neg (by decide), show (0 : Int32) = nI 0 from rfl, within_in (by omega) hk (by omega), Option.bind_some, if_neg (by decide), hr, Option.bind_some, if_neg (by decide), of_nI, Option.bind_some, bd2, becomes_ok (by omega) k1 hM1, Option.bind_some, hw]
theorem pr_keeper (a0 : Int32) (a1 : Int32) {C : aSc} {M : aMm} (hR : Rel C M) : ∃ (v : Int32) (C' : aSc) (M' : aMm), f_X7_keeper a0 a1 C = some (v, C') ∧ f_X8_keeper a0 a1 M = some (v, M') ∧ Rel C' M' := by
  obtain ⟨nl, nb, nf, nw, hz, dy, hV⟩ := hR.1
  obtain ⟨⟨h0, ⟨h1, h1'⟩, _⟩, hL, -⟩ := id hV
  rcases isLight_pair (by omega) h1 h1' a0 with ⟨l, hl, rfl, i1, i2⟩ | ⟨i1, i2⟩
  · rcases nI_cases a1 19 (by decide) with ⟨k, hk, rfl⟩ | hneg | hbig
    · obtain ⟨⟨kd, _, hkd, c0, n0⟩, -, -, -, -, -, -, ⟨w, _, hw, c9, n7⟩, -⟩ := hL l hl
      have hd : f_X7_isDay (nI k) C = some 1 := by
        rw [f_X7_isDay, if_neg (nI_pos (by omega)), if_neg (show ¬ (20 : Int32) ≤ nI k from fun z => by have := (nI_leI (a := 20) (by omega) (by omega)).mp z; omega)]
      have g9 : a_gi C (24 + 3 * l) 10 = nI w := c9
      have r1' := isRock1 hkd c0
      have r8' := isRock8 (M := M) (by omega) hkd n0
      by_cases h2 : kd = 1 ∨ kd = 3
      · rw [if_pos h2] at r1' r8'
        obtain ⟨top, C1, M1, ht, r1, k1, hM1, hR'⟩ := fld_ok hR (a := 9) (f := 10) (g := 8) (hi := 19) hV hl (Or.inr (Or.inl ⟨rfl, rfl, rfl, rfl⟩)) hk hw n7
        refine ⟨nI w, _, _, ?_, ?_, hR'⟩
        · rw [f_X7_keeper, i1, Option.bind_some, if_neg (by decide), hd, Option.bind_some, if_neg (by decide), a_rfN (by omega) (by omega), Option.bind_some, r1', Option.bind_some, if_neg (by decide), g9, bd2, r1, Option.bind_some]
          show (if _ then _ else none) = _
          rw [if_pos (step_ok top ht)]
          rfl
        · rw [f_X8_keeper, show (19 : Int32) = nI 19 from rfl, show (8 : Int32) = nI 8 from rfl, bd2, ofRock_ok (by omega) (by omega) hk (by omega) i2 r8' k1 hM1 n7]; rfl
      · rw [if_neg h2] at r1' r8'
        refine ⟨-100004, _, _, ?_, ?_, rel_refuse hR⟩
        · rw [f_X7_keeper, i1, Option.bind_some, if_neg (by decide), hd, Option.bind_some, if_neg (by decide), a_rfN (by omega) (by omega), Option.bind_some, r1', Option.bind_some, if_pos (by decide)]; rfl
        · rw [f_X8_keeper, f_X8_ofRock, i2, Option.bind_some, if_neg (by decide), show (0 : Int32) = nI 0 from rfl, show (19 : Int32) = nI 19 from rfl, within_in (by omega) hk (by omega), Option.bind_some, if_neg (by decide), r8', Option.bind_some, if_pos (by decide)]; rfl
    · refine ⟨-100001, _, _, ?_, ?_, rel_refuse hR⟩
      · rw [f_X7_keeper, i1, Option.bind_some, if_neg (by decide), f_X7_isDay, if_pos hneg, Option.bind_some, if_pos (by decide)]; rfl
      · rw [f_X8_keeper, f_X8_ofRock, i2, Option.bind_some, if_neg (by decide), within_out (Or.inl hneg), Option.bind_some, if_pos (by decide)]; rfl
    · obtain ⟨b1, b2, b3⟩ := nI_big (by decide) hbig
      refine ⟨-100001, _, _, ?_, ?_, rel_refuse hR⟩
      · rw [f_X7_keeper, i1, Option.bind_some, if_neg (by decide), f_X7_isDay, if_neg b1, if_pos (show (20 : Int32) ≤ a1 from b3), Option.bind_some, if_pos (by decide)]; rfl
      · rw [f_X8_keeper, f_X8_ofRock, i2, Option.bind_some, if_neg (by decide), within_out (lo := 0) (hi := 19) (Or.inr hbig), Option.bind_some, if_pos (by decide)]; rfl
  · refine ⟨-100001, _, _, ?_, ?_, rel_refuse hR⟩
    · rw [f_X7_keeper, i1, Option.bind_some, if_pos (by decide)]; rfl
    · rw [f_X8_keeper, f_X8_ofRock, i2, Option.bind_some, if_pos (by decide)]; rfl
theorem pr_limit (a0 : Int32) (a1 : Int32) {C : aSc} {M : aMm} (hR : Rel C M) : ∃ (v : Int32) (C' : aSc) (M' : aMm), f_X7_limit a0 a1 C = some (v, C') ∧ f_X8_limit a0 a1 M = some (v, M') ∧ Rel C' M' := by
  obtain ⟨nl, nb, nf, nw, hz, dy, hV⟩ := hR.1
  obtain ⟨⟨h0, ⟨h1, h1'⟩, _⟩, hL, -⟩ := id hV
  rcases isLight_pair (by omega) h1 h1' a0 with ⟨l, hl, rfl, i1, i2⟩ | ⟨i1, i2⟩
  · rcases nI_cases a1 9 (by decide) with ⟨k, hk, rfl⟩ | hneg | hbig
    · obtain ⟨⟨kd, _, hkd, c0, n0⟩, -, -, -, -, -, -, -, ⟨w, _, hw, c9, n7⟩⟩ := hL l hl
      have hle : nI k ≤ (9 : Int32) := (nI_leI (b := 9) (by omega) (by omega)).mpr hk
      have g9 : a_gi C (24 + 3 * l) 11 = nI w := c9
      have r1' := isRock1 hkd c0
      have r8' := isRock8 (M := M) (by omega) hkd n0
      by_cases h2 : kd = 1 ∨ kd = 3
      · rw [if_pos h2] at r1' r8'
        obtain ⟨top, C1, M1, ht, r1, k1, hM1, hR'⟩ := fld_ok hR (a := 10) (f := 11) (g := 9) (hi := 9) hV hl (Or.inr (Or.inr ⟨rfl, rfl, rfl, rfl⟩)) hk hw n7
        refine ⟨nI w, _, _, ?_, ?_, hR'⟩
        · rw [f_X7_limit, i1, Option.bind_some, if_neg (by decide), if_neg (nI_pos (by omega)), if_pos hle, a_rfN (by omega) (by omega), Option.bind_some, r1', Option.bind_some, if_neg (by decide), g9, bd2, r1, Option.bind_some]
          show (if _ then _ else none) = _
          rw [if_pos (step_ok top ht)]
          rfl
        · rw [f_X8_limit, show (9 : Int32) = nI 9 from rfl, bd2, ofRock_ok (by omega) (by omega) hk (by omega) i2 r8' k1 hM1 n7]; rfl
      · rw [if_neg h2] at r1' r8'
        refine ⟨-100004, _, _, ?_, ?_, rel_refuse hR⟩
        · rw [f_X7_limit, i1, Option.bind_some, if_neg (by decide), if_neg (nI_pos (by omega)), if_pos hle, a_rfN (by omega) (by omega), Option.bind_some, r1', Option.bind_some, if_pos (by decide)]; rfl
        · rw [f_X8_limit, f_X8_ofRock, i2, Option.bind_some, if_neg (by decide), show (0 : Int32) = nI 0 from rfl, show (9 : Int32) = nI 9 from rfl, within_in (by omega) hk (by omega), Option.bind_some, if_neg (by decide), r8', Option.bind_some, if_pos (by decide)]; rfl
    · refine ⟨-100001, _, _, ?_, ?_, rel_refuse hR⟩
      · rw [f_X7_limit, i1, Option.bind_some, if_neg (by decide), if_pos hneg]; rfl
      · rw [f_X8_limit, f_X8_ofRock, i2, Option.bind_some, if_neg (by decide), within_out (Or.inl hneg), Option.bind_some, if_pos (by decide)]; rfl
    · obtain ⟨b1, b2, b3⟩ := nI_big (by decide) hbig
      refine ⟨-100001, _, _, ?_, ?_, rel_refuse hR⟩
      · rw [f_X7_limit, i1, Option.bind_some, if_neg (by decide), if_neg b1, if_neg (show ¬ a1 ≤ (9 : Int32) from b2)]; rfl
      · rw [f_X8_limit, f_X8_ofRock, i2, Option.bind_some, if_neg (by decide), within_out (lo := 0) (hi := 9) (Or.inr hbig), Option.bind_some, if_pos (by decide)]; rfl
  · refine ⟨-100001, _, _, ?_, ?_, rel_refuse hR⟩
    · rw [f_X7_limit, i1, Option.bind_some, if_pos (by decide)]; rfl
    · rw [f_X8_limit, f_X8_ofRock, i2, Option.bind_some, if_pos (by decide)]; rfl

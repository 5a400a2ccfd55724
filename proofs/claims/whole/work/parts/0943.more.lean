theorem way_pair {C : aSc} {M : aMm} (x : Int32) : (∃ k, k ≤ 15 ∧ x = nI k ∧ f_X7_isDirection x C = some 1 ∧ f_X8_isWay x M = some 1) ∨ (f_X7_isDirection x C = some 0 ∧ f_X8_isWay x M = some 0) := by
  rcases nI_cases x 15 (by decide) with ⟨k, hk, rfl⟩ | h | h
  · refine Or.inl ⟨k, hk, rfl, ?_, ?_⟩
    · rw [f_X7_isDirection, if_neg (nI_pos (by omega)), if_neg (show ¬ (15 : Int32) < nI k from fun z => by have := (nI_ltI (a := 15) (by omega) (by omega)).mp z; omega)]
    · rw [f_X8_isWay, show (0 : Int32) = nI 0 from rfl, show (15 : Int32) = nI 15 from rfl, within_in (by omega) hk (by omega)]; rfl
  · refine Or.inr ⟨by rw [f_X7_isDirection, if_pos h], ?_⟩
    rw [f_X8_isWay, within_out (Or.inl h)]; rfl
  · obtain ⟨b1, b2, b3⟩ := nI_big (by decide) h
    refine Or.inr ⟨by rw [f_X7_isDirection, if_neg b1, if_pos (show (15 : Int32) < x from h)], ?_⟩
    rw [f_X8_isWay, within_out (lo := 0) (hi := 15) (Or.inr h)]; rfl
theorem sheet_pair {C : aSc} {M : aMm} (x : Int32) : (∃ k, k ≤ 3 ∧ x = nI k ∧ f_X7_isSheet x C = some 1 ∧ f_X8_isSheet x M = some 1) ∨ (f_X7_isSheet x C = some 0 ∧ f_X8_isSheet x M = some 0) := by
  rcases nI_cases x 3 (by decide) with ⟨k, hk, rfl⟩ | h | h
  · refine Or.inl ⟨k, hk, rfl, ?_, ?_⟩
    · rw [f_X7_isSheet, if_neg (nI_pos (by omega)), if_neg (show ¬ (4 : Int32) ≤ nI k from fun z => by have := (nI_leI (a := 4) (by omega) (by omega)).mp z; omega)]
    · rw [f_X8_isSheet, show (0 : Int32) = nI 0 from rfl, show (3 : Int32) = nI 3 from rfl, within_in (by omega) hk (by omega)]; rfl
  · refine Or.inr ⟨by rw [f_X7_isSheet, if_pos h], ?_⟩
    rw [f_X8_isSheet, within_out (Or.inl h)]; rfl
  · obtain ⟨b1, b2, b3⟩ := nI_big (by decide) h
    refine Or.inr ⟨by rw [f_X7_isSheet, if_neg b1, if_pos (show (4 : Int32) ≤ x from b3)], ?_⟩
    rw [f_X8_isSheet, within_out (lo := 0) (hi := 3) (Or.inr h)]; rfl
theorem kind_pair {C : aSc} {M : aMm} (x : Int32) : (∃ k, k ≤ 3 ∧ x = nI k ∧ f_X7_isKind x C = some 1 ∧ f_X8_within x 0 3 M = some 1) ∨ (f_X7_isKind x C = some 0 ∧ f_X8_within x 0 3 M = some 0) := by
  rcases nI_cases x 3 (by decide) with ⟨k, hk, rfl⟩ | h | h
  · refine Or.inl ⟨k, hk, rfl, ?_, ?_⟩
    · rw [f_X7_isKind, if_neg (nI_pos (by omega)), if_neg (show ¬ (3 : Int32) < nI k from fun z => by have := (nI_ltI (a := 3) (by omega) (by omega)).mp z; omega)]
    · exact within_in (lo := 0) (hi := 3) (by omega) hk (by omega)
  · exact Or.inr ⟨by rw [f_X7_isKind, if_pos h], within_out (Or.inl h)⟩
  · obtain ⟨b1, b2, b3⟩ := nI_big (by decide) h
    exact Or.inr ⟨by rw [f_X7_isKind, if_neg b1, if_pos (show (3 : Int32) < x from h)], within_out (Or.inr h)⟩
theorem hour_pair {C : aSc} {M : aMm} (x : Int32) : (∃ k, k ≤ 999 ∧ x = nI k ∧ f_X7_isHour x C = some 1 ∧ f_X8_within x 0 999 M = some 1) ∨ (f_X7_isHour x C = some 0 ∧ f_X8_within x 0 999 M = some 0) := by
  rcases nI_cases x 999 (by decide) with ⟨k, hk, rfl⟩ | h | h
  · refine Or.inl ⟨k, hk, rfl, ?_, ?_⟩
    · rw [f_X7_isHour, if_neg (nI_pos (by omega)), if_neg (show ¬ (999 : Int32) < nI k from fun z => by have := (nI_ltI (a := 999) (by omega) (by omega)).mp z; omega)]
    · exact within_in (lo := 0) (hi := 999) (by omega) hk (by omega)
  · exact Or.inr ⟨by rw [f_X7_isHour, if_pos h], within_out (Or.inl h)⟩
  · obtain ⟨b1, b2, b3⟩ := nI_big (by decide) h
    exact Or.inr ⟨by rw [f_X7_isHour, if_neg b1, if_pos (show (999 : Int32) < x from h)], within_out (Or.inr h)⟩
theorem cell_pair {C : aSc} {M : aMm} (x : Int32) : (∃ k, k ≤ 255 ∧ x = nI k ∧ f_X7_isCell x C = some 1 ∧ f_X8_isCell x M = some 1) ∨ (f_X7_isCell x C = some 0 ∧ f_X8_isCell x M = some 0) := by
  rcases nI_cases x 255 (by decide) with ⟨k, hk, rfl⟩ | h | h
  · refine Or.inl ⟨k, hk, rfl, ?_, ?_⟩
    · rw [f_X7_isCell, if_neg (nI_pos (by omega)), if_neg (show ¬ (256 : Int32) ≤ nI k from fun z => by have := (nI_leI (a := 256) (by omega) (by omega)).mp z; omega)]
    · rw [f_X8_isCell, show (0 : Int32) = nI 0 from rfl, show (255 : Int32) = nI 255 from rfl, within_in (by omega) hk (by omega)]; rfl
  · refine Or.inr ⟨by rw [f_X7_isCell, if_pos h], ?_⟩
    rw [f_X8_isCell, within_out (Or.inl h)]; rfl
  · obtain ⟨b1, b2, b3⟩ := nI_big (by decide) h
    refine Or.inr ⟨by rw [f_X7_isCell, if_neg b1, if_pos (show (256 : Int32) ≤ x from b3)], ?_⟩
    rw [f_X8_isCell, within_out (lo := 0) (hi := 255) (Or.inr h)]; rfl
theorem under_ok {C : aSc} {kd k : Nat} (h1 : kd ≤ 3) (h2 : k ≤ 3) : f_X7_isUnder (nI kd) (nI k) C = some (if k = 0 ∨ kd = k ∨ (k = 1 ∧ kd = 3) then 1 else 0) := by
  have e1 : kd = 0 ∨ kd = 1 ∨ kd = 2 ∨ kd = 3 := by omega
  have e2 : k = 0 ∨ k = 1 ∨ k = 2 ∨ k = 3 := by omega
  rcases e1 with rfl | rfl | rfl | rfl <;> rcases e2 with rfl | rfl | rfl | rfl <;> rfl
set_option maxRecDepth 100000 in
theorem pr_as (a0 : Int32) (a1 : Int32) {C : aSc} {M : aMm} (hR : Rel C M) : ∃ (v : Int32) (C' : aSc) (M' : aMm), f_X7_as a0 a1 C = some (v, C') ∧ f_X8_as a0 a1 M = some (v, M') ∧ Rel C' M' := by
  obtain ⟨nl, nb, nf, nw, hz, dy, hV⟩ := hR.1
  obtain ⟨⟨h0, ⟨h1, h1'⟩, _⟩, hL, -⟩ := id hV
  have hlen : a_len (94 + 1) 0 = 386 := rfl
  rcases isLight_pair (by omega) h1 h1' a0 with ⟨l, hl, rfl, i1, i2⟩ | ⟨i1, i2⟩
  · rcases kind_pair (C := C) (M := M) a1 with ⟨k, hk, rfl, j1, j2⟩ | ⟨j1, j2⟩
    · obtain ⟨⟨kd, _, hkd, c0, n0⟩, -⟩ := hL l hl
      have g0 : a_gi C (24 + 3 * l) 0 = nI kd := c0
      have hx : f_X7_as (nI l) (nI k) C = if k = 0 ∨ kd = k ∨ (k = 1 ∧ kd = 3) then some (nI l, C) else some (-100004, a_pi C 0 18 (a_gi C 0 18 + 1)) := by
        rw [f_X7_as, i1, Option.bind_some, if_neg (by decide), j1, Option.bind_some, if_neg (by decide), a_rfN (by omega) (by omega), Option.bind_some, g0, under_ok hkd hk, Option.bind_some]
        by_cases hc : k = 0 ∨ kd = k ∨ (k = 1 ∧ kd = 3)
        · rw [if_pos hc, if_pos hc, if_neg (by decide)]
        · rw [if_neg hc, if_neg hc, if_pos (by decide)]; rfl
      have hy : f_X8_as (nI l) (nI k) M = if k = 0 ∨ kd = k ∨ (k = 1 ∧ kd = 3) then some (nI l, M) else some (-100004, m_pi M 0 3 (m_gi M 0 3 + 1)) := by
        rw [f_X8_as, i2, Option.bind_some, if_neg (by decide), j2, Option.bind_some, if_neg (by decide), show (0 : Int32) = nI 0 from rfl, of_nI, Option.bind_some, m_ldN (by omega) (by omega), Option.bind_some, n0]
        have e1 : kd = 0 ∨ kd = 1 ∨ kd = 2 ∨ kd = 3 := by omega
        have e2 : k = 0 ∨ k = 1 ∨ k = 2 ∨ k = 3 := by omega
        rcases e1 with rfl | rfl | rfl | rfl <;> rcases e2 with rfl | rfl | rfl | rfl <;> rfl
      by_cases hc : k = 0 ∨ kd = k ∨ (k = 1 ∧ kd = 3)
      · rw [if_pos hc] at hx hy
        exact ⟨nI l, C, M, hx, hy, hR⟩
      · rw [if_neg hc] at hx hy
        exact ⟨-100004, _, _, hx, hy, rel_refuse hR⟩
    · refine ⟨-100001, _, _, ?_, ?_, rel_refuse hR⟩
      · rw [f_X7_as, i1, Option.bind_some, if_neg (by decide), j1, Option.bind_some, if_pos (by decide)]; rfl
      · rw [f_X8_as, i2, Option.bind_some, if_neg (by decide), j2, Option.bind_some, if_pos (by decide)]; rfl
  · refine ⟨-100001, _, _, ?_, ?_, rel_refuse hR⟩
    · rw [f_X7_as, i1, Option.bind_some, if_pos (by decide)]; rfl
    · rw [f_X8_as, i2, Option.bind_some, if_pos (by decide)]; rfl
/-! counts of rocks -/
def cR (N : Nat → Int32) : Nat → Nat
  | 0 => 0
  | n + 1 => cR N n + (if S_rk N n then 1 else 0)
theorem cR_le (N : Nat → Int32) : ∀ n, cR N n ≤ n
  | 0 => Nat.le_refl 0
  | n + 1 => by
    have := cR_le N n
    unfold cR
    split <;> omega
theorem S_rk_kd {N : Nat → Int32} {l kd : Nat} (h : N (10 + 22 * l) = nI kd) (hk : kd ≤ 3) : S_rk N l = decide (kd = 1 ∨ kd = 3) := by
  unfold S_rk S_n
  rw [h, nI_clamp (by omega)]
theorem count7 {C : aSc} {N : Nat → Int32} {nl : Nat} (hn : nl ≤ 10) (h : C.1 0 2 = nI nl) (hk : ∀ l, l < nl → ∃ kd, kd ≤ 3 ∧ C.1 (24 + 3 * l) 0 = nI kd ∧ N (10 + 22 * l) = nI kd) : f_X7_countRocks C = some (nI (cR N nl)) := by
  obtain ⟨b, h1, h2⟩ := lpf_ct (body := fun a : Int32 × Int32 => b_X7_countRocks_4 a.1 a.2 C) (fun i s => (s, nI i)) (fun i s => s = nI (cR N i)) nl (Q := fun b => b = nI (cR N nl)) (by
    rintro s rfl
    refine ⟨_, ?_, rfl⟩
    show b_X7_countRocks_4 _ (nI nl) C = _
    have g : a_gi C 0 2 = nI nl := h
    rw [b_X7_countRocks_4, g, if_pos (Int32.le_refl _)]) (by
    rintro i s hi rfl
    refine Or.inl ⟨nI (cR N (i + 1)), ?_, rfl⟩
    show b_X7_countRocks_4 _ (nI i) C = _
    have g : a_gi C 0 2 = nI nl := h
    obtain ⟨kd, hkd, c0, n0⟩ := hk i hi
    rw [b_X7_countRocks_4, g, if_neg (fun z => by have := (nI_leI (by omega) (by omega)).mp z; omega), a_rfN (by omega) (by omega), Option.bind_some, isRock1 hkd c0, Option.bind_some]
    have e : cR N (i + 1) = cR N i + (if kd = 1 ∨ kd = 3 then 1 else 0) := by
      rw [cR, S_rk_kd n0 hkd]
      by_cases hc : kd = 1 ∨ kd = 3
      · simp [hc]
      · simp [hc]
    rw [e]
    by_cases hc : kd = 1 ∨ kd = 3
    · rw [if_pos hc, if_pos hc, if_neg (by decide), nI_1, nI_1]
    · rw [if_neg hc, if_neg hc, if_pos (by decide), nI_1]
      rfl) FU 0 (nI (cR N 0)) (by omega) rfl (FU_lt (by omega))
  rw [f_X7_countRocks]
  have e0 : ((0 : Int32), (0 : Int32)) = (nI (cR N 0), nI 0) := rfl
  rw [e0, h1, h2]
  rfl
theorem count8 {M : aMm} {x1 : Int32} {nl : Nat} (hn : nl ≤ 10) (h : M 1 0 = nI nl) (hk : ∀ l, l < nl → ∃ kd, kd ≤ 3 ∧ M 1 (10 + 22 * l) = nI kd) : lpf (fun a : Int32 × Int32 => b_X8_all_4 x1 a.1 a.2 M) FU ((0 : Int32), (0 : Int32)) = some (nI (cR (M 1) nl)) := by
  have hlen : a_len (94 + 1) 0 = 386 := rfl
  have hm : m_ld M 1 0 = some (nI nl) := by
    have := m_ldN (M := M) (m := 1) (k := 0) (by decide) (by decide)
    rw [h] at this
    exact this
  obtain ⟨b, h1, h2⟩ := lpf_ct (body := fun a : Int32 × Int32 => b_X8_all_4 x1 a.1 a.2 M) (fun i s => (s, nI i)) (fun i s => s = nI (cR (M 1) i)) nl (Q := fun b => b = nI (cR (M 1) nl)) (by
    rintro s rfl
    refine ⟨_, ?_, rfl⟩
    show b_X8_all_4 x1 _ (nI nl) M = _
    rw [b_X8_all_4, hm, Option.bind_some, if_pos (Int32.le_refl _)]) (by
    rintro i s hi rfl
    refine Or.inl ⟨nI (cR (M 1) (i + 1)), ?_, rfl⟩
    show b_X8_all_4 x1 _ (nI i) M = _
    obtain ⟨kd, hkd, n0⟩ := hk i hi
    rw [b_X8_all_4, hm, Option.bind_some, if_neg (fun z => by have := (nI_leI (by omega) (by omega)).mp z; omega), isRock8 (by omega) hkd n0, Option.bind_some]
    have e : cR (M 1) (i + 1) = cR (M 1) i + (if kd = 1 ∨ kd = 3 then 1 else 0) := by
      rw [cR, S_rk_kd n0 hkd]
      by_cases hc : kd = 1 ∨ kd = 3
      · simp [hc]
      · simp [hc]
    rw [e]
    by_cases hc : kd = 1 ∨ kd = 3
    · rw [if_pos hc, if_pos hc, if_neg (by decide), nI_1, nI_1]
    · rw [if_neg hc, if_neg hc, if_pos (by decide), nI_1, show (0 : Int32) = nI 0 from rfl, nI_add]) FU 0 (nI (cR (M 1) 0)) (by omega) rfl (FU_lt (by omega))
  have e0 : ((0 : Int32), (0 : Int32)) = (nI (cR (M 1) 0), nI 0) := rfl
  rw [e0, h1, h2]
theorem pr_all (a0 : Int32) {C : aSc} {M : aMm} (hR : Rel C M) : ∃ (v : Int32) (C' : aSc) (M' : aMm), f_X7_all a0 C = some (v, C') ∧ f_X8_all a0 M = some (v, M') ∧ Rel C' M' := by
  obtain ⟨nl, nb, nf, nw, hz, dy, hV⟩ := hR.1
  obtain ⟨⟨h0, ⟨h1, h1'⟩, ⟨h2, h2'⟩, ⟨h3, h3'⟩, ⟨h4, h4'⟩, _⟩, hL, -⟩ := id hV
  obtain ⟨-, ⟨n, -, t2, t3, -⟩, -, hD, -⟩ := id hR
  have hlen : a_len (94 + 1) 0 = 386 := rfl
  have hc8 := count8 (M := M) (x1 := a0) (nl := nl) (by omega) h1' (fun l hl => by obtain ⟨⟨kd, _, hkd, c0, n0⟩, -⟩ := hL l hl; exact ⟨kd, hkd, n0⟩)
  have hc7 := count7 (C := C) (N := M 1) (nl := nl) (by omega) h1 (fun l hl => by obtain ⟨⟨kd, _, hkd, c0, n0⟩, -⟩ := hL l hl; exact ⟨kd, hkd, c0, n0⟩)
  have ml : ∀ k, k < 10 → m_ld M 1 (nI k) = some (M 1 k) := fun k hk => m_ldN (by omega) (by omega)
  by_cases e0 : a0 = 0
  · refine ⟨nI nl, C, M, ?_, ?_, hR⟩
    · rw [f_X7_all, if_pos e0]; show some (C.1 0 2, C) = _; rw [h1]
    · rw [f_X8_all, hc8, Option.bind_some, if_pos e0, show (0 : Int32) = nI 0 from rfl, ml 0 (by omega), Option.bind_some, h1']
  by_cases e1 : a0 = 1
  · refine ⟨nI (cR (M 1) nl), C, M, ?_, ?_, hR⟩
    · rw [f_X7_all, if_neg e0, if_pos e1, hc7]; rfl
    · rw [f_X8_all, hc8, Option.bind_some, if_neg e0, if_pos e1]
  by_cases e2 : a0 = 2
  · refine ⟨nI nb, C, M, ?_, ?_, hR⟩
    · rw [f_X7_all, if_neg e0, if_neg e1, if_pos e2]; show some (C.1 0 6, C) = _; rw [h2]
    · rw [f_X8_all, hc8, Option.bind_some, if_neg e0, if_neg e1, if_pos e2, show (1 : Int32) = nI 1 from rfl, ml 1 (by omega), Option.bind_some, h2']
  by_cases e3 : a0 = 3
  · refine ⟨nI nf, C, M, ?_, ?_, hR⟩
    · rw [f_X7_all, if_neg e0, if_neg e1, if_neg e2, if_pos e3]; show some (C.1 0 8, C) = _; rw [h3]
    · rw [f_X8_all, hc8, Option.bind_some, if_neg e0, if_neg e1, if_neg e2, if_pos e3, show (2 : Int32) = nI 2 from rfl, ml 2 (by omega), Option.bind_some, h3']
  by_cases e4 : a0 = 4
  · refine ⟨nI nw, C, M, ?_, ?_, hR⟩
    · rw [f_X7_all, if_neg e0, if_neg e1, if_neg e2, if_neg e3, if_pos e4]; show some (C.1 7 0, C) = _; rw [h4]
    · rw [f_X8_all, hc8, Option.bind_some, if_neg e0, if_neg e1, if_neg e2, if_neg e3, if_pos e4, show (3 : Int32) = nI 3 from rfl, ml 3 (by omega), Option.bind_some, h4']
  by_cases e5 : a0 = 5
  · refine ⟨nI n, C, M, ?_, ?_, hR⟩
    · rw [f_X7_all, if_neg e0, if_neg e1, if_neg e2, if_neg e3, if_neg e4, if_pos e5]; show some (C.1 1 1, C) = _; rw [t2]
    · rw [f_X8_all, hc8, Option.bind_some, if_neg e0, if_neg e1, if_neg e2, if_neg e3, if_neg e4, if_pos e5]; show some (M 0 5, M) = _; rw [t3]
  by_cases e6 : a0 = 6
  · refine ⟨M 0 3, C, M, ?_, ?_, hR⟩
    · rw [f_X7_all, if_neg e0, if_neg e1, if_neg e2, if_neg e3, if_neg e4, if_neg e5, if_pos e6]; show some (C.1 0 18, C) = _; rw [hD]
    · rw [f_X8_all, hc8, Option.bind_some, if_neg e0, if_neg e1, if_neg e2, if_neg e3, if_neg e4, if_neg e5, if_pos e6]; rfl
  refine ⟨-100001, _, _, ?_, ?_, rel_refuse hR⟩
  · rw [f_X7_all, if_neg e0, if_neg e1, if_neg e2, if_neg e3, if_neg e4, if_neg e5, if_neg e6]; rfl
  · rw [f_X8_all, hc8, Option.bind_some, if_neg e0, if_neg e1, if_neg e2, if_neg e3, if_neg e4, if_neg e5, if_neg e6]; rfl

/-- the relation looks at the landings through R_g alone -/
theorem rel_lg {C C' : aSc} {M M' : aMm} (hR : Rel C M) (hC : ∀ c j, ¬ (14 ≤ c ∧ c ≤ 19) → ¬ (c = 0 ∧ j = 13) → C'.1 c j = C.1 c j) (hC2 : C'.2.1 = C.2.1) (hM : ∀ m, m ≠ 8 → M' m = M m) (hG : R_g C' (M 1)) : Rel C' M' := by
  obtain ⟨hV, ⟨n, t1, t2, t3, t4⟩, hH, hD, ⟨kp, top, p1, p2, p3, p4, p5, p6⟩, hF, -⟩ := hR
  have e1 := hM 1 (by omega)
  have e2 := hM 2 (by omega)
  refine ⟨?_, ⟨n, t1, ?_, ?_, ?_⟩, ?_, ?_, ⟨kp, top, p1, p2, ?_, ?_, ?_, ?_⟩, ?_, ?_⟩
  · refine Vw_cong (fun c j h => hC c j ?_ ?_) (fun c j _ _ => by rw [hC2]) (fun _ _ => by rw [e1]) hV
    · intro z
      simp [vr] at h
      omega
    · rintro ⟨rfl, rfl⟩; simp [vr] at h
  · rw [hC 1 1 (by omega) (by omega)]; exact t2
  · rw [hM 0 (by omega)]; exact t3
  · intro i hi
    rw [hC 2 i (by omega) (by omega), hM 3 (by omega)]; exact t4 i hi
  · intro s hs
    obtain ⟨w, n, h1, h2, h3, h4, h5, h6, h7, h8⟩ := hH s hs
    refine ⟨w, n, h1, h2, h3, ?_, ?_, ?_, ?_, ?_⟩
    · rw [hC _ _ (by omega) (by omega)]; exact h4
    · rw [hM 4 (by omega)]; exact h5
    · rw [hC _ _ (by omega) (by omega)]; exact h6
    · rw [hM 5 (by omega)]; exact h7
    · intro i hi
      rw [hC _ _ (by omega) (by omega), hM 6 (by omega)]; exact h8 i hi
  · show C'.1 0 18 = M' 0 3
    rw [hC 0 18 (by omega) (by omega), hM 0 (by omega)]; exact hD
  · rw [hC 22 2 (by omega) (by omega)]; exact p3
  · rw [hM 0 (by omega)]; exact p4
  · rw [hC 22 1 (by omega) (by omega)]; exact p5
  · intro k hk
    have hr : C'.1 (63 + 2 * ((top + 16 - kp + k) % 16)) = C.1 (63 + 2 * ((top + 16 - kp + k) % 16)) := funext fun j => hC _ j (by omega) (by omega)
    have hn : ∀ k, nrow M' k = nrow M k := fun k => by unfold nrow; rw [e2]
    rw [hC _ _ (by omega) (by omega), hC _ _ (by omega) (by omega), hC _ _ (by omega) (by omega), hr, e1, hn, hn]
    exact p6 k hk
  · unfold R_f
    rw [hC 0 15 (by omega) (by omega), e1]
    rcases hF with h | ⟨h, h2⟩
    · exact Or.inl h
    · exact Or.inr ⟨h, fun c hc => by rw [hC 20 c (by omega) (by omega)]; exact h2 c hc⟩
  · rw [e1]; exact hG
theorem findL {C : aSc} {N : Nat → Int32} {nl dy : Nat} (h : Ng N nl dy) (hC : Cg C N nl dy) (hG : R_g C N) : ∃ C', f_X7_findLandings C = some C' ∧ C'.2.1 = C.2.1 ∧ (∀ c j, ¬ (14 ≤ c ∧ c ≤ 19) → ¬ (c = 0 ∧ j = 13) → C'.1 c j = C.1 c j) ∧ R_g C' N ∧ C'.1 14 0 = nI (S_le N (20 - dy) 0) ∧ ∀ d, dy ≤ d → d < 20 → C'.1 15 d = iv (S_pl N dy d) := by
  have h5 := Ng_5 h
  obtain ⟨⟨n, n1, n2, n3⟩, hg⟩ := id hG
  rcases hg with g | ⟨g, g1, g2⟩
  · have g13 : a_gi C 0 13 = 0 := g
    have c2 : a_gi C 0 2 = nI nl := hC.1
    have c4 : a_gi C 0 4 = nI dy := hC.2.1
    obtain ⟨C', a1, a2, a3, a4, a5, a6⟩ := find7 h hC n1 n2 n3
    have x0 : (a_pi C' 0 13 1).1 14 0 = nI (S_le N (20 - dy) 0) := (a_pi_ne (by omega)).trans a5
    have x1 : ∀ d, dy ≤ d → d < 20 → (a_pi C' 0 13 1).1 15 d = iv (S_pl N dy d) := fun d p q => (a_pi_ne (by omega)).trans (a6 d p q)
    refine ⟨a_pi C' 0 13 1, ?_, a2, fun c j p q => ?_, ⟨a3, Or.inr ⟨a_pi_at, ?_, ?_⟩⟩, x0, x1⟩
    · rw [f_X7_findLandings, g13, if_pos rfl, c2, c4, a1, Option.bind_some, Option.bind_some]
    · rw [a_pi_ne q]; exact a4 c j p
    · rw [h5]; exact x0
    · rw [h5]; exact x1
  · have g13 : a_gi C 0 13 = 1 := g
    rw [h5] at g1 g2
    exact ⟨C, by rw [f_X7_findLandings, g13, if_neg (by decide)], rfl, fun _ _ _ _ => rfl, hG, g1, g2⟩
theorem landL {C : aSc} {M : aMm} (hR : Rel C M) {nl nb nf nw hz dy : Nat} (hV : V_all C (M 1) nl nb nf nw hz dy) : ∃ C' M', f_X7_findLandings C = some C' ∧ f_X8_findLandings M = some M' ∧ Rel C' M' ∧ Rel C M' ∧ (∀ c j, ¬ (14 ≤ c ∧ c ≤ 19) → ¬ (c = 0 ∧ j = 13) → C'.1 c j = C.1 c j) ∧ (∀ m, m ≠ 8 → M' m = M m) ∧ (∀ d, dy ≤ d → d ≤ 20 → Tb M' (M 1) nl d) ∧ C'.1 14 0 = nI (S_le (M 1) (20 - dy) 0) ∧ ∀ d, dy ≤ d → d < 20 → C'.1 15 d = iv (S_pl (M 1) dy d) := by
  obtain ⟨hN, hC⟩ := Cg_of hV
  obtain ⟨C', a1, a2, a3, a4, a5, a6⟩ := findL hN hC hR.2.2.2.2.2.2
  obtain ⟨M', b1, b2, b3⟩ := find8 hN
  exact ⟨C', M', a1, b1, rel_lg hR a3 a2 b2 a4, rel_lg hR (fun _ _ _ _ => rfl) rfl b2 hR.2.2.2.2.2.2, a3, b2, b3, a5, a6⟩
theorem due8 {M M' : aMm} {nl dy : Nat} (h : Ng (M 1) nl dy) (hM : M' 1 = M 1) (hT : Tb M' (M 1) nl dy) : m_ld M' 8 ((1024 : Int32) * nI dy) = some (nI (S_le (M 1) (20 - dy) 0)) := by
  have e : (1024 : Int32) * nI dy = nI (1024 * dy + 0) := pk_mul 1024 dy
  rw [e]
  exact ld8 h.1.1 (by have := h.1.2; omega) (Nat.two_pow_pos _) hT
theorem pr_overdue {C : aSc} {M : aMm} (hR : Rel C M) : ∃ (v : Int32) (C' : aSc) (M' : aMm), f_X7_overdue C = some (v, C') ∧ f_X8_overdue M = some (v, M') ∧ Rel C' M' := by
  obtain ⟨nl, nb, nf, nw, hz, dy, hV⟩ := hR.1
  obtain ⟨hN, hC⟩ := Cg_of hV
  obtain ⟨C', M', a1, a2, a3, -, a4, a5, a6, a7, a8⟩ := landL hR hV
  have e1 : M' 1 = M 1 := a5 1 (by omega)
  have hN' : Ng (M' 1) nl dy := by rw [e1]; exact hN
  have g : a_gi C' 14 0 = nI (S_le (M 1) (20 - dy) 0) := a7
  refine ⟨nI (S_le (M 1) (20 - dy) 0), C', M', ?_, ?_, a3⟩
  · rw [f_X7_overdue, a1, Option.bind_some, g]
  · rw [f_X8_overdue, a2, Option.bind_some, ld5 hN', Option.bind_some, due8 hN e1 (a6 dy (by omega) (by have := hN.1.2; omega)), Option.bind_some]
theorem day_pair {C : aSc} {M : aMm} (x : Int32) : (∃ k, k ≤ 19 ∧ x = nI k ∧ f_X7_isDay x C = some 1 ∧ f_X8_within x 0 19 M = some 1) ∨ (f_X7_isDay x C = some 0 ∧ f_X8_within x 0 19 M = some 0) := by
  rcases nI_cases x 19 (by decide) with ⟨k, hk, rfl⟩ | h | h
  · refine Or.inl ⟨k, hk, rfl, ?_, ?_⟩
    · rw [f_X7_isDay, if_neg (nI_pos (by omega)), if_neg (show ¬ (20 : Int32) ≤ nI k from fun z => by have := (nI_leI (a := 20) (by omega) (by omega)).mp z; omega)]
    · exact within_in (lo := 0) (hi := 19) (by omega) hk (by omega)
  · exact Or.inr ⟨by rw [f_X7_isDay, if_pos h], within_out (Or.inl h)⟩
  · obtain ⟨b1, b2, b3⟩ := nI_big (by decide) h
    exact Or.inr ⟨by rw [f_X7_isDay, if_neg b1, if_pos (show (20 : Int32) ≤ x from b3)], within_out (Or.inr h)⟩
theorem pr_landing (a0 : Int32) {C : aSc} {M : aMm} (hR : Rel C M) : ∃ (v : Int32) (C' : aSc) (M' : aMm), f_X7_landing a0 C = some (v, C') ∧ f_X8_landing a0 M = some (v, M') ∧ Rel C' M' := by
  rcases day_pair (C := C) (M := M) a0 with ⟨k, hk, rfl, j1, j2⟩ | ⟨j1, j2⟩
  rotate_left
  · refine ⟨-100001, _, _, ?_, ?_, rel_refuse hR⟩
    · rw [f_X7_landing, j1, Option.bind_some, if_pos (by decide)]; rfl
    · rw [f_X8_landing, j2, Option.bind_some, if_pos (by decide)]; rfl
  obtain ⟨nl, nb, nf, nw, hz, dy, hV⟩ := hR.1
  obtain ⟨hN, hC⟩ := Cg_of hV
  have h19 := hN.1.2
  obtain ⟨C', M', a1, a2, a3, a3', a4, a5, a6, a7, a8⟩ := landL hR hV
  have e1 : M' 1 = M 1 := a5 1 (by omega)
  have hN' : Ng (M' 1) nl dy := by rw [e1]; exact hN
  have g4 : a_gi C 0 4 = nI dy := hC.2.1
  have hl15 : a_len 15 (C'.2.2 15) = 20 := rfl
  rcases Nat.lt_or_ge k dy with hlt | hge
  · refine ⟨-100006, _, _, ?_, ?_, rel_refuse a3'⟩
    · rw [f_X7_landing, j1, Option.bind_some, if_neg (by decide), g4, if_neg (fun z => by have := (nI_leI (by omega) (by omega)).mp z; omega)]; rfl
    · rw [f_X8_landing, j2, Option.bind_some, if_neg (by decide), a2, Option.bind_some, ld5 hN', Option.bind_some, ld_33n (by omega) hlt, Option.bind_some, if_neg neg1.2]; rfl
  · have l7 : f_X7_landing (nI k) C = if 0 ≤ iv (S_pl (M 1) dy k) then some (iv (S_pl (M 1) dy k), C') else bd2 (f_X7_refuse (-100006 : Int32) C') fun r8 C9 => some (r8, C9) := by
      rw [f_X7_landing, j1, Option.bind_some, if_neg (by decide), g4, if_pos ((nI_leI (by omega) (by omega)).mpr hge), a1, Option.bind_some, a_ldN (by omega) (by omega), Option.bind_some, a8 k hge (by omega)]
    have l33 := ld_33 hN' (day := k) (by omega) hge (fun d p q => by rw [e1]; exact a6 d p q)
    rw [e1] at l33
    have l8 : f_X8_landing (nI k) M = if 0 ≤ iv (S_pl (M 1) dy k) then some (iv (S_pl (M 1) dy k), M') else bd2 (f_X8_finding (-100006 : Int32) M') fun r15 M16 => some (r15, M16) := by
      rw [f_X8_landing, j2, Option.bind_some, if_neg (by decide), a2, Option.bind_some, ld5 hN', Option.bind_some, l33, Option.bind_some]
    by_cases hp : 0 ≤ iv (S_pl (M 1) dy k)
    · exact ⟨_, C', M', l7.trans (if_pos hp), l8.trans (if_pos hp), a3⟩
    · exact ⟨-100006, _, _, (l7.trans (if_neg hp)).trans rfl, (l8.trans (if_neg hp)).trans rfl, rel_refuse a3⟩
/-! a sheet that is to prove -/
theorem rest7 {C : aSc} {N : Nat → Int32} {nl dy L T : Nat} (h : Ng N nl dy) (hC : Cg C N nl dy) (hL : L < 1024) (x1 : Nat) : lpf (fun a : Int32 × Int32 => b_X7_firstWrong_154 x1 (nI L) a.1 a.2 C) FU (nI T, (0 : Int32)) = some (nI (T + S_re N L)) := by
  have h10 := h.1.1
  have g2 : a_gi C 0 2 = nI nl := hC.1
  obtain ⟨z, e1, q1⟩ := lpf_ct (body := fun a : Int32 × Int32 => b_X7_firstWrong_154 x1 (nI L) a.1 a.2 C) (fun i x => (x, nI i)) (fun i x => x = nI (T + sm (fun l => if S_rk N l && !L.testBit l then S_ov N l 20 else 0) i)) nl (Q := fun x => x = nI (T + sm (fun l => if S_rk N l && !L.testBit l then S_ov N l 20 else 0) nl)) (by
    intro x hx
    refine ⟨x, ?_, hx⟩
    show b_X7_firstWrong_154 x1 (nI L) x (nI nl) C = _
    rw [b_X7_firstWrong_154, g2, if_pos (Int32.le_refl _)]) (by
    rintro i x hi rfl
    refine Or.inl ⟨_, ?_, rfl⟩
    have o20 : f_X1_overdueOn (24 + 3 * i) 20 C = some (nI (S_ov N i 20)) := over7 h hC hi (d := 20) (by omega)
    show b_X7_firstWrong_154 x1 (nI L) (nI (T + sm (fun l => if S_rk N l && !L.testBit l then S_ov N l 20 else 0) i)) (nI i) C = some (.inl (nI (T + (sm (fun l => if S_rk N l && !L.testBit l then S_ov N l 20 else 0) i + (if S_rk N i && !L.testBit i then S_ov N i 20 else 0))), nI (i + 1)))
    generalize sm (fun l => if S_rk N l && !L.testBit l then S_ov N l 20 else 0) i = y
    rw [b_X7_firstWrong_154, g2, if_neg (fun z => by have := (nI_leI (by omega) (by omega)).mp z; omega), a_rfN (by omega) (by omega), Option.bind_some, rock7 h hC hi, Option.bind_some, bit8 (by omega) (by omega), Option.bind_some, o20, Option.bind_some, nI_1, nI_add]
    by_cases hr : S_rk N i = true
    · rw [hr, if_neg (by decide)]
      by_cases hb : L.testBit i = true
      · rw [hb, if_neg (by decide)]; rfl
      · rw [Bool.eq_false_iff.mpr hb, if_pos (by decide), Nat.add_assoc]; rfl
    · rw [Bool.eq_false_iff.mpr hr, if_pos (by decide)]; rfl) FU 0 _ (by omega) rfl (FU_lt (by omega))
  rw [show (nI 0) = (0 : Int32) from rfl] at e1
  rw [S_re_sm, Ng_0 h, ← q1]
  exact e1

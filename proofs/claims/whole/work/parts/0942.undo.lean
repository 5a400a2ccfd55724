def unM (M : aMm) (kp i : Nat) : aMm := fun m j => if m = 1 ∧ j < i then M 2 (386 * kp + j) else M m j
theorem undo26 (M : aMm) {kp : Nat} (hk : kp ≤ 15) (h : M 0 2 = nI kp) : lpf (fun a : Int32 × aMm => b_X8_undo_26 a.1 a.2) FU ((0 : Int32), M) = some (unM M kp 386) := by
  obtain ⟨b, h1, h2⟩ := lpf_ct (body := fun a : Int32 × aMm => b_X8_undo_26 a.1 a.2) (fun i s => (nI i, s)) (fun i s => s = unM M kp i) 386 (Q := fun b => b = unM M kp 386) (by
    rintro s rfl
    refine ⟨_, ?_, rfl⟩
    show b_X8_undo_26 (nI 386) _ = _
    rw [b_X8_undo_26, if_pos (show (386 : Int32) ≤ nI 386 from by decide)]) (by
    rintro i s hi rfl
    refine Or.inl ⟨unM M kp (i + 1), ?_, rfl⟩
    show b_X8_undo_26 (nI i) _ = _
    have hc : ¬ (386 : Int32) ≤ nI i := fun z => by
      have := (nI_leI (a := 386) (b := i) (by omega) (by omega)).mp z
      omega
    have hl : a_len (94 + 2) 0 = 6176 := rfl
    have hl1 : a_len (94 + 1) 0 = 386 := rfl
    have e0 : m_gi (unM M kp i) 0 2 = nI kp := by simp [m_gi, unM, h]
    have e1 : nI kp * 386 + nI i = nI (kp * 386 + i) := by rw [show (386 : Int32) = nI 386 from rfl, pk_mul, nI_add]
    rw [b_X8_undo_26, if_neg hc, e0, e1, m_ldN (by omega) (by omega), Option.bind_some, m_stN (by omega) (by omega), Option.bind_some]
    have e2 : nI i + 1 = nI (i + 1) := nI_1 i
    rw [e2]
    congr 3
    funext m j
    unfold m_pi a_up unM
    by_cases hm : m = 1
    · subst hm
      by_cases hj : j = i
      · subst hj
        have h3 : kp * 386 + j = 386 * kp + j := by omega
        simp [upd, h3]
      · have : (j < i + 1) = (j < i) := by simp; omega
        simp [upd, hj, this]
    · simp [hm]) FU 0 M (by omega) (by funext m j; simp [unM]) (FU_lt (by omega))
  rw [← h2]; exact h1
theorem pr_undo  {C : aSc} {M : aMm} (hR : Rel C M) : ∃ (v : Int32) (C' : aSc) (M' : aMm), f_X7_undo  C = some (v, C') ∧ f_X8_undo  M = some (v, M') ∧ Rel C' M' := by
  obtain ⟨hV, ⟨n, t1, t2, t3, t4⟩, hH, hD, ⟨kp, top, p1, p2, p3, p4, p5, p6⟩, hF, hG⟩ := id hR
  have g3 : a_gi C 22 2 = nI kp := p3
  have m4 : m_gi M 0 2 = nI kp := p4
  rcases Nat.eq_zero_or_pos kp with h0 | hpos
  · subst h0
    refine ⟨-100006, _, _, ?_, ?_, rel_refuse hR⟩
    · rw [f_X7_undo, f_X2_takeLatest, g3, if_pos (by decide)]; rfl
    · rw [f_X8_undo, m4, if_pos (by decide)]; rfl
  · have hne : ¬ nI kp = 0 := nI_ne0 hpos (by omega)
    have e1 : nI kp - 1 = nI (kp - 1) := pk_sub (a := kp) (b := 1) (by omega)
    -- the class
    obtain ⟨tp, htp⟩ : ∃ tp, tp = (top + 15) % 16 := ⟨_, rfl⟩
    have htl : tp < 16 := by omega
    obtain ⟨C3, hC3⟩ : ∃ C3, C3 = a_pi (a_pi C 22 2 (nI (kp - 1))) 22 1 (nI tp) := ⟨_, rfl⟩
    have c3 : ∀ c j, ¬ (c = 22 ∧ (j = 1 ∨ j = 2)) → C3.1 c j = C.1 c j := fun c j h => by rw [hC3, a_pi_ne (by omega), a_pi_ne (by omega)]
    have htk : f_X2_takeLatest C = some (62 + 2 * tp, C3) := by
      have g1 : a_gi (a_pi C 22 2 (nI (kp - 1))) 22 1 = nI top := by
        show (a_pi C 22 2 (nI (kp - 1))).1 22 1 = _
        rw [a_pi_ne (by omega)]; exact p5
      have e2 : nI top + 16 - 1 - (nI top + 16 - 1) / 16 * 16 = nI tp := by
        rw [show (16 : Int32) = nI 16 from rfl, nI_add, show nI (top + 16) - 1 = nI (top + 15) from pk_sub (a := top + 16) (b := 1) (by omega), htp]
        exact pk_rem (d := 16) (by omega) (by omega) (by omega)
      have g4 : a_gi C3 22 1 = nI tp := by rw [hC3]; exact a_pi_at
      rw [f_X2_takeLatest, g3, if_neg hne, e1, Option.bind_some, g1, e2, Option.bind_some, ← hC3, g4, a_rfN htl (by omega), Option.bind_some]
    have hbk := p6 (kp - 1) (by omega)
    have hps : (top + 16 - kp + (kp - 1)) % 16 = tp := by omega
    rw [hps, if_pos (by omega)] at hbk
    have hV3 : Vw C3 (M 1) := Vw_cong (fun c j h => c3 c j (by rintro ⟨rfl, _⟩; simp [vr] at h)) (fun c j _ _ => by rw [hC3]; rfl) (fun _ _ => rfl) hV
    obtain ⟨C10, b1, b2, b3, b4⟩ := hbk C3 (62 + 2 * tp) (a_ckP_is (step_ok tp htl)) (c3 _ _ (by omega)) (c3 _ _ (by omega)) (c3 _ _ (by omega)) (fun j _ => by rw [show 62 + 2 * tp + 1 = 63 + 2 * tp by omega]; exact c3 _ _ (by omega)) hV3
    have vf : ∀ c j, (c = 1 ∨ c = 2 ∨ (c = 0 ∧ (j = 13 ∨ j = 15 ∨ j = 18)) ∨ (14 ≤ c ∧ c < 24) ∨ 54 ≤ c) → vr c j = false := by
      intro c j h
      rw [Bool.eq_false_iff]
      intro z
      simp [vr] at z
      omega
    obtain ⟨C12, hC12⟩ : ∃ C12, C12 = a_pi (a_pi C10 0 15 0) 0 13 0 := ⟨_, rfl⟩
    have c12 : ∀ c j, ¬ (c = 0 ∧ (j = 13 ∨ j = 15)) → C12.1 c j = C10.1 c j := fun c j h => by rw [hC12, a_pi_ne (by omega), a_pi_ne (by omega)]
    -- what has stayed
    have cs : ∀ c j, vr c j = false → ¬ (c = 0 ∧ (j = 13 ∨ j = 15)) → ¬ (c = 22 ∧ (j = 1 ∨ j = 2)) → C12.1 c j = C.1 c j := fun c j h1 h2 h3 => by rw [c12 c j h2, b3 c j h1, c3 c j h3]
    have e22 : C12.1 22 2 = nI (kp - 1) := by
      rw [c12 _ _ (by omega), b3 _ _ (vf _ _ (by omega)), hC3, a_pi_ne (by omega), a_pi_at]
    have e21 : C12.1 22 1 = nI tp := by
      rw [c12 _ _ (by omega), b3 _ _ (vf _ _ (by omega)), hC3, a_pi_at]
    -- the reference
    have hm1 : m_pi M 0 2 (nI (kp - 1)) 0 2 = nI (kp - 1) := m_pi_at
    obtain ⟨M2, hM2⟩ : ∃ M2, M2 = unM (m_pi M 0 2 (nI (kp - 1))) (kp - 1) 386 := ⟨_, rfl⟩
    have mr : ∀ m, m ≠ 0 → m ≠ 1 → M2 m = M m := fun m h0 h1 => by
      rw [hM2]
      funext j
      simp only [unM, h1, false_and, if_false]
      rw [m_pi_row h0]
    have m0 : ∀ j, j ≠ 2 → M2 0 j = M 0 j := fun j hj => by
      rw [hM2]
      show (if (0 : Nat) = 1 ∧ _ then _ else _) = _
      rw [if_neg (by omega), m_pi_ne (by omega)]
    have m02 : M2 0 2 = nI (kp - 1) := by
      rw [hM2]
      show (if (0 : Nat) = 1 ∧ _ then _ else _) = _
      rw [if_neg (by omega), m_pi_at]
    have m1 : ∀ j, j < 386 → M2 1 j = nrow M (kp - 1) j := fun j hj => by
      rw [hM2]
      show (if (1 : Nat) = 1 ∧ j < 386 then _ else _) = _
      rw [if_pos ⟨rfl, hj⟩, m_pi_ne (by omega)]
      rfl
    refine ⟨nI (kp - 1), C12, M2, ?_, ?_, ?_, ⟨n, t1, ?_, ?_, ?_⟩, ?_, ?_, ⟨kp - 1, tp, by omega, htl, e22, m02, e21, ?_⟩, Or.inl ?_, ?_, Or.inl ?_⟩
    · rw [f_X7_undo, htk]
      show (if 62 + 2 * tp = 0 then _ else if 62 ≤ 62 + 2 * tp ∧ 62 + 2 * tp < 94 ∧ (62 + 2 * tp) % 2 = 0 then _ else none) = _
      rw [if_neg (by omega), if_pos (step_ok tp htl), b1, Option.bind_some, f_X7_forgetFound, Option.bind_some, Option.bind_some, Option.bind_some, ← hC12]
      show some (C12.1 22 2, C12) = _
      rw [e22]
    · rw [f_X8_undo, m4, if_neg hne, e1, Option.bind_some, undo26 _ (by omega) hm1, Option.bind_some, ← hM2]
      show some (M2 0 2, M2) = _
      rw [m02]
    · exact Vw_cong (fun c j h => c12 c j (by rintro ⟨rfl, hj⟩; rcases hj with rfl | rfl <;> simp [vr] at h)) (fun c j _ _ => by rw [hC12]; rfl) m1 b2
    · rw [cs 1 1 (vf _ _ (by omega)) (by omega) (by omega)]; exact t2
    · rw [m0 5 (by omega)]; exact t3
    · intro i hi
      rw [cs 2 i (vf _ _ (by omega)) (by omega) (by omega), mr 3 (by omega) (by omega)]; exact t4 i hi
    · intro s hs
      obtain ⟨w, n, h1, h2, h3, h4, h5, h6, h7, h8⟩ := hH s hs
      refine ⟨w, n, h1, h2, h3, ?_, ?_, ?_, ?_, ?_⟩
      · rw [cs _ _ (vf _ _ (by omega)) (by omega) (by omega)]; exact h4
      · rw [mr 4 (by omega) (by omega)]; exact h5
      · rw [cs _ _ (vf _ _ (by omega)) (by omega) (by omega)]; exact h6
      · rw [mr 5 (by omega) (by omega)]; exact h7
      · intro i hi
        rw [cs _ _ (vf _ _ (by omega)) (by omega) (by omega), mr 6 (by omega) (by omega)]; exact h8 i hi
    · show C12.1 0 18 = M2 0 3
      rw [cs 0 18 (vf _ _ (by omega)) (by omega) (by omega), m0 3 (by omega)]; exact hD
    · intro k hk
      have hpos2 : (tp + 16 - (kp - 1) + k) % 16 = (top + 16 - kp + k) % 16 := by omega
      have hold := p6 k (by omega)
      rw [hpos2]
      generalize (top + 16 - kp + k) % 16 = ps at hold ⊢
      have hrow : C12.1 (63 + 2 * ps) = C.1 (63 + 2 * ps) := funext fun j => cs _ _ (vf _ _ (by omega)) (by omega) (by omega)
      have hnr : ∀ k, nrow M2 k = nrow M k := fun k => by unfold nrow; rw [mr 2 (by omega) (by omega)]
      rw [cs _ _ (vf _ _ (by omega)) (by omega) (by omega), cs _ _ (vf _ _ (by omega)) (by omega) (by omega), cs _ _ (vf _ _ (by omega)) (by omega) (by omega), hrow, hnr, hnr]
      rw [if_neg (by omega)] at hold
      refine Bk_cong (fun j hj => ?_) (fun _ _ => rfl) (fun _ _ => rfl) hold
      by_cases hl : k + 1 = kp - 1
      · rw [if_pos hl, m1 j hj, hl]
      · rw [if_neg hl]
    · rw [hC12, a_pi_ne (by omega), a_pi_at]
    · have e2 : C12.2.2 = C.2.2 := by
        rw [hC12]
        show C10.2.2 = _
        rw [b4, hC3]
        rfl
      rw [e2]
      exact hG.1
    · rw [hC12, a_pi_at]
/-! clear -/
theorem V_clear {C : aSc} {N N' : Nat → Int32} {nl nb nf nw hz dy : Nat} (hV : V_all C N nl nb nf nw hz dy) (hN : ∀ j, j < 386 → N' j = upd N 1 0 j) : V_all (a_pi C 0 6 0) N' nl 0 nf nw hz dy := by
  have hn : ∀ j, j < 386 → j ≠ 1 → N' j = N j := fun j h h4 => by rw [hN j h, upd_ne h4]
  obtain ⟨r1, r2, r3, r4, r5⟩ := V_rest (C' := a_pi C 0 6 0) (N' := N') hV (fun c j h => a_pi_ne (by omega)) (fun _ _ _ _ => rfl) (fun j h h2 => hn j h2 (by omega))
  obtain ⟨⟨h0, h1, h2, h3, h4, h5, h6⟩, -⟩ := hV
  refine ⟨⟨by omega, ?_, ⟨a_pi_at, by rw [hN 1 (by omega), upd_at]; rfl⟩, ?_, ?_, ?_, ?_⟩, r1, fun b h => absurd h (by omega), r3, r4, r5⟩
  · rw [a_pi_ne (by omega), hn 0 (by omega) (by omega)]; exact h1
  · rw [a_pi_ne (by omega), hn 2 (by omega) (by omega)]; exact h3
  · rw [a_pi_ne (by omega), hn 3 (by omega) (by omega)]; exact h4
  · rw [a_pi_ne (by omega), hn 4 (by omega) (by omega)]; exact h5
  · rw [a_pi_ne (by omega), hn 5 (by omega) (by omega)]; exact h6
theorem a_cpyN {C : aSc} {c0 c1 n : Nat} (h0 : n ≤ a_len c0 (C.2.2 c0)) (h1 : n ≤ a_len c1 (C.2.2 c1)) (hn : n < 2 ^ 31) : a_cpy C c0 0 c1 0 (nI n) = some (a_cpr C c0 0 c1 0 n) := by
  have z : (0 : Int32).toNatClampNeg = 0 := rfl
  unfold a_cpy
  rw [if_pos ⟨by decide, by decide, nI_pos hn, by rw [z, nI_clamp hn]; omega, by rw [z, nI_clamp hn]; omega⟩, z, nI_clamp hn]
theorem a_cpr_ne {C : aSc} {c0 sp c1 dp n c j : Nat} (h : c ≠ c1) : (a_cpr C c0 sp c1 dp n).1 c j = C.1 c j := by simp [a_cpr, h]
theorem a_cpr_in {C : aSc} {c0 c1 n j : Nat} (h : j < n) : (a_cpr C c0 0 c1 0 n).1 c1 j = C.1 c0 j := by
  simp only [a_cpr, if_true]
  rw [pk_cpy_in (Nat.zero_le j) (by omega)]
  simp
theorem a_cpr_out {C : aSc} {c0 c1 n j : Nat} (h : n ≤ j) : (a_cpr C c0 0 c1 0 n).1 c1 j = C.1 c1 j := by
  simp only [a_cpr, if_true]
  rw [pk_cpy_out (by omega)]
theorem Bk_clear {No Nn : Nat → Int32} {nl nb : Nat} (hnl : nl ≤ 10) (hnb : nb ≤ 8) (h0 : No 0 = nI nl) (ho : No 1 = nI nb) (row : Nat → Int32) (hrow : ∀ b, b < nb → ∃ l fr to, l < nl ∧ No (230 + 3 * b) = nI l ∧ No (230 + 3 * b + 1) = nI fr ∧ No (230 + 3 * b + 2) = nI to ∧ V_k (row b) fr to l) (hn : ∀ j, j < 386 → Nn j = upd No 1 0 j) (o : Int32) : Bk 6 o (nI nb) row Nn No := by
  rintro C c hc e0 e1 e2 e3 ⟨nl', nb', nf, nw, hz, dy, hV⟩
  have hnn : ∀ j, j < 386 → j ≠ 1 → Nn j = No j := fun j h h4 => by rw [hn j h, upd_ne h4]
  have hnl' : nl' = nl := by
    have g1 := hV.1.2.1.2
    rw [hnn 0 (by omega) (by omega), h0] at g1
    exact ((nI_eq (by omega) (by have := hV.1.1.1; omega)).mp g1).symm
  subst hnl'
  have hlen1 : a_len (c + 1) ((a_pi C 0 6 (nI nb)).2.2 (c + 1)) = 20 := by
    have key : ∀ j, j < 94 → a_kd j = 4 → ∀ n, a_len (j + 1) n = 20 := by
      intro j hj hk n
      have : 62 ≤ j := by
        revert hk
        revert j
        decide
      unfold a_len
      rw [if_neg (by omega), if_neg (by omega), if_neg (by omega)]
      by_cases h9 : j + 1 < 94
      · rw [if_pos h9]
      · exfalso
        have : j = 93 := by omega
        subst this
        revert hk
        decide
    exact key c hc.2.1 hc.1 _
  have hlen4 : a_len 4 ((a_pi C 0 6 (nI nb)).2.2 4) = 8 := rfl
  refine ⟨a_cpr (a_pi C 0 6 (nI nb)) (c + 1) 0 4 0 nb, ?_, ⟨nl', nb, nf, nw, hz, dy, ?_⟩, fun c' j h => ?_, rfl⟩
  · have g0 : a_gi C c 0 = 6 := e0
    have g2 : a_gi C c 2 = nI nb := e2
    have g6 : a_gi (a_pi C 0 6 (nI nb)) 0 6 = nI nb := a_pi_at
    rw [f_X7_takeBack, g0, g2, if_neg (by decide), if_neg (by decide), if_neg (by decide), if_neg (by decide), if_neg (by decide), if_neg (by decide), if_pos (by decide)]
    rw [Option.bind_some, g6, a_cpyN (by omega) (by omega) (by omega), Option.bind_some]
  · have cn : ∀ c' j, c' ≠ 4 → ¬ (c' = 0 ∧ j = 6) → (a_cpr (a_pi C 0 6 (nI nb)) (c + 1) 0 4 0 nb).1 c' j = C.1 c' j := fun c' j h1 h2 => by rw [a_cpr_ne h1, a_pi_ne h2]
    obtain ⟨⟨b0, h1, h2, h3, h4, h5, h6⟩, hL, hB, hF, hW, hD⟩ := hV
    have nn : ∀ j, j < 386 → j ≠ 1 → No j = Nn j := fun j h h4 => (hnn j h h4).symm
    refine ⟨⟨by omega, ?_, ⟨?_, ho⟩, ?_, ?_, ?_, ?_⟩, ?_, ?_, ?_, ?_, ?_⟩
    · rw [cn _ _ (by omega) (by omega), nn 0 (by omega) (by omega)]; exact h1
    · rw [a_cpr_ne (by omega), a_pi_at]
    · rw [cn _ _ (by omega) (by omega), nn 2 (by omega) (by omega)]; exact h3
    · rw [cn _ _ (by omega) (by omega), nn 3 (by omega) (by omega)]; exact h4
    · rw [cn _ _ (by omega) (by omega), nn 4 (by omega) (by omega)]; exact h5
    · rw [cn _ _ (by omega) (by omega), nn 5 (by omega) (by omega)]; exact h6
    · intro l hl
      exact V_l_cong (fun j => cn _ _ (by omega) (by omega)) (fun j => cn _ _ (by omega) (by omega)) rfl (fun _ => rfl) (fun g hg => nn _ (by omega) (by omega)) (hL l hl)
    · intro b hb
      obtain ⟨l, fr, to, q1, q2, q3, q4, q5⟩ := hrow b hb
      refine ⟨l, fr, to, q1, q2, q3, q4, ?_⟩
      rw [a_cpr_in hb, a_pi_ne (by omega), e3 b (by omega)]
      exact q5
    · exact V_f_cong (fun j _ => cn _ _ (by omega) (by omega)) (fun j h => nn _ (by omega) (by omega)) hF
    · intro w hw
      exact V_w_cong (fun c' _ _ => cn _ _ (by omega) (by omega)) (fun g hg => nn _ (by omega) (by omega)) (hW w hw)
    · intro d hd
      exact V_d_cong (cn _ _ (by omega) (by omega)) (nn _ (by omega) (by omega)) (hD d hd)
  · have := vr_t h
    rw [a_cpr_ne (by omega), a_pi_ne (by omega)]
theorem pr_clear  {C : aSc} {M : aMm} (hR : Rel C M) : ∃ (v : Int32) (C' : aSc) (M' : aMm), f_X7_clear  C = some (v, C') ∧ f_X8_clear  M = some (v, M') ∧ Rel C' M' := by
  obtain ⟨nl, nb, nf, nw, hz, dy, hV⟩ := hR.1
  obtain ⟨⟨h0, ⟨h1, h1'⟩, ⟨h2, h2'⟩, _⟩, hL, hB, -⟩ := id hV
  obtain ⟨top, C1, M1, ht, r1, k1, q1, q2, q3, q4, fin⟩ := act_ok hR 6 0 (nI nb)
  have hM1 : M1 1 = M 1 := q3 1 (by omega) (by omega)
  have g6 : a_gi C 0 6 = nI nb := h2
  have hlen1 : a_len (94 + 1) 0 = 386 := rfl
  have hl63 : a_len (62 + 2 * top + 1) (C1.2.2 (62 + 2 * top + 1)) = 20 := by
    unfold a_len
    rw [if_neg (by omega), if_neg (by omega), if_neg (by omega), if_pos (by omega)]
  have hl4 : a_len 4 (C1.2.2 4) = 8 := rfl
  have cn : ∀ c j, c ≠ 63 + 2 * top → ¬ (c = 0 ∧ j = 6) → (a_pi (a_cpr C1 4 0 (62 + 2 * top + 1) 0 nb) 0 6 0).1 c j = C1.1 c j := fun c j g1 g2 => by rw [a_pi_ne g2, a_cpr_ne (by omega)]
  refine ⟨nI nb, a_pi (a_cpr C1 4 0 (62 + 2 * top + 1) 0 nb) 0 6 0, m_pi M1 1 1 0, ?_, ?_, fin _ _ ?_ rfl ?_ ?_ ?_⟩
  · rw [f_X7_clear, g6, bd2, r1, Option.bind_some]
    dsimp only
    rw [if_pos (step_ok top ht), a_cpyN (by omega) (by omega) (by omega)]
    rfl
  · rw [f_X8_clear, k1, Option.bind_some, show (1 : Int32) = nI 1 from rfl, m_ldN (by omega) (by omega), Option.bind_some, m_stN (by omega) (by omega), Option.bind_some, hM1, h2']
  · intro c j h hc
    exact cn c j hc (by have := vr_t h; omega)
  · intro m hm
    exact m_pi_row hm
  · refine ⟨nl, 0, nf, nw, hz, dy, ?_⟩
    have hV1 := V_clear (C := C1) (N := M 1) (N' := upd (M 1) 1 0) (act_V hV q1 q2) (fun _ _ => rfl)
    rw [m_pi_self, hM1]
    refine V_all_cong (C := a_pi C1 0 6 0) (N := upd (M 1) 1 0) (fun c j h => ?_) (fun _ _ _ _ => rfl) (fun _ _ => rfl) hV1
    by_cases h6 : c = 0 ∧ j = 6
    · obtain ⟨rfl, rfl⟩ := h6
      rw [a_pi_at, a_pi_at]
    · rw [cn c j (by rintro rfl; simp [vr] at h; omega) h6, a_pi_ne h6]
  · rw [m_pi_self, hM1]
    refine Bk_clear (nl := nl) (by omega) (by omega) h1' h2' _ (fun b hb => ?_) (fun _ _ => rfl) _
    obtain ⟨l, fr, to, a1, a2, a3, a4, a5⟩ := hB b hb
    refine ⟨l, fr, to, a1, a2, a3, a4, ?_⟩
    rw [a_pi_ne (by omega), show 63 + 2 * top = 62 + 2 * top + 1 by omega, a_cpr_in hb, q1 4 b (by omega) (by omega) (by omega)]
    exact a5

/-- a sheet that is to prove, day by day, on both sides -/
theorem first2 {C : aSc} {M : aMm} {nl dy s : Nat} (h : Ng (M 1) nl dy) (hC : Cg C (M 1) nl dy) (hs : s ≤ 3) (g1 : C.1 (54 + 2 * s) 1 = nI (20 - dy)) (g2 : M 5 s = nI (20 - dy)) (g3 : ∀ i, i < 30 → C.1 (55 + 2 * s) i = M 6 (30 * s + i)) : ∃ z z', lpf (fun a : Int32 × Int32 × Int32 => b_X7_firstWrong_7 (54 + 2 * s) a.1 a.2.1 a.2.2 C) FU ((0 : Int32), (0 : Int32), (0 : Int32)) = some z ∧ lpf (fun a : Int32 × Int32 × Int32 => b_X8_proves_66 (nI s) a.1 a.2.1 a.2.2 M) FU ((0 : Int32), (0 : Int32), (0 : Int32)) = some z' ∧ ((∃ L T, L < 2 ^ nl ∧ T ≤ 200 ∧ z = .inl (nI L, nI T) ∧ z' = .inl (nI L, nI T) ∧ S_le (M 1) (20 - dy) 0 ≤ T + S_re (M 1) L) ∨ ∃ v, z = .inr v ∧ z' = .inr (v, M)) := by
  have h10 := h.1.1
  have h19 := h.1.2
  have hp := p10 h10
  have hl5 : a_len (94 + 5) 0 = 4 := rfl
  have hl6 : a_len (94 + 6) 0 = 120 := rfl
  have hlS : a_len (55 + 2 * s) (C.2.2 (55 + 2 * s)) = 30 := lenS s _ hs
  have c1 : a_gi C (54 + 2 * s) 1 = nI (20 - dy) := g1
  have c4 : a_gi C 0 4 = nI dy := hC.2.1
  have m5 : m_ld M 5 (nI s) = some (nI (20 - dy)) := by rw [m_ldN (by omega) (by omega), g2]
  obtain ⟨z, z', e1, e2, q⟩ := lpf_ct2 (body := fun a : Int32 × Int32 × Int32 => b_X7_firstWrong_7 (54 + 2 * s) a.1 a.2.1 a.2.2 C) (body' := fun a : Int32 × Int32 × Int32 => b_X8_proves_66 (nI s) a.1 a.2.1 a.2.2 M) (fun i (t : Nat × Nat) => (nI t.1, nI t.2, nI i)) (fun i t => (nI t.1, nI t.2, nI i)) (fun i t => t.1 < 2 ^ nl ∧ t.2 ≤ 10 * i ∧ S_le (M 1) (20 - dy) 0 ≤ t.2 + S_le (M 1) (20 - dy - i) t.1) (20 - dy) (Q := fun z z' => (∃ L T, L < 2 ^ nl ∧ T ≤ 200 ∧ z = .inl (nI L, nI T) ∧ z' = .inl (nI L, nI T) ∧ S_le (M 1) (20 - dy) 0 ≤ T + S_re (M 1) L) ∨ ∃ v, z = .inr v ∧ z' = .inr (v, M)) (by
    rintro ⟨L, T⟩ ⟨x1, x2, x3⟩
    dsimp only at x1 x2 x3
    rw [Nat.sub_self] at x3
    refine ⟨.inl (nI L, nI T), .inl (nI L, nI T), ?_, ?_, Or.inl ⟨L, T, x1, by omega, rfl, rfl, x3⟩⟩
    · show b_X7_firstWrong_7 (54 + 2 * s) (nI L) (nI T) (nI (20 - dy)) C = _
      rw [b_X7_firstWrong_7, c1, if_pos (Int32.le_refl _)]
    · show b_X8_proves_66 (nI s) (nI L) (nI T) (nI (20 - dy)) M = _
      rw [b_X8_proves_66, m5, Option.bind_some, if_pos (Int32.le_refl _)]) (by
    rintro i ⟨L, T⟩ hi ⟨x1, x2, x3⟩
    dsimp only at x1 x2 x3
    have hd : dy + i < 20 := by omega
    have hk : 20 - dy - i = 19 - (dy + i) + 1 := by omega
    have hk' : 20 - dy - (i + 1) = 19 - (dy + i) := by omega
    have hk2 : 19 - (19 - (dy + i)) = dy + i := by omega
    rw [hk] at x3
    obtain ⟨s1, s2, -⟩ := S_le_s (M 1) (19 - (dy + i)) L
    rw [hk2, Ng_0 h] at s2
    have e30 : (30 : Int32) * nI s + nI i = nI (30 * s + i) := by rw [show (30 : Int32) = nI 30 from rfl, pk_mul, nI_add]
    obtain ⟨x, ex⟩ : ∃ x, x = M 6 (30 * s + i) := ⟨_, rfl⟩
    have p7 : b_X7_firstWrong_7 (54 + 2 * s) (nI L) (nI T) (nI i) C = if x = (-1 : Int32) then some (.inl (nI L, nI T, nI (i + 1))) else (f_X7_isLight x C).bind fun r4 => if (r4 : Int32) = 0 then g_X7_firstWrong_97 (54 + 2 * s) (nI L) (nI T) (nI i) x C else (a_rf 24 3 10 x).bind fun c12 => (f_X1_isRock c12 C).bind fun r16 => if (r16 : Int32) = 0 then g_X7_firstWrong_97 (54 + 2 * s) (nI L) (nI T) (nI i) x C else (a_rf 24 3 10 x).bind fun c17 => (a_ld C 13 (nI (dy + i))).bind fun u20 => (f_X1_landsIn c17 u20 C).bind fun r23 => if (r23 : Int32) = 0 then g_X7_firstWrong_97 (54 + 2 * s) (nI L) (nI T) (nI i) x C else g_X7_firstWrong_98 (54 + 2 * s) (nI L) (nI T) (nI i) x (1 : Int32) C := by
      rw [b_X7_firstWrong_7, c1, if_neg (fun z => by have := (nI_leI (by omega) (by omega)).mp z; omega), c4, nI_add dy i, if_neg (show ¬ (20 : Int32) ≤ nI (dy + i) from fun z => by have := (nI_leI (a := 20) (by omega) (by omega)).mp z; omega), show 54 + 2 * s + 1 = 55 + 2 * s by omega, a_ldN (by omega) (by omega), Option.bind_some, g3 i (by omega), ← ex, nI_1]
    have p97 : g_X7_firstWrong_97 (54 + 2 * s) (nI L) (nI T) (nI i) x C = some (.inr (.inr (nI i))) := by
      rw [g_X7_firstWrong_97, g_X7_firstWrong_98, if_pos rfl]
    have p8 : b_X8_proves_66 (nI s) (nI L) (nI T) (nI i) M = if x = (-1 : Int32) then some (.inl (nI L, nI T, nI (i + 1))) else (f_X8_isLandable x (nI (dy + i)) M).bind fun r18 => if (r18 : Int32) = 0 then some (.inr (.inr (nI i, M))) else if (((nI L >>> (x &&& 31)) &&& (1 : Int32)) : Int32) = (1 : Int32) then some (.inr (.inr (nI i, M))) else (f_X8_overdueOf x (nI (dy + i)) M).bind fun r20 => some (.inl ((nI L ||| ((1 : Int32) <<< (x &&& 31))), (nI T + r20), nI (i + 1))) := by
      rw [b_X8_proves_66, m5, Option.bind_some, if_neg (fun z => by have := (nI_leI (by omega) (by omega)).mp z; omega), e30, m_ldN (by omega) (by omega), Option.bind_some, ld5 h, Option.bind_some, ← ex, nI_add dy i, nI_1]
    by_cases hx : x = -1
    · refine Or.inl ⟨(L, T), p7.trans (if_pos hx), p8.trans (if_pos hx), x1, ?_, ?_⟩
      · show T ≤ 10 * (i + 1)
        omega
      · show S_le (M 1) (20 - dy) 0 ≤ T + S_le (M 1) (20 - dy - (i + 1)) L
        rw [hk']; omega
    rw [if_neg hx] at p7 p8
    rcases isLight_pair (C := C) (M := M) h10 hC.1 h.2.1 x with ⟨l, hl, rfl, i7, i8⟩ | ⟨i7, i8⟩
    rotate_left
    · refine Or.inr ⟨.inr (nI i), .inr (nI i, M), p7.trans ?_, p8.trans ?_, Or.inr ⟨nI i, rfl, rfl⟩⟩
      · rw [i7, Option.bind_some, if_pos rfl, p97]
      · rw [f_X8_isLandable, i8, Option.bind_some, if_pos rfl, Option.bind_some, if_pos rfl]
    obtain ⟨w1, w2⟩ := sea7 h hC hd
    have hla : S_la (M 1) l (dy + i) = (S_rk (M 1) l && decide (S_n (M 1) (366 + (dy + i)) ≤ S_n (M 1) (10 + 22 * l + 9))) := by
      unfold S_la
      rw [Ng_0 h, decide_eq_true hl]; rfl
    rw [i7, Option.bind_some, if_neg (by decide), a_rfN (by omega) (by omega), Option.bind_some, rock7 h hC hl, Option.bind_some, Option.bind_some, w1, Option.bind_some, lands7 h hC hl w2, Option.bind_some] at p7
    rw [land8 h hl hd, Option.bind_some, hla, bit8 (by omega) (by omega), over8 h hl (by omega), Option.bind_some, one_shl (by omega), fa_or, nI_add] at p8
    have no : (S_rk (M 1) l && decide (S_n (M 1) (366 + (dy + i)) ≤ S_n (M 1) (10 + 22 * l + 9))) = false → b_X7_firstWrong_7 (54 + 2 * s) (nI L) (nI T) (nI i) C = some (.inr (.inr (nI i))) → (∃ s' : Nat × Nat, b_X7_firstWrong_7 (54 + 2 * s) (nI L) (nI T) (nI i) C = some (.inl (nI s'.1, nI s'.2, nI (i + 1))) ∧ b_X8_proves_66 (nI s) (nI L) (nI T) (nI i) M = some (.inl (nI s'.1, nI s'.2, nI (i + 1))) ∧ s'.1 < 2 ^ nl ∧ s'.2 ≤ 10 * (i + 1) ∧ S_le (M 1) (20 - dy) 0 ≤ s'.2 + S_le (M 1) (20 - dy - (i + 1)) s'.1) ∨ (∃ b b', b_X7_firstWrong_7 (54 + 2 * s) (nI L) (nI T) (nI i) C = some (.inr b) ∧ b_X8_proves_66 (nI s) (nI L) (nI T) (nI i) M = some (.inr b') ∧ ((∃ L T, L < 2 ^ nl ∧ T ≤ 200 ∧ b = .inl (nI L, nI T) ∧ b' = .inl (nI L, nI T) ∧ S_le (M 1) (20 - dy) 0 ≤ T + S_re (M 1) L) ∨ ∃ v, b = .inr v ∧ b' = .inr (v, M))) := fun hf hb => by
      refine Or.inr ⟨.inr (nI i), .inr (nI i, M), hb, p8.trans ?_, Or.inr ⟨nI i, rfl, rfl⟩⟩
      rw [hf, if_pos (by decide)]
    by_cases hr : S_rk (M 1) l = true
    rotate_left
    · have hr' := Bool.eq_false_iff.mpr hr
      refine no (by rw [hr', Bool.false_and]) (p7.trans ?_)
      rw [hr', if_pos (by decide), p97]
    by_cases hw : S_n (M 1) (366 + (dy + i)) ≤ S_n (M 1) (10 + 22 * l + 9)
    rotate_left
    · refine no (by rw [decide_eq_false hw, Bool.and_false]) (p7.trans ?_)
      rw [hr, if_neg (by decide), if_neg hw, if_pos (by decide), p97]
    have hq : S_la (M 1) l (dy + i) = true := by rw [hla, hr, decide_eq_true hw]; rfl
    rw [hr, if_neg (by decide), if_pos hw, if_neg (by decide), g_X7_firstWrong_98, if_neg (by decide), bit8 (by omega) (by omega), a_rfN (by omega) (by omega), Option.bind_some, c4, nI_add dy i, over7 h hC hl (by omega), Option.bind_some, one_shl (by omega), fa_or, nI_add, nI_1] at p7
    rw [hr, decide_eq_true hw, if_neg (by decide)] at p8
    by_cases hb : L.testBit l = true
    · refine Or.inr ⟨.inr (nI i), .inr (nI i, M), p7.trans ?_, p8.trans ?_, Or.inr ⟨nI i, rfl, rfl⟩⟩
      · rw [hb, if_pos (by decide)]
      · rw [hb, if_pos (by decide)]
    · have hb' := Bool.eq_false_iff.mpr hb
      have g10 := S_ov_10 (M 1) (l := l) (d := dy + i) (by omega)
      have g11 := s2 l hl hb' hq
      refine Or.inl ⟨(L ||| 2 ^ l, T + S_ov (M 1) l (dy + i)), p7.trans ?_, p8.trans ?_, or_in x1 hl, ?_, ?_⟩
      · rw [hb', if_neg (by decide)]
      · rw [hb', if_neg (by decide)]
      · show T + S_ov (M 1) l (dy + i) ≤ 10 * (i + 1)
        omega
      · show S_le (M 1) (20 - dy) 0 ≤ T + S_ov (M 1) l (dy + i) + S_le (M 1) (20 - dy - (i + 1)) (L ||| 2 ^ l)
        rw [hk']; omega) FU 0 (0, 0) (by omega) ⟨Nat.two_pow_pos _, Nat.le_refl _, Nat.le_of_eq (by simp)⟩ (FU_lt (by omega))
  have e1' : lpf (fun a : Int32 × Int32 × Int32 => b_X7_firstWrong_7 (54 + 2 * s) a.1 a.2.1 a.2.2 C) FU ((0 : Int32), (0 : Int32), (0 : Int32)) = some z := e1
  have e2' : lpf (fun a : Int32 × Int32 × Int32 => b_X8_proves_66 (nI s) a.1 a.2.1 a.2.2 M) FU ((0 : Int32), (0 : Int32), (0 : Int32)) = some z' := e2
  exact ⟨z, z', e1', e2', q⟩
theorem pr_proves (a0 : Int32) {C : aSc} {M : aMm} (hR : Rel C M) : ∃ (v : Int32) (C' : aSc) (M' : aMm), f_X7_proves a0 C = some (v, C') ∧ f_X8_proves a0 M = some (v, M') ∧ Rel C' M' := by
  have hl4 : a_len (94 + 4) 0 = 4 := rfl
  have hl5 : a_len (94 + 5) 0 = 4 := rfl
  rcases sheet_pair (C := C) (M := M) a0 with ⟨s, hs, rfl, j1, j2⟩ | ⟨j1, j2⟩
  rotate_left
  · refine ⟨-100001, _, _, ?_, ?_, rel_refuse hR⟩
    · rw [f_X7_proves, j1, Option.bind_some, if_pos (by decide)]; rfl
    · rw [f_X8_proves, j2, Option.bind_some, if_pos (by decide)]; rfl
  obtain ⟨w, n, g1, g2, g3, g4, g5, g6, g7, g8⟩ := hR.2.2.1 s (by omega)
  have c0 : a_gi C (54 + 2 * s) 0 = nI w := g4
  have c1 : a_gi C (54 + 2 * s) 1 = nI n := g6
  have ml4 : m_ld M 4 (nI s) = some (nI w) := by rw [m_ldN (by omega) (by omega), g5]
  have ml5 : m_ld M 5 (nI s) = some (nI n) := by rw [m_ldN (by omega) (by omega), g7]
  by_cases h0 : w = 0
  · subst h0
    refine ⟨-100002, _, _, ?_, ?_, rel_refuse hR⟩
    · rw [f_X7_proves, j1, Option.bind_some, if_neg (by decide), a_rfN (by omega) (by omega), Option.bind_some, c0, if_pos (by decide)]; rfl
    · rw [f_X8_proves, j2, Option.bind_some, if_neg (by decide), ml4, Option.bind_some, if_pos (by decide)]; rfl
  have hne : ¬ nI w = 0 := nI_ne0 (by omega) (by omega)
  obtain ⟨nl, nb, nf, nw, hz, dy, hV⟩ := hR.1
  obtain ⟨hN, hC⟩ := Cg_of hV
  have h10 := hN.1.1
  have h19 := hN.1.2
  have c4 : a_gi C 0 4 = nI dy := hC.2.1
  have e20 : (20 : Int32) - nI dy = nI (20 - dy) := pk_sub (a := 20) (b := dy) (by omega)
  by_cases hn : n = 20 - dy
  rotate_left
  · refine ⟨-100003, _, _, ?_, ?_, rel_refuse hR⟩
    · rw [f_X7_proves, j1, Option.bind_some, if_neg (by decide), a_rfN (by omega) (by omega), Option.bind_some, c0, if_neg hne, c1, c4, e20, if_neg (fun z => hn ((nI_eq (by omega) (by omega)).mp z))]; rfl
    · rw [f_X8_proves, j2, Option.bind_some, if_neg (by decide), ml4, Option.bind_some, if_neg hne, ml5, Option.bind_some, ld5 hN, Option.bind_some, e20, if_neg (fun z => hn ((nI_eq (by omega) (by omega)).mp z))]; rfl
  subst hn
  obtain ⟨C', M', a1, a2, a3, -, a4, a5, a6, a7, a8⟩ := landL hR hV
  have e1 : M' 1 = M 1 := a5 1 (by omega)
  have hN' : Ng (M' 1) nl dy := by rw [e1]; exact hN
  have hC' : Cg C' (M' 1) nl dy := by rw [e1]; exact Cg_cong a4 hC
  have c1' : C'.1 (54 + 2 * s) 1 = nI (20 - dy) := (a4 _ _ (by omega) (by omega)).trans g6
  have m5' : M' 5 s = nI (20 - dy) := by rw [a5 5 (by omega)]; exact g7
  obtain ⟨z, z', b1, b2, q⟩ := first2 hN' hC' hs c1' m5' (fun i hi => by rw [a4 _ _ (by omega) (by omega), a5 6 (by omega)]; exact g8 i hi)
  have k7 : f_X7_proves (nI s) C = (f_X7_firstWrong (54 + 2 * s) C').bind fun r9 => some (r9, C') := by
    rw [f_X7_proves, j1, Option.bind_some, if_neg (by decide), a_rfN (by omega) (by omega), Option.bind_some, c0, if_neg hne, c1, c4, e20, if_pos rfl, a1, Option.bind_some]
  have k8 : f_X8_proves (nI s) M = Sum.elim (fun z25a => (f_X8_restOf z25a.1 M').bind fun r30 => (m_ld M' 1 (5 : Int32)).bind fun u31 => (m_ld M' 8 ((1024 : Int32) * u31)).bind fun u33 => if ((z25a.2 + r30) : Int32) = u33 then some ((-1 : Int32), M') else (m_ld M' 5 (nI s)).bind fun u35 => some (u35, M')) (fun z38 => some z38) z' := by
    rw [f_X8_proves, j2, Option.bind_some, if_neg (by decide), ml4, Option.bind_some, if_neg hne, ml5, Option.bind_some, ld5 hN, Option.bind_some, e20, if_pos rfl, a2, Option.bind_some, b2, Option.bind_some]
  rw [f_X7_firstWrong, b1, Option.bind_some] at k7
  rcases q with ⟨L, T, l1, l2, rfl, rfl, l3⟩ | ⟨v, rfl, rfl⟩
  · have hp := p10 h10
    have hb0 : S_n (M 1) 0 ≤ 10 := by rw [Ng_0 hN]; exact h10
    have w1 := S_re_bd hb0 L
    have w2 := S_le_bd hb0 (20 - dy) 0
    rw [e1] at l3
    have g14 : a_gi C' 14 0 = nI (S_le (M 1) (20 - dy) 0) := a7
    have gc : a_gi C' (54 + 2 * s) 1 = nI (20 - dy) := c1'
    have r7 := rest7 (T := T) hN' hC' (L := L) (by omega) (54 + 2 * s)
    have r8 := rest8 hN' (s := L) (by omega)
    rw [e1] at r7 r8
    have k7' : f_X7_proves (nI s) C = if nI (T + S_re (M 1) L) ≤ nI (S_le (M 1) (20 - dy) 0) then some (-1, C') else some (nI (20 - dy), C') := by
      refine k7.trans ?_
      show (g_X7_firstWrong_151 (54 + 2 * s) (nI L) (nI T) C').bind _ = _
      rw [g_X7_firstWrong_151, r7, Option.bind_some, g14, gc]
      by_cases hc : nI (T + S_re (M 1) L) ≤ nI (S_le (M 1) (20 - dy) 0)
      · rw [if_pos hc, if_pos hc]; rfl
      · rw [if_neg hc, if_neg hc]; rfl
    have k8' : f_X8_proves (nI s) M = if nI (T + S_re (M 1) L) = nI (S_le (M 1) (20 - dy) 0) then some (-1, M') else some (nI (20 - dy), M') := by
      refine k8.trans ?_
      show ((f_X8_restOf (nI L) M').bind fun r30 => (m_ld M' 1 (5 : Int32)).bind fun u31 => (m_ld M' 8 ((1024 : Int32) * u31)).bind fun u33 => if ((nI T + r30) : Int32) = u33 then some ((-1 : Int32), M') else (m_ld M' 5 (nI s)).bind fun u35 => some (u35, M')) = _
      rw [r8, Option.bind_some, ld5 hN', Option.bind_some, due8 hN e1 (a6 dy (by omega) (by omega)), Option.bind_some, nI_add, m_ldN (by omega) (by omega), Option.bind_some, m5']
    by_cases hc : T + S_re (M 1) L = S_le (M 1) (20 - dy) 0
    · exact ⟨-1, C', M', k7'.trans (if_pos ((nI_leI (by omega) (by omega)).mpr (by omega))), k8'.trans (if_pos (by rw [hc])), a3⟩
    · exact ⟨nI (20 - dy), C', M', k7'.trans (if_neg (fun z => by have := (nI_leI (by omega) (by omega)).mp z; omega)), k8'.trans (if_neg (fun z => hc ((nI_eq (by omega) (by omega)).mp z))), a3⟩
  · exact ⟨v, C', M', k7, k8, a3⟩

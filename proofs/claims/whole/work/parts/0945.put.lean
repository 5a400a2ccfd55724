theorem ext8 (x : Int32) {i : Nat} (hi : i < 32) : bt x.toInt8.toInt32 i = if i < 8 then bt x i else bt x 7 := by
  show ((x.toBitVec.signExtend 8).signExtend 32).getLsbD i = if i < 8 then x.toBitVec.getLsbD i else x.toBitVec.getLsbD 7
  rw [BitVec.getLsbD_signExtend, BitVec.msb_eq_getLsbD_last, BitVec.getLsbD_signExtend, BitVec.getLsbD_signExtend]
  by_cases h : i < 8
  · have h2 : i < 32 := by omega
    simp [h, h2]
  · simp [h, hi]
theorem ext16 (x : Int32) {i : Nat} (hi : i < 32) : bt x.toInt16.toInt32 i = if i < 16 then bt x i else bt x 15 := by
  show ((x.toBitVec.signExtend 16).signExtend 32).getLsbD i = if i < 16 then x.toBitVec.getLsbD i else x.toBitVec.getLsbD 15
  rw [BitVec.getLsbD_signExtend, BitVec.msb_eq_getLsbD_last, BitVec.getLsbD_signExtend, BitVec.getLsbD_signExtend]
  by_cases h : i < 16
  · have h2 : i < 32 := by omega
    simp [h, h2]
  · simp [h, hi]
theorem low8 (x : Int32) : (x <<< ((32 - nI 8) &&& 31)) >>> ((32 - nI 8) &&& 31) = x.toInt8.toInt32 := by
  rw [show (32 - nI 8 : Int32) = nI 24 from by decide]
  apply b_ext
  intro i hi
  rw [b_sshr 24 (by omega) _ hi, ext8 x hi]
  by_cases h : i < 8
  · rw [if_pos (by omega), if_pos h, b_shl 24 (by omega) x (by omega)]
    have : 24 + i - 24 = i := by omega
    simp [this]
  · rw [if_neg (by omega), if_neg h, b_shl 24 (by omega) x (by omega)]
    simp
theorem low16 (x : Int32) : (x <<< ((32 - nI 16) &&& 31)) >>> ((32 - nI 16) &&& 31) = x.toInt16.toInt32 := by
  rw [show (32 - nI 16 : Int32) = nI 16 from by decide]
  apply b_ext
  intro i hi
  rw [b_sshr 16 (by omega) _ hi, ext16 x hi]
  by_cases h : i < 16
  · rw [if_pos (by omega), if_pos h, b_shl 16 (by omega) x (by omega)]
    have : 16 + i - 16 = i := by omega
    simp [this]
  · rw [if_neg (by omega), if_neg h, b_shl 16 (by omega) x (by omega)]
    simp
theorem low_ok {C : aSc} {s w : Nat} (hw : w = 8 ∨ w = 16 ∨ w = 32) (h : C.1 (54 + 2 * s) 0 = nI w) (x : Int32) : f_X3_lowest (54 + 2 * s) x C = some ((x <<< ((32 - nI w) &&& 31)) >>> ((32 - nI w) &&& 31)) := by
  have g : a_gi C (54 + 2 * s) 0 = nI w := h
  rcases hw with rfl | rfl | rfl
  · have e : (x <<< ((32 - nI 8) &&& 31)) >>> ((32 - nI 8) &&& 31) = x.toInt8.toInt32 := low8 x
    rw [f_X3_lowest, g, if_pos (by decide), e]
  · have e : (x <<< ((32 - nI 16) &&& 31)) >>> ((32 - nI 16) &&& 31) = x.toInt16.toInt32 := low16 x
    rw [f_X3_lowest, g, if_neg (by decide), if_pos (by decide), e]
  · have e : (x <<< ((32 - nI 32) &&& 31)) >>> ((32 - nI 32) &&& 31) = x := by
      show (x <<< ((0 : Int32) &&& 31)) >>> ((0 : Int32) &&& 31) = x
      rw [sb_shl0, sb_shr0]
    rw [f_X3_lowest, g, if_neg (by decide), if_neg (by decide), e]
theorem pr_put (a0 : Int32) (a1 : Int32) (a2 : Int32) {C : aSc} {M : aMm} (hR : Rel C M) : ∃ (v : Int32) (C' : aSc) (M' : aMm), f_X7_put a0 a1 a2 C = some (v, C') ∧ f_X8_put a0 a1 a2 M = some (v, M') ∧ Rel C' M' := by
  have hl4 : a_len (94 + 4) 0 = 4 := rfl
  have hl5 : a_len (94 + 5) 0 = 4 := rfl
  have hl6 : a_len (94 + 6) 0 = 120 := rfl
  rcases sheet_pair (C := C) (M := M) a0 with ⟨s, hs, rfl, j1, j2⟩ | ⟨j1, j2⟩
  · obtain ⟨w, n, g1, g2, g3, g4, g5, g6, g7, g8⟩ := hR.2.2.1 s (by omega)
    have c0 : a_gi C (54 + 2 * s) 0 = nI w := g4
    have c1 : a_gi C (54 + 2 * s) 1 = nI n := g6
    have ml4 : m_ld M 4 (nI s) = some (nI w) := by rw [m_ldN (by omega) (by omega), g5]
    have ml5 : m_ld M 5 (nI s) = some (nI n) := by rw [m_ldN (by omega) (by omega), g7]
    by_cases h0 : w = 0
    · subst h0
      refine ⟨-100002, _, _, ?_, ?_, rel_refuse hR⟩
      · rw [f_X7_put, j1, Option.bind_some, if_neg (by decide), a_rfN (by omega) (by omega), Option.bind_some, c0, if_pos (by decide)]; rfl
      · rw [f_X8_put, j2, Option.bind_some, if_neg (by decide), ml4, Option.bind_some, if_pos (by decide)]; rfl
    · have hw : w = 8 ∨ w = 16 ∨ w = 32 := by omega
      have hne : ¬ nI w = 0 := nI_ne0 (by omega) (by omega)
      have hsub : (nI n - 1).toInt = (n : Int) - 1 := pk_sub_toInt (a := n) (b := 1) (by omega) (by omega)
      rcases nI_cases a1 1000 (by decide) with ⟨i, hi, rfl⟩ | hneg | hbig
      · rcases Nat.lt_or_ge i n with hlt | hge
        · have e1 : nI n - 1 = nI (n - 1) := pk_sub (a := n) (b := 1) (by omega)
          have e30 : (30 : Int32) * nI s + nI i = nI (30 * s + i) := by rw [show (30 : Int32) = nI 30 from rfl, pk_mul, nI_add]
          refine ⟨0, a_pi C (55 + 2 * s) i ((a2 <<< ((32 - nI w) &&& 31)) >>> ((32 - nI w) &&& 31)), m_pi M 6 (30 * s + i) ((a2 <<< ((32 - nI w) &&& 31)) >>> ((32 - nI w) &&& 31)), ?_, ?_, ?_⟩
          · rw [f_X7_put, j1, Option.bind_some, if_neg (by decide), a_rfN (by omega) (by omega), Option.bind_some, c0, if_neg hne, if_neg (nI_pos (by omega)), c1, if_pos ((nI_ltI (by omega) (by omega)).mpr hlt), low_ok hw g4, Option.bind_some, show 54 + 2 * s + 1 = 55 + 2 * s by omega, a_stN (by rw [lenS s _ hs]; omega) (by omega), Option.bind_some]
          · rw [f_X8_put, j2, Option.bind_some, if_neg (by decide), ml4, Option.bind_some, if_neg hne, ml5, Option.bind_some, e1]
            have hin := within_in (M := M) (lo := 0) (k := i) (hi := n - 1) (by omega) (by omega) (by omega)
            rw [show (nI 0) = (0 : Int32) from rfl] at hin
            rw [hin, Option.bind_some, if_neg (by decide), Option.bind_some, e30, m_stN (by omega) (by omega), Option.bind_some]
          · refine rel_sh hR (fun c j h => a_pi_ne (by omega)) rfl (fun m h => m_pi_row (by omega)) (fun t ht => ?_)
            obtain ⟨w', n', k1, k2, k3, k4, k5, k6, k7, k8⟩ := hR.2.2.1 t ht
            refine ⟨w', n', k1, k2, k3, ?_, ?_, ?_, ?_, ?_⟩
            · rw [a_pi_ne (by omega)]; exact k4
            · rw [m_pi_ne (by omega)]; exact k5
            · rw [a_pi_ne (by omega)]; exact k6
            · rw [m_pi_ne (by omega)]; exact k7
            · intro q hq
              by_cases e : t = s ∧ q = i
              · obtain ⟨rfl, rfl⟩ := e
                rw [a_pi_at, m_pi_at]
              · rw [a_pi_ne (by omega), m_pi_ne (by omega)]
                exact k8 q hq
        · refine ⟨-100001, _, _, ?_, ?_, rel_refuse hR⟩
          · rw [f_X7_put, j1, Option.bind_some, if_neg (by decide), a_rfN (by omega) (by omega), Option.bind_some, c0, if_neg hne, if_neg (nI_pos (by omega)), c1, if_neg (fun z => by have := (nI_ltI (by omega) (by omega)).mp z; omega)]; rfl
          · rw [f_X8_put, j2, Option.bind_some, if_neg (by decide), ml4, Option.bind_some, if_neg hne, ml5, Option.bind_some, within_out (Or.inr (Int32.lt_iff_toInt_lt.mpr (by rw [hsub, nI_toInt (by omega)]; omega))), Option.bind_some, if_pos (by decide)]; rfl
      · refine ⟨-100001, _, _, ?_, ?_, rel_refuse hR⟩
        · rw [f_X7_put, j1, Option.bind_some, if_neg (by decide), a_rfN (by omega) (by omega), Option.bind_some, c0, if_neg hne, if_pos hneg]; rfl
        · rw [f_X8_put, j2, Option.bind_some, if_neg (by decide), ml4, Option.bind_some, if_neg hne, ml5, Option.bind_some, within_out (Or.inl hneg), Option.bind_some, if_pos (by decide)]; rfl
      · obtain ⟨b1, b2, b3⟩ := nI_big (by decide) hbig
        have h3 := Int32.lt_iff_toInt_lt.mp hbig
        rw [nI_toInt (by decide)] at h3
        refine ⟨-100001, _, _, ?_, ?_, rel_refuse hR⟩
        · rw [f_X7_put, j1, Option.bind_some, if_neg (by decide), a_rfN (by omega) (by omega), Option.bind_some, c0, if_neg hne, if_neg b1, c1, if_neg (fun z => by
            have := Int32.lt_iff_toInt_lt.mp z
            rw [nI_toInt (by omega)] at this
            omega)]; rfl
        · rw [f_X8_put, j2, Option.bind_some, if_neg (by decide), ml4, Option.bind_some, if_neg hne, ml5, Option.bind_some, within_out (Or.inr (Int32.lt_iff_toInt_lt.mpr (by rw [hsub]; omega))), Option.bind_some, if_pos (by decide)]; rfl
  · refine ⟨-100001, _, _, ?_, ?_, rel_refuse hR⟩
    · rw [f_X7_put, j1, Option.bind_some, if_pos (by decide)]; rfl
    · rw [f_X8_put, j2, Option.bind_some, if_pos (by decide)]; rfl

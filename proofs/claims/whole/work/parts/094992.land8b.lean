/-- counting down from day 19 -/
def dn (i : Nat) : Int32 := if i < 20 then nI (19 - i) else -1
theorem dn_in {i : Nat} (h : i < 20) : dn i = nI (19 - i) := if_pos h
theorem dn_s : ∀ i, i < 20 → nI (19 - i) + (-1 : Int32) = dn (i + 1) := by decide +kernel
theorem dn_e : ∀ y, y < 20 → dn (20 - y) < nI y := by decide +kernel
theorem dn_n {i y : Nat} (hy : y < 20) (h : i < 20 - y) : ¬ nI (19 - i) < nI y := fun z => by
  have := (nI_ltI (by omega) (by omega)).mp z
  omega
theorem ld_11 {M : aMm} {nl dy : Nat} (h : Ng (M 1) nl dy) : ∃ M', lpf (fun a : Int32 × aMm => b_X8_findLandings_11 (nI (2 ^ nl)) a.1 a.2) FU ((0 : Int32), M) = some M' ∧ (∀ m, m ≠ 8 → M' m = M m) ∧ Tb M' (M 1) nl 20 := by
  have h10 := h.1.1
  have hp := p10 h10
  have hlen : a_len (94 + 8) 0 = 21504 := rfl
  obtain ⟨z, e1, q1, q2⟩ := lpf_ct (body := fun a : Int32 × aMm => b_X8_findLandings_11 (nI (2 ^ nl)) a.1 a.2) (fun i x => (nI i, x)) (fun i x => (∀ m, m ≠ 8 → x m = M m) ∧ ∀ s, s < i → x 8 (20480 + s) = nI (S_re (M 1) s)) (2 ^ nl) (Q := fun x => (∀ m, m ≠ 8 → x m = M m) ∧ ∀ s, s < 2 ^ nl → x 8 (20480 + s) = nI (S_re (M 1) s)) (by
    intro x hx
    refine ⟨x, ?_, hx⟩
    show b_X8_findLandings_11 (nI (2 ^ nl)) (nI (2 ^ nl)) x = _
    rw [b_X8_findLandings_11, if_pos (Int32.le_refl _)]) (by
    rintro i x hi ⟨x1, x2⟩
    have hx : Ng (x 1) nl dy := by rw [x1 1 (by omega)]; exact h
    have ea : (20480 : Int32) + nI i = nI (20480 + i) := nI_add 20480 i
    refine Or.inl ⟨m_pi x 8 (20480 + i) (nI (S_re (M 1) i)), ?_, fun m hm => ?_, fun s hs => ?_⟩
    · show b_X8_findLandings_11 (nI (2 ^ nl)) (nI i) x = _
      rw [b_X8_findLandings_11, if_neg (fun z => by have := (nI_leI (by omega) (by omega)).mp z; omega), rest8 hx (by omega), Option.bind_some, ea, m_stN (by omega) (by omega), Option.bind_some, nI_1, x1 1 (by omega)]
    · rw [m_pi_row hm]; exact x1 m hm
    · by_cases e : s = i
      · subst e; rw [m_pi_at]
      · rw [m_pi_ne (by omega)]; exact x2 s (by omega)) FU 0 M (by omega) ⟨fun _ _ => rfl, fun s hs => absurd hs (by omega)⟩ (FU_lt (by omega))
  exact ⟨z, e1, q1, fun s hs => q2 s hs⟩
theorem ld_52 {M : aMm} {nl dy d : Nat} (h : Ng (M 1) nl dy) (hd : d < 20) (hT : Tb M (M 1) nl (d + 1)) : ∃ M', lpf (fun a : Int32 × aMm => b_X8_findLandings_52 (nI (2 ^ nl)) (nI d) a.1 a.2) FU ((0 : Int32), M) = some M' ∧ (∀ m, m ≠ 8 → M' m = M m) ∧ (∀ j, ¬ (1024 * d ≤ j ∧ j < 1024 * d + 1024) → M' 8 j = M 8 j) ∧ Tb M' (M 1) nl d := by
  have h10 := h.1.1
  have hp := p10 h10
  have hlen : a_len (94 + 8) 0 = 21504 := rfl
  obtain ⟨z, e1, q1, q2, q3⟩ := lpf_ct (body := fun a : Int32 × aMm => b_X8_findLandings_52 (nI (2 ^ nl)) (nI d) a.1 a.2) (fun i x => (nI i, x)) (fun i x => (∀ m, m ≠ 8 → x m = M m) ∧ (∀ j, ¬ (1024 * d ≤ j ∧ j < 1024 * d + 1024) → x 8 j = M 8 j) ∧ ∀ s, s < i → x 8 (1024 * d + s) = nI (S_le (M 1) (20 - d) s)) (2 ^ nl) (Q := fun x => (∀ m, m ≠ 8 → x m = M m) ∧ (∀ j, ¬ (1024 * d ≤ j ∧ j < 1024 * d + 1024) → x 8 j = M 8 j) ∧ ∀ s, s < 2 ^ nl → x 8 (1024 * d + s) = nI (S_le (M 1) (20 - d) s)) (by
    intro x hx
    refine ⟨x, ?_, hx⟩
    show b_X8_findLandings_52 (nI (2 ^ nl)) (nI d) (nI (2 ^ nl)) x = _
    rw [b_X8_findLandings_52, if_pos (Int32.le_refl _)]) (by
    rintro i x hi ⟨x1, x2, x3⟩
    have e1 : x 1 = M 1 := x1 1 (by omega)
    have hx : Ng (x 1) nl dy := by rw [e1]; exact h
    have hTx : Tb x (x 1) nl (d + 1) := fun s hs => by rw [e1, x2 _ (by omega)]; exact hT s hs
    refine Or.inl ⟨m_pi x 8 (1024 * d + i) (nI (S_le (M 1) (20 - d) i)), ?_, fun m hm => ?_, fun j hj => ?_, fun s hs => ?_⟩
    · show b_X8_findLandings_52 (nI (2 ^ nl)) (nI d) (nI i) x = _
      have hin := in8 hx hd hi hTx (nI (2 ^ nl))
      rw [b_X8_findLandings_52, if_neg (fun z => by have := (nI_leI (by omega) (by omega)).mp z; omega), nI_1, mul1024, ld8 h10 (by omega) hi hTx, Option.bind_some, show 20 - (d + 1) = 19 - d from by omega, hin, Option.bind_some, mul1024, m_stN (by omega) (by omega), Option.bind_some, nI_1, e1]
    · rw [m_pi_row hm]; exact x1 m hm
    · rw [m_pi_ne (by omega)]; exact x2 j hj
    · by_cases e : s = i
      · subst e; rw [m_pi_at]
      · rw [m_pi_ne (by omega)]; exact x3 s (by omega)) FU 0 M (by omega) ⟨fun _ _ => rfl, fun _ _ => rfl, fun s hs => absurd hs (by omega)⟩ (FU_lt (by omega))
  exact ⟨z, e1, q1, q2, q3⟩
theorem ld_40 {M : aMm} {nl dy : Nat} (h : Ng (M 1) nl dy) (hT : Tb M (M 1) nl 20) : ∃ M', lpf (fun a : Int32 × aMm => b_X8_findLandings_40 (nI (2 ^ nl)) a.1 a.2) FU ((19 : Int32), M) = some M' ∧ (∀ m, m ≠ 8 → M' m = M m) ∧ ∀ d, dy ≤ d → d ≤ 20 → Tb M' (M 1) nl d := by
  have h10 := h.1.1
  have h19 := h.1.2
  have hp := p10 h10
  obtain ⟨z, e1, q1, q2⟩ := lpf_ct (body := fun a : Int32 × aMm => b_X8_findLandings_40 (nI (2 ^ nl)) a.1 a.2) (fun i x => (dn i, x)) (fun i x => (∀ m, m ≠ 8 → x m = M m) ∧ ∀ d, 20 - i ≤ d → d ≤ 20 → Tb x (M 1) nl d) (20 - dy) (Q := fun x => (∀ m, m ≠ 8 → x m = M m) ∧ ∀ d, dy ≤ d → d ≤ 20 → Tb x (M 1) nl d) (by
    rintro x ⟨x1, x2⟩
    have hx : Ng (x 1) nl dy := by rw [x1 1 (by omega)]; exact h
    refine ⟨x, ?_, x1, fun d a b => x2 d (by omega) b⟩
    show b_X8_findLandings_40 (nI (2 ^ nl)) (dn (20 - dy)) x = _
    rw [b_X8_findLandings_40, ld5 hx, Option.bind_some, if_pos (dn_e dy (by omega))]) (by
    rintro i x hi ⟨x1, x2⟩
    have e1 : x 1 = M 1 := x1 1 (by omega)
    have hx : Ng (x 1) nl dy := by rw [e1]; exact h
    obtain ⟨M', a1, a2, a3, a4⟩ := ld_52 (M := x) (d := 19 - i) hx (by omega) (by rw [e1]; exact x2 _ (by omega) (by omega))
    refine Or.inl ⟨M', ?_, fun m hm => (a2 m hm).trans (x1 m hm), fun d b1 b2 => ?_⟩
    · show b_X8_findLandings_40 (nI (2 ^ nl)) (dn i) x = _
      rw [b_X8_findLandings_40, ld5 hx, Option.bind_some, dn_in (by omega), if_neg (dn_n (by omega) hi), a1, Option.bind_some, dn_s i (by omega)]
    · by_cases e : d = 19 - i
      · subst e
        rw [e1] at a4
        exact a4
      · intro s hs
        rw [a3 _ (by omega)]
        exact x2 d (by omega) b2 s hs) FU 0 M (by omega) ⟨fun _ _ => rfl, fun d a b => by
          have : d = 20 := by omega
          subst this; exact hT⟩ (FU_lt (by omega))
  exact ⟨z, e1, q1, q2⟩
theorem find8 {M : aMm} {nl dy : Nat} (h : Ng (M 1) nl dy) : ∃ M', f_X8_findLandings M = some M' ∧ (∀ m, m ≠ 8 → M' m = M m) ∧ ∀ d, dy ≤ d → d ≤ 20 → Tb M' (M 1) nl d := by
  have h10 := h.1.1
  obtain ⟨M1, a1, a2, a3⟩ := ld_11 h
  have e1 : M1 1 = M 1 := a2 1 (by omega)
  have h1 : Ng (M1 1) nl dy := by rw [e1]; exact h
  obtain ⟨M2, b1, b2, b3⟩ := ld_40 h1 (by rw [e1]; exact a3)
  refine ⟨M2, ?_, fun m hm => (b2 m hm).trans (a2 m hm), fun d x y => by rw [← e1]; exact b3 d x y⟩
  rw [f_X8_findLandings, ld0 h, Option.bind_some, one_shl (by omega), a1, Option.bind_some, b1, Option.bind_some]
def iv (k : Nat) : Int32 := if k = 10 then -1 else nI k
theorem first8 {M : aMm} {nl dy d s : Nat} (h : Ng (M 1) nl dy) (hd : d < 20) (hs : s < 2 ^ nl) (hT : Tb M (M 1) nl d) (hT1 : Tb M (M 1) nl (d + 1)) : f_X8_firstOn (nI d) (nI s) M = some (iv (S_ch (M 1) (19 - d) s)) := by
  have h10 := h.1.1
  have hp := p10 h10
  have hb0 : S_n (M 1) 0 ≤ 10 := by rw [Ng_0 h]; exact h10
  have g1 := S_le_bd hb0 (19 - d) s
  have g2 := S_le_bd hb0 (20 - d) s
  have e20 : 19 - d + 1 = 20 - d := by omega
  have e19 : 19 - (19 - d) = d := by omega
  rw [f_X8_firstOn, mul1024, ld8 h10 (by omega) hs hT, Option.bind_some, nI_1, mul1024, ld8 h10 (by omega) hs hT1, Option.bind_some, show 20 - (d + 1) = 19 - d from by omega]
  rcases S_ch_or (M 1) (19 - d) s with ⟨e, c⟩ | ⟨e, l, hl, c, c1, c2, c3, c4⟩
  · rw [e20] at e
    rw [e, if_pos rfl, c]; rfl
  · rw [e20] at e c3 c4
    rw [e19] at c2 c3 c4
    rw [Ng_0 h] at hl
    rw [if_neg (fun z => e ((nI_eq (by omega) (by omega)).mp z)), c]
    obtain ⟨z, z1, z2⟩ := lpf_ct (body := fun a : Int32 => b_X8_firstOn_36 (nI d) (nI s) (nI (S_le (M 1) (20 - d) s)) a M) (fun i (_ : Unit) => nI i) (fun _ _ => True) l (Q := fun x => x = nI l) (by
      intro _ _
      refine ⟨nI l, ?_, rfl⟩
      show b_X8_firstOn_36 (nI d) (nI s) (nI (S_le (M 1) (20 - d) s)) (nI l) M = _
      rw [b_X8_firstOn_36, bit8 (by omega) (by omega), c1, if_neg (by decide), land8 h hl hd, c2, Option.bind_some, if_neg (by decide), by8 h hl hd hs hT1, Option.bind_some, c3, if_pos rfl]) (by
      intro i _ hi _
      refine Or.inl ⟨(), ?_, trivial⟩
      show b_X8_firstOn_36 (nI d) (nI s) (nI (S_le (M 1) (20 - d) s)) (nI i) M = some (.inl (nI (i + 1)))
      have hil : i < nl := by omega
      have g3 := S_le_bd hb0 (19 - d) (s ||| 2 ^ i)
      have g4 := S_ov_10 (M 1) (l := i) (d := d) (by omega)
      rw [b_X8_firstOn_36, bit8 (by omega) (by omega), land8 h hil hd, by8 h hil hd hs hT1, nI_1]
      by_cases hb : s.testBit i = true
      · rw [hb, if_pos (by decide)]
      · rw [Bool.eq_false_iff.mpr hb, if_neg (by decide), Option.bind_some]
        by_cases hq : S_la (M 1) i d = true
        · rw [hq, if_neg (by decide), Option.bind_some, if_neg (fun z => c4 i hi ⟨Bool.eq_false_iff.mpr hb, hq, (nI_eq (by omega) (by omega)).mp z⟩)]
        · rw [Bool.eq_false_iff.mpr hq, if_pos (by decide)]) FU 0 () (by omega) trivial (FU_lt (by omega))
    rw [show (nI 0) = (0 : Int32) from rfl] at z1
    rw [z1, Option.bind_some, z2, iv, if_neg (by omega)]
theorem S_pl_or (N : Nat → Int32) (dy d : Nat) : S_pl N dy d = 10 ∨ S_pl N dy d < S_n N 0 := by
  unfold S_pl
  rcases S_ch_or N (19 - d) (S_st N dy (d - dy)) with ⟨_, c⟩ | ⟨_, l, hl, c, _⟩
  · exact Or.inl c
  · exact Or.inr (by omega)
theorem iv_neg {k : Nat} (h : k = 10) : ¬ 0 ≤ iv k := by subst h; decide
theorem iv_pos {k n : Nat} (h : k < n) (hn : n ≤ 10) : iv k = nI k ∧ 0 ≤ iv k := by
  have e : iv k = nI k := if_neg (by omega)
  exact ⟨e, by rw [e]; exact nI_pos' (by omega)⟩
theorem ld_33 {M : aMm} {nl dy day : Nat} (h : Ng (M 1) nl dy) (hday : day < 20) (hge : dy ≤ day) (hT : ∀ d, dy ≤ d → d ≤ 20 → Tb M (M 1) nl d) : lpf (fun a : Int32 × Int32 × Int32 => b_X8_landing_33 (nI day) a.1 a.2.1 a.2.2 M) FU ((0 : Int32), (-1 : Int32), nI dy) = some (iv (S_pl (M 1) dy day)) := by
  have h10 := h.1.1
  have hp := p10 h10
  have hb0 : S_n (M 1) 0 ≤ 10 := by rw [Ng_0 h]; exact h10
  obtain ⟨z, e1, q1⟩ := lpf_ct (body := fun a : Int32 × Int32 × Int32 => b_X8_landing_33 (nI day) a.1 a.2.1 a.2.2 M) (fun i (x : Int32) => (nI (S_st (M 1) dy (i - dy)), x, nI i)) (fun i x => dy ≤ i ∧ (dy < i → x = iv (S_pl (M 1) dy (i - 1)))) (day + 1) (Q := fun x => x = iv (S_pl (M 1) dy day)) (by
    rintro x ⟨x1, x2⟩
    refine ⟨x, ?_, x2 (by omega)⟩
    show b_X8_landing_33 (nI day) _ x (nI (day + 1)) M = _
    rw [b_X8_landing_33, if_pos ((nI_ltI (by omega) (by omega)).mpr (by omega))]) (by
    rintro i x hi ⟨x1, x2⟩
    have hst := S_st_lt (M 1) hb0 dy (i - dy)
    rw [Ng_0 h] at hst
    refine Or.inl ⟨iv (S_pl (M 1) dy i), ?_, by omega, fun _ => rfl⟩
    show b_X8_landing_33 (nI day) (nI (S_st (M 1) dy (i - dy))) x (nI i) M = some (.inl (nI (S_st (M 1) dy (i + 1 - dy)), iv (S_pl (M 1) dy i), nI (i + 1)))
    have es : S_st (M 1) dy (i + 1 - dy) = if S_pl (M 1) dy i = 10 then S_st (M 1) dy (i - dy) else S_st (M 1) dy (i - dy) ||| 2 ^ S_pl (M 1) dy i := by
      rw [show i + 1 - dy = (i - dy) + 1 from by omega]
      show (if S_ch (M 1) (19 - (dy + (i - dy))) (S_st (M 1) dy (i - dy)) = 10 then _ else _) = _
      rw [show dy + (i - dy) = i from by omega]; rfl
    rw [b_X8_landing_33, if_neg (fun z => by have := (nI_ltI (by omega) (by omega)).mp z; omega), first8 h (by omega) hst (hT i x1 (by omega)) (hT (i + 1) (by omega) (by omega)), Option.bind_some, nI_1, es]
    show (if 0 ≤ iv (S_pl (M 1) dy i) then _ else _) = _
    rcases S_pl_or (M 1) dy i with c | c
    · rw [if_neg (iv_neg c), if_pos c, show (0 : Int32) = nI 0 from rfl, fa_or, Nat.or_zero]; rfl
    · rw [Ng_0 h] at c
      obtain ⟨c1, c2⟩ := iv_pos c h10
      rw [if_pos c2, if_neg (by omega)]
      show some (Sum.inl (nI (S_st (M 1) dy (i - dy)) ||| ((1 : Int32) <<< (iv (S_pl (M 1) dy i) &&& 31)), iv (S_pl (M 1) dy i), nI (i + 1))) = _
      rw [c1, one_shl (by omega), fa_or]) FU dy (-1) (by omega) ⟨by omega, fun z => absurd z (by omega)⟩ (FU_lt (by omega))
  rw [Nat.sub_self] at e1
  rw [← q1]
  exact e1
theorem ld_33n {M : aMm} {dy day : Nat} (hd : dy < 20) (hday : day < dy) : lpf (fun a : Int32 × Int32 × Int32 => b_X8_landing_33 (nI day) a.1 a.2.1 a.2.2 M) FU ((0 : Int32), (-1 : Int32), nI dy) = some (-1) := by
  show (b_X8_landing_33 (nI day) 0 (-1) (nI dy) M).bind _ = _
  rw [b_X8_landing_33, if_pos ((nI_ltI (by omega) (by omega)).mpr hday)]
  rfl

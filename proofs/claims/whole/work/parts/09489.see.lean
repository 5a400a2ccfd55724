theorem from16 {d fr : Nat} (hd : d < 16) (hf : fr < 16) : (nI d - nI fr + 16) - (nI d - nI fr + 16) / 16 * 16 = nI ((d + 16 - fr) % 16) := by
  have e : ∀ d, d < 16 → ∀ fr, fr < 16 → nI d - nI fr + 16 = nI (d + 16 - fr) := by decide +kernel
  rw [e d hd fr hf]
  exact pk_rem (d := 16) (by omega) (by omega) (by omega)
theorem isFrom_ok {M : aMm} {d fr to : Nat} (hd : d < 16) (hf : fr < 16) (ht : to < 16) : f_X8_isFrom (nI d) (nI fr) (nI to) M = some (if (d + 16 - fr) % 16 ≤ (to + 16 - fr) % 16 then 1 else 0) := by
  rw [f_X8_isFrom, from16 hd hf, from16 ht hf]
  by_cases h : (d + 16 - fr) % 16 ≤ (to + 16 - fr) % 16
  · rw [if_pos h, if_neg (fun z => by have := (nI_ltI (by omega) (by omega)).mp z; omega)]
  · rw [if_neg h, if_pos ((nI_ltI (by omega) (by omega)).mpr (by omega))]
theorem Vk_bit {v : Int32} {fr to k d : Nat} (hk : k < 16) (hd : d < 16) (h : V_k v fr to k) : (v >>> (nI d &&& 31)) &&& 1 = nI (if (d + 16 - fr) % 16 ≤ (to + 16 - fr) % 16 then 1 else 0) ∧ v >>> ((16 : Int32) &&& 31) = nI k := by
  obtain ⟨h1, h2, mk, m1, m2, m3⟩ := h
  have hlt : k * 65536 + mk < 2 ^ 31 := by omega
  refine ⟨?_, ?_⟩
  · rw [m2, bit8 hlt (by omega)]
    have e : (k * 65536 + mk).testBit d = mk.testBit d := by
      have := Nat.testBit_two_pow_mul_add k (i := 16) (b := mk) (by omega) d
      rw [show k * 65536 + mk = 2 ^ 16 * k + mk by omega, this, if_pos hd]
    rw [e, m3 d hd]
    by_cases hc : (d + 16 - fr) % 16 ≤ (to + 16 - fr) % 16
    · simp [hc]
    · simp [hc]
  · rw [m2, pk_shrN hlt _ 16 (by decide)]
    congr 1
    omega
def S_col (N : Nat → Int32) (l d : Nat) (v0 : Int32) : Nat → Int32
  | 0 => v0
  | n + 1 => if (d + 16 - S_n N (10 + 22 * l + (10 + 3 * n))) % 16 ≤ (S_n N (10 + 22 * l + (11 + 3 * n)) + 16 - S_n N (10 + 22 * l + (10 + 3 * n))) % 16 then N (10 + 22 * l + (12 + 3 * n)) else S_col N l d v0 n
theorem tow7 {C : aSc} {N : Nat → Int32} {l d : Nat} (hl : l < 10) (hd : d < 16) {kd co ns : Nat} (hk : kd ≤ 3) (c0 : C.1 (24 + 3 * l) 0 = nI kd) (c3 : C.1 (24 + 3 * l) 3 = nI co) (hns : ns ≤ 4) (c8 : C.1 (24 + 3 * l) 8 = nI ns) (hs : ∀ s, s < ns → ∃ fr to k, k ≤ 3 ∧ N (10 + 22 * l + (10 + 3 * s)) = nI fr ∧ N (10 + 22 * l + (11 + 3 * s)) = nI to ∧ N (10 + 22 * l + (12 + 3 * s)) = nI k ∧ V_k (C.1 (26 + 3 * l) s) fr to k) : f_X1_colourTowards (24 + 3 * l) (nI d) C = some (S_col N l d (if kd = 3 then 3 else nI co) ns) := by
  have g8 : a_gi C (24 + 3 * l) 8 = nI ns := c8
  have g0 : a_gi C (24 + 3 * l) 0 = nI kd := c0
  have g3 : a_gi C (24 + 3 * l) 3 = nI co := c3
  have hlen : a_len (26 + 3 * l) (C.2.2 (26 + 3 * l)) = 4 := by
    have : ∀ l, l < 10 → ∀ n, a_len (26 + 3 * l) n = 4 := by
      intro l hl n
      have : l = 0 ∨ l = 1 ∨ l = 2 ∨ l = 3 ∨ l = 4 ∨ l = 5 ∨ l = 6 ∨ l = 7 ∨ l = 8 ∨ l = 9 := by omega
      rcases this with rfl | rfl | rfl | rfl | rfl | rfl | rfl | rfl | rfl | rfl <;> rfl
    exact this l hl _
  generalize hv0 : (if kd = 3 then (3 : Int32) else nI co) = v0
  obtain ⟨b, h1, h2⟩ := lpf_dn (body := fun a : Int32 => b_X1_colourTowards_7 (24 + 3 * l) (nI d) a C) (fun i (_ : Unit) => nI i - 1) (fun i _ => i ≤ ns ∧ S_col N l d v0 i = S_col N l d v0 ns) (Q := fun b => Sum.elim (fun _ => v0) id b = S_col N l d v0 ns) (by
    rintro _ ⟨_, e⟩
    refine ⟨.inl (), ?_, e⟩
    show b_X1_colourTowards_7 _ _ (nI 0 - 1) C = _
    rw [b_X1_colourTowards_7, if_pos (by decide)]) (by
    rintro i _ ⟨hi, e⟩
    have hdn : nI i + (-1) = nI i - 1 := (Int32.sub_eq_add_neg _ _).symm
    obtain ⟨fr, to, k, x1, x2, x3, x4, x5⟩ := hs i (by omega)
    obtain ⟨y1, y2⟩ := Vk_bit (by omega) hd x5
    have z1 : S_n N (10 + 22 * l + (10 + 3 * i)) = fr := by unfold S_n; rw [x2, nI_clamp (by have := x5.1; omega)]
    have z2 : S_n N (10 + 22 * l + (11 + 3 * i)) = to := by unfold S_n; rw [x3, nI_clamp (by have := x5.2.1; omega)]
    show (∃ s', b_X1_colourTowards_7 _ _ (nI (i + 1) - 1) C = some (.inl (nI i - 1)) ∧ _) ∨ (∃ b, b_X1_colourTowards_7 _ _ (nI (i + 1) - 1) C = some (.inr b) ∧ _)
    rw [S_col, z1, z2, x4] at e
    rw [nI_pred, b_X1_colourTowards_7, if_neg (nI_pos (by omega)), show 24 + 3 * l + 2 = 26 + 3 * l by omega, a_ldN (by omega) (by omega), Option.bind_some, Option.bind_some, y1, y2]
    by_cases hc : (d + 16 - fr) % 16 ≤ (to + 16 - fr) % 16
    · rw [if_pos hc] at e
      rw [if_pos hc, if_pos (by decide)]
      exact Or.inr ⟨.inr (nI k), rfl, e⟩
    · rw [if_neg hc] at e
      rw [if_neg hc, if_neg (by decide), hdn]
      exact Or.inl ⟨(), rfl, by omega, e⟩) FU ns () ⟨Nat.le_refl _, rfl⟩ (FU_lt (by omega))
  rw [f_X1_colourTowards, g8, h1, Option.bind_some]
  rcases b with _ | b
  · show (if (a_gi C (24 + 3 * l) 0 : Int32) = 3 then some (3 : Int32) else some (a_gi C (24 + 3 * l) 3)) = _
    rw [← h2, g0, g3]
    show _ = some v0
    rw [← hv0]
    by_cases h3 : kd = 3
    · subst h3; rw [if_pos (by decide), if_pos rfl]
    · rw [if_neg (show ¬ nI kd = (3 : Int32) from fun z => h3 ((nI_eq (b := 3) (by omega) (by omega)).mp z)), if_neg h3]
  · show some b = _
    rw [← h2]; rfl
theorem tow8 {C : aSc} {M : aMm} {l d : Nat} (hl : l < 10) (hd : d < 16) {ns : Nat} (v0 : Int32) (hns : ns ≤ 4) (c8 : M 1 (10 + 22 * l + 6) = nI ns) (hs : ∀ s, s < ns → ∃ fr to k, k ≤ 3 ∧ M 1 (10 + 22 * l + (10 + 3 * s)) = nI fr ∧ M 1 (10 + 22 * l + (11 + 3 * s)) = nI to ∧ M 1 (10 + 22 * l + (12 + 3 * s)) = nI k ∧ V_k (C.1 (26 + 3 * l) s) fr to k) : g_X8_colourOf_58 (nI l) (nI d) v0 M = some (S_col (M 1) l d v0 ns) := by
  have hlen : a_len (94 + 1) 0 = 386 := rfl
  have o6 : f_X8_of (nI l) 6 M = some (nI (10 + 22 * l + 6)) := of_nI
  obtain ⟨b, h1, h2⟩ := lpf_ct (body := fun a : Int32 × Int32 => b_X8_colourOf_63 (nI l) (nI d) a.1 a.2 M) (fun i s => (s, nI i)) (fun i s => s = S_col (M 1) l d v0 i) ns (Q := fun b => b = S_col (M 1) l d v0 ns) (by
    rintro s rfl
    refine ⟨_, ?_, rfl⟩
    show b_X8_colourOf_63 _ _ _ (nI ns) _ = _
    rw [b_X8_colourOf_63, o6, Option.bind_some, m_ldN (by omega) (by omega), Option.bind_some, c8, if_pos (Int32.le_refl _)]) (by
    rintro i s hi rfl
    refine Or.inl ⟨S_col (M 1) l d v0 (i + 1), ?_, rfl⟩
    show b_X8_colourOf_63 _ _ _ (nI i) _ = _
    obtain ⟨fr, to, k, x1, x2, x3, x4, x5⟩ := hs i (by omega)
    have z1 : S_n (M 1) (10 + 22 * l + (10 + 3 * i)) = fr := by unfold S_n; rw [x2, nI_clamp (by have := x5.1; omega)]
    have z2 : S_n (M 1) (10 + 22 * l + (11 + 3 * i)) = to := by unfold S_n; rw [x3, nI_clamp (by have := x5.2.1; omega)]
    have ea : (10 : Int32) + 3 * nI i = nI (10 + 3 * i) := by
      rw [show (10 : Int32) = nI 10 from rfl, show (3 : Int32) = nI 3 from rfl, pk_mul, nI_add]
    have eb1 : nI (10 + 22 * l + (10 + 3 * i)) + 1 = nI (10 + 22 * l + (11 + 3 * i)) := (nI_add _ 1).trans (by congr 1; omega)
    have eb2 : nI (10 + 22 * l + (10 + 3 * i)) + 2 = nI (10 + 22 * l + (12 + 3 * i)) := (nI_add _ 2).trans (by congr 1; omega)
    rw [b_X8_colourOf_63, o6, Option.bind_some, m_ldN (by omega) (by omega), Option.bind_some, c8, if_neg (fun z => by have := (nI_leI (by omega) (by omega)).mp z; omega), ea, of_nI, Option.bind_some, m_ldN (by omega) (by omega), Option.bind_some, eb1, eb2, m_ldN (by omega) (by omega), Option.bind_some, x2, x3, isFrom_ok hd x5.1 x5.2.1, Option.bind_some, S_col, z1, z2]
    by_cases hc : (d + 16 - fr) % 16 ≤ (to + 16 - fr) % 16
    · rw [if_pos hc, if_neg (by decide), m_ldN (by omega) (by omega), Option.bind_some, nI_1, if_pos hc]
    · rw [if_neg hc, if_pos (by decide), nI_1, if_neg hc]) FU 0 v0 (by omega) rfl (FU_lt (by omega))
  rw [show (nI 0) = (0 : Int32) from rfl] at h1
  rw [g_X8_colourOf_58, h1, Option.bind_some, h2]
theorem col_ok {C : aSc} {M : aMm} {l c : Nat} (hl : l < 10) (hc : c < 256) (hV : V_l C (M 1) l) : ∃ v, f_X7_colourIn (24 + 3 * l) (nI c) C = some v ∧ f_X8_colourOf (nI l) (nI c) M = some v := by
  have hlen : a_len (94 + 1) 0 = 386 := rfl
  obtain ⟨⟨kd, _, hkd, c0, n0⟩, ⟨ce, _, hce, c1, n1⟩, -, ⟨co, _, _, c3, n3⟩, -, ⟨ns, hns, c8, n6, hs⟩, -⟩ := hV
  have g1 : a_gi C (24 + 3 * l) 1 = nI ce := c1
  have g3 : a_gi C (24 + 3 * l) 3 = nI co := c3
  have o3 : f_X8_of (nI l) 3 M = some (nI (10 + 22 * l + 3)) := of_nI
  have o1 : f_X8_of (nI l) 1 M = some (nI (10 + 22 * l + 1)) := of_nI
  have o0 : f_X8_of (nI l) 0 M = some (nI (10 + 22 * l + 0)) := of_nI
  by_cases e : c = ce
  · subst e
    refine ⟨nI co, ?_, ?_⟩
    · rw [f_X7_colourIn, g1, if_pos rfl, g3]
    · rw [f_X8_colourOf, o3, Option.bind_some, m_ldN (by omega) (by omega), Option.bind_some, o1, Option.bind_some, m_ldN (by omega) (by omega), Option.bind_some, n1, if_pos rfl, n3]
  have ne : ¬ nI c = nI ce := fun z => e ((nI_eq (by omega) (by omega)).mp z)
  obtain ⟨d1, d2, d3⟩ := dir_ok C M (show ce < 256 by omega) hc (Ne.symm e)
  have t7 := tow7 (C := C) (N := M 1) hl d3 hkd c0 c3 hns c8 hs
  refine ⟨S_col (M 1) l (wD ce c) (if kd = 3 then 3 else nI co) ns, ?_, ?_⟩
  · rw [f_X7_colourIn, g1, if_neg ne, d1, Option.bind_some, t7, Option.bind_some]
  · have n0' : M 1 (10 + 22 * l + 0) = nI kd := n0
    rw [f_X8_colourOf, o3, Option.bind_some, m_ldN (by omega) (by omega), Option.bind_some, o1, Option.bind_some, m_ldN (by omega) (by omega), Option.bind_some, n1, if_neg ne, d2, Option.bind_some, o0, Option.bind_some, m_ldN (by omega) (by omega), Option.bind_some, n0', n3]
    by_cases h3 : kd = 3
    · subst h3
      rw [if_pos (by decide), if_pos (by decide)]
      exact tow8 hl d3 3 hns n6 hs
    · rw [if_neg (show ¬ nI kd = (3 : Int32) from fun z => h3 ((nI_eq (b := 3) (by omega) (by omega)).mp z)), if_neg h3]
      exact tow8 hl d3 (nI co) hns n6 hs
theorem pr_colour (a0 : Int32) (a1 : Int32) {C : aSc} {M : aMm} (hR : Rel C M) : ∃ (v : Int32) (C' : aSc) (M' : aMm), f_X7_colour a0 a1 C = some (v, C') ∧ f_X8_colour a0 a1 M = some (v, M') ∧ Rel C' M' := by
  obtain ⟨nl, nb, nf, nw, hz, dy, hV⟩ := hR.1
  obtain ⟨⟨h0, ⟨h1, h1'⟩, -⟩, hL, -⟩ := id hV
  rcases isLight_pair (by omega) h1 h1' a0 with ⟨l, hl, rfl, i1, i2⟩ | ⟨i1, i2⟩
  rotate_left
  · refine ⟨-100001, _, _, ?_, ?_, rel_refuse hR⟩
    · rw [f_X7_colour, i1, Option.bind_some, if_pos (by decide)]; rfl
    · rw [f_X8_colour, i2, Option.bind_some, if_pos (by decide)]; rfl
  rcases cell_pair (C := C) (M := M) a1 with ⟨b, hb, rfl, j1, j2⟩ | ⟨j1, j2⟩
  rotate_left
  · refine ⟨-100001, _, _, ?_, ?_, rel_refuse hR⟩
    · rw [f_X7_colour, i1, Option.bind_some, if_neg (by decide), j1, Option.bind_some, if_pos (by decide)]; rfl
    · rw [f_X8_colour, i2, Option.bind_some, if_neg (by decide), j2, Option.bind_some, if_pos (by decide)]; rfl
  obtain ⟨v, e7, e8⟩ := col_ok (C := C) (M := M) (l := l) (c := b) (by omega) (by omega) (hL l hl)
  refine ⟨v, C, M, ?_, ?_, hR⟩
  · rw [f_X7_colour, i1, Option.bind_some, if_neg (by decide), j1, Option.bind_some, if_neg (by decide), a_rfN (by omega) (by omega), Option.bind_some, e7, Option.bind_some]
  · rw [f_X8_colour, i2, Option.bind_some, if_neg (by decide), j2, Option.bind_some, if_neg (by decide), e8, Option.bind_some]
/-! what is seen -/
def nrI (r : Int32) (a b : Nat) : Int32 := if r * r < (nI (a % 16) - nI (b % 16)) * (nI (a % 16) - nI (b % 16)) + (nI (a / 16) - nI (b / 16)) * (nI (a / 16) - nI (b / 16)) then 0 else 1
theorem within7 {C : aSc} {a b : Nat} (r : Int32) (ha : a < 256) (hb : b < 256) : f_X7_isWithin r (nI a) (nI b) C = some (nrI r a b) := by
  rw [f_X7_isWithin, and15 ha, and15 hb, shr4 ha, shr4 hb, nrI]
  by_cases h : r * r < (nI (a % 16) - nI (b % 16)) * (nI (a % 16) - nI (b % 16)) + (nI (a / 16) - nI (b / 16)) * (nI (a / 16) - nI (b / 16))
  · rw [if_pos h, if_pos h]
  · rw [if_neg h, if_neg h]
theorem near8 {M : aMm} {l a b ra hz : Nat} (hl : l < 10) (hra : M 1 (10 + 22 * l + 2) = nI ra) (hhz : M 1 4 = nI hz) (ha : a < 256) (hb : b < 256) : f_X8_isNear (nI l) (nI a) (nI b) M = some (nrI (a_max 0 (nI ra - nI hz)) a b) := by
  have hlen : a_len (94 + 1) 0 = 386 := rfl
  have o2 : f_X8_of (nI l) 2 M = some (nI (10 + 22 * l + 2)) := of_nI
  have m4 : m_ld M 1 4 = some (nI hz) := by
    have := m_ldN (M := M) (m := 1) (k := 4) (by decide) (by decide)
    rw [hhz] at this
    exact this
  rw [f_X8_isNear, o2, Option.bind_some, m_ldN (by omega) (by omega), Option.bind_some, m4, Option.bind_some, rem16 ha, rem16 hb, div16 ha, div16 hb, hra, nrI]
  generalize a_max 0 (nI ra - nI hz) = r
  by_cases h : r * r < (nI (a % 16) - nI (b % 16)) * (nI (a % 16) - nI (b % 16)) + (nI (a / 16) - nI (b / 16)) * (nI (a / 16) - nI (b / 16))
  · rw [if_pos h, if_pos h]
  · rw [if_neg h, if_neg h]
theorem one_shl {i : Nat} (h : i < 31) : (1 : Int32) <<< (nI i &&& 31) = nI (2 ^ i) := by
  have := pk_shlN (n := 1) (nI i &&& 31) i (sh31 (by omega)) (by rw [Nat.one_mul]; exact Nat.pow_lt_pow_right (by omega) (by omega))
  rw [Nat.one_mul] at this
  exact this
theorem or_lt {s i : Nat} (h : s < 2 ^ i) : s ||| 2 ^ i < 2 ^ (i + 1) := Nat.or_lt_two_pow (Nat.lt_of_lt_of_le h (Nat.pow_le_pow_right (by omega) (by omega))) (Nat.pow_lt_pow_right (by omega) (by omega))
theorem seen_ok {C : aSc} {M : aMm} {nl nb nf nw hz dy c : Nat} (hV : V_all C (M 1) nl nb nf nw hz dy) (hc : c < 256) : ∃ s, s < 2 ^ nl ∧ f_X7_seenFrom (nI c) C = some (nI s) ∧ f_X8_seenFrom (nI c) M = some (nI s) := by
  obtain ⟨⟨h0, ⟨h1, h1'⟩, -, -, ⟨h4, h4'⟩, ⟨h5, h5'⟩, ⟨h6, h6'⟩⟩, hL, -, -, hW, -⟩ := id hV
  have hlen : a_len (94 + 1) 0 = 386 := rfl
  have g2 : a_gi C 0 2 = nI nl := h1
  have g3 : a_gi C 0 3 = nI hz := h5
  have g4 : a_gi C 0 4 = nI dy := h6
  have m0 : m_ld M 1 0 = some (nI nl) := by
    have := m_ldN (M := M) (m := 1) (k := 0) (by decide) (by decide)
    rw [h1'] at this
    exact this
  have m5 : m_ld M 1 5 = some (nI dy) := by
    have := m_ldN (M := M) (m := 1) (k := 5) (by decide) (by decide)
    rw [h6'] at this
    exact this
  obtain ⟨b, b', e1, e2, s, hs, rfl, rfl⟩ := lpf_ct2 (body := fun a : Int32 × Int32 => b_X7_seenFrom_4 (nI c) a.1 a.2 C) (body' := fun a : Int32 × Int32 => b_X8_seenFrom_4 (nI c) a.1 a.2 M) (fun i (s : Nat) => (nI s, nI i)) (fun i s => (nI s, nI i)) (fun i s => s < 2 ^ i) nl (Q := fun b b' => ∃ s, s < 2 ^ nl ∧ b = nI s ∧ b' = nI s) (by
    intro s hs
    refine ⟨nI s, nI s, ?_, ?_, s, hs, rfl, rfl⟩
    · show b_X7_seenFrom_4 (nI c) (nI s) (nI nl) C = _
      rw [b_X7_seenFrom_4, g2, if_pos (Int32.le_refl _)]
    · show b_X8_seenFrom_4 (nI c) (nI s) (nI nl) M = _
      rw [b_X8_seenFrom_4, m0, Option.bind_some, if_pos (Int32.le_refl _)]) (by
    intro i s hi hs
    have hVl := hL i hi
    obtain ⟨v, e7, e8⟩ := col_ok (C := C) (M := M) (l := i) (c := c) (by omega) hc hVl
    obtain ⟨-, ⟨ce, _, hce, c1, n1⟩, ⟨ra, _, hra, c2, n2⟩, -⟩ := hVl
    have g1 : a_gi C (24 + 3 * i) 1 = nI ce := c1
    have gr : a_gi C (24 + 3 * i) 2 = nI ra := c2
    have o1 : f_X8_of (nI i) 1 M = some (nI (10 + 22 * i + 1)) := of_nI
    have hn : ¬ nI nl ≤ nI i := fun z => by have := (nI_leI (by omega) (by omega)).mp z; omega
    have t7 := tellOut_ok (by omega) h4 hW (nI i) (nI dy) 999
    have t8 := isOut_ok (M := M) (by omega) h4' hW (nI i) (nI dy) 999
    have w7 := within7 (C := C) (a := c) (b := ce) (a_max 0 (nI ra - nI hz)) hc (by omega)
    have w8 := near8 (M := M) (l := i) (a := c) (b := ce) (by omega) n2 h5' hc (by omega)
    have hr : f_X7_reachOf (24 + 3 * i) C = some (a_max 0 (nI ra - nI hz)) := by rw [f_X7_reachOf, gr, g3]
    have b7 : b_X7_seenFrom_4 (nI c) (nI s) (nI i) C = if nrI (a_max 0 (nI ra - nI hz)) c ce = 0 then some (.inl (nI s, nI (i + 1))) else if v = 3 then some (.inl (nI s, nI (i + 1))) else if S_out (M 1) (nI i) (nI dy) 999 nw = 0 then some (.inl (nI (s ||| 2 ^ i), nI (i + 1))) else some (.inl (nI s, nI (i + 1))) := by
      rw [b_X7_seenFrom_4, g2, if_neg hn, a_rfN (by omega) (by omega), Option.bind_some, hr, Option.bind_some, g1, w7, Option.bind_some, e7, Option.bind_some, g4, t7, Option.bind_some, one_shl (by omega), fa_or, nI_1]
    have hz64 : ∀ x, g_X8_seenFrom_64 (nI c) x (nI i) M = some (.inl (x, nI (i + 1))) := fun x => by
      rw [g_X8_seenFrom_64, g_X8_seenFrom_65, if_pos (by decide), nI_1, Int32.or_zero]
    have hz65 : g_X8_seenFrom_65 (nI c) (nI s) (nI i) 1 M = some (.inl (nI (s ||| 2 ^ i), nI (i + 1))) := by
      rw [g_X8_seenFrom_65, if_neg (by decide), nI_1, one_shl (by omega), fa_or]
    have b8 : b_X8_seenFrom_4 (nI c) (nI s) (nI i) M = if nrI (a_max 0 (nI ra - nI hz)) c ce = 0 then some (.inl (nI s, nI (i + 1))) else if v = 3 then some (.inl (nI s, nI (i + 1))) else if S_out (M 1) (nI i) (nI dy) 999 nw = 0 then some (.inl (nI (s ||| 2 ^ i), nI (i + 1))) else some (.inl (nI s, nI (i + 1))) := by
      rw [b_X8_seenFrom_4, m0, Option.bind_some, if_neg hn, o1, Option.bind_some, m_ldN (by omega) (by omega), Option.bind_some, n1, w8, Option.bind_some, e8, Option.bind_some, m5, Option.bind_some, t8, Option.bind_some, hz64, hz65]
    have hs' : s < 2 ^ (i + 1) := Nat.lt_of_lt_of_le hs (Nat.pow_le_pow_right (by omega) (by omega))
    refine Or.inl ?_
    show ∃ s', b_X7_seenFrom_4 (nI c) (nI s) (nI i) C = some (.inl (nI s', nI (i + 1))) ∧ b_X8_seenFrom_4 (nI c) (nI s) (nI i) M = some (.inl (nI s', nI (i + 1))) ∧ s' < 2 ^ (i + 1)
    rw [b7, b8]
    by_cases q1 : nrI (a_max 0 (nI ra - nI hz)) c ce = 0
    · rw [if_pos q1]; exact ⟨s, rfl, rfl, hs'⟩
    rw [if_neg q1]
    by_cases q2 : v = 3
    · rw [if_pos q2]; exact ⟨s, rfl, rfl, hs'⟩
    rw [if_neg q2]
    by_cases q3 : S_out (M 1) (nI i) (nI dy) 999 nw = 0
    · rw [if_pos q3]; exact ⟨s ||| 2 ^ i, rfl, rfl, or_lt hs⟩
    · rw [if_neg q3]; exact ⟨s, rfl, rfl, hs'⟩) FU 0 0 (by omega) (by decide) (FU_lt (by omega))
  rw [show (nI 0) = (0 : Int32) from rfl] at e1 e2
  refine ⟨s, hs, ?_, ?_⟩
  · rw [f_X7_seenFrom, e1, Option.bind_some]
  · rw [f_X8_seenFrom, e2, Option.bind_some]
theorem pr_seen (a0 : Int32) {C : aSc} {M : aMm} (hR : Rel C M) : ∃ (v : Int32) (C' : aSc) (M' : aMm), f_X7_seen a0 C = some (v, C') ∧ f_X8_seen a0 M = some (v, M') ∧ Rel C' M' := by
  obtain ⟨nl, nb, nf, nw, hz, dy, hV⟩ := hR.1
  rcases cell_pair (C := C) (M := M) a0 with ⟨b, hb, rfl, j1, j2⟩ | ⟨j1, j2⟩
  rotate_left
  · refine ⟨-100001, _, _, ?_, ?_, rel_refuse hR⟩
    · rw [f_X7_seen, j1, Option.bind_some, if_pos (by decide)]; rfl
    · rw [f_X8_seen, j2, Option.bind_some, if_pos (by decide)]; rfl
  obtain ⟨s, _, e7, e8⟩ := seen_ok hV (show b < 256 by omega)
  refine ⟨nI s, C, M, ?_, ?_, hR⟩
  · rw [f_X7_seen, j1, Option.bind_some, if_neg (by decide), e7, Option.bind_some]
  · rw [f_X8_seen, j2, Option.bind_some, if_neg (by decide), e8, Option.bind_some]

def isLt (r t pe s : Nat) : Bool := if r = 0 then true else if r = 4 then decide (s < pe / 2) else if r = 2 then decide (2 * t ≤ s) || decide (s % 2 = 1) else decide (s < 2 * t) && decide (s % 2 = 0)
def rfB (r t pe : Nat) : Nat → Nat
  | 0 => 0
  | s + 1 => if isLt r t pe s then rfB r t pe s ||| 2 ^ s else rfB r t pe s
def mkC (r t pe : Nat) : aSc := (fun c j => if c = 1 then if j = 4 then nI r else if j = 5 then nI t else if j = 7 then nI pe else 0 else 0, fun _ _ => 0, fun _ => 0)
def gdB (r t pe : Nat) : Bool := (decide (r = 0) && decide (t = 1) && decide (pe = 1)) || (!decide (r = 0) && decide (1 ≤ pe) && decide (pe ≤ 30) && decide (1 ≤ t) && decide (t ≤ 15) && ((decide (r = 4) && decide (t = 1) && decide (pe % 2 = 0)) || (!decide (r = 4) && decide (2 * t + (if r = 3 then 1 else 0) ≤ pe))))
def lkB (r t pe : Nat) : Bool := decide (f_X5_litSeconds (mkC r t pe) = some (lN (rfB r t pe pe))) && decide (rfB r t pe pe < 2 ^ pe) && decide (f_J13_bitCount_95d88 (lN (rfB r t pe pe)) = some (nI (fb_ct (rfB r t pe pe).testBit 30)))
set_option maxRecDepth 100000 in
theorem lit_chk : ∀ r, r < 5 → ∀ t, t < 16 → ∀ pe, pe < 31 → (!gdB r t pe || lkB r t pe) = true := by decide +kernel
theorem lit_all (r : Nat) (hr : r < 5) (t : Nat) (ht : t < 16) (pe : Nat) (hp : pe < 31) (hg : good r t pe) : f_X5_litSeconds (mkC r t pe) = some (lN (rfB r t pe pe)) ∧ rfB r t pe pe < 2 ^ pe ∧ f_J13_bitCount_95d88 (lN (rfB r t pe pe)) = some (nI (fb_ct (rfB r t pe pe).testBit 30)) := by
  have h := lit_chk r hr t ht pe hp
  have hgb : gdB r t pe = true := by
    unfold gdB
    unfold good at hg
    simp only [Bool.or_eq_true, Bool.and_eq_true, Bool.not_eq_true', decide_eq_true_eq, decide_eq_false_iff_not]
    rcases hg with ⟨a, b, c⟩ | ⟨a, b, c, d, e, f⟩
    · exact Or.inl ⟨⟨a, b⟩, c⟩
    · refine Or.inr ⟨⟨⟨⟨⟨a, b⟩, c⟩, d⟩, e⟩, ?_⟩
      rcases f with ⟨f1, f2, f3⟩ | ⟨f1, f2⟩
      · exact Or.inl ⟨⟨f1, f2⟩, f3⟩
      · exact Or.inr ⟨f1, f2⟩
  rw [hgb] at h
  have h2 : lkB r t pe = true := by simpa using h
  unfold lkB at h2
  simp only [Bool.and_eq_true, decide_eq_true_eq] at h2
  exact ⟨h2.1.1, h2.1.2, h2.2⟩
theorem lit_ok {C : aSc} {r s t pe : Nat} (hr : rhy r s t) (hg : good r t pe) (c4 : a_gi C 1 4 = nI r) (c5 : a_gi C 1 5 = nI t) (c7 : a_gi C 1 7 = nI pe) : f_X5_litSeconds C = some (lN (rfB r t pe pe)) ∧ okB pe (rfB r t pe pe) ∧ 1 ≤ pe ∧ pe ≤ 30 := by
  have b : r < 5 ∧ t < 16 ∧ 1 ≤ pe ∧ pe < 31 := by unfold rhy at hr; unfold good at hg; omega
  obtain ⟨h1, h2, h3⟩ := lit_all r b.1 t b.2.1 pe b.2.2.2 hg
  refine ⟨?_, ⟨h2, h3⟩, b.2.2.1, by omega⟩
  rw [← h1]
  have d4 : a_gi (mkC r t pe) 1 4 = nI r := rfl
  have d5 : a_gi (mkC r t pe) 1 5 = nI t := rfl
  have d7 : a_gi (mkC r t pe) 1 7 = nI pe := rfl
  have hb : ∀ w, (fun a : Int64 × Int32 => b_X5_litSeconds_42 w a.1 a.2 C) = (fun a : Int64 × Int32 => b_X5_litSeconds_42 w a.1 a.2 (mkC r t pe)) := fun w => funext fun a => by
    rw [b_X5_litSeconds_42, b_X5_litSeconds_42, c5, d5]
  rw [f_X5_litSeconds, f_X5_litSeconds, c4, c7, d4, d7, hb]
theorem isLit_ok {M : aMm} {r s t pe k : Nat} (hr : rhy r s t) (hg : good r t pe) (hk : k < 31) (m11 : m_gi M 0 11 = nI s) (m12 : m_gi M 0 12 = nI t) (m14 : m_gi M 0 14 = nI pe) : f_X8_isLit (nI k) M = some (if isLt r t pe k then 1 else 0) := by
  have b : t < 16 ∧ pe < 31 := by unfold good at hg; omega
  have e2 : (2 : Int32) * nI t = nI (2 * t) := by rw [show (2 : Int32) = nI 2 from rfl, pk_mul]
  have er : nI k - nI k / 2 * 2 = nI (k % 2) := pk_rem (d := 2) (by omega) (by omega) (by omega)
  have ed : nI pe / 2 = nI (pe / 2) := pk_div (d := 2) (by omega) (by omega) (by omega)
  have hm : k % 2 = 0 ∨ k % 2 = 1 := by omega
  rw [f_X8_isLit, m11, m12, m14, e2, er, ed]
  rcases hr with ⟨rfl, rfl, rfl⟩ | ⟨rfl, rfl, rfl⟩ | ⟨⟨rfl, rfl⟩ | ⟨rfl, rfl⟩ | ⟨rfl, rfl⟩, _⟩
  · rw [if_pos (by decide)]; rfl
  · rw [if_neg (by decide), if_pos (by decide)]
    by_cases h : k < pe / 2
    · rw [if_neg (fun z => by have := (nI_leI (by omega) (by omega)).mp z; omega)]; simp [isLt, h]
    · rw [if_pos ((nI_leI (by omega) (by omega)).mpr (by omega))]; simp [isLt, h]
  · rw [if_neg (by decide), if_neg (by decide), if_neg (by decide)]
    by_cases h : k < 2 * t
    · rw [if_neg (fun z => by have := (nI_leI (by omega) (by omega)).mp z; omega)]
      rcases hm with e | e
      · rw [e, if_pos (by decide)]; simp [isLt, h, e]
      · rw [e, if_neg (by decide)]; simp [isLt, h, e]
    · rw [if_pos ((nI_leI (by omega) (by omega)).mpr (by omega))]; simp [isLt, h]
  · rw [if_neg (by decide), if_neg (by decide), if_pos (by decide)]
    by_cases h : 2 * t ≤ k
    · rw [if_pos ((nI_leI (by omega) (by omega)).mpr h)]; simp [isLt, h]
    · rw [if_neg (fun z => h ((nI_leI (by omega) (by omega)).mp z))]
      rcases hm with e | e
      · rw [e, if_neg (by decide)]; simp [isLt, h, e]
      · rw [e, if_pos (by decide)]; simp [isLt, h, e]
  · rw [if_neg (by decide), if_neg (by decide), if_neg (by decide)]
    by_cases h : k < 2 * t
    · rw [if_neg (fun z => by have := (nI_leI (by omega) (by omega)).mp z; omega)]
      rcases hm with e | e
      · rw [e, if_pos (by decide)]; simp [isLt, h, e]
      · rw [e, if_neg (by decide)]; simp [isLt, h, e]
    · rw [if_pos ((nI_leI (by omega) (by omega)).mpr (by omega))]; simp [isLt, h]
/-- the bits, as the reference sets them -/
theorem bits8 {M : aMm} {l r s t pe : Nat} (hl : l < 10) (hr : rhy r s t) (hg : good r t pe) (m11 : m_gi M 0 11 = nI s) (m12 : m_gi M 0 12 = nI t) (m14 : m_gi M 0 14 = nI pe) (h5 : M 1 (10 + 22 * l + 5) = 0) : ∃ M', lpf (fun a : Int32 × aMm => b_X8_light_178 (nI l) a.1 a.2) FU ((0 : Int32), M) = some M' ∧ M' 1 (10 + 22 * l + 5) = nI (rfB r t pe pe) ∧ ∀ m j, ¬ (m = 1 ∧ j = 10 + 22 * l + 5) → M' m j = M m j := by
  have hlen : a_len (94 + 1) 0 = 386 := rfl
  have b : pe < 31 := by unfold good at hg; omega
  obtain ⟨z, e1, q1⟩ := lpf_ct (body := fun a : Int32 × aMm => b_X8_light_178 (nI l) a.1 a.2) (fun i s => (nI i, s)) (fun i w => w 1 (10 + 22 * l + 5) = nI (rfB r t pe i) ∧ ∀ m j, ¬ (m = 1 ∧ j = 10 + 22 * l + 5) → w m j = M m j) pe (Q := fun w => w 1 (10 + 22 * l + 5) = nI (rfB r t pe pe) ∧ ∀ m j, ¬ (m = 1 ∧ j = 10 + 22 * l + 5) → w m j = M m j) (by
    rintro w ⟨w1, w2⟩
    refine ⟨w, ?_, w1, w2⟩
    show b_X8_light_178 (nI l) (nI pe) w = _
    have k14 : m_gi w 0 14 = nI pe := (w2 0 14 (by omega)).trans m14
    rw [b_X8_light_178, k14, if_pos (Int32.le_refl _)]) (by
    rintro i w hi ⟨w1, w2⟩
    have k14 : m_gi w 0 14 = nI pe := (w2 0 14 (by omega)).trans m14
    have k12 : m_gi w 0 12 = nI t := (w2 0 12 (by omega)).trans m12
    have k11 : m_gi w 0 11 = nI s := (w2 0 11 (by omega)).trans m11
    have o5 : f_X8_of (nI l) 5 w = some (nI (10 + 22 * l + 5)) := of_nI
    have u := isLit_ok (M := w) (k := i) hr hg (by omega) k11 k12 k14
    have hb : b_X8_light_178 (nI l) (nI i) w = if (if isLt r t pe i then (1 : Int32) else 0) = 0 then some (.inl (nI (i + 1), m_pi w 1 (10 + 22 * l + 5) (nI (rfB r t pe i)))) else some (.inl (nI (i + 1), m_pi w 1 (10 + 22 * l + 5) (nI (rfB r t pe i ||| 2 ^ i)))) := by
      rw [b_X8_light_178, k14, if_neg (fun z => by have := (nI_leI (by omega) (by omega)).mp z; omega), o5, Option.bind_some, m_ldN (by omega) (by omega), Option.bind_some, u, Option.bind_some, w1, Int32.or_zero, one_shl (by omega), fa_or, m_stN (by omega) (by omega), Option.bind_some, m_stN (by omega) (by omega), Option.bind_some, nI_1]
    cases hL : isLt r t pe i with
    | false =>
      rw [hL] at hb
      refine Or.inl ⟨m_pi w 1 (10 + 22 * l + 5) (nI (rfB r t pe i)), hb.trans (if_pos (by decide)), ?_, fun m j h => by rw [m_pi_ne h]; exact w2 m j h⟩
      rw [m_pi_at, rfB, hL]; rfl
    | true =>
      rw [hL] at hb
      refine Or.inl ⟨m_pi w 1 (10 + 22 * l + 5) (nI (rfB r t pe i ||| 2 ^ i)), hb.trans (if_neg (by decide)), ?_, fun m j h => by rw [m_pi_ne h]; exact w2 m j h⟩
      rw [m_pi_at, rfB, hL]; rfl) FU 0 M (by omega) ⟨h5, fun _ _ _ => rfl⟩ (FU_lt (by omega))
  exact ⟨z, e1, q1⟩
theorem zero8 (M : aMm) {l : Nat} (hl : l < 10) (x1 x2 x3 : Int32) : ∃ M', lpf (fun a : Int32 × aMm => b_X8_light_83 x1 x2 x3 (nI l) a.1 a.2) FU ((0 : Int32), M) = some M' ∧ (∀ g, g < 22 → M' 1 (10 + 22 * l + g) = 0) ∧ ∀ m j, ¬ (m = 1 ∧ 10 + 22 * l ≤ j ∧ j < 10 + 22 * l + 22) → M' m j = M m j := by
  have hlen : a_len (94 + 1) 0 = 386 := rfl
  obtain ⟨z, e1, q1⟩ := lpf_ct (body := fun a : Int32 × aMm => b_X8_light_83 x1 x2 x3 (nI l) a.1 a.2) (fun i s => (nI i, s)) (fun i w => (∀ g, g < i → w 1 (10 + 22 * l + g) = 0) ∧ ∀ m j, ¬ (m = 1 ∧ 10 + 22 * l ≤ j ∧ j < 10 + 22 * l + 22) → w m j = M m j) 22 (Q := fun w => (∀ g, g < 22 → w 1 (10 + 22 * l + g) = 0) ∧ ∀ m j, ¬ (m = 1 ∧ 10 + 22 * l ≤ j ∧ j < 10 + 22 * l + 22) → w m j = M m j) (by
    rintro w ⟨w1, w2⟩
    refine ⟨w, ?_, w1, w2⟩
    show b_X8_light_83 x1 x2 x3 (nI l) (nI 22) w = _
    rw [b_X8_light_83, if_pos (show (22 : Int32) ≤ nI 22 from by decide)]) (by
    rintro i w hi ⟨w1, w2⟩
    refine Or.inl ⟨m_pi w 1 (10 + 22 * l + i) 0, ?_, fun g hg => ?_, fun m j h => ?_⟩
    · show b_X8_light_83 x1 x2 x3 (nI l) (nI i) w = _
      rw [b_X8_light_83, if_neg (show ¬ (22 : Int32) ≤ nI i from fun z => by have := (nI_leI (a := 22) (by omega) (by omega)).mp z; omega), of_nI, Option.bind_some, m_stN (by omega) (by omega), Option.bind_some, nI_1]
    · by_cases e : g = i
      · subst e; rw [m_pi_at]
      · rw [m_pi_ne (by omega)]; exact w1 g (by omega)
    · rw [m_pi_ne (by omega)]; exact w2 m j h) FU 0 M (by omega) ⟨fun g hg => absurd hg (by omega), fun _ _ _ => rfl⟩ (FU_lt (by omega))
  exact ⟨z, e1, q1⟩
/-! phases -/
theorem a_pl_at {C : aSc} {c j : Nat} {v : Int64} : (a_pl C c j v).2.1 c j = v := by simp [a_pl, a_upl, vp_updL]
theorem a_pl_ne {C : aSc} {c j c' j' : Nat} {v : Int64} (h : ¬ (c' = c ∧ j' = j)) : (a_pl C c j v).2.1 c' j' = C.2.1 c' j' := by
  unfold a_pl a_upl
  by_cases hc : c' = c
  · subst hc
    have : ¬ j' = j := fun e => h ⟨rfl, e⟩
    simp [vp_updL, this]
  · simp [hc]
theorem shr63 {a d : Nat} {D : Int64} (hD : (D.toBitVec.smod 64).toNat = d) (h : a < 2 ^ 63) : lN a >>> D = lN (a / 2 ^ d) := by
  have hd : a / 2 ^ d ≤ a := Nat.div_le_self _ _
  apply Int64.toInt_inj.mp
  have e : (lN a >>> D).toInt = (lN a).toInt >>> d := by
    rw [← hD]
    exact BitVec.toInt_sshiftRight ..
  rw [e, Int.shiftRight_eq_div_pow, pf_lI h, pf_lI (by omega)]
  rfl
theorem bit7w {b r : Nat} (hb : b < 2 ^ 63) (hr : r < 64) : (lN b >>> ((nI r).toInt64 &&& 63)) &&& 1 = lN (if b.testBit r then 1 else 0) := by
  have hlt : b / 2 ^ r < 2 ^ 64 := Nat.lt_of_le_of_lt (Nat.div_le_self _ _) (by omega)
  rw [shr63 (sh63 hr) hb, wb_a1 hlt, Nat.testBit_eq_decide_div_mod_eq]
  have : b / 2 ^ r % 2 < 2 := Nat.mod_lt _ (by omega)
  congr 1
  by_cases h : b / 2 ^ r % 2 = 1
  · simp [h]
  · have h0 : b / 2 ^ r % 2 = 0 := by omega
    simp [h0]
/-- one bit more of a row: what stands se below it is written there -/
theorem dbl1 {s k d : Nat} (j : Nat) : (s ||| (if s.testBit d then 1 else 0) * 2 ^ k).testBit j = (s.testBit j || (decide (j = k) && s.testBit d)) := by
  by_cases c : s.testBit d = true
  · rw [if_pos c, Nat.one_mul, fb_bit_set, c, Bool.and_true]
  · have c' : s.testBit d = false := by simpa using c
    rw [if_neg c, Nat.zero_mul, Nat.or_zero, c', Bool.and_false, Bool.or_false]
theorem dbl2 {s k d : Nat} (hs : s < 2 ^ max 60 k) : s ||| (if s.testBit d then 1 else 0) * 2 ^ k < 2 ^ max 60 (k + 1) := by
  refine Nat.or_lt_two_pow (Nat.lt_of_lt_of_le hs (Nat.pow_le_pow_right (by omega) (by omega))) ?_
  have h1 : 2 ^ k < 2 ^ max 60 (k + 1) := wb_lt2 (by omega)
  have h0 : 0 < 2 ^ max 60 (k + 1) := Nat.two_pow_pos _
  by_cases c : s.testBit d = true
  · rw [if_pos c, Nat.one_mul]; exact h1
  · rw [if_neg c, Nat.zero_mul]; exact h0
theorem dbl {x0 : Nat} {x2 : Int32} {C : aSc} {se b i : Nat} (h1 : 1 ≤ se) (h30 : se ≤ 30) (g : a_gi C x0 4 = nI se) {R : Nat} (hR : R < 2 ^ 60) (hb : ∀ j, j < 64 → (j < se → R.testBit j = b.testBit ((i + j) % se)) ∧ (R.testBit j = true → b.testBit ((i + j) % se) = true)) : ∃ p, p < 2 ^ 64 ∧ lpf (fun a : Int64 × Int32 => b_X1_take_68 x0 x2 a.1 a.2 C) FU (lN R, nI se) = some (lN p) ∧ ∀ j, j < 64 → p.testBit j = b.testBit ((i + j) % se) := by
  obtain ⟨r, e1, p, hp, e2, e3⟩ := lpf_ct (body := fun a : Int64 × Int32 => b_X1_take_68 x0 x2 a.1 a.2 C) (fun k s => (lN s, nI k)) (fun k s => s < 2 ^ max 60 k ∧ se ≤ k ∧ ∀ j, j < 64 → (j < k → s.testBit j = b.testBit ((i + j) % se)) ∧ (s.testBit j = true → b.testBit ((i + j) % se) = true)) 64 (Q := fun r => ∃ p, p < 2 ^ 64 ∧ r = lN p ∧ ∀ j, j < 64 → p.testBit j = b.testBit ((i + j) % se)) (by
    rintro s ⟨k1, _, k3⟩
    refine ⟨lN s, ?_, s, k1, rfl, fun j hj => (k3 j hj).1 hj⟩
    show b_X1_take_68 x0 x2 (lN s) (nI 64) C = _
    rw [b_X1_take_68, if_pos (show (64 : Int32) ≤ nI 64 from by decide)]) (by
    rintro k s hk ⟨k1, k2, k3⟩
    have em : (i + (k - se)) % se = (i + k) % se := by
      have : i + k = i + (k - se) + se * 1 := by omega
      rw [this, Nat.add_mul_mod_self_left]
    have ev : s.testBit (k - se) = b.testBit ((i + k) % se) := by rw [(k3 (k - se) (by omega)).1 (by omega), em]
    have hs63 : s < 2 ^ 63 := Nat.lt_of_lt_of_le k1 (Nat.pow_le_pow_right (by omega) (by omega))
    refine Or.inl ⟨s ||| (if s.testBit (k - se) then 1 else 0) * 2 ^ k, ?_, dbl2 k1, by omega, fun j hj => ⟨fun hjk => ?_, fun ht => ?_⟩⟩
    · show b_X1_take_68 x0 x2 (lN s) (nI k) C = _
      rw [b_X1_take_68, if_neg (show ¬ (64 : Int32) ≤ nI k from fun z => by have := (nI_leI (a := 64) (by omega) (by omega)).mp z; omega), g, pk_sub k2, bit7w hs63 (by omega), wb_shl _ hk, fb_orL, nI_1]
    · rw [dbl1]
      by_cases c : j = k
      · subst c
        rw [ev]
        have := (k3 j hj).2
        cases hv : b.testBit ((i + j) % se)
        · rw [hv] at this
          have : s.testBit j = false := by
            cases hq : s.testBit j
            · rfl
            · exact absurd (this hq) (by decide)
          simp [this]
        · simp
      · rw [(k3 j hj).1 (by omega)]
        simp [c]
    · rw [dbl1] at ht
      by_cases c : s.testBit j = true
      · exact (k3 j hj).2 c
      · have c' : s.testBit j = false := by simpa using c
        rw [c', Bool.false_or, Bool.and_eq_true, decide_eq_true_eq] at ht
        rw [ht.1, ← ev]
        exact ht.2) FU se R (by omega) ⟨Nat.lt_of_lt_of_le hR (Nat.pow_le_pow_right (by omega) (by omega)), Nat.le_refl _, hb⟩ (FU_lt (by omega))
  exact ⟨p, hp, by rw [e1, e2], e3⟩
theorem row0 {se b i : Nat} (h1 : 1 ≤ se) (h30 : se ≤ 30) (hb : b < 2 ^ se) (hi : i < se) : ∃ R, R < 2 ^ 60 ∧ (lN b >>> ((nI i).toInt64 &&& 63)) ||| (lN b <<< ((nI se - nI i).toInt64 &&& 63)) = lN R ∧ ∀ j, j < 64 → (j < se → R.testBit j = b.testBit ((i + j) % se)) ∧ (R.testBit j = true → b.testBit ((i + j) % se) = true) := by
  have hb' := se_lt h30 hb
  have hlt : b / 2 ^ i ||| b * 2 ^ (se - i) < 2 ^ 60 := by
    refine Nat.or_lt_two_pow (Nat.lt_of_le_of_lt (Nat.div_le_self _ _) (by omega)) ?_
    have a1 : b * 2 ^ (se - i) < 2 ^ se * 2 ^ (se - i) := (Nat.mul_lt_mul_right (Nat.two_pow_pos _)).mpr hb
    rw [← Nat.pow_add] at a1
    exact Nat.lt_of_lt_of_le a1 (Nat.pow_le_pow_right (by omega) (by omega))
  have big : ∀ k, se ≤ k → b.testBit k = false := fun k hk => Nat.testBit_lt_two_pow (Nat.lt_of_lt_of_le hb (Nat.pow_le_pow_right (by omega) hk))
  have wrap : ∀ j, se - i ≤ j → j - (se - i) < se → (i + j) % se = j - (se - i) := fun j h1 h2 => by
    have : i + j = (j - (se - i)) + se * 1 := by omega
    rw [this, Nat.add_mul_mod_self_left, Nat.mod_eq_of_lt h2]
  refine ⟨b / 2 ^ i ||| b * 2 ^ (se - i), hlt, ?_, fun j hj => ?_⟩
  · rw [pk_sub (by omega), pf_shr (sh63 (by omega)) (by omega), wb_shl b (by omega), fb_orL]
  · rw [Nat.testBit_or, Nat.testBit_div_two_pow, Nat.testBit_mul_two_pow]
    refine ⟨fun c1 => ?_, fun ht => ?_⟩
    · by_cases c2 : i + j < se
      · have c3 : ¬ se - i ≤ j := by omega
        rw [Nat.mod_eq_of_lt c2, Nat.add_comm j i]
        simp [c3]
      · have c3 : se - i ≤ j := by omega
        rw [wrap j c3 (by omega), big (j + i) (by omega)]
        simp [c3]
    · by_cases c2 : i + j < se
      · have c3 : ¬ se - i ≤ j := by omega
        rw [Nat.mod_eq_of_lt c2, Nat.add_comm i j]
        simpa [c3] using ht
      · have c3 : se - i ≤ j := by omega
        rw [big (j + i) (by omega), Bool.false_or, Bool.and_eq_true] at ht
        have c4 : j - (se - i) < se := by
          rcases Nat.lt_or_ge (j - (se - i)) se with h | h
          · exact h
          · exact absurd ht.2 (by rw [big _ h]; decide)
        rw [wrap j c3 c4]
        exact ht.2
theorem take_ok {C : aSc} {l r s t co pe : Nat} (hl : l < 10) (hr : rhy r s t) (hg : good r t pe) (c4 : a_gi C 1 4 = nI r) (c5 : a_gi C 1 5 = nI t) (c6 : a_gi C 1 6 = nI co) (c7 : a_gi C 1 7 = nI pe) : ∃ C', f_X1_take (24 + 3 * l) C = some C' ∧ C'.2.2 = C.2.2 ∧ (∀ c j, ¬ (c = 24 + 3 * l ∧ (j = 3 ∨ j = 4)) → C'.1 c j = C.1 c j) ∧ C'.1 (24 + 3 * l) 3 = nI co ∧ C'.1 (24 + 3 * l) 4 = nI pe ∧ C'.2.1 (24 + 3 * l) 5 = lN (rfB r t pe pe) ∧ (∀ i, i < pe → ∃ p, p < 2 ^ 64 ∧ C'.2.1 (25 + 3 * l) i = lN p ∧ ∀ j, j < 64 → p.testBit j = (rfB r t pe pe).testBit ((i + j) % pe)) ∧ ∀ c j, ¬ (c = 24 + 3 * l ∧ j = 5) → c ≠ 25 + 3 * l → C'.2.1 c j = C.2.1 c j := by
  obtain ⟨C3, hC3⟩ : ∃ C3, C3 = a_pi (a_pi C (24 + 3 * l) 3 (nI co)) (24 + 3 * l) 4 (nI pe) := ⟨_, rfl⟩
  have c3n : ∀ c j, ¬ (c = 24 + 3 * l ∧ (j = 3 ∨ j = 4)) → C3.1 c j = C.1 c j := fun c j h => by rw [hC3, a_pi_ne (by omega), a_pi_ne (by omega)]
  obtain ⟨k1, ⟨k2, k2'⟩, k3, k4⟩ := lit_ok (C := C3) hr hg ((c3n 1 4 (by omega)).trans c4) ((c3n 1 5 (by omega)).trans c5) ((c3n 1 7 (by omega)).trans c7)
  generalize hB : rfB r t pe pe = b at k1 k2 k2'
  have emax : a_max 1 (a_min 30 (nI pe)) = nI pe := by
    have e1 : a_min 30 (nI pe) = nI pe := by
      unfold a_min
      by_cases h : nI pe < 30
      · rw [if_pos h]
      · have : pe = 30 := by
          have : ¬ pe < 30 := fun z => h ((nI_ltI (b := 30) (by omega) (by omega)).mpr z)
          omega
        rw [if_neg h, this]; rfl
    rw [e1]
    unfold a_max
    by_cases h : 1 < nI pe
    · rw [if_pos h]
    · have : pe = 1 := by
        have : ¬ 1 < pe := fun z => h ((nI_ltI (a := 1) (by omega) (by omega)).mpr z)
        omega
      rw [if_neg h, this]; rfl
  obtain ⟨C7, hC7⟩ : ∃ C7, C7 = a_pl C3 (24 + 3 * l) 5 (lN b) := ⟨_, rfl⟩
  have g4 : a_gi C7 (24 + 3 * l) 4 = nI pe := by rw [hC7, hC3]; exact a_pi_at
  obtain ⟨z, e1, q1, q2, q3, q4⟩ := lpf_ct (body := fun a : Int32 × aSc => b_X1_take_35 (24 + 3 * l) a.1 a.2) (fun i s => (nI i, s)) (fun i w => w.1 = C7.1 ∧ w.2.2 = C7.2.2 ∧ (∀ k, k < i → ∃ p, p < 2 ^ 64 ∧ w.2.1 (25 + 3 * l) k = lN p ∧ ∀ j, j < 64 → p.testBit j = b.testBit ((k + j) % pe)) ∧ ∀ c j, c ≠ 25 + 3 * l → w.2.1 c j = C7.2.1 c j) pe (Q := fun w => w.1 = C7.1 ∧ w.2.2 = C7.2.2 ∧ (∀ k, k < pe → ∃ p, p < 2 ^ 64 ∧ w.2.1 (25 + 3 * l) k = lN p ∧ ∀ j, j < 64 → p.testBit j = b.testBit ((k + j) % pe)) ∧ ∀ c j, c ≠ 25 + 3 * l → w.2.1 c j = C7.2.1 c j) (by
    rintro w ⟨w1, w2⟩
    refine ⟨w, ?_, w1, w2⟩
    show b_X1_take_35 _ (nI pe) w = _
    have k : a_gi w (24 + 3 * l) 4 = nI pe := by show w.1 _ _ = _; rw [w1]; exact g4
    rw [b_X1_take_35, k, if_pos (Int32.le_refl _)]) (by
    rintro i w hi ⟨w1, w2, w3, w4⟩
    have k : a_gi w (24 + 3 * l) 4 = nI pe := by show w.1 _ _ = _; rw [w1]; exact g4
    have kl : a_gl w (24 + 3 * l) 5 = lN b := by
      show w.2.1 _ _ = _
      rw [w4 _ _ (by omega), hC7, a_pl_at]
    obtain ⟨R, hR, eR, bR⟩ := row0 k3 k4 k2 hi
    obtain ⟨p, hp, ep, bp⟩ := dbl (x0 := 24 + 3 * l) (x2 := nI i) (C := w) k3 k4 k hR bR
    have hlen : a_len (25 + 3 * l) (w.2.2 (25 + 3 * l)) = 30 := lenF l _ hl
    refine Or.inl ⟨a_pl w (25 + 3 * l) i (lN p), ?_, w1, w2, fun k hk => ?_, fun c j h => ?_⟩
    · show b_X1_take_35 _ (nI i) w = _
      rw [b_X1_take_35, k, if_neg (fun z => by have := (nI_leI (by omega) (by omega)).mp z; omega), kl, eR, ep, Option.bind_some, show 24 + 3 * l + 1 = 25 + 3 * l by omega, a_stlN (by omega) (by omega), Option.bind_some, nI_1]
    · by_cases e : k = i
      · subst e; exact ⟨p, hp, a_pl_at, bp⟩
      · rw [a_pl_ne (by omega)]; exact w3 k (by omega)
    · rw [a_pl_ne (by omega)]; exact w4 c j h) FU 0 C7 (by omega) ⟨rfl, rfl, fun k hk => absurd hk (by omega), fun _ _ _ => rfl⟩ (FU_lt (by omega))
  rw [show (nI 0) = (0 : Int32) from rfl] at e1
  have hz : ∀ c j, z.1 c j = C3.1 c j := fun c j => by rw [q1, hC7]; rfl
  refine ⟨z, ?_, by rw [q2, hC7, hC3]; rfl, fun c j h => by rw [hz, c3n c j h], by rw [hz, hC3, a_pi_ne (by omega), a_pi_at], by rw [hz, hC3, a_pi_at], by rw [q4 _ _ (by omega), hC7, a_pl_at, ← hB], ?_, fun c j h1 h2 => by rw [q4 c j h2, hC7, a_pl_ne h1, hC3]; rfl⟩
  · have d7 : a_gi (a_pi C (24 + 3 * l) 3 (nI co)) 1 7 = nI pe := a_nt (by omega) c7
    rw [f_X1_take, c6, Option.bind_some, d7, emax, Option.bind_some, ← hC3, k1, Option.bind_some, Option.bind_some, ← hC7, e1, Option.bind_some]
  · exact q3

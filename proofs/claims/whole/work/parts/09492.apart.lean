/-- rows that agree for two periods agree for ever -/
theorem fine {A B : Nat → Bool} {p q : Nat} (hp : 1 ≤ p) (hq : 1 ≤ q) (ha : ∀ t, A (t + p) = A t) (hb : ∀ t, B (t + q) = B t) (h : ∀ t, t < p + q → A t = B t) : ∀ t, A t = B t := by
  intro t
  induction t using Nat.strongRecOn with
  | _ n ih =>
    by_cases hn : n < p + q
    · exact h n hn
    · obtain ⟨m, rfl⟩ : ∃ m, n = m + p + q := ⟨n - p - q, by omega⟩
      have e1 : A (m + p + q) = A (m + q) := by
        have := ha (m + q)
        rw [show m + q + p = m + p + q by omega] at this
        exact this
      have e2 : B (m + p + q) = B (m + p) := hb (m + p)
      have e3 : A (m + p) = A m := ha m
      have e4 : B (m + q) = B m := hb m
      rw [e1, e2, ih (m + q) (by omega), e4, ← ih m (by omega), ← e3, ih (m + p) (by omega)]
theorem low_mod {D t : Nat} (h1 : D.testBit t = true) (h2 : ∀ j, j < t → D.testBit j = false) : D % 2 ^ (t + 1) = 2 ^ t := by
  apply Nat.eq_of_testBit_eq
  intro i
  rw [Nat.testBit_mod_two_pow, Nat.testBit_two_pow]
  rcases Nat.lt_trichotomy i t with h | h | h
  · rw [h2 i h]; simp; omega
  · subst h; rw [h1]; simp
  · have : ¬ i < t + 1 := by omega
    simp [this]; omega
theorem low_and {D t : Nat} (hD : D < 2 ^ 64) (h1 : D.testBit t = true) (h2 : ∀ j, j < t → D.testBit j = false) : D &&& (2 ^ 64 - D) = 2 ^ t := by
  have hm := low_mod h1 h2
  have hd : D = 2 ^ (t + 1) * (D / 2 ^ (t + 1)) + 2 ^ t := by
    have := Nat.div_add_mod D (2 ^ (t + 1))
    rw [hm] at this
    exact this.symm
  have hpos : 1 ≤ 2 ^ t := Nat.one_le_two_pow
  have hlt : 2 ^ t < 2 ^ (t + 1) := Nat.pow_lt_pow_right (by omega) (by omega)
  have hD1 : D - 1 = 2 ^ (t + 1) * (D / 2 ^ (t + 1)) + (2 ^ t - 1) := by omega
  have hneg : 2 ^ 64 - D = 2 ^ 64 - ((D - 1) + 1) := by
    have : 1 ≤ D := by
      have : 0 ≤ 2 ^ (t + 1) * (D / 2 ^ (t + 1)) := Nat.zero_le _
      omega
    omega
  apply Nat.eq_of_testBit_eq
  intro i
  rw [Nat.testBit_and, hneg, Nat.testBit_two_pow_sub_succ (by omega), Nat.testBit_two_pow, hD1]
  generalize hm2 : D / 2 ^ (t + 1) = m at hd hD1
  rw [Nat.testBit_two_pow_mul_add _ (by omega)]
  have hd' : D.testBit i = (2 ^ (t + 1) * m + 2 ^ t).testBit i := by rw [← hd]
  rw [hd', Nat.testBit_two_pow_mul_add _ hlt]
  by_cases hi : i < t + 1
  · rw [if_pos hi, if_pos hi, Nat.testBit_two_pow, Nat.testBit_two_pow_sub_one]
    have ht64 : t < 64 := by
      rcases Nat.lt_or_ge t 64 with h | h
      · exact h
      · exfalso
        have : D.testBit t = false := Nat.testBit_lt_two_pow (Nat.lt_of_lt_of_le hD (Nat.pow_le_pow_right (by omega) h))
        rw [this] at h1
        exact absurd h1 (by decide)
    have hi64 : i < 64 := by omega
    by_cases e : t = i
    · subst e; simp [hi64]
    · simp [e]
  · rw [if_neg hi, if_neg hi]
    have : ¬ t = i := by omega
    simp [this]
    exact fun h _ => h
theorem neg_lN {D : Nat} (hD : D < 2 ^ 64) : -lN D = lN (2 ^ 64 - D) := by
  apply wb_inj
  rw [Int64.toBitVec_neg, wb_tb, wb_tb]
  apply BitVec.eq_of_toNat_eq
  rw [BitVec.toNat_neg, BitVec.toNat_ofNat, BitVec.toNat_ofNat, Nat.mod_eq_of_lt hD]
set_option maxRecDepth 100000 in
theorem cnt13 : ∀ t, t < 64 → f_J13_bitCount_95d88 (lN (2 ^ t) - 1) = some (nI t) := by decide +kernel
theorem low13 {D t : Nat} (hD : D < 2 ^ 64) (ht : t < 64) (h1 : D.testBit t = true) (h2 : ∀ j, j < t → D.testBit j = false) : f_J13_bitCount_95d88 ((lN D &&& -lN D) - 1) = some (nI t) := by
  rw [neg_lN hD, fb_andL, low_and hD h1 h2]
  exact cnt13 t ht
theorem lN_z {D : Nat} (hD : D < 2 ^ 64) : lN D = 0 ↔ D = 0 := by
  constructor
  · intro h
    have := congrArg (fun x : Int64 => x.toBitVec.toNat) h
    simp only [wb_tn hD] at this
    exact this
  · rintro rfl; rfl
/-- one pair of beginnings -/
theorem pair_t {M : aMm} {a b sa sb ba bb pa pb i k : Nat} (ha : a < 10) (hb : b < 10) (h1 : 1 ≤ sa) (h30 : sa ≤ 30) (hba : ba < 2 ^ sa) (na4 : M 1 (10 + 22 * a + 4) = nI sa) (na5 : M 1 (10 + 22 * a + 5) = nI ba) (g1 : 1 ≤ sb) (g30 : sb ≤ 30) (hbb : bb < 2 ^ sb) (nb4 : M 1 (10 + 22 * b + 4) = nI sb) (nb5 : M 1 (10 + 22 * b + 5) = nI bb) (hi : i < sa) (hk : k < sb) (hpa : pa < 2 ^ 64) (ta : ∀ j, j < 64 → pa.testBit j = ba.testBit ((i + j) % sa)) (hpb : pb < 2 ^ 64) (tb : ∀ j, j < 64 → pb.testBit j = bb.testBit ((k + j) % sb)) (x3 : Int32) : ∃ t, t ≤ 60 ∧ lpf (fun z : Int32 => b_X8_alike_41 (nI a) (nI b) x3 (nI i) (nI k) z M) FU (0 : Int32) = some (nI t) ∧ ((t = 60 ∧ lg_cmp (lN pa ^^^ lN pb) 0 = 0) ∨ (t < 60 ∧ ¬ lg_cmp (lN pa ^^^ lN pb) 0 = 0 ∧ f_J13_bitCount_95d88 (((lN pa ^^^ lN pb) &&& -(lN pa ^^^ lN pb)) - 1) = some (nI t))) := by
  obtain ⟨r, e1, t, rfl, t60, q1, q2⟩ := lpf_ct (body := fun z : Int32 => b_X8_alike_41 (nI a) (nI b) x3 (nI i) (nI k) z M) (fun n (_ : Unit) => nI n) (fun n _ => ∀ j, j < n → ba.testBit ((i + j) % sa) = bb.testBit ((k + j) % sb)) 60 (Q := fun r => ∃ t, r = nI t ∧ t ≤ 60 ∧ (∀ j, j < t → ba.testBit ((i + j) % sa) = bb.testBit ((k + j) % sb)) ∧ (t < 60 → ba.testBit ((i + t) % sa) ≠ bb.testBit ((k + t) % sb))) (by
    intro _ hI
    refine ⟨nI 60, ?_, 60, rfl, by omega, hI, fun h => absurd h (by omega)⟩
    show b_X8_alike_41 _ _ _ _ _ (nI 60) M = _
    rw [b_X8_alike_41, if_pos (show (60 : Int32) ≤ nI 60 from by decide)]) (by
    intro n _ hn hI
    have u1 := has8 (M := M) (k := i + n) ha h1 h30 hba (by omega) na4 na5
    have u2 := has8 (M := M) (k := k + n) hb g1 g30 hbb (by omega) nb4 nb5
    have hbd : b_X8_alike_41 (nI a) (nI b) x3 (nI i) (nI k) (nI n) M = if (if ba.testBit ((i + n) % sa) then (1 : Int32) else 0) = (if bb.testBit ((k + n) % sb) then (1 : Int32) else 0) then some (.inl (nI (n + 1))) else some (.inr (nI n)) := by
      rw [b_X8_alike_41, if_neg (show ¬ (60 : Int32) ≤ nI n from fun z => by have := (nI_leI (a := 60) (by omega) (by omega)).mp z; omega), nI_add, nI_add, u1, Option.bind_some, u2, Option.bind_some, nI_1]
    by_cases hc : ba.testBit ((i + n) % sa) = bb.testBit ((k + n) % sb)
    · refine Or.inl ⟨(), hbd.trans (if_pos (by rw [hc])), fun j hj => ?_⟩
      by_cases e : j = n
      · subst e; exact hc
      · exact hI j (by omega)
    · refine Or.inr ⟨nI n, hbd.trans (if_neg (fun z => hc ?_)), n, rfl, by omega, hI, fun _ => hc⟩
      cases hx : ba.testBit ((i + n) % sa) <;> cases hy : bb.testBit ((k + n) % sb) <;> rw [hx, hy] at z <;> first | rfl | exact absurd z (by decide)) FU 0 () (by omega) (fun j hj => absurd hj (by omega)) (FU_lt (by omega))
  refine ⟨t, t60, e1, ?_⟩
  have hD : pa ^^^ pb < 2 ^ 64 := Nat.xor_lt_two_pow hpa hpb
  rw [lg_cmp_eq, lN_xor, lN_z hD]
  rcases Nat.lt_or_ge t 60 with ht | ht
  · refine Or.inr ⟨ht, fun z => ?_, low13 hD (by omega) ?_ (fun j hj => ?_)⟩
    · have : (pa ^^^ pb).testBit t = false := by rw [z, Nat.zero_testBit]
      rw [Nat.testBit_xor, ta t (by omega), tb t (by omega)] at this
      exact q2 ht (by simpa using this)
    · rw [Nat.testBit_xor, ta t (by omega), tb t (by omega)]
      have := q2 ht
      simpa using this
    · rw [Nat.testBit_xor, ta j (by omega), tb j (by omega), q1 j hj]
      simp
  · have e60 : t = 60 := by omega
    subst e60
    refine Or.inl ⟨rfl, ?_⟩
    have hf := fine (A := fun t => ba.testBit ((i + t) % sa)) (B := fun t => bb.testBit ((k + t) % sb)) (p := sa) (q := sb) h1 g1 (fun t => by
      show ba.testBit ((i + (t + sa)) % sa) = _
      rw [← Nat.add_assoc, Nat.add_mod_right]) (fun t => by
      show bb.testBit ((k + (t + sb)) % sb) = _
      rw [← Nat.add_assoc, Nat.add_mod_right]) (fun t ht => q1 t (by omega))
    apply Nat.eq_of_testBit_eq
    intro j
    rw [Nat.zero_testBit]
    rcases Nat.lt_or_ge j 64 with hj | hj
    · have := hf j
      rw [Nat.testBit_xor, ta j hj, tb j hj, this]
      simp
    · exact Nat.testBit_lt_two_pow (Nat.lt_of_lt_of_le hD (Nat.pow_le_pow_right (by omega) hj))
def mxk (T : Nat → Nat) : Nat → Nat
  | 0 => 0
  | n + 1 => max (mxk T n) (T n)
theorem mxk_le {T : Nat → Nat} {c : Nat} : ∀ {n : Nat}, (∀ i, i < n → T i ≤ c) → mxk T n ≤ c
  | 0, _ => Nat.zero_le _
  | n + 1, h => Nat.max_le.mpr ⟨mxk_le (fun i hi => h i (by omega)), h n (by omega)⟩
theorem mxk_ge {T : Nat → Nat} : ∀ {n i : Nat}, i < n → T i ≤ mxk T n
  | n + 1, i, h => by
    by_cases e : i = n
    · subst e; exact Nat.le_max_right _ _
    · exact Nat.le_trans (mxk_ge (show i < n by omega)) (Nat.le_max_left _ _)
theorem max_nI {a b : Nat} (ha : a < 2 ^ 31) (hb : b < 2 ^ 31) : a_max (nI a) (nI b) = nI (max a b) := by
  unfold a_max
  rcases Nat.lt_trichotomy a b with h | h | h
  · have h1 : nI a < nI b := (nI_ltI ha hb).mpr h
    have e : max a b = b := by omega
    rw [e]
    first
      | rw [if_pos h1]
      | rw [if_neg (fa_of_lt h1).2.1]
      | rw [if_neg (fa_of_lt h1).2.2.1]
  · subst h
    have e : max a a = a := by omega
    rw [e]
    split <;> rfl
  · have h1 : nI b < nI a := (nI_ltI hb ha).mpr h
    have e : max a b = a := by omega
    rw [e]
    first
      | rw [if_pos h1]
      | rw [if_neg (fa_of_lt h1).2.1]
      | rw [if_neg (fa_of_lt h1).2.2.1]
theorem lenF (l n : Nat) (h : l < 10) : a_len (25 + 3 * l) n = 30 := by
  have : l = 0 ∨ l = 1 ∨ l = 2 ∨ l = 3 ∨ l = 4 ∨ l = 5 ∨ l = 6 ∨ l = 7 ∨ l = 8 ∨ l = 9 := by omega
  rcases this with rfl | rfl | rfl | rfl | rfl | rfl | rfl | rfl | rfl | rfl <;> rfl
/-- how long two can look alike, both sides -/
theorem alike_ok {C : aSc} {M : aMm} {a b : Nat} (ha : a < 10) (hb : b < 10) (hVa : V_r C (M 1) a) (hVb : V_r C (M 1) b) : ∃ m, m ≤ 60 ∧ f_X7_mostAlike (24 + 3 * a) (24 + 3 * b) C = some (if m < 60 then nI m else -1) ∧ f_X8_alike (nI a) (nI b) M = some (nI m) := by
  obtain ⟨sa, ba, h1, h30, ⟨hba, -⟩, ca4, na4, ca5, na5, hpa⟩ := hVa
  obtain ⟨sb, bb, g1, g30, ⟨hbb, -⟩, cb4, nb4, cb5, nb5, hpb⟩ := hVb
  have hlen : a_len (94 + 1) 0 = 386 := rfl
  have ga : a_gi C (24 + 3 * a) 4 = nI sa := ca4
  have gb : a_gi C (24 + 3 * b) 4 = nI sb := cb4
  have la : a_len (25 + 3 * a) (C.2.2 (25 + 3 * a)) = 30 := lenF a _ ha
  have lb : a_len (25 + 3 * b) (C.2.2 (25 + 3 * b)) = 30 := lenF b _ hb
  have H : ∀ i, i < sa → ∀ k, k < sb → ∃ t, t ≤ 60 ∧ (∀ x3, lpf (fun z : Int32 => b_X8_alike_41 (nI a) (nI b) x3 (nI i) (nI k) z M) FU (0 : Int32) = some (nI t)) ∧ ((t = 60 ∧ lg_cmp (C.2.1 (25 + 3 * a) i ^^^ C.2.1 (25 + 3 * b) k) 0 = 0) ∨ (t < 60 ∧ ¬ lg_cmp (C.2.1 (25 + 3 * a) i ^^^ C.2.1 (25 + 3 * b) k) 0 = 0 ∧ f_J13_bitCount_95d88 (((C.2.1 (25 + 3 * a) i ^^^ C.2.1 (25 + 3 * b) k) &&& -(C.2.1 (25 + 3 * a) i ^^^ C.2.1 (25 + 3 * b) k)) - 1) = some (nI t))) := by
    intro i hi k hk
    obtain ⟨pa, p1, p2, p3⟩ := hpa i hi
    obtain ⟨pb, q1, q2, q3⟩ := hpb k hk
    rw [p2, q2]
    obtain ⟨t, t1, t2, t3⟩ := pair_t ha hb h1 h30 hba na4 na5 g1 g30 hbb nb4 nb5 hi hk p1 p3 q1 q3 0
    refine ⟨t, t1, fun x3 => ?_, t3⟩
    rw [← t2]
    rfl
  obtain ⟨T, hT⟩ : ∃ T : Nat → Nat → Nat, ∀ i, i < sa → ∀ k, k < sb → T i k ≤ 60 ∧ (∀ x3, lpf (fun z : Int32 => b_X8_alike_41 (nI a) (nI b) x3 (nI i) (nI k) z M) FU (0 : Int32) = some (nI (T i k))) ∧ ((T i k = 60 ∧ lg_cmp (C.2.1 (25 + 3 * a) i ^^^ C.2.1 (25 + 3 * b) k) 0 = 0) ∨ (T i k < 60 ∧ ¬ lg_cmp (C.2.1 (25 + 3 * a) i ^^^ C.2.1 (25 + 3 * b) k) 0 = 0 ∧ f_J13_bitCount_95d88 (((C.2.1 (25 + 3 * a) i ^^^ C.2.1 (25 + 3 * b) k) &&& -(C.2.1 (25 + 3 * a) i ^^^ C.2.1 (25 + 3 * b) k)) - 1) = some (nI (T i k)))) := by
    refine ⟨fun i k => if h : i < sa then if h' : k < sb then Classical.choose (H i h k h') else 0 else 0, fun i hi k hk => ?_⟩
    simp only [hi, hk, dif_pos]
    exact Classical.choose_spec (H i hi k hk)
  have hrow : ∀ i, i < sa → mxk (T i) sb ≤ 60 := fun i hi => mxk_le (fun k hk => (hT i hi k hk).1)
  -- the reference
  have r8 : ∀ i, i < sa → ∀ s, s ≤ 60 → lpf (fun z : Int32 × Int32 => b_X8_alike_23 (nI a) (nI b) (nI i) z.1 z.2 M) FU (nI s, (0 : Int32)) = some (nI (max s (mxk (T i) sb))) := by
    intro i hi s hs
    have o4 : f_X8_of (nI b) 4 M = some (nI (10 + 22 * b + 4)) := of_nI
    obtain ⟨r, e1, e2⟩ := lpf_ct (body := fun z : Int32 × Int32 => b_X8_alike_23 (nI a) (nI b) (nI i) z.1 z.2 M) (fun k (v : Int32) => (v, nI k)) (fun k v => v = nI (max s (mxk (T i) k))) sb (Q := fun r => r = nI (max s (mxk (T i) sb))) (by
      rintro v rfl
      refine ⟨_, ?_, rfl⟩
      show b_X8_alike_23 _ _ _ _ (nI sb) M = _
      rw [b_X8_alike_23, o4, Option.bind_some, m_ldN (by omega) (by omega), Option.bind_some, nb4, if_pos (Int32.le_refl _)]) (by
      rintro k v hk rfl
      obtain ⟨t1, t2, t3⟩ := hT i hi k hk
      have hm : mxk (T i) k ≤ 60 := mxk_le (fun k' hk' => (hT i hi k' (by omega)).1)
      refine Or.inl ⟨nI (max s (mxk (T i) (k + 1))), ?_, rfl⟩
      show b_X8_alike_23 _ _ _ _ (nI k) M = _
      rw [b_X8_alike_23, o4, Option.bind_some, m_ldN (by omega) (by omega), Option.bind_some, nb4, if_neg (fun z => by have := (nI_leI (by omega) (by omega)).mp z; omega), t2, Option.bind_some, max_nI (by omega) (by omega), nI_1]
      congr 4
      show max (max s (mxk (T i) k)) (T i k) = max s (max (mxk (T i) k) (T i k))
      omega) FU 0 (nI s) (by omega) (by show nI s = nI (max s 0); congr 1; omega) (FU_lt (by omega))
    rw [show (nI 0) = (0 : Int32) from rfl] at e1
    rw [e1, e2]
  have hmx : ∀ n, n ≤ sa → mxk (fun i => mxk (T i) sb) n ≤ 60 := fun n hn => mxk_le (fun i hi => hrow i (by omega))
  have f8 : f_X8_alike (nI a) (nI b) M = some (nI (mxk (fun i => mxk (T i) sb) sa)) := by
    have o4 : f_X8_of (nI a) 4 M = some (nI (10 + 22 * a + 4)) := of_nI
    obtain ⟨r, e1, e2⟩ := lpf_ct (body := fun z : Int32 × Int32 => b_X8_alike_5 (nI a) (nI b) z.1 z.2 M) (fun k (v : Int32) => (v, nI k)) (fun k v => v = nI (mxk (fun i => mxk (T i) sb) k)) sa (Q := fun r => r = nI (mxk (fun i => mxk (T i) sb) sa)) (by
      rintro v rfl
      refine ⟨_, ?_, rfl⟩
      show b_X8_alike_5 _ _ _ (nI sa) M = _
      rw [b_X8_alike_5, o4, Option.bind_some, m_ldN (by omega) (by omega), Option.bind_some, na4, if_pos (Int32.le_refl _)]) (by
      rintro k v hk rfl
      refine Or.inl ⟨nI (mxk (fun i => mxk (T i) sb) (k + 1)), ?_, rfl⟩
      show b_X8_alike_5 _ _ _ (nI k) M = _
      rw [b_X8_alike_5, o4, Option.bind_some, m_ldN (by omega) (by omega), Option.bind_some, na4, if_neg (fun z => by have := (nI_leI (by omega) (by omega)).mp z; omega), r8 k hk _ (hmx k (by omega)), Option.bind_some, nI_1]
      rfl) FU 0 0 (by omega) rfl (FU_lt (by omega))
    rw [show (nI 0) = (0 : Int32) from rfl] at e1
    rw [f_X8_alike, e1, Option.bind_some, e2]
  -- the class
  have r7 : ∀ i, i < sa → ∀ s, s < 60 → ∃ r, lpf (fun z : Int32 × Int32 => b_X7_mostAlike_15 (24 + 3 * a) (24 + 3 * b) (nI i) z.1 z.2 C) FU (nI s, (0 : Int32)) = some r ∧ ((r = .inl (nI (max s (mxk (T i) sb))) ∧ mxk (T i) sb < 60) ∨ (r = .inr (-1) ∧ mxk (T i) sb = 60)) := by
    intro i hi s hs
    obtain ⟨r, e1, e2⟩ := lpf_ct (body := fun z : Int32 × Int32 => b_X7_mostAlike_15 (24 + 3 * a) (24 + 3 * b) (nI i) z.1 z.2 C) (fun k (v : Int32) => (v, nI k)) (fun k v => v = nI (max s (mxk (T i) k)) ∧ mxk (T i) k < 60) sb (Q := fun r => (r = .inl (nI (max s (mxk (T i) sb))) ∧ mxk (T i) sb < 60) ∨ (r = .inr (-1) ∧ mxk (T i) sb = 60)) (by
      rintro v ⟨rfl, hv⟩
      refine ⟨_, ?_, Or.inl ⟨rfl, hv⟩⟩
      show b_X7_mostAlike_15 _ _ _ _ (nI sb) C = _
      rw [b_X7_mostAlike_15, gb, if_pos (Int32.le_refl _)]) (by
      rintro k v hk ⟨rfl, hv⟩
      obtain ⟨t1, t2, t3⟩ := hT i hi k hk
      have hbd : b_X7_mostAlike_15 (24 + 3 * a) (24 + 3 * b) (nI i) (nI (max s (mxk (T i) k))) (nI k) C = if (lg_cmp (C.2.1 (25 + 3 * a) i ^^^ C.2.1 (25 + 3 * b) k) 0 : Int32) = 0 then some (.inr (.inr (-1))) else (f_J13_bitCount_95d88 (((C.2.1 (25 + 3 * a) i ^^^ C.2.1 (25 + 3 * b) k) &&& -(C.2.1 (25 + 3 * a) i ^^^ C.2.1 (25 + 3 * b) k)) - 1)).bind fun r6 => some (.inl (a_max (nI (max s (mxk (T i) k))) r6, nI (k + 1))) := by
        rw [b_X7_mostAlike_15, gb, if_neg (fun z => by have := (nI_leI (by omega) (by omega)).mp z; omega), show 24 + 3 * a + 1 = 25 + 3 * a by omega, show 24 + 3 * b + 1 = 25 + 3 * b by omega, a_ldlN (by omega) (by omega), Option.bind_some, a_ldlN (by omega) (by omega), Option.bind_some, nI_1]
      rcases t3 with ⟨u1, u2⟩ | ⟨u1, u2, u3⟩
      · refine Or.inr ⟨_, hbd.trans (if_pos u2), Or.inr ⟨rfl, ?_⟩⟩
        have := mxk_ge (T := T i) hk
        have := hrow i hi
        omega
      · refine Or.inl ⟨nI (max s (mxk (T i) (k + 1))), hbd.trans ?_, rfl, ?_⟩
        · rw [if_neg u2, u3, Option.bind_some, max_nI (by omega) (by omega)]
          congr 4
          show max (max s (mxk (T i) k)) (T i k) = max s (max (mxk (T i) k) (T i k))
          omega
        · show max (mxk (T i) k) (T i k) < 60
          omega) FU 0 (nI s) (by omega) ⟨by show nI s = nI (max s 0); congr 1; omega, by show 0 < 60; decide⟩ (FU_lt (by omega))
    rw [show (nI 0) = (0 : Int32) from rfl] at e1
    exact ⟨r, e1, e2⟩
  have f7 : f_X7_mostAlike (24 + 3 * a) (24 + 3 * b) C = some (if mxk (fun i => mxk (T i) sb) sa < 60 then nI (mxk (fun i => mxk (T i) sb) sa) else -1) := by
    obtain ⟨r, e1, e2⟩ := lpf_ct (body := fun z : Int32 × Int32 => b_X7_mostAlike_4 (24 + 3 * a) (24 + 3 * b) z.1 z.2 C) (fun k (v : Int32) => (v, nI k)) (fun k v => v = nI (mxk (fun i => mxk (T i) sb) k) ∧ mxk (fun i => mxk (T i) sb) k < 60) sa (Q := fun r => (r = .inl (nI (mxk (fun i => mxk (T i) sb) sa)) ∧ mxk (fun i => mxk (T i) sb) sa < 60) ∨ (r = .inr (-1) ∧ mxk (fun i => mxk (T i) sb) sa = 60)) (by
      rintro v ⟨rfl, hv⟩
      refine ⟨_, ?_, Or.inl ⟨rfl, hv⟩⟩
      show b_X7_mostAlike_4 _ _ _ (nI sa) C = _
      rw [b_X7_mostAlike_4, ga, if_pos (Int32.le_refl _)]) (by
      rintro k v hk ⟨rfl, hv⟩
      obtain ⟨r, u1, u2⟩ := r7 k hk _ hv
      have hbd : b_X7_mostAlike_4 (24 + 3 * a) (24 + 3 * b) (nI (mxk (fun i => mxk (T i) sb) k)) (nI k) C = Sum.elim (fun z9a => some (.inl (z9a, nI (k + 1)))) (fun z12 => some (.inr (.inr z12))) r := by
        rw [b_X7_mostAlike_4, ga, if_neg (fun z => by have := (nI_leI (by omega) (by omega)).mp z; omega), u1, Option.bind_some, nI_1]
      rcases u2 with ⟨rfl, u3⟩ | ⟨rfl, u3⟩
      · refine Or.inl ⟨nI (mxk (fun i => mxk (T i) sb) (k + 1)), hbd, rfl, ?_⟩
        show max (mxk (fun i => mxk (T i) sb) k) (mxk (T k) sb) < 60
        omega
      · refine Or.inr ⟨_, hbd, Or.inr ⟨rfl, ?_⟩⟩
        have h5 := mxk_ge (T := fun i => mxk (T i) sb) hk
        have h5' : mxk (T k) sb ≤ mxk (fun i => mxk (T i) sb) sa := h5
        have := hmx sa (Nat.le_refl _)
        omega) FU 0 0 (by omega) ⟨rfl, by show 0 < 60; decide⟩ (FU_lt (by omega))
    rw [show (nI 0) = (0 : Int32) from rfl] at e1
    rw [f_X7_mostAlike, e1, Option.bind_some]
    rcases e2 with ⟨rfl, u⟩ | ⟨rfl, u⟩
    · rw [if_pos u]; rfl
    · rw [if_neg (by omega)]; rfl
  exact ⟨_, hmx sa (Nat.le_refl _), f7, f8⟩
theorem pr_apart (a0 : Int32) (a1 : Int32) {C : aSc} {M : aMm} (hR : Rel C M) : ∃ (v : Int32) (C' : aSc) (M' : aMm), f_X7_apart a0 a1 C = some (v, C') ∧ f_X8_apart a0 a1 M = some (v, M') ∧ Rel C' M' := by
  obtain ⟨nl, nb, nf, nw, hz, dy, hV⟩ := hR.1
  obtain ⟨⟨h0, ⟨h1, h1'⟩, -⟩, hL, -⟩ := id hV
  rcases isLight_pair (by omega) h1 h1' a0 with ⟨l, hl, rfl, i1, i2⟩ | ⟨i1, i2⟩
  rotate_left
  · refine ⟨-100001, _, _, ?_, ?_, rel_refuse hR⟩
    · rw [f_X7_apart, i1, Option.bind_some, if_pos (by decide)]; rfl
    · rw [f_X8_apart, i2, Option.bind_some, if_pos (by decide)]; rfl
  rcases isLight_pair (by omega) h1 h1' a1 with ⟨k, hk, rfl, j1, j2⟩ | ⟨j1, j2⟩
  rotate_left
  · refine ⟨-100001, _, _, ?_, ?_, rel_refuse hR⟩
    · rw [f_X7_apart, i1, Option.bind_some, if_neg (by decide), j1, Option.bind_some, if_pos (by decide)]; rfl
    · rw [f_X8_apart, i2, Option.bind_some, if_neg (by decide), j2, Option.bind_some, if_pos (by decide)]; rfl
  by_cases e : l = k
  · subst e
    refine ⟨-100003, _, _, ?_, ?_, rel_refuse hR⟩
    · rw [f_X7_apart, i1, Option.bind_some, if_neg (by decide), Option.bind_some, if_neg (by decide), if_pos rfl]; rfl
    · rw [f_X8_apart, i2, Option.bind_some, if_neg (by decide), Option.bind_some, if_neg (by decide), if_pos rfl]; rfl
  have ne : ¬ nI l = nI k := fun z => e ((nI_eq (by omega) (by omega)).mp z)
  obtain ⟨m, hm, f7, f8⟩ := alike_ok (C := C) (M := M) (a := l) (b := k) (by omega) (by omega) (hL l hl).2.2.2.2.1 (hL k hk).2.2.2.2.1
  by_cases h60 : m < 60
  · rw [if_pos h60] at f7
    refine ⟨nI (m + 1), C, M, ?_, ?_, hR⟩
    · rw [f_X7_apart, i1, Option.bind_some, if_neg (by decide), j1, Option.bind_some, if_neg (by decide), if_neg ne, a_rfN (by omega) (by omega), Option.bind_some, a_rfN (by omega) (by omega), Option.bind_some, f7, Option.bind_some, if_pos (nI_pos' (by omega)), nI_1]
    · rw [f_X8_apart, i2, Option.bind_some, if_neg (by decide), j2, Option.bind_some, if_neg (by decide), if_neg ne, f8, Option.bind_some, if_pos (show nI m < (60 : Int32) from (nI_ltI (b := 60) (by omega) (by omega)).mpr h60), nI_1]
  · rw [if_neg h60] at f7
    refine ⟨-100006, _, _, ?_, ?_, rel_refuse hR⟩
    · rw [f_X7_apart, i1, Option.bind_some, if_neg (by decide), j1, Option.bind_some, if_neg (by decide), if_neg ne, a_rfN (by omega) (by omega), Option.bind_some, a_rfN (by omega) (by omega), Option.bind_some, f7, Option.bind_some, if_neg (by decide)]; rfl
    · rw [f_X8_apart, i2, Option.bind_some, if_neg (by decide), j2, Option.bind_some, if_neg (by decide), if_neg ne, f8, Option.bind_some, if_neg (show ¬ nI m < (60 : Int32) from fun z => by have := (nI_ltI (b := 60) (by omega) (by omega)).mp z; omega)]; rfl

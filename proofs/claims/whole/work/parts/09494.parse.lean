theorem a_gi_pi {C : aSc} {c j c' k : Nat} {v : Int32} : a_gi (a_pi C c j v) c' k = if c' = c ∧ k = j then v else a_gi C c' k := by
  show (a_pi C c j v).1 c' k = _
  by_cases h : c' = c ∧ k = j
  · obtain ⟨rfl, rfl⟩ := h
    rw [a_pi_at, if_pos ⟨rfl, rfl⟩]
  · rw [a_pi_ne h, if_neg h]; rfl
theorem m_gi_pi {M : aMm} {c j c' k : Nat} {v : Int32} : m_gi (m_pi M c j v) c' k = if c' = c ∧ k = j then v else m_gi M c' k := by
  show (m_pi M c j v) c' k = _
  by_cases h : c' = c ∧ k = j
  · obtain ⟨rfl, rfl⟩ := h
    rw [m_pi_at, if_pos ⟨rfl, rfl⟩]
  · rw [m_pi_ne h, if_neg h]; rfl
/-- the tape, as both hold it -/
def FC (n : Nat) (T : Nat → Int32) (C : aSc) : Prop := a_gi C 1 1 = nI n ∧ ∀ i, i < n → C.1 2 i = T i
def FM (n : Nat) (T : Nat → Int32) (M : aMm) : Prop := m_gi M 0 5 = nI n ∧ ∀ i, i < n → M 3 i = T i
theorem FC_pi {n : Nat} {T : Nat → Int32} {C : aSc} {j : Nat} {v : Int32} (h : FC n T C) (hj : j ≠ 1) : FC n T (a_pi C 1 j v) := ⟨by rw [a_gi_pi, if_neg (by omega)]; exact h.1, fun i hi => by rw [a_pi_ne (by omega)]; exact h.2 i hi⟩
theorem FM_pi {n : Nat} {T : Nat → Int32} {M : aMm} {j : Nat} {v : Int32} (h : FM n T M) (hj : j ≠ 5) : FM n T (m_pi M 0 j v) := ⟨by rw [m_gi_pi, if_neg (by omega)]; exact h.1, fun i hi => by rw [m_pi_ne (by omega)]; exact h.2 i hi⟩
/-- what a reader leaves -/
def XC (C C' : aSc) (ok : Nat → Bool) : Prop := C'.2 = C.2 ∧ ∀ c j, ¬ (c = 1 ∧ ok j = true) → C'.1 c j = C.1 c j
def XM (M M' : aMm) (ok : Nat → Bool) : Prop := ∀ m j, ¬ (m = 0 ∧ ok j = true) → M' m j = M m j
theorem XC_refl {C : aSc} {ok : Nat → Bool} : XC C C ok := ⟨rfl, fun _ _ _ => rfl⟩
theorem XM_refl {M : aMm} {ok : Nat → Bool} : XM M M ok := fun _ _ _ => rfl
theorem XC_pi {C C' : aSc} {ok : Nat → Bool} {j : Nat} {v : Int32} (h : XC C C' ok) (hj : ok j = true) : XC C (a_pi C' 1 j v) ok := ⟨h.1, fun c k hk => by rw [a_pi_ne (fun z => hk ⟨z.1, by rw [z.2]; exact hj⟩)]; exact h.2 c k hk⟩
theorem XM_pi {M M' : aMm} {ok : Nat → Bool} {j : Nat} {v : Int32} (h : XM M M' ok) (hj : ok j = true) : XM M (m_pi M' 0 j v) ok := fun c k hk => by rw [m_pi_ne (fun z => hk ⟨z.1, by rw [z.2]; exact hj⟩)]; exact h c k hk
theorem XC_tr {C C' C'' : aSc} {ok ok' ok2 : Nat → Bool} (h : XC C C' ok) (h' : XC C' C'' ok') (h1 : ∀ j, ok j = true → ok2 j = true) (h2 : ∀ j, ok' j = true → ok2 j = true) : XC C C'' ok2 := ⟨h'.1.trans h.1, fun c j hj => (h'.2 c j (fun z => hj ⟨z.1, h2 _ z.2⟩)).trans (h.2 c j (fun z => hj ⟨z.1, h1 _ z.2⟩))⟩
theorem XM_tr {M M' M'' : aMm} {ok ok' ok2 : Nat → Bool} (h : XM M M' ok) (h' : XM M' M'' ok') (h1 : ∀ j, ok j = true → ok2 j = true) (h2 : ∀ j, ok' j = true → ok2 j = true) : XM M M'' ok2 := fun c j hj => (h' c j (fun z => hj ⟨z.1, h2 _ z.2⟩)).trans (h c j (fun z => hj ⟨z.1, h1 _ z.2⟩))
theorem FC_X {n : Nat} {T : Nat → Int32} {C C' : aSc} {ok : Nat → Bool} (h : FC n T C) (x : XC C C' ok) (h1 : ok 1 = false) : FC n T C' := ⟨(x.2 1 1 (fun z => by rw [h1] at z; exact absurd z.2 (by decide))).trans h.1, fun i hi => (x.2 2 i (fun z => absurd z.1 (by decide))).trans (h.2 i hi)⟩
theorem FM_X {n : Nat} {T : Nat → Int32} {M M' : aMm} {ok : Nat → Bool} (h : FM n T M) (x : XM M M' ok) (h5 : ok 5 = false) : FM n T M' := ⟨(x 0 5 (fun z => by rw [h5] at z; exact absurd z.2 (by decide))).trans h.1, fun i hi => (x 3 i (fun z => absurd z.1 (by decide))).trans (h.2 i hi)⟩
theorem XC_at {C C' : aSc} {ok : Nat → Bool} (x : XC C C' ok) {j : Nat} (h : ok j = false) : a_gi C' 1 j = a_gi C 1 j := x.2 1 j (fun z => by rw [h] at z; exact absurd z.2 (by decide))
theorem XM_at {M M' : aMm} {ok : Nat → Bool} (x : XM M M' ok) {j : Nat} (h : ok j = false) : m_gi M' 0 j = m_gi M 0 j := x 0 j (fun z => by rw [h] at z; exact absurd z.2 (by decide))
theorem takes7 {n : Nat} {T : Nat → Int32} {C : aSc} {p : Nat} (hF : FC n T C) (hn : n ≤ 40) (hp : a_gi C 1 2 = nI p) (hpn : p ≤ n) (x : Int32) : f_X5_takes x C = if p < n ∧ T p = x then some (1, a_pi C 1 2 (nI (p + 1))) else some (0, C) := by
  have hl : a_len 2 (C.2.2 2) = 40 := rfl
  rw [f_X5_takes, hF.1, hp]
  by_cases h : p < n
  · rw [if_neg (fun z => by have := (nI_leI (by omega) (by omega)).mp z; omega), a_ldN (by omega) (by omega), Option.bind_some, hF.2 p h, nI_1, Option.bind_some]
    by_cases e : T p = x
    · rw [if_pos e, if_pos ⟨h, e⟩]
    · rw [if_neg e, if_neg (fun z => e z.2)]
  · rw [if_pos ((nI_leI (by omega) (by omega)).mpr (by omega)), if_neg (fun z => h z.1)]
theorem here8 {n : Nat} {T : Nat → Int32} {M : aMm} {p : Nat} (hF : FM n T M) (hn : n ≤ 40) (hp : m_gi M 0 9 = nI p) (h0 : m_gi M 0 10 = 0) (hpn : p ≤ n) (x : Int32) : f_X8_isHere x M = some (if p < n ∧ T p = x then 1 else 0) := by
  have hl : a_len (94 + 3) 0 = 40 := rfl
  rw [f_X8_isHere, h0, if_pos (by decide), hF.1, hp]
  by_cases h : p < n
  · rw [if_neg (fun z => by have := (nI_leI (by omega) (by omega)).mp z; omega), m_ldN (by omega) (by omega), Option.bind_some, hF.2 p h]
    by_cases e : T p = x
    · rw [if_pos e, if_pos ⟨h, e⟩]
    · rw [if_neg e, if_neg (fun z => e z.2)]
  · rw [if_pos ((nI_leI (by omega) (by omega)).mpr (by omega)), if_neg (fun z => h z.1)]
theorem here8f {M : aMm} (h1 : m_gi M 0 10 = 1) (x : Int32) : f_X8_isHere x M = some 0 := by
  rw [f_X8_isHere, h1, if_neg (by decide)]
theorem need21 {M : aMm} {p : Nat} (hp : m_gi M 0 9 = nI p) : g_X8_need_21 1 M = some (m_pi (m_pi M 0 10 1) 0 9 (nI p)) ∧ g_X8_need_21 0 M = some (m_pi (m_pi M 0 10 0) 0 9 (nI (p + 1))) := by
  have a1 : m_gi (m_pi M 0 10 1) 0 10 = 1 := m_pi_at
  have a0 : m_gi (m_pi M 0 10 0) 0 10 = 0 := m_pi_at
  have b1 : m_gi (m_pi M 0 10 1) 0 9 = nI p := by rw [m_gi_pi, if_neg (by decide)]; exact hp
  have b0 : m_gi (m_pi M 0 10 0) 0 9 = nI p := by rw [m_gi_pi, if_neg (by decide)]; exact hp
  constructor
  · rw [g_X8_need_21, if_pos (by decide), Option.bind_some, a1, if_neg (by decide), b1, Int32.add_zero, Option.bind_some]
  · rw [g_X8_need_21, if_pos (by decide), Option.bind_some, a0, if_pos (by decide), b0, nI_1, Option.bind_some]
theorem need8 {n : Nat} {T : Nat → Int32} {M : aMm} {p : Nat} (hF : FM n T M) (hn : n ≤ 40) (hp : m_gi M 0 9 = nI p) (h0 : m_gi M 0 10 = 0) (hpn : p ≤ n) (x : Int32) : f_X8_need x M = some (if p < n ∧ T p = x then m_pi (m_pi M 0 10 0) 0 9 (nI (p + 1)) else m_pi (m_pi M 0 10 1) 0 9 (nI p)) := by
  rw [f_X8_need, h0, if_pos (by decide), here8 hF hn hp h0 hpn, Option.bind_some]
  by_cases h : p < n ∧ T p = x
  · rw [if_pos h, if_pos h, if_neg (by decide), (need21 hp).2]
  · rw [if_neg h, if_neg h, if_pos (by decide), g_X8_need_16, (need21 hp).1]
theorem need8f {M : aMm} {p : Nat} (hp : m_gi M 0 9 = nI p) (h1 : m_gi M 0 10 = 1) (x : Int32) : f_X8_need x M = some (m_pi (m_pi M 0 10 1) 0 9 (nI p)) := by
  rw [f_X8_need, h1, if_neg (by decide), g_X8_need_16, (need21 hp).1]
def dg (n : Nat) (T : Nat → Int32) (p : Nat) : Prop := p < n ∧ ∃ d, d ≤ 9 ∧ T p = nI (48 + d)
theorem dg_of {n p : Nat} {T : Nat → Int32} (h : p < n) (h1 : ¬ T p < 48) (h2 : ¬ 57 < T p) : dg n T p := by
  refine ⟨h, ?_⟩
  rcases nI_cases (T p) 57 (by decide) with ⟨k, hk, e⟩ | z | z
  · have : 48 ≤ k := by
      rcases Nat.lt_or_ge k 48 with hk2 | hk2
      · exact absurd (show T p < 48 from by rw [e]; exact (nI_ltI (b := 48) (by omega) (by omega)).mpr hk2) h1
      · exact hk2
    exact ⟨k - 48, by omega, by rw [e]; congr 1; omega⟩
  · exact absurd (Int32.lt_iff_toInt_lt.mpr (by have := Int32.lt_iff_toInt_lt.mp z; have e0 : (0 : Int32).toInt = 0 := rfl; have e1 : (48 : Int32).toInt = 48 := rfl; omega)) h1
  · exact absurd z h2
theorem dig7 {n : Nat} {T : Nat → Int32} {C : aSc} {p : Nat} (hF : FC n T C) (hn : n ≤ 40) (hp : a_gi C 1 2 = nI p) (hpn : p ≤ n) : (dg n T p ∧ f_X5_isDigit C = some 1) ∨ (¬ dg n T p ∧ f_X5_isDigit C = some 0) := by
  have hl : a_len 2 (C.2.2 2) = 40 := rfl
  rw [f_X5_isDigit, hF.1, hp]
  by_cases h : p < n
  · rw [if_neg (fun z => by have := (nI_leI (by omega) (by omega)).mp z; omega), a_ldN (by omega) (by omega), Option.bind_some, hF.2 p h, Option.bind_some]
    by_cases e : T p < 48
    · rw [if_pos e]
      refine Or.inr ⟨?_, rfl⟩
      rintro ⟨_, d, hd, ed⟩
      rw [ed] at e
      have := (nI_ltI (b := 48) (by omega) (by omega)).mp e
      omega
    · rw [if_neg e]
      by_cases e2 : 57 < T p
      · rw [if_pos e2]
        refine Or.inr ⟨?_, rfl⟩
        rintro ⟨_, d, hd, ed⟩
        rw [ed] at e2
        have := (nI_ltI (a := 57) (by omega) (by omega)).mp e2
        omega
      · rw [if_neg e2]
        exact Or.inl ⟨dg_of h e e2, rfl⟩
  · rw [if_pos ((nI_leI (by omega) (by omega)).mpr (by omega))]
    exact Or.inr ⟨fun z => h z.1, rfl⟩
theorem dig8 {n : Nat} {T : Nat → Int32} {M : aMm} {p : Nat} (hF : FM n T M) (hn : n ≤ 40) (hp : m_gi M 0 9 = nI p) (h0 : m_gi M 0 10 = 0) (hpn : p ≤ n) : (dg n T p ∧ f_X8_isDigit M = some 1) ∨ (¬ dg n T p ∧ f_X8_isDigit M = some 0) := by
  have hl : a_len (94 + 3) 0 = 40 := rfl
  rw [f_X8_isDigit, h0, if_pos (by decide), hF.1, hp]
  by_cases h : p < n
  · rw [if_neg (fun z => by have := (nI_leI (by omega) (by omega)).mp z; omega), m_ldN (by omega) (by omega), Option.bind_some, hF.2 p h]
    by_cases e : T p < 48
    · rw [within_out (Or.inl e), Option.bind_some, if_pos (by decide)]
      refine Or.inr ⟨?_, rfl⟩
      rintro ⟨_, d, hd, ed⟩
      rw [ed] at e
      have := (nI_ltI (b := 48) (by omega) (by omega)).mp e
      omega
    · by_cases e2 : 57 < T p
      · rw [within_out (Or.inr e2), Option.bind_some, if_pos (by decide)]
        refine Or.inr ⟨?_, rfl⟩
        rintro ⟨_, d, hd, ed⟩
        rw [ed] at e2
        have := (nI_ltI (a := 57) (by omega) (by omega)).mp e2
        omega
      · rw [f_X8_within, if_neg e, if_neg e2, Option.bind_some, if_neg (by decide)]
        exact Or.inl ⟨dg_of h e e2, rfl⟩
  · rw [if_pos ((nI_leI (by omega) (by omega)).mpr (by omega))]
    exact Or.inr ⟨fun z => h z.1, rfl⟩
theorem dig8f {M : aMm} (h1 : m_gi M 0 10 = 1) : f_X8_isDigit M = some 0 := by
  rw [f_X8_isDigit, h1, if_neg (by decide)]
def kN (j : Nat) : Bool := j == 2 || j == 3
def kM (j : Nat) : Bool := j == 9 || j == 10
theorem dig_val {v d : Nat} (hv : v ≤ 9) (hd : d ≤ 9) : nI v * 10 + nI (48 + d) - 48 = nI (10 * v + d) ∧ 10 * nI v + nI (48 + d) - 48 = nI (10 * v + d) := by
  have e1 : nI v * 10 + nI (48 + d) = nI (10 * v + d + 48) := by
    rw [show (10 : Int32) = nI 10 from rfl, pk_mul, nI_add]; congr 1; omega
  have e2 : 10 * nI v + nI (48 + d) = nI (10 * v + d + 48) := by
    rw [show (10 : Int32) = nI 10 from rfl, pk_mul, nI_add]; congr 1; omega
  have e3 : nI (10 * v + d + 48) - 48 = nI (10 * v + d) := by
    have := pk_sub (a := 10 * v + d + 48) (b := 48) (by omega)
    rw [show 10 * v + d + 48 - 48 = 10 * v + d by omega] at this
    exact this
  exact ⟨by rw [e1, e3], by rw [e2, e3]⟩
/-- a number, both readers -/
theorem num_ok {n : Nat} {T : Nat → Int32} {C : aSc} {M : aMm} {p : Nat} (hC : FC n T C) (hM : FM n T M) (hn : n ≤ 40) (h7 : a_gi C 1 2 = nI p) (h8 : m_gi M 0 9 = nI p) (h0 : m_gi M 0 10 = 0) (hpn : p ≤ n) : (∃ q v C' M', q ≤ n ∧ v ≤ 99 ∧ f_X5_readNumber C = some (1, C') ∧ f_X8_number M = some (nI v, M') ∧ XC C C' kN ∧ XM M M' kM ∧ a_gi C' 1 2 = nI q ∧ a_gi C' 1 3 = nI v ∧ m_gi M' 0 9 = nI q ∧ m_gi M' 0 10 = 0) ∨ (∃ C' M' w, f_X5_readNumber C = some (0, C') ∧ f_X8_number M = some (w, M') ∧ XC C C' kN ∧ XM M M' kM ∧ a_gi C' 1 2 = nI p ∧ m_gi M' 0 9 = nI p ∧ m_gi M' 0 10 = 1) := by
  -- the loops, both at place q with value v after i digits
  have loop : ∀ (k i q v : Nat) (C1 : aSc) (M1 : aMm), i + k = 2 → (i = 0 → v = 0) → (i = 1 → v ≤ 9) → v ≤ 99 → q ≤ n → XC C C1 kN → XM M M1 kM → a_gi C1 1 2 = nI q → a_gi C1 1 3 = nI v → m_gi M1 0 9 = nI q → m_gi M1 0 10 = 0 → ∀ f, k < f → ∃ q' v' i' C' M', q' ≤ n ∧ v' ≤ 99 ∧ i' ≤ 2 ∧ i ≤ i' ∧ (dg n T q → i < 2 → i < i') ∧ lpf (fun a : Int32 × aSc => b_X5_readNumber_7 a.1 a.2) f (nI i, C1) = some (nI i', C') ∧ lpf (fun a : Int32 × Int32 × aMm => b_X8_number_27 a.1 a.2.1 a.2.2) f (nI v, nI i, M1) = some (nI v', M') ∧ XC C C' kN ∧ XM M M' kM ∧ a_gi C' 1 2 = nI q' ∧ a_gi C' 1 3 = nI v' ∧ m_gi M' 0 9 = nI q' ∧ m_gi M' 0 10 = 0 ∧ (¬ dg n T q → i' = i ∧ q' = q) := by
    intro k
    induction k with
    | zero =>
      intro i q v C1 M1 hi hv0 hv1 hv hq x7 x8 a2 a3 m9 m10 f hf
      have hi2 : i = 2 := by omega
      subst hi2
      obtain ⟨f', rfl⟩ : ∃ f', f = f' + 1 := ⟨f - 1, by omega⟩
      refine ⟨q, v, 2, C1, M1, hq, hv, by omega, by omega, fun _ h => absurd h (by omega), ?_, ?_, x7, x8, a2, a3, m9, m10, fun _ => ⟨rfl, rfl⟩⟩
      · show (b_X5_readNumber_7 (nI 2) C1).bind _ = _
        rw [b_X5_readNumber_7, if_pos (by decide)]; rfl
      · show (b_X8_number_27 (nI v) (nI 2) M1).bind _ = _
        rw [b_X8_number_27, if_pos (by decide)]; rfl
    | succ k ih =>
      intro i q v C1 M1 hi hv0 hv1 hv hq x7 x8 a2 a3 m9 m10 f hf
      obtain ⟨f', rfl⟩ : ∃ f', f = f' + 1 := ⟨f - 1, by omega⟩
      have F7 := FC_X hC x7 rfl
      have F8 := FM_X hM x8 rfl
      have hn2 : ¬ (2 : Int32) ≤ nI i := fun z => by have := (nI_leI (a := 2) (by omega) (by omega)).mp z; omega
      rcases dig7 F7 hn a2 hq with ⟨hd, e7⟩ | ⟨hd, e7⟩
      · rcases dig8 F8 hn m9 m10 hq with ⟨_, e8⟩ | ⟨hd', _⟩
        rotate_left
        · exact absurd hd hd'
        obtain ⟨hqn, d, hd9, ed⟩ := id hd
        have hl7 : a_len 2 (C1.2.2 2) = 40 := rfl
        have hl8 : a_len (94 + 3) 0 = 40 := rfl
        have hvi : v ≤ 9 := by
          rcases Nat.eq_zero_or_pos i with z | z
          · rw [hv0 z]; omega
          · exact hv1 (by omega)
        obtain ⟨d1, d2⟩ := dig_val hvi hd9
        have b7 : b_X5_readNumber_7 (nI i) C1 = some (.inl (nI (i + 1), a_pi (a_pi C1 1 3 (nI (10 * v + d))) 1 2 (nI (q + 1)))) := by
          rw [b_X5_readNumber_7, if_neg hn2, e7, Option.bind_some, if_neg (by decide), a2, a_ldN (by omega) (by omega), Option.bind_some, F7.2 q hqn, ed, a3, d1, Option.bind_some, a_gi_pi, if_neg (by decide), a2, nI_1, Option.bind_some, nI_1]
        have b8 : b_X8_number_27 (nI v) (nI i) M1 = some (.inl (nI (10 * v + d), nI (i + 1), m_pi M1 0 9 (nI (q + 1)))) := by
          rw [b_X8_number_27, if_neg hn2, e8, Option.bind_some, if_neg (by decide), m9, m_ldN (by omega) (by omega), Option.bind_some, F8.2 q hqn, ed, d2, nI_1, Option.bind_some, nI_1]
        obtain ⟨q', v', i', C', M', y1, y2, y3, y4, y5, y6, y7, y8, y9, y10, y11, y12, y13, y14⟩ := ih (i + 1) (q + 1) (10 * v + d) _ _ (by omega) (fun z => absurd z (by omega)) (fun z => by rw [hv0 (by omega)]; omega) (by omega) (by omega) (XC_pi (XC_pi x7 (j := 3) rfl) (j := 2) (v := nI (q + 1)) rfl) (XM_pi x8 (j := 9) (v := nI (q + 1)) rfl) (by rw [a_gi_pi, if_pos ⟨rfl, rfl⟩]) (by rw [a_gi_pi, if_neg (by decide), a_gi_pi, if_pos ⟨rfl, rfl⟩]) (by rw [m_gi_pi, if_pos ⟨rfl, rfl⟩]) (by rw [m_gi_pi, if_neg (by decide)]; exact m10) f' (by omega)
        refine ⟨q', v', i', C', M', y1, y2, y3, by omega, fun _ _ => by omega, ?_, ?_, y8, y9, y10, y11, y12, y13, fun z => absurd hd z⟩
        · show (b_X5_readNumber_7 (nI i) C1).bind _ = _
          rw [b7]; exact y6
        · show (b_X8_number_27 (nI v) (nI i) M1).bind _ = _
          rw [b8]; exact y7
      · rcases dig8 F8 hn m9 m10 hq with ⟨hd', _⟩ | ⟨_, e8⟩
        · exact absurd hd' hd
        refine ⟨q, v, i, C1, M1, hq, hv, by omega, by omega, fun z => absurd z hd, ?_, ?_, x7, x8, a2, a3, m9, m10, fun _ => ⟨rfl, rfl⟩⟩
        · show (b_X5_readNumber_7 (nI i) C1).bind _ = _
          rw [b_X5_readNumber_7, if_neg hn2, e7, Option.bind_some, if_pos (by decide)]; rfl
        · show (b_X8_number_27 (nI v) (nI i) M1).bind _ = _
          rw [b_X8_number_27, if_neg hn2, e8, Option.bind_some, if_pos (by decide)]; rfl
  rcases dig8 hM hn h8 h0 hpn with ⟨hd, e8⟩ | ⟨hd, e8⟩
  · have x7 : XC C (a_pi C 1 3 0) kN := XC_pi XC_refl rfl
    have x8 : XM M (m_pi M 0 10 0) kM := XM_pi XM_refl rfl
    obtain ⟨q', v', i', C', M', y1, y2, y3, y4, y5, y6, y7, y8, y9, y10, y11, y12, y13, y14⟩ := loop 2 0 p 0 _ _ (by omega) (fun _ => rfl) (fun z => absurd z (by omega)) (by omega) hpn x7 x8 (by rw [a_gi_pi, if_neg (by decide)]; exact h7) (by rw [a_gi_pi, if_pos ⟨rfl, rfl⟩]; rfl) (by rw [m_gi_pi, if_neg (by decide)]; exact h8) (by rw [m_gi_pi, if_pos ⟨rfl, rfl⟩]) FU (FU_lt (by omega))
    have hi' := y5 hd (by omega)
    rw [show (nI 0) = (0 : Int32) from rfl] at y6 y7
    refine Or.inl ⟨q', v', C', M', y1, y2, ?_, ?_, y8, y9, y10, y11, y12, y13⟩
    · rw [f_X5_readNumber, Option.bind_some, y6, Option.bind_some]
      show (if nI i' ≤ 0 then _ else _) = _
      rw [if_neg (nI_nle (by omega) (by omega))]
    · rw [f_X8_number, h0, if_pos (by decide), e8, Option.bind_some, if_neg (by decide), g_X8_number_20, if_pos (by decide), Option.bind_some, y7, Option.bind_some]
  · have x7 : XC C (a_pi C 1 3 0) kN := XC_pi XC_refl rfl
    have x8 : XM M (m_pi M 0 10 0) kM := XM_pi XM_refl rfl
    obtain ⟨q', v', i', C', M', y1, y2, y3, y4, y5, y6, y7, y8, y9, y10, y11, y12, y13, y14⟩ := loop 2 0 p 0 _ _ (by omega) (fun _ => rfl) (fun z => absurd z (by omega)) (by omega) hpn x7 x8 (by rw [a_gi_pi, if_neg (by decide)]; exact h7) (by rw [a_gi_pi, if_pos ⟨rfl, rfl⟩]; rfl) (by rw [m_gi_pi, if_neg (by decide)]; exact h8) (by rw [m_gi_pi, if_pos ⟨rfl, rfl⟩]) FU (FU_lt (by omega))
    obtain ⟨z1, z2⟩ := y14 hd
    subst z1
    subst z2
    rw [show (nI 0) = (0 : Int32) from rfl] at y6
    refine Or.inr ⟨C', m_pi M 0 10 1, 0, ?_, ?_, y8, XM_pi XM_refl rfl, y10, by rw [m_gi_pi, if_neg (by decide)]; exact h8, by rw [m_gi_pi, if_pos ⟨rfl, rfl⟩]⟩
    · rw [f_X5_readNumber, Option.bind_some, y6, Option.bind_some]
      show (if (0 : Int32) ≤ 0 then _ else _) = _
      rw [if_pos (by decide)]
    · have hl : lpf (fun a : Int32 × Int32 × aMm => b_X8_number_27 a.1 a.2.1 a.2.2) FU ((0 : Int32), (0 : Int32), m_pi M 0 10 1) = some (0, m_pi M 0 10 1) := by
        show (b_X8_number_27 0 0 (m_pi M 0 10 1)).bind _ = _
        rw [b_X8_number_27, if_neg (by decide), dig8f (by rw [m_gi_pi, if_pos ⟨rfl, rfl⟩]), Option.bind_some, if_pos (by decide)]; rfl
      rw [f_X8_number, h0, if_pos (by decide), e8, Option.bind_some, if_pos (by decide), g_X8_number_15, g_X8_number_20, if_pos (by decide), Option.bind_some, hl, Option.bind_some]

theorem m_at {M : aMm} {c j : Nat} {v : Int32} : m_gi (m_pi M c j v) c j = v := m_pi_at
theorem a_at {C : aSc} {c j : Nat} {v : Int32} : a_gi (a_pi C c j v) c j = v := a_pi_at
theorem m_nt {M : aMm} {c j c' k : Nat} {v w : Int32} (h : ¬ (c' = c ∧ k = j)) (e : m_gi M c' k = w) : m_gi (m_pi M c j v) c' k = w := by rw [m_gi_pi, if_neg h]; exact e
theorem a_nt {C : aSc} {c j c' k : Nat} {v w : Int32} (h : ¬ (c' = c ∧ k = j)) (e : a_gi C c' k = w) : a_gi (a_pi C c j v) c' k = w := by rw [a_gi_pi, if_neg h]; exact e
def kT7 (j : Nat) : Bool := j == 2 || j == 3 || j == 5
def kT8 (j : Nat) : Bool := j == 9 || j == 10 || j == 12
theorem kN_T : ∀ j, kN j = true → kT7 j = true := by intro j h; simp [kN] at h; simp [kT7]; omega
theorem kM_T : ∀ j, kM j = true → kT8 j = true := by intro j h; simp [kM] at h; simp [kT8]; omega
/-- how many times, both readers -/
theorem times_ok {n : Nat} {T : Nat → Int32} {C : aSc} {M : aMm} {p : Nat} (hC : FC n T C) (hM : FM n T M) (hn : n ≤ 40) (h7 : a_gi C 1 2 = nI p) (h8 : m_gi M 0 9 = nI p) (h0 : m_gi M 0 10 = 0) (hpn : p ≤ n) (h5 : a_gi C 1 5 = 1) (s1 : ¬ m_gi M 0 11 = 70) (s2 : ¬ m_gi M 0 11 = 73) : (∃ q t C' M', q ≤ n ∧ t ≤ 99 ∧ f_X5_readTimes C = some (1, C') ∧ g_X8_readSort_151 M = some M' ∧ XC C C' kT7 ∧ XM M M' kT8 ∧ a_gi C' 1 2 = nI q ∧ a_gi C' 1 5 = nI t ∧ m_gi M' 0 9 = nI q ∧ m_gi M' 0 10 = 0 ∧ m_gi M' 0 12 = nI t) ∨ (∃ q C' M', q ≤ n ∧ f_X5_readTimes C = some (0, C') ∧ g_X8_readSort_151 M = some M' ∧ XC C C' kT7 ∧ XM M M' kT8 ∧ a_gi C' 1 2 = nI q ∧ m_gi M' 0 9 = nI q ∧ m_gi M' 0 10 = 1) := by
  have F15 : FM n T (m_pi M 0 12 1) := FM_pi hM (by omega)
  have n9 : m_gi (m_pi M 0 12 1) 0 9 = nI p := m_nt (by decide) h8
  have n10 : m_gi (m_pi M 0 12 1) 0 10 = 0 := m_nt (by decide) h0
  have n11 : m_gi (m_pi M 0 12 1) 0 11 = m_gi M 0 11 := m_nt (by decide) rfl
  have x15 : XM M (m_pi M 0 12 1) kT8 := XM_pi XM_refl rfl
  have hh := here8 F15 hn n9 n10 hpn 40
  have ht := takes7 hC hn h7 hpn 40
  by_cases hq : p < n ∧ T p = 40
  rotate_left
  · rw [if_neg hq] at hh ht
    refine Or.inl ⟨p, 1, C, m_pi M 0 12 1, hpn, by omega, ?_, ?_, XC_refl, x15, h7, h5, n9, n10, m_at⟩
    · rw [f_X5_readTimes, bd2, ht, Option.bind_some]; exact if_pos rfl
    · rw [g_X8_readSort_151, Option.bind_some, n11, if_neg s1, if_neg s2, hh, Option.bind_some, if_pos (by decide)]
  rw [if_pos hq] at hh ht
  have xC3 : XC C (a_pi C 1 2 (nI (p + 1))) kT7 := XC_pi XC_refl rfl
  have xM19 : XM M (m_pi (m_pi M 0 12 1) 0 9 (nI (p + 1))) kT8 := XM_pi x15 rfl
  rcases num_ok (FC_pi hC (by omega)) (FM_pi F15 (by omega)) hn (a_at (C := C) (c := 1) (j := 2) (v := nI (p + 1))) (m_at (M := m_pi M 0 12 1) (c := 0) (j := 9) (v := nI (p + 1))) (m_nt (by decide) n10) (by omega) with ⟨q, v, C6, M23, y1, y2, y3, y4, y5, y6, y7, y8, y9, y10⟩ | ⟨C6, M23, w, y3, y4, y5, y6, y7, y9, y10⟩
  · have xC6 : XC C C6 kT7 := XC_tr xC3 y5 (fun _ h => h) kN_T
    have xM23 : XM M M23 kT8 := XM_tr xM19 y6 (fun _ h => h) kM_T
    have F7 : FC n T (a_pi C6 1 5 (nI v)) := FC_pi (FC_X hC xC6 rfl) (by omega)
    have F24 : FM n T (m_pi M23 0 12 (nI v)) := FM_pi (FM_X hM xM23 rfl) (by omega)
    have t2 := takes7 F7 hn (a_nt (by decide) y7) y1 41
    have nd := need8 F24 hn (m_nt (by decide) y9) (m_nt (by decide) y10) y1 41
    have e7 : f_X5_readTimes C = bd2 (f_X5_takes 41 (a_pi C6 1 5 (nI v))) fun r10 C11 => if r10 = 0 ∨ r10 = 1 then some (r10, C11) else none := by
      rw [f_X5_readTimes, bd2, ht, Option.bind_some]
      show (if (1 : Int32) = 0 then _ else _) = _
      rw [if_neg (by decide), bd2, y3, Option.bind_some]
      show (if (1 : Int32) = 0 then _ else _) = _
      rw [if_neg (by decide), Option.bind_some, y8]
    have e8 : g_X8_readSort_151 M = f_X8_need 41 (m_pi M23 0 12 (nI v)) := by
      rw [g_X8_readSort_151, Option.bind_some, n11, if_neg s1, if_neg s2, hh, Option.bind_some, if_neg (by decide), n9, nI_1, Option.bind_some, bd2, y4, Option.bind_some, Option.bind_some, nd, Option.bind_some]
    by_cases hq2 : q < n ∧ T q = 41
    · rw [if_pos hq2] at t2 nd
      refine Or.inl ⟨q + 1, v, a_pi (a_pi C6 1 5 (nI v)) 1 2 (nI (q + 1)), m_pi (m_pi (m_pi M23 0 12 (nI v)) 0 10 0) 0 9 (nI (q + 1)), by omega, y2, ?_, e8.trans nd, XC_pi (XC_pi xC6 rfl) rfl, XM_pi (XM_pi (XM_pi xM23 rfl) rfl) rfl, a_at, a_nt (by decide) a_at, m_at, m_nt (by decide) m_at, m_nt (by decide) (m_nt (by decide) m_at)⟩
      rw [e7, bd2, t2, Option.bind_some]; exact if_pos (show (1 : Int32) = 0 ∨ (1 : Int32) = 1 by decide)
    · rw [if_neg hq2] at t2 nd
      refine Or.inr ⟨q, a_pi C6 1 5 (nI v), m_pi (m_pi (m_pi M23 0 12 (nI v)) 0 10 1) 0 9 (nI q), y1, ?_, e8.trans nd, XC_pi xC6 rfl, XM_pi (XM_pi (XM_pi xM23 rfl) rfl) rfl, a_nt (by decide) y7, m_at, m_nt (by decide) m_at⟩
      rw [e7, bd2, t2, Option.bind_some]; exact if_pos (show (0 : Int32) = 0 ∨ (0 : Int32) = 1 by decide)
  · have xC6 : XC C C6 kT7 := XC_tr xC3 y5 (fun _ h => h) kN_T
    have xM23 : XM M M23 kT8 := XM_tr xM19 y6 (fun _ h => h) kM_T
    have nd := need8f (M := m_pi M23 0 12 w) (p := p + 1) (m_nt (by decide) y9) (m_nt (by decide) y10) 41
    refine Or.inr ⟨p + 1, C6, m_pi (m_pi (m_pi M23 0 12 w) 0 10 1) 0 9 (nI (p + 1)), by omega, ?_, ?_, xC6, XM_pi (XM_pi (XM_pi xM23 rfl) rfl) rfl, y7, m_at, m_nt (by decide) m_at⟩
    · rw [f_X5_readTimes, bd2, ht, Option.bind_some]
      show (if (1 : Int32) = 0 then _ else _) = _
      rw [if_neg (by decide), bd2, y3, Option.bind_some]
      exact if_pos rfl
    · rw [g_X8_readSort_151, Option.bind_some, n11, if_neg s1, if_neg s2, hh, Option.bind_some, if_neg (by decide), n9, nI_1, Option.bind_some, bd2, y4, Option.bind_some, Option.bind_some, nd, Option.bind_some]
def kR7 (j : Nat) : Bool := j == 2 || j == 3 || j == 4 || j == 5
def kR8 (j : Nat) : Bool := j == 9 || j == 10 || j == 11 || j == 12
theorem kT_R7 : ∀ j, kT7 j = true → kR7 j = true := by intro j h; simp [kT7] at h; simp [kR7]; omega
theorem kT_R8 : ∀ j, kT8 j = true → kR8 j = true := by intro j h; simp [kT8] at h; simp [kR8]; omega
def rhy (r s t : Nat) : Prop := (r = 0 ∧ s = 70 ∧ t = 1) ∨ (r = 4 ∧ s = 73 ∧ t = 1) ∨ (((r = 1 ∧ s = 108) ∨ (r = 2 ∧ s = 79) ∨ (r = 3 ∧ s = 81)) ∧ t ≤ 99)
/-- with the times still to be read -/
theorem sort_times {n : Nat} {T : Nat → Int32} {C0 C : aSc} {M0 M : aMm} {p r s : Nat} (hC : FC n T C) (hM : FM n T M) (hn : n ≤ 40) (xC : XC C0 C kR7) (xM : XM M0 M kR8) (h7 : a_gi C 1 2 = nI p) (h8 : m_gi M 0 9 = nI p) (h0 : m_gi M 0 10 = 0) (hpn : p ≤ n) (h5 : a_gi C 1 5 = 1) (h4 : a_gi C 1 4 = nI r) (h11 : m_gi M 0 11 = nI s) (hrs : (r = 1 ∧ s = 108) ∨ (r = 2 ∧ s = 79) ∨ (r = 3 ∧ s = 81)) : (∃ q t C' M', q ≤ n ∧ rhy r s t ∧ (bd2 (f_X5_readTimes C) fun r37 C38 => if (r37 : Int32) = 0 then some ((0 : Int32), C38) else some ((1 : Int32), C38)) = some (1, C') ∧ g_X8_readSort_151 M = some M' ∧ XC C0 C' kR7 ∧ XM M0 M' kR8 ∧ a_gi C' 1 2 = nI q ∧ a_gi C' 1 4 = nI r ∧ a_gi C' 1 5 = nI t ∧ m_gi M' 0 9 = nI q ∧ m_gi M' 0 10 = 0 ∧ m_gi M' 0 11 = nI s ∧ m_gi M' 0 12 = nI t) ∨ (∃ q C' M', q ≤ n ∧ (bd2 (f_X5_readTimes C) fun r37 C38 => if (r37 : Int32) = 0 then some ((0 : Int32), C38) else some ((1 : Int32), C38)) = some (0, C') ∧ g_X8_readSort_151 M = some M' ∧ XC C0 C' kR7 ∧ XM M0 M' kR8 ∧ a_gi C' 1 2 = nI q ∧ m_gi M' 0 9 = nI q ∧ m_gi M' 0 10 = 1) := by
  have s1 : ¬ m_gi M 0 11 = 70 := by rw [h11]; rcases hrs with ⟨_, rfl⟩ | ⟨_, rfl⟩ | ⟨_, rfl⟩ <;> decide
  have s2 : ¬ m_gi M 0 11 = 73 := by rw [h11]; rcases hrs with ⟨_, rfl⟩ | ⟨_, rfl⟩ | ⟨_, rfl⟩ <;> decide
  rcases times_ok hC hM hn h7 h8 h0 hpn h5 s1 s2 with ⟨q, t, C', M', y1, y2, y3, y4, y5, y6, y7, y8, y9, y10, y11⟩ | ⟨q, C', M', y1, y3, y4, y5, y6, y7, y9, y10⟩
  · refine Or.inl ⟨q, t, C', M', y1, Or.inr (Or.inr ⟨hrs, y2⟩), ?_, y4, XC_tr xC y5 (fun _ h => h) kT_R7, XM_tr xM y6 (fun _ h => h) kT_R8, y7, (XC_at y5 rfl).trans h4, y8, y9, y10, (XM_at y6 rfl).trans h11, y11⟩
    rw [bd2, y3, Option.bind_some]; exact if_neg (show ¬ (1 : Int32) = 0 by decide)
  · refine Or.inr ⟨q, C', M', y1, ?_, y4, XC_tr xC y5 (fun _ h => h) kT_R7, XM_tr xM y6 (fun _ h => h) kT_R8, y7, y9, y10⟩
    rw [bd2, y3, Option.bind_some]; exact if_pos rfl
theorem s151 {M : aMm} {s : Nat} (h11 : m_gi M 0 11 = nI s) (hs : s = 70 ∨ s = 73) : g_X8_readSort_151 M = some (m_pi M 0 12 1) := by
  have n11 : m_gi (m_pi M 0 12 1) 0 11 = nI s := m_nt (by decide) h11
  rw [g_X8_readSort_151, Option.bind_some, n11]
  rcases hs with rfl | rfl
  · rw [if_pos (by decide)]
  · rw [if_neg (by decide), if_pos (by decide)]
theorem s151f {M : aMm} {s : Nat} (h11 : m_gi M 0 11 = nI s) (hs : s = 79) (h10 : m_gi M 0 10 = 1) : g_X8_readSort_151 M = some (m_pi M 0 12 1) := by
  have n11 : m_gi (m_pi M 0 12 1) 0 11 = nI s := m_nt (by decide) h11
  rw [g_X8_readSort_151, Option.bind_some, n11]
  subst hs
  rw [if_neg (by decide), if_neg (by decide), here8f (m_nt (by decide) h10), Option.bind_some, if_pos (by decide)]
theorem rhythm_ok {n : Nat} {T : Nat → Int32} {C : aSc} {M : aMm} (hC : FC n T C) (hM : FM n T M) (hn : n ≤ 40) (h7 : a_gi C 1 2 = nI 0) (h8 : m_gi M 0 9 = nI 0) (h0 : m_gi M 0 10 = 0) (h5 : a_gi C 1 5 = 1) : (∃ q r s t C' M', q ≤ n ∧ rhy r s t ∧ f_X5_readRhythm C = some (1, C') ∧ f_X8_readSort M = some M' ∧ XC C C' kR7 ∧ XM M M' kR8 ∧ a_gi C' 1 2 = nI q ∧ a_gi C' 1 4 = nI r ∧ a_gi C' 1 5 = nI t ∧ m_gi M' 0 9 = nI q ∧ m_gi M' 0 10 = 0 ∧ m_gi M' 0 11 = nI s ∧ m_gi M' 0 12 = nI t) ∨ (∃ q C' M', q ≤ n ∧ f_X5_readRhythm C = some (0, C') ∧ f_X8_readSort M = some M' ∧ XC C C' kR7 ∧ XM M M' kR8 ∧ a_gi C' 1 2 = nI q ∧ m_gi M' 0 9 = nI q ∧ m_gi M' 0 10 = 1) := by
  have hp0 : 0 ≤ n := Nat.zero_le n
  have tk := takes7 hC hn h7 hp0
  have hr := here8 hM hn h8 h0 hp0
  have nd := need8 hM hn h8 h0 hp0
  have xC1 : ∀ v, XC C (a_pi C 1 2 v) kR7 := fun v => XC_pi XC_refl rfl
  by_cases cI : 0 < n ∧ T 0 = 73
  · -- I
    have nF : ¬ (0 < n ∧ T 0 = 70) := fun z => by rw [cI.2] at z; exact absurd z.2 (by decide)
    have nO : ¬ (0 < n ∧ T 0 = 79) := fun z => by rw [cI.2] at z; exact absurd z.2 (by decide)
    have nQ : ¬ (0 < n ∧ T 0 = 81) := fun z => by rw [cI.2] at z; exact absurd z.2 (by decide)
    have t1 := (tk 73).trans (if_pos cI)
    have n1 : f_X8_need 73 M = some (m_pi (m_pi M 0 10 0) 0 9 (nI 1)) := by rw [nd 73, if_pos cI]
    obtain ⟨C43, hC43⟩ : ∃ C43, C43 = a_pi (a_pi C 1 2 (nI (0 + 1))) 1 4 4 := ⟨_, rfl⟩
    have F43 : FC n T C43 := by rw [hC43]; exact FC_pi (FC_pi hC (by omega)) (by omega)
    have x43 : XC C C43 kR7 := by rw [hC43]; exact XC_pi (XC_pi XC_refl rfl) rfl
    have g2 : a_gi C43 1 2 = nI 1 := by rw [hC43]; exact a_nt (by decide) a_at
    have g4 : a_gi C43 1 4 = 4 := by rw [hC43]; exact a_at
    have g5 : a_gi C43 1 5 = 1 := by rw [hC43]; exact a_nt (by decide) (a_nt (by decide) h5)
    obtain ⟨M8, hM8⟩ : ∃ M8, M8 = m_pi (m_pi M 0 10 0) 0 9 (nI 1) := ⟨_, rfl⟩
    have F8 : FM n T M8 := by rw [hM8]; exact FM_pi (FM_pi hM (by omega)) (by omega)
    have x8 : XM M M8 kR8 := by rw [hM8]; exact XM_pi (XM_pi XM_refl rfl) rfl
    have m9 : m_gi M8 0 9 = nI 1 := by rw [hM8]; exact m_at
    have m10 : m_gi M8 0 10 = 0 := by rw [hM8]; exact m_nt (by decide) m_at
    have t2 := takes7 F43 hn g2 (by omega) 115
    have n2 := need8 F8 hn m9 m10 (by omega) 115
    have e7 : f_X5_readRhythm C = bd2 (f_X5_takes 115 C43) fun r46 C47 => if (r46 : Int32) = 0 then some ((0 : Int32), C47) else bd2 (f_X5_takes (111 : Int32) C47) fun r49 C50 => if (r49 : Int32) = 0 then some ((0 : Int32), C50) else some ((1 : Int32), C50) := by
      rw [f_X5_readRhythm, bd2, t1, Option.bind_some]
      show (if (1 : Int32) = 0 then _ else _) = _
      rw [if_neg (by decide), Option.bind_some, ← hC43]
    have e8 : f_X8_readSort M = (f_X8_need 115 M8).bind fun M10 => (f_X8_need 111 M10).bind fun M12 => (some (m_pi M12 0 11 73)).bind fun M13 => g_X8_readSort_151 M13 := by
      rw [f_X8_readSort, hr 70, if_neg nF, Option.bind_some, if_pos (by decide), hr 79, if_neg nO, Option.bind_some, if_pos (by decide), hr 81, if_neg nQ, Option.bind_some, if_pos (by decide), n1, Option.bind_some, ← hM8]
    by_cases c2 : 1 < n ∧ T 1 = 115
    · rw [if_pos c2] at t2 n2
      obtain ⟨C47, hC47⟩ : ∃ C47, C47 = a_pi C43 1 2 (nI (1 + 1)) := ⟨_, rfl⟩
      have F47 : FC n T C47 := by rw [hC47]; exact FC_pi F43 (by omega)
      have k2 : a_gi C47 1 2 = nI 2 := by rw [hC47]; exact a_at
      obtain ⟨M10, hM10⟩ : ∃ M10, M10 = m_pi (m_pi M8 0 10 0) 0 9 (nI (1 + 1)) := ⟨_, rfl⟩
      have F10 : FM n T M10 := by rw [hM10]; exact FM_pi (FM_pi F8 (by omega)) (by omega)
      have k9 : m_gi M10 0 9 = nI 2 := by rw [hM10]; exact m_at
      have k10 : m_gi M10 0 10 = 0 := by rw [hM10]; exact m_nt (by decide) m_at
      have x10 : XM M M10 kR8 := by rw [hM10]; exact XM_pi (XM_pi x8 rfl) rfl
      have x47 : XC C C47 kR7 := by rw [hC47]; exact XC_pi x43 rfl
      have t3 := takes7 F47 hn k2 (by omega) 111
      have n3 := need8 F10 hn k9 k10 (by omega) 111
      rw [← hC47] at t2
      rw [← hM10] at n2
      by_cases c3 : 2 < n ∧ T 2 = 111
      · rw [if_pos c3] at t3 n3
        refine Or.inl ⟨3, 4, 73, 1, a_pi C47 1 2 (nI (2 + 1)), m_pi (m_pi (m_pi (m_pi M10 0 10 0) 0 9 (nI (2 + 1))) 0 11 73) 0 12 1, by omega, Or.inr (Or.inl ⟨rfl, rfl, rfl⟩), ?_, ?_, XC_pi x47 rfl, XM_pi (XM_pi (XM_pi (XM_pi x10 rfl) rfl) rfl) rfl, a_at, ?_, ?_, m_nt (by decide) (m_nt (by decide) m_at), m_nt (by decide) (m_nt (by decide) (m_nt (by decide) m_at)), m_nt (by decide) m_at, m_at⟩
        · rw [e7, bd2, t2, Option.bind_some]
          show (if (1 : Int32) = 0 then _ else _) = _
          rw [if_neg (by decide), bd2, t3, Option.bind_some]
          exact if_neg (show ¬ (1 : Int32) = 0 by decide)
        · rw [e8, n2, Option.bind_some, n3, Option.bind_some, Option.bind_some]
          exact s151 (s := 73) m_at (Or.inr rfl)
        · exact a_nt (by decide) (by rw [hC47]; exact a_nt (by decide) g4)
        · exact a_nt (by decide) (by rw [hC47]; exact a_nt (by decide) g5)
      · rw [if_neg c3] at t3 n3
        refine Or.inr ⟨2, C47, m_pi (m_pi (m_pi (m_pi M10 0 10 1) 0 9 (nI 2)) 0 11 73) 0 12 1, by omega, ?_, ?_, x47, XM_pi (XM_pi (XM_pi (XM_pi x10 rfl) rfl) rfl) rfl, k2, m_nt (by decide) (m_nt (by decide) m_at), m_nt (by decide) (m_nt (by decide) (m_nt (by decide) m_at))⟩
        · rw [e7, bd2, t2, Option.bind_some]
          show (if (1 : Int32) = 0 then _ else _) = _
          rw [if_neg (by decide), bd2, t3, Option.bind_some]
          exact if_pos rfl
        · rw [e8, n2, Option.bind_some, n3, Option.bind_some, Option.bind_some]
          exact s151 (s := 73) m_at (Or.inr rfl)
    · rw [if_neg c2] at t2 n2
      have n3 := need8f (M := m_pi (m_pi M8 0 10 1) 0 9 (nI 1)) (p := 1) m_at (m_nt (by decide) m_at) 111
      refine Or.inr ⟨1, C43, m_pi (m_pi (m_pi (m_pi (m_pi (m_pi M8 0 10 1) 0 9 (nI 1)) 0 10 1) 0 9 (nI 1)) 0 11 73) 0 12 1, by omega, ?_, ?_, x43, XM_pi (XM_pi (XM_pi (XM_pi (XM_pi (XM_pi x8 rfl) rfl) rfl) rfl) rfl) rfl, g2, m_nt (by decide) (m_nt (by decide) m_at), m_nt (by decide) (m_nt (by decide) (m_nt (by decide) m_at))⟩
      · rw [e7, bd2, t2, Option.bind_some]
        exact if_pos rfl
      · rw [e8, n2, Option.bind_some, n3, Option.bind_some, Option.bind_some]
        exact s151 (s := 73) m_at (Or.inr rfl)
  have t1 := (tk 73).trans (if_neg cI)
  by_cases cF : 0 < n ∧ T 0 = 70
  · -- F
    have t2 := (tk 70).trans (if_pos cF)
    obtain ⟨C6, hC6⟩ : ∃ C6, C6 = a_pi C 1 2 (nI (0 + 1)) := ⟨_, rfl⟩
    have F6 : FC n T C6 := by rw [hC6]; exact FC_pi hC (by omega)
    have x6 : XC C C6 kR7 := by rw [hC6]; exact XC_pi XC_refl rfl
    have g2 : a_gi C6 1 2 = nI 1 := by rw [hC6]; exact a_at
    have g5 : a_gi C6 1 5 = 1 := by rw [hC6]; exact a_nt (by decide) h5
    obtain ⟨M43, hM43⟩ : ∃ M43, M43 = m_pi M 0 9 (nI 1) := ⟨_, rfl⟩
    have F43 : FM n T M43 := by rw [hM43]; exact FM_pi hM (by omega)
    have x43 : XM M M43 kR8 := by rw [hM43]; exact XM_pi XM_refl rfl
    have m9 : m_gi M43 0 9 = nI 1 := by rw [hM43]; exact m_at
    have m10 : m_gi M43 0 10 = 0 := by rw [hM43]; exact m_nt (by decide) h0
    have t3 := takes7 F6 hn g2 (by omega) 108
    have h3 := here8 F43 hn m9 m10 (by omega) 108
    rw [← hC6] at t2
    have e7 : f_X5_readRhythm C = bd2 (f_X5_takes 108 C6) fun r32 C33 => if (r32 : Int32) = 0 then g_X5_readRhythm_62 0 C33 else g_X5_readRhythm_62 1 C33 := by
      rw [f_X5_readRhythm, bd2, t1, Option.bind_some]
      show (if (0 : Int32) = 0 then _ else _) = _
      rw [if_pos (by decide), bd2, t2, Option.bind_some]
      exact if_neg (show ¬ (1 : Int32) = 0 by decide)
    have e8 : f_X8_readSort M = (f_X8_isHere 108 M43).bind fun r46 => if (r46 : Int32) = 0 then g_X8_readSort_36 70 M43 else g_X8_readSort_36 108 M43 := by
      rw [f_X8_readSort, hr 70, if_pos cF, Option.bind_some, if_neg (by decide), h8, nI_1, Option.bind_some, ← hM43]
    by_cases c2 : 1 < n ∧ T 1 = 108
    · rw [if_pos c2] at t3 h3
      obtain ⟨C34, hC34⟩ : ∃ C34, C34 = a_pi (a_pi C6 1 2 (nI (1 + 1))) 1 4 1 := ⟨_, rfl⟩
      obtain ⟨M49, hM49⟩ : ∃ M49, M49 = m_pi (m_pi M43 0 11 108) 0 9 (nI 2) := ⟨_, rfl⟩
      have q4 : a_gi C34 1 4 = 1 := by rw [hC34]; exact a_at
      have f7 : f_X5_readRhythm C = bd2 (f_X5_readTimes C34) fun r37 C38 => if (r37 : Int32) = 0 then some ((0 : Int32), C38) else some ((1 : Int32), C38) := by
        rw [e7, bd2, t3, Option.bind_some]
        show (if (1 : Int32) = 0 then _ else _) = _
        rw [if_neg (by decide), g_X5_readRhythm_62, Option.bind_some, ← hC34, q4, if_neg (by decide)]
      have f8 : f_X8_readSort M = g_X8_readSort_151 M49 := by
        have z1 : m_gi (m_pi M43 0 11 108) 0 11 = 108 := m_at
        have z2 : m_gi (m_pi M43 0 11 108) 0 9 = nI 1 := m_nt (by decide) m9
        rw [e8, h3, Option.bind_some, if_neg (by decide), g_X8_readSort_36, Option.bind_some, z1, if_pos (by decide), g_X8_readSort_58, z2, nI_1, Option.bind_some, ← hM49]
      rw [f7, f8]
      have w := sort_times (C0 := C) (M0 := M) (C := C34) (M := M49) (p := 2) (r := 1) (s := 108) (by rw [hC34]; exact FC_pi (FC_pi F6 (by omega)) (by omega)) (by rw [hM49]; exact FM_pi (FM_pi F43 (by omega)) (by omega)) hn (by rw [hC34]; exact XC_pi (XC_pi x6 rfl) rfl) (by rw [hM49]; exact XM_pi (XM_pi x43 rfl) rfl) (by rw [hC34]; exact a_nt (by decide) a_at) (by rw [hM49]; exact m_at) (by rw [hM49]; exact m_nt (by decide) (m_nt (by decide) m10)) (by omega) (by rw [hC34]; exact a_nt (by decide) (a_nt (by decide) g5)) q4 (by rw [hM49]; exact m_nt (by decide) m_at) (by omega)
      rcases w with ⟨q, t, C', M', w⟩ | w
      · exact Or.inl ⟨q, 1, 108, t, C', M', w⟩
      · exact Or.inr w
    · rw [if_neg c2] at t3 h3
      obtain ⟨C34, hC34⟩ : ∃ C34, C34 = a_pi C6 1 4 0 := ⟨_, rfl⟩
      have q4 : a_gi C34 1 4 = 0 := by rw [hC34]; exact a_at
      have z1 : m_gi (m_pi M43 0 11 70) 0 11 = 70 := m_at
      have z2 : m_gi (m_pi M43 0 11 70) 0 9 = nI 1 := m_nt (by decide) m9
      refine Or.inl ⟨1, 0, 70, 1, C34, m_pi (m_pi (m_pi M43 0 11 70) 0 9 (nI 1)) 0 12 1, by omega, Or.inl ⟨rfl, rfl, rfl⟩, ?_, ?_, by rw [hC34]; exact XC_pi x6 rfl, XM_pi (XM_pi (XM_pi x43 rfl) rfl) rfl, by rw [hC34]; exact a_nt (by decide) g2, q4, by rw [hC34]; exact a_nt (by decide) g5, m_nt (by decide) m_at, m_nt (by decide) (m_nt (by decide) (m_nt (by decide) m10)), m_nt (by decide) (m_nt (by decide) m_at), m_at⟩
      · rw [e7, bd2, t3, Option.bind_some]
        show (if (0 : Int32) = 0 then _ else _) = _
        rw [if_pos (by decide), g_X5_readRhythm_62, Option.bind_some, ← hC34, q4, if_pos (by decide)]
      · rw [e8, h3, Option.bind_some, if_pos (by decide), g_X8_readSort_36, Option.bind_some, z1, if_neg (by decide), g_X8_readSort_58, z2, Int32.add_zero, Option.bind_some]
        exact s151 (s := 70) (m_nt (by decide) m_at) (Or.inl rfl)
  have t2 := (tk 70).trans (if_neg cF)
  by_cases cO : 0 < n ∧ T 0 = 79
  · -- O
    have t3 := (tk 79).trans (if_pos cO)
    obtain ⟨C20, hC20⟩ : ∃ C20, C20 = a_pi (a_pi C 1 2 (nI (0 + 1))) 1 4 2 := ⟨_, rfl⟩
    have F20 : FC n T C20 := by rw [hC20]; exact FC_pi (FC_pi hC (by omega)) (by omega)
    have x20 : XC C C20 kR7 := by rw [hC20]; exact XC_pi (XC_pi XC_refl rfl) rfl
    have g2 : a_gi C20 1 2 = nI 1 := by rw [hC20]; exact a_nt (by decide) a_at
    have g4 : a_gi C20 1 4 = 2 := by rw [hC20]; exact a_at
    have g5 : a_gi C20 1 5 = 1 := by rw [hC20]; exact a_nt (by decide) (a_nt (by decide) h5)
    obtain ⟨M36, hM36⟩ : ∃ M36, M36 = m_pi M 0 9 (nI 1) := ⟨_, rfl⟩
    have F36 : FM n T M36 := by rw [hM36]; exact FM_pi hM (by omega)
    have x36 : XM M M36 kR8 := by rw [hM36]; exact XM_pi XM_refl rfl
    have m9 : m_gi M36 0 9 = nI 1 := by rw [hM36]; exact m_at
    have m10 : m_gi M36 0 10 = 0 := by rw [hM36]; exact m_nt (by decide) h0
    have t4 := takes7 F20 hn g2 (by omega) 99
    have n4 := need8 F36 hn m9 m10 (by omega) 99
    have e7 : f_X5_readRhythm C = bd2 (f_X5_takes 99 C20) fun r23 C24 => if (r23 : Int32) = 0 then some ((0 : Int32), C24) else bd2 (f_X5_readTimes C24) fun r26 C27 => if (r26 : Int32) = 0 then some ((0 : Int32), C27) else some ((1 : Int32), C27) := by
      rw [f_X5_readRhythm, bd2, t1, Option.bind_some]
      show (if (0 : Int32) = 0 then _ else _) = _
      rw [if_pos (by decide), bd2, t2, Option.bind_some]
      show (if (0 : Int32) = 0 then _ else _) = _
      rw [if_pos (by decide), bd2, t3, Option.bind_some]
      show (if (1 : Int32) = 0 then _ else _) = _
      rw [if_neg (by decide), Option.bind_some, ← hC20]
    have e8 : f_X8_readSort M = (f_X8_need 99 M36).bind fun M39 => (some (m_pi M39 0 11 79)).bind fun M40 => g_X8_readSort_151 M40 := by
      rw [f_X8_readSort, hr 70, if_neg cF, Option.bind_some, if_pos (by decide), hr 79, if_pos cO, Option.bind_some, if_neg (by decide), h8, nI_1, Option.bind_some, ← hM36]
    by_cases c2 : 1 < n ∧ T 1 = 99
    · rw [if_pos c2] at t4 n4
      obtain ⟨C24, hC24⟩ : ∃ C24, C24 = a_pi C20 1 2 (nI (1 + 1)) := ⟨_, rfl⟩
      obtain ⟨M40, hM40⟩ : ∃ M40, M40 = m_pi (m_pi (m_pi M36 0 10 0) 0 9 (nI (1 + 1))) 0 11 79 := ⟨_, rfl⟩
      have f7 : f_X5_readRhythm C = bd2 (f_X5_readTimes C24) fun r37 C38 => if (r37 : Int32) = 0 then some ((0 : Int32), C38) else some ((1 : Int32), C38) := by
        rw [e7, bd2, t4, Option.bind_some, ← hC24]
        exact if_neg (show ¬ (1 : Int32) = 0 by decide)
      have f8 : f_X8_readSort M = g_X8_readSort_151 M40 := by
        rw [e8, n4, Option.bind_some, Option.bind_some, ← hM40]
      rw [f7, f8]
      have w := sort_times (C0 := C) (M0 := M) (C := C24) (M := M40) (p := 2) (r := 2) (s := 79) (by rw [hC24]; exact FC_pi F20 (by omega)) (by rw [hM40]; exact FM_pi (FM_pi (FM_pi F36 (by omega)) (by omega)) (by omega)) hn (by rw [hC24]; exact XC_pi x20 rfl) (by rw [hM40]; exact XM_pi (XM_pi (XM_pi x36 rfl) rfl) rfl) (by rw [hC24]; exact a_at) (by rw [hM40]; exact m_nt (by decide) m_at) (by rw [hM40]; exact m_nt (by decide) (m_nt (by decide) m_at)) (by omega) (by rw [hC24]; exact a_nt (by decide) g5) (by rw [hC24]; exact a_nt (by decide) g4) (by rw [hM40]; exact m_at) (by omega)
      rcases w with ⟨q, t, C', M', w⟩ | w
      · exact Or.inl ⟨q, 2, 79, t, C', M', w⟩
      · exact Or.inr w
    · rw [if_neg c2] at t4 n4
      refine Or.inr ⟨1, C20, m_pi (m_pi (m_pi (m_pi M36 0 10 1) 0 9 (nI 1)) 0 11 79) 0 12 1, by omega, ?_, ?_, x20, XM_pi (XM_pi (XM_pi (XM_pi x36 rfl) rfl) rfl) rfl, g2, m_nt (by decide) (m_nt (by decide) m_at), m_nt (by decide) (m_nt (by decide) (m_nt (by decide) m_at))⟩
      · rw [e7, bd2, t4, Option.bind_some]
        exact if_pos rfl
      · rw [e8, n4, Option.bind_some, Option.bind_some]
        exact s151f (s := 79) m_at rfl (m_nt (by decide) (m_nt (by decide) m_at))
  have t3 := (tk 79).trans (if_neg cO)
  obtain ⟨C10, hC10⟩ : ∃ C10, C10 = a_pi C 1 4 3 := ⟨_, rfl⟩
  have F10 : FC n T C10 := by rw [hC10]; exact FC_pi hC (by omega)
  have x10 : XC C C10 kR7 := by rw [hC10]; exact XC_pi XC_refl rfl
  have g2 : a_gi C10 1 2 = nI 0 := by rw [hC10]; exact a_nt (by decide) h7
  have g4 : a_gi C10 1 4 = 3 := by rw [hC10]; exact a_at
  have g5 : a_gi C10 1 5 = 1 := by rw [hC10]; exact a_nt (by decide) h5
  have t4 := takes7 F10 hn g2 hp0 81
  have e7 : f_X5_readRhythm C = bd2 (f_X5_takes 81 C10) fun r13 C14 => if (r13 : Int32) = 0 then some ((0 : Int32), C14) else bd2 (f_X5_readTimes C14) fun r16 C17 => if (r16 : Int32) = 0 then some ((0 : Int32), C17) else some ((1 : Int32), C17) := by
    rw [f_X5_readRhythm, bd2, t1, Option.bind_some]
    show (if (0 : Int32) = 0 then _ else _) = _
    rw [if_pos (by decide), bd2, t2, Option.bind_some]
    show (if (0 : Int32) = 0 then _ else _) = _
    rw [if_pos (by decide), bd2, t3, Option.bind_some]
    show (if (0 : Int32) = 0 then _ else _) = _
    rw [if_pos (by decide), Option.bind_some, ← hC10]
  by_cases cQ : 0 < n ∧ T 0 = 81
  · -- Q
    rw [if_pos cQ] at t4
    obtain ⟨C14, hC14⟩ : ∃ C14, C14 = a_pi C10 1 2 (nI (0 + 1)) := ⟨_, rfl⟩
    obtain ⟨M33, hM33⟩ : ∃ M33, M33 = m_pi (m_pi M 0 9 (nI 1)) 0 11 81 := ⟨_, rfl⟩
    have f7 : f_X5_readRhythm C = bd2 (f_X5_readTimes C14) fun r37 C38 => if (r37 : Int32) = 0 then some ((0 : Int32), C38) else some ((1 : Int32), C38) := by
      rw [e7, bd2, t4, Option.bind_some, ← hC14]
      exact if_neg (show ¬ (1 : Int32) = 0 by decide)
    have f8 : f_X8_readSort M = g_X8_readSort_151 M33 := by
      rw [f_X8_readSort, hr 70, if_neg cF, Option.bind_some, if_pos (by decide), hr 79, if_neg cO, Option.bind_some, if_pos (by decide), hr 81, if_pos cQ, Option.bind_some, if_neg (by decide), h8, nI_1, Option.bind_some, Option.bind_some, ← hM33]
    rw [f7, f8]
    have w := sort_times (C0 := C) (M0 := M) (C := C14) (M := M33) (p := 1) (r := 3) (s := 81) (by rw [hC14]; exact FC_pi F10 (by omega)) (by rw [hM33]; exact FM_pi (FM_pi hM (by omega)) (by omega)) hn (by rw [hC14]; exact XC_pi x10 rfl) (by rw [hM33]; exact XM_pi (XM_pi XM_refl rfl) rfl) (by rw [hC14]; exact a_at) (by rw [hM33]; exact m_nt (by decide) m_at) (by rw [hM33]; exact m_nt (by decide) (m_nt (by decide) h0)) (by omega) (by rw [hC14]; exact a_nt (by decide) g5) (by rw [hC14]; exact a_nt (by decide) g4) (by rw [hM33]; exact m_at) (by omega)
    rcases w with ⟨q, t, C', M', w⟩ | w
    · exact Or.inl ⟨q, 3, 81, t, C', M', w⟩
    · exact Or.inr w
  · rw [if_neg cQ] at t4
    have n1 : f_X8_need 73 M = some (m_pi (m_pi M 0 10 1) 0 9 (nI 0)) := by rw [nd 73, if_neg cI]
    have n2 := need8f (M := m_pi (m_pi M 0 10 1) 0 9 (nI 0)) (p := 0) m_at (m_nt (by decide) m_at) 115
    have n3 := need8f (M := m_pi (m_pi (m_pi (m_pi M 0 10 1) 0 9 (nI 0)) 0 10 1) 0 9 (nI 0)) (p := 0) m_at (m_nt (by decide) m_at) 111
    refine Or.inr ⟨0, C10, m_pi (m_pi (m_pi (m_pi (m_pi (m_pi (m_pi (m_pi M 0 10 1) 0 9 (nI 0)) 0 10 1) 0 9 (nI 0)) 0 10 1) 0 9 (nI 0)) 0 11 73) 0 12 1, hp0, ?_, ?_, x10, ?_, g2, ?_, ?_⟩
    rotate_left
    · rw [f_X8_readSort, hr 70, if_neg cF, Option.bind_some, if_pos (by decide), hr 79, if_neg cO, Option.bind_some, if_pos (by decide), hr 81, if_neg cQ, Option.bind_some, if_pos (by decide), n1, Option.bind_some, n2, Option.bind_some, n3, Option.bind_some, Option.bind_some]
      exact s151 (s := 73) m_at (Or.inr rfl)
    · exact XM_pi (XM_pi (XM_pi (XM_pi (XM_pi (XM_pi (XM_pi (XM_pi XM_refl rfl) rfl) rfl) rfl) rfl) rfl) rfl) rfl
    · exact m_nt (by decide) (m_nt (by decide) m_at)
    · exact m_nt (by decide) (m_nt (by decide) (m_nt (by decide) m_at))
    · rw [e7, bd2, t4, Option.bind_some]
      exact if_pos rfl

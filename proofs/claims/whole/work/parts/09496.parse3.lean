def good (r t pe : Nat) : Prop := (r = 0 ∧ t = 1 ∧ pe = 1) ∨ (r ≠ 0 ∧ 1 ≤ pe ∧ pe ≤ 30 ∧ 1 ≤ t ∧ t ≤ 15 ∧ ((r = 4 ∧ t = 1 ∧ pe % 2 = 0) ∨ (r ≠ 4 ∧ 2 * t + (if r = 3 then 1 else 0) ≤ pe)))
theorem goes_ok {C : aSc} {M : aMm} {r s t pe : Nat} (hr : rhy r s t) (h0 : r ≠ 0) (hpe : pe ≤ 99) (c4 : a_gi C 1 4 = nI r) (c5 : a_gi C 1 5 = nI t) (c7 : a_gi C 1 7 = nI pe) (m11 : m_gi M 0 11 = nI s) (m12 : m_gi M 0 12 = nI t) (m14 : m_gi M 0 14 = nI pe) : (good r t pe ∧ f_X5_goesIn C = some 1 ∧ f_X8_goesIn M = some 1) ∨ (¬ good r t pe ∧ f_X5_goesIn C = some 0 ∧ f_X8_goesIn M = some 0) := by
  have ht : t ≤ 99 := by unfold rhy at hr; omega
  rw [f_X5_goesIn, c4, c5, c7]
  have er : nI pe - nI pe / 2 * 2 = nI (pe % 2) := pk_rem (d := 2) (by omega) (by omega) (by omega)
  have hw : 1 ≤ pe → pe ≤ 30 → f_X8_within (nI pe) 1 30 M = some 1 := fun a b => within_in (lo := 1) (hi := 30) a b (by omega)
  rcases hr with ⟨rfl, rfl, rfl⟩ | ⟨rfl, rfl, rfl⟩ | ⟨hrs, _⟩
  · exact absurd rfl h0
  · have e8 : f_X8_goesIn M = (f_X8_within (nI pe) 1 30 M).bind fun r4 => if (r4 : Int32) = 0 then some 0 else if nI (pe % 2) = 0 then some 1 else some 0 := by
      rw [f_X8_goesIn, m11, if_neg (by decide), if_pos (by decide), m14, er]
    rw [e8]
    by_cases p1 : pe < 1
    · have q1 : nI pe < 1 := (nI_ltI (b := 1) (by omega) (by omega)).mpr p1
      exact Or.inr ⟨by unfold good; omega, by rw [if_pos q1], by rw [within_out (Or.inl q1), Option.bind_some, if_pos (by decide)]⟩
    have q1 : ¬ nI pe < 1 := fun z => p1 ((nI_ltI (b := 1) (by omega) (by omega)).mp z)
    by_cases p2 : 30 < pe
    · have q2 : 30 < nI pe := (nI_ltI (a := 30) (by omega) (by omega)).mpr p2
      exact Or.inr ⟨by unfold good; omega, by rw [if_neg q1, if_pos q2], by rw [within_out (Or.inr q2), Option.bind_some, if_pos (by decide)]⟩
    have q2 : ¬ 30 < nI pe := fun z => p2 ((nI_ltI (a := 30) (by omega) (by omega)).mp z)
    rw [if_neg q1, if_neg q2, if_neg (by decide), if_pos (by decide), if_pos (by decide), er, hw (by omega) (by omega), Option.bind_some, if_neg (show ¬ (1 : Int32) = 0 by decide)]
    by_cases p3 : pe % 2 = 0
    · rw [p3, if_pos (by decide)]
      exact Or.inl ⟨by unfold good; omega, rfl, rfl⟩
    · rw [if_neg (nI_ne0 (by omega) (by omega))]
      exact Or.inr ⟨by unfold good; omega, rfl, rfl⟩
  · have hs1 : ¬ nI s = 70 := by rcases hrs with ⟨_, rfl⟩ | ⟨_, rfl⟩ | ⟨_, rfl⟩ <;> decide
    have hs2 : ¬ nI s = 73 := by rcases hrs with ⟨_, rfl⟩ | ⟨_, rfl⟩ | ⟨_, rfl⟩ <;> decide
    have hr4 : ¬ nI r = 4 := by rcases hrs with ⟨rfl, _⟩ | ⟨rfl, _⟩ | ⟨rfl, _⟩ <;> decide
    have e1 : (2 : Int32) * nI t + 1 = nI (2 * t + 1) := by rw [show (2 : Int32) = nI 2 from rfl, pk_mul, nI_1]
    have e0 : (2 : Int32) * nI t + 0 = nI (2 * t) := by rw [Int32.add_zero, show (2 : Int32) = nI 2 from rfl, pk_mul]
    have e8 : f_X8_goesIn M = (f_X8_within (nI pe) 1 30 M).bind fun r8 => if (r8 : Int32) = 0 then some (0 : Int32) else (f_X8_within (nI t) (1 : Int32) (15 : Int32) M).bind fun r10 => if (r10 : Int32) = 0 then some (0 : Int32) else if (nI s : Int32) = (81 : Int32) then if (nI pe : Int32) < nI (2 * t + 1) then some (0 : Int32) else some (1 : Int32) else if (nI pe : Int32) < nI (2 * t) then some (0 : Int32) else some (1 : Int32) := by
      rw [f_X8_goesIn, m11, if_neg hs1, if_neg hs2, m12, m14, e1, e0]
    rw [e8, e1, e0, if_neg hr4]
    by_cases p1 : pe < 1
    · have q1 : nI pe < 1 := (nI_ltI (b := 1) (by omega) (by omega)).mpr p1
      exact Or.inr ⟨by unfold good; omega, by rw [if_pos q1], by rw [within_out (Or.inl q1), Option.bind_some, if_pos (by decide)]⟩
    have q1 : ¬ nI pe < 1 := fun z => p1 ((nI_ltI (b := 1) (by omega) (by omega)).mp z)
    by_cases p2 : 30 < pe
    · have q2 : 30 < nI pe := (nI_ltI (a := 30) (by omega) (by omega)).mpr p2
      exact Or.inr ⟨by unfold good; omega, by rw [if_neg q1, if_pos q2], by rw [within_out (Or.inr q2), Option.bind_some, if_pos (by decide)]⟩
    have q2 : ¬ 30 < nI pe := fun z => p2 ((nI_ltI (a := 30) (by omega) (by omega)).mp z)
    rw [if_neg q1, if_neg q2, hw (by omega) (by omega), Option.bind_some]
    rw [if_neg (show ¬ (1 : Int32) = 0 by decide)]
    by_cases p3 : t < 1
    · have q3 : nI t < 1 := (nI_ltI (b := 1) (by omega) (by omega)).mpr p3
      rw [if_pos q3, within_out (Or.inl q3), Option.bind_some, if_pos (show (0 : Int32) = 0 by decide)]
      exact Or.inr ⟨by unfold good; omega, rfl, rfl⟩
    have q3 : ¬ nI t < 1 := fun z => p3 ((nI_ltI (b := 1) (by omega) (by omega)).mp z)
    by_cases p4 : 15 < t
    · have q4 : 15 < nI t := (nI_ltI (a := 15) (by omega) (by omega)).mpr p4
      rw [if_neg q3, if_neg (fa_of_lt q4).2.1, within_out (Or.inr q4), Option.bind_some, if_pos (show (0 : Int32) = 0 by decide)]
      exact Or.inr ⟨by unfold good; omega, rfl, rfl⟩
    have q4 : nI t ≤ 15 := (nI_leI (b := 15) (by omega) (by omega)).mpr (by omega)
    have hw2 : f_X8_within (nI t) 1 15 M = some 1 := within_in (lo := 1) (hi := 15) (by omega) (by omega) (by omega)
    rw [if_neg q3, if_pos q4, hw2, Option.bind_some, if_neg (show ¬ (1 : Int32) = 0 by decide)]
    by_cases h3 : r = 3
    · have hs : s = 81 := by omega
      subst h3
      subst hs
      rw [if_pos (show nI 3 = (3 : Int32) by decide), if_pos (show nI 81 = (81 : Int32) by decide)]
      by_cases p5 : pe < 2 * t + 1
      · rw [if_pos ((nI_ltI (by omega) (by omega)).mpr p5)]
        exact Or.inr ⟨by unfold good; rw [if_pos rfl]; omega, rfl, rfl⟩
      · rw [if_neg (fun z => p5 ((nI_ltI (by omega) (by omega)).mp z))]
        exact Or.inl ⟨by unfold good; rw [if_pos rfl]; omega, rfl, rfl⟩
    · have hr3 : ¬ nI r = 3 := fun z => h3 ((nI_eq (b := 3) (by omega) (by omega)).mp z)
      have hs3 : ¬ nI s = 81 := by
        intro z
        have := (nI_eq (b := 81) (by omega) (by omega)).mp z
        omega
      rw [if_neg hr3, if_neg hs3]
      by_cases p5 : pe < 2 * t
      · rw [if_pos ((nI_ltI (by omega) (by omega)).mpr p5)]
        exact Or.inr ⟨by unfold good; rw [if_neg h3]; omega, rfl, rfl⟩
      · rw [if_neg (fun z => p5 ((nI_ltI (by omega) (by omega)).mp z))]
        exact Or.inl ⟨by unfold good; rw [if_neg h3]; omega, rfl, rfl⟩
def kA7 (j : Nat) : Bool := decide (2 ≤ j) && decide (j ≤ 8)
def kA8 (j : Nat) : Bool := decide (9 ≤ j) && decide (j ≤ 15)
theorem kR_A7 : ∀ j, kR7 j = true → kA7 j = true := by intro j h; simp [kR7] at h; simp [kA7]; omega
theorem kR_A8 : ∀ j, kR8 j = true → kA8 j = true := by intro j h; simp [kR8] at h; simp [kA8]; omega
theorem kN_A7 : ∀ j, kN j = true → kA7 j = true := by intro j h; simp [kN] at h; simp [kA7]; omega
theorem kM_A8 : ∀ j, kM j = true → kA8 j = true := by intro j h; simp [kM] at h; simp [kA8]; omega
/-- what both have read -/
def red (rr : Int32) (C : aSc) (M : aMm) : Prop := (∃ q, q ≤ 40 ∧ rr = nI q) ∨ (rr = -1 ∧ ∃ r s t co pe, rhy r s t ∧ good r t pe ∧ co ≤ 2 ∧ a_gi C 1 4 = nI r ∧ a_gi C 1 5 = nI t ∧ a_gi C 1 6 = nI co ∧ a_gi C 1 7 = nI pe ∧ m_gi M 0 11 = nI s ∧ m_gi M 0 12 = nI t ∧ m_gi M 0 13 = nI co ∧ m_gi M 0 14 = nI pe)
theorem f119 {M : aMm} {p : Nat} (h9 : m_gi M 0 9 = nI p) (h10 : m_gi M 0 10 = 1) : g_X8_faultOf_119 M = some (nI p, m_pi M 0 10 1) := by
  have a : m_gi (m_pi M 0 10 1) 0 10 = 1 := m_at
  have b : m_gi (m_pi M 0 10 1) 0 9 = nI p := m_nt (by decide) h9
  rw [g_X8_faultOf_119, h10, if_neg (by decide), g_X8_faultOf_138, g_X8_faultOf_143, if_pos (by decide), Option.bind_some, a, if_neg (by decide), b]
theorem end_ok {n : Nat} {T : Nat → Int32} {C0 C : aSc} {M0 M : aMm} {p r s t co pe pp : Nat} (hC : FC n T C) (hM : FM n T M) (hn : n ≤ 40) (xC : XC C0 C kA7) (xM : XM M0 M kA8) (c2 : a_gi C 1 2 = nI p) (m9 : m_gi M 0 9 = nI p) (m10 : m_gi M 0 10 = 0) (hp : p ≤ n) (hr : rhy r s t) (hco : co ≤ 2) (hpe : pe ≤ 99) (hpp : pp ≤ 40) (hz : r = 0 → pe = 1) (c4 : a_gi C 1 4 = nI r) (c5 : a_gi C 1 5 = nI t) (c6 : a_gi C 1 6 = nI co) (c7 : a_gi C 1 7 = nI pe) (c8 : r ≠ 0 → a_gi C 1 8 = nI pp) (m11 : m_gi M 0 11 = nI s) (m12 : m_gi M 0 12 = nI t) (m13 : m_gi M 0 13 = nI co) (m14 : m_gi M 0 14 = nI pe) (m15 : r ≠ 0 → m_gi M 0 15 = nI pp) : ∃ rr M', g_X5_findFault_53 C = some (rr, C) ∧ g_X8_faultOf_119 M = some (rr, M') ∧ XM M0 M' kA8 ∧ red rr C M' := by
  rcases Nat.lt_or_ge p n with hlt | hge
  · have a : m_gi (m_pi M 0 10 1) 0 10 = 1 := m_at
    have b : m_gi (m_pi M 0 10 1) 0 9 = nI p := m_nt (by decide) m9
    have hle : ¬ nI n ≤ nI p := fun z => by have := (nI_leI (by omega) (by omega)).mp z; omega
    refine ⟨nI p, m_pi M 0 10 1, ?_, ?_, XM_pi xM rfl, Or.inl ⟨p, by omega, rfl⟩⟩
    · rw [g_X5_findFault_53, hC.1, c2, if_neg hle]
    · rw [g_X8_faultOf_119, m10, if_pos (by decide), hM.1, m9, if_neg hle, g_X8_faultOf_138, g_X8_faultOf_143, if_pos (by decide), Option.bind_some, a, if_neg (by decide), b]
  · have hle : nI n ≤ nI p := (nI_leI (by omega) (by omega)).mpr hge
    have a : m_gi (m_pi M 0 10 0) 0 10 = 0 := m_at
    have b11 : m_gi (m_pi M 0 10 0) 0 11 = nI s := m_nt (by decide) m11
    have b12 : m_gi (m_pi M 0 10 0) 0 12 = nI t := m_nt (by decide) m12
    have b13 : m_gi (m_pi M 0 10 0) 0 13 = nI co := m_nt (by decide) m13
    have b14 : m_gi (m_pi M 0 10 0) 0 14 = nI pe := m_nt (by decide) m14
    have e8 : g_X8_faultOf_119 M = (f_X8_goesIn (m_pi M 0 10 0)).bind fun r21 => if (r21 : Int32) = 0 then some ((m_gi (m_pi M 0 10 0) 0 15), m_pi M 0 10 0) else some ((-1 : Int32), m_pi M 0 10 0) := by
      rw [g_X8_faultOf_119, m10, if_pos (by decide), hM.1, m9, if_pos hle, g_X8_faultOf_143, if_pos (by decide), Option.bind_some, a, if_pos (by decide)]
    by_cases h0 : r = 0
    · have hs : s = 70 ∧ t = 1 := by unfold rhy at hr; omega
      obtain ⟨rfl, rfl⟩ := hs
      subst h0
      refine ⟨-1, m_pi M 0 10 0, ?_, ?_, XM_pi xM rfl, Or.inr ⟨rfl, 0, 70, 1, co, pe, hr, Or.inl ⟨rfl, rfl, hz rfl⟩, hco, c4, c5, c6, c7, b11, b12, b13, b14⟩⟩
      · rw [g_X5_findFault_53, hC.1, c2, if_pos hle, c4, if_pos (by decide)]
      · rw [e8, f_X8_goesIn, b11, if_pos (by decide), Option.bind_some, if_neg (by decide)]
    · have hne : ¬ nI r = 0 := by
        have : r ≤ 4 := by unfold rhy at hr; omega
        exact nI_ne0 (by omega) (by omega)
      rcases goes_ok (C := C) (M := m_pi M 0 10 0) hr h0 hpe c4 c5 c7 b11 b12 b14 with ⟨g, e1, e2⟩ | ⟨g, e1, e2⟩
      · refine ⟨-1, m_pi M 0 10 0, ?_, ?_, XM_pi xM rfl, Or.inr ⟨rfl, r, s, t, co, pe, hr, g, hco, c4, c5, c6, c7, b11, b12, b13, b14⟩⟩
        · rw [g_X5_findFault_53, hC.1, c2, if_pos hle, c4, if_neg hne, e1, Option.bind_some, if_neg (by decide)]
        · rw [e8, e2, Option.bind_some, if_neg (by decide)]
      · have b15 : m_gi (m_pi M 0 10 0) 0 15 = nI pp := m_nt (by decide) (m15 h0)
        refine ⟨nI pp, m_pi M 0 10 0, ?_, ?_, XM_pi xM rfl, Or.inl ⟨pp, hpp, rfl⟩⟩
        · rw [g_X5_findFault_53, hC.1, c2, if_pos hle, c4, if_neg hne, e1, Option.bind_some, if_pos (by decide), c8 h0]
        · rw [e8, e2, Option.bind_some, if_pos (by decide), b15]
def tl7 (C12 : aSc) : Option (Int32 × aSc) := if ((a_gi C12 1 4) : Int32) = 0 then g_X5_findFault_53 C12 else bd2 (f_X5_readPeriod C12) fun r19 C20 => if (r19 : Int32) = 0 then some ((a_gi C20 1 2), C20) else g_X5_findFault_53 C20
def tl8 (M14 : aMm) : Option (Int32 × aMm) := (some (m_pi M14 0 14 (1 : Int32))).bind fun M15 => if ((m_gi M15 0 10) : Int32) = 0 then if ((m_gi M15 0 11) : Int32) = (70 : Int32) then g_X8_faultOf_119 M15 else (some (m_pi M15 0 15 (m_gi M15 0 9))).bind fun M26 => bd2 (f_X8_number M26) fun r29 M30 => (some (m_pi M30 0 14 r29)).bind fun M31 => (f_X8_need (115 : Int32) M31).bind fun M34 => g_X8_faultOf_119 M34 else g_X8_faultOf_119 M15
theorem tl8f {M : aMm} {p : Nat} (h9 : m_gi M 0 9 = nI p) (h10 : m_gi M 0 10 = 1) : tl8 M = some (nI p, m_pi (m_pi M 0 14 1) 0 10 1) := by
  have a : m_gi (m_pi M 0 14 1) 0 10 = 1 := m_nt (by decide) h10
  rw [tl8, Option.bind_some, a, if_neg (by decide)]
  exact f119 (m_nt (by decide) h9) a
theorem tail_ok {n : Nat} {T : Nat → Int32} {C0 C : aSc} {M0 M : aMm} {p r s t co : Nat} (hC : FC n T C) (hM : FM n T M) (hn : n ≤ 40) (xC : XC C0 C kA7) (xM : XM M0 M kA8) (c2 : a_gi C 1 2 = nI p) (m9 : m_gi M 0 9 = nI p) (m10 : m_gi M 0 10 = 0) (hp : p ≤ n) (hr : rhy r s t) (hco : co ≤ 2) (c4 : a_gi C 1 4 = nI r) (c5 : a_gi C 1 5 = nI t) (c6 : a_gi C 1 6 = nI co) (c7 : a_gi C 1 7 = nI 1) (m11 : m_gi M 0 11 = nI s) (m12 : m_gi M 0 12 = nI t) (m13 : m_gi M 0 13 = nI co) : ∃ rr C' M', tl7 C = some (rr, C') ∧ tl8 M = some (rr, M') ∧ XC C0 C' kA7 ∧ XM M0 M' kA8 ∧ red rr C' M' := by
  obtain ⟨M15, hM15⟩ : ∃ M15, M15 = m_pi M 0 14 1 := ⟨_, rfl⟩
  have F15 : FM n T M15 := by rw [hM15]; exact FM_pi hM (by omega)
  have x15 : XM M0 M15 kA8 := by rw [hM15]; exact XM_pi xM rfl
  have a9 : m_gi M15 0 9 = nI p := by rw [hM15]; exact m_nt (by decide) m9
  have a10 : m_gi M15 0 10 = 0 := by rw [hM15]; exact m_nt (by decide) m10
  have a11 : m_gi M15 0 11 = nI s := by rw [hM15]; exact m_nt (by decide) m11
  have a12 : m_gi M15 0 12 = nI t := by rw [hM15]; exact m_nt (by decide) m12
  have a13 : m_gi M15 0 13 = nI co := by rw [hM15]; exact m_nt (by decide) m13
  have a14 : m_gi M15 0 14 = nI 1 := by rw [hM15]; exact m_at
  by_cases h0 : r = 0
  · have hs : s = 70 ∧ t = 1 := by unfold rhy at hr; omega
    obtain ⟨rr, M', y1, y2, y3, y4⟩ := end_ok (pp := 0) hC F15 hn xC x15 c2 a9 a10 hp hr hco (by omega) (by omega) (fun _ => rfl) c4 c5 c6 c7 (fun z => absurd h0 z) a11 a12 a13 a14 (fun z => absurd h0 z)
    refine ⟨rr, C, M', ?_, ?_, xC, y3, y4⟩
    · rw [tl7, c4, if_pos (by rw [h0]; rfl)]; exact y1
    · rw [tl8, Option.bind_some, ← hM15, a10, if_pos (by decide), a11, if_pos (by rw [hs.1]; rfl)]; exact y2
  have hr4 : r ≤ 4 := by unfold rhy at hr; omega
  have hne : ¬ nI r = 0 := nI_ne0 (by omega) (by omega)
  have hs70 : ¬ nI s = 70 := by
    unfold rhy at hr
    intro z
    have := (nI_eq (b := 70) (by omega) (by omega)).mp z
    omega
  obtain ⟨C1, hC1⟩ : ∃ C1, C1 = a_pi C 1 8 (nI p) := ⟨_, rfl⟩
  obtain ⟨M26, hM26⟩ : ∃ M26, M26 = m_pi M15 0 15 (nI p) := ⟨_, rfl⟩
  have F1 : FC n T C1 := by rw [hC1]; exact FC_pi hC (by omega)
  have F26 : FM n T M26 := by rw [hM26]; exact FM_pi F15 (by omega)
  have x1 : XC C0 C1 kA7 := by rw [hC1]; exact XC_pi xC rfl
  have x26 : XM M0 M26 kA8 := by rw [hM26]; exact XM_pi x15 rfl
  have e7 : tl7 C = bd2 (f_X5_readPeriod C) fun r19 C20 => if (r19 : Int32) = 0 then some ((a_gi C20 1 2), C20) else g_X5_findFault_53 C20 := by
    rw [tl7, c4, if_neg hne]
  have e8 : tl8 M = bd2 (f_X8_number M26) fun r29 M30 => (some (m_pi M30 0 14 r29)).bind fun M31 => (f_X8_need (115 : Int32) M31).bind fun M34 => g_X8_faultOf_119 M34 := by
    rw [tl8, Option.bind_some, ← hM15, a10, if_pos (by decide), a11, if_neg hs70, a9, Option.bind_some, ← hM26]
  rcases num_ok F1 F26 hn (by rw [hC1]; exact a_nt (by decide) c2) (by rw [hM26]; exact m_nt (by decide) a9) (by rw [hM26]; exact m_nt (by decide) a10) hp with ⟨q, v, C5, M30, y1, y2, y3, y4, y5, y6, y7, y8, y9, y10⟩ | ⟨C5, M30, w, y3, y4, y5, y6, y7, y9, y10⟩
  · obtain ⟨C6, hC6⟩ : ∃ C6, C6 = a_pi C5 1 7 (nI v) := ⟨_, rfl⟩
    obtain ⟨M31, hM31⟩ : ∃ M31, M31 = m_pi M30 0 14 (nI v) := ⟨_, rfl⟩
    have x5 : XC C0 C5 kA7 := XC_tr x1 y5 (fun _ h => h) kN_A7
    have x30 : XM M0 M30 kA8 := XM_tr x26 y6 (fun _ h => h) kM_A8
    have x6 : XC C0 C6 kA7 := by rw [hC6]; exact XC_pi x5 rfl
    have x31 : XM M0 M31 kA8 := by rw [hM31]; exact XM_pi x30 rfl
    have F6 : FC n T C6 := by rw [hC6]; exact FC_pi (FC_X F1 y5 rfl) (by omega)
    have F31 : FM n T M31 := by rw [hM31]; exact FM_pi (FM_X F26 y6 rfl) (by omega)
    have k2 : a_gi C6 1 2 = nI q := by rw [hC6]; exact a_nt (by decide) y7
    have k4 : a_gi C6 1 4 = nI r := by rw [hC6]; exact a_nt (by decide) ((XC_at y5 rfl).trans (by rw [hC1]; exact a_nt (by decide) c4))
    have k5 : a_gi C6 1 5 = nI t := by rw [hC6]; exact a_nt (by decide) ((XC_at y5 rfl).trans (by rw [hC1]; exact a_nt (by decide) c5))
    have k6 : a_gi C6 1 6 = nI co := by rw [hC6]; exact a_nt (by decide) ((XC_at y5 rfl).trans (by rw [hC1]; exact a_nt (by decide) c6))
    have k7 : a_gi C6 1 7 = nI v := by rw [hC6]; exact a_at
    have k8 : a_gi C6 1 8 = nI p := by rw [hC6]; exact a_nt (by decide) ((XC_at y5 rfl).trans (by rw [hC1]; exact a_at))
    have n9 : m_gi M31 0 9 = nI q := by rw [hM31]; exact m_nt (by decide) y9
    have n10 : m_gi M31 0 10 = 0 := by rw [hM31]; exact m_nt (by decide) y10
    have n11 : m_gi M31 0 11 = nI s := by rw [hM31]; exact m_nt (by decide) ((XM_at y6 rfl).trans (by rw [hM26]; exact m_nt (by decide) a11))
    have n12 : m_gi M31 0 12 = nI t := by rw [hM31]; exact m_nt (by decide) ((XM_at y6 rfl).trans (by rw [hM26]; exact m_nt (by decide) a12))
    have n13 : m_gi M31 0 13 = nI co := by rw [hM31]; exact m_nt (by decide) ((XM_at y6 rfl).trans (by rw [hM26]; exact m_nt (by decide) a13))
    have n14 : m_gi M31 0 14 = nI v := by rw [hM31]; exact m_at
    have n15 : m_gi M31 0 15 = nI p := by rw [hM31]; exact m_nt (by decide) ((XM_at y6 rfl).trans (by rw [hM26]; exact m_at))
    have t3 := takes7 F6 hn k2 y1 115
    have d3 := need8 F31 hn n9 n10 y1 115
    have f7 : f_X5_readPeriod C = bd2 (f_X5_takes 115 C6) fun r9 C10 => if r9 = 0 ∨ r9 = 1 then some (r9, C10) else none := by
      rw [f_X5_readPeriod, c2, Option.bind_some, ← hC1, bd2, y3, Option.bind_some]
      show (if (1 : Int32) = 0 then _ else _) = _
      rw [if_neg (by decide), Option.bind_some, y8, ← hC6]
    have f8 : tl8 M = (f_X8_need 115 M31).bind fun M34 => g_X8_faultOf_119 M34 := by
      rw [e8, bd2, y4, Option.bind_some, Option.bind_some, ← hM31]
    by_cases hq : q < n ∧ T q = 115
    · rw [if_pos hq] at t3 d3
      obtain ⟨rr, M', w1, w2, w3, w4⟩ := end_ok (C0 := C0) (M0 := M0) (C := a_pi C6 1 2 (nI (q + 1))) (M := m_pi (m_pi M31 0 10 0) 0 9 (nI (q + 1))) (p := q + 1) (pe := v) (pp := p) (FC_pi F6 (by omega)) (FM_pi (FM_pi F31 (by omega)) (by omega)) hn (XC_pi x6 rfl) (XM_pi (XM_pi x31 rfl) rfl) a_at m_at (m_nt (by decide) m_at) (by omega) hr hco y2 (by omega) (fun z => absurd z h0) (a_nt (by decide) k4) (a_nt (by decide) k5) (a_nt (by decide) k6) (a_nt (by decide) k7) (fun _ => a_nt (by decide) k8) (m_nt (by decide) (m_nt (by decide) n11)) (m_nt (by decide) (m_nt (by decide) n12)) (m_nt (by decide) (m_nt (by decide) n13)) (m_nt (by decide) (m_nt (by decide) n14)) (fun _ => m_nt (by decide) (m_nt (by decide) n15))
      refine ⟨rr, _, M', ?_, ?_, XC_pi x6 rfl, w3, w4⟩
      · rw [e7, f7, bd2, bd2, t3, Option.bind_some]
        show (Option.bind (if (1 : Int32) = 0 ∨ (1 : Int32) = 1 then _ else none) _) = _
        rw [if_pos (by decide), Option.bind_some]
        show (if (1 : Int32) = 0 then _ else _) = _
        rw [if_neg (by decide)]; exact w1
      · rw [f8, d3, Option.bind_some]; exact w2
    · rw [if_neg hq] at t3 d3
      refine ⟨nI q, C6, m_pi (m_pi (m_pi M31 0 10 1) 0 9 (nI q)) 0 10 1, ?_, ?_, x6, XM_pi (XM_pi (XM_pi x31 rfl) rfl) rfl, Or.inl ⟨q, by omega, rfl⟩⟩
      · rw [e7, f7, bd2, bd2, t3, Option.bind_some]
        show (Option.bind (if (0 : Int32) = 0 ∨ (0 : Int32) = 1 then _ else none) _) = _
        rw [if_pos (by decide), Option.bind_some]
        show (if (0 : Int32) = 0 then _ else _) = _
        rw [if_pos (by decide)]
        show some (a_gi C6 1 2, C6) = _
        rw [k2]
      · rw [f8, d3, Option.bind_some]; exact f119 m_at (m_nt (by decide) m_at)
  · have x5 : XC C0 C5 kA7 := XC_tr x1 y5 (fun _ h => h) kN_A7
    have x30 : XM M0 M30 kA8 := XM_tr x26 y6 (fun _ h => h) kM_A8
    have d3 := need8f (M := m_pi M30 0 14 w) (p := p) (m_nt (by decide) y9) (m_nt (by decide) y10) 115
    refine ⟨nI p, C5, m_pi (m_pi (m_pi (m_pi M30 0 14 w) 0 10 1) 0 9 (nI p)) 0 10 1, ?_, ?_, x5, XM_pi (XM_pi (XM_pi (XM_pi x30 rfl) rfl) rfl) rfl, Or.inl ⟨p, by omega, rfl⟩⟩
    · rw [e7, f_X5_readPeriod, c2, Option.bind_some, ← hC1, bd2, bd2, y3, Option.bind_some]
      show (Option.bind (if (0 : Int32) = 0 then _ else _) _) = _
      rw [if_pos (by decide), Option.bind_some]
      show (if (0 : Int32) = 0 then _ else _) = _
      rw [if_pos (by decide)]
      show some (a_gi C5 1 2, C5) = _
      rw [y7]
    · rw [e8, bd2, y4, Option.bind_some, Option.bind_some, d3, Option.bind_some]
      exact f119 m_at (m_nt (by decide) m_at)
/-- the text, both readers -/
theorem fault_ok {n : Nat} {T : Nat → Int32} {C : aSc} {M : aMm} (hC : FC n T C) (hM : FM n T M) (hn : n ≤ 40) : ∃ rr C' M', f_X5_findFault C = some (rr, C') ∧ f_X8_faultOf M = some (rr, M') ∧ XC C C' kA7 ∧ XM M M' kA8 ∧ red rr C' M' := by
  obtain ⟨C5, hC5⟩ : ∃ C5, C5 = a_pi (a_pi (a_pi C 1 2 0) 1 5 1) 1 7 1 := ⟨_, rfl⟩
  obtain ⟨M3, hM3⟩ : ∃ M3, M3 = m_pi (m_pi M 0 9 0) 0 10 0 := ⟨_, rfl⟩
  have F5 : FC n T C5 := by rw [hC5]; exact FC_pi (FC_pi (FC_pi hC (by omega)) (by omega)) (by omega)
  have F3 : FM n T M3 := by rw [hM3]; exact FM_pi (FM_pi hM (by omega)) (by omega)
  have x5 : XC C C5 kA7 := by rw [hC5]; exact XC_pi (XC_pi (XC_pi XC_refl rfl) rfl) rfl
  have x3 : XM M M3 kA8 := by rw [hM3]; exact XM_pi (XM_pi XM_refl rfl) rfl
  have g7 : a_gi C5 1 7 = nI 1 := by rw [hC5]; exact a_at
  have e7 : f_X5_findFault C = bd2 (f_X5_readRhythm C5) fun r8 C9 => if (r8 : Int32) = 0 then some ((a_gi C9 1 2), C9) else bd2 (f_X5_readColour C9) fun r11 C12 => if (r11 : Int32) = 0 then some ((a_gi C12 1 2), C12) else tl7 C12 := by
    rw [f_X5_findFault, Option.bind_some, Option.bind_some, Option.bind_some, ← hC5]; rfl
  have e8 : f_X8_faultOf M = (f_X8_readSort M3).bind fun M6 => (f_X8_isHere (87 : Int32) M6).bind fun r8 => if (r8 : Int32) = 0 then (f_X8_isHere (82 : Int32) M6).bind fun r10 => if (r10 : Int32) = 0 then g_X8_faultOf_42 ((2 : Int32)) M6 else g_X8_faultOf_42 ((1 : Int32)) M6 else g_X8_faultOf_42 ((0 : Int32)) M6 := by
    rw [f_X8_faultOf, Option.bind_some, Option.bind_some, ← hM3]
  have g42 : ∀ M6 : aMm, g_X8_faultOf_42 0 M6 = (f_X8_need 87 (m_pi M6 0 13 0)).bind tl8 ∧ g_X8_faultOf_42 1 M6 = (f_X8_need 82 (m_pi M6 0 13 1)).bind tl8 ∧ g_X8_faultOf_42 2 M6 = (f_X8_need 71 (m_pi M6 0 13 2)).bind tl8 := by
    intro M6
    have z0 : m_gi (m_pi M6 0 13 0) 0 13 = 0 := m_at
    have z1 : m_gi (m_pi M6 0 13 1) 0 13 = 1 := m_at
    have z2 : m_gi (m_pi M6 0 13 2) 0 13 = 2 := m_at
    refine ⟨?_, ?_, ?_⟩
    · rw [g_X8_faultOf_42, Option.bind_some, z0, if_pos (by decide)]; rfl
    · rw [g_X8_faultOf_42, Option.bind_some, z1, if_neg (by decide), if_pos (by decide)]; rfl
    · rw [g_X8_faultOf_42, Option.bind_some, z2, if_neg (by decide), if_neg (by decide)]; rfl
  rcases rhythm_ok F5 F3 hn (by rw [hC5]; exact a_nt (by decide) (a_nt (by decide) a_at)) (by rw [hM3]; exact m_nt (by decide) m_at) (by rw [hM3]; exact m_at) (by rw [hC5]; exact a_nt (by decide) a_at) with ⟨q, r, s, t, C9, M6, y1, y2, y3, y4, y5, y6, y7, y8, y9, y10, y11, y12, y13⟩ | ⟨q, C9, M6, y1, y3, y4, y5, y6, y7, y9, y10⟩
  · have x9 : XC C C9 kA7 := XC_tr x5 y5 (fun _ h => h) kR_A7
    have x6 : XM M M6 kA8 := XM_tr x3 y6 (fun _ h => h) kR_A8
    have F9 : FC n T C9 := FC_X F5 y5 rfl
    have F6 : FM n T M6 := FM_X F3 y6 rfl
    have k7 : a_gi C9 1 7 = nI 1 := (XC_at y5 rfl).trans g7
    have f7 : f_X5_findFault C = bd2 (f_X5_readColour C9) fun r11 C12 => if (r11 : Int32) = 0 then some ((a_gi C12 1 2), C12) else tl7 C12 := by
      rw [e7, bd2, y3, Option.bind_some]
      exact if_neg (show ¬ (1 : Int32) = 0 by decide)
    have tk := takes7 F9 hn y7 y1
    have hr := here8 F6 hn y10 y11 y1
    -- with the colour read
    have fin : ∀ (co : Nat) (x : Int32), co ≤ 2 → (q < n ∧ T q = x) → f_X5_readColour C9 = some (1, a_pi (a_pi C9 1 2 (nI (q + 1))) 1 6 (nI co)) ∨ f_X5_readColour C9 = some (1, a_pi (a_pi C9 1 6 (nI co)) 1 2 (nI (q + 1))) → f_X8_faultOf M = (f_X8_need x (m_pi M6 0 13 (nI co))).bind tl8 → ∃ rr C' M', f_X5_findFault C = some (rr, C') ∧ f_X8_faultOf M = some (rr, M') ∧ XC C C' kA7 ∧ XM M M' kA8 ∧ red rr C' M' := by
      intro co x hco hx h1 h2
      have d := need8 (FM_pi (v := nI co) F6 (show 13 ≠ 5 by omega)) hn (m_nt (by decide) y10) (m_nt (by decide) y11) y1 x
      rw [if_pos hx] at d
      rw [d, Option.bind_some] at h2
      have go : ∀ C12, f_X5_readColour C9 = some (1, C12) → FC n T C12 → XC C C12 kA7 → a_gi C12 1 2 = nI (q + 1) → a_gi C12 1 4 = nI r → a_gi C12 1 5 = nI t → a_gi C12 1 6 = nI co → a_gi C12 1 7 = nI 1 → ∃ rr C' M', f_X5_findFault C = some (rr, C') ∧ f_X8_faultOf M = some (rr, M') ∧ XC C C' kA7 ∧ XM M M' kA8 ∧ red rr C' M' := by
        intro C12 u1 u2 u3 u4 u5 u6 u7 u8
        obtain ⟨rr, C', M', w1, w2, w3, w4, w5⟩ := tail_ok (C0 := C) (M0 := M) (C := C12) (M := m_pi (m_pi (m_pi M6 0 13 (nI co)) 0 10 0) 0 9 (nI (q + 1))) (p := q + 1) u2 (FM_pi (FM_pi (FM_pi F6 (by omega)) (by omega)) (by omega)) hn u3 (XM_pi (XM_pi (XM_pi x6 rfl) rfl) rfl) u4 m_at (m_nt (by decide) m_at) (by omega) y2 hco u5 u6 u7 u8 (m_nt (by decide) (m_nt (by decide) (m_nt (by decide) y12))) (m_nt (by decide) (m_nt (by decide) (m_nt (by decide) y13))) (m_nt (by decide) (m_nt (by decide) m_at))
        refine ⟨rr, C', M', ?_, h2.trans w2, w3, w4, w5⟩
        rw [f7, bd2, u1, Option.bind_some]
        show (if (1 : Int32) = 0 then _ else _) = _
        rw [if_neg (by decide)]; exact w1
      rcases h1 with h1 | h1
      · exact go _ h1 (FC_pi (FC_pi F9 (by omega)) (by omega)) (XC_pi (XC_pi x9 rfl) rfl) (a_nt (by decide) a_at) (a_nt (by decide) (a_nt (by decide) y8)) (a_nt (by decide) (a_nt (by decide) y9)) a_at (a_nt (by decide) (a_nt (by decide) k7))
      · exact go _ h1 (FC_pi (FC_pi F9 (by omega)) (by omega)) (XC_pi (XC_pi x9 rfl) rfl) a_at (a_nt (by decide) (a_nt (by decide) y8)) (a_nt (by decide) (a_nt (by decide) y9)) (a_nt (by decide) a_at) (a_nt (by decide) (a_nt (by decide) k7))
    by_cases cW : q < n ∧ T q = 87
    · refine fin 0 87 (by omega) cW (Or.inl ?_) ?_
      · rw [f_X5_readColour, bd2, tk 87, if_pos cW, Option.bind_some]
        show (if (1 : Int32) = 0 then _ else _) = _
        rw [if_neg (by decide)]; rfl
      · rw [e8, y4, Option.bind_some, hr 87, if_pos cW, Option.bind_some, if_neg (by decide)]; exact (g42 M6).1
    have tW := (tk 87).trans (if_neg cW)
    by_cases cR : q < n ∧ T q = 82
    · refine fin 1 82 (by omega) cR (Or.inl ?_) ?_
      · rw [f_X5_readColour, bd2, tW, Option.bind_some]
        show (if (0 : Int32) = 0 then _ else _) = _
        rw [if_pos (by decide), bd2, tk 82, if_pos cR, Option.bind_some]
        show (if (1 : Int32) = 0 then _ else _) = _
        rw [if_neg (by decide)]; rfl
      · rw [e8, y4, Option.bind_some, hr 87, if_neg cW, Option.bind_some, if_pos (by decide), hr 82, if_pos cR, Option.bind_some, if_neg (by decide)]; exact (g42 M6).2.1
    have tR := (tk 82).trans (if_neg cR)
    have tG := takes7 (FC_pi (v := 2) F9 (show 6 ≠ 1 by omega)) hn (a_nt (by decide) y7) y1 71
    have f7c : f_X5_readColour C9 = bd2 (f_X5_takes 71 (a_pi C9 1 6 2)) fun r10 C11 => if r10 = 0 ∨ r10 = 1 then some (r10, C11) else none := by
      rw [f_X5_readColour, bd2, tW, Option.bind_some]
      show (if (0 : Int32) = 0 then _ else _) = _
      rw [if_pos (by decide), bd2, tR, Option.bind_some]
      show (if (0 : Int32) = 0 then _ else _) = _
      rw [if_pos (by decide), Option.bind_some]
    have f8c : f_X8_faultOf M = (f_X8_need 71 (m_pi M6 0 13 2)).bind tl8 := by
      rw [e8, y4, Option.bind_some, hr 87, if_neg cW, Option.bind_some, if_pos (by decide), hr 82, if_neg cR, Option.bind_some, if_pos (by decide)]; exact (g42 M6).2.2
    by_cases cG : q < n ∧ T q = 71
    · refine fin 2 71 (by omega) cG (Or.inr ?_) f8c
      rw [f7c, bd2, tG, if_pos cG, Option.bind_some]
      exact if_pos (show (1 : Int32) = 0 ∨ (1 : Int32) = 1 by decide)
    · rw [if_neg cG] at tG
      have d := need8 (FM_pi (v := 2) F6 (show 13 ≠ 5 by omega)) hn (m_nt (by decide) y10) (m_nt (by decide) y11) y1 71
      rw [if_neg cG] at d
      refine ⟨nI q, a_pi C9 1 6 2, m_pi (m_pi (m_pi (m_pi (m_pi M6 0 13 2) 0 10 1) 0 9 (nI q)) 0 14 1) 0 10 1, ?_, ?_, XC_pi x9 rfl, XM_pi (XM_pi (XM_pi (XM_pi (XM_pi x6 rfl) rfl) rfl) rfl) rfl, Or.inl ⟨q, by omega, rfl⟩⟩
      · rw [f7, f7c, bd2, bd2, tG, Option.bind_some]
        show (Option.bind (if (0 : Int32) = 0 ∨ (0 : Int32) = 1 then _ else none) _) = _
        rw [if_pos (by decide), Option.bind_some]
        show (if (0 : Int32) = 0 then some (a_gi (a_pi C9 1 6 2) 1 2, a_pi C9 1 6 2) else _) = _
        rw [if_pos (by decide), a_gi_pi, if_neg (by decide), y7]
      · rw [f8c, d, Option.bind_some]
        exact tl8f m_at (m_nt (by decide) m_at)
  · have x9 : XC C C9 kA7 := XC_tr x5 y5 (fun _ h => h) kR_A7
    have x6 : XM M M6 kA8 := XM_tr x3 y6 (fun _ h => h) kR_A8
    have d := need8f (M := m_pi M6 0 13 2) (p := q) (m_nt (by decide) y9) (m_nt (by decide) y10) 71
    refine ⟨nI q, C9, m_pi (m_pi (m_pi (m_pi (m_pi M6 0 13 2) 0 10 1) 0 9 (nI q)) 0 14 1) 0 10 1, ?_, ?_, x9, XM_pi (XM_pi (XM_pi (XM_pi (XM_pi x6 rfl) rfl) rfl) rfl) rfl, Or.inl ⟨q, by omega, rfl⟩⟩
    · rw [e7, bd2, y3, Option.bind_some]
      show (if (0 : Int32) = 0 then some (a_gi C9 1 2, C9) else _) = _
      rw [if_pos (by decide), y7]
    · rw [e8, y4, Option.bind_some, here8f y10, Option.bind_some, if_pos (by decide), here8f y10, Option.bind_some, if_pos (by decide), (g42 M6).2.2, d, Option.bind_some]
      exact tl8f m_at (m_nt (by decide) m_at)

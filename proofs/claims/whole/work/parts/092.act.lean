theorem Bk_cong {a o w : Int32} {row row' : Nat → Int32} {Nn No Nn' No' : Nat → Int32} (h1 : ∀ j, j < 386 → Nn' j = Nn j) (h2 : ∀ j, j < 386 → No' j = No j) (h3 : ∀ j, j < 20 → row' j = row j) (h : Bk a o w row Nn No) : Bk a o w row' Nn' No' := by
  intro C c hc e0 e1 e2 e3 hV
  obtain ⟨C', g1, g2, g3⟩ := h C c hc e0 e1 e2 (fun j hj => (e3 j hj).trans (h3 j hj)) (Vw_cong (fun _ _ _ => rfl) (fun _ _ _ _ => rfl) (fun j hj => (h1 j hj).symm) hV)
  exact ⟨C', g1, Vw_cong (fun _ _ _ => rfl) (fun _ _ _ _ => rfl) h2 g2, g3⟩
def shM (M : aMm) (i : Nat) : aMm := fun m j => if m = 2 ∧ j < i then M 2 (j + 386) else M m j
theorem keep11 (M : aMm) : lpf (fun a : Int32 × aMm => b_X8_keep_11 a.1 a.2) FU ((0 : Int32), M) = some (shM M 5790) := by
  obtain ⟨b, h1, h2⟩ := lpf_ct (body := fun a : Int32 × aMm => b_X8_keep_11 a.1 a.2) (fun i s => (nI i, s)) (fun i s => s = shM M i) 5790 (Q := fun b => b = shM M 5790) (by
    rintro s rfl
    refine ⟨_, ?_, rfl⟩
    show b_X8_keep_11 (nI 5790) _ = _
    rw [b_X8_keep_11, if_pos (show (5790 : Int32) ≤ nI 5790 from by decide)]) (by
    rintro i s hi rfl
    refine Or.inl ⟨shM M (i + 1), ?_, rfl⟩
    show b_X8_keep_11 (nI i) _ = _
    have hc : ¬ (5790 : Int32) ≤ nI i := fun z => by
      have := (nI_leI (a := 5790) (b := i) (by omega) (by omega)).mp z
      omega
    have e1 : nI i + 386 = nI (i + 386) := nI_add i 386
    have hl : a_len (94 + 2) 0 = 6176 := rfl
    rw [b_X8_keep_11, if_neg hc, e1, m_ldN (by omega) (by omega), Option.bind_some, m_stN (by omega) (by omega), Option.bind_some]
    have e2 : nI i + 1 = nI (i + 1) := nI_1 i
    rw [e2]
    congr 3
    funext m j
    unfold m_pi a_up shM
    by_cases hm : m = 2
    · subst hm
      by_cases hj : j = i
      · subst hj; simp [upd]; intro z; omega
      · have : (j < i + 1) = (j < i) := by simp; omega
        simp [upd, hj, this]
    · simp [hm]) FU 0 M (by omega) (by funext m j; simp [shM]) (FU_lt (by omega))
  rw [← h2]; exact h1
def cpM (M : aMm) (kp i : Nat) : aMm := fun m j => if m = 2 ∧ 386 * kp ≤ j ∧ j < 386 * kp + i then M 1 (j - 386 * kp) else M m j
theorem keep52 (M : aMm) {kp : Nat} (hk : kp ≤ 15) (h : M 0 2 = nI kp) : lpf (fun a : Int32 × aMm => b_X8_keep_52 a.1 a.2) FU ((0 : Int32), M) = some (cpM M kp 386) := by
  obtain ⟨b, h1, h2⟩ := lpf_ct (body := fun a : Int32 × aMm => b_X8_keep_52 a.1 a.2) (fun i s => (nI i, s)) (fun i s => s = cpM M kp i) 386 (Q := fun b => b = cpM M kp 386) (by
    rintro s rfl
    refine ⟨_, ?_, rfl⟩
    show b_X8_keep_52 (nI 386) _ = _
    rw [b_X8_keep_52, if_pos (show (386 : Int32) ≤ nI 386 from by decide)]) (by
    rintro i s hi rfl
    refine Or.inl ⟨cpM M kp (i + 1), ?_, rfl⟩
    show b_X8_keep_52 (nI i) _ = _
    have hc : ¬ (386 : Int32) ≤ nI i := fun z => by
      have := (nI_leI (a := 386) (b := i) (by omega) (by omega)).mp z
      omega
    have hl : a_len (94 + 2) 0 = 6176 := rfl
    have hl1 : a_len (94 + 1) 0 = 386 := rfl
    have e0 : m_gi (cpM M kp i) 0 2 = nI kp := by simp [m_gi, cpM, h]
    have e1 : nI kp * 386 + nI i = nI (kp * 386 + i) := by rw [show (386 : Int32) = nI 386 from rfl, pk_mul, nI_add]
    rw [b_X8_keep_52, if_neg hc, m_ldN (by omega) (by omega), Option.bind_some, e0, e1, m_stN (by omega) (by omega), Option.bind_some]
    have e2 : nI i + 1 = nI (i + 1) := nI_1 i
    rw [e2]
    congr 3
    funext m j
    unfold m_pi a_up cpM
    by_cases hm : m = 2
    · subst hm
      by_cases hj : j = kp * 386 + i
      · subst hj
        have h2 : 386 * kp ≤ kp * 386 + i ∧ kp * 386 + i < 386 * kp + (i + 1) := by omega
        have h3 : kp * 386 + i - 386 * kp = i := by omega
        simp [upd, h2, h3]
      · have : (386 * kp ≤ j ∧ j < 386 * kp + (i + 1)) = (386 * kp ≤ j ∧ j < 386 * kp + i) := by simp; omega
        simp [upd, hj, this]
    · simp [hm]) FU 0 M (by omega) (by funext m j; simp [cpM]; intro a b c; omega) (FU_lt (by omega))
  rw [← h2]; exact h1
theorem keep50 (M : aMm) {kp : Nat} (hk : kp ≤ 15) (h : M 0 2 = nI kp) : g_X8_keep_50 M = some (m_pi (cpM M kp 386) 0 2 (nI (kp + 1))) := by
  rw [g_X8_keep_50, keep52 M hk h, Option.bind_some, Option.bind_some]
  have e0 : m_gi (cpM M kp 386) 0 2 = nI kp := by simp [m_gi, cpM, h]
  rw [e0]
  have e2 : nI kp + 1 = nI (kp + 1) := nI_1 kp
  rw [e2]
theorem keep_ok {M : aMm} {kp : Nat} (hk : kp ≤ 16) (h : M 0 2 = nI kp) : ∃ M', f_X8_keep M = some M' ∧ (∀ m, m ≠ 0 → m ≠ 2 → M' m = M m) ∧ (∀ j, j ≠ 2 → M' 0 j = M 0 j) ∧ M' 0 2 = nI (min 16 (kp + 1)) ∧ (∀ k j, j < 386 → k + 1 < min 16 (kp + 1) → nrow M' k j = nrow M (k + (if kp = 16 then 1 else 0)) j) ∧ (∀ j, j < 386 → nrow M' (min 16 (kp + 1) - 1) j = M 1 j) := by
  rcases Nat.lt_or_ge kp 16 with h16 | h16
  · have hc : ¬ (m_gi M 0 2 : Int32) = 16 := by
      intro z
      have z2 : nI kp = nI 16 := h.symm.trans z
      have := (nI_eq (by omega) (by omega)).mp z2
      omega
    have hmin : min 16 (kp + 1) = kp + 1 := by omega
    refine ⟨_, by rw [f_X8_keep, if_neg hc, keep50 M (by omega) h], ?_, ?_, ?_, ?_, ?_⟩
    · intro m h0 h2
      rw [m_pi_row h0]
      funext j
      simp [cpM, h2]
    · intro j hj
      rw [m_pi_ne (by omega)]
      simp [cpM]
    · rw [m_pi_at, hmin]
    · intro k j hj hk2
      have hne : ¬ kp = 16 := by omega
      rw [if_neg hne]
      unfold nrow
      rw [m_pi_ne (by omega)]
      have : ¬ (386 * kp ≤ 386 * k + j) := by omega
      simp [cpM, this]
    · intro j hj
      rw [hmin]
      unfold nrow
      rw [m_pi_ne (by omega)]
      have h1 : 386 * kp ≤ 386 * (kp + 1 - 1) + j ∧ 386 * (kp + 1 - 1) + j < 386 * kp + 386 := by omega
      have h2 : 386 * (kp + 1 - 1) + j - 386 * kp = j := by omega
      simp only [cpM, h1, h2, and_self, if_true]
  · have e16 : kp = 16 := by omega
    subst e16
    have hc : (m_gi M 0 2 : Int32) = 16 := h
    have e1 : m_gi (shM M 5790) 0 2 - 1 = nI 15 := by
      have : m_gi (shM M 5790) 0 2 = nI 16 := by simp [m_gi, shM, h]
      rw [this]; rfl
    have e2 : m_pi (shM M 5790) 0 2 (nI 15) 0 2 = nI 15 := m_pi_at
    refine ⟨_, by rw [f_X8_keep, if_pos hc, keep11, Option.bind_some, Option.bind_some, e1, keep50 _ (Nat.le_refl 15) e2], ?_, ?_, ?_, ?_, ?_⟩
    · intro m h0 h2
      rw [m_pi_row h0]
      funext j
      simp only [cpM, h2, false_and, if_false]
      rw [m_pi_row h0]
      simp [shM, h2]
    · intro j hj
      rw [m_pi_ne (by omega)]
      have : ¬ ((0 : Nat) = 2) := by omega
      simp only [cpM, this, false_and, if_false]
      rw [m_pi_ne (by omega)]
      simp [shM]
    · rw [m_pi_at]; rfl
    · intro k j hj hk2
      have hk3 : k < 15 := by omega
      rw [if_pos rfl]
      unfold nrow
      rw [m_pi_ne (by omega)]
      have h1 : ¬ (386 * 15 ≤ 386 * k + j) := by omega
      simp only [cpM, h1, false_and, and_false, if_false]
      rw [m_pi_ne (by omega)]
      have h2 : 386 * k + j < 5790 := by omega
      simp only [shM, h2, and_self, if_true]
      congr 1
      omega
    · intro j hj
      unfold nrow
      rw [m_pi_ne (by omega)]
      have h1 : 386 * 15 ≤ 386 * (min 16 (16 + 1) - 1) + j ∧ 386 * (min 16 (16 + 1) - 1) + j < 386 * 15 + 386 := by omega
      have h2 : 386 * (min 16 (16 + 1) - 1) + j - 386 * 15 = j := by omega
      simp only [cpM, h1, h2, and_self, if_true]
      rw [m_pi_ne (by omega)]
      simp [shM]
theorem rem_ok {C : aSc} {kp top : Nat} (a o w : Int32) (hk : kp ≤ 16) (ht : top < 16) (h1 : C.1 22 2 = nI kp) (h2 : C.1 22 1 = nI top) : ∃ C', f_X7_remember a o w C = some (62 + 2 * top, C') ∧ (∀ c j, ¬ (c = 0 ∧ (j = 13 ∨ j = 15)) → ¬ (c = 22 ∧ (j = 1 ∨ j = 2)) → ¬ (c = 62 + 2 * top ∧ j < 3) → C'.1 c j = C.1 c j) ∧ C'.2 = C.2 ∧ C'.1 0 13 = 0 ∧ C'.1 0 15 = 0 ∧ C'.1 22 1 = nI ((top + 1) % 16) ∧ C'.1 22 2 = nI (min 16 (kp + 1)) ∧ C'.1 (62 + 2 * top) 0 = a ∧ C'.1 (62 + 2 * top) 1 = o ∧ C'.1 (62 + 2 * top) 2 = w := by
  have hg : 62 ≤ 62 + 2 * top ∧ 62 + 2 * top < 94 ∧ (62 + 2 * top) % 2 = 0 := by omega
  have et : a_gi (a_pi (a_pi C 0 15 0) 0 13 0) 22 1 = nI top := by
    show (a_pi (a_pi C 0 15 0) 0 13 0).1 22 1 = _
    rw [a_pi_ne (by omega), a_pi_ne (by omega)]; exact h2
  have em : nI top + 1 - (nI top + 1) / 16 * 16 = nI ((top + 1) % 16) := by
    rw [nI_1]
    exact pk_rem (d := 16) (by omega) (by omega) (by omega)
  have emin : a_min 16 (nI kp + 1) = nI (min 16 (kp + 1)) := by
    rw [nI_1]
    unfold a_min
    by_cases hq : nI (kp + 1) < 16
    · have := (nI_ltI (b := 16) (by omega) (by omega)).mp hq
      rw [if_pos hq]
      congr 1
      omega
    · have : ¬ kp + 1 < 16 := fun z => hq ((nI_ltI (b := 16) (by omega) (by omega)).mpr z)
      rw [if_neg hq]
      have e : min 16 (kp + 1) = 16 := by omega
      rw [e]; rfl
  have ek : a_gi (a_pi (a_pi (a_pi C 0 15 0) 0 13 0) 22 1 (nI ((top + 1) % 16))) 22 2 = nI kp := by
    show (a_pi (a_pi (a_pi C 0 15 0) 0 13 0) 22 1 (nI ((top + 1) % 16))).1 22 2 = _
    rw [a_pi_ne (by omega), a_pi_ne (by omega), a_pi_ne (by omega)]; exact h1
  have hn : f_X2_next (a_pi (a_pi C 0 15 0) 0 13 0) = some (62 + 2 * top, a_pi (a_pi (a_pi (a_pi C 0 15 0) 0 13 0) 22 1 (nI ((top + 1) % 16))) 22 2 (nI (min 16 (kp + 1)))) := by
    rw [f_X2_next, et, a_rfN (by omega) (by omega), Option.bind_some, Option.bind_some, em, ek, emin]
    rfl
  refine ⟨a_pi (a_pi (a_pi (a_pi (a_pi (a_pi (a_pi C 0 15 0) 0 13 0) 22 1 (nI ((top + 1) % 16))) 22 2 (nI (min 16 (kp + 1)))) (62 + 2 * top) 0 a) (62 + 2 * top) 1 o) (62 + 2 * top) 2 w, ?_, ?_, rfl, ?_, ?_, ?_, ?_, ?_, ?_, ?_⟩
  · rw [f_X7_remember, f_X7_forgetFound, Option.bind_some, Option.bind_some, Option.bind_some, bd2, hn, Option.bind_some]
    show (if 62 ≤ 62 + 2 * top ∧ 62 + 2 * top < 94 ∧ (62 + 2 * top) % 2 = 0 then _ else none) = _
    rw [if_pos hg]
    rfl
  · intro c j g1 g2 g3
    rw [a_pi_ne (by omega), a_pi_ne (by omega), a_pi_ne (by omega), a_pi_ne (by omega), a_pi_ne (by omega), a_pi_ne (by omega), a_pi_ne (by omega)]
  · rw [a_pi_ne (by omega), a_pi_ne (by omega), a_pi_ne (by omega), a_pi_ne (by omega), a_pi_ne (by omega), a_pi_at]
  · rw [a_pi_ne (by omega), a_pi_ne (by omega), a_pi_ne (by omega), a_pi_ne (by omega), a_pi_ne (by omega), a_pi_ne (by omega), a_pi_at]
  · rw [a_pi_ne (by omega), a_pi_ne (by omega), a_pi_ne (by omega), a_pi_ne (by omega), a_pi_at]
  · rw [a_pi_ne (by omega), a_pi_ne (by omega), a_pi_ne (by omega), a_pi_at]
  · rw [a_pi_ne (by omega), a_pi_ne (by omega), a_pi_at]
  · rw [a_pi_ne (by omega), a_pi_at]
  · rw [a_pi_at]
/-- AN ACT: both sides keep what was; whatever they then make of the coast, the relation holds, if the view does and the step can be taken back -/
theorem act_ok {C : aSc} {M : aMm} (hR : Rel C M) (a o w : Int32) : ∃ top C1 M1, top < 16 ∧ f_X7_remember a o w C = some (62 + 2 * top, C1) ∧ f_X8_keep M = some M1 ∧ (∀ c j, ¬ (c = 0 ∧ (j = 13 ∨ j = 15)) → ¬ (c = 22 ∧ (j = 1 ∨ j = 2)) → ¬ (c = 62 + 2 * top ∧ j < 3) → C1.1 c j = C.1 c j) ∧ C1.2 = C.2 ∧ (∀ m, m ≠ 0 → m ≠ 2 → M1 m = M m) ∧ (∀ j, j ≠ 2 → M1 0 j = M 0 j) ∧
    ∀ (C2 : aSc) (M2 : aMm), (∀ c j, vr c j = false → c ≠ 63 + 2 * top → C2.1 c j = C1.1 c j) → C2.2.2 = C1.2.2 → (∀ m, m ≠ 1 → M2 m = M1 m) → Vw C2 (M2 1) → Bk a o w (C2.1 (63 + 2 * top)) (M2 1) (M 1) → Rel C2 M2 := by
  obtain ⟨hV, ⟨n, t1, t2, t3, t4⟩, hH, hD, ⟨kp, top, p1, p2, p3, p4, p5, p6⟩, hF, hG⟩ := hR
  obtain ⟨C1, r1, r2, r3, r4, r5, r6, r7, r8, r9, r10⟩ := rem_ok a o w p1 p2 p3 p5
  obtain ⟨M1, k1, k2, k3, k4, k5, k6⟩ := keep_ok p1 p4
  refine ⟨top, C1, M1, p2, r1, k1, r2, r3, k2, k3, ?_⟩
  intro C2 M2 q1 q2 q3 q4 q5
  have vf : ∀ c j, (c = 1 ∨ c = 2 ∨ (c = 0 ∧ (j = 13 ∨ j = 15 ∨ j = 18)) ∨ (14 ≤ c ∧ c < 24) ∨ 54 ≤ c) → vr c j = false := by
    intro c j h
    rw [Bool.eq_false_iff]
    intro z
    simp [vr] at z
    omega
  refine ⟨q4, ⟨n, t1, ?_, ?_, ?_⟩, ?_, ?_, ?_, ?_, ?_⟩
  · rw [q1 1 1 (vf _ _ (by omega)) (by omega), r2 1 1 (by omega) (by omega) (by omega)]; exact t2
  · rw [q3 0 (by omega), k3 5 (by omega)]; exact t3
  · intro i hi
    rw [q1 2 i (vf _ _ (by omega)) (by omega), r2 2 i (by omega) (by omega) (by omega), q3 3 (by omega), k2 3 (by omega) (by omega)]
    exact t4 i hi
  · intro s hs
    obtain ⟨w, n, h1, h2, h3, h4, h5, h6, h7, h8⟩ := hH s hs
    refine ⟨w, n, h1, h2, h3, ?_, ?_, ?_, ?_, ?_⟩
    · rw [q1 _ _ (vf _ _ (by omega)) (by omega), r2 _ _ (by omega) (by omega) (by omega)]; exact h4
    · rw [q3 4 (by omega), k2 4 (by omega) (by omega)]; exact h5
    · rw [q1 _ _ (vf _ _ (by omega)) (by omega), r2 _ _ (by omega) (by omega) (by omega)]; exact h6
    · rw [q3 5 (by omega), k2 5 (by omega) (by omega)]; exact h7
    · intro i hi
      rw [q1 _ _ (vf _ _ (by omega)) (by omega), r2 _ _ (by omega) (by omega) (by omega), q3 6 (by omega), k2 6 (by omega) (by omega)]; exact h8 i hi
  · show C2.1 0 18 = M2 0 3
    rw [q1 0 18 (vf _ _ (by omega)) (by omega), r2 0 18 (by omega) (by omega) (by omega), q3 0 (by omega), k3 3 (by omega)]; exact hD
  · refine ⟨min 16 (kp + 1), (top + 1) % 16, by omega, by omega, ?_, ?_, ?_, ?_⟩
    · rw [q1 22 2 (vf _ _ (by omega)) (by omega)]; exact r7
    · rw [q3 0 (by omega)]; exact k4
    · rw [q1 22 1 (vf _ _ (by omega)) (by omega)]; exact r6
    · intro k hk
      have hnr : ∀ k, nrow M2 k = nrow M1 k := fun k => by unfold nrow; rw [q3 2 (by omega)]
      by_cases hlast : k + 1 = min 16 (kp + 1)
      · have hp : ((top + 1) % 16 + 16 - min 16 (kp + 1) + k) % 16 = top := by omega
        rw [hp, if_pos hlast, hnr]
        have e0 : C2.1 (62 + 2 * top) 0 = a := by rw [q1 _ _ (vf _ _ (by omega)) (by omega)]; exact r8
        have e1 : C2.1 (62 + 2 * top) 1 = o := by rw [q1 _ _ (vf _ _ (by omega)) (by omega)]; exact r9
        have e2 : C2.1 (62 + 2 * top) 2 = w := by rw [q1 _ _ (vf _ _ (by omega)) (by omega)]; exact r10
        rw [e0, e1, e2]
        have hk2 : k = min 16 (kp + 1) - 1 := by omega
        exact Bk_cong (fun _ _ => rfl) (fun j hj => by rw [hk2]; exact k6 j hj) (fun _ _ => rfl) q5
      · have hk1 : k + 1 < min 16 (kp + 1) := by omega
        have hpos : ((top + 1) % 16 + 16 - min 16 (kp + 1) + k) % 16 = (top + 16 - kp + (k + (if kp = 16 then 1 else 0))) % 16 := by
          by_cases h16 : kp = 16
          · rw [if_pos h16]; omega
          · rw [if_neg h16]; omega
        have hk3 : k + (if kp = 16 then 1 else 0) < kp := by
          by_cases h16 : kp = 16
          · rw [if_pos h16]; omega
          · rw [if_neg h16]; omega
        have hne : (top + 16 - kp + (k + (if kp = 16 then 1 else 0))) % 16 ≠ top := by
          by_cases h16 : kp = 16
          · rw [if_pos h16]; omega
          · rw [if_neg h16]; omega
        have hp6 := p6 _ hk3
        rw [hpos, if_neg hlast, hnr, hnr]
        generalize (top + 16 - kp + (k + (if kp = 16 then 1 else 0))) % 16 = ps at hp6 hne ⊢
        have hc : ∀ j, C2.1 (62 + 2 * ps) j = C.1 (62 + 2 * ps) j := fun j => by rw [q1 _ _ (vf _ _ (by omega)) (by omega), r2 _ _ (by omega) (by omega) (by omega)]
        have hrow : C2.1 (63 + 2 * ps) = C.1 (63 + 2 * ps) := funext fun j => by rw [q1 _ _ (vf _ _ (by omega)) (by omega), r2 _ _ (by omega) (by omega) (by omega)]
        rw [hc, hc, hc, hrow]
        refine Bk_cong (fun j hj => ?_) (fun j hj => k5 k j hj hk1) (fun _ _ => rfl) hp6
        by_cases hl2 : k + (if kp = 16 then 1 else 0) + 1 = kp
        · rw [if_pos hl2]
          have : k + 1 = min 16 (kp + 1) - 1 := by
            by_cases h16 : kp = 16
            · rw [if_pos h16] at hl2; omega
            · rw [if_neg h16] at hl2; omega
          rw [this]
          exact k6 j hj
        · rw [if_neg hl2]
          have hlt : k + 1 + 1 < min 16 (kp + 1) := by
            by_cases h16 : kp = 16
            · rw [if_pos h16] at hl2; omega
            · rw [if_neg h16] at hl2; omega
          have := k5 (k + 1) j hj hlt
          rw [this]
          congr 1
          omega
  · exact Or.inl (by rw [q1 0 15 (vf _ _ (by omega)) (by omega)]; exact r5)
  · refine ⟨?_, Or.inl (by rw [q1 0 13 (vf _ _ (by omega)) (by omega)]; exact r4)⟩
    rw [q2, r3]
    exact hG.1

/-- other heights -/
theorem V_seas {C C' : aSc} {N N' : Nat → Int32} {nl nb nf nw hz dy : Nat} (hV : V_all C N nl nb nf nw hz dy) (hC : ∀ c j, vr c j = true → c ≠ 13 → C'.1 c j = C.1 c j) (hC2 : ∀ c j, 24 ≤ c → c < 54 → C'.2.1 c j = C.2.1 c j) (hN : ∀ j, j < 366 → N' j = N j) (hD' : ∀ d, d < 20 → V_d C' N' d) : V_all C' N' nl nb nf nw hz dy := by
  obtain ⟨⟨h0, h1, h2, h3, h4, h5, h6⟩, hL, hB, hF, hW, hD⟩ := hV
  have vl : ∀ c j, 24 ≤ c → c < 54 → vr c j = true := fun c j a b => by simp [vr, a, b]
  have vw : ∀ c j, 8 ≤ c → c ≤ 13 → vr c j = true := fun c j a b => by simp [vr, a, b]
  refine ⟨⟨by omega, ?_, ?_, ?_, ?_, ?_, ?_⟩, ?_, ?_, ?_, ?_, hD'⟩
  · rw [hC 0 2 rfl (by omega), hN 0 (by omega)]; exact h1
  · rw [hC 0 6 rfl (by omega), hN 1 (by omega)]; exact h2
  · rw [hC 0 8 rfl (by omega), hN 2 (by omega)]; exact h3
  · rw [hC 7 0 rfl (by omega), hN 3 (by omega)]; exact h4
  · rw [hC 0 3 rfl (by omega), hN 4 (by omega)]; exact h5
  · rw [hC 0 4 rfl (by omega), hN 5 (by omega)]; exact h6
  · intro l' hl'
    exact V_l_cong (fun j => hC _ _ (vl _ _ (by omega) (by omega)) (by omega)) (fun j => hC _ _ (vl _ _ (by omega) (by omega)) (by omega)) (hC2 _ _ (by omega) (by omega)) (fun j => hC2 _ _ (by omega) (by omega)) (fun g hg => hN _ (by omega)) (hL l' hl')
  · intro b hb'
    exact V_b_cong (hC _ _ rfl (by omega)) (fun g hg => hN _ (by omega)) (hB b (by omega))
  · exact V_f_cong (fun j _ => hC _ _ rfl (by omega)) (fun j h => hN _ (by omega)) hF
  · intro w hw'
    exact V_w_cong (fun c a b => hC _ _ (vw _ _ a (by omega)) (by omega)) (fun g hg => hN _ (by omega)) (hW w (by omega))
theorem lenP {c : Nat} (hc : isP c) (n : Nat) : a_len (c + 1) n = 20 := by
  have key : ∀ j, j < 94 → a_kd j = 4 → ∀ n, a_len (j + 1) n = 20 := by
    intro j hj hk n
    have : 62 ≤ j := by
      revert hk
      revert j
      decide
    unfold a_len
    rw [if_neg (by omega), if_neg (by omega), if_neg (by omega)]
    by_cases h9 : j + 1 < 94
    · rw [if_pos h9]
    · exfalso
      have : j = 93 := by omega
      subst this
      revert hk
      decide
  exact key c hc.2.1 hc.1 _
theorem Bk_seas {No Nn : Nat → Int32} (hN : ∀ j, j < 366 → Nn j = No j) (row : Nat → Int32) (hrow : ∀ d, d < 20 → ∃ x, x ≤ 9 ∧ row d = nI x ∧ No (366 + d) = nI x) (o w : Int32) : Bk 11 o w row Nn No := by
  rintro C c hc e0 e1 e2 e3 ⟨nl, nb, nf, nw, hz, dy, hV⟩
  have hl1 : a_len (c + 1) (C.2.2 (c + 1)) = 20 := lenP hc _
  have hl2 : a_len 13 (C.2.2 13) = 20 := rfl
  refine ⟨a_cpr C (c + 1) 0 13 0 20, ?_, ⟨nl, nb, nf, nw, hz, dy, V_seas hV (fun c' j _ h => a_cpr_ne h) (fun _ _ _ _ => rfl) (fun j h => (hN j h).symm) (fun d hd => ?_)⟩, fun c j h => a_cpr_ne (by have := vr_t h; omega), rfl⟩
  · have g0 : a_gi C c 0 = 11 := e0
    rw [f_X7_takeBack, g0, if_neg (by decide), if_neg (by decide), if_neg (by decide), if_neg (by decide), if_neg (by decide), if_neg (by decide), if_neg (by decide), if_neg (by decide), if_neg (by decide), if_neg (by decide), if_neg (by decide), if_pos (by decide), show (20 : Int32) = nI 20 from rfl, a_cpyN (by omega) (by omega) (by omega), Option.bind_some]
  · obtain ⟨x, x1, x2, x3⟩ := hrow d hd
    exact ⟨x, x1, by rw [a_cpr_in hd, e3 d hd]; exact x2, x3⟩
def qS (f : Nat → Int32) (d : Nat) : Bool := decide (¬ f d < 0) && decide (¬ (9 : Int32) < f d)
theorem seas7 (C : aSc) {s n : Nat} (hs : s ≤ 3) (hn : n ≤ 30) (h : C.1 (54 + 2 * s) 1 = nI n) : ∃ C', lpf (fun a : Int32 × Int32 × aSc => b_X7_seas_65 (54 + 2 * s) a.1 a.2.1 a.2.2) FU ((0 : Int32), (0 : Int32), C) = some (nI (fa_cnt (qS (C.1 (55 + 2 * s))) (min n 20)), C') ∧ C'.2 = C.2 ∧ (∀ c j, c ≠ 13 → C'.1 c j = C.1 c j) ∧ (∀ j, C'.1 13 j = if j < min n 20 ∧ qS (C.1 (55 + 2 * s)) j = true then C.1 (55 + 2 * s) j else C.1 13 j) := by
  obtain ⟨b, h1, h2⟩ := lpf_ct (body := fun a : Int32 × Int32 × aSc => b_X7_seas_65 (54 + 2 * s) a.1 a.2.1 a.2.2) (fun i (t : Int32 × aSc) => (t.1, nI i, t.2)) (fun i t => t.1 = nI (fa_cnt (qS (C.1 (55 + 2 * s))) i) ∧ t.2.2 = C.2 ∧ (∀ c j, c ≠ 13 → t.2.1 c j = C.1 c j) ∧ (∀ j, t.2.1 13 j = if j < i ∧ qS (C.1 (55 + 2 * s)) j = true then C.1 (55 + 2 * s) j else C.1 13 j)) (min n 20) (Q := fun r => r.1 = nI (fa_cnt (qS (C.1 (55 + 2 * s))) (min n 20)) ∧ r.2.2 = C.2 ∧ (∀ c j, c ≠ 13 → r.2.1 c j = C.1 c j) ∧ (∀ j, r.2.1 13 j = if j < min n 20 ∧ qS (C.1 (55 + 2 * s)) j = true then C.1 (55 + 2 * s) j else C.1 13 j)) (by
    rintro ⟨t1, t2⟩ ht
    refine ⟨(t1, t2), ?_, ht⟩
    show b_X7_seas_65 (54 + 2 * s) t1 (nI (min n 20)) t2 = _
    have g : a_gi t2 (54 + 2 * s) 1 = nI n := (ht.2.2.1 _ _ (by omega)).trans h
    rw [b_X7_seas_65, g]
    by_cases hc : n ≤ 20
    · rw [if_pos ((nI_leI (by omega) (by omega)).mpr (by omega))]
    · rw [if_neg (fun z => by have := (nI_leI (by omega) (by omega)).mp z; omega), if_pos (show (20 : Int32) ≤ nI (min n 20) from (nI_leI (a := 20) (by omega) (by omega)).mpr (by omega))]) (by
    rintro i ⟨t1, t2⟩ hi ⟨u1, u2, u3, u4⟩
    dsimp only at u1 u2 u3 u4
    have g : a_gi t2 (54 + 2 * s) 1 = nI n := (u3 _ _ (by omega)).trans h
    have hl : a_len (55 + 2 * s) (t2.2.2 (55 + 2 * s)) = 30 := lenS s _ hs
    have hl2 : a_len 13 (t2.2.2 13) = 20 := rfl
    have hb : b_X7_seas_65 (54 + 2 * s) t1 (nI i) t2 = if C.1 (55 + 2 * s) i < 0 then some (.inl (t1, nI (i + 1), t2)) else if (9 : Int32) < C.1 (55 + 2 * s) i then some (.inl (t1, nI (i + 1), t2)) else some (.inl (t1 + 1, nI (i + 1), a_pi t2 13 i (C.1 (55 + 2 * s) i))) := by
      rw [b_X7_seas_65, g, if_neg (fun z => by have := (nI_leI (by omega) (by omega)).mp z; omega), if_neg (show ¬ (20 : Int32) ≤ nI i from fun z => by have := (nI_leI (a := 20) (by omega) (by omega)).mp z; omega), show 54 + 2 * s + 1 = 55 + 2 * s by omega, a_ldN (by omega) (by omega), Option.bind_some, u3 _ _ (by omega), a_stN (by omega) (by omega), Option.bind_some, nI_1]
    have step0 : qS (C.1 (55 + 2 * s)) i = false → ∀ j, t2.1 13 j = if j < i + 1 ∧ qS (C.1 (55 + 2 * s)) j = true then C.1 (55 + 2 * s) j else C.1 13 j := by
      intro hq j
      rw [u4 j]
      by_cases e : j = i
      · subst e; simp [hq]
      · have : (j < i + 1) = (j < i) := by simp; omega
        simp only [this]
    by_cases c1 : C.1 (55 + 2 * s) i < 0
    · have hq : qS (C.1 (55 + 2 * s)) i = false := by simp [qS, c1]
      refine Or.inl ⟨(t1, t2), hb.trans (if_pos c1), ?_, u2, u3, step0 hq⟩
      rw [fa_cnt_no hq]; exact u1
    by_cases c2 : (9 : Int32) < C.1 (55 + 2 * s) i
    · have hq : qS (C.1 (55 + 2 * s)) i = false := by simp [qS, c2]
      refine Or.inl ⟨(t1, t2), hb.trans (by rw [if_neg c1, if_pos c2]), ?_, u2, u3, step0 hq⟩
      rw [fa_cnt_no hq]; exact u1
    have hq : qS (C.1 (55 + 2 * s)) i = true := by simp [qS, c1, c2]
    refine Or.inl ⟨(t1 + 1, a_pi t2 13 i (C.1 (55 + 2 * s) i)), hb.trans (by rw [if_neg c1, if_neg c2]), ?_, u2, ?_, ?_⟩
    · rw [fa_cnt_yes hq, ← nI_1, ← u1]
    · intro c j hc
      rw [a_pi_ne (by omega)]; exact u3 c j hc
    · intro j
      by_cases e : j = i
      · subst e
        rw [a_pi_at, if_pos ⟨by omega, hq⟩]
      · rw [a_pi_ne (by omega), u4 j]
        have : (j < i + 1) = (j < i) := by simp; omega
        simp only [this]) FU 0 (0, C) (by omega) ⟨rfl, rfl, fun _ _ _ => rfl, fun j => by simp⟩ (FU_lt (by omega))
  exact ⟨b.2, by rw [← h2.1]; exact h1, h2.2⟩
theorem seas8 (M : aMm) {s n : Nat} (hs : s ≤ 3) (hn : n ≤ 30) (h : M 5 s = nI n) : ∃ M', lpf (fun a : Int32 × Int32 × aMm => b_X8_seas_38 (nI s) a.1 a.2.1 a.2.2) FU ((0 : Int32), (0 : Int32), M) = some (nI (fa_cnt (qS (fun d => M 6 (30 * s + d))) (min n 20)), M') ∧ (∀ c j, ¬ (c = 1 ∧ 366 ≤ j) → M' c j = M c j) ∧ (∀ j, M' 1 (366 + j) = if j < min n 20 ∧ qS (fun d => M 6 (30 * s + d)) j = true then M 6 (30 * s + j) else M 1 (366 + j)) := by
  have l5 : a_len (94 + 5) 0 = 4 := rfl
  have l6 : a_len (94 + 6) 0 = 120 := rfl
  have l1 : a_len (94 + 1) 0 = 386 := rfl
  generalize hQ : (fun d => M 6 (30 * s + d)) = Q
  have hQ' : ∀ d, M 6 (30 * s + d) = Q d := fun d => by rw [← hQ]
  obtain ⟨b, h1, h2⟩ := lpf_ct (body := fun a : Int32 × Int32 × aMm => b_X8_seas_38 (nI s) a.1 a.2.1 a.2.2) (fun i (t : Int32 × aMm) => (t.1, nI i, t.2)) (fun i t => t.1 = nI (fa_cnt (qS Q) i) ∧ (∀ c j, ¬ (c = 1 ∧ 366 ≤ j) → t.2 c j = M c j) ∧ (∀ j, t.2 1 (366 + j) = if j < i ∧ qS Q j = true then Q j else M 1 (366 + j))) (min n 20) (Q := fun r => r.1 = nI (fa_cnt (qS Q) (min n 20)) ∧ (∀ c j, ¬ (c = 1 ∧ 366 ≤ j) → r.2 c j = M c j) ∧ (∀ j, r.2 1 (366 + j) = if j < min n 20 ∧ qS Q j = true then Q j else M 1 (366 + j))) (by
    rintro ⟨t1, t2⟩ ht
    refine ⟨(t1, t2), ?_, ht⟩
    show b_X8_seas_38 (nI s) t1 (nI (min n 20)) t2 = _
    have g : t2 5 s = nI n := (ht.2.1 _ _ (by omega)).trans h
    rw [b_X8_seas_38]
    by_cases hc : n < 20
    · rw [if_neg (show ¬ (20 : Int32) ≤ nI (min n 20) from fun z => by have := (nI_leI (a := 20) (by omega) (by omega)).mp z; omega), m_ldN (by omega) (by omega), Option.bind_some, g, if_pos ((nI_leI (by omega) (by omega)).mpr (by omega))]
    · rw [if_pos (show (20 : Int32) ≤ nI (min n 20) from (nI_leI (a := 20) (by omega) (by omega)).mpr (by omega))]) (by
    rintro i ⟨t1, t2⟩ hi ⟨u1, u3, u4⟩
    dsimp only at u1 u3 u4
    have g : t2 5 s = nI n := (u3 _ _ (by omega)).trans h
    have e30 : (30 : Int32) * nI s + nI i = nI (30 * s + i) := by rw [show (30 : Int32) = nI 30 from rfl, pk_mul, nI_add]
    have e36 : (366 : Int32) + nI i = nI (366 + i) := by rw [show (366 : Int32) = nI 366 from rfl, nI_add]
    have hb : b_X8_seas_38 (nI s) t1 (nI i) t2 = if Q i < 0 then some (.inl (t1, nI (i + 1), t2)) else if (9 : Int32) < Q i then some (.inl (t1, nI (i + 1), t2)) else some (.inl (t1 + 1, nI (i + 1), m_pi t2 1 (366 + i) (Q i))) := by
      rw [b_X8_seas_38, if_neg (show ¬ (20 : Int32) ≤ nI i from fun z => by have := (nI_leI (a := 20) (by omega) (by omega)).mp z; omega), m_ldN (by omega) (by omega), Option.bind_some, g, if_neg (fun z => by have := (nI_leI (by omega) (by omega)).mp z; omega), e30, m_ldN (by omega) (by omega), Option.bind_some, u3 _ _ (by omega), hQ', e36, m_stN (by omega) (by omega), Option.bind_some, nI_1, f_X8_within]
      by_cases c1 : Q i < 0
      · rw [if_pos c1, if_pos c1, Option.bind_some, if_pos (by decide)]
      · by_cases c2 : (9 : Int32) < Q i
        · rw [if_neg c1, if_neg c1, if_pos c2, if_pos c2, Option.bind_some, if_pos (by decide)]
        · rw [if_neg c1, if_neg c1, if_neg c2, if_neg c2, Option.bind_some, if_neg (by decide)]
    have step0 : qS Q i = false → ∀ j, t2 1 (366 + j) = if j < i + 1 ∧ qS Q j = true then Q j else M 1 (366 + j) := by
      intro hq j
      rw [u4 j]
      by_cases e : j = i
      · subst e; simp [hq]
      · have : (j < i + 1) = (j < i) := by simp; omega
        simp only [this]
    by_cases c1 : Q i < 0
    · have hq : qS Q i = false := by simp [qS, c1]
      refine Or.inl ⟨(t1, t2), hb.trans (if_pos c1), ?_, u3, step0 hq⟩
      rw [fa_cnt_no hq]; exact u1
    by_cases c2 : (9 : Int32) < Q i
    · have hq : qS Q i = false := by simp [qS, c2]
      refine Or.inl ⟨(t1, t2), hb.trans (by rw [if_neg c1, if_pos c2]), ?_, u3, step0 hq⟩
      rw [fa_cnt_no hq]; exact u1
    have hq : qS Q i = true := by simp [qS, c1, c2]
    refine Or.inl ⟨(t1 + 1, m_pi t2 1 (366 + i) (Q i)), hb.trans (by rw [if_neg c1, if_neg c2]), ?_, ?_, ?_⟩
    · rw [fa_cnt_yes hq, ← nI_1, ← u1]
    · intro c j hc
      dsimp only
      rw [m_pi_ne (by omega)]; exact u3 c j hc
    · intro j
      dsimp only
      by_cases e : j = i
      · subst e
        rw [m_pi_at, if_pos ⟨by omega, hq⟩]
      · rw [m_pi_ne (by omega), u4 j]
        have : (j < i + 1) = (j < i) := by simp; omega
        simp only [this]) FU 0 (0, M) (by omega) ⟨rfl, fun _ _ _ => rfl, fun j => by simp⟩ (FU_lt (by omega))
  refine ⟨b.2, by rw [← h2.1]; exact h1, h2.2.1, fun j => ?_⟩
  rw [hQ']; exact h2.2.2 j
theorem pr_seas (a0 : Int32) {C : aSc} {M : aMm} (hR : Rel C M) : ∃ (v : Int32) (C' : aSc) (M' : aMm), f_X7_seas a0 C = some (v, C') ∧ f_X8_seas a0 M = some (v, M') ∧ Rel C' M' := by
  have hl4 : a_len (94 + 4) 0 = 4 := rfl
  rcases sheet_pair (C := C) (M := M) a0 with ⟨s, hs, rfl, j1, j2⟩ | ⟨j1, j2⟩
  rotate_left
  · refine ⟨-100001, _, _, ?_, ?_, rel_refuse hR⟩
    · rw [f_X7_seas, j1, Option.bind_some, if_pos (by decide)]; rfl
    · rw [f_X8_seas, j2, Option.bind_some, if_pos (by decide)]; rfl
  obtain ⟨w, n, g1, g2, g3, g4, g5, g6, g7, g8⟩ := hR.2.2.1 s (by omega)
  have c0 : a_gi C (54 + 2 * s) 0 = nI w := g4
  have ml4 : m_ld M 4 (nI s) = some (nI w) := by rw [m_ldN (by omega) (by omega), g5]
  by_cases h0 : w = 0
  · subst h0
    refine ⟨-100002, _, _, ?_, ?_, rel_refuse hR⟩
    · rw [f_X7_seas, j1, Option.bind_some, if_neg (by decide), a_rfN (by omega) (by omega), Option.bind_some, c0, if_pos (by decide)]; rfl
    · rw [f_X8_seas, j2, Option.bind_some, if_neg (by decide), ml4, Option.bind_some, if_pos (by decide)]; rfl
  have hne : ¬ nI w = 0 := nI_ne0 (by omega) (by omega)
  obtain ⟨nl, nb, nf, nw, hz, dy, hV⟩ := hR.1
  have hD := hV.2.2.2.2.2
  obtain ⟨top, C1, M1, ht, r1, k1, q1, q2, q3, q4, fin⟩ := act_ok hR 11 0 0
  have hl63 : a_len (62 + 2 * top + 1) (C1.2.2 (62 + 2 * top + 1)) = 20 := lenP (a_ckP_is (step_ok top ht)) _
  have hl13 : a_len 13 (C1.2.2 13) = 20 := rfl
  obtain ⟨C2, hC2⟩ : ∃ C2, C2 = a_cpr C1 13 0 (63 + 2 * top) 0 20 := ⟨_, rfl⟩
  have c2n : ∀ c j, c ≠ 63 + 2 * top → C2.1 c j = C1.1 c j := fun c j h => by rw [hC2, a_cpr_ne h]
  obtain ⟨C3, s1, s2, s3, s4⟩ := seas7 C2 (n := n) hs g2 (by rw [c2n _ _ (by omega), q1 _ _ (by omega) (by omega) (by omega)]; exact g6)
  obtain ⟨M3, t1, t3, t4⟩ := seas8 M1 (n := n) hs g2 (by rw [q3 5 (by omega) (by omega)]; exact g7)
  have hM1 : M1 1 = M 1 := q3 1 (by omega) (by omega)
  have hrow : ∀ d, d < 30 → C2.1 (55 + 2 * s) d = M1 6 (30 * s + d) := fun d hd => by
    rw [c2n _ _ (by omega), q1 _ _ (by omega) (by omega) (by omega), q3 6 (by omega) (by omega)]; exact g8 d hd
  have hqs : ∀ d, d < 30 → qS (C2.1 (55 + 2 * s)) d = qS (fun d => M1 6 (30 * s + d)) d := fun d hd => by
    unfold qS
    rw [hrow d hd]
  refine ⟨nI (fa_cnt (qS (C2.1 (55 + 2 * s))) (min n 20)), C3, M3, ?_, ?_, fin _ _ ?_ ?_ ?_ ?_ ?_⟩
  · rw [f_X7_seas, j1, Option.bind_some, if_neg (by decide), a_rfN (by omega) (by omega), Option.bind_some, c0, if_neg hne, bd2, r1, Option.bind_some]
    dsimp only
    rw [if_pos (step_ok top ht), show (20 : Int32) = nI 20 from rfl, a_cpyN (by omega) (by omega) (by omega), Option.bind_some, show 62 + 2 * top + 1 = 63 + 2 * top by omega, ← hC2, s1, Option.bind_some]
  · rw [f_X8_seas, j2, Option.bind_some, if_neg (by decide), ml4, Option.bind_some, if_neg hne, k1, Option.bind_some, t1, Option.bind_some, fa_cnt_cong (fun k hk => hqs k (by omega))]
  · intro c j hv hc
    have := vr_t hv
    rw [s3 c j (by omega), c2n c j hc]
  · rw [s2, hC2]; rfl
  · intro m hm
    exact funext fun j => t3 m j (by omega)
  · refine ⟨nl, nb, nf, nw, hz, dy, V_seas (C := C1) (N := M 1) (act_V hV q1 q2) (fun c j hv h => ?_) (fun c j _ _ => by rw [s2, hC2]; rfl) (fun j h => by rw [t3 1 j (by omega), hM1]) (fun d hd => ?_)⟩
    · rw [s3 c j h, c2n c j (fun e => by subst e; simp [vr] at hv; omega)]
    · unfold V_d
      rw [s4 d, t4 d, ← hqs d (by omega), ← hrow d (by omega)]
      by_cases hc : d < min n 20 ∧ qS (C2.1 (55 + 2 * s)) d = true
      · rw [if_pos hc, if_pos hc]
        have hq := hc.2
        simp only [qS, Bool.and_eq_true, decide_eq_true_eq] at hq
        rcases nI_cases (C2.1 (55 + 2 * s) d) 9 (by decide) with ⟨k, hk, e⟩ | h | h
        · exact ⟨k, hk, e, e⟩
        · exact absurd h hq.1
        · exact absurd h hq.2
      · rw [if_neg hc, if_neg hc, c2n _ _ (by omega), q1 _ _ (by omega) (by omega) (by omega), hM1]
        exact hD d hd
  · refine Bk_seas (fun j h => by rw [t3 1 j (by omega), hM1]) _ (fun d hd => ?_) _ _
    obtain ⟨x, x1, x2, x3⟩ := hD d hd
    refine ⟨x, x1, ?_, x3⟩
    rw [s3 _ _ (by omega), hC2, a_cpr_in hd, q1 _ _ (by omega) (by omega) (by omega)]; exact x2

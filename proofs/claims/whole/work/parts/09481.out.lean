theorem lpf_dn {α β σ : Type} {body : α → Option (α ⊕ β)} (mk : Nat → σ → α) (I : Nat → σ → Prop) {Q : β → Prop} (hx : ∀ s, I 0 s → ∃ b, body (mk 0 s) = some (.inr b) ∧ Q b) (hs : ∀ i s, I (i + 1) s → (∃ s', body (mk (i + 1) s) = some (.inl (mk i s')) ∧ I i s') ∨ (∃ b, body (mk (i + 1) s) = some (.inr b) ∧ Q b)) : ∀ (n i : Nat) (s : σ), I i s → i < n → ∃ b, lpf body n (mk i s) = some b ∧ Q b := by
  intro n
  induction n with
  | zero => intro i s _ h; exact absurd h (Nat.not_lt_zero _)
  | succ n ih =>
    intro i s hI hn
    cases i with
    | succ i =>
      rcases hs i s hI with ⟨s', h1, h2⟩ | ⟨b, h1, h2⟩
      · obtain ⟨b, h4, h5⟩ := ih i s' h2 (by omega)
        refine ⟨b, ?_, h5⟩
        show (body (mk (i + 1) s)).bind _ = some b
        rw [h1]; exact h4
      · refine ⟨b, ?_, h2⟩
        show (body (mk (i + 1) s)).bind _ = some b
        rw [h1]; rfl
    | zero =>
      obtain ⟨b, h1, h2⟩ := hx s hI
      refine ⟨b, ?_, h2⟩
      show (body (mk 0 s)).bind _ = some b
      rw [h1]; rfl
def S_out (N : Nat → Int32) (l d h : Int32) : Nat → Int32
  | 0 => 0
  | n + 1 => if N (266 + 5 * n) = l ∧ N (266 + 5 * n + 1) ≤ d ∧ d ≤ N (266 + 5 * n + 2) ∧ N (266 + 5 * n + 3) ≤ h then N (266 + 5 * n + 4) else S_out N l d h n
theorem S_out01 {C : aSc} {N : Nat → Int32} {nw : Nat} (hW : ∀ w, w < nw → V_w C N w) (l d h : Int32) : ∀ n, n ≤ nw → S_out N l d h n = 0 ∨ S_out N l d h n = 1
  | 0, _ => Or.inl rfl
  | n + 1, hn => by
    rw [S_out]
    by_cases hc : N (266 + 5 * n) = l ∧ N (266 + 5 * n + 1) ≤ d ∧ d ≤ N (266 + 5 * n + 2) ∧ N (266 + 5 * n + 3) ≤ h
    · rw [if_pos hc]
      obtain ⟨_, _, _, _, e, z⟩ := hW n (by omega)
      rw [← e]; exact z
    · rw [if_neg hc]
      exact S_out01 hW l d h n (by omega)
theorem tellOut_ok {C : aSc} {N : Nat → Int32} {nw : Nat} (hn : nw ≤ 20) (h70 : C.1 7 0 = nI nw) (hW : ∀ w, w < nw → V_w C N w) (l d h : Int32) : f_X6_tellOut l d h C = some (S_out N l d h nw) := by
  have c70 : a_gi C 7 0 = nI nw := h70
  have l8 : a_len 8 (C.2.2 8) = 20 := rfl
  have l9 : a_len 9 (C.2.2 9) = 20 := rfl
  have l10 : a_len 10 (C.2.2 10) = 20 := rfl
  have l11 : a_len 11 (C.2.2 11) = 20 := rfl
  have l12 : a_len 12 (C.2.2 12) = 20 := rfl
  obtain ⟨b, h1, h2⟩ := lpf_dn (body := fun a : Int32 => b_X6_tellOut_8 l d h a C) (fun i (_ : Unit) => nI i - 1) (fun i _ => i ≤ nw ∧ S_out N l d h i = S_out N l d h nw) (Q := fun b => Sum.elim (fun _ => (0 : Int32)) id b = S_out N l d h nw) (by
    rintro _ ⟨_, e⟩
    refine ⟨.inl (), ?_, e⟩
    show b_X6_tellOut_8 l d h (nI 0 - 1) C = _
    rw [b_X6_tellOut_8, if_pos (by decide)]) (by
    rintro i _ ⟨hi, e⟩
    have hdn : nI i + (-1) = nI i - 1 := (Int32.sub_eq_add_neg _ _).symm
    obtain ⟨w1, w2, w3, w4, w5, w6⟩ := hW i (by omega)
    show (∃ s', b_X6_tellOut_8 l d h (nI (i + 1) - 1) C = some (.inl (nI i - 1)) ∧ _) ∨ (∃ b, b_X6_tellOut_8 l d h (nI (i + 1) - 1) C = some (.inr b) ∧ _)
    rw [S_out] at e
    rw [nI_pred, b_X6_tellOut_8, if_neg (nI_pos (by omega)), a_ldN (by omega) (by omega), Option.bind_some, w1]
    by_cases c1 : N (266 + 5 * i) = l
    rotate_left
    · rw [if_neg (fun z => c1 z.1)] at e
      exact Or.inl ⟨(), by rw [if_neg c1, hdn], by omega, e⟩
    rw [if_pos c1, a_ldN (by omega) (by omega), Option.bind_some, w4]
    by_cases c2 : h < N (266 + 5 * i + 3)
    · rw [if_neg (fun z => (fa_of_lt c2).2.1 z.2.2.2)] at e
      exact Or.inl ⟨(), by rw [if_pos c2, hdn], by omega, e⟩
    rw [if_neg c2, a_ldN (by omega) (by omega), Option.bind_some, w2]
    by_cases c3 : d < N (266 + 5 * i + 1)
    · rw [if_neg (fun z => (fa_of_lt c3).2.1 z.2.1)] at e
      exact Or.inl ⟨(), by rw [if_pos c3, hdn], by omega, e⟩
    rw [if_neg c3, a_ldN (by omega) (by omega), Option.bind_some, w3]
    by_cases c4 : N (266 + 5 * i + 2) < d
    · rw [if_neg (fun z => (fa_of_lt c4).2.1 z.2.2.1)] at e
      exact Or.inl ⟨(), by rw [if_pos c4, hdn], by omega, e⟩
    rw [if_neg c4, a_ldN (by omega) (by omega), Option.bind_some, if_pos w6]
    rw [if_pos ⟨c1, fa_of_nlt c3, fa_of_nlt c4, fa_of_nlt c2⟩] at e
    refine Or.inr ⟨.inr (C.1 12 i), rfl, ?_⟩
    show C.1 12 i = _
    rw [w5]; exact e) FU nw () ⟨Nat.le_refl _, rfl⟩ (FU_lt (by omega))
  rw [f_X6_tellOut, c70, h1, Option.bind_some]
  rcases b with _ | b
  · show some (0 : Int32) = _
    rw [← h2]; rfl
  · show some b = _
    rw [← h2]; rfl
theorem isOut_ok {C : aSc} {M : aMm} {nw : Nat} (hn : nw ≤ 20) (h3 : M 1 3 = nI nw) (hW : ∀ w, w < nw → V_w C (M 1) w) (l d h : Int32) : f_X8_isOut l d h M = some (S_out (M 1) l d h nw) := by
  have hlen : a_len (94 + 1) 0 = 386 := rfl
  have m3 : m_ld M 1 3 = some (nI nw) := by
    have := m_ldN (M := M) (m := 1) (k := 3) (by decide) (by decide)
    rw [h3] at this
    exact this
  obtain ⟨b, h1, h2⟩ := lpf_ct (body := fun a : Int32 × Int32 => b_X8_isOut_6 l d h a.1 a.2 M) (fun i s => (s, nI i)) (fun i s => s = S_out (M 1) l d h i) nw (Q := fun b => b = S_out (M 1) l d h nw) (by
    rintro s rfl
    refine ⟨_, ?_, rfl⟩
    show b_X8_isOut_6 _ _ _ _ (nI nw) _ = _
    rw [b_X8_isOut_6, m3, Option.bind_some, if_pos (Int32.le_refl _)]) (by
    rintro i s hi rfl
    refine Or.inl ⟨S_out (M 1) l d h (i + 1), ?_, rfl⟩
    show b_X8_isOut_6 _ _ _ _ (nI i) _ = _
    have ea : (266 : Int32) + 5 * nI i = nI (266 + 5 * i) := by
      rw [show (266 : Int32) = nI 266 from rfl, show (5 : Int32) = nI 5 from rfl, pk_mul, nI_add]
    have eb1 : nI (266 + 5 * i) + 1 = nI (266 + 5 * i + 1) := nI_add _ 1
    have eb2 : nI (266 + 5 * i) + 2 = nI (266 + 5 * i + 2) := nI_add _ 2
    have eb3 : nI (266 + 5 * i) + 3 = nI (266 + 5 * i + 3) := nI_add _ 3
    have eb4 : nI (266 + 5 * i) + 4 = nI (266 + 5 * i + 4) := nI_add _ 4
    obtain ⟨w1, w2, w3, w4, w5, w6⟩ := hW i (by omega)
    rw [w5] at w6
    have hz : ∀ x4, g_X8_isOut_80 l d h x4 (nI i) (nI (266 + 5 * i)) M = some (.inl (x4, nI (i + 1))) := fun x4 => by rw [g_X8_isOut_80, g_X8_isOut_81, if_pos (by decide), nI_1]
    rw [b_X8_isOut_6, m3, Option.bind_some, if_neg (fun z => by have := (nI_leI (by omega) (by omega)).mp z; omega), ea, m_ldN (by omega) (by omega), Option.bind_some, eb1, eb2, eb3, hz, S_out]
    by_cases c1 : M 1 (266 + 5 * i) = l
    rotate_left
    · rw [if_neg c1, if_neg (fun z => c1 z.1)]
    rw [if_pos c1, m_ldN (by omega) (by omega), Option.bind_some, m_ldN (by omega) (by omega), Option.bind_some]
    by_cases c3 : d < M 1 (266 + 5 * i + 1)
    · rw [within_out (Or.inl c3), Option.bind_some, if_pos (by decide), if_neg (fun z => (fa_of_lt c3).2.1 z.2.1)]
    by_cases c4 : M 1 (266 + 5 * i + 2) < d
    · rw [within_out (Or.inr c4), Option.bind_some, if_pos (by decide), if_neg (fun z => (fa_of_lt c4).2.1 z.2.2.1)]
    rw [f_X8_within, if_neg c3, if_neg c4, Option.bind_some, if_neg (by decide), m_ldN (by omega) (by omega), Option.bind_some]
    by_cases c2 : h < M 1 (266 + 5 * i + 3)
    · rw [if_pos c2, if_neg (fun z => (fa_of_lt c2).2.1 z.2.2.2)]
    rw [if_neg c2, g_X8_isOut_81, if_neg (by decide), eb4, m_ldN (by omega) (by omega), Option.bind_some, nI_1, if_pos (show _ ∧ _ ∧ _ ∧ _ from ⟨c1, fa_of_nlt c3, fa_of_nlt c4, fa_of_nlt c2⟩)]
    rcases w6 with e | e
    · rw [if_neg (by rw [e]; decide), e]
    · rw [if_pos e, e]) FU 0 0 (by omega) rfl (FU_lt (by omega))
  rw [f_X8_isOut, show (0 : Int32) = nI 0 from rfl]
  rw [show (nI 0) = (0 : Int32) from rfl] at h1 ⊢
  rw [h1, Option.bind_some, h2, if_pos (S_out01 hW l d h nw (Nat.le_refl _))]
theorem pr_out (a0 : Int32) (a1 : Int32) (a2 : Int32) {C : aSc} {M : aMm} (hR : Rel C M) : ∃ (v : Int32) (C' : aSc) (M' : aMm), f_X7_out a0 a1 a2 C = some (v, C') ∧ f_X8_out a0 a1 a2 M = some (v, M') ∧ Rel C' M' := by
  obtain ⟨nl, nb, nf, nw, hz, dy, hV⟩ := hR.1
  obtain ⟨⟨h0, ⟨h1, h1'⟩, -, -, ⟨h4, h4'⟩, -, -⟩, hL, hB, hF, hW, hD⟩ := id hV
  rcases isLight_pair (by omega) h1 h1' a0 with ⟨l, hl, rfl, i1, i2⟩ | ⟨i1, i2⟩
  rotate_left
  · refine ⟨-100001, _, _, ?_, ?_, rel_refuse hR⟩
    · rw [f_X7_out, i1, Option.bind_some, if_pos (by decide)]; rfl
    · rw [f_X8_out, i2, Option.bind_some, if_pos (by decide)]; rfl
  rcases nI_cases a1 99 (by decide) with ⟨d, hd, rfl⟩ | hneg | hbig
  rotate_left
  · refine ⟨-100001, _, _, ?_, ?_, rel_refuse hR⟩
    · rw [f_X7_out, i1, Option.bind_some, if_neg (by decide), if_pos hneg]; rfl
    · rw [f_X8_out, i2, Option.bind_some, if_neg (by decide), within_out (Or.inl hneg), Option.bind_some, if_pos (by decide)]; rfl
  · obtain ⟨b1, b2, b3⟩ := nI_big (by decide) hbig
    refine ⟨-100001, _, _, ?_, ?_, rel_refuse hR⟩
    · rw [f_X7_out, i1, Option.bind_some, if_neg (by decide), if_neg b1, if_pos (show (99 : Int32) < a1 from hbig)]; rfl
    · rw [f_X8_out, i2, Option.bind_some, if_neg (by decide), within_out (lo := 0) (hi := 99) (Or.inr hbig), Option.bind_some, if_pos (by decide)]; rfl
  have hd1 : ¬ nI d < 0 := nI_pos (by omega)
  have hd2 : ¬ (99 : Int32) < nI d := fun z => by have := (nI_ltI (a := 99) (by omega) (by omega)).mp z; omega
  have hwi : f_X8_within (nI d) 0 99 M = some 1 := within_in (lo := 0) (hi := 99) (by omega) hd (by omega)
  rcases hour_pair (C := C) (M := M) a2 with ⟨h, hh, rfl, j1, j2⟩ | ⟨j1, j2⟩
  rotate_left
  · refine ⟨-100001, _, _, ?_, ?_, rel_refuse hR⟩
    · rw [f_X7_out, i1, Option.bind_some, if_neg (by decide), if_neg hd1, if_neg hd2, j1, Option.bind_some, if_pos (by decide)]; rfl
    · rw [f_X8_out, i2, Option.bind_some, if_neg (by decide), hwi, Option.bind_some, if_neg (by decide), j2, Option.bind_some, if_pos (by decide)]; rfl
  have t1 := tellOut_ok (by omega) h4 hW (nI l) (nI d) (nI h)
  have t2 := isOut_ok (by omega) h4' hW (nI l) (nI d) (nI h)
  by_cases z : S_out (M 1) (nI l) (nI d) (nI h) nw = 0
  · refine ⟨0, C, M, ?_, ?_, hR⟩
    · rw [f_X7_out, i1, Option.bind_some, if_neg (by decide), if_neg hd1, if_neg hd2, j1, Option.bind_some, if_neg (by decide), t1, Option.bind_some, if_pos z]
    · rw [f_X8_out, i2, Option.bind_some, if_neg (by decide), hwi, Option.bind_some, if_neg (by decide), j2, Option.bind_some, if_neg (by decide), t2, Option.bind_some, if_pos z]
  · refine ⟨1, C, M, ?_, ?_, hR⟩
    · rw [f_X7_out, i1, Option.bind_some, if_neg (by decide), if_neg hd1, if_neg hd2, j1, Option.bind_some, if_neg (by decide), t1, Option.bind_some, if_neg z]
    · rw [f_X8_out, i2, Option.bind_some, if_neg (by decide), hwi, Option.bind_some, if_neg (by decide), j2, Option.bind_some, if_neg (by decide), t2, Option.bind_some, if_neg z]

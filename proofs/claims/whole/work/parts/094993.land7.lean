/-! THE LANDINGS: the class -/
def Cg (C : aSc) (N : Nat → Int32) (nl dy : Nat) : Prop := C.1 0 2 = nI nl ∧ C.1 0 4 = nI dy ∧ (∀ l, l < nl → C.1 (24 + 3 * l) 0 = N (10 + 22 * l) ∧ C.1 (24 + 3 * l) 10 = N (10 + 22 * l + 8) ∧ C.1 (24 + 3 * l) 11 = N (10 + 22 * l + 9)) ∧ ∀ d, d < 20 → C.1 13 d = N (366 + d)
theorem Cg_cong {C C' : aSc} {N : Nat → Int32} {nl dy : Nat} (h : ∀ c j, ¬ (14 ≤ c ∧ c ≤ 19) → ¬ (c = 0 ∧ j = 13) → C'.1 c j = C.1 c j) (hC : Cg C N nl dy) : Cg C' N nl dy := by
  obtain ⟨h1, h2, h3, h4⟩ := hC
  refine ⟨?_, ?_, fun l hl => ?_, fun d hd => ?_⟩
  · rw [h 0 2 (by omega) (by omega)]; exact h1
  · rw [h 0 4 (by omega) (by omega)]; exact h2
  · rw [h _ _ (by omega) (by omega), h _ _ (by omega) (by omega), h _ _ (by omega) (by omega)]; exact h3 l hl
  · rw [h _ _ (by omega) (by omega)]; exact h4 d hd
theorem Cg_of {C : aSc} {N : Nat → Int32} {nl nb nf nw hz dy : Nat} (hV : V_all C N nl nb nf nw hz dy) : Ng N nl dy ∧ Cg C N nl dy := by
  obtain ⟨⟨h0, ⟨h1, h1'⟩, -, -, -, -, ⟨h6, h6'⟩⟩, hL, -, -, -, hD⟩ := hV
  refine ⟨⟨by omega, h1', h6', fun l hl => ?_, fun d hd => ?_⟩, h1, h6, fun l hl => ?_, fun d hd => ?_⟩
  · obtain ⟨⟨kd, _, a2, a3, a4⟩, -, -, -, -, -, -, ⟨si, _, b2, b3, b4⟩, ⟨li, _, c2, c3, c4⟩⟩ := hL l hl
    exact ⟨kd, si, li, a2, b2, c2, a4, b4, c4⟩
  · obtain ⟨x, a, b, c⟩ := hD d hd
    exact ⟨x, a, c⟩
  · obtain ⟨⟨kd, _, a2, a3, a4⟩, -, -, -, -, -, -, ⟨si, _, b2, b3, b4⟩, ⟨li, _, c2, c3, c4⟩⟩ := hL l hl
    exact ⟨a3.trans a4.symm, b3.trans b4.symm, c3.trans c4.symm⟩
  · obtain ⟨x, a, b, c⟩ := hD d hd
    exact b.trans c.symm
section L7
variable {C : aSc} {N : Nat → Int32} {nl dy : Nat}
theorem rock7 {l : Nat} (h : Ng N nl dy) (hC : Cg C N nl dy) (hl : l < nl) : f_X1_isRock (24 + 3 * l) C = some (if S_rk N l then 1 else 0) := by
  obtain ⟨kd, si, li, h1, h2, h3, e1, e2, e3⟩ := h.2.2.2.1 l hl
  rw [isRock1 h1 ((hC.2.2.1 l hl).1.trans e1), rk_if h1 e1]
theorem over7 {l d : Nat} (h : Ng N nl dy) (hC : Cg C N nl dy) (hl : l < nl) (hd : d ≤ 20) : f_X1_overdueOn (24 + 3 * l) (nI d) C = some (nI (S_ov N l d)) := by
  obtain ⟨kd, si, li, h1, h2, h3, e1, e2, e3⟩ := h.2.2.2.1 l hl
  have g : a_gi C (24 + 3 * l) 10 = nI si := (hC.2.2.1 l hl).2.1.trans e2
  rw [f_X1_overdueOn, g, over_all d (by omega) si (by omega), S_ov, S_n_of e2 (by omega)]
theorem lands7 {l x : Nat} (h : Ng N nl dy) (hC : Cg C N nl dy) (hl : l < nl) (hx : x ≤ 9) : f_X1_landsIn (24 + 3 * l) (nI x) C = some (if x ≤ S_n N (10 + 22 * l + 9) then 1 else 0) := by
  obtain ⟨kd, si, li, h1, h2, h3, e1, e2, e3⟩ := h.2.2.2.1 l hl
  have g : a_gi C (24 + 3 * l) 11 = nI li := (hC.2.2.1 l hl).2.2.trans e3
  rw [f_X1_landsIn, g, S_n_of e3 (by omega)]
  by_cases hc : x ≤ li
  · rw [if_neg (fun z => by have := (nI_ltI (by omega) (by omega)).mp z; omega), if_pos hc]
  · rw [if_pos ((nI_ltI (by omega) (by omega)).mpr (by omega)), if_neg hc]
theorem sea7 {d : Nat} (h : Ng N nl dy) (hC : Cg C N nl dy) (hd : d < 20) : a_ld C 13 (nI d) = some (nI (S_n N (366 + d))) ∧ S_n N (366 + d) ≤ 9 := by
  obtain ⟨x, hx, ex⟩ := h.2.2.2.2 d hd
  have e := S_n_of ex (by omega)
  have hl13 : a_len 13 (C.2.2 13) = 20 := rfl
  rw [e, a_ldN (by omega) (by omega), hC.2.2.2 d hd, ex]
  exact ⟨rfl, hx⟩
theorem from7 {l : Nat} (h : Ng N nl dy) (hC : Cg C N nl dy) (hl : l < nl) : f_X0_landsFrom (24 + 3 * l) (nI dy) C = some (if (List.range 20).any (fun d => decide (dy ≤ d ∧ S_n N (366 + d) ≤ S_n N (10 + 22 * l + 9))) then 1 else 0) := by
  have h19 := h.1.2
  obtain ⟨z, e1, q1⟩ := lpf_ct (body := fun a : Int32 => b_X0_landsFrom_2 (24 + 3 * l) a C) (fun i (_ : Unit) => nI i) (fun i _ => dy ≤ i ∧ ∀ j, dy ≤ j → j < i → ¬ S_n N (366 + j) ≤ S_n N (10 + 22 * l + 9)) 20 (Q := fun b => (b = .inl () ∧ (List.range 20).any (fun d => decide (dy ≤ d ∧ S_n N (366 + d) ≤ S_n N (10 + 22 * l + 9))) = false) ∨ (b = .inr 1 ∧ (List.range 20).any (fun d => decide (dy ≤ d ∧ S_n N (366 + d) ≤ S_n N (10 + 22 * l + 9))) = true)) (by
    intro _ hI
    refine ⟨.inl (), ?_, Or.inl ⟨rfl, ?_⟩⟩
    · show b_X0_landsFrom_2 (24 + 3 * l) (nI 20) C = _
      rw [b_X0_landsFrom_2, if_pos (show (20 : Int32) ≤ nI 20 from by decide)]
    · refine List.any_eq_false.mpr fun x hx z => ?_
      obtain ⟨z1, z2⟩ := of_decide_eq_true z
      exact hI.2 x z1 (List.mem_range.mp hx) z2) (by
    rintro i _ hi ⟨hc, hI⟩
    obtain ⟨s1, s2⟩ := sea7 h hC hi
    have hb : b_X0_landsFrom_2 (24 + 3 * l) (nI i) C = if (if S_n N (366 + i) ≤ S_n N (10 + 22 * l + 9) then (1 : Int32) else 0) = 0 then some (.inl (nI (i + 1))) else some (.inr (.inr 1)) := by
      rw [b_X0_landsFrom_2, if_neg (show ¬ (20 : Int32) ≤ nI i from fun z => by have := (nI_leI (a := 20) (by omega) (by omega)).mp z; omega), s1, Option.bind_some, lands7 h hC hl s2, Option.bind_some, nI_1]
    by_cases hq : S_n N (366 + i) ≤ S_n N (10 + 22 * l + 9)
    · rw [if_pos hq, if_neg (by decide)] at hb
      exact Or.inr ⟨.inr 1, hb, Or.inr ⟨rfl, List.any_eq_true.mpr ⟨i, List.mem_range.mpr hi, decide_eq_true ⟨hc, hq⟩⟩⟩⟩
    · rw [if_neg hq, if_pos (by decide)] at hb
      refine Or.inl ⟨(), hb, by omega, fun j a b => ?_⟩
      by_cases e : j = i
      · subst e; exact hq
      · exact hI j a (by omega)) FU dy () (by omega) ⟨by omega, fun j a b => absurd b (by omega)⟩ (FU_lt (by omega))
  rcases q1 with ⟨rfl, q⟩ | ⟨rfl, q⟩
  · rw [q, f_X0_landsFrom, e1]; rfl
  · rw [q, f_X0_landsFrom, e1]; rfl
end L7

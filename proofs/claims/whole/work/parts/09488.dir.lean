/-- two counting loops side by side -/
theorem lpf_ct2 {α α' β β' σ : Type} {body : α → Option (α ⊕ β)} {body' : α' → Option (α' ⊕ β')} (mk : Nat → σ → α) (mk' : Nat → σ → α') (I : Nat → σ → Prop) (e : Nat) {Q : β → β' → Prop} (hx : ∀ s, I e s → ∃ b b', body (mk e s) = some (.inr b) ∧ body' (mk' e s) = some (.inr b') ∧ Q b b') (hs : ∀ i s, i < e → I i s → (∃ s', body (mk i s) = some (.inl (mk (i + 1) s')) ∧ body' (mk' i s) = some (.inl (mk' (i + 1) s')) ∧ I (i + 1) s') ∨ (∃ b b', body (mk i s) = some (.inr b) ∧ body' (mk' i s) = some (.inr b') ∧ Q b b')) : ∀ (n i : Nat) (s : σ), i ≤ e → I i s → e - i < n → ∃ b b', lpf body n (mk i s) = some b ∧ lpf body' n (mk' i s) = some b' ∧ Q b b' := by
  intro n
  induction n with
  | zero => intro i s _ _ h; exact absurd h (Nat.not_lt_zero _)
  | succ n ih =>
    intro i s hi hI hn
    rcases Nat.lt_or_ge i e with h | h
    · rcases hs i s h hI with ⟨s', h1, h1', h2⟩ | ⟨b, b', h1, h1', h2⟩
      · obtain ⟨b, b', h4, h4', h5⟩ := ih (i + 1) s' h h2 (by omega)
        refine ⟨b, b', ?_, ?_, h5⟩
        · show (body (mk i s)).bind _ = some b
          rw [h1]; exact h4
        · show (body' (mk' i s)).bind _ = some b'
          rw [h1']; exact h4'
      · refine ⟨b, b', ?_, ?_, h2⟩
        · show (body (mk i s)).bind _ = some b
          rw [h1]; rfl
        · show (body' (mk' i s)).bind _ = some b'
          rw [h1']; rfl
    · have : i = e := by omega
      subst this
      obtain ⟨b, b', h1, h1', h2⟩ := hx s hI
      refine ⟨b, b', ?_, ?_, h2⟩
      · show (body (mk i s)).bind _ = some b
        rw [h1]; rfl
      · show (body' (mk' i s)).bind _ = some b'
        rw [h1']; rfl
/-! directions -/
def mZ : aMm := fun _ _ => 0
def wN (x y : Int32) : Nat := ((f_X8_wayOf x y mZ).getD 0).toNatClampNeg
def d7 (x y : Int32) (C : aSc) : Option Int32 := if 0 < x then g_X7_directionOf_30 x y C else if x = 0 then if y ≤ 0 then g_X7_directionOf_34 x y C else g_X7_directionOf_30 x y C else g_X7_directionOf_34 x y C
set_option maxRecDepth 100000 in
theorem way_all : ∀ i, i < 31 → ∀ j, j < 31 → ¬ (i = 15 ∧ j = 15) → f_X8_wayOf (nI i - nI 15) (nI j - nI 15) mZ = some (nI (wN (nI i - nI 15) (nI j - nI 15))) ∧ d7 (nI i - nI 15) (nI j - nI 15) cZ = some (nI (wN (nI i - nI 15) (nI j - nI 15))) ∧ wN (nI i - nI 15) (nI j - nI 15) < 16 := by decide +kernel
theorem sub15 : ∀ p, p < 16 → ∀ q, q < 16 → nI p - nI q = nI (p + 15 - q) - nI 15 := by decide +kernel
def wD (a b : Nat) : Nat := wN (nI (b % 16) - nI (a % 16)) (nI (b / 16) - nI (a / 16))
theorem and15 {a : Nat} (h : a < 256) : nI a &&& 15 = nI (a % 16) := pk_andN (m := 15) (by omega) 4 (by decide)
theorem shr4 {a : Nat} (h : a < 256) : nI a >>> ((4 : Int32) &&& 31) = nI (a / 16) := pk_shrN (by omega) _ 4 (by decide)
theorem rem16 {a : Nat} (h : a < 256) : nI a - nI a / 16 * 16 = nI (a % 16) := pk_rem (d := 16) (by omega) (by omega) (by omega)
theorem div16 {a : Nat} (h : a < 256) : nI a / 16 = nI (a / 16) := pk_div (d := 16) (by omega) (by omega) (by omega)
theorem dir_ok (C : aSc) (M : aMm) {a b : Nat} (ha : a < 256) (hb : b < 256) (hab : a ≠ b) : f_X7_directionOf (nI a) (nI b) C = some (nI (wD a b)) ∧ f_X8_wayBetween (nI a) (nI b) M = some (nI (wD a b)) ∧ wD a b < 16 := by
  have e1 := sub15 (b % 16) (by omega) (a % 16) (by omega)
  have e2 := sub15 (b / 16) (by omega) (a / 16) (by omega)
  have hne : ¬ (b % 16 + 15 - a % 16 = 15 ∧ b / 16 + 15 - a / 16 = 15) := by omega
  obtain ⟨w1, w2, w3⟩ := way_all _ (show b % 16 + 15 - a % 16 < 31 by omega) _ (show b / 16 + 15 - a / 16 < 31 by omega) hne
  rw [← e1, ← e2] at w1 w2 w3
  refine ⟨?_, ?_, w3⟩
  · have : f_X7_directionOf (nI a) (nI b) C = d7 ((nI b &&& 15) - (nI a &&& 15)) ((nI b >>> ((4 : Int32) &&& 31)) - (nI a >>> ((4 : Int32) &&& 31))) cZ := rfl
    rw [this, and15 ha, and15 hb, shr4 ha, shr4 hb]
    exact w2
  · have : f_X8_wayBetween (nI a) (nI b) M = (f_X8_wayOf ((nI b - nI b / 16 * 16) - (nI a - nI a / 16 * 16)) ((nI b / 16) - (nI a / 16)) mZ).bind fun r2 => some r2 := rfl
    rw [this, rem16 ha, rem16 hb, div16 ha, div16 hb, w1]
    rfl
theorem pr_direction (a0 : Int32) (a1 : Int32) {C : aSc} {M : aMm} (hR : Rel C M) : ∃ (v : Int32) (C' : aSc) (M' : aMm), f_X7_direction a0 a1 C = some (v, C') ∧ f_X8_direction a0 a1 M = some (v, M') ∧ Rel C' M' := by
  rcases cell_pair (C := C) (M := M) a0 with ⟨a, ha, rfl, i1, i2⟩ | ⟨i1, i2⟩
  rotate_left
  · refine ⟨-100001, _, _, ?_, ?_, rel_refuse hR⟩
    · rw [f_X7_direction, i1, Option.bind_some, if_pos (by decide)]; rfl
    · rw [f_X8_direction, i2, Option.bind_some, if_pos (by decide)]; rfl
  rcases cell_pair (C := C) (M := M) a1 with ⟨b, hb, rfl, j1, j2⟩ | ⟨j1, j2⟩
  rotate_left
  · refine ⟨-100001, _, _, ?_, ?_, rel_refuse hR⟩
    · rw [f_X7_direction, i1, Option.bind_some, if_neg (by decide), j1, Option.bind_some, if_pos (by decide)]; rfl
    · rw [f_X8_direction, i2, Option.bind_some, if_neg (by decide), j2, Option.bind_some, if_pos (by decide)]; rfl
  by_cases e : a = b
  · subst e
    refine ⟨-100003, _, _, ?_, ?_, rel_refuse hR⟩
    · rw [f_X7_direction, i1, Option.bind_some, if_neg (by decide), Option.bind_some, if_neg (by decide), if_pos rfl]; rfl
    · rw [f_X8_direction, i2, Option.bind_some, if_neg (by decide), Option.bind_some, if_neg (by decide), if_pos rfl]; rfl
  have ne : ¬ nI a = nI b := fun z => e ((nI_eq (by omega) (by omega)).mp z)
  obtain ⟨d1, d2, d3⟩ := dir_ok C M (show a < 256 by omega) (show b < 256 by omega) e
  refine ⟨nI (wD a b), C, M, ?_, ?_, hR⟩
  · rw [f_X7_direction, i1, Option.bind_some, if_neg (by decide), j1, Option.bind_some, if_neg (by decide), if_neg ne, d1, Option.bind_some]
  · rw [f_X8_direction, i2, Option.bind_some, if_neg (by decide), j2, Option.bind_some, if_neg (by decide), if_neg ne, d2, Option.bind_some]

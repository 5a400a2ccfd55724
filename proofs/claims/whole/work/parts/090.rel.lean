/-! THE PURE SIDE: numbers, loops, cells -/
theorem lpf_go {α β : Type} {body : α → Option (α ⊕ β)} {I : α → Prop} {Q : β → Prop} (μ : α → Nat) (hs : ∀ a, I a → (∃ a', body a = some (.inl a') ∧ I a' ∧ μ a' < μ a) ∨ (∃ b, body a = some (.inr b) ∧ Q b)) : ∀ (n : Nat) (a : α), I a → μ a < n → ∃ b, lpf body n a = some b ∧ Q b := by
  intro n
  induction n with
  | zero => intro a _ h; exact absurd h (Nat.not_lt_zero _)
  | succ n ih =>
    intro a ha hn
    rcases hs a ha with ⟨a', h1, h2, h3⟩ | ⟨b, h1, h2⟩
    · obtain ⟨b, h4, h5⟩ := ih a' h2 (by omega)
      refine ⟨b, ?_, h5⟩
      show (body a).bind _ = some b
      rw [h1]; exact h4
    · refine ⟨b, ?_, h2⟩
      show (body a).bind _ = some b
      rw [h1]; rfl
/-- a counting loop -/
theorem lpf_ct {α β σ : Type} {body : α → Option (α ⊕ β)} (mk : Nat → σ → α) (I : Nat → σ → Prop) (e : Nat) {Q : β → Prop} (hx : ∀ s, I e s → ∃ b, body (mk e s) = some (.inr b) ∧ Q b) (hs : ∀ i s, i < e → I i s → (∃ s', body (mk i s) = some (.inl (mk (i + 1) s')) ∧ I (i + 1) s') ∨ (∃ b, body (mk i s) = some (.inr b) ∧ Q b)) : ∀ (n i : Nat) (s : σ), i ≤ e → I i s → e - i < n → ∃ b, lpf body n (mk i s) = some b ∧ Q b := by
  intro n
  induction n with
  | zero => intro i s _ _ h; exact absurd h (Nat.not_lt_zero _)
  | succ n ih =>
    intro i s hi hI hn
    rcases Nat.lt_or_ge i e with h | h
    · rcases hs i s h hI with ⟨s', h1, h2⟩ | ⟨b, h1, h2⟩
      · obtain ⟨b, h4, h5⟩ := ih (i + 1) s' h h2 (by omega)
        refine ⟨b, ?_, h5⟩
        show (body (mk i s)).bind _ = some b
        rw [h1]; exact h4
      · refine ⟨b, ?_, h2⟩
        show (body (mk i s)).bind _ = some b
        rw [h1]; rfl
    · have : i = e := by omega
      subst this
      obtain ⟨b, h1, h2⟩ := hx s hI
      refine ⟨b, ?_, h2⟩
      show (body (mk i s)).bind _ = some b
      rw [h1]; rfl
theorem FU_lt {k : Nat} (h : k < 100000) : k < FU := h
theorem nI_ix {k n : Nat} (h : k < n) (hn : n < 2 ^ 31) : 0 ≤ (nI k).toInt ∧ (nI k).toInt < (n : Int) := by
  rw [nI_toInt (by omega)]
  omega
theorem m_ldN {M : aMm} {m k : Nat} (h : k < a_len (94 + m) 0) (hn : k < 2 ^ 31) : m_ld M m (nI k) = some (M m k) := by
  unfold m_ld
  rw [if_pos (by rw [nI_toInt hn]; omega), nI_clamp hn]
theorem m_stN {M : aMm} {m k : Nat} {v : Int32} (h : k < a_len (94 + m) 0) (hn : k < 2 ^ 31) : m_st M m (nI k) v = some (m_pi M m k v) := by
  unfold m_st
  rw [if_pos (by rw [nI_toInt hn]; omega), nI_clamp hn]
theorem a_ldN {C : aSc} {c k : Nat} (h : k < a_len c (C.2.2 c)) (hn : k < 2 ^ 31) : a_ld C c (nI k) = some (C.1 c k) := by
  unfold a_ld
  rw [if_pos (by rw [nI_toInt hn]; omega), nI_clamp hn]
theorem a_ldlN {C : aSc} {c k : Nat} (h : k < a_len c (C.2.2 c)) (hn : k < 2 ^ 31) : a_ldl C c (nI k) = some (C.2.1 c k) := by
  unfold a_ldl
  rw [if_pos (by rw [nI_toInt hn]; omega), nI_clamp hn]
theorem a_stN {C : aSc} {c k : Nat} {v : Int32} (h : k < a_len c (C.2.2 c)) (hn : k < 2 ^ 31) : a_st C c (nI k) v = some (a_pi C c k v) := by
  unfold a_st
  rw [if_pos (by rw [nI_toInt hn]; omega), nI_clamp hn]
theorem a_stlN {C : aSc} {c k : Nat} {v : Int64} (h : k < a_len c (C.2.2 c)) (hn : k < 2 ^ 31) : a_stl C c (nI k) v = some (a_pl C c k v) := by
  unfold a_stl
  rw [if_pos (by rw [nI_toInt hn]; omega), nI_clamp hn]
theorem a_rfN {b s n k : Nat} (h : k < n) (hn : k < 2 ^ 31) : a_rf b s n (nI k) = some (b + s * k) := by
  unfold a_rf
  rw [if_pos (by rw [nI_toInt hn]; omega), nI_clamp hn]
theorem a_pi_at {C : aSc} {c j : Nat} {v : Int32} : (a_pi C c j v).1 c j = v := by simp [a_pi, a_up, upd]
theorem a_pi_ne {C : aSc} {c j c' j' : Nat} {v : Int32} (h : ¬ (c' = c ∧ j' = j)) : (a_pi C c j v).1 c' j' = C.1 c' j' := by
  unfold a_pi a_up
  by_cases hc : c' = c
  · subst hc
    have : ¬ j' = j := fun e => h ⟨rfl, e⟩
    simp [upd, this]
  · simp [hc]
theorem a_pi_2 {C : aSc} {c j : Nat} {v : Int32} : (a_pi C c j v).2 = C.2 := rfl
theorem a_pi_row {C : aSc} {c j c' : Nat} {v : Int32} (h : c' ≠ c) : (a_pi C c j v).1 c' = C.1 c' := by simp [a_pi, a_up, h]
theorem m_pi_at {M : aMm} {c j : Nat} {v : Int32} : m_pi M c j v c j = v := by simp [m_pi, a_up, upd]
theorem m_pi_ne {M : aMm} {c j c' j' : Nat} {v : Int32} (h : ¬ (c' = c ∧ j' = j)) : m_pi M c j v c' j' = M c' j' := by
  unfold m_pi a_up
  by_cases hc : c' = c
  · subst hc
    have : ¬ j' = j := fun e => h ⟨rfl, e⟩
    simp [upd, this]
  · simp [hc]
theorem m_pi_row {M : aMm} {c j c' : Nat} {v : Int32} (h : c' ≠ c) : m_pi M c j v c' = M c' := by simp [m_pi, a_up, h]
theorem m_pi_self {M : aMm} {c j : Nat} {v : Int32} : m_pi M c j v c = upd (M c) j v := by simp [m_pi, a_up]
theorem upd_at {f : Nat → Int32} {k : Nat} {x : Int32} : upd f k x k = x := by simp [upd]
theorem upd_ne {f : Nat → Int32} {k j : Nat} {x : Int32} (h : j ≠ k) : upd f k x j = f j := by simp [upd, h]
/-- a number, or a value outside 0 .. n -/
theorem nI_cases (x : Int32) (n : Nat) (hn : n + 1 < 2 ^ 31) : (∃ k, k ≤ n ∧ x = nI k) ∨ x < 0 ∨ nI n < x := by
  rcases pk_ix x (n := n + 1) hn with h | h | ⟨j, hj, e⟩
  · exact Or.inr (Or.inl h)
  · refine Or.inr (Or.inr ?_)
    have h1 := Int32.le_iff_toInt_le.mp h
    rw [nI_toInt hn] at h1
    refine Int32.lt_iff_toInt_lt.mpr ?_
    rw [nI_toInt (by omega)]
    omega
  · exact Or.inl ⟨j, by omega, e⟩
theorem nI_not_neg {n : Nat} (h : n < 2 ^ 31) : ¬ nI n < 0 := nI_pos h
/-! THE VIEW: what the class's cells and the reference's row 'now' say of the coast -/
def vr (c j : Nat) : Bool := (c == 0 && (j == 2 || j == 3 || j == 4 || j == 6 || j == 8)) || c == 4 || c == 5 || (c == 7 && j == 0) || (decide (8 ≤ c) && decide (c ≤ 13)) || (decide (24 ≤ c) && decide (c < 54))
def V_n (C : aSc) (N : Nat → Int32) (nl nb nf nw hz dy : Nat) : Prop := (nl ≤ 10 ∧ nb ≤ 8 ∧ nf ≤ 12 ∧ nw ≤ 20 ∧ hz ≤ 15 ∧ dy ≤ 19) ∧ (C.1 0 2 = nI nl ∧ N 0 = nI nl) ∧ (C.1 0 6 = nI nb ∧ N 1 = nI nb) ∧ (C.1 0 8 = nI nf ∧ N 2 = nI nf) ∧ (C.1 7 0 = nI nw ∧ N 3 = nI nw) ∧ (C.1 0 3 = nI hz ∧ N 4 = nI hz) ∧ (C.1 0 4 = nI dy ∧ N 5 = nI dy)
/-- a light's plain numbers -/
def V_p (C : aSc) (N : Nat → Int32) (l f g : Nat) (lo hi : Nat) : Prop := ∃ x, lo ≤ x ∧ x ≤ hi ∧ C.1 (24 + 3 * l) f = nI x ∧ N (10 + 22 * l + g) = nI x
/-- a rhythm's bits: what the JDK's count says of them is kept with them -/
def okB (se b : Nat) : Prop := b < 2 ^ se ∧ f_J13_bitCount_95d88 (lN b) = some (nI (fb_ct b.testBit 30))
/-- its rhythm -/
def V_r (C : aSc) (N : Nat → Int32) (l : Nat) : Prop := ∃ se bt, 1 ≤ se ∧ se ≤ 30 ∧ okB se bt ∧ C.1 (24 + 3 * l) 4 = nI se ∧ N (10 + 22 * l + 4) = nI se ∧ C.2.1 (24 + 3 * l) 5 = lN bt ∧ N (10 + 22 * l + 5) = nI bt ∧ ∀ i, i < se → ∃ p, p < 2 ^ 64 ∧ C.2.1 (25 + 3 * l) i = lN p ∧ ∀ j, j < 64 → p.testBit j = bt.testBit ((i + j) % se)
/-- a packed row of directions: which lie from one to another one, and a number above them -/
def V_k (v : Int32) (fr to k : Nat) : Prop := fr < 16 ∧ to < 16 ∧ ∃ mk, mk < 65536 ∧ v = nI (k * 65536 + mk) ∧ ∀ d, d < 16 → mk.testBit d = decide ((d + 16 - fr) % 16 ≤ (to + 16 - fr) % 16)
def V_s (C : aSc) (N : Nat → Int32) (l : Nat) : Prop := ∃ ns, ns ≤ 4 ∧ C.1 (24 + 3 * l) 8 = nI ns ∧ N (10 + 22 * l + 6) = nI ns ∧ ∀ s, s < ns → ∃ fr to k, k ≤ 3 ∧ N (10 + 22 * l + (10 + 3 * s)) = nI fr ∧ N (10 + 22 * l + (11 + 3 * s)) = nI to ∧ N (10 + 22 * l + (12 + 3 * s)) = nI k ∧ V_k (C.1 (26 + 3 * l) s) fr to k
def V_l (C : aSc) (N : Nat → Int32) (l : Nat) : Prop := V_p C N l 0 0 0 3 ∧ V_p C N l 1 1 0 255 ∧ V_p C N l 2 2 1 15 ∧ V_p C N l 3 3 0 2 ∧ V_r C N l ∧ V_s C N l ∧ V_p C N l 9 7 0 3 ∧ V_p C N l 10 8 0 19 ∧ V_p C N l 11 9 0 9
def V_b (C : aSc) (N : Nat → Int32) (nl b : Nat) : Prop := ∃ l fr to, l < nl ∧ N (230 + 3 * b) = nI l ∧ N (230 + 3 * b + 1) = nI fr ∧ N (230 + 3 * b + 2) = nI to ∧ V_k (C.1 4 b) fr to l
def V_f (C : aSc) (N : Nat → Int32) (nf : Nat) : Prop := (∀ i, i < nf → ∃ x, x < 256 ∧ C.1 5 i = nI x) ∧ (∀ i, i < nf → ∃ x, x < 256 ∧ N (254 + i) = nI x) ∧ (∀ i j, i < nf → j < nf → C.1 5 i = C.1 5 j → i = j) ∧ (∀ i j, i < nf → j < nf → N (254 + i) = N (254 + j) → i = j) ∧ (∀ i, i < nf → ∃ j, j < nf ∧ N (254 + j) = C.1 5 i) ∧ (∀ i, i < nf → ∃ j, j < nf ∧ C.1 5 j = N (254 + i))
def V_w (C : aSc) (N : Nat → Int32) (w : Nat) : Prop := C.1 8 w = N (266 + 5 * w) ∧ C.1 9 w = N (266 + 5 * w + 1) ∧ C.1 10 w = N (266 + 5 * w + 2) ∧ C.1 11 w = N (266 + 5 * w + 3) ∧ C.1 12 w = N (266 + 5 * w + 4) ∧ (C.1 12 w = 0 ∨ C.1 12 w = 1)
def V_d (C : aSc) (N : Nat → Int32) (d : Nat) : Prop := ∃ x, x ≤ 9 ∧ C.1 13 d = nI x ∧ N (366 + d) = nI x
def V_all (C : aSc) (N : Nat → Int32) (nl nb nf nw hz dy : Nat) : Prop := V_n C N nl nb nf nw hz dy ∧ (∀ l, l < nl → V_l C N l) ∧ (∀ b, b < nb → V_b C N nl b) ∧ V_f C N nf ∧ (∀ w, w < nw → V_w C N w) ∧ ∀ d, d < 20 → V_d C N d
def Vw (C : aSc) (N : Nat → Int32) : Prop := ∃ nl nb nf nw hz dy, V_all C N nl nb nf nw hz dy
theorem V_all_cong {C C' : aSc} {N N' : Nat → Int32} {nl nb nf nw hz dy : Nat} (h : ∀ c j, vr c j = true → C'.1 c j = C.1 c j) (hl : ∀ c j, 24 ≤ c → c < 54 → C'.2.1 c j = C.2.1 c j) (hN : ∀ j, j < 386 → N' j = N j) (hV : V_all C N nl nb nf nw hz dy) : V_all C' N' nl nb nf nw hz dy := by
  obtain ⟨⟨h0, h1, h2, h3, h4, h5, h6⟩, hL, hB, hF, hW, hD⟩ := hV
  have e0 : ∀ j, j = 2 ∨ j = 3 ∨ j = 4 ∨ j = 6 ∨ j = 8 → C'.1 0 j = C.1 0 j := fun j hj => h 0 j (by rcases hj with rfl | rfl | rfl | rfl | rfl <;> rfl)
  have e4 : ∀ j, C'.1 4 j = C.1 4 j := fun j => h 4 j (by simp [vr])
  have e5 : ∀ j, C'.1 5 j = C.1 5 j := fun j => h 5 j (by simp [vr])
  have ew : ∀ c j, 8 ≤ c → c ≤ 13 → C'.1 c j = C.1 c j := fun c j a b => h c j (by simp [vr, a, b])
  have el : ∀ c j, 24 ≤ c → c < 54 → C'.1 c j = C.1 c j := fun c j a b => h c j (by simp [vr, a, b])
  refine ⟨⟨h0, ?_, ?_, ?_, ?_, ?_, ?_⟩, ?_, ?_, ?_, ?_, ?_⟩
  · rw [e0 2 (by omega), hN 0 (by omega)]; exact h1
  · rw [e0 6 (by omega), hN 1 (by omega)]; exact h2
  · rw [e0 8 (by omega), hN 2 (by omega)]; exact h3
  · rw [h 7 0 rfl, hN 3 (by omega)]; exact h4
  · rw [e0 3 (by omega), hN 4 (by omega)]; exact h5
  · rw [e0 4 (by omega), hN 5 (by omega)]; exact h6
  · intro l hl0
    have hl10 : l < 10 := by omega
    have vp : ∀ f g lo hi, g < 22 → V_p C N l f g lo hi → V_p C' N' l f g lo hi := by
      rintro f g lo hi hg ⟨x, a, b, c, d⟩
      exact ⟨x, a, b, by rw [el _ _ (by omega) (by omega)]; exact c, by rw [hN _ (by omega)]; exact d⟩
    obtain ⟨p1, p2, p3, p4, ⟨se, bt, r1, r2, r3, r4, r5, r6, r7, r8⟩, ⟨ns, s1, s2, s3, s4⟩, p5, p6, p7⟩ := hL l hl0
    refine ⟨vp _ _ _ _ (by omega) p1, vp _ _ _ _ (by omega) p2, vp _ _ _ _ (by omega) p3, vp _ _ _ _ (by omega) p4, ⟨se, bt, r1, r2, r3, ?_, ?_, ?_, ?_, ?_⟩, ⟨ns, s1, ?_, ?_, ?_⟩, vp _ _ _ _ (by omega) p5, vp _ _ _ _ (by omega) p6, vp _ _ _ _ (by omega) p7⟩
    · rw [el _ _ (by omega) (by omega)]; exact r4
    · rw [hN _ (by omega)]; exact r5
    · rw [hl _ _ (by omega) (by omega)]; exact r6
    · rw [hN _ (by omega)]; exact r7
    · intro i hi
      rw [hl _ _ (by omega) (by omega)]
      exact r8 i hi
    · rw [el _ _ (by omega) (by omega)]; exact s2
    · rw [hN _ (by omega)]; exact s3
    · intro s hs
      rw [hN _ (by omega), hN _ (by omega), hN _ (by omega), el _ _ (by omega) (by omega)]
      exact s4 s hs
  · intro b hb
    obtain ⟨l, fr, to, a, b1, c, d, e⟩ := hB b hb
    exact ⟨l, fr, to, a, by rw [hN _ (by omega)]; exact b1, by rw [hN _ (by omega)]; exact c, by rw [hN _ (by omega)]; exact d, by rw [e4]; exact e⟩
  · obtain ⟨f1, f2, f3, f4, f5, f6⟩ := hF
    refine ⟨?_, ?_, ?_, ?_, ?_, ?_⟩
    · intro i hi; rw [e5]; exact f1 i hi
    · intro i hi; rw [hN _ (by omega)]; exact f2 i hi
    · intro i j hi hj; rw [e5, e5]; exact f3 i j hi hj
    · intro i j hi hj; rw [hN _ (by omega), hN _ (by omega)]; exact f4 i j hi hj
    · intro i hi
      obtain ⟨j, a, b⟩ := f5 i hi
      exact ⟨j, a, by rw [hN _ (by omega), e5]; exact b⟩
    · intro i hi
      obtain ⟨j, a, b⟩ := f6 i hi
      exact ⟨j, a, by rw [hN _ (by omega), e5]; exact b⟩
  · intro w hw
    unfold V_w
    rw [ew 8 w (by omega) (by omega), ew 9 w (by omega) (by omega), ew 10 w (by omega) (by omega), ew 11 w (by omega) (by omega), ew 12 w (by omega) (by omega), hN _ (by omega), hN _ (by omega), hN _ (by omega), hN _ (by omega), hN _ (by omega)]
    exact hW w hw
  · intro d hd
    obtain ⟨x, a, b, c⟩ := hD d hd
    exact ⟨x, a, by rw [ew 13 d (by omega) (by omega)]; exact b, by rw [hN _ (by omega)]; exact c⟩
theorem Vw_cong {C C' : aSc} {N N' : Nat → Int32} (h : ∀ c j, vr c j = true → C'.1 c j = C.1 c j) (hl : ∀ c j, 24 ≤ c → c < 54 → C'.2.1 c j = C.2.1 c j) (hN : ∀ j, j < 386 → N' j = N j) (hV : Vw C N) : Vw C' N' := by
  obtain ⟨nl, nb, nf, nw, hz, dy, hV⟩ := hV
  exact ⟨nl, nb, nf, nw, hz, dy, V_all_cong h hl hN hV⟩

def mb (f : Nat → Int32) (n : Nat) (y : Int32) : Prop := ∃ i, i < n ∧ f i = y
def ij (f : Nat → Int32) (n : Nat) : Prop := ∀ i j, i < n → j < n → f i = f j → i = j
def bd (f : Nat → Int32) (n : Nat) : Prop := ∀ i, i < n → ∃ x, x < 256 ∧ f i = nI x
theorem mb_le {f g : Nat → Int32} {n m : Nat} (hf : ij f n) (h : ∀ y, mb f n y → mb g m y) : n ≤ m := by
  have H : ∀ i, i < n → ∃ j, j < m ∧ g j = f i := fun i hi => h (f i) ⟨i, hi, rfl⟩
  refine fb_holes m n (fun i => if h : i < n then Classical.choose (H i h) else 0) ?_ ?_
  · intro i hi
    simp only [hi, dif_pos]
    exact (Classical.choose_spec (H i hi)).1
  · intro i j hij hj e
    have hi : i < n := by omega
    simp only [hi, hj, dif_pos] at e
    have e1 := (Classical.choose_spec (H i hi)).2
    have e2 := (Classical.choose_spec (H j hj)).2
    rw [e, e2] at e1
    have := hf j i hj hi e1
    omega
theorem app_mb {f g : Nat → Int32} {n : Nat} {x : Int32} (h : ∀ i, i < n → g i = f i) (hn : g n = x) (y : Int32) : mb g (n + 1) y ↔ mb f n y ∨ y = x := by
  constructor
  · rintro ⟨i, hi, e⟩
    by_cases c : i = n
    · subst c; exact Or.inr (by rw [← e, hn])
    · exact Or.inl ⟨i, by omega, by rw [← h i (by omega)]; exact e⟩
  · rintro (⟨i, hi, e⟩ | e)
    · exact ⟨i, by omega, by rw [h i hi]; exact e⟩
    · exact ⟨n, by omega, by rw [e, hn]⟩
theorem app_ij {f g : Nat → Int32} {n : Nat} {x : Int32} (hf : ij f n) (hx : ¬ mb f n x) (h : ∀ i, i < n → g i = f i) (hn : g n = x) : ij g (n + 1) := by
  intro i j hi hj e
  by_cases c : i = n
  · by_cases d : j = n
    · omega
    · subst c
      rw [hn, h j (by omega)] at e
      exact absurd ⟨j, by omega, e.symm⟩ hx
  · by_cases d : j = n
    · subst d
      rw [hn, h i (by omega)] at e
      exact absurd ⟨i, by omega, e⟩ hx
    · rw [h i (by omega), h j (by omega)] at e
      exact hf i j (by omega) (by omega) e
theorem app_bd {f g : Nat → Int32} {n c : Nat} (hf : bd f n) (hc : c < 256) (h : ∀ i, i < n → g i = f i) (hn : g n = nI c) : bd g (n + 1) := by
  intro i hi
  by_cases e : i = n
  · subst e; exact ⟨c, hc, hn⟩
  · rw [h i (by omega)]; exact hf i (by omega)
theorem rem_mb {f g : Nat → Int32} {n a : Nat} {x : Int32} (hf : ij f (n + 1)) (ha : a < n + 1) (hx : f a = x) (h : ∀ i, i < n → g i = if i = a then f n else f i) (y : Int32) : mb g n y ↔ mb f (n + 1) y ∧ y ≠ x := by
  constructor
  · rintro ⟨i, hi, e⟩
    rw [h i hi] at e
    by_cases c : i = a
    · rw [if_pos c] at e
      refine ⟨⟨n, by omega, e⟩, fun z => ?_⟩
      have := hf n a (by omega) ha (by rw [e, z, hx])
      omega
    · rw [if_neg c] at e
      refine ⟨⟨i, by omega, e⟩, fun z => c (hf i a (by omega) ha (by rw [e, z, hx]))⟩
  · rintro ⟨⟨i, hi, e⟩, hne⟩
    have hia : i ≠ a := fun z => hne (by rw [← e, z, hx])
    by_cases c : i = n
    · subst c
      exact ⟨a, by omega, by rw [h a (by omega), if_pos rfl]; exact e⟩
    · exact ⟨i, by omega, by rw [h i (by omega), if_neg hia]; exact e⟩
theorem rem_ij {f g : Nat → Int32} {n a : Nat} (hf : ij f (n + 1)) (h : ∀ i, i < n → g i = if i = a then f n else f i) : ij g n := by
  intro i j hi hj e
  rw [h i hi, h j hj] at e
  by_cases c : i = a
  · by_cases d : j = a
    · omega
    · rw [if_pos c, if_neg d] at e
      have := hf n j (by omega) (by omega) e
      omega
  · by_cases d : j = a
    · rw [if_neg c, if_pos d] at e
      have := hf i n (by omega) (by omega) e
      omega
    · rw [if_neg c, if_neg d] at e
      exact hf i j (by omega) (by omega) e
theorem rem_bd {f g : Nat → Int32} {n a : Nat} (hf : bd f (n + 1)) (h : ∀ i, i < n → g i = if i = a then f n else f i) : bd g n := by
  intro i hi
  rw [h i hi]
  by_cases c : i = a
  · rw [if_pos c]; exact hf n (by omega)
  · rw [if_neg c]; exact hf i (by omega)
def nfr (N : Nat → Int32) : Nat → Int32 := fun i => N (254 + i)
theorem V_f_of {C : aSc} {N : Nat → Int32} {n : Nat} (h : V_f C N n) : bd (C.1 5) n ∧ bd (nfr N) n ∧ ij (C.1 5) n ∧ ij (nfr N) n ∧ ∀ y, mb (C.1 5) n y ↔ mb (nfr N) n y := by
  obtain ⟨f1, f2, f3, f4, f5, f6⟩ := h
  refine ⟨f1, f2, f3, f4, fun y => ⟨?_, ?_⟩⟩
  · rintro ⟨i, hi, e⟩
    obtain ⟨j, hj, e2⟩ := f5 i hi
    exact ⟨j, hj, by rw [← e]; exact e2⟩
  · rintro ⟨i, hi, e⟩
    obtain ⟨j, hj, e2⟩ := f6 i hi
    exact ⟨j, hj, by rw [← e]; exact e2⟩
theorem V_f_mk {C : aSc} {N : Nat → Int32} {n m : Nat} (b1 : bd (C.1 5) n) (b2 : bd (nfr N) m) (i1 : ij (C.1 5) n) (i2 : ij (nfr N) m) (h : ∀ y, mb (C.1 5) n y ↔ mb (nfr N) m y) : n = m ∧ V_f C N m := by
  have e : n = m := Nat.le_antisymm (mb_le i1 (fun y => (h y).mp)) (mb_le i2 (fun y => (h y).mpr))
  subst e
  refine ⟨rfl, b1, b2, i1, i2, fun i hi => ?_, fun i hi => ?_⟩
  · exact (h _).mp ⟨i, hi, rfl⟩
  · exact (h _).mpr ⟨i, hi, rfl⟩
/-- another fairway -/
theorem V_fair {C C' : aSc} {N N' : Nat → Int32} {nl nb nf nf' nw hz dy : Nat} (hV : V_all C N nl nb nf nw hz dy) (hC : ∀ c j, vr c j = true → c ≠ 5 → ¬ (c = 0 ∧ j = 8) → C'.1 c j = C.1 c j) (hC2 : ∀ c j, 24 ≤ c → c < 54 → C'.2.1 c j = C.2.1 c j) (h08 : C'.1 0 8 = nI nf') (hN : ∀ j, j < 386 → j ≠ 2 → (j < 254 ∨ 266 ≤ j) → N' j = N j) (n2 : N' 2 = nI nf') (hf' : nf' ≤ 12) (hF' : V_f C' N' nf') : V_all C' N' nl nb nf' nw hz dy := by
  obtain ⟨⟨h0, h1, h2, h3, h4, h5, h6⟩, hL, hB, hF, hW, hD⟩ := hV
  have vl : ∀ c j, 24 ≤ c → c < 54 → vr c j = true := fun c j a b => by simp [vr, a, b]
  have vw : ∀ c j, 8 ≤ c → c ≤ 13 → vr c j = true := fun c j a b => by simp [vr, a, b]
  refine ⟨⟨by omega, ?_, ?_, ⟨h08, n2⟩, ?_, ?_, ?_⟩, ?_, ?_, hF', ?_, ?_⟩
  · rw [hC 0 2 rfl (by omega) (by omega), hN 0 (by omega) (by omega) (by omega)]; exact h1
  · rw [hC 0 6 rfl (by omega) (by omega), hN 1 (by omega) (by omega) (by omega)]; exact h2
  · rw [hC 7 0 rfl (by omega) (by omega), hN 3 (by omega) (by omega) (by omega)]; exact h4
  · rw [hC 0 3 rfl (by omega) (by omega), hN 4 (by omega) (by omega) (by omega)]; exact h5
  · rw [hC 0 4 rfl (by omega) (by omega), hN 5 (by omega) (by omega) (by omega)]; exact h6
  · intro l' hl'
    exact V_l_cong (fun j => hC _ _ (vl _ _ (by omega) (by omega)) (by omega) (by omega)) (fun j => hC _ _ (vl _ _ (by omega) (by omega)) (by omega) (by omega)) (hC2 _ _ (by omega) (by omega)) (fun j => hC2 _ _ (by omega) (by omega)) (fun g hg => hN _ (by omega) (by omega) (by omega)) (hL l' hl')
  · intro b hb'
    exact V_b_cong (hC _ _ rfl (by omega) (by omega)) (fun g hg => hN _ (by omega) (by omega) (by omega)) (hB b (by omega))
  · intro w hw'
    exact V_w_cong (fun c a b => hC _ _ (vw _ _ a (by omega)) (by omega) (by omega)) (fun g hg => hN _ (by omega) (by omega) (by omega)) (hW w (by omega))
  · intro d hd
    exact V_d_cong (hC _ _ (vw _ _ (by omega) (by omega)) (by omega) (by omega)) (hN _ (by omega) (by omega) (by omega)) (hD d hd)
theorem place7 {C : aSc} {nf : Nat} (hn : nf ≤ 12) (h : C.1 0 8 = nI nf) (x : Int32) : (∃ i, i < nf ∧ C.1 5 i = x ∧ f_X7_placeInFairway x C = some (nI i)) ∨ (¬ mb (C.1 5) nf x ∧ f_X7_placeInFairway x C = some (-1)) := by
  have g : a_gi C 0 8 = nI nf := h
  have hl : a_len 5 (C.2.2 5) = 12 := rfl
  obtain ⟨b, h1, h2⟩ := lpf_ct (body := fun a : Int32 => b_X7_placeInFairway_2 x a C) (fun i (_ : Unit) => nI i) (fun i _ => ∀ j, j < i → C.1 5 j ≠ x) nf (Q := fun b => match b with | .inl _ => ∀ j, j < nf → C.1 5 j ≠ x | .inr v => ∃ i, i < nf ∧ v = nI i ∧ C.1 5 i = x) (by
    intro _ hI
    refine ⟨.inl (), ?_, hI⟩
    show b_X7_placeInFairway_2 x (nI nf) C = _
    rw [b_X7_placeInFairway_2, g, if_pos (Int32.le_refl _)]) (by
    intro i _ hi hI
    have hb : b_X7_placeInFairway_2 x (nI i) C = if C.1 5 i = x then some (.inr (.inr (nI i))) else some (.inl (nI (i + 1))) := by
      rw [b_X7_placeInFairway_2, g, if_neg (fun z => by have := (nI_leI (by omega) (by omega)).mp z; omega), a_ldN (by omega) (by omega), Option.bind_some, nI_1]
    by_cases c : C.1 5 i = x
    · exact Or.inr ⟨.inr (nI i), hb.trans (if_pos c), i, hi, rfl, c⟩
    · refine Or.inl ⟨(), hb.trans (if_neg c), fun j hj => ?_⟩
      by_cases e : j = i
      · subst e; exact c
      · exact hI j (by omega)) FU 0 () (by omega) (fun j hj => absurd hj (by omega)) (FU_lt (by omega))
  rw [show (nI 0) = (0 : Int32) from rfl] at h1
  rcases b with _ | v
  · refine Or.inr ⟨?_, ?_⟩
    · rintro ⟨i, hi, e⟩; exact h2 i hi e
    · rw [f_X7_placeInFairway, h1, Option.bind_some]; rfl
  · obtain ⟨i, hi, e, e2⟩ := h2
    refine Or.inl ⟨i, hi, e2, ?_⟩
    rw [f_X7_placeInFairway, h1, Option.bind_some, e]; rfl
theorem place8 {M : aMm} {nf : Nat} (hn : nf ≤ 12) (x x2 : Int32) : (∃ i, i < nf ∧ M 1 (254 + i) = x ∧ lpf (fun a : Int32 => b_X8_fairway_24 x x2 (nI nf) a M) FU (0 : Int32) = some (nI i)) ∨ (¬ mb (nfr (M 1)) nf x ∧ lpf (fun a : Int32 => b_X8_fairway_24 x x2 (nI nf) a M) FU (0 : Int32) = some (nI nf)) := by
  have hl : a_len (94 + 1) 0 = 386 := rfl
  obtain ⟨b, h1, h2⟩ := lpf_ct (body := fun a : Int32 => b_X8_fairway_24 x x2 (nI nf) a M) (fun i (_ : Unit) => nI i) (fun i _ => ∀ j, j < i → M 1 (254 + j) ≠ x) nf (Q := fun b => (b = nI nf ∧ ∀ j, j < nf → M 1 (254 + j) ≠ x) ∨ ∃ i, i < nf ∧ b = nI i ∧ M 1 (254 + i) = x) (by
    intro _ hI
    refine ⟨nI nf, ?_, Or.inl ⟨rfl, hI⟩⟩
    show b_X8_fairway_24 x x2 (nI nf) (nI nf) M = _
    rw [b_X8_fairway_24, if_pos (Int32.le_refl _)]) (by
    intro i _ hi hI
    have hb : b_X8_fairway_24 x x2 (nI nf) (nI i) M = if M 1 (254 + i) = x then some (.inr (nI i)) else some (.inl (nI (i + 1))) := by
      have ea : (254 : Int32) + nI i = nI (254 + i) := nI_add 254 i
      rw [b_X8_fairway_24, if_neg (fun z => by have := (nI_leI (by omega) (by omega)).mp z; omega), ea, m_ldN (by omega) (by omega), Option.bind_some, nI_1]
    by_cases c : M 1 (254 + i) = x
    · exact Or.inr ⟨nI i, hb.trans (if_pos c), Or.inr ⟨i, hi, rfl, c⟩⟩
    · refine Or.inl ⟨(), hb.trans (if_neg c), fun j hj => ?_⟩
      by_cases e : j = i
      · subst e; exact c
      · exact hI j (by omega)) FU 0 () (by omega) (fun j hj => absurd hj (by omega)) (FU_lt (by omega))
  rw [show (nI 0) = (0 : Int32) from rfl] at h1
  rcases h2 with ⟨e, h2⟩ | ⟨i, hi, e, e2⟩
  · refine Or.inr ⟨?_, by rw [h1, e]⟩
    rintro ⟨i, hi, e⟩; exact h2 i hi e
  · exact Or.inl ⟨i, hi, e2, by rw [h1, e]⟩
/-- the class's list becomes that of the new row -/
theorem setF {C : aSc} {N N' : Nat → Int32} {nl nb nf nf' nw hz dy c : Nat} {is : Int32} (hV : V_all C N nl nb nf nw hz dy) (hc : c < 256) (z : is = 0 ∨ is = 1) (hN : ∀ j, j < 386 → j ≠ 2 → (j < 254 ∨ 266 ≤ j) → N' j = N j) (n2 : N' 2 = nI nf') (hf' : nf' ≤ 12) (b' : bd (nfr N') nf') (i' : ij (nfr N') nf') (mem1 : is = 1 → ∀ y, mb (nfr N') nf' y ↔ mb (nfr N) nf y ∨ y = nI c) (mem0 : is = 0 → ∀ y, mb (nfr N') nf' y ↔ mb (nfr N) nf y ∧ y ≠ nI c) : ∃ C', f_X7_setFairway (nI c) is C = some C' ∧ V_all C' N' nl nb nf' nw hz dy ∧ (∀ c j, vr c j = false → C'.1 c j = C.1 c j) ∧ C'.2 = C.2 := by
  have h0 := hV.1.1
  have h8 : C.1 0 8 = nI nf := hV.1.2.2.2.1.1
  have g8 : a_gi C 0 8 = nI nf := h8
  obtain ⟨v1, v2, v3, v4, v5⟩ := V_f_of hV.2.2.2.1
  have hl : ∀ C' : aSc, a_len 5 (C'.2.2 5) = 12 := fun _ => rfl
  rcases place7 (by omega) h8 (nI c) with ⟨i, hi, e, hp⟩ | ⟨hx, hp⟩
  · have hmem : mb (nfr N) nf (nI c) := (v5 _).mp ⟨i, hi, e⟩
    rcases z with rfl | rfl
    · -- taken out
      obtain ⟨n, rfl⟩ : ∃ n, nf = n + 1 := ⟨nf - 1, by omega⟩
      have hg : ∀ k, k < n → (a_pi (a_pi C 0 8 (nI n)) 5 i (C.1 5 n)).1 5 k = if k = i then C.1 5 n else C.1 5 k := by
        intro k hk
        by_cases ek : k = i
        · subst ek; rw [a_pi_at, if_pos rfl]
        · rw [a_pi_ne (by omega), a_pi_ne (by omega), if_neg ek]
      have hm : ∀ y, mb ((a_pi (a_pi C 0 8 (nI n)) 5 i (C.1 5 n)).1 5) n y ↔ mb (nfr N') nf' y := fun y => by
        rw [rem_mb v3 hi e hg y, mem0 rfl y, v5 y]
      obtain ⟨en, hF⟩ := V_f_mk (rem_bd v1 hg) b' (rem_ij v3 hg) i' hm
      subst en
      refine ⟨a_pi (a_pi C 0 8 (nI n)) 5 i (C.1 5 n), ?_, V_fair hV (fun c j _ h1 h2 => by rw [a_pi_ne (by omega), a_pi_ne h2]) (fun _ _ _ _ => rfl) (by rw [a_pi_ne (by omega), a_pi_at]) hN n2 hf' hF, fun c j h => ?_, rfl⟩
      · have g3 : a_gi (a_pi C 0 8 (nI n)) 0 8 = nI n := a_pi_at
        rw [f_X7_setFairway, hp, Option.bind_some, if_pos (by decide), g_X7_setFairway_43, if_pos (by decide), if_neg (nI_pos (by omega)), g8, nI_pred, Option.bind_some, g3, a_ldN (by rw [hl]; omega) (by omega), Option.bind_some, a_stN (by rw [hl]; omega) (by omega), Option.bind_some, a_pi_ne (by omega)]
      · have := vr_t h
        rw [a_pi_ne (by omega), a_pi_ne (by omega)]
    · -- it is in
      have hm : ∀ y, mb (C.1 5) nf y ↔ mb (nfr N') nf' y := fun y => by
        rw [mem1 rfl y, v5 y]
        exact ⟨Or.inl, fun h => h.elim id (fun h => by rw [h]; exact hmem)⟩
      obtain ⟨en, hF⟩ := V_f_mk v1 b' v3 i' hm
      subst en
      refine ⟨C, ?_, V_fair hV (fun _ _ _ _ _ => rfl) (fun _ _ _ _ => rfl) h8 hN n2 hf' hF, fun _ _ _ => rfl, rfl⟩
      rw [f_X7_setFairway, hp, Option.bind_some, if_neg (by decide), if_pos (nI_pos' (by omega)), g_X7_setFairway_43, if_neg (by decide)]
  · have hx' : ¬ mb (nfr N) nf (nI c) := fun h => hx ((v5 _).mpr h)
    rcases z with rfl | rfl
    · -- it is out
      have hm : ∀ y, mb (C.1 5) nf y ↔ mb (nfr N') nf' y := fun y => by
        rw [mem0 rfl y, v5 y]
        exact ⟨fun h => ⟨h, fun e => hx' (by rw [← e]; exact h)⟩, fun h => h.1⟩
      obtain ⟨en, hF⟩ := V_f_mk v1 b' v3 i' hm
      subst en
      refine ⟨C, ?_, V_fair hV (fun _ _ _ _ _ => rfl) (fun _ _ _ _ => rfl) h8 hN n2 hf' hF, fun _ _ _ => rfl, rfl⟩
      rw [f_X7_setFairway, hp, Option.bind_some, if_pos (by decide), g_X7_setFairway_43, if_pos (by decide), if_pos (by decide)]
    · -- put in
      have hg : ∀ k, k < nf → (a_pi (a_pi C 5 nf (nI c)) 0 8 (nI (nf + 1))).1 5 k = C.1 5 k := by
        intro k hk
        rw [a_pi_ne (by omega), a_pi_ne (by omega)]
      have hgn : (a_pi (a_pi C 5 nf (nI c)) 0 8 (nI (nf + 1))).1 5 nf = nI c := by rw [a_pi_ne (by omega), a_pi_at]
      have hm : ∀ y, mb ((a_pi (a_pi C 5 nf (nI c)) 0 8 (nI (nf + 1))).1 5) (nf + 1) y ↔ mb (nfr N') nf' y := fun y => by
        rw [app_mb hg hgn y, mem1 rfl y, v5 y]
      obtain ⟨en, hF⟩ := V_f_mk (app_bd v1 hc hg hgn) b' (app_ij v3 hx hg hgn) i' hm
      subst en
      refine ⟨a_pi (a_pi C 5 nf (nI c)) 0 8 (nI (nf + 1)), ?_, V_fair hV (fun c j _ h1 h2 => by rw [a_pi_ne h2, a_pi_ne (by omega)]) (fun _ _ _ _ => rfl) a_pi_at hN n2 hf' hF, fun c j h => ?_, rfl⟩
      · have g3 : a_gi (a_pi C 5 nf (nI c)) 0 8 = nI nf := by
          show (a_pi C 5 nf (nI c)).1 0 8 = _
          rw [a_pi_ne (by omega)]; exact h8
        rw [f_X7_setFairway, hp, Option.bind_some, if_neg (by decide), if_neg (by decide), g8, if_neg (show ¬ (12 : Int32) ≤ nI nf from fun z => by have := (nI_leI (a := 12) (by omega) (by omega)).mp z; omega), a_stN (by rw [hl]; omega) (by omega), Option.bind_some, g3, nI_1, Option.bind_some, g_X7_setFairway_43, if_neg (by decide)]
      · have := vr_t h
        rw [a_pi_ne (by omega), a_pi_ne (by omega)]
theorem Bk_fair {No Nn : Nat → Int32} {nfo nfn c : Nat} {was : Int32} (hc : c < 256) (z : was = 0 ∨ was = 1) (hN : ∀ j, j < 386 → j ≠ 2 → (j < 254 ∨ 266 ≤ j) → Nn j = No j) (n2 : No 2 = nI nfo) (hf' : nfo ≤ 12) (b' : bd (nfr No) nfo) (i' : ij (nfr No) nfo) (nn : Nn 2 = nI nfn) (hfn : nfn ≤ 12) (mem1 : was = 1 → ∀ y, mb (nfr No) nfo y ↔ mb (nfr Nn) nfn y ∨ y = nI c) (mem0 : was = 0 → ∀ y, mb (nfr No) nfo y ↔ mb (nfr Nn) nfn y ∧ y ≠ nI c) (row : Nat → Int32) : Bk 7 (nI c) was row Nn No := by
  rintro C p hp e0 e1 e2 e3 ⟨nl, nb, nf, nw, hz, dy, hV⟩
  have hnf : nf = nfn := by
    have g1 := hV.1.2.2.2.1.2
    rw [nn] at g1
    exact ((nI_eq (by omega) (by have := hV.1.1.2.2.1; omega)).mp g1).symm
  subst hnf
  obtain ⟨C', s1, s2, s3, s4⟩ := setF hV hc z (fun j a b d => (hN j a b d).symm) n2 hf' b' i' mem1 mem0
  refine ⟨C', ?_, ⟨nl, nb, nfo, nw, hz, dy, s2⟩, s3, s4⟩
  have g0 : a_gi C p 0 = 7 := e0
  have g1 : a_gi C p 1 = nI c := e1
  have g2 : a_gi C p 2 = was := e2
  rw [f_X7_takeBack, g0, g1, g2, if_neg (by decide), if_neg (by decide), if_neg (by decide), if_neg (by decide), if_neg (by decide), if_neg (by decide), if_neg (by decide), if_pos (by decide)]
  rcases z with rfl | rfl
  · rw [if_neg (by decide), s1, Option.bind_some]
  · rw [if_pos (by decide), s1, Option.bind_some]

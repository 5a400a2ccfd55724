/-! THE LANDINGS: numbers alone -/
def sm (f : Nat → Nat) : Nat → Nat
  | 0 => 0
  | n + 1 => sm f n + f n
theorem sm_le {f g : Nat → Nat} : ∀ {n : Nat}, (∀ i, i < n → f i ≤ g i) → sm f n ≤ sm g n
  | 0, _ => Nat.le_refl _
  | n + 1, h => Nat.add_le_add (sm_le (n := n) fun i hi => h i (Nat.lt_succ_of_lt hi)) (h n (Nat.lt_succ_self n))
theorem sm_eq {f g : Nat → Nat} : ∀ {n : Nat}, (∀ i, i < n → f i = g i) → sm f n = sm g n
  | 0, _ => rfl
  | n + 1, h => by
    show sm f n + f n = sm g n + g n
    rw [sm_eq (n := n) fun i hi => h i (Nat.lt_succ_of_lt hi), h n (Nat.lt_succ_self n)]
theorem sm_add (f g : Nat → Nat) : ∀ n, sm (fun i => f i + g i) n = sm f n + sm g n
  | 0 => rfl
  | n + 1 => by
    show sm (fun i => f i + g i) n + (f n + g n) = (sm f n + f n) + (sm g n + g n)
    rw [sm_add f g n]; omega
theorem sm_10 {f : Nat → Nat} : ∀ {n : Nat}, (∀ i, i < n → f i ≤ 10) → sm f n ≤ 10 * n
  | 0, _ => Nat.le_refl _
  | n + 1, h => by
    have h1 := sm_10 (n := n) fun i hi => h i (Nat.lt_succ_of_lt hi)
    have h2 := h n (Nat.lt_succ_self n)
    show sm f n + f n ≤ _
    omega
theorem sm_up {f : Nat → Nat} {m : Nat} : ∀ {n : Nat}, m ≤ n → sm f m ≤ sm f n
  | 0, h => by have : m = 0 := by omega
               subst this; exact Nat.le_refl _
  | n + 1, h => by
    by_cases e : m = n + 1
    · subst e; exact Nat.le_refl _
    · have := sm_up (f := f) (m := m) (n := n) (by omega)
      show _ ≤ sm f n + f n
      omega
theorem sm_range (f : Nat → Nat) : ∀ n, ((List.range n).map f).sum = sm f n
  | 0 => rfl
  | n + 1 => by
    have ih := sm_range f n
    show _ = sm f n + f n
    rw [← ih]
    simp [List.range_succ]
theorem fm_ok (p : Nat → Bool) (f : Nat → Nat) : ∀ (L : List Nat) (b : Nat), (L.foldl (fun best l => if p l then min best (f l) else best) b ≤ b) ∧ (∀ l, l ∈ L → p l = true → L.foldl (fun best l => if p l then min best (f l) else best) b ≤ f l) ∧ (L.foldl (fun best l => if p l then min best (f l) else best) b = b ∨ ∃ l, l ∈ L ∧ p l = true ∧ L.foldl (fun best l => if p l then min best (f l) else best) b = f l)
  | [], b => ⟨Nat.le_refl _, fun l h => absurd h (by simp), Or.inl rfl⟩
  | a :: L, b => by
    rw [List.foldl_cons]
    by_cases ha : p a = true
    · rw [if_pos ha]
      obtain ⟨h1, h2, h3⟩ := fm_ok p f L (min b (f a))
      refine ⟨by omega, ?_, ?_⟩
      · intro l hl hp
        rcases List.mem_cons.mp hl with rfl | hl
        · omega
        · exact h2 l hl hp
      · rcases h3 with h | ⟨l, q1, q2, q3⟩
        · by_cases hb : b ≤ f a
          · exact Or.inl (by omega)
          · exact Or.inr ⟨a, by simp, ha, by omega⟩
        · exact Or.inr ⟨l, List.mem_cons_of_mem _ q1, q2, q3⟩
    · rw [if_neg ha]
      obtain ⟨h1, h2, h3⟩ := fm_ok p f L b
      refine ⟨h1, ?_, ?_⟩
      · intro l hl hp
        rcases List.mem_cons.mp hl with rfl | hl
        · exact absurd hp ha
        · exact h2 l hl hp
      · rcases h3 with h | ⟨l, q1, q2, q3⟩
        · exact Or.inl h
        · exact Or.inr ⟨l, List.mem_cons_of_mem _ q1, q2, q3⟩
theorem S_le_s (N : Nat → Int32) (k s : Nat) : S_le N (k + 1) s ≤ S_le N k s ∧ (∀ l, l < S_n N 0 → s.testBit l = false → S_la N l (19 - k) = true → S_le N (k + 1) s ≤ S_ov N l (19 - k) + S_le N k (s ||| 2 ^ l)) ∧ (S_le N (k + 1) s = S_le N k s ∨ ∃ l, l < S_n N 0 ∧ s.testBit l = false ∧ S_la N l (19 - k) = true ∧ S_le N (k + 1) s = S_ov N l (19 - k) + S_le N k (s ||| 2 ^ l)) := by
  obtain ⟨h1, h2, h3⟩ := fm_ok (fun l => !s.testBit l && S_la N l (19 - k)) (fun l => S_ov N l (19 - k) + S_le N k (s ||| 2 ^ l)) (List.range (S_n N 0)) (S_le N k s)
  refine ⟨h1, fun l a b c => h2 l (List.mem_range.mpr a) (by simp [b, c]), ?_⟩
  rcases h3 with h | ⟨l, a, b, c⟩
  · exact Or.inl h
  · have b2 : (!s.testBit l && S_la N l (19 - k)) = true := b
    rw [Bool.and_eq_true] at b2
    exact Or.inr ⟨l, List.mem_range.mp a, by simpa using b2.1, b2.2, c⟩
theorem S_re_sm (N : Nat → Int32) (s : Nat) : S_re N s = sm (fun l => if S_rk N l && !s.testBit l then S_ov N l 20 else 0) (S_n N 0) := sm_range _ _
theorem S_re_mono {N : Nat → Int32} {l s : Nat} (h : S_ov N l 20 = 0) : S_re N s ≤ S_re N (s ||| 2 ^ l) := by
  rw [S_re_sm, S_re_sm]
  refine sm_le fun i _ => ?_
  show (if S_rk N i && !s.testBit i then S_ov N i 20 else 0) ≤ (if S_rk N i && !(s ||| 2 ^ l).testBit i then S_ov N i 20 else 0)
  by_cases e : i = l
  · subst e; rw [h]; simp
  · have : (s ||| 2 ^ l).testBit i = s.testBit i := by rw [Nat.testBit_or, Nat.testBit_two_pow_of_ne (Ne.symm e), Bool.or_false]
    rw [this]
    exact Nat.le_refl _
theorem S_le_mono {N : Nat → Int32} {l : Nat} (h : S_ov N l 20 = 0) : ∀ k s, S_le N k s ≤ S_le N k (s ||| 2 ^ l)
  | 0, s => S_re_mono h
  | k + 1, s => by
    obtain ⟨a1, a2, _⟩ := S_le_s N k s
    rcases (S_le_s N k (s ||| 2 ^ l)).2.2 with e | ⟨l', b1, b2, b3, e⟩
    · have := S_le_mono h k s; omega
    · rw [Nat.testBit_or, Bool.or_eq_false_iff] at b2
      have h1 := a2 l' b1 b2.1 b3
      have h2 := S_le_mono h k (s ||| 2 ^ l')
      have h3 : s ||| 2 ^ l' ||| 2 ^ l = s ||| 2 ^ l ||| 2 ^ l' := by rw [Nat.or_assoc, Nat.or_comm (2 ^ l'), ← Nat.or_assoc]
      rw [h3] at h2
      omega
theorem S_ov_10 (N : Nat → Int32) {l d : Nat} (h : d ≤ 20) : S_ov N l d ≤ 10 := by unfold S_ov; omega
theorem S_ov_up (N : Nat → Int32) {l d : Nat} (h : d ≤ 20) : S_ov N l d ≤ S_ov N l 20 := by unfold S_ov; omega
theorem S_le_re (N : Nat → Int32) : ∀ k s, S_le N k s ≤ S_re N s
  | 0, _ => Nat.le_refl _
  | k + 1, s => Nat.le_trans (S_le_s N k s).1 (S_le_re N k s)
theorem S_re_bd {N : Nat → Int32} (h : S_n N 0 ≤ 10) (s : Nat) : S_re N s ≤ 100 := by
  rw [S_re_sm]
  have := sm_10 (f := fun l => if S_rk N l && !s.testBit l then S_ov N l 20 else 0) (n := S_n N 0) (fun i _ => by
    show (if S_rk N i && !s.testBit i then S_ov N i 20 else 0) ≤ 10
    have := S_ov_10 N (l := i) (d := 20) (by omega)
    split <;> omega)
  omega
theorem S_le_bd {N : Nat → Int32} (h : S_n N 0 ≤ 10) (k s : Nat) : S_le N k s ≤ 100 := Nat.le_trans (S_le_re N k s) (S_re_bd h s)
/-- a light for which a landing can spare a day -/
def pkB (N : Nat → Int32) (dy l : Nat) : Bool := S_rk N l && !decide (S_ov N l 20 = 0) && (List.range 20).any (fun d => decide (dy ≤ d ∧ S_n N (366 + d) ≤ S_n N (10 + 22 * l + 9)))
theorem pk_no {N : Nat → Int32} {dy l d : Nat} (hd : dy ≤ d) (hd' : d < 20) (h : S_la N l d = true) (hp : pkB N dy l = false) : S_ov N l 20 = 0 := by
  refine Decidable.byContradiction fun z => ?_
  unfold S_la at h
  rw [Bool.and_eq_true, Bool.and_eq_true] at h
  have h3 := of_decide_eq_true h.2
  have : pkB N dy l = true := by
    rw [pkB, h.1.2, decide_eq_false z, List.any_eq_true.mpr ⟨d, List.mem_range.mpr hd', decide_eq_true ⟨hd, h3⟩⟩]; rfl
  rw [this] at hp
  exact absurd hp (by decide)
theorem pk_rk {N : Nat → Int32} {dy l : Nat} (h : pkB N dy l = true) : S_rk N l = true := by
  rw [pkB, Bool.and_eq_true, Bool.and_eq_true] at h
  exact h.1.1
/-! which of the lights are in a set of those picked -/
def exS (p : Nat → Bool) (s : Nat) : Nat → Nat
  | 0 => 0
  | n + 1 => if p n && s.testBit (fa_cnt p n) then exS p s n ||| 2 ^ n else exS p s n
theorem exS_bit (p : Nat → Bool) (s : Nat) : ∀ n j, (exS p s n).testBit j = (decide (j < n) && (p j && s.testBit (fa_cnt p j)))
  | 0, j => by
    show (0 : Nat).testBit j = _
    rw [Nat.zero_testBit]; simp
  | n + 1, j => by
    have ih := exS_bit p s n j
    show (if p n && s.testBit (fa_cnt p n) then exS p s n ||| 2 ^ n else exS p s n).testBit j = _
    by_cases e : j = n
    · subst e
      by_cases h : (p j && s.testBit (fa_cnt p j)) = true
      · rw [if_pos h, Nat.testBit_or, Nat.testBit_two_pow_self, h]; simp
      · rw [if_neg h, ih, Bool.eq_false_iff.mpr h]; simp
    · have e2 : decide (j < n + 1) = decide (j < n) := decide_eq_decide.mpr (by omega)
      rw [e2]
      split
      · rw [Nat.testBit_or, Nat.testBit_two_pow_of_ne (Ne.symm e), Bool.or_false, ih]
      · exact ih
theorem exS_lt (p : Nat → Bool) (s n : Nat) : exS p s n < 2 ^ n := Nat.lt_pow_two_of_testBit _ (fun i hi => by rw [exS_bit, decide_eq_false (by omega)]; rfl)
theorem exS_0 (p : Nat → Bool) (n : Nat) : exS p 0 n = 0 := by
  refine Nat.eq_of_testBit_eq fun j => ?_
  rw [exS_bit, Nat.zero_testBit, Nat.zero_testBit]; simp
theorem cnt_mono {p : Nat → Bool} {a : Nat} : ∀ {b : Nat}, a ≤ b → fa_cnt p a ≤ fa_cnt p b
  | 0, h => by have : a = 0 := by omega
               subst this; exact Nat.le_refl _
  | b + 1, h => by
    by_cases e : a = b + 1
    · subst e; exact Nat.le_refl _
    · have := cnt_mono (p := p) (a := a) (b := b) (by omega)
      show _ ≤ fa_cnt p b + _
      omega
theorem cnt_st {p : Nat → Bool} {a b : Nat} (h : a < b) (hp : p a = true) : fa_cnt p a < fa_cnt p b := by
  have := cnt_mono (p := p) (show a + 1 ≤ b from h)
  rw [fa_cnt_yes hp] at this
  omega
theorem cnt_inj {p : Nat → Bool} {a b : Nat} (ha : p a = true) (hb : p b = true) (e : fa_cnt p a = fa_cnt p b) : a = b := by
  rcases Nat.lt_trichotomy a b with h | h | h
  · have := cnt_st h ha; omega
  · exact h
  · have := cnt_st h hb; omega
theorem cnt_get {p : Nat → Bool} : ∀ {n i : Nat}, i < fa_cnt p n → ∃ l, l < n ∧ p l = true ∧ fa_cnt p l = i
  | 0, i, h => absurd h (Nat.not_lt_zero _)
  | n + 1, i, h => by
    by_cases hp : p n = true
    · rw [fa_cnt_yes hp] at h
      by_cases e : i = fa_cnt p n
      · exact ⟨n, by omega, hp, e.symm⟩
      · obtain ⟨l, a, b⟩ := cnt_get (p := p) (n := n) (i := i) (by omega)
        exact ⟨l, by omega, b⟩
    · rw [fa_cnt_no (Bool.eq_false_iff.mpr hp)] at h
      obtain ⟨l, a, b⟩ := cnt_get (p := p) (n := n) (i := i) h
      exact ⟨l, by omega, b⟩
theorem exS_or {p : Nat → Bool} {s n l : Nat} (hl : l < n) (hp : p l = true) : exS p (s ||| 2 ^ fa_cnt p l) n = exS p s n ||| 2 ^ l := by
  refine Nat.eq_of_testBit_eq fun j => ?_
  rw [exS_bit, Nat.testBit_or, Nat.testBit_or, exS_bit, Nat.testBit_two_pow, Nat.testBit_two_pow]
  by_cases e : j = l
  · subst e; simp [hl, hp]
  · have h2 : decide (l = j) = false := decide_eq_false (fun z => e z.symm)
    rw [h2, Bool.or_false]
    by_cases hj : p j = true
    · have : decide (fa_cnt p l = fa_cnt p j) = false := decide_eq_false (fun z => e (cnt_inj hj hp z.symm))
      rw [this, Bool.or_false]
    · rw [Bool.eq_false_iff.mpr hj]; simp
theorem sm_cnt (p : Nat → Bool) (g : Nat → Nat) : ∀ n, sm g (fa_cnt p n) = sm (fun l => if p l then g (fa_cnt p l) else 0) n
  | 0 => rfl
  | n + 1 => by
    have ih := sm_cnt p g n
    show _ = sm (fun l => if p l then g (fa_cnt p l) else 0) n + (if p n then g (fa_cnt p n) else 0)
    by_cases hp : p n = true
    · rw [fa_cnt_yes hp, if_pos hp, ← ih]; rfl
    · rw [fa_cnt_no (Bool.eq_false_iff.mpr hp), if_neg hp, ih]; rfl
def S_oth (N : Nat → Int32) (dy n : Nat) : Nat := sm (fun l => if S_rk N l && !pkB N dy l then S_ov N l 20 else 0) n
theorem S_base {N : Nat → Int32} {dy s : Nat} {g : Nat → Nat} (hg : ∀ l, l < S_n N 0 → pkB N dy l = true → g (fa_cnt (pkB N dy) l) = if s.testBit (fa_cnt (pkB N dy) l) then 0 else S_ov N l 20) : S_le N 0 (exS (pkB N dy) s (S_n N 0)) = S_oth N dy (S_n N 0) + sm g (fa_cnt (pkB N dy) (S_n N 0)) := by
  show S_re N _ = _
  rw [S_re_sm, sm_cnt, S_oth, ← sm_add]
  refine sm_eq fun l hl => ?_
  show (if S_rk N l && !(exS (pkB N dy) s (S_n N 0)).testBit l then S_ov N l 20 else 0) = (if S_rk N l && !pkB N dy l then S_ov N l 20 else 0) + (if pkB N dy l then g (fa_cnt (pkB N dy) l) else 0)
  rw [exS_bit, decide_eq_true hl]
  by_cases hp : pkB N dy l = true
  · rw [if_pos hp, hg l hl hp, pk_rk hp, hp]
    by_cases hs : s.testBit (fa_cnt (pkB N dy) l) = true
    · rw [hs]; simp
    · rw [Bool.eq_false_iff.mpr hs]; simp
  · rw [Bool.eq_false_iff.mpr hp]; simp
theorem S_step {N : Nat → Int32} {dy k E X : Nat} (hd : dy + k ≤ 19) (a : X ≤ S_le N k E) (b : ∀ l, l < S_n N 0 → pkB N dy l = true → E.testBit l = false → S_la N l (19 - k) = true → X ≤ S_ov N l (19 - k) + S_le N k (E ||| 2 ^ l)) : (X = S_le N k E → S_le N (k + 1) E = X ∧ S_ch N k E = 10) ∧ (∀ l, l < S_n N 0 → pkB N dy l = true → E.testBit l = false → S_la N l (19 - k) = true → X = S_ov N l (19 - k) + S_le N k (E ||| 2 ^ l) → X < S_le N k E → (∀ l', l' < l → pkB N dy l' = true → E.testBit l' = false → S_la N l' (19 - k) = true → X < S_ov N l' (19 - k) + S_le N k (E ||| 2 ^ l')) → S_le N (k + 1) E = X ∧ S_ch N k E = l) := by
  obtain ⟨s1, s2, s3⟩ := S_le_s N k E
  have no : ∀ l, S_la N l (19 - k) = true → ¬ pkB N dy l = true → S_le N k E ≤ S_ov N l (19 - k) + S_le N k (E ||| 2 ^ l) := fun l hl hp => by
    have := S_le_mono (pk_no (d := 19 - k) (by omega) (by omega) hl (Bool.eq_false_iff.mpr hp)) k E
    omega
  have low : X ≤ S_le N (k + 1) E := by
    rcases s3 with e | ⟨l, b1, b2, b3, e⟩
    · omega
    · by_cases hp : pkB N dy l = true
      · have := b l b1 hp b2 b3; omega
      · have := no l b3 hp; omega
  refine ⟨fun e => ?_, fun l h1 h2 h3 h4 h5 h6 h7 => ?_⟩
  · have e2 : S_le N (k + 1) E = X := by omega
    refine ⟨e2, ?_⟩
    rw [S_ch, if_pos (by omega)]
  · have := s2 l h1 h3 h4
    have e2 : S_le N (k + 1) E = X := by omega
    refine ⟨e2, ?_⟩
    have hf : (List.range (S_n N 0)).find? (fun l => !E.testBit l && S_la N l (19 - k) && decide (S_ov N l (19 - k) + S_le N k (E ||| 2 ^ l) = S_le N (k + 1) E)) = some l := by
      refine List.find?_range_eq_some.mpr ⟨?_, List.mem_range.mpr h1, fun j hj => ?_⟩
      · rw [h3, h4, decide_eq_true (by omega)]; rfl
      · have : ¬ (!E.testBit j && S_la N j (19 - k) && decide (S_ov N j (19 - k) + S_le N k (E ||| 2 ^ j) = S_le N (k + 1) E)) = true := fun z => by
          rw [Bool.and_eq_true, Bool.and_eq_true] at z
          have z1 : E.testBit j = false := by simpa using z.1.1
          have z3 := of_decide_eq_true z.2
          by_cases hp : pkB N dy j = true
          · have := h7 j hj hp z1 z.1.2; omega
          · have := no j z.1.2 hp; omega
        rw [Bool.eq_false_iff.mpr this]; rfl
    rw [S_ch, if_neg (by omega), hf]; rfl
theorem S_ch_or (N : Nat → Int32) (k s : Nat) : (S_le N k s = S_le N (k + 1) s ∧ S_ch N k s = 10) ∨ (S_le N k s ≠ S_le N (k + 1) s ∧ ∃ l, l < S_n N 0 ∧ S_ch N k s = l ∧ s.testBit l = false ∧ S_la N l (19 - k) = true ∧ S_ov N l (19 - k) + S_le N k (s ||| 2 ^ l) = S_le N (k + 1) s ∧ ∀ j, j < l → ¬ (s.testBit j = false ∧ S_la N j (19 - k) = true ∧ S_ov N j (19 - k) + S_le N k (s ||| 2 ^ j) = S_le N (k + 1) s)) := by
  by_cases e : S_le N k s = S_le N (k + 1) s
  · exact Or.inl ⟨e, by rw [S_ch, if_pos e]⟩
  · refine Or.inr ⟨e, ?_⟩
    cases hf : (List.range (S_n N 0)).find? (fun l => !s.testBit l && S_la N l (19 - k) && decide (S_ov N l (19 - k) + S_le N k (s ||| 2 ^ l) = S_le N (k + 1) s)) with
    | none =>
      have h := List.find?_range_eq_none.mp hf
      rcases (S_le_s N k s).2.2 with e' | ⟨l, b1, b2, b3, e'⟩
      · exact absurd e'.symm e
      · have := h l b1
        rw [b2, b3, decide_eq_true e'.symm] at this
        exact absurd this (by decide)
    | some l =>
      obtain ⟨h1, h2, h3⟩ := List.find?_range_eq_some.mp hf
      rw [Bool.and_eq_true, Bool.and_eq_true] at h1
      refine ⟨l, List.mem_range.mp h2, by rw [S_ch, if_neg e, hf]; rfl, by simpa using h1.1.1, h1.1.2, of_decide_eq_true h1.2, fun j hj z => ?_⟩
      have := h3 j hj
      rw [z.1, z.2.1, decide_eq_true z.2.2] at this
      exact absurd this (by decide)
theorem S_st_lt (N : Nat → Int32) (h : S_n N 0 ≤ 10) (dy : Nat) : ∀ n, S_st N dy n < 2 ^ S_n N 0
  | 0 => Nat.two_pow_pos _
  | n + 1 => by
    have ih := S_st_lt N h dy n
    show (if S_ch N (19 - (dy + n)) (S_st N dy n) = 10 then S_st N dy n else S_st N dy n ||| 2 ^ S_ch N (19 - (dy + n)) (S_st N dy n)) < _
    rcases S_ch_or N (19 - (dy + n)) (S_st N dy n) with ⟨_, e⟩ | ⟨_, l, hl, e, _⟩
    · rw [if_pos e]; exact ih
    · rw [e, if_neg (by omega)]
      exact Nat.or_lt_two_pow ih (Nat.pow_lt_pow_right (by omega) hl)

/-! THE LANDINGS: the reference -/
def Ng (N : Nat → Int32) (nl dy : Nat) : Prop := (nl ≤ 10 ∧ dy ≤ 19) ∧ N 0 = nI nl ∧ N 5 = nI dy ∧ (∀ l, l < nl → ∃ kd si li, kd ≤ 3 ∧ si ≤ 19 ∧ li ≤ 9 ∧ N (10 + 22 * l) = nI kd ∧ N (10 + 22 * l + 8) = nI si ∧ N (10 + 22 * l + 9) = nI li) ∧ ∀ d, d < 20 → ∃ x, x ≤ 9 ∧ N (366 + d) = nI x
theorem S_n_of {N : Nat → Int32} {k x : Nat} (h : N k = nI x) (hx : x < 1000) : S_n N k = x := by
  unfold S_n
  rw [h, nI_clamp (by omega)]
theorem Ng_0 {N : Nat → Int32} {nl dy : Nat} (h : Ng N nl dy) : S_n N 0 = nl := S_n_of h.2.1 (by have := h.1.1; omega)
theorem Ng_5 {N : Nat → Int32} {nl dy : Nat} (h : Ng N nl dy) : S_n N 5 = dy := S_n_of h.2.2.1 (by have := h.1.2; omega)
theorem over_all : ∀ d, d < 21 → ∀ s, s < 20 → a_max 0 (nI d - nI s - 10) = nI (d - s - 10) := by decide +kernel
theorem rk_if {N : Nat → Int32} {l kd : Nat} (hk : kd ≤ 3) (h : N (10 + 22 * l) = nI kd) : (if kd = 1 ∨ kd = 3 then (1 : Int32) else 0) = if S_rk N l then 1 else 0 := by
  have e : S_n N (10 + 22 * l) = kd := S_n_of h (by omega)
  unfold S_rk
  rw [e]
  by_cases hc : kd = 1 ∨ kd = 3
  · rw [if_pos hc, decide_eq_true hc]; rfl
  · rw [if_neg hc, decide_eq_false hc]; rfl
theorem ld0 {M : aMm} {nl dy : Nat} (h : Ng (M 1) nl dy) : m_ld M 1 0 = some (nI nl) := by
  have := m_ldN (M := M) (m := 1) (k := 0) (by decide) (by decide)
  rw [h.2.1] at this
  exact this
theorem ld5 {M : aMm} {nl dy : Nat} (h : Ng (M 1) nl dy) : m_ld M 1 5 = some (nI dy) := by
  have := m_ldN (M := M) (m := 1) (k := 5) (by decide) (by decide)
  rw [h.2.2.1] at this
  exact this
theorem rock8 {M : aMm} {nl dy l : Nat} (h : Ng (M 1) nl dy) (hl : l < nl) : f_X8_isRock (nI l) M = some (if S_rk (M 1) l then 1 else 0) := by
  obtain ⟨kd, si, li, h1, h2, h3, e1, e2, e3⟩ := h.2.2.2.1 l hl
  rw [isRock8 (by have := h.1.1; omega) h1 e1, rk_if h1 e1]
theorem over8 {M : aMm} {nl dy l d : Nat} (h : Ng (M 1) nl dy) (hl : l < nl) (hd : d ≤ 20) : f_X8_overdueOf (nI l) (nI d) M = some (nI (S_ov (M 1) l d)) := by
  obtain ⟨kd, si, li, h1, h2, h3, e1, e2, e3⟩ := h.2.2.2.1 l hl
  have h10 := h.1.1
  have hlen : a_len (94 + 1) 0 = 386 := rfl
  rw [f_X8_overdueOf, show f_X8_of (nI l) 8 M = _ from of_nI (g := 8), Option.bind_some, m_ldN (by omega) (by omega), Option.bind_some, e2, over_all d (by omega) si (by omega), S_ov, S_n_of e2 (by omega)]
theorem light8 {M : aMm} {nl dy l : Nat} (h : Ng (M 1) nl dy) (hl : l < nl) : f_X8_isLight (nI l) M = some 1 := by
  have h10 := h.1.1
  have e : nI nl - 1 = nI (nl - 1) := pk_sub (a := nl) (b := 1) (by omega)
  rw [f_X8_isLight, ld0 h, Option.bind_some, e, show (0 : Int32) = nI 0 from rfl, within_in (by omega) (by omega) (by omega), Option.bind_some]
  rfl
theorem land8 {M : aMm} {nl dy l d : Nat} (h : Ng (M 1) nl dy) (hl : l < nl) (hd : d < 20) : f_X8_isLandable (nI l) (nI d) M = some (if S_la (M 1) l d then 1 else 0) := by
  obtain ⟨kd, si, li, h1, h2, h3, e1, e2, e3⟩ := h.2.2.2.1 l hl
  obtain ⟨x, hx, ex⟩ := h.2.2.2.2 d hd
  have h10 := h.1.1
  have hlen : a_len (94 + 1) 0 = 386 := rfl
  have ea : (366 : Int32) + nI d = nI (366 + d) := nI_add 366 d
  rw [f_X8_isLandable, light8 h hl, Option.bind_some, if_neg (by decide), rock8 h hl, Option.bind_some]
  have hS : S_la (M 1) l d = (S_rk (M 1) l && decide (x ≤ li)) := by
    unfold S_la
    rw [Ng_0 h, decide_eq_true hl, S_n_of ex (by omega), S_n_of e3 (by omega)]; rfl
  rw [hS]
  by_cases hr : S_rk (M 1) l = true
  · rw [hr, if_neg (by decide), ea, m_ldN (by omega) (by omega), Option.bind_some, show f_X8_of (nI l) 9 M = _ from of_nI (g := 9), Option.bind_some, m_ldN (by omega) (by omega), Option.bind_some, e3, ex]
    by_cases hc : x ≤ li
    · rw [if_neg (fun z => by have := (nI_ltI (by omega) (by omega)).mp z; omega), decide_eq_true hc]; rfl
    · rw [if_pos ((nI_ltI (by omega) (by omega)).mpr (by omega)), decide_eq_false hc]; rfl
  · rw [Bool.eq_false_iff.mpr hr, if_pos (by decide)]; rfl
theorem bit_0 {b : Bool} : (nI (if b then 1 else 0) = 0 ↔ b = false) ∧ (nI (if b then 1 else 0) = 1 ↔ b = true) := by
  cases b <;> decide
theorem rest8 {M : aMm} {nl dy s : Nat} (h : Ng (M 1) nl dy) (hs : s < 1024) : f_X8_restOf (nI s) M = some (nI (S_re (M 1) s)) := by
  have h10 := h.1.1
  obtain ⟨z, e1, q1⟩ := lpf_ct (body := fun a : Int32 × Int32 => b_X8_restOf_4 (nI s) a.1 a.2 M) (fun i x => (x, nI i)) (fun i x => x = nI (sm (fun l => if S_rk (M 1) l && !s.testBit l then S_ov (M 1) l 20 else 0) i)) nl (Q := fun x => x = nI (sm (fun l => if S_rk (M 1) l && !s.testBit l then S_ov (M 1) l 20 else 0) nl)) (by
    intro x hx
    refine ⟨x, ?_, hx⟩
    show b_X8_restOf_4 (nI s) x (nI nl) M = _
    rw [b_X8_restOf_4, ld0 h, Option.bind_some, if_pos (Int32.le_refl _)]) (by
    rintro i x hi rfl
    refine Or.inl ⟨_, ?_, rfl⟩
    have o20 : f_X8_overdueOf (nI i) 20 M = some (nI (S_ov (M 1) i 20)) := over8 h hi (d := 20) (by omega)
    show b_X8_restOf_4 (nI s) (nI (sm (fun l => if S_rk (M 1) l && !s.testBit l then S_ov (M 1) l 20 else 0) i)) (nI i) M = some (.inl (nI (sm (fun l => if S_rk (M 1) l && !s.testBit l then S_ov (M 1) l 20 else 0) i + (if S_rk (M 1) i && !s.testBit i then S_ov (M 1) i 20 else 0)), nI (i + 1)))
    generalize sm (fun l => if S_rk (M 1) l && !s.testBit l then S_ov (M 1) l 20 else 0) i = y
    rw [b_X8_restOf_4, ld0 h, Option.bind_some, if_neg (fun z => by have := (nI_leI (by omega) (by omega)).mp z; omega), rock8 h hi, Option.bind_some, bit8 (by omega) (by omega), o20, nI_1]
    by_cases hr : S_rk (M 1) i = true
    · rw [hr, if_neg (by decide)]
      by_cases hb : s.testBit i = true
      · rw [hb, if_neg (by decide)]
        exact congrArg (fun y => some (Sum.inl (y, nI (i + 1)))) (nI_add _ 0)
      · rw [Bool.eq_false_iff.mpr hb, if_pos (by decide), Option.bind_some, nI_add]; rfl
    · rw [Bool.eq_false_iff.mpr hr, if_pos (by decide)]
      exact congrArg (fun y => some (Sum.inl (y, nI (i + 1)))) (nI_add _ 0)) FU 0 0 (by omega) rfl (FU_lt (by omega))
  rw [show (nI 0) = (0 : Int32) from rfl] at e1
  rw [f_X8_restOf, e1, Option.bind_some, q1, S_re_sm, Ng_0 h]
/-- the table of a day -/
def Tb (M : aMm) (N : Nat → Int32) (nl d : Nat) : Prop := ∀ s, s < 2 ^ nl → M 8 (1024 * d + s) = nI (S_le N (20 - d) s)
theorem p10 {nl : Nat} (h : nl ≤ 10) : 2 ^ nl ≤ 1024 ∧ 1 ≤ 2 ^ nl := ⟨Nat.pow_le_pow_right (n := 2) (j := 10) (by omega) h, Nat.one_le_two_pow⟩
theorem ld8 {M : aMm} {N : Nat → Int32} {nl d s : Nat} (hn : nl ≤ 10) (hd : d ≤ 20) (hs : s < 2 ^ nl) (hT : Tb M N nl d) : m_ld M 8 (nI (1024 * d + s)) = some (nI (S_le N (20 - d) s)) := by
  have hlen : a_len (94 + 8) 0 = 21504 := rfl
  have := p10 hn
  rw [m_ldN (by omega) (by omega), hT s hs]
theorem or_in {s l n : Nat} (hs : s < 2 ^ n) (hl : l < n) : s ||| 2 ^ l < 2 ^ n := Nat.or_lt_two_pow hs (Nat.pow_lt_pow_right (by omega) hl)
theorem mul1024 (d s : Nat) : (1024 : Int32) * nI d + nI s = nI (1024 * d + s) := by
  rw [show (1024 : Int32) = nI 1024 from rfl, pk_mul, nI_add]
theorem by8 {M : aMm} {nl dy l d s : Nat} (h : Ng (M 1) nl dy) (hl : l < nl) (hd : d < 20) (hs : s < 2 ^ nl) (hT : Tb M (M 1) nl (d + 1)) : f_X8_byLanding (nI l) (nI d) (nI s) M = some (nI (S_ov (M 1) l d + S_le (M 1) (19 - d) (s ||| 2 ^ l))) := by
  have h10 := h.1.1
  rw [f_X8_byLanding, over8 h hl (by omega), Option.bind_some, nI_1, one_shl (by omega), fa_or, mul1024, ld8 h10 (by omega) (or_in hs hl) hT, Option.bind_some, nI_add, show 20 - (d + 1) = 19 - d from by omega]
theorem min_nI {a b : Nat} (ha : a < 2 ^ 31) (hb : b < 2 ^ 31) : a_min (nI a) (nI b) = nI (min a b) := by
  unfold a_min
  by_cases hc : b < a
  · rw [if_pos ((nI_ltI hb ha).mpr hc)]
    congr 1
    omega
  · rw [if_neg (fun z => hc ((nI_ltI hb ha).mp z))]
    congr 1
    omega
theorem in8 {M : aMm} {nl dy d s : Nat} (h : Ng (M 1) nl dy) (hd : d < 20) (hs : s < 2 ^ nl) (hT : Tb M (M 1) nl (d + 1)) (x1 : Int32) : lpf (fun a : Int32 × Int32 => b_X8_findLandings_76 x1 (nI d) (nI s) a.1 a.2 M) FU (nI (S_le (M 1) (19 - d) s), (0 : Int32)) = some (nI (S_le (M 1) (20 - d) s)) := by
  have h10 := h.1.1
  have hp := p10 h10
  have hb0 : S_n (M 1) 0 ≤ 10 := by rw [Ng_0 h]; exact h10
  obtain ⟨F, hF⟩ : ∃ F : Nat → Nat → Nat, F = (fun best l => if !s.testBit l && S_la (M 1) l d then min best (S_ov (M 1) l d + S_le (M 1) (19 - d) (s ||| 2 ^ l)) else best) := ⟨_, rfl⟩
  obtain ⟨z, e1, q1⟩ := lpf_ct (body := fun a : Int32 × Int32 => b_X8_findLandings_76 x1 (nI d) (nI s) a.1 a.2 M) (fun i x => (x, nI i)) (fun i x => x = nI ((List.range i).foldl F (S_le (M 1) (19 - d) s))) nl (Q := fun x => x = nI ((List.range nl).foldl F (S_le (M 1) (19 - d) s))) (by
    intro x hx
    refine ⟨x, ?_, hx⟩
    show b_X8_findLandings_76 x1 (nI d) (nI s) x (nI nl) M = _
    rw [b_X8_findLandings_76, ld0 h, Option.bind_some, if_pos (Int32.le_refl _)]) (by
    rintro i x hi rfl
    refine Or.inl ⟨_, ?_, rfl⟩
    have hle : (List.range i).foldl F (S_le (M 1) (19 - d) s) ≤ 100 := by
      have g1 := (fm_ok (fun l => !s.testBit l && S_la (M 1) l d) (fun l => S_ov (M 1) l d + S_le (M 1) (19 - d) (s ||| 2 ^ l)) (List.range i) (S_le (M 1) (19 - d) s)).1
      have g2 := S_le_bd hb0 (19 - d) s
      rw [hF]
      exact Nat.le_trans g1 g2
    have hr : (List.range (i + 1)).foldl F (S_le (M 1) (19 - d) s) = F ((List.range i).foldl F (S_le (M 1) (19 - d) s)) i := by
      rw [List.range_succ, List.foldl_append]; rfl
    rw [hr]
    generalize (List.range i).foldl F (S_le (M 1) (19 - d) s) = y at hle
    show b_X8_findLandings_76 x1 (nI d) (nI s) (nI y) (nI i) M = some (.inl (nI (F y i), nI (i + 1)))
    rw [b_X8_findLandings_76, ld0 h, Option.bind_some, if_neg (fun z => by have := (nI_leI (by omega) (by omega)).mp z; omega), bit8 (by omega) (by omega), land8 h hi hd, by8 h hi hd hs hT, nI_1, hF]
    have g1 := S_le_bd hb0 (19 - d) (s ||| 2 ^ i)
    have g2 := S_ov_10 (M 1) (l := i) (d := d) (by omega)
    by_cases hb : s.testBit i = true
    · rw [hb, if_neg (by decide)]; simp [hb]
    · rw [Bool.eq_false_iff.mpr hb, if_pos (by decide), Option.bind_some]
      by_cases hq : S_la (M 1) i d = true
      · rw [hq, if_neg (by decide), Option.bind_some, min_nI (by omega) (by omega)]; simp [hb, hq]
      · rw [Bool.eq_false_iff.mpr hq, if_pos (by decide)]; simp [hb, hq]) FU 0 _ (by omega) rfl (FU_lt (by omega))
  rw [show (nI 0) = (0 : Int32) from rfl] at e1
  refine (show lpf _ FU (nI (S_le (M 1) (19 - d) s), (0 : Int32)) = some z from e1).trans ?_
  rw [q1, show 20 - d = (19 - d) + 1 from by omega, S_le, Ng_0 h, hF, show 19 - (19 - d) = d from by omega]

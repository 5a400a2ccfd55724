theorem neg1 : ((-1 : Int32) < 0) ∧ ¬ (0 ≤ (-1 : Int32)) := by decide
/-- one set on one day -/
theorem back23 {C : aSc} {N : Nat → Int32} {nl dy k s n : Nat} (h : Ng N nl dy) (hk : dy + k ≤ 19) (hP : Pk C N nl dy) (hT : Td C N nl dy (19 - k)) (hs : s < 2 ^ fa_cnt (pkB N dy) nl) (hn : 2 ^ fa_cnt (pkB N dy) nl ≤ n) (h18 : C.2.2 18 = n) (hS : ∀ t, s ≤ t → t < 2 ^ fa_cnt (pkB N dy) nl → Cs C N nl dy k t) (x1 : Int32) : ∃ (c : Nat) (v : Int32), c ≤ 100 ∧ lpf (fun a : Int32 × Int32 × Int32 => b_X0_workBack_23 x1 (nI s) a.1 a.2.1 a.2.2 C) FU (C.1 18 s, (-1 : Int32), (0 : Int32)) = some (nI c, v) ∧ S_oth N dy nl + c = S_le N (k + 1) (exS (pkB N dy) s nl) ∧ ((v = -1 ∧ S_ch N k (exS (pkB N dy) s nl) = 10) ∨ ∃ l, l < nl ∧ pkB N dy l = true ∧ v = nI (fa_cnt (pkB N dy) l) ∧ S_ch N k (exS (pkB N dy) s nl) = l) := by
  have h10 := h.1.1
  have hN0 := Ng_0 h
  have hcl := fa_cnt_le (pkB N dy) nl
  have hp2 := p10 (nl := fa_cnt (pkB N dy) nl) (by omega)
  have hl17 : a_len 17 (C.2.2 17) = 10 := rfl
  have hl18 : a_len 18 (C.2.2 18) = n := h18
  have g3 : a_gi C 14 3 = nI (fa_cnt (pkB N dy) nl) := hP.1
  obtain ⟨E, hE⟩ : ∃ E, E = exS (pkB N dy) s nl := ⟨_, rfl⟩
  have hEb : ∀ l, l < nl → pkB N dy l = true → E.testBit l = s.testBit (fa_cnt (pkB N dy) l) := fun l hl hp => by
    rw [hE, exS_bit, decide_eq_true hl, hp]; rfl
  obtain ⟨c0, c01, c02, c03⟩ := hS s (Nat.le_refl _) hs
  rw [← hE] at c03
  obtain ⟨z, e1, c, z1, z2, z3, z4, z5⟩ := lpf_ct (body := fun a : Int32 × Int32 × Int32 => b_X0_workBack_23 x1 (nI s) a.1 a.2.1 a.2.2 C) (fun i (y : Int32 × Int32) => (y.1, y.2, nI i)) (fun i y => ∃ c, c ≤ 100 ∧ y.1 = nI c ∧ S_oth N dy nl + c ≤ S_le N k E ∧ (∀ l, l < nl → pkB N dy l = true → fa_cnt (pkB N dy) l < i → E.testBit l = false → S_la N l (19 - k) = true → S_oth N dy nl + c ≤ S_ov N l (19 - k) + S_le N k (E ||| 2 ^ l)) ∧ ((y.2 = -1 ∧ S_oth N dy nl + c = S_le N k E) ∨ ∃ l, l < nl ∧ pkB N dy l = true ∧ fa_cnt (pkB N dy) l < i ∧ E.testBit l = false ∧ S_la N l (19 - k) = true ∧ y.2 = nI (fa_cnt (pkB N dy) l) ∧ S_oth N dy nl + c = S_ov N l (19 - k) + S_le N k (E ||| 2 ^ l) ∧ S_oth N dy nl + c < S_le N k E ∧ ∀ l', l' < l → pkB N dy l' = true → E.testBit l' = false → S_la N l' (19 - k) = true → S_oth N dy nl + c < S_ov N l' (19 - k) + S_le N k (E ||| 2 ^ l'))) (fa_cnt (pkB N dy) nl) (Q := fun y => ∃ c, c ≤ 100 ∧ y.1 = nI c ∧ S_oth N dy nl + c ≤ S_le N k E ∧ (∀ l, l < nl → pkB N dy l = true → fa_cnt (pkB N dy) l < fa_cnt (pkB N dy) nl → E.testBit l = false → S_la N l (19 - k) = true → S_oth N dy nl + c ≤ S_ov N l (19 - k) + S_le N k (E ||| 2 ^ l)) ∧ ((y.2 = -1 ∧ S_oth N dy nl + c = S_le N k E) ∨ ∃ l, l < nl ∧ pkB N dy l = true ∧ fa_cnt (pkB N dy) l < fa_cnt (pkB N dy) nl ∧ E.testBit l = false ∧ S_la N l (19 - k) = true ∧ y.2 = nI (fa_cnt (pkB N dy) l) ∧ S_oth N dy nl + c = S_ov N l (19 - k) + S_le N k (E ||| 2 ^ l) ∧ S_oth N dy nl + c < S_le N k E ∧ ∀ l', l' < l → pkB N dy l' = true → E.testBit l' = false → S_la N l' (19 - k) = true → S_oth N dy nl + c < S_ov N l' (19 - k) + S_le N k (E ||| 2 ^ l'))) (by
    intro y hy
    refine ⟨y, ?_, hy⟩
    show b_X0_workBack_23 x1 (nI s) y.1 y.2 (nI (fa_cnt (pkB N dy) nl)) C = _
    rw [b_X0_workBack_23, g3, if_pos (Int32.le_refl _)]) (by
    rintro i ⟨y1, y2⟩ hi ⟨c, d1, d2, d3, d4, d5⟩
    have d2' : y1 = nI c := d2
    have d5' : (y2 = -1 ∧ S_oth N dy nl + c = S_le N k E) ∨ ∃ l, l < nl ∧ pkB N dy l = true ∧ fa_cnt (pkB N dy) l < i ∧ E.testBit l = false ∧ S_la N l (19 - k) = true ∧ y2 = nI (fa_cnt (pkB N dy) l) ∧ S_oth N dy nl + c = S_ov N l (19 - k) + S_le N k (E ||| 2 ^ l) ∧ S_oth N dy nl + c < S_le N k E ∧ ∀ l', l' < l → pkB N dy l' = true → E.testBit l' = false → S_la N l' (19 - k) = true → S_oth N dy nl + c < S_ov N l' (19 - k) + S_le N k (E ||| 2 ^ l') := d5
    obtain ⟨l, hl, hp, hli⟩ := cnt_get hi
    have hb : b_X0_workBack_23 x1 (nI s) y1 y2 (nI i) C = if C.1 17 i < 0 then some (.inl (y1, y2, nI (i + 1))) else if nI (if s.testBit i then 1 else 0) = 1 then some (.inl (y1, y2, nI (i + 1))) else (a_ld C 18 (nI (s ||| 2 ^ i))).bind fun u7 => if y1 ≤ C.1 17 i + u7 then some (.inl (y1, y2, nI (i + 1))) else some (.inl (C.1 17 i + u7, nI i, nI (i + 1))) := by
      rw [b_X0_workBack_23, g3, if_neg (fun z => by have := (nI_leI (by omega) (by omega)).mp z; omega), a_ldN (by omega) (by omega), Option.bind_some, bit8 (by omega) (by omega), Option.bind_some, one_shl (by omega), fa_or, nI_1]
    -- this one adds nothing
    have stay : (E.testBit l = false → S_la N l (19 - k) = true → S_oth N dy nl + c ≤ S_ov N l (19 - k) + S_le N k (E ||| 2 ^ l)) → b_X0_workBack_23 x1 (nI s) y1 y2 (nI i) C = some (.inl (y1, y2, nI (i + 1))) → ∃ s' : Int32 × Int32, b_X0_workBack_23 x1 (nI s) y1 y2 (nI i) C = some (.inl (s'.1, s'.2, nI (i + 1))) ∧ ∃ c, c ≤ 100 ∧ s'.1 = nI c ∧ S_oth N dy nl + c ≤ S_le N k E ∧ (∀ l, l < nl → pkB N dy l = true → fa_cnt (pkB N dy) l < i + 1 → E.testBit l = false → S_la N l (19 - k) = true → S_oth N dy nl + c ≤ S_ov N l (19 - k) + S_le N k (E ||| 2 ^ l)) ∧ ((s'.2 = -1 ∧ S_oth N dy nl + c = S_le N k E) ∨ ∃ l, l < nl ∧ pkB N dy l = true ∧ fa_cnt (pkB N dy) l < i + 1 ∧ E.testBit l = false ∧ S_la N l (19 - k) = true ∧ s'.2 = nI (fa_cnt (pkB N dy) l) ∧ S_oth N dy nl + c = S_ov N l (19 - k) + S_le N k (E ||| 2 ^ l) ∧ S_oth N dy nl + c < S_le N k E ∧ ∀ l', l' < l → pkB N dy l' = true → E.testBit l' = false → S_la N l' (19 - k) = true → S_oth N dy nl + c < S_ov N l' (19 - k) + S_le N k (E ||| 2 ^ l')) := fun hadd hbx => by
      refine ⟨(y1, y2), hbx, c, d1, d2', d3, fun l' a1 a2 a3 a4 a5 => ?_, ?_⟩
      · by_cases e : l' = l
        · subst e; exact hadd a4 a5
        · have hne : fa_cnt (pkB N dy) l' ≠ fa_cnt (pkB N dy) l := fun z => e (cnt_inj a2 hp z)
          exact d4 l' a1 a2 (by omega) a4 a5
      · rcases d5' with a | ⟨l', b1, b2, b3, b4⟩
        · exact Or.inl a
        · exact Or.inr ⟨l', b1, b2, by omega, b4⟩
    refine Or.inl ?_
    have hT' := hT l hl hp
    rw [hli] at hT'
    by_cases hq : S_la N l (19 - k) = true
    · rw [hq] at hT'
      have hT2 : C.1 17 i = nI (S_ov N l (19 - k)) := hT'
      have g10 := S_ov_10 N (l := l) (d := 19 - k) (by omega)
      rw [hT2, if_neg (nI_pos (by omega))] at hb
      by_cases ht : s.testBit i = true
      · rw [ht, if_pos (by decide)] at hb
        refine stay (fun z _ => ?_) hb
        rw [hEb l hl hp, hli, ht] at z
        exact absurd z (by decide)
      · have ht' := Bool.eq_false_iff.mpr ht
        rw [ht', if_neg (by decide)] at hb
        have hor : s ||| 2 ^ i < 2 ^ fa_cnt (pkB N dy) nl := or_in hs hi
        obtain ⟨w, w1, w2, w3⟩ := hS (s ||| 2 ^ i) Nat.left_le_or hor
        have hEo : exS (pkB N dy) (s ||| 2 ^ i) nl = E ||| 2 ^ l := by
          rw [hE, ← hli]; exact exS_or hl hp
        rw [hEo] at w3
        rw [a_ldN (by omega) (by omega), Option.bind_some, w2, nI_add, d2'] at hb
        by_cases hc : c ≤ S_ov N l (19 - k) + w
        · rw [if_pos ((nI_leI (by omega) (by omega)).mpr hc), ← d2'] at hb
          exact stay (fun _ _ => by omega) hb
        · rw [if_neg (fun z => hc ((nI_leI (by omega) (by omega)).mp z)), ← d2'] at hb
          refine ⟨(nI (S_ov N l (19 - k) + w), nI i), hb, S_ov N l (19 - k) + w, by omega, rfl, by omega, fun l' a1 a2 a3 a4 a5 => ?_, Or.inr ⟨l, hl, hp, by omega, ?_, hq, by rw [hli], by omega, by omega, fun l' a1 a2 a4 a5 => ?_⟩⟩
          · by_cases e : l' = l
            · subst e; omega
            · have hne : fa_cnt (pkB N dy) l' ≠ fa_cnt (pkB N dy) l := fun z => e (cnt_inj a2 hp z)
              have := d4 l' a1 a2 (by omega) a4 a5
              omega
          · rw [hEb l hl hp, hli]; exact ht'
          · have := cnt_st a1 a2
            have := d4 l' (by omega) a2 (by omega) a4 a5
            omega
    · have hq' := Bool.eq_false_iff.mpr hq
      rw [hq'] at hT'
      have hT2 : C.1 17 i = -1 := hT'
      rw [hT2, if_pos neg1.1] at hb
      exact stay (fun _ z => absurd z hq) hb) FU 0 (C.1 18 s, -1) (by omega) ⟨c0, c01, c02, by omega, fun l _ _ hl => absurd hl (by omega), Or.inl ⟨rfl, by omega⟩⟩ (FU_lt (by omega))
  have st := S_step (N := N) (dy := dy) (k := k) (E := E) (X := S_oth N dy nl + c) hk z3 (fun l a1 a2 a3 a4 => z4 l (by omega) a2 (cnt_st (by omega) a2) a3 a4)
  have e1' : lpf (fun a : Int32 × Int32 × Int32 => b_X0_workBack_23 x1 (nI s) a.1 a.2.1 a.2.2 C) FU (C.1 18 s, (-1 : Int32), (0 : Int32)) = some (nI c, z.2) := by
    rw [← z2]; exact e1
  rw [← hE]
  rcases z5 with ⟨a1, a2⟩ | ⟨l, b1, b2, b3, b4, b5, b6, b7, b8, b9⟩
  · obtain ⟨t1, t2⟩ := st.1 a2
    exact ⟨c, z.2, z1, e1', t1.symm, Or.inl ⟨a1, t2⟩⟩
  · obtain ⟨t1, t2⟩ := st.2 l (by omega) b2 b4 b5 b7 b8 b9
    exact ⟨c, z.2, z1, e1', t1.symm, Or.inr ⟨l, b1, b2, b6, t2⟩⟩

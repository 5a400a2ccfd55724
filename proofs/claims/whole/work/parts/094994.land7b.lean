/-- the rocks that were picked -/
def Pk (C : aSc) (N : Nat → Int32) (nl dy : Nat) : Prop := C.1 14 3 = nI (fa_cnt (pkB N dy) nl) ∧ ∀ l, l < nl → pkB N dy l = true → C.1 16 (fa_cnt (pkB N dy) l) = nI l
theorem pick7 {C : aSc} {N : Nat → Int32} {nl dy : Nat} (h : Ng N nl dy) (hC : Cg C N nl dy) : ∃ C', f_X0_pickRocks (nI nl) (nI dy) C = some (nI (S_oth N dy nl), C') ∧ C'.2 = C.2 ∧ (∀ c j, c ≠ 14 → c ≠ 16 → C'.1 c j = C.1 c j) ∧ Pk C' N nl dy := by
  have h10 := h.1.1
  obtain ⟨z, e1, q1, q2, q3, q4, q5⟩ := lpf_ct (body := fun a : Int32 × Int32 × aSc => b_X0_pickRocks_11 (nI nl) (nI dy) a.1 a.2.1 a.2.2) (fun i (s : Int32 × aSc) => (s.1, nI i, s.2)) (fun i s => s.1 = nI (S_oth N dy i) ∧ s.2.2 = C.2 ∧ (∀ c j, c ≠ 14 → c ≠ 16 → s.2.1 c j = C.1 c j) ∧ s.2.1 14 3 = nI (fa_cnt (pkB N dy) i) ∧ ∀ l, l < i → pkB N dy l = true → s.2.1 16 (fa_cnt (pkB N dy) l) = nI l) nl (Q := fun s => s.1 = nI (S_oth N dy nl) ∧ s.2.2 = C.2 ∧ (∀ c j, c ≠ 14 → c ≠ 16 → s.2.1 c j = C.1 c j) ∧ s.2.1 14 3 = nI (fa_cnt (pkB N dy) nl) ∧ ∀ l, l < nl → pkB N dy l = true → s.2.1 16 (fa_cnt (pkB N dy) l) = nI l) (by
    intro s hs
    refine ⟨s, ?_, hs⟩
    show b_X0_pickRocks_11 (nI nl) (nI dy) s.1 (nI nl) s.2 = _
    rw [b_X0_pickRocks_11, if_pos (Int32.le_refl _)]) (by
    rintro i ⟨o, D⟩ hi ⟨s0, s1, s2, s3, s4⟩
    have s0' : o = nI (S_oth N dy i) := s0
    have s1' : D.2 = C.2 := s1
    have s2' : ∀ c j, c ≠ 14 → c ≠ 16 → D.1 c j = C.1 c j := s2
    have s3' : D.1 14 3 = nI (fa_cnt (pkB N dy) i) := s3
    have s4' : ∀ l, l < i → pkB N dy l = true → D.1 16 (fa_cnt (pkB N dy) l) = nI l := s4
    have hD : Cg D N nl dy := Cg_cong (fun c j a b => s2' c j (by omega) (by omega)) hC
    have eo : S_oth N dy (i + 1) = S_oth N dy i + (if S_rk N i && !pkB N dy i then S_ov N i 20 else 0) := rfl
    have o20 : f_X1_overdueOn (24 + 3 * i) 20 D = some (nI (S_ov N i 20)) := over7 h hD hi (d := 20) (by omega)
    have g20 := S_ov_10 N (l := i) (d := 20) (by omega)
    have hcl := fa_cnt_le (pkB N dy) i
    have hb : b_X0_pickRocks_11 (nI nl) (nI dy) o (nI i) D = if (if S_rk N i then (1 : Int32) else 0) = 0 then some (.inl (o, nI (i + 1), D)) else if nI (S_ov N i 20) = 0 then some (.inl (o, nI (i + 1), D)) else if (if (List.range 20).any (fun d => decide (dy ≤ d ∧ S_n N (366 + d) ≤ S_n N (10 + 22 * i + 9))) then (1 : Int32) else 0) = 0 then some (.inl (o + nI (S_ov N i 20), nI (i + 1), D)) else some (.inl (o, nI (i + 1), a_pi (a_pi D 16 (fa_cnt (pkB N dy) i) (nI i)) 14 3 (nI (fa_cnt (pkB N dy) i + 1)))) := by
      have g3 : a_gi D 14 3 = nI (fa_cnt (pkB N dy) i) := s3'
      have g4 : a_gi (a_pi D 16 (fa_cnt (pkB N dy) i) (nI i)) 14 3 = nI (fa_cnt (pkB N dy) i) := a_nt (by omega) g3
      have hl16 : a_len 16 (D.2.2 16) = 10 := rfl
      rw [b_X0_pickRocks_11, if_neg (fun z => by have := (nI_leI (by omega) (by omega)).mp z; omega), a_rfN (by omega) (by omega), Option.bind_some, rock7 h hD hi, Option.bind_some, Option.bind_some, o20, Option.bind_some, Option.bind_some, from7 h hD hi, Option.bind_some, Option.bind_some, o20, Option.bind_some, g3, a_stN (by omega) (by omega), Option.bind_some, Option.bind_some, g4, nI_1, nI_1]
    have stay : pkB N dy i = false → ∀ x, x = nI (S_oth N dy (i + 1)) → b_X0_pickRocks_11 (nI nl) (nI dy) o (nI i) D = some (.inl (x, nI (i + 1), D)) → (∃ s' : Int32 × aSc, b_X0_pickRocks_11 (nI nl) (nI dy) o (nI i) D = some (.inl (s'.1, nI (i + 1), s'.2)) ∧ s'.1 = nI (S_oth N dy (i + 1)) ∧ s'.2.2 = C.2 ∧ (∀ c j, c ≠ 14 → c ≠ 16 → s'.2.1 c j = C.1 c j) ∧ s'.2.1 14 3 = nI (fa_cnt (pkB N dy) (i + 1)) ∧ ∀ l, l < i + 1 → pkB N dy l = true → s'.2.1 16 (fa_cnt (pkB N dy) l) = nI l) := fun hp x hx hbx => by
      refine ⟨(x, D), hbx, hx, s1', s2', ?_, fun l hl hpl => ?_⟩
      · rw [fa_cnt_no hp]; exact s3'
      · by_cases e : l = i
        · subst e; rw [hp] at hpl; exact absurd hpl (by decide)
        · exact s4' l (by omega) hpl
    refine Or.inl ?_
    by_cases hr : S_rk N i = true
    · rw [hr, if_neg (by decide)] at hb
      by_cases hz : S_ov N i 20 = 0
      · rw [hz, if_pos (by decide)] at hb
        have hp : pkB N dy i = false := by rw [pkB, hr, decide_eq_true hz]; rfl
        refine stay hp o ?_ hb
        rw [eo, s0', hz]; simp
      · rw [if_neg (show ¬ nI (S_ov N i 20) = (0 : Int32) from fun z => hz ((nI_eq (b := 0) (by omega) (by omega)).mp z))] at hb
        by_cases ha : (List.range 20).any (fun d => decide (dy ≤ d ∧ S_n N (366 + d) ≤ S_n N (10 + 22 * i + 9))) = true
        · rw [ha, if_neg (by decide)] at hb
          have hp : pkB N dy i = true := by rw [pkB, hr, decide_eq_false hz, ha]; rfl
          refine ⟨(o, a_pi (a_pi D 16 (fa_cnt (pkB N dy) i) (nI i)) 14 3 (nI (fa_cnt (pkB N dy) i + 1))), hb, ?_, s1', fun c j a b => ?_, ?_, fun l hl hpl => ?_⟩
          · show o = _
            rw [eo, s0', hp]; simp
          · show (a_pi (a_pi D 16 (fa_cnt (pkB N dy) i) (nI i)) 14 3 (nI (fa_cnt (pkB N dy) i + 1))).1 c j = _
            rw [a_pi_ne (by omega), a_pi_ne (by omega)]; exact s2' c j a b
          · rw [fa_cnt_yes hp]; exact a_pi_at
          · show (a_pi (a_pi D 16 (fa_cnt (pkB N dy) i) (nI i)) 14 3 (nI (fa_cnt (pkB N dy) i + 1))).1 16 _ = _
            rw [a_pi_ne (by omega)]
            by_cases e : l = i
            · subst e; exact a_pi_at
            · have := cnt_st (p := pkB N dy) (a := l) (b := i) (by omega) hpl
              rw [a_pi_ne (by omega)]; exact s4' l (by omega) hpl
        · have ha' := Bool.eq_false_iff.mpr ha
          rw [ha', if_pos (by decide)] at hb
          have hp : pkB N dy i = false := by rw [pkB, ha', Bool.and_false]
          refine stay hp _ ?_ hb
          rw [eo, s0', hp, hr, nI_add]; rfl
    · have hr' := Bool.eq_false_iff.mpr hr
      rw [hr', if_pos (by decide)] at hb
      have hp : pkB N dy i = false := by rw [pkB, hr', Bool.false_and, Bool.false_and]
      refine stay hp o ?_ hb
      rw [eo, s0', hr']; rfl) FU 0 (0, a_pi C 14 3 0) (by omega) ⟨rfl, rfl, fun c j a b => a_pi_ne (by omega), a_pi_at, fun l hl => absurd hl (by omega)⟩ (FU_lt (by omega))
  refine ⟨z.2, ?_, q2, q3, q4, q5⟩
  have e1' : lpf (fun a : Int32 × Int32 × aSc => b_X0_pickRocks_11 (nI nl) (nI dy) a.1 a.2.1 a.2.2) FU ((0 : Int32), (0 : Int32), a_pi C 14 3 0) = some z := e1
  rw [f_X0_pickRocks, Option.bind_some, e1', Option.bind_some, q1]
theorem room7 {C : aSc} {rc n0 : Nat} (hrc : rc ≤ 10) (h3 : C.1 14 3 = nI rc) (hn : n0 ≤ 1024) (h18 : C.2.2 18 = n0) (h19 : C.2.2 19 = 20 * n0) : ∃ C', f_X0_makeRoom C = some C' ∧ C'.2.1 = C.2.1 ∧ (∃ n, n ≤ 1024 ∧ 2 ^ rc ≤ n ∧ C'.2.2 18 = n ∧ C'.2.2 19 = 20 * n) ∧ C'.1 14 5 = nI (2 ^ rc) ∧ ∀ c j, ¬ (c = 14 ∧ j = 5) → c ≠ 18 → c ≠ 19 → C'.1 c j = C.1 c j := by
  have hp := p10 hrc
  have g3 : a_gi C 14 3 = nI rc := h3
  have g5 : a_gi (a_pi C 14 5 (nI (2 ^ rc))) 14 5 = nI (2 ^ rc) := a_pi_at
  have hln : a_ln (a_pi C 14 5 (nI (2 ^ rc))) 18 = n0 := h18
  rw [f_X0_makeRoom, Option.bind_some, g3, one_shl (by omega), g5, hln]
  by_cases hc : 2 ^ rc ≤ n0
  · refine ⟨_, if_pos (show nI (2 ^ rc) ≤ nI n0 from (nI_leI (by omega) (by omega)).mpr hc), rfl, ⟨n0, hn, hc, h18, h19⟩, a_pi_at, fun c j a _ _ => a_pi_ne a⟩
  · rw [if_neg (show ¬ nI (2 ^ rc) ≤ Int32.ofNat n0 from fun z => hc ((nI_leI (by omega) (by omega)).mp z)), nI_toInt (by omega), if_pos (by omega), nI_clamp (by omega), show nI (2 ^ rc) * 20 = nI (2 ^ rc * 20) from pk_mul _ 20, nI_clamp (by omega)]
    refine ⟨_, rfl, rfl, ⟨2 ^ rc, by omega, Nat.le_refl _, rfl, ?_⟩, ?_, fun c j a b d => ?_⟩
    · show 2 ^ rc * 20 = _
      omega
    · have : (a_new1 (a_new1 (a_pi C 14 5 (nI (2 ^ rc))) 18 (2 ^ rc)) 19 (2 ^ rc * 20)).1 14 5 = (a_pi C 14 5 (nI (2 ^ rc))).1 14 5 := by simp [a_new1]
      rw [this]; exact a_pi_at
    · have : (a_new1 (a_new1 (a_pi C 14 5 (nI (2 ^ rc))) 18 (2 ^ rc)) 19 (2 ^ rc * 20)).1 c j = (a_pi C 14 5 (nI (2 ^ rc))).1 c j := by simp [a_new1, b, d]
      rw [this]; exact a_pi_ne a
/-- what is kept of the sets: the least days from 'k days before day 20' on -/
def Cs (C : aSc) (N : Nat → Int32) (nl dy k s : Nat) : Prop := ∃ c, c ≤ 100 ∧ C.1 18 s = nI c ∧ S_oth N dy nl + c = S_le N k (exS (pkB N dy) s nl)
theorem end15 {C : aSc} {N : Nat → Int32} {nl dy s : Nat} (h : Ng N nl dy) (hC : Cg C N nl dy) (hP : Pk C N nl dy) (hs : s < 1024) : ∃ c, c ≤ 100 ∧ lpf (fun a : Int32 × Int32 => b_X0_endCosts_15 (nI s) a.1 a.2 C) FU ((0 : Int32), (0 : Int32)) = some (nI c) ∧ S_oth N dy nl + c = S_le N 0 (exS (pkB N dy) s nl) := by
  have h10 := h.1.1
  have hcl := fa_cnt_le (pkB N dy) nl
  have hl16 : a_len 16 (C.2.2 16) = 10 := rfl
  have g3 : a_gi C 14 3 = nI (fa_cnt (pkB N dy) nl) := hP.1
  obtain ⟨g, hg⟩ : ∃ g : Nat → Nat, g = fun i => if s.testBit i then 0 else S_ov N (C.1 16 i).toNatClampNeg 20 := ⟨_, rfl⟩
  have hgl : ∀ l, l < nl → pkB N dy l = true → g (fa_cnt (pkB N dy) l) = if s.testBit (fa_cnt (pkB N dy) l) then 0 else S_ov N l 20 := fun l hl hp => by
    rw [hg]
    show (if s.testBit _ then 0 else S_ov N (C.1 16 (fa_cnt (pkB N dy) l)).toNatClampNeg 20) = _
    rw [hP.2 l hl hp, nI_clamp (by omega)]
  obtain ⟨z, e1, q1⟩ := lpf_ct (body := fun a : Int32 × Int32 => b_X0_endCosts_15 (nI s) a.1 a.2 C) (fun i x => (x, nI i)) (fun i x => x = nI (sm g i)) (fa_cnt (pkB N dy) nl) (Q := fun x => x = nI (sm g (fa_cnt (pkB N dy) nl))) (by
    intro x hx
    refine ⟨x, ?_, hx⟩
    show b_X0_endCosts_15 (nI s) x (nI (fa_cnt (pkB N dy) nl)) C = _
    rw [b_X0_endCosts_15, g3, if_pos (Int32.le_refl _)]) (by
    rintro i x hi rfl
    obtain ⟨l, hl, hp, rfl⟩ := cnt_get hi
    have o20 : f_X1_overdueOn (24 + 3 * l) 20 C = some (nI (S_ov N l 20)) := over7 h hC hl (d := 20) (by omega)
    refine Or.inl ⟨_, ?_, rfl⟩
    show b_X0_endCosts_15 (nI s) (nI (sm g (fa_cnt (pkB N dy) l))) (nI (fa_cnt (pkB N dy) l)) C = some (.inl (nI (sm g (fa_cnt (pkB N dy) l) + g (fa_cnt (pkB N dy) l)), nI (fa_cnt (pkB N dy) l + 1)))
    rw [b_X0_endCosts_15, g3, if_neg (fun z => by have := (nI_leI (by omega) (by omega)).mp z; omega), bit8 (by omega) (by omega), a_ldN (by omega) (by omega), Option.bind_some, hP.2 l hl hp, a_rfN (by omega) (by omega), Option.bind_some, o20, Option.bind_some, nI_1, nI_add, hgl l hl hp]
    by_cases hb : s.testBit (fa_cnt (pkB N dy) l) = true
    · rw [hb, if_neg (by decide)]; rfl
    · rw [Bool.eq_false_iff.mpr hb, if_pos (by decide)]; rfl) FU 0 _ (by omega) rfl (FU_lt (by omega))
  have hN0 := Ng_0 h
  have hbase := S_base (N := N) (dy := dy) (s := s) (g := g) (fun l hl hp => hgl l (by omega) hp)
  rw [hN0] at hbase
  have hbd := S_le_bd (N := N) (by omega) 0 (exS (pkB N dy) s nl)
  rw [show (nI 0) = (0 : Int32) from rfl] at e1
  exact ⟨sm g (fa_cnt (pkB N dy) nl), by omega, by rw [← q1]; exact e1, hbase.symm⟩
theorem end7 {C : aSc} {N : Nat → Int32} {nl dy n : Nat} (h : Ng N nl dy) (hC : Cg C N nl dy) (hP : Pk C N nl dy) (h5 : C.1 14 5 = nI (2 ^ fa_cnt (pkB N dy) nl)) (hn : 2 ^ fa_cnt (pkB N dy) nl ≤ n) (h18 : C.2.2 18 = n) : ∃ C', f_X0_endCosts C = some C' ∧ C'.2 = C.2 ∧ (∀ c j, c ≠ 18 → C'.1 c j = C.1 c j) ∧ ∀ s, s < 2 ^ fa_cnt (pkB N dy) nl → Cs C' N nl dy 0 s := by
  have h10 := h.1.1
  have hcl := fa_cnt_le (pkB N dy) nl
  have hp := p10 (nl := fa_cnt (pkB N dy) nl) (by omega)
  obtain ⟨z, e1, q1, q2, q3⟩ := lpf_ct (body := fun a : Int32 × aSc => b_X0_endCosts_2 a.1 a.2) (fun i x => (nI i, x)) (fun i x => x.2 = C.2 ∧ (∀ c j, c ≠ 18 → x.1 c j = C.1 c j) ∧ ∀ s, s < i → Cs x N nl dy 0 s) (2 ^ fa_cnt (pkB N dy) nl) (Q := fun x => x.2 = C.2 ∧ (∀ c j, c ≠ 18 → x.1 c j = C.1 c j) ∧ ∀ s, s < 2 ^ fa_cnt (pkB N dy) nl → Cs x N nl dy 0 s) (by
    rintro x ⟨x1, x2, x3⟩
    refine ⟨x, ?_, x1, x2, x3⟩
    have g5 : a_gi x 14 5 = nI (2 ^ fa_cnt (pkB N dy) nl) := (x2 14 5 (by omega)).trans h5
    show b_X0_endCosts_2 (nI (2 ^ fa_cnt (pkB N dy) nl)) x = _
    rw [b_X0_endCosts_2, g5, if_pos (Int32.le_refl _)]) (by
    rintro i x hi ⟨x1, x2, x3⟩
    have g5 : a_gi x 14 5 = nI (2 ^ fa_cnt (pkB N dy) nl) := (x2 14 5 (by omega)).trans h5
    have hCx : Cg x N nl dy := Cg_cong (fun c j a b => x2 c j (by omega)) hC
    have hPx : Pk x N nl dy := ⟨(x2 14 3 (by omega)).trans hP.1, fun l a b => (x2 16 _ (by omega)).trans (hP.2 l a b)⟩
    have hl18 : a_len 18 (x.2.2 18) = n := by
      show x.2.2 18 = n
      rw [x1]; exact h18
    obtain ⟨c, c1, c2, c3⟩ := end15 (s := i) h hCx hPx (by omega)
    refine Or.inl ⟨a_pi x 18 i (nI c), ?_, x1, fun c' j hc => ?_, fun s hs => ?_⟩
    · show b_X0_endCosts_2 (nI i) x = _
      rw [b_X0_endCosts_2, g5, if_neg (fun z => by have := (nI_leI (by omega) (by omega)).mp z; omega), c2, Option.bind_some, a_stN (by omega) (by omega), Option.bind_some, nI_1]
    · rw [a_pi_ne (by omega)]; exact x2 c' j hc
    · by_cases e : s = i
      · subst e; exact ⟨c, c1, a_pi_at, c3⟩
      · obtain ⟨b, b1, b2, b3⟩ := x3 s (by omega)
        exact ⟨b, b1, by rw [a_pi_ne (by omega)]; exact b2, b3⟩) FU 0 C (by omega) ⟨rfl, fun _ _ _ => rfl, fun s hs => absurd hs (by omega)⟩ (FU_lt (by omega))
  rw [show (nI 0) = (0 : Int32) from rfl] at e1
  exact ⟨z, by rw [f_X0_endCosts, e1, Option.bind_some], q1, q2, q3⟩
/-- the day at hand -/
def Td (C : aSc) (N : Nat → Int32) (nl dy d : Nat) : Prop := ∀ l, l < nl → pkB N dy l = true → C.1 17 (fa_cnt (pkB N dy) l) = if S_la N l d then nI (S_ov N l d) else -1
theorem look7 {C : aSc} {N : Nat → Int32} {nl dy d : Nat} (h : Ng N nl dy) (hC : Cg C N nl dy) (hP : Pk C N nl dy) (hd : d < 20) : ∃ C', f_X0_lookAt (nI d) (nI (S_n N (366 + d))) C = some C' ∧ C'.2 = C.2 ∧ (∀ c j, c ≠ 17 → C'.1 c j = C.1 c j) ∧ Td C' N nl dy d := by
  have h10 := h.1.1
  have hcl := fa_cnt_le (pkB N dy) nl
  have hN0 := Ng_0 h
  obtain ⟨z, e1, q1, q2, q3⟩ := lpf_ct (body := fun a : Int32 × aSc => b_X0_lookAt_3 (nI d) (nI (S_n N (366 + d))) a.1 a.2) (fun i x => (nI i, x)) (fun i x => x.2 = C.2 ∧ (∀ c j, c ≠ 17 → x.1 c j = C.1 c j) ∧ ∀ l, l < nl → pkB N dy l = true → fa_cnt (pkB N dy) l < i → x.1 17 (fa_cnt (pkB N dy) l) = if S_la N l d then nI (S_ov N l d) else -1) (fa_cnt (pkB N dy) nl) (Q := fun x => x.2 = C.2 ∧ (∀ c j, c ≠ 17 → x.1 c j = C.1 c j) ∧ ∀ l, l < nl → pkB N dy l = true → fa_cnt (pkB N dy) l < fa_cnt (pkB N dy) nl → x.1 17 (fa_cnt (pkB N dy) l) = if S_la N l d then nI (S_ov N l d) else -1) (by
    rintro x ⟨x1, x2, x3⟩
    refine ⟨x, ?_, x1, x2, x3⟩
    have g3 : a_gi x 14 3 = nI (fa_cnt (pkB N dy) nl) := (x2 14 3 (by omega)).trans hP.1
    show b_X0_lookAt_3 (nI d) (nI (S_n N (366 + d))) (nI (fa_cnt (pkB N dy) nl)) x = _
    rw [b_X0_lookAt_3, g3, if_pos (Int32.le_refl _)]) (by
    rintro i x hi ⟨x1, x2, x3⟩
    obtain ⟨l, hl, hp, rfl⟩ := cnt_get hi
    have g3 : a_gi x 14 3 = nI (fa_cnt (pkB N dy) nl) := (x2 14 3 (by omega)).trans hP.1
    have hCx : Cg x N nl dy := Cg_cong (fun c j a b => x2 c j (by omega)) hC
    have e16 : x.1 16 (fa_cnt (pkB N dy) l) = nI l := (x2 16 _ (by omega)).trans (hP.2 l hl hp)
    have hl16 : a_len 16 (x.2.2 16) = 10 := rfl
    have hl17 : a_len 17 (x.2.2 17) = 10 := rfl
    have hsea := (sea7 h hCx hd).2
    have hla : S_la N l d = decide (S_n N (366 + d) ≤ S_n N (10 + 22 * l + 9)) := by
      unfold S_la
      rw [hN0, decide_eq_true hl, pk_rk hp]; rfl
    have hb : b_X0_lookAt_3 (nI d) (nI (S_n N (366 + d))) (nI (fa_cnt (pkB N dy) l)) x = some (.inl (nI (fa_cnt (pkB N dy) l + 1), a_pi x 17 (fa_cnt (pkB N dy) l) (if S_la N l d then nI (S_ov N l d) else -1))) := by
      rw [b_X0_lookAt_3, g3, if_neg (fun z => by have := (nI_leI (by omega) (by omega)).mp z; omega), a_ldN (by omega) (by omega), Option.bind_some, e16, a_rfN (by omega) (by omega), Option.bind_some, lands7 h hCx hl hsea, Option.bind_some, a_stN (by omega) (by omega), Option.bind_some, over7 h hCx hl (by omega), Option.bind_some, a_stN (by omega) (by omega), Option.bind_some, nI_1, hla]
      by_cases hc : S_n N (366 + d) ≤ S_n N (10 + 22 * l + 9)
      · rw [if_pos hc, if_neg (by decide), decide_eq_true hc]; rfl
      · rw [if_neg hc, if_pos (by decide), decide_eq_false hc]; rfl
    refine Or.inl ⟨_, hb, x1, fun c j hc => ?_, fun l' hl' hp' hlt => ?_⟩
    · rw [a_pi_ne (by omega)]; exact x2 c j hc
    · by_cases e : l' = l
      · subst e; exact a_pi_at
      · have hne : fa_cnt (pkB N dy) l' ≠ fa_cnt (pkB N dy) l := fun z => e (cnt_inj hp' hp z)
        rw [a_pi_ne (by omega)]
        exact x3 l' hl' hp' (by omega)) FU 0 C (by omega) ⟨rfl, fun _ _ _ => rfl, fun l _ _ hl => absurd hl (by omega)⟩ (FU_lt (by omega))
  rw [show (nI 0) = (0 : Int32) from rfl] at e1
  exact ⟨z, by rw [f_X0_lookAt, e1, Option.bind_some], q1, q2, fun l hl hp => q3 l hl hp (cnt_st hl hp)⟩

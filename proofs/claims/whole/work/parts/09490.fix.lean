theorem max_sub {p q : Nat} (hp : p < 2 ^ 30) (hq : q < 2 ^ 30) : a_max 0 (nI p - nI q) = nI (p - q) := by
  unfold a_max
  have e := pk_sub_toInt hp hq
  by_cases h : q < p
  · rw [pk_sub (by omega)]
    have h2 : (0 : Int32) < nI (p - q) := (nI_ltI (a := 0) (by omega) (by omega)).mpr (by omega)
    first
      | rw [if_pos h2]
      | rw [if_neg (fa_of_lt h2).2.1]
      | rw [if_neg (fa_of_lt h2).2.2.1]
  · have h0 : p - q = 0 := by omega
    have h2 : nI p - nI q ≤ 0 := Int32.le_iff_toInt_le.mpr (by rw [e]; have e0 : (0 : Int32).toInt = 0 := rfl; omega)
    have h3 : ¬ (0 : Int32) < nI p - nI q := fun z => by
      have := Int32.lt_iff_toInt_lt.mp z
      rw [e] at this
      have e0 : (0 : Int32).toInt = 0 := rfl
      omega
    rw [h0]
    first
      | (rw [if_neg h3]; rfl)
      | (rw [if_pos h2]; rfl)
theorem min_15 {p q : Nat} (h : p + q < 2 ^ 30) : a_min 15 (nI p + nI q) = nI (min 15 (p + q)) := by
  rw [nI_add]
  unfold a_min
  by_cases hq : nI (p + q) < 15
  · have := (nI_ltI (b := 15) (by omega) (by omega)).mp hq
    rw [if_pos hq]
    congr 1
    omega
  · have : ¬ p + q < 15 := fun z => hq ((nI_ltI (b := 15) (by omega) (by omega)).mpr z)
    rw [if_neg hq]
    have e : min 15 (p + q) = 15 := by omega
    rw [e]; rfl
/-- what both say of one place -/
theorem spot {C : aSc} {M : aMm} {l b c y x ra hz fr to mk : Nat} (hl : l < 10) (hb : b < 8) (hc : c < 256) (hy : y < 16) (hx : x < 16) (n2 : M 1 (10 + 22 * l + 2) = nI ra) (n4 : M 1 4 = nI hz) (b1 : M 1 (230 + 3 * b + 1) = nI fr) (b2 : M 1 (230 + 3 * b + 2) = nI to) (hf : fr < 16) (ht : to < 16) (hm : mk < 65536) (hbt : ∀ d, d < 16 → mk.testBit d = decide ((d + 16 - fr) % 16 ≤ (to + 16 - fr) % 16)) (x5 x7 x8 y4 y5 y6 : Int32) (h7 : ¬ x7 < nI x) (h8 : ¬ a_min 15 (y5 + y4) < nI x) (x2 : Nat) :
    (b_X7_holdsFor_85 (nI c) x2 (nI mk) (a_max 0 (nI ra - nI hz)) x5 x7 x8 (nI y) (nI x) C = some (.inl (nI (x + 1))) ∧ b_X8_holds_93 (nI b) (nI c) (nI l) y4 y5 y6 (nI y) (nI x) M = some (.inl (nI (x + 1)))) ∨ (b_X7_holdsFor_85 (nI c) x2 (nI mk) (a_max 0 (nI ra - nI hz)) x5 x7 x8 (nI y) (nI x) C = some (.inr (.inr 1)) ∧ b_X8_holds_93 (nI b) (nI c) (nI l) y4 y5 y6 (nI y) (nI x) M = some (.inr (.inr 1))) := by
  have hlen : a_len (94 + 1) 0 = 386 := rfl
  have p7 : nI y * 16 + nI x = nI (16 * y + x) := by
    rw [show (16 : Int32) = nI 16 from rfl, pk_mul, nI_add]; congr 1; omega
  have p8 : (16 : Int32) * nI y + nI x = nI (16 * y + x) := by
    rw [show (16 : Int32) = nI 16 from rfl, pk_mul, nI_add]
  have hp : 16 * y + x < 256 := by omega
  have w7 := within7 (C := C) (a := c) (b := 16 * y + x) (a_max 0 (nI ra - nI hz)) hc hp
  have w8 := near8 (M := M) (l := l) (a := c) (b := 16 * y + x) hl n2 n4 hc hp
  have ea : (230 : Int32) + 3 * nI b + 1 = nI (230 + 3 * b + 1) := by
    rw [show (230 : Int32) = nI 230 from rfl, show (3 : Int32) = nI 3 from rfl, pk_mul, nI_add]; exact nI_add _ 1
  have eb : (230 : Int32) + 3 * nI b + 2 = nI (230 + 3 * b + 2) := by
    rw [show (230 : Int32) = nI 230 from rfl, show (3 : Int32) = nI 3 from rfl, pk_mul, nI_add]; exact nI_add _ 2
  rw [b_X7_holdsFor_85, if_neg h7, p7, w7, Option.bind_some, b_X8_holds_93, if_neg h8, p8, w8, Option.bind_some, nI_1]
  by_cases q : nrI (a_max 0 (nI ra - nI hz)) c (16 * y + x) = 0
  · rw [if_pos q, if_pos q]; exact Or.inl ⟨rfl, rfl⟩
  rw [if_neg q, if_neg q]
  by_cases e : c = 16 * y + x
  · rw [f_X7_liesIn, if_pos (congrArg nI e), Option.bind_some, if_neg (by decide), if_pos (congrArg nI e).symm]
    exact Or.inr ⟨rfl, rfl⟩
  have ne : ¬ nI c = nI (16 * y + x) := fun z => e ((nI_eq (by omega) (by omega)).mp z)
  obtain ⟨d1, d2, d3⟩ := dir_ok C M hc hp e
  rw [f_X7_liesIn, if_neg ne, d1, Option.bind_some, bit8 (by omega) (by omega), hbt _ d3, if_neg (show ¬ nI (16 * y + x) = nI c from fun z => ne z.symm), d2, Option.bind_some, ea, m_ldN (by omega) (by omega), Option.bind_some, eb, m_ldN (by omega) (by omega), Option.bind_some, b1, b2, isFrom_ok d3 hf ht, Option.bind_some]
  by_cases hcc : (wD c (16 * y + x) + 16 - fr) % 16 ≤ (to + 16 - fr) % 16
  · rw [if_pos hcc]
    simp only [hcc, decide_true, if_true]
    rw [if_pos (by decide), Option.bind_some, if_neg (by decide)]
    exact Or.inr ⟨rfl, rfl⟩
  · rw [if_neg hcc]
    simp only [hcc, decide_false, if_false, Bool.false_eq_true]
    rw [if_neg (by decide), Option.bind_some, if_pos (by decide), if_pos (by decide)]
    exact Or.inl ⟨rfl, rfl⟩
theorem holds_ok {C : aSc} {M : aMm} {nl nb nf nw hz dy c b : Nat} (hV : V_all C (M 1) nl nb nf nw hz dy) (hc : c < 256) (hb : b < nb) : ∃ (v : Int32) (l : Nat), (v = 0 ∨ v = 1) ∧ l < 10 ∧ C.1 4 b >>> ((16 : Int32) &&& 31) = nI l ∧ f_X7_holdsFor (nI c) (24 + 3 * l) (C.1 4 b &&& 65535) C = some v ∧ f_X8_holds (nI b) (nI c) M = some v := by
  obtain ⟨⟨h0, ⟨h1, h1'⟩, -, -, -, ⟨h5, h5'⟩, -⟩, hL, hB, -⟩ := id hV
  have hlen : a_len (94 + 1) 0 = 386 := rfl
  obtain ⟨l, fr, to, hl, b0, b1, b2, hk⟩ := hB b hb
  obtain ⟨hf, ht, mk, hm, hv, hbt⟩ := id hk
  have hkb := (Vk_bit (d := 0) (show l < 16 by omega) (by omega) hk).2
  obtain ⟨-, ⟨ce, _, hce, c1, n1⟩, ⟨ra, _, hra, c2, n2⟩, -, -, -, ⟨dt, _, hdt, c9, n7⟩, -⟩ := hL l hl
  have g1 : a_gi C (24 + 3 * l) 1 = nI ce := c1
  have gr : a_gi C (24 + 3 * l) 2 = nI ra := c2
  have g9 : a_gi C (24 + 3 * l) 9 = nI dt := c9
  have g3 : a_gi C 0 3 = nI hz := h5
  have hmask : C.1 4 b &&& 65535 = nI mk := by
    rw [hv, nx_mod]; congr 1; omega
  have hr : f_X7_reachOf (24 + 3 * l) C = some (a_max 0 (nI ra - nI hz)) := by rw [f_X7_reachOf, gr, g3]
  have mx : a_min 15 (nI (ce % 16) + nI dt) = nI (min 15 (ce % 16 + dt)) := min_15 (by omega)
  have my : a_min 15 (nI (ce / 16) + nI dt) = nI (min 15 (ce / 16 + dt)) := min_15 (by omega)
  have lx : a_max 0 (nI (ce % 16) - nI dt) = nI (ce % 16 - dt) := max_sub (by omega) (by omega)
  have ly : a_max 0 (nI (ce / 16) - nI dt) = nI (ce / 16 - dt) := max_sub (by omega) (by omega)
  -- a row of places
  have row : ∀ y, y < 16 → ∃ r r', lpf (fun a : Int32 => b_X7_holdsFor_85 (nI c) (24 + 3 * l) (nI mk) (a_max 0 (nI ra - nI hz)) (nI (ce % 16)) (nI (min 15 (ce % 16 + dt))) (nI (min 15 (ce / 16 + dt))) (nI y) a C) FU (nI (ce % 16 - dt)) = some r ∧ lpf (fun a : Int32 => b_X8_holds_93 (nI b) (nI c) (nI l) (nI dt) (nI (ce % 16)) (nI (ce / 16)) (nI y) a M) FU (nI (ce % 16 - dt)) = some r' ∧ ((r = .inl () ∧ r' = .inl ()) ∨ (r = .inr 1 ∧ r' = .inr 1)) := by
    intro y hy
    refine lpf_ct2 (body := fun a : Int32 => b_X7_holdsFor_85 (nI c) (24 + 3 * l) (nI mk) (a_max 0 (nI ra - nI hz)) (nI (ce % 16)) (nI (min 15 (ce % 16 + dt))) (nI (min 15 (ce / 16 + dt))) (nI y) a C) (body' := fun a : Int32 => b_X8_holds_93 (nI b) (nI c) (nI l) (nI dt) (nI (ce % 16)) (nI (ce / 16)) (nI y) a M) (fun i (_ : Unit) => nI i) (fun i _ => nI i) (fun _ _ => True) (min 15 (ce % 16 + dt) + 1) (Q := fun r r' => (r = .inl () ∧ r' = .inl ()) ∨ (r = .inr 1 ∧ r' = .inr 1)) ?_ ?_ FU (ce % 16 - dt) () (by omega) trivial (FU_lt (by omega))
    · intro _ _
      have hlt : nI (min 15 (ce % 16 + dt)) < nI (min 15 (ce % 16 + dt) + 1) := (nI_ltI (by omega) (by omega)).mpr (by omega)
      refine ⟨.inl (), .inl (), ?_, ?_, Or.inl ⟨rfl, rfl⟩⟩
      · show b_X7_holdsFor_85 _ _ _ _ _ _ _ _ (nI (min 15 (ce % 16 + dt) + 1)) C = _
        rw [b_X7_holdsFor_85, if_pos hlt]
      · show b_X8_holds_93 _ _ _ _ _ _ _ (nI (min 15 (ce % 16 + dt) + 1)) M = _
        rw [b_X8_holds_93, mx, if_pos hlt]
    · intro x _ hx _
      have hn : ¬ nI (min 15 (ce % 16 + dt)) < nI x := fun z => by have := (nI_ltI (by omega) (by omega)).mp z; omega
      rcases spot (C := C) (M := M) (l := l) (b := b) (c := c) (y := y) (x := x) (by omega) (by omega) hc hy (by omega) n2 h5' b1 b2 hf ht hm hbt (nI (ce % 16)) (nI (min 15 (ce % 16 + dt))) (nI (min 15 (ce / 16 + dt))) (nI dt) (nI (ce % 16)) (nI (ce / 16)) hn (by rw [mx]; exact hn) (24 + 3 * l) with ⟨u1, u2⟩ | ⟨u1, u2⟩
      · exact Or.inl ⟨(), u1, u2, trivial⟩
      · exact Or.inr ⟨_, _, u1, u2, Or.inr ⟨rfl, rfl⟩⟩
  obtain ⟨r, r', e7, e8, hrr⟩ := lpf_ct2 (body := fun a : Int32 => b_X7_holdsFor_65 (nI c) (24 + 3 * l) (nI mk) (a_max 0 (nI ra - nI hz)) (nI (ce % 16)) (nI (min 15 (ce % 16 + dt))) (nI (min 15 (ce / 16 + dt))) a C) (body' := fun a : Int32 => b_X8_holds_67 (nI b) (nI c) (nI l) (nI dt) (nI (ce % 16)) (nI (ce / 16)) a M) (fun i (_ : Unit) => nI i) (fun i _ => nI i) (fun _ _ => True) (min 15 (ce / 16 + dt) + 1) (Q := fun r r' => (r = .inl () ∧ r' = .inl ()) ∨ (r = .inr 1 ∧ r' = .inr 1)) (by
    intro _ _
    have hlt : nI (min 15 (ce / 16 + dt)) < nI (min 15 (ce / 16 + dt) + 1) := (nI_ltI (by omega) (by omega)).mpr (by omega)
    refine ⟨.inl (), .inl (), ?_, ?_, Or.inl ⟨rfl, rfl⟩⟩
    · show b_X7_holdsFor_65 _ _ _ _ _ _ _ (nI (min 15 (ce / 16 + dt) + 1)) C = _
      rw [b_X7_holdsFor_65, if_pos hlt]
    · show b_X8_holds_67 _ _ _ _ _ _ (nI (min 15 (ce / 16 + dt) + 1)) M = _
      rw [b_X8_holds_67, my, if_pos hlt]) (by
    intro y _ hy _
    have hn : ¬ nI (min 15 (ce / 16 + dt)) < nI y := fun z => by have := (nI_ltI (by omega) (by omega)).mp z; omega
    obtain ⟨r, r', e1, e2, h3⟩ := row y (by omega)
    have u1 : b_X7_holdsFor_65 (nI c) (24 + 3 * l) (nI mk) (a_max 0 (nI ra - nI hz)) (nI (ce % 16)) (nI (min 15 (ce % 16 + dt))) (nI (min 15 (ce / 16 + dt))) (nI y) C = Sum.elim (fun z10a => some (.inl (nI (y + 1)))) (fun z12 => some (.inr (.inr z12))) r := by
      rw [b_X7_holdsFor_65, if_neg hn, g9, lx, e1, Option.bind_some, nI_1]
    have u2 : b_X8_holds_67 (nI b) (nI c) (nI l) (nI dt) (nI (ce % 16)) (nI (ce / 16)) (nI y) M = Sum.elim (fun z10a => some (.inl (nI (y + 1)))) (fun z12 => some (.inr (.inr z12))) r' := by
      rw [b_X8_holds_67, my, if_neg hn, lx, e2, Option.bind_some, nI_1]
    rcases h3 with ⟨rfl, rfl⟩ | ⟨rfl, rfl⟩
    · exact Or.inl ⟨(), u1, u2, trivial⟩
    · exact Or.inr ⟨_, _, u1, u2, Or.inr ⟨rfl, rfl⟩⟩) FU (ce / 16 - dt) () (by omega) trivial (FU_lt (by omega))
  have e230 : (230 : Int32) + 3 * nI b = nI (230 + 3 * b) := by
    rw [show (230 : Int32) = nI 230 from rfl, show (3 : Int32) = nI 3 from rfl, pk_mul, nI_add]
  have o7 : f_X8_of (nI l) 7 M = some (nI (10 + 22 * l + 7)) := of_nI
  have o1 : f_X8_of (nI l) 1 M = some (nI (10 + 22 * l + 1)) := of_nI
  have f7 : f_X7_holdsFor (nI c) (24 + 3 * l) (C.1 4 b &&& 65535) C = Sum.elim (fun z14a => some (0 : Int32)) (fun z16 => some z16) r := by
    rw [f_X7_holdsFor, hr, Option.bind_some, hmask, g1, g9, and15 (by omega), shr4 (by omega), mx, my, ly, e7, Option.bind_some]
  have f8 : f_X8_holds (nI b) (nI c) M = Sum.elim (fun z14a => some (0 : Int32)) (fun z16 => some z16) r' := by
    rw [f_X8_holds, e230, m_ldN (by omega) (by omega), Option.bind_some, b0, o7, Option.bind_some, m_ldN (by omega) (by omega), Option.bind_some, o1, Option.bind_some, m_ldN (by omega) (by omega), Option.bind_some, Option.bind_some, m_ldN (by omega) (by omega), Option.bind_some, n7, n1, rem16 (by omega), div16 (by omega), ly, e8, Option.bind_some]
  rcases hrr with ⟨rfl, rfl⟩ | ⟨rfl, rfl⟩
  · exact ⟨0, l, Or.inl rfl, by omega, hkb, f7, f8⟩
  · exact ⟨1, l, Or.inr rfl, by omega, hkb, f7, f8⟩
theorem fixc_ok {C : aSc} {M : aMm} {nl nb nf nw hz dy c : Nat} (hV : V_all C (M 1) nl nb nf nw hz dy) (hc : c < 256) : ∃ v : Int32, (v = 0 ∨ v = 1) ∧ f_X7_holdsForAll (nI c) C = some v ∧ f_X8_isInFix (nI c) M = some v := by
  have H : ∀ b, b < nb → ∃ v : Bool, ∃ l : Nat, l < 10 ∧ C.1 4 b >>> ((16 : Int32) &&& 31) = nI l ∧ f_X7_holdsFor (nI c) (24 + 3 * l) (C.1 4 b &&& 65535) C = some (if v then 1 else 0) ∧ f_X8_holds (nI b) (nI c) M = some (if v then 1 else 0) := by
    intro b hb
    obtain ⟨v, l, hv, hl, e, e7, e8⟩ := holds_ok hV hc hb
    rcases hv with rfl | rfl
    · exact ⟨false, l, hl, e, e7, e8⟩
    · exact ⟨true, l, hl, e, e7, e8⟩
  obtain ⟨hv, hH⟩ : ∃ hv : Nat → Bool, ∀ b, b < nb → ∃ l : Nat, l < 10 ∧ C.1 4 b >>> ((16 : Int32) &&& 31) = nI l ∧ f_X7_holdsFor (nI c) (24 + 3 * l) (C.1 4 b &&& 65535) C = some (if hv b then 1 else 0) ∧ f_X8_holds (nI b) (nI c) M = some (if hv b then 1 else 0) := by
    refine ⟨fun b => if h : b < nb then Classical.choose (H b h) else true, fun b hb => ?_⟩
    simp only [hb, dif_pos]
    exact Classical.choose_spec (H b hb)
  obtain ⟨⟨h0, -, ⟨h2, h2'⟩, -⟩, -⟩ := id hV
  have g6 : a_gi C 0 6 = nI nb := h2
  have hl4 : a_len 4 (C.2.2 4) = 8 := rfl
  have m1 : m_ld M 1 1 = some (nI nb) := by
    have := m_ldN (M := M) (m := 1) (k := 1) (by decide) (by decide)
    rw [h2'] at this
    exact this
  obtain ⟨r, e7, q7⟩ := lpf_ct (body := fun a : Int32 => b_X7_holdsForAll_2 (nI c) a C) (fun i (_ : Unit) => nI i) (fun i _ => ∀ j, j < i → hv j = true) nb (Q := fun b => (b = .inl () ∧ ∀ j, j < nb → hv j = true) ∨ (b = .inr 0 ∧ ∃ j, j < nb ∧ hv j = false)) (by
    intro _ hI
    refine ⟨.inl (), ?_, Or.inl ⟨rfl, hI⟩⟩
    show b_X7_holdsForAll_2 (nI c) (nI nb) C = _
    rw [b_X7_holdsForAll_2, g6, if_pos (Int32.le_refl _)]) (by
    intro i _ hi hI
    obtain ⟨l, hl, e, u7, u8⟩ := hH i hi
    have hb : b_X7_holdsForAll_2 (nI c) (nI i) C = if (if hv i then (1 : Int32) else 0) = 0 then some (.inr (.inr (0 : Int32))) else some (.inl (nI (i + 1))) := by
      rw [b_X7_holdsForAll_2, g6, if_neg (fun z => by have := (nI_leI (by omega) (by omega)).mp z; omega), a_ldN (by omega) (by omega), Option.bind_some, e, a_rfN hl (by omega), Option.bind_some, Option.bind_some, u7, Option.bind_some, nI_1]
    cases hq : hv i with
    | true =>
      rw [hq] at hb
      refine Or.inl ⟨(), hb.trans (if_neg (by decide)), fun j hj => ?_⟩
      by_cases ej : j = i
      · subst ej; exact hq
      · exact hI j (by omega)
    | false =>
      rw [hq] at hb
      exact Or.inr ⟨.inr 0, hb.trans (if_pos (by decide)), Or.inr ⟨rfl, i, hi, hq⟩⟩) FU 0 () (by omega) (fun j hj => absurd hj (by omega)) (FU_lt (by omega))
  obtain ⟨r', e8, q8⟩ := lpf_ct (body := fun a : Int32 × Int32 => b_X8_isInFix_4 (nI c) a.1 a.2 M) (fun i s => (s, nI i)) (fun i s => (s = 1 ∧ ∀ j, j < i → hv j = true) ∨ (s = 0 ∧ ∃ j, j < i ∧ hv j = false)) nb (Q := fun s => (s = 1 ∧ ∀ j, j < nb → hv j = true) ∨ (s = 0 ∧ ∃ j, j < nb ∧ hv j = false)) (by
    intro s hI
    refine ⟨s, ?_, hI⟩
    show b_X8_isInFix_4 (nI c) s (nI nb) M = _
    rw [b_X8_isInFix_4, m1, Option.bind_some, if_pos (Int32.le_refl _)]) (by
    intro i s hi hI
    obtain ⟨l, hl, e, u7, u8⟩ := hH i hi
    have hb : b_X8_isInFix_4 (nI c) s (nI i) M = if s = 0 then some (.inl ((0 : Int32), nI (i + 1))) else if (if hv i then (1 : Int32) else 0) = 0 then some (.inl ((0 : Int32), nI (i + 1))) else some (.inl ((1 : Int32), nI (i + 1))) := by
      rw [b_X8_isInFix_4, m1, Option.bind_some, if_neg (fun z => by have := (nI_leI (by omega) (by omega)).mp z; omega), u8, Option.bind_some, nI_1]
    rcases hI with ⟨rfl, hI⟩ | ⟨rfl, j, hj, hq⟩
    · cases hq : hv i with
      | true =>
        rw [hq] at hb
        refine Or.inl ⟨1, hb.trans (by rw [if_neg (by decide), if_neg (by decide)]), Or.inl ⟨rfl, fun j hj => ?_⟩⟩
        by_cases ej : j = i
        · subst ej; exact hq
        · exact hI j (by omega)
      | false =>
        rw [hq] at hb
        exact Or.inl ⟨0, hb.trans (by rw [if_neg (by decide), if_pos (by decide)]), Or.inr ⟨rfl, i, by omega, hq⟩⟩
    · exact Or.inl ⟨0, hb.trans (if_pos rfl), Or.inr ⟨rfl, j, by omega, hq⟩⟩) FU 0 1 (by omega) (Or.inl ⟨rfl, fun j hj => absurd hj (by omega)⟩) (FU_lt (by omega))
  rw [show (nI 0) = (0 : Int32) from rfl] at e7 e8
  rcases q7 with ⟨rfl, a7⟩ | ⟨rfl, j7, hj7, a7⟩
  · rcases q8 with ⟨rfl, -⟩ | ⟨rfl, j, hj, a8⟩
    · refine ⟨1, Or.inr rfl, ?_, ?_⟩
      · rw [f_X7_holdsForAll, e7, Option.bind_some]; rfl
      · rw [f_X8_isInFix, e8, Option.bind_some, if_pos (by decide)]
    · rw [a7 j hj] at a8; exact absurd a8 (by decide)
  · rcases q8 with ⟨rfl, a8⟩ | ⟨rfl, -⟩
    · rw [a8 j7 hj7] at a7; exact absurd a7 (by decide)
    · refine ⟨0, Or.inl rfl, ?_, ?_⟩
      · rw [f_X7_holdsForAll, e7, Option.bind_some]; rfl
      · rw [f_X8_isInFix, e8, Option.bind_some, if_pos (by decide)]
/-- the relation looks at all but these two -/
theorem rel_fx {C C' : aSc} {M : aMm} (hR : Rel C M) (hC : ∀ c j, c ≠ 20 → ¬ (c = 0 ∧ j = 15) → C'.1 c j = C.1 c j) (hC2 : C'.2 = C.2) (hF : R_f C' (M 1)) : Rel C' M := by
  obtain ⟨hV, ⟨n, t1, t2, t3, t4⟩, hH, hD, ⟨kp, top, p1, p2, p3, p4, p5, p6⟩, -, hG⟩ := hR
  refine ⟨?_, ⟨n, t1, ?_, t3, ?_⟩, ?_, ?_, ⟨kp, top, p1, p2, ?_, p4, ?_, ?_⟩, hF, ?_⟩
  · refine Vw_cong (fun c j h => hC c j ?_ ?_) (fun c j _ _ => by rw [hC2]) (fun _ _ => rfl) hV
    · rintro rfl; simp [vr] at h
    · rintro ⟨rfl, rfl⟩; simp [vr] at h
  · rw [hC 1 1 (by omega) (by omega)]; exact t2
  · intro i hi
    rw [hC 2 i (by omega) (by omega)]; exact t4 i hi
  · intro s hs
    obtain ⟨w, n, h1, h2, h3, h4, h5, h6, h7, h8⟩ := hH s hs
    refine ⟨w, n, h1, h2, h3, ?_, h5, ?_, h7, ?_⟩
    · rw [hC _ _ (by omega) (by omega)]; exact h4
    · rw [hC _ _ (by omega) (by omega)]; exact h6
    · intro i hi
      rw [hC _ _ (by omega) (by omega)]; exact h8 i hi
  · show C'.1 0 18 = M 0 3
    rw [hC 0 18 (by omega) (by omega)]; exact hD
  · rw [hC 22 2 (by omega) (by omega)]; exact p3
  · rw [hC 22 1 (by omega) (by omega)]; exact p5
  · intro k hk
    have hr : C'.1 (63 + 2 * ((top + 16 - kp + k) % 16)) = C.1 (63 + 2 * ((top + 16 - kp + k) % 16)) := funext fun j => hC _ j (by omega) (by omega)
    rw [hC _ _ (by omega) (by omega), hC _ _ (by omega) (by omega), hC _ _ (by omega) (by omega), hr]
    exact p6 k hk
  · unfold R_g
    rw [hC2, hC 0 13 (by omega) (by omega), hC 14 0 (by omega) (by omega)]
    refine ⟨hG.1, ?_⟩
    rcases hG.2 with h | ⟨h, h2, h3⟩
    · exact Or.inl h
    · exact Or.inr ⟨h, h2, fun d h4 h5 => by rw [hC 15 d (by omega) (by omega)]; exact h3 d h4 h5⟩
theorem findFix_ok {C : aSc} {M : aMm} (hR : Rel C M) : ∃ C', f_X7_findFix C = some C' ∧ Rel C' M ∧ ∀ c, c < 256 → (C'.1 20 c = 0 ∨ C'.1 20 c = 1) ∧ f_X8_isInFix (nI c) M = some (C'.1 20 c) := by
  obtain ⟨nl, nb, nf, nw, hz, dy, hV⟩ := hR.1
  rcases hR.2.2.2.2.2.1 with h15 | ⟨h15, hF⟩
  rotate_left
  · have g15 : a_gi C 0 15 = 1 := h15
    exact ⟨C, by rw [f_X7_findFix, g15, if_neg (by decide)], hR, fun c hc => ⟨(hF c hc).1, (hF c hc).2 M rfl⟩⟩
  have g15 : a_gi C 0 15 = 0 := h15
  obtain ⟨z, e1, q1⟩ := lpf_ct (body := fun a : Int32 × aSc => b_X7_findFix_10 a.1 a.2) (fun i s => (nI i, s)) (fun i s => s.2 = C.2 ∧ (∀ c j, c ≠ 20 → s.1 c j = C.1 c j) ∧ ∀ c, c < i → (s.1 20 c = 0 ∨ s.1 20 c = 1) ∧ ∀ M' : aMm, M' 1 = M 1 → f_X8_isInFix (nI c) M' = some (s.1 20 c)) 256 (Q := fun s => s.2 = C.2 ∧ (∀ c j, c ≠ 20 → s.1 c j = C.1 c j) ∧ ∀ c, c < 256 → (s.1 20 c = 0 ∨ s.1 20 c = 1) ∧ ∀ M' : aMm, M' 1 = M 1 → f_X8_isInFix (nI c) M' = some (s.1 20 c)) (by
    intro s hs
    refine ⟨s, ?_, hs⟩
    show b_X7_findFix_10 (nI 256) s = _
    rw [b_X7_findFix_10, if_pos (show (256 : Int32) ≤ nI 256 from by decide)]) (by
    rintro i s hi ⟨s1, s2, s3⟩
    have hVs : V_all s (M 1) nl nb nf nw hz dy := V_all_cong (fun c j h => s2 c j (by rintro rfl; simp [vr] at h)) (fun c j _ _ => by rw [s1]) (fun _ _ => rfl) hV
    obtain ⟨v, hv, u7, u8⟩ := fixc_ok (M := M) hVs (c := i) hi
    have hl : a_len 20 (s.2.2 20) = 256 := rfl
    refine Or.inl ⟨a_pi s 20 i v, ?_, s1, fun c j h => ?_, fun c hc => ?_⟩
    · show b_X7_findFix_10 (nI i) s = _
      rw [b_X7_findFix_10, if_neg (show ¬ (256 : Int32) ≤ nI i from fun z => by have := (nI_leI (a := 256) (by omega) (by omega)).mp z; omega), u7, Option.bind_some, nar01 hv, a_stN (by omega) (by omega), Option.bind_some, nI_1]
    · rw [a_pi_ne (by omega)]; exact s2 c j h
    · by_cases e : c = i
      · subst e
        rw [a_pi_at]
        refine ⟨hv, fun M' hM' => ?_⟩
        obtain ⟨v', hv', w7, w8⟩ := fixc_ok (C := s) (M := M') (by rw [hM']; exact hVs) (c := c) hi
        rw [u7] at w7
        cases w7
        exact w8
      · rw [a_pi_ne (by omega)]; exact s3 c (by omega)) FU 0 C (by omega) ⟨rfl, fun _ _ _ => rfl, fun c hc => absurd hc (by omega)⟩ (FU_lt (by omega))
  obtain ⟨z1, z2, z3⟩ := q1
  rw [show (nI 0) = (0 : Int32) from rfl] at e1
  have hz3 : ∀ c, c < 256 → ((a_pi z 0 15 1).1 20 c = 0 ∨ (a_pi z 0 15 1).1 20 c = 1) ∧ ∀ M' : aMm, M' 1 = M 1 → f_X8_isInFix (nI c) M' = some ((a_pi z 0 15 1).1 20 c) := fun c hc => by rw [a_pi_ne (by omega)]; exact z3 c hc
  refine ⟨a_pi z 0 15 1, ?_, rel_fx hR (fun c j h1 h2 => by rw [a_pi_ne h2]; exact z2 c j h1) z1 (Or.inr ⟨a_pi_at, hz3⟩), fun c hc => ⟨(hz3 c hc).1, (hz3 c hc).2 M rfl⟩⟩
  rw [f_X7_findFix, g15, if_pos (by decide), e1, Option.bind_some, Option.bind_some]
theorem pr_may (a0 : Int32) {C : aSc} {M : aMm} (hR : Rel C M) : ∃ (v : Int32) (C' : aSc) (M' : aMm), f_X7_may a0 C = some (v, C') ∧ f_X8_may a0 M = some (v, M') ∧ Rel C' M' := by
  rcases cell_pair (C := C) (M := M) a0 with ⟨c, hc, rfl, j1, j2⟩ | ⟨j1, j2⟩
  rotate_left
  · refine ⟨-100001, _, _, ?_, ?_, rel_refuse hR⟩
    · rw [f_X7_may, j1, Option.bind_some, if_pos (by decide)]; rfl
    · rw [f_X8_may, j2, Option.bind_some, if_pos (by decide)]; rfl
  obtain ⟨C', e1, hR', h⟩ := findFix_ok hR
  obtain ⟨h1, h2⟩ := h c (by omega)
  have hl : a_len 20 (C'.2.2 20) = 256 := rfl
  by_cases z : C'.1 20 c = 0
  · refine ⟨0, C', M, ?_, ?_, hR'⟩
    · rw [f_X7_may, j1, Option.bind_some, if_neg (by decide), e1, Option.bind_some, a_ldN (by omega) (by omega), Option.bind_some, if_pos z]
    · rw [f_X8_may, j2, Option.bind_some, if_neg (by decide), h2, Option.bind_some, if_pos z]
  · refine ⟨1, C', M, ?_, ?_, hR'⟩
    · rw [f_X7_may, j1, Option.bind_some, if_neg (by decide), e1, Option.bind_some, a_ldN (by omega) (by omega), Option.bind_some, if_neg z]
    · rw [f_X8_may, j2, Option.bind_some, if_neg (by decide), h2, Option.bind_some, if_neg z]
theorem pr_fix (a0 : Int32) (z0 : a0 = 0 ∨ a0 = 1) {C : aSc} {M : aMm} (hR : Rel C M) : ∃ (v : Int32) (C' : aSc) (M' : aMm), f_X7_fix a0 C = some (v, C') ∧ f_X8_fix a0 M = some (v, M') ∧ Rel C' M' := by
  obtain ⟨C', e1, hR', h⟩ := findFix_ok hR
  have hl : a_len 20 (C'.2.2 20) = 256 := rfl
  obtain ⟨b, b', e7, e8, hQ⟩ := lpf_ct2 (body := fun a : Int32 × Int32 => b_X7_fix_8 a0 a.1 a.2 C') (body' := fun a : Int32 × Int32 => b_X8_fix_4 a0 a.1 a.2 M) (fun i (s : Int32) => (s, nI i)) (fun i s => (s, nI i)) (fun _ _ => True) 256 (Q := fun b b' => (∃ v, b = .inl v ∧ b' = .inl v) ∨ (∃ v, b = .inr (v, C') ∧ b' = .inr (v, M))) (by
    intro s _
    refine ⟨.inl s, .inl s, ?_, ?_, Or.inl ⟨s, rfl, rfl⟩⟩
    · show b_X7_fix_8 a0 s (nI 256) C' = _
      rw [b_X7_fix_8, if_pos (show (256 : Int32) ≤ nI 256 from by decide)]
    · show b_X8_fix_4 a0 s (nI 256) M = _
      rw [b_X8_fix_4, if_pos (show (256 : Int32) ≤ nI 256 from by decide)]) (by
    intro i s hi _
    obtain ⟨h1, h2⟩ := h i hi
    have hn : ¬ (256 : Int32) ≤ nI i := fun z => by have := (nI_leI (a := 256) (by omega) (by omega)).mp z; omega
    have u7 : b_X7_fix_8 a0 s (nI i) C' = if C'.1 20 i = 0 then some (.inl (s, nI (i + 1))) else if a0 = 0 then some (.inl (s + 1, nI (i + 1))) else some (.inr (.inr (nI i, C'))) := by
      rw [b_X7_fix_8, if_neg hn, a_ldN (by omega) (by omega), Option.bind_some, nI_1]
    have u8 : b_X8_fix_4 a0 s (nI i) M = if C'.1 20 i = 0 then some (.inl (s, nI (i + 1))) else if a0 = 0 then some (.inl (s + 1, nI (i + 1))) else some (.inr (.inr (nI i, M))) := by
      rw [b_X8_fix_4, if_neg hn, h2, Option.bind_some]
      by_cases z : C'.1 20 i = 0
      · rw [if_pos z, if_pos z, g_X8_fix_29, if_pos z, nI_1, Int32.add_zero]
      · rw [if_neg z, if_neg z, g_X8_fix_29, if_neg z, nI_1]
    by_cases z : C'.1 20 i = 0
    · rw [if_pos z] at u7 u8
      exact Or.inl ⟨s, u7, u8, trivial⟩
    rw [if_neg z] at u7 u8
    by_cases y : a0 = 0
    · rw [if_pos y] at u7 u8
      exact Or.inl ⟨s + 1, u7, u8, trivial⟩
    · rw [if_neg y] at u7 u8
      exact Or.inr ⟨_, _, u7, u8, Or.inr ⟨nI i, rfl, rfl⟩⟩) FU 0 0 (by omega) trivial (FU_lt (by omega))
  rw [show (nI 0) = (0 : Int32) from rfl] at e7 e8
  rcases hQ with ⟨v, rfl, rfl⟩ | ⟨v, rfl, rfl⟩
  · by_cases y : a0 = 0
    · refine ⟨v, C', M, ?_, ?_, hR'⟩
      · rw [f_X7_fix, e1, Option.bind_some, e7, Option.bind_some]
        exact if_pos y
      · rw [f_X8_fix, e8, Option.bind_some]
        exact if_pos y
    · refine ⟨-100006, _, _, ?_, ?_, rel_refuse hR'⟩
      · rw [f_X7_fix, e1, Option.bind_some, e7, Option.bind_some]
        exact if_neg y
      · rw [f_X8_fix, e8, Option.bind_some]
        exact if_neg y
  · refine ⟨v, C', M, ?_, ?_, hR'⟩
    · rw [f_X7_fix, e1, Option.bind_some, e7, Option.bind_some]; rfl
    · rw [f_X8_fix, e8, Option.bind_some]; rfl

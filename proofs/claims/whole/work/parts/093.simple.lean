theorem V_l_cong {C C' : aSc} {N N' : Nat → Int32} {l : Nat} (h1 : ∀ j, C'.1 (24 + 3 * l) j = C.1 (24 + 3 * l) j) (h2 : ∀ j, C'.1 (26 + 3 * l) j = C.1 (26 + 3 * l) j) (h3 : C'.2.1 (24 + 3 * l) 5 = C.2.1 (24 + 3 * l) 5) (h4 : ∀ j, C'.2.1 (25 + 3 * l) j = C.2.1 (25 + 3 * l) j) (hN : ∀ g, g < 22 → N' (10 + 22 * l + g) = N (10 + 22 * l + g)) (h : V_l C N l) : V_l C' N' l := by
  have vp : ∀ f g lo hi, g < 22 → V_p C N l f g lo hi → V_p C' N' l f g lo hi := by
    rintro f g lo hi hg ⟨x, a, b, c, d⟩
    exact ⟨x, a, b, by rw [h1]; exact c, by rw [hN _ hg]; exact d⟩
  obtain ⟨p1, p2, p3, p4, ⟨se, bt, r1, r2, r3, r4, r5, r6, r7, r8⟩, ⟨ns, s1, s2, s3, s4⟩, p5, p6, p7⟩ := h
  refine ⟨vp _ _ _ _ (by omega) p1, vp _ _ _ _ (by omega) p2, vp _ _ _ _ (by omega) p3, vp _ _ _ _ (by omega) p4, ⟨se, bt, r1, r2, r3, ?_, ?_, ?_, ?_, ?_⟩, ⟨ns, s1, ?_, ?_, ?_⟩, vp _ _ _ _ (by omega) p5, vp _ _ _ _ (by omega) p6, vp _ _ _ _ (by omega) p7⟩
  · rw [h1]; exact r4
  · rw [hN _ (by omega)]; exact r5
  · rw [h3]; exact r6
  · rw [hN _ (by omega)]; exact r7
  · intro i hi
    rw [h4]
    exact r8 i hi
  · rw [h1]; exact s2
  · rw [hN _ (by omega)]; exact s3
  · intro s hs
    rw [hN _ (by omega), hN _ (by omega), hN _ (by omega), h2]
    exact s4 s hs
theorem V_b_cong {C C' : aSc} {N N' : Nat → Int32} {nl b : Nat} (h : C'.1 4 b = C.1 4 b) (hN : ∀ g, g < 3 → N' (230 + 3 * b + g) = N (230 + 3 * b + g)) (hv : V_b C N nl b) : V_b C' N' nl b := by
  obtain ⟨l, fr, to, a, b1, c, d, e⟩ := hv
  exact ⟨l, fr, to, a, by have := hN 0 (by omega); rw [Nat.add_zero] at this; rw [this]; exact b1, by rw [hN 1 (by omega)]; exact c, by rw [hN 2 (by omega)]; exact d, by rw [h]; exact e⟩
theorem V_f_cong {C C' : aSc} {N N' : Nat → Int32} {nf : Nat} (e5 : ∀ j, j < nf → C'.1 5 j = C.1 5 j) (hN : ∀ j, j < nf → N' (254 + j) = N (254 + j)) (hv : V_f C N nf) : V_f C' N' nf := by
  obtain ⟨f1, f2, f3, f4, f5, f6⟩ := hv
  refine ⟨?_, ?_, ?_, ?_, ?_, ?_⟩
  · intro i hi; rw [e5 i hi]; exact f1 i hi
  · intro i hi; rw [hN i hi]; exact f2 i hi
  · intro i j hi hj; rw [e5 i hi, e5 j hj]; exact f3 i j hi hj
  · intro i j hi hj; rw [hN i hi, hN j hj]; exact f4 i j hi hj
  · intro i hi
    obtain ⟨j, a, b⟩ := f5 i hi
    exact ⟨j, a, by rw [hN j a, e5 i hi]; exact b⟩
  · intro i hi
    obtain ⟨j, a, b⟩ := f6 i hi
    exact ⟨j, a, by rw [hN i hi, e5 j a]; exact b⟩
theorem V_w_cong {C C' : aSc} {N N' : Nat → Int32} {w : Nat} (h : ∀ c, 8 ≤ c → c ≤ 12 → C'.1 c w = C.1 c w) (hN : ∀ g, g < 5 → N' (266 + 5 * w + g) = N (266 + 5 * w + g)) (hv : V_w C N w) : V_w C' N' w := by
  have h0 := hN 0 (by omega)
  rw [Nat.add_zero] at h0
  unfold V_w
  rw [h 8 (by omega) (by omega), h 9 (by omega) (by omega), h 10 (by omega) (by omega), h 11 (by omega) (by omega), h 12 (by omega) (by omega), h0, hN 1 (by omega), hN 2 (by omega), hN 3 (by omega), hN 4 (by omega)]
  exact hv
theorem V_d_cong {C C' : aSc} {N N' : Nat → Int32} {d : Nat} (h : C'.1 13 d = C.1 13 d) (hN : N' (366 + d) = N (366 + d)) (hv : V_d C N d) : V_d C' N' d := by
  obtain ⟨x, a, b, c⟩ := hv
  exact ⟨x, a, by rw [h]; exact b, by rw [hN]; exact c⟩
/-- all but the counts -/
theorem V_rest {C C' : aSc} {N N' : Nat → Int32} {nl nb nf nw hz dy : Nat} (hV : V_all C N nl nb nf nw hz dy) (hC : ∀ c j, (c = 4 ∨ c = 5 ∨ (8 ≤ c ∧ c ≤ 13) ∨ (24 ≤ c ∧ c < 54)) → C'.1 c j = C.1 c j) (hl : ∀ c j, 24 ≤ c → c < 54 → C'.2.1 c j = C.2.1 c j) (hN : ∀ j, 10 ≤ j → j < 386 → N' j = N j) : (∀ l, l < nl → V_l C' N' l) ∧ (∀ b, b < nb → V_b C' N' nl b) ∧ V_f C' N' nf ∧ (∀ w, w < nw → V_w C' N' w) ∧ ∀ d, d < 20 → V_d C' N' d := by
  obtain ⟨⟨h0, _⟩, hL, hB, hF, hW, hD⟩ := hV
  refine ⟨fun l h => V_l_cong (fun j => hC _ _ (by omega)) (fun j => hC _ _ (by omega)) (hl _ _ (by omega) (by omega)) (fun j => hl _ _ (by omega) (by omega)) (fun g hg => hN _ (by omega) (by omega)) (hL l h), fun b h => V_b_cong (hC _ _ (by omega)) (fun g hg => hN _ (by omega) (by omega)) (hB b h), V_f_cong (fun j _ => hC _ _ (by omega)) (fun j h => hN _ (by omega) (by omega)) hF, fun w h => V_w_cong (fun c _ _ => hC _ _ (by omega)) (fun g hg => hN _ (by omega) (by omega)) (hW w h), fun d h => V_d_cong (hC _ _ (by omega)) (hN _ (by omega) (by omega)) (hD d h)⟩
theorem V_haze {C : aSc} {N N' : Nat → Int32} {nl nb nf nw hz dy k : Nat} (hV : V_all C N nl nb nf nw hz dy) (hk : k ≤ 15) (hN : ∀ j, j < 386 → N' j = upd N 4 (nI k) j) : V_all (a_pi C 0 3 (nI k)) N' nl nb nf nw k dy := by
  have hn : ∀ j, j < 386 → j ≠ 4 → N' j = N j := fun j h h4 => by rw [hN j h, upd_ne h4]
  refine ⟨?_, V_rest hV (fun c j h => a_pi_ne (by omega)) (fun _ _ _ _ => rfl) (fun j h h2 => hn j h2 (by omega))⟩
  obtain ⟨⟨h0, h1, h2, h3, h4, h5, h6⟩, -⟩ := hV
  refine ⟨by omega, ?_, ?_, ?_, ?_, ⟨a_pi_at, by rw [hN 4 (by omega), upd_at]⟩, ?_⟩
  · rw [a_pi_ne (by omega), hn 0 (by omega) (by omega)]; exact h1
  · rw [a_pi_ne (by omega), hn 1 (by omega) (by omega)]; exact h2
  · rw [a_pi_ne (by omega), hn 2 (by omega) (by omega)]; exact h3
  · rw [a_pi_ne (by omega), hn 3 (by omega) (by omega)]; exact h4
  · rw [a_pi_ne (by omega), hn 5 (by omega) (by omega)]; exact h6
theorem V_day {C : aSc} {N N' : Nat → Int32} {nl nb nf nw hz dy k : Nat} (hV : V_all C N nl nb nf nw hz dy) (hk : k ≤ 19) (hN : ∀ j, j < 386 → N' j = upd N 5 (nI k) j) : V_all (a_pi C 0 4 (nI k)) N' nl nb nf nw hz k := by
  have hn : ∀ j, j < 386 → j ≠ 5 → N' j = N j := fun j h h4 => by rw [hN j h, upd_ne h4]
  refine ⟨?_, V_rest hV (fun c j h => a_pi_ne (by omega)) (fun _ _ _ _ => rfl) (fun j h h2 => hn j h2 (by omega))⟩
  obtain ⟨⟨h0, h1, h2, h3, h4, h5, h6⟩, -⟩ := hV
  refine ⟨by omega, ?_, ?_, ?_, ?_, ?_, ⟨a_pi_at, by rw [hN 5 (by omega), upd_at]⟩⟩
  · rw [a_pi_ne (by omega), hn 0 (by omega) (by omega)]; exact h1
  · rw [a_pi_ne (by omega), hn 1 (by omega) (by omega)]; exact h2
  · rw [a_pi_ne (by omega), hn 2 (by omega) (by omega)]; exact h3
  · rw [a_pi_ne (by omega), hn 3 (by omega) (by omega)]; exact h4
  · rw [a_pi_ne (by omega), hn 4 (by omega) (by omega)]; exact h5
/-- one of a light's plain numbers is set -/
theorem V_fld {C : aSc} {N N' : Nat → Int32} {nl nb nf nw hz dy l f g hi k : Nat} (hV : V_all C N nl nb nf nw hz dy) (hl : l < nl) (hfg : (f = 9 ∧ g = 7 ∧ hi = 3) ∨ (f = 10 ∧ g = 8 ∧ hi = 19) ∨ (f = 11 ∧ g = 9 ∧ hi = 9)) (hk : k ≤ hi) (hN : ∀ j, j < 386 → N' j = upd N (10 + 22 * l + g) (nI k) j) : V_all (a_pi C (24 + 3 * l) f (nI k)) N' nl nb nf nw hz dy := by
  obtain ⟨⟨h0, h1, h2, h3, h4, h5, h6⟩, hL, hB, hF, hW, hD⟩ := hV
  have hn : ∀ j, j < 386 → j ≠ 10 + 22 * l + g → N' j = N j := fun j h h4 => by rw [hN j h, upd_ne h4]
  refine ⟨⟨h0, ?_, ?_, ?_, ?_, ?_, ?_⟩, ?_, ?_, ?_, ?_, ?_⟩
  · rw [a_pi_ne (by omega), hn 0 (by omega) (by omega)]; exact h1
  · rw [a_pi_ne (by omega), hn 1 (by omega) (by omega)]; exact h2
  · rw [a_pi_ne (by omega), hn 2 (by omega) (by omega)]; exact h3
  · rw [a_pi_ne (by omega), hn 3 (by omega) (by omega)]; exact h4
  · rw [a_pi_ne (by omega), hn 4 (by omega) (by omega)]; exact h5
  · rw [a_pi_ne (by omega), hn 5 (by omega) (by omega)]; exact h6
  · intro l' hl'
    by_cases e : l' = l
    · subst e
      have vp : ∀ f' g' lo hi', f' ≠ f → g' ≠ g → g' < 22 → V_p C N l' f' g' lo hi' → V_p (a_pi C (24 + 3 * l') f (nI k)) N' l' f' g' lo hi' := by
        rintro f' g' lo hi' hf' hg' hg2 ⟨x, a, b, c, d⟩
        exact ⟨x, a, b, by rw [a_pi_ne (by omega)]; exact c, by rw [hn _ (by omega) (by omega)]; exact d⟩
      have vq : V_p (a_pi C (24 + 3 * l') f (nI k)) N' l' f g 0 hi := ⟨k, by omega, hk, a_pi_at, by rw [hN _ (by omega), upd_at]⟩
      obtain ⟨p1, p2, p3, p4, ⟨se, bt, r1, r2, r3, r4, r5, r6, r7, r8⟩, ⟨ns, s1, s2, s3, s4⟩, p5, p6, p7⟩ := hL l' hl'
      refine ⟨vp _ _ _ _ (by omega) (by omega) (by omega) p1, vp _ _ _ _ (by omega) (by omega) (by omega) p2, vp _ _ _ _ (by omega) (by omega) (by omega) p3, vp _ _ _ _ (by omega) (by omega) (by omega) p4, ⟨se, bt, r1, r2, r3, ?_, ?_, r6, ?_, r8⟩, ⟨ns, s1, ?_, ?_, ?_⟩, ?_, ?_, ?_⟩
      · rw [a_pi_ne (by omega)]; exact r4
      · rw [hn _ (by omega) (by omega)]; exact r5
      · rw [hn _ (by omega) (by omega)]; exact r7
      · rw [a_pi_ne (by omega)]; exact s2
      · rw [hn _ (by omega) (by omega)]; exact s3
      · intro s hs
        rw [hn _ (by omega) (by omega), hn _ (by omega) (by omega), hn _ (by omega) (by omega), a_pi_ne (by omega)]
        exact s4 s hs
      · rcases hfg with ⟨rfl, rfl, rfl⟩ | ⟨rfl, rfl, rfl⟩ | ⟨rfl, rfl, rfl⟩
        · exact vq
        · exact vp _ _ _ _ (by omega) (by omega) (by omega) p5
        · exact vp _ _ _ _ (by omega) (by omega) (by omega) p5
      · rcases hfg with ⟨rfl, rfl, rfl⟩ | ⟨rfl, rfl, rfl⟩ | ⟨rfl, rfl, rfl⟩
        · exact vp _ _ _ _ (by omega) (by omega) (by omega) p6
        · exact vq
        · exact vp _ _ _ _ (by omega) (by omega) (by omega) p6
      · rcases hfg with ⟨rfl, rfl, rfl⟩ | ⟨rfl, rfl, rfl⟩ | ⟨rfl, rfl, rfl⟩
        · exact vp _ _ _ _ (by omega) (by omega) (by omega) p7
        · exact vp _ _ _ _ (by omega) (by omega) (by omega) p7
        · exact vq
    · exact V_l_cong (fun j => a_pi_ne (by omega)) (fun j => a_pi_ne (by omega)) rfl (fun _ => rfl) (fun g' hg' => hn _ (by omega) (by omega)) (hL l' hl')
  · intro b hb
    exact V_b_cong (a_pi_ne (by omega)) (fun g' _ => hn _ (by omega) (by omega)) (hB b hb)
  · exact V_f_cong (fun j _ => a_pi_ne (by omega)) (fun j h => hn _ (by omega) (by omega)) hF
  · intro w hw
    exact V_w_cong (fun c _ _ => a_pi_ne (by omega)) (fun g' _ => hn _ (by omega) (by omega)) (hW w hw)
  · intro d hd
    exact V_d_cong (a_pi_ne (by omega)) (hn _ (by omega) (by omega)) (hD d hd)
/-! the plain tests -/
theorem within_in {M : aMm} {lo hi k : Nat} (h1 : lo ≤ k) (h2 : k ≤ hi) (hh : hi < 2 ^ 31) : f_X8_within (nI k) (nI lo) (nI hi) M = some 1 := by
  rw [f_X8_within, if_neg (fun z => by have := (nI_ltI (by omega) (by omega)).mp z; omega), if_neg (fun z => by have := (nI_ltI (by omega) (by omega)).mp z; omega)]
theorem within_out {M : aMm} {x lo hi : Int32} (h : x < lo ∨ hi < x) : f_X8_within x lo hi M = some 0 := by
  rw [f_X8_within]
  by_cases h1 : x < lo
  · rw [if_pos h1]
  · rw [if_neg h1, if_pos (h.resolve_left h1)]
theorem isLight_pair {C : aSc} {M : aMm} {nl : Nat} (hn : nl ≤ 10) (h1 : C.1 0 2 = nI nl) (h2 : M 1 0 = nI nl) (x : Int32) : (∃ l, l < nl ∧ x = nI l ∧ f_X7_isLight x C = some 1 ∧ f_X8_isLight x M = some 1) ∨ (f_X7_isLight x C = some 0 ∧ f_X8_isLight x M = some 0) := by
  have hm : m_ld M 1 0 = some (nI nl) := by
    have := m_ldN (M := M) (m := 1) (k := 0) (by decide) (by decide)
    rw [h2] at this
    exact this
  have hsub : (nI nl - 1).toInt = (nl : Int) - 1 := pk_sub_toInt (a := nl) (b := 1) (by omega) (by omega)
  rcases nI_cases x 1000 (by decide) with ⟨k, hk, rfl⟩ | hneg | hbig
  · rcases Nat.lt_or_ge k nl with hlt | hge
    · refine Or.inl ⟨k, hlt, rfl, ?_, ?_⟩
      · rw [f_X7_isLight, if_neg (nI_pos (by omega)), if_neg]
        show ¬ C.1 0 2 ≤ nI k
        rw [h1]
        intro z
        have := (nI_leI (by omega) (by omega)).mp z
        omega
      · have e : nI nl - 1 = nI (nl - 1) := pk_sub (a := nl) (b := 1) (by omega)
        rw [f_X8_isLight, hm, Option.bind_some, e, show (0 : Int32) = nI 0 from rfl, within_in (by omega) (by omega) (by omega), Option.bind_some]
        rfl
    · refine Or.inr ⟨?_, ?_⟩
      · rw [f_X7_isLight, if_neg (nI_pos (by omega)), if_pos]
        show C.1 0 2 ≤ nI k
        rw [h1]
        exact (nI_leI (by omega) (by omega)).mpr hge
      · rw [f_X8_isLight, hm, Option.bind_some, within_out, Option.bind_some]
        · rfl
        · refine Or.inr (Int32.lt_iff_toInt_lt.mpr ?_)
          rw [hsub, nI_toInt (by omega)]
          omega
  · refine Or.inr ⟨by rw [f_X7_isLight, if_pos hneg], ?_⟩
    rw [f_X8_isLight, hm, Option.bind_some, within_out (Or.inl hneg), Option.bind_some]
    rfl
  · have h3 := Int32.lt_iff_toInt_lt.mp hbig
    rw [nI_toInt (by decide)] at h3
    have hnn : ¬ x < 0 := fun z => by
      have := Int32.lt_iff_toInt_lt.mp z
      have e0 : (0 : Int32).toInt = 0 := rfl
      omega
    refine Or.inr ⟨?_, ?_⟩
    · rw [f_X7_isLight, if_neg hnn, if_pos]
      show C.1 0 2 ≤ x
      rw [h1]
      refine Int32.le_iff_toInt_le.mpr ?_
      rw [nI_toInt (by omega)]
      omega
    · rw [f_X8_isLight, hm, Option.bind_some, within_out, Option.bind_some]
      · rfl
      · refine Or.inr (Int32.lt_iff_toInt_lt.mpr ?_)
        rw [hsub]
        omega
theorem step_ok (top : Nat) (h : top < 16) : 62 ≤ 62 + 2 * top ∧ 62 + 2 * top < 94 ∧ (62 + 2 * top) % 2 = 0 := by omega
theorem vr_t {c j : Nat} (h : vr c j = false) : ¬ (c = 0 ∧ (j = 2 ∨ j = 3 ∨ j = 4 ∨ j = 6 ∨ j = 8)) ∧ c ≠ 4 ∧ c ≠ 5 ∧ ¬ (c = 7 ∧ j = 0) ∧ ¬ (8 ≤ c ∧ c ≤ 13) ∧ ¬ (24 ≤ c ∧ c < 54) := by
  have h2 : ¬ vr c j = true := by rw [h]; simp
  simp [vr] at h2
  omega
theorem Bk_haze {No Nn : Nat → Int32} {k : Nat} (hk : k ≤ 15) (ho : No 4 = nI k) (v : Int32) (hn : ∀ j, j < 386 → Nn j = upd No 4 v j) (o : Int32) (row : Nat → Int32) : Bk 3 o (nI k) row Nn No := by
  rintro C c hc e0 e1 e2 e3 ⟨nl, nb, nf, nw, hz, dy, hV⟩
  refine ⟨a_pi C 0 3 (nI k), ?_, ⟨nl, nb, nf, nw, k, dy, V_haze hV hk (fun j hj => ?_)⟩, fun c j h => a_pi_ne (by have := vr_t h; omega), rfl⟩
  · have g0 : a_gi C c 0 = 3 := e0
    have g2 : a_gi C c 2 = nI k := e2
    rw [f_X7_takeBack, g0, g2]
    rfl
  · by_cases h4 : j = 4
    · subst h4; rw [upd_at]; exact ho
    · rw [upd_ne h4, hn j hj, upd_ne h4]
theorem Bk_day {No Nn : Nat → Int32} {k : Nat} (hk : k ≤ 19) (ho : No 5 = nI k) (v : Int32) (hn : ∀ j, j < 386 → Nn j = upd No 5 v j) (o : Int32) (row : Nat → Int32) : Bk 4 o (nI k) row Nn No := by
  rintro C c hc e0 e1 e2 e3 ⟨nl, nb, nf, nw, hz, dy, hV⟩
  refine ⟨a_pi C 0 4 (nI k), ?_, ⟨nl, nb, nf, nw, hz, k, V_day hV hk (fun j hj => ?_)⟩, fun c j h => a_pi_ne (by have := vr_t h; omega), rfl⟩
  · have g0 : a_gi C c 0 = 4 := e0
    have g2 : a_gi C c 2 = nI k := e2
    rw [f_X7_takeBack, g0, g2]
    rfl
  · by_cases h4 : j = 5
    · subst h4; rw [upd_at]; exact ho
    · rw [upd_ne h4, hn j hj, upd_ne h4]
theorem becomes_ok {M M1 : aMm} {k : Nat} {v : Int32} (hk : k < 386) (hkeep : f_X8_keep M = some M1) (h1 : M1 1 = M 1) : f_X8_becomes (nI k) v M = some (M 1 k, m_pi M1 1 k v) := by
  have hl : a_len (94 + 1) 0 = 386 := rfl
  rw [f_X8_becomes, hkeep, Option.bind_some, m_ldN (by omega) (by omega), Option.bind_some, m_stN (by omega) (by omega), Option.bind_some, h1]
theorem pr_haze (a0 : Int32) {C : aSc} {M : aMm} (hR : Rel C M) : ∃ (v : Int32) (C' : aSc) (M' : aMm), f_X7_haze a0 C = some (v, C') ∧ f_X8_haze a0 M = some (v, M') ∧ Rel C' M' := by
  obtain ⟨nl, nb, nf, nw, hz, dy, hV⟩ := hR.1
  obtain ⟨⟨h0, _, _, _, _, ⟨h5, h5'⟩, _⟩, -⟩ := id hV
  rcases nI_cases a0 15 (by decide) with ⟨k, hk, rfl⟩ | hneg | hbig
  · obtain ⟨top, C1, M1, ht, r1, k1, q1, q2, q3, q4, fin⟩ := act_ok hR 3 0 (nI hz)
    have e5 : a_gi C 0 3 = nI hz := h5
    have hM1 : M1 1 = M 1 := q3 1 (by omega) (by omega)
    refine ⟨nI hz, a_pi C1 0 3 (nI k), m_pi M1 1 4 (nI k), ?_, ?_, fin _ _ ?_ rfl ?_ ?_ ?_⟩
    · rw [f_X7_haze, if_neg (nI_pos (by omega)), if_pos (show nI k ≤ (15 : Int32) from (nI_leI (b := 15) (by omega) (by omega)).mpr hk), e5, bd2, r1, Option.bind_some]
      show (if _ then _ else none) = _
      rw [if_pos (step_ok top ht)]
      rfl
    · rw [f_X8_haze, show (0 : Int32) = nI 0 from rfl, show (15 : Int32) = nI 15 from rfl, within_in (by omega) hk (by omega), Option.bind_some, if_neg (by decide), show (4 : Int32) = nI 4 from rfl, bd2, becomes_ok (by omega) k1 hM1, Option.bind_some, ← h5']
    · intro c j h hc
      exact a_pi_ne (by have := vr_t h; omega)
    · intro m hm
      exact m_pi_row hm
    · refine ⟨nl, nb, nf, nw, k, dy, ?_⟩
      rw [m_pi_self, hM1]
      refine V_haze (C := C1) (N := M 1) (V_all_cong (fun c j h => q1 c j ?_ ?_ ?_) (fun c j _ _ => by rw [q2]) (fun _ _ => rfl) hV) hk (fun _ _ => rfl)
      · rintro ⟨rfl, hj⟩; rcases hj with rfl | rfl <;> simp [vr] at h
      · rintro ⟨rfl, hj⟩; simp [vr] at h
      · rintro ⟨rfl, hj⟩; simp [vr] at h; omega
    · rw [m_pi_self, hM1]
      exact Bk_haze (by omega) h5' (nI k) (fun _ _ => rfl) _ _
  · refine ⟨-100001, _, _, ?_, ?_, rel_refuse hR⟩
    · rw [f_X7_haze, if_pos hneg]; rfl
    · rw [f_X8_haze, within_out (Or.inl hneg), Option.bind_some, if_pos (by decide)]; rfl
  · refine ⟨-100001, _, _, ?_, ?_, rel_refuse hR⟩
    · have h3 := Int32.lt_iff_toInt_lt.mp hbig
      rw [nI_toInt (by decide)] at h3
      have hnn : ¬ a0 < 0 := fun z => by
        have := Int32.lt_iff_toInt_lt.mp z
        have e0 : (0 : Int32).toInt = 0 := rfl
        omega
      have hnl : ¬ a0 ≤ 15 := fun z => by
        have := Int32.le_iff_toInt_le.mp z
        have e0 : (15 : Int32).toInt = 15 := rfl
        omega
      rw [f_X7_haze, if_neg hnn, if_neg hnl]; rfl
    · rw [f_X8_haze, within_out (lo := 0) (hi := 15) (Or.inr hbig), Option.bind_some, if_pos (by decide)]; rfl

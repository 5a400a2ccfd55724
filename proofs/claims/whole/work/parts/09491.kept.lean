set_option maxRecDepth 100000 in
theorem cnt6 : ∀ k, k < 1024 → f_J6_bitCount_0f7a4 (nI k) = some (nI (fb_ct k.testBit 30)) := by decide +kernel
theorem kept7 {C : aSc} {M : aMm} {nl nb nf nw hz dy : Nat} (hV : V_all C (M 1) nl nb nf nw hz dy) (sg : Nat → Nat) (h7 : ∀ x, x < 256 → ∀ C' : aSc, V_all C' (M 1) nl nb nf nw hz dy → f_X7_seenFrom (nI x) C' = some (nI (sg x))) : ∃ C', lpf (fun a : Int32 × aSc => b_X7_kept_2 a.1 a.2) FU ((0 : Int32), C) = some C' ∧ C'.2 = C.2 ∧ (∀ c j, c ≠ 6 → C'.1 c j = C.1 c j) ∧ ∀ i, i < nf → ∀ x, x < 256 → C.1 5 i = nI x → C'.1 6 i = nI (sg x) := by
  have h0 := hV.1.1
  have h8 : C.1 0 8 = nI nf := hV.1.2.2.2.1.1
  obtain ⟨z, e1, q1⟩ := lpf_ct (body := fun a : Int32 × aSc => b_X7_kept_2 a.1 a.2) (fun i s => (nI i, s)) (fun i s => s.2 = C.2 ∧ (∀ c j, c ≠ 6 → s.1 c j = C.1 c j) ∧ ∀ j, j < i → ∀ x, x < 256 → C.1 5 j = nI x → s.1 6 j = nI (sg x)) nf (Q := fun s => s.2 = C.2 ∧ (∀ c j, c ≠ 6 → s.1 c j = C.1 c j) ∧ ∀ j, j < nf → ∀ x, x < 256 → C.1 5 j = nI x → s.1 6 j = nI (sg x)) (by
    rintro s ⟨s1, s2, s3⟩
    refine ⟨s, ?_, s1, s2, s3⟩
    show b_X7_kept_2 (nI nf) s = _
    have g : a_gi s 0 8 = nI nf := (s2 _ _ (by omega)).trans h8
    rw [b_X7_kept_2, g, if_pos (Int32.le_refl _)]) (by
    rintro i s hi ⟨s1, s2, s3⟩
    have g : a_gi s 0 8 = nI nf := (s2 _ _ (by omega)).trans h8
    have hVs : V_all s (M 1) nl nb nf nw hz dy := V_all_cong (fun c j h => s2 c j (by rintro rfl; simp [vr] at h)) (fun c j _ _ => by rw [s1]) (fun _ _ => rfl) hV
    have hl5 : a_len 5 (s.2.2 5) = 12 := rfl
    have hl6 : a_len 6 (s.2.2 6) = 12 := rfl
    obtain ⟨x, hx, ex⟩ := hV.2.2.2.1.1 i hi
    have u := h7 x hx s hVs
    refine Or.inl ⟨a_pi s 6 i (nI (sg x)), ?_, s1, fun c j h => ?_, fun j hj y hy ey => ?_⟩
    · show b_X7_kept_2 (nI i) s = _
      rw [b_X7_kept_2, g, if_neg (fun z => by have := (nI_leI (by omega) (by omega)).mp z; omega), a_ldN (by omega) (by omega), Option.bind_some, s2 5 i (by omega), ex, u, Option.bind_some, a_stN (by omega) (by omega), Option.bind_some, nI_1]
    · rw [a_pi_ne (by omega)]; exact s2 c j h
    · by_cases e : j = i
      · subst e
        rw [a_pi_at]
        have : x = y := by rw [ex] at ey; exact (nI_eq (by omega) (by omega)).mp ey
        rw [this]
      · rw [a_pi_ne (by omega)]; exact s3 j (by omega) y hy ey) FU 0 C (by omega) ⟨rfl, fun _ _ _ => rfl, fun c hc => absurd hc (by omega)⟩ (FU_lt (by omega))
  exact ⟨z, e1, q1⟩
theorem kept8 {C : aSc} {M : aMm} {nl nb nf nw hz dy : Nat} (hV : V_all C (M 1) nl nb nf nw hz dy) (sg : Nat → Nat) (h8' : ∀ x, x < 256 → ∀ M' : aMm, M' 1 = M 1 → f_X8_seenFrom (nI x) M' = some (nI (sg x))) : ∃ M', lpf (fun a : Int32 × aMm => b_X8_kept_2 a.1 a.2) FU ((0 : Int32), M) = some M' ∧ (∀ m, m ≠ 7 → M' m = M m) ∧ ∀ i, i < nf → ∀ x, x < 256 → M 1 (254 + i) = nI x → M' 7 i = nI (sg x) := by
  have h0 := hV.1.1
  have h2 : M 1 2 = nI nf := hV.1.2.2.2.1.2
  have hlen : a_len (94 + 1) 0 = 386 := rfl
  have hlen7 : a_len (94 + 7) 0 = 12 := rfl
  have ml2 : ∀ M' : aMm, M' 1 = M 1 → m_ld M' 1 2 = some (nI nf) := fun M' h => by
    have := m_ldN (M := M') (m := 1) (k := 2) (by decide) (by decide)
    rw [h, h2] at this
    exact this
  obtain ⟨z, e1, q1⟩ := lpf_ct (body := fun a : Int32 × aMm => b_X8_kept_2 a.1 a.2) (fun i s => (nI i, s)) (fun i s => (∀ m, m ≠ 7 → s m = M m) ∧ ∀ j, j < i → ∀ x, x < 256 → M 1 (254 + j) = nI x → s 7 j = nI (sg x)) nf (Q := fun s => (∀ m, m ≠ 7 → s m = M m) ∧ ∀ j, j < nf → ∀ x, x < 256 → M 1 (254 + j) = nI x → s 7 j = nI (sg x)) (by
    rintro s ⟨s2, s3⟩
    refine ⟨s, ?_, s2, s3⟩
    show b_X8_kept_2 (nI nf) s = _
    rw [b_X8_kept_2, ml2 s (s2 1 (by omega)), Option.bind_some, if_pos (Int32.le_refl _)]) (by
    rintro i s hi ⟨s2, s3⟩
    obtain ⟨x, hx, ex⟩ := hV.2.2.2.1.2.1 i hi
    have u := h8' x hx s (s2 1 (by omega))
    have ea : (254 : Int32) + nI i = nI (254 + i) := nI_add 254 i
    refine Or.inl ⟨m_pi s 7 i (nI (sg x)), ?_, fun m hm => ?_, fun j hj y hy ey => ?_⟩
    · show b_X8_kept_2 (nI i) s = _
      rw [b_X8_kept_2, ml2 s (s2 1 (by omega)), Option.bind_some, if_neg (fun z => by have := (nI_leI (by omega) (by omega)).mp z; omega), ea, m_ldN (by omega) (by omega), Option.bind_some, s2 1 (by omega), ex, u, Option.bind_some, m_stN (by omega) (by omega), Option.bind_some, nI_1]
    · rw [m_pi_row hm]; exact s2 m hm
    · by_cases e : j = i
      · subst e
        rw [m_pi_at]
        have : x = y := by rw [ex] at ey; exact (nI_eq (by omega) (by omega)).mp ey
        rw [this]
      · rw [m_pi_ne (by omega)]; exact s3 j (by omega) y hy ey) FU 0 M (by omega) ⟨fun _ _ => rfl, fun c hc => absurd hc (by omega)⟩ (FU_lt (by omega))
  exact ⟨z, e1, q1⟩
def litF (f : Nat → Int32) (nf : Nat) (sg : Nat → Nat) (k : Nat) : Prop := ∀ i, i < nf → ∀ x, x < 256 → f i = nI x → 2 ≤ fb_ct (k &&& sg x).testBit 30
theorem ct_lt (b : Nat) : fb_ct b.testBit 30 ≤ 30 := fb_ct_le _ _
theorem fair7 {C C' : aSc} {nf : Nat} (hn : nf ≤ 12) (sg : Nat → Nat) (hsg : ∀ x, x < 256 → sg x < 1024) (h8 : C'.1 0 8 = nI nf) (hb : bd (C.1 5) nf) (h6 : ∀ i, i < nf → ∀ x, x < 256 → C.1 5 i = nI x → C'.1 6 i = nI (sg x)) {k : Nat} (hk : k < 1024) : (f_X7_lightsFairway (nI k) C' = some 1 ∧ litF (C.1 5) nf sg k) ∨ (f_X7_lightsFairway (nI k) C' = some 0 ∧ ¬ litF (C.1 5) nf sg k) := by
  have g : a_gi C' 0 8 = nI nf := h8
  have hl6 : a_len 6 (C'.2.2 6) = 12 := rfl
  obtain ⟨b, e1, q1⟩ := lpf_ct (body := fun a : Int32 => b_X7_lightsFairway_2 (nI k) a C') (fun i (_ : Unit) => nI i) (fun i _ => litF (C.1 5) i sg k) nf (Q := fun b => (b = .inl () ∧ litF (C.1 5) nf sg k) ∨ (b = .inr 0 ∧ ¬ litF (C.1 5) nf sg k)) (by
    intro _ hI
    refine ⟨.inl (), ?_, Or.inl ⟨rfl, hI⟩⟩
    show b_X7_lightsFairway_2 (nI k) (nI nf) C' = _
    rw [b_X7_lightsFairway_2, g, if_pos (Int32.le_refl _)]) (by
    intro i _ hi hI
    obtain ⟨x, hx, ex⟩ := hb i hi
    have hlt : k &&& sg x < 1024 := Nat.and_lt_two_pow (n := 10) k (hsg x hx)
    have hbd : b_X7_lightsFairway_2 (nI k) (nI i) C' = if (2 : Int32) ≤ nI (fb_ct (k &&& sg x).testBit 30) then some (.inl (nI (i + 1))) else some (.inr (.inr 0)) := by
      rw [b_X7_lightsFairway_2, g, if_neg (fun z => by have := (nI_leI (by omega) (by omega)).mp z; omega), a_ldN (by omega) (by omega), Option.bind_some, h6 i hi x hx ex, fa_and, cnt6 _ hlt, Option.bind_some, nI_1]
    have hct := ct_lt (k &&& sg x)
    by_cases hc : 2 ≤ fb_ct (k &&& sg x).testBit 30
    · refine Or.inl ⟨(), hbd.trans (if_pos (show (2 : Int32) ≤ nI (fb_ct (k &&& sg x).testBit 30) from (nI_leI (a := 2) (by omega) (by omega)).mpr hc)), fun j hj y hy ey => ?_⟩
      by_cases e : j = i
      · subst e
        have : x = y := by rw [ex] at ey; exact (nI_eq (by omega) (by omega)).mp ey
        rw [← this]; exact hc
      · exact hI j (by omega) y hy ey
    · refine Or.inr ⟨.inr 0, hbd.trans (if_neg (show ¬ (2 : Int32) ≤ nI (fb_ct (k &&& sg x).testBit 30) from fun z => hc ((nI_leI (a := 2) (by omega) (by omega)).mp z))), Or.inr ⟨rfl, fun z => hc (z i hi x hx ex)⟩⟩) FU 0 () (by omega) (fun j hj => absurd hj (by omega)) (FU_lt (by omega))
  rw [show (nI 0) = (0 : Int32) from rfl] at e1
  rcases q1 with ⟨rfl, q⟩ | ⟨rfl, q⟩
  · exact Or.inl ⟨by rw [f_X7_lightsFairway, e1, Option.bind_some]; rfl, q⟩
  · exact Or.inr ⟨by rw [f_X7_lightsFairway, e1, Option.bind_some]; rfl, q⟩
theorem fair8 {N : Nat → Int32} {M : aMm} {nf : Nat} (hn : nf ≤ 12) (sg : Nat → Nat) (hsg : ∀ x, x < 256 → sg x < 1024) (h2 : M 1 2 = nI nf) (hb : bd (nfr N) nf) (h7 : ∀ i, i < nf → ∀ x, x < 256 → N (254 + i) = nI x → M 7 i = nI (sg x)) {k : Nat} (hk : k < 1024) (x1 : Int32) : (lpf (fun a : Int32 × Int32 => b_X8_kept_78 x1 (nI k) a.1 a.2 M) FU (1, (0 : Int32)) = some 1 ∧ litF (nfr N) nf sg k) ∨ (lpf (fun a : Int32 × Int32 => b_X8_kept_78 x1 (nI k) a.1 a.2 M) FU (1, (0 : Int32)) = some 0 ∧ ¬ litF (nfr N) nf sg k) := by
  have hlen7 : a_len (94 + 7) 0 = 12 := rfl
  have ml2 : m_ld M 1 2 = some (nI nf) := by
    have := m_ldN (M := M) (m := 1) (k := 2) (by decide) (by decide)
    rw [h2] at this
    exact this
  obtain ⟨b, e1, q1⟩ := lpf_ct (body := fun a : Int32 × Int32 => b_X8_kept_78 x1 (nI k) a.1 a.2 M) (fun i s => (s, nI i)) (fun i s => (s = 1 ∧ litF (nfr N) i sg k) ∨ (s = 0 ∧ ¬ litF (nfr N) nf sg k)) nf (Q := fun s => (s = 1 ∧ litF (nfr N) nf sg k) ∨ (s = 0 ∧ ¬ litF (nfr N) nf sg k)) (by
    intro s hI
    refine ⟨s, ?_, hI⟩
    show b_X8_kept_78 x1 (nI k) s (nI nf) M = _
    rw [b_X8_kept_78, ml2, Option.bind_some, if_pos (Int32.le_refl _)]) (by
    intro i s hi hI
    obtain ⟨x, hx, ex⟩ := hb i hi
    have hlt : k &&& sg x < 1024 := Nat.and_lt_two_pow (n := 10) k (hsg x hx)
    have hbd : b_X8_kept_78 x1 (nI k) s (nI i) M = if s = 0 then some (.inl (0, nI (i + 1))) else if nI (fb_ct (k &&& sg x).testBit 30) < (2 : Int32) then some (.inl (0, nI (i + 1))) else some (.inl (1, nI (i + 1))) := by
      rw [b_X8_kept_78, ml2, Option.bind_some, if_neg (fun z => by have := (nI_leI (by omega) (by omega)).mp z; omega), m_ldN (by omega) (by omega), Option.bind_some, h7 i hi x hx ex, fa_and, ones8 (by omega), Option.bind_some, nI_1]
    have hct := ct_lt (k &&& sg x)
    rcases hI with ⟨rfl, hI⟩ | ⟨rfl, hI⟩
    · rw [if_neg (by decide)] at hbd
      by_cases hc : 2 ≤ fb_ct (k &&& sg x).testBit 30
      · refine Or.inl ⟨1, hbd.trans (if_neg (show ¬ nI (fb_ct (k &&& sg x).testBit 30) < (2 : Int32) from fun z => by have := (nI_ltI (b := 2) (by omega) (by omega)).mp z; omega)), Or.inl ⟨rfl, fun j hj y hy ey => ?_⟩⟩
        by_cases e : j = i
        · subst e
          have : x = y := by rw [ex] at ey; exact (nI_eq (by omega) (by omega)).mp ey
          rw [← this]; exact hc
        · exact hI j (by omega) y hy ey
      · exact Or.inl ⟨0, hbd.trans (if_pos (show nI (fb_ct (k &&& sg x).testBit 30) < (2 : Int32) from (nI_ltI (b := 2) (by omega) (by omega)).mpr (by omega))), Or.inr ⟨rfl, fun z => hc (z i hi x hx ex)⟩⟩
    · exact Or.inl ⟨0, hbd.trans (if_pos rfl), Or.inr ⟨rfl, hI⟩⟩) FU 0 1 (by omega) (Or.inl ⟨rfl, fun j hj => absurd hj (by omega)⟩) (FU_lt (by omega))
  rw [show (nI 0) = (0 : Int32) from rfl] at e1
  rcases q1 with ⟨rfl, q⟩ | ⟨rfl, q⟩
  · exact Or.inl ⟨e1, q⟩
  · exact Or.inr ⟨e1, q⟩
theorem fair80 {M : aMm} {nf : Nat} (hn : nf ≤ 12) (h2 : M 1 2 = nI nf) (x1 x2 : Int32) : lpf (fun a : Int32 × Int32 => b_X8_kept_78 x1 x2 a.1 a.2 M) FU (0, (0 : Int32)) = some 0 := by
  have ml2 : m_ld M 1 2 = some (nI nf) := by
    have := m_ldN (M := M) (m := 1) (k := 2) (by decide) (by decide)
    rw [h2] at this
    exact this
  obtain ⟨b, e1, q1⟩ := lpf_ct (body := fun a : Int32 × Int32 => b_X8_kept_78 x1 x2 a.1 a.2 M) (fun i s => (s, nI i)) (fun i s => s = 0) nf (Q := fun s => s = 0) (by
    intro s hI
    refine ⟨s, ?_, hI⟩
    show b_X8_kept_78 x1 x2 s (nI nf) M = _
    rw [b_X8_kept_78, ml2, Option.bind_some, if_pos (Int32.le_refl _)]) (by
    rintro i s hi rfl
    refine Or.inl ⟨0, ?_, rfl⟩
    show b_X8_kept_78 x1 x2 0 (nI i) M = _
    rw [b_X8_kept_78, ml2, Option.bind_some, if_neg (fun z => by have := (nI_leI (by omega) (by omega)).mp z; omega), if_pos (by decide), nI_1]) FU 0 0 (by omega) rfl (FU_lt (by omega))
  rw [show (nI 0) = (0 : Int32) from rfl] at e1
  rw [e1, q1]
theorem pr_kept {C : aSc} {M : aMm} (hR : Rel C M) : ∃ (v : Int32) (C' : aSc) (M' : aMm), f_X7_kept C = some (v, C') ∧ f_X8_kept M = some (v, M') ∧ Rel C' M' := by
  obtain ⟨nl, nb, nf, nw, hz, dy, hV⟩ := hR.1
  obtain ⟨⟨h0, ⟨h1, h1'⟩, -, ⟨h8, h2⟩, -⟩, -, -, hF, -⟩ := id hV
  have hp : 2 ^ nl ≤ 1024 := Nat.pow_le_pow_right (n := 2) (j := 10) (by omega) (by omega)
  have hp1 : 1 ≤ 2 ^ nl := Nat.one_le_two_pow
  obtain ⟨sg, hsg, hs7, hs8⟩ : ∃ sg : Nat → Nat, (∀ x, x < 256 → sg x < 1024) ∧ (∀ x, x < 256 → ∀ C' : aSc, V_all C' (M 1) nl nb nf nw hz dy → f_X7_seenFrom (nI x) C' = some (nI (sg x))) ∧ (∀ x, x < 256 → ∀ M' : aMm, M' 1 = M 1 → f_X8_seenFrom (nI x) M' = some (nI (sg x))) := by
    have H : ∀ x, x < 256 → ∃ s, s < 2 ^ nl ∧ f_X7_seenFrom (nI x) C = some (nI s) ∧ f_X8_seenFrom (nI x) M = some (nI s) := fun x hx => seen_ok hV hx
    refine ⟨fun x => if h : x < 256 then Classical.choose (H x h) else 0, fun x hx => ?_, fun x hx C' hC' => ?_, fun x hx M' hM' => ?_⟩
    · simp only [hx, dif_pos]
      have := (Classical.choose_spec (H x hx)).1
      omega
    · simp only [hx, dif_pos]
      obtain ⟨s, _, a, b⟩ := seen_ok hC' hx
      rw [a, ← b]
      exact (Classical.choose_spec (H x hx)).2.2
    · simp only [hx, dif_pos]
      obtain ⟨s, _, a, b⟩ := seen_ok (C := C) (M := M') (by rw [hM']; exact hV) hx
      rw [b, ← a]
      exact (Classical.choose_spec (H x hx)).2.1
  obtain ⟨C', c1, c2, c3, c4⟩ := kept7 hV sg hs7
  obtain ⟨M', m1, m2, m3⟩ := kept8 hV sg hs8
  obtain ⟨v1, v2, v3, v4, v5⟩ := V_f_of hF
  have hR' : Rel C' M' := rel_cong hR (fun c j h => c3 c j (by omega)) c2 (fun j _ => by rw [m2 0 (by omega)]) (fun m _ _ => m2 m (by omega)) (by rw [c3 0 18 (by omega), m2 0 (by omega)]; exact hR.2.2.2.1)
  have k8 : C'.1 0 8 = nI nf := (c3 _ _ (by omega)).trans h8
  have g2 : a_gi C' 0 2 = nI nl := (c3 _ _ (by omega)).trans h1
  have hM1 : M' 1 = M 1 := m2 1 (by omega)
  have k2 : M' 1 2 = nI nf := by rw [hM1]; exact h2
  have ml0 : m_ld M' 1 0 = some (nI nl) := by
    have := m_ldN (M := M') (m := 1) (k := 0) (by decide) (by decide)
    rw [hM1, h1'] at this
    exact this
  have hiff : ∀ k, litF (C.1 5) nf sg k ↔ litF (nfr (M 1)) nf sg k := by
    intro k
    constructor
    · intro h i hi x hx ex
      obtain ⟨j, hj, ej⟩ := (v5 (nI x)).mpr ⟨i, hi, ex⟩
      exact h j hj x hx ej
    · intro h i hi x hx ex
      obtain ⟨j, hj, ej⟩ := (v5 (nI x)).mp ⟨i, hi, ex⟩
      exact h j hj x hx ej
  obtain ⟨b, b', e7, e8, rfl, hb⟩ := lpf_ct2 (body := fun a : Int32 × Int32 => b_X7_kept_43 (nI (2 ^ nl)) a.1 a.2 C') (body' := fun a : Int32 × Int32 => b_X8_kept_42 a.1 a.2 M') (fun i (s : Int32) => (s, nI i)) (fun i s => (s, nI i)) (fun _ s => s = -1 ∨ ∃ q, q < 1024 ∧ s = nI q) (2 ^ nl) (Q := fun b b' => b = b' ∧ (b = -1 ∨ ∃ q, q < 1024 ∧ b = nI q)) (by
    intro s hs
    refine ⟨s, s, ?_, ?_, rfl, hs⟩
    · show b_X7_kept_43 (nI (2 ^ nl)) s (nI (2 ^ nl)) C' = _
      rw [b_X7_kept_43, if_pos (Int32.le_refl _)]
    · show b_X8_kept_42 s (nI (2 ^ nl)) M' = _
      rw [b_X8_kept_42, ml0, Option.bind_some, one_shl (by omega), if_pos (Int32.le_refl _)]) (by
    intro k s hk hs
    have hk1 : k < 1024 := by omega
    -- the two tests of the fairway
    have t0 : g_X7_kept_68 s (nI (2 ^ nl)) (nI k) 0 C' = some (.inl (s, nI (k + 1))) ∧ g_X8_kept_74 s (nI k) 0 M' = some (.inl (s, nI (k + 1))) := by
      refine ⟨by rw [g_X7_kept_68, if_pos (by decide), nI_1], ?_⟩
      rw [g_X8_kept_74, fair80 (by omega) k2, Option.bind_some, if_pos (by decide), nI_1]
    have t1 : (g_X7_kept_63 s (nI (2 ^ nl)) (nI k) C' = some (.inl (s, nI (k + 1))) ∧ g_X8_kept_69 s (nI k) M' = some (.inl (s, nI (k + 1)))) ∨ (g_X7_kept_63 s (nI (2 ^ nl)) (nI k) C' = some (.inl (nI k, nI (k + 1))) ∧ g_X8_kept_69 s (nI k) M' = some (.inl (nI k, nI (k + 1)))) := by
      have x7 := fair7 (C := C) (C' := C') (by omega) sg hsg k8 v1 c4 hk1
      have x8 := fair8 (N := M 1) (M := M') (by omega) sg hsg k2 v2 m3 hk1 s
      rw [g_X7_kept_63, g_X7_kept_68, if_neg (by decide), g_X8_kept_69, g_X8_kept_74]
      rcases x7 with ⟨a7, p7⟩ | ⟨a7, p7⟩
      · rcases x8 with ⟨a8, p8⟩ | ⟨a8, p8⟩
        · refine Or.inr ⟨?_, ?_⟩
          · rw [a7, Option.bind_some, if_neg (by decide), nI_1]
          · rw [a8, Option.bind_some, if_neg (by decide), nI_1]
        · exact absurd ((hiff k).mp p7) p8
      · rcases x8 with ⟨a8, p8⟩ | ⟨a8, p8⟩
        · exact absurd ((hiff k).mpr p8) p7
        · refine Or.inl ⟨?_, ?_⟩
          · rw [a7, Option.bind_some, if_pos (by decide), nI_1]
          · rw [a8, Option.bind_some, if_pos (by decide), nI_1]
    have hB : (b_X7_kept_43 (nI (2 ^ nl)) s (nI k) C' = g_X7_kept_68 s (nI (2 ^ nl)) (nI k) 0 C' ∧ b_X8_kept_42 s (nI k) M' = g_X8_kept_74 s (nI k) 0 M') ∨ (b_X7_kept_43 (nI (2 ^ nl)) s (nI k) C' = g_X7_kept_63 s (nI (2 ^ nl)) (nI k) C' ∧ b_X8_kept_42 s (nI k) M' = g_X8_kept_69 s (nI k) M') := by
      rw [b_X7_kept_43, b_X8_kept_42, ml0, Option.bind_some, one_shl (by omega), if_neg (show ¬ nI (2 ^ nl) ≤ nI k from fun z => by have := (nI_leI (by omega) (by omega)).mp z; omega), if_neg (show ¬ nI (2 ^ nl) ≤ nI k from fun z => by have := (nI_leI (by omega) (by omega)).mp z; omega)]
      rcases hs with rfl | ⟨q, hq, rfl⟩
      · rw [if_pos (by decide), if_pos (by decide)]
        exact Or.inr ⟨rfl, rfl⟩
      · rw [if_neg (nI_pos (by omega)), if_neg (nI_pos (by omega)), cnt6 k hk1, Option.bind_some, cnt6 q hq, Option.bind_some, ones8 (by omega), Option.bind_some, ones8 (by omega), Option.bind_some]
        by_cases hc : nI (fb_ct q.testBit 30) ≤ nI (fb_ct k.testBit 30)
        · rw [if_pos hc, if_pos hc]; exact Or.inl ⟨rfl, rfl⟩
        · rw [if_neg hc, if_neg hc]; exact Or.inr ⟨rfl, rfl⟩
    rcases hB with ⟨x, y⟩ | ⟨x, y⟩
    · exact Or.inl ⟨s, x.trans t0.1, y.trans t0.2, hs⟩
    · rcases t1 with ⟨u, w⟩ | ⟨u, w⟩
      · exact Or.inl ⟨s, x.trans u, y.trans w, hs⟩
      · exact Or.inl ⟨nI k, x.trans u, y.trans w, Or.inr ⟨k, hk1, rfl⟩⟩) FU 0 (-1) (by omega) (Or.inl rfl) (FU_lt (by omega))
  rw [show (nI 0) = (0 : Int32) from rfl] at e7 e8
  rcases hb with rfl | ⟨q, hq, rfl⟩
  · refine ⟨-100006, _, _, ?_, ?_, rel_refuse hR'⟩
    · rw [f_X7_kept, c1, Option.bind_some, g2, one_shl (by omega), e7, Option.bind_some, if_neg (by decide)]; rfl
    · rw [f_X8_kept, m1, Option.bind_some, e8, Option.bind_some, if_neg (by decide)]; rfl
  · refine ⟨nI q, C', M', ?_, ?_, hR'⟩
    · rw [f_X7_kept, c1, Option.bind_some, g2, one_shl (by omega), e7, Option.bind_some, if_pos (nI_pos' (by omega))]
    · rw [f_X8_kept, m1, Option.bind_some, e8, Option.bind_some, if_pos (nI_pos' (by omega))]

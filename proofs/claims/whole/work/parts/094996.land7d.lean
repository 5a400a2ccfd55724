theorem ix_lt {R n d s : Nat} (hd : d < 20) (hs : s < R) (hR : R ≤ n) : d * R + s < 20 * n := by
  have h1 : (d + 1) * R ≤ 20 * R := Nat.mul_le_mul_right R hd
  have h3 : (d + 1) * R = d * R + R := Nat.succ_mul d R
  omega
theorem ix_eq {R a b s t : Nat} (hs : s < R) (ht : t < R) (h : a * R + s = b * R + t) : a = b := by
  have hR : 0 < R := by omega
  have h1 : (a * R + s) / R = a := by rw [Nat.mul_comm, Nat.mul_add_div hR, Nat.div_eq_of_lt hs, Nat.add_zero]
  have h2 : (b * R + t) / R = b := by rw [Nat.mul_comm, Nat.mul_add_div hR, Nat.div_eq_of_lt ht, Nat.add_zero]
  rw [← h1, h, h2]
/-- the choice that is kept of a day and a set -/
def Ch1 (C : aSc) (N : Nat → Int32) (nl dy d s : Nat) : Prop := (C.1 19 (d * 2 ^ fa_cnt (pkB N dy) nl + s) = -1 ∧ S_ch N (19 - d) (exS (pkB N dy) s nl) = 10) ∨ ∃ l, l < nl ∧ pkB N dy l = true ∧ C.1 19 (d * 2 ^ fa_cnt (pkB N dy) nl + s) = nI (fa_cnt (pkB N dy) l) ∧ S_ch N (19 - d) (exS (pkB N dy) s nl) = l
theorem Ch1_cong {C C' : aSc} {N : Nat → Int32} {nl dy d s : Nat} (h : C'.1 19 (d * 2 ^ fa_cnt (pkB N dy) nl + s) = C.1 19 (d * 2 ^ fa_cnt (pkB N dy) nl + s)) (hc : Ch1 C N nl dy d s) : Ch1 C' N nl dy d s := by
  unfold Ch1
  rw [h]
  exact hc
theorem Cs_cong {C C' : aSc} {N : Nat → Int32} {nl dy k s : Nat} (h : C'.1 18 s = C.1 18 s) (hc : Cs C N nl dy k s) : Cs C' N nl dy k s := by
  unfold Cs
  rw [h]
  exact hc
theorem work7 {C : aSc} {N : Nat → Int32} {nl dy k n : Nat} (h : Ng N nl dy) (hk : dy + k ≤ 19) (hP : Pk C N nl dy) (hT : Td C N nl dy (19 - k)) (h5 : C.1 14 5 = nI (2 ^ fa_cnt (pkB N dy) nl)) (hn : 2 ^ fa_cnt (pkB N dy) nl ≤ n) (hn1 : n ≤ 1024) (h18 : C.2.2 18 = n) (h19 : C.2.2 19 = 20 * n) (hS : ∀ s, s < 2 ^ fa_cnt (pkB N dy) nl → Cs C N nl dy k s) : ∃ C', f_X0_workBack (nI (19 - k)) C = some C' ∧ C'.2 = C.2 ∧ (∀ c j, c ≠ 18 → c ≠ 19 → C'.1 c j = C.1 c j) ∧ (∀ s, s < 2 ^ fa_cnt (pkB N dy) nl → Cs C' N nl dy (k + 1) s) ∧ (∀ s, s < 2 ^ fa_cnt (pkB N dy) nl → Ch1 C' N nl dy (19 - k) s) ∧ ∀ d s, s < 2 ^ fa_cnt (pkB N dy) nl → d ≠ 19 - k → C'.1 19 (d * 2 ^ fa_cnt (pkB N dy) nl + s) = C.1 19 (d * 2 ^ fa_cnt (pkB N dy) nl + s) := by
  have h10 := h.1.1
  have hcl := fa_cnt_le (pkB N dy) nl
  have hp2 := p10 (nl := fa_cnt (pkB N dy) nl) (by omega)
  obtain ⟨R, hR⟩ : ∃ R, R = 2 ^ fa_cnt (pkB N dy) nl := ⟨_, rfl⟩
  obtain ⟨z, e1, q1, q2, q3, q4, q5, q6⟩ := lpf_ct (body := fun a : Int32 × aSc => b_X0_workBack_2 (nI (19 - k)) a.1 a.2) (fun i x => (nI i, x)) (fun i x => x.2 = C.2 ∧ (∀ c j, c ≠ 18 → c ≠ 19 → x.1 c j = C.1 c j) ∧ (∀ s, s < i → Cs x N nl dy (k + 1) s) ∧ (∀ s, i ≤ s → s < 2 ^ fa_cnt (pkB N dy) nl → Cs x N nl dy k s) ∧ (∀ s, s < i → Ch1 x N nl dy (19 - k) s) ∧ ∀ d s, s < 2 ^ fa_cnt (pkB N dy) nl → d ≠ 19 - k → x.1 19 (d * 2 ^ fa_cnt (pkB N dy) nl + s) = C.1 19 (d * 2 ^ fa_cnt (pkB N dy) nl + s)) (2 ^ fa_cnt (pkB N dy) nl) (Q := fun x => x.2 = C.2 ∧ (∀ c j, c ≠ 18 → c ≠ 19 → x.1 c j = C.1 c j) ∧ (∀ s, s < 2 ^ fa_cnt (pkB N dy) nl → Cs x N nl dy (k + 1) s) ∧ (∀ s, 2 ^ fa_cnt (pkB N dy) nl ≤ s → s < 2 ^ fa_cnt (pkB N dy) nl → Cs x N nl dy k s) ∧ (∀ s, s < 2 ^ fa_cnt (pkB N dy) nl → Ch1 x N nl dy (19 - k) s) ∧ ∀ d s, s < 2 ^ fa_cnt (pkB N dy) nl → d ≠ 19 - k → x.1 19 (d * 2 ^ fa_cnt (pkB N dy) nl + s) = C.1 19 (d * 2 ^ fa_cnt (pkB N dy) nl + s)) (by
    rintro x ⟨x1, x2, x3⟩
    refine ⟨x, ?_, x1, x2, x3⟩
    have g5 : a_gi x 14 5 = nI (2 ^ fa_cnt (pkB N dy) nl) := (x2 14 5 (by omega) (by omega)).trans h5
    show b_X0_workBack_2 (nI (19 - k)) (nI (2 ^ fa_cnt (pkB N dy) nl)) x = _
    rw [b_X0_workBack_2, g5, if_pos (Int32.le_refl _)]) (by
    rintro i x hi ⟨x1, x2, x3, x4, x5, x6⟩
    have g5 : a_gi x 14 5 = nI (2 ^ fa_cnt (pkB N dy) nl) := (x2 14 5 (by omega) (by omega)).trans h5
    have hPx : Pk x N nl dy := ⟨(x2 14 3 (by omega) (by omega)).trans hP.1, fun l a b => (x2 16 _ (by omega) (by omega)).trans (hP.2 l a b)⟩
    have hTx : Td x N nl dy (19 - k) := fun l a b => (x2 17 _ (by omega) (by omega)).trans (hT l a b)
    have hl18 : a_len 18 (x.2.2 18) = n := by
      show x.2.2 18 = n
      rw [x1]; exact h18
    obtain ⟨c, v, c1, c2, c3, c4⟩ := back23 (s := i) h hk hPx hTx hi hn hl18 x4 (nI (19 - k))
    have hl19 : a_len 19 ((a_pi x 18 i (nI c)).2.2 19) = 20 * n := by
      show x.2.2 19 = _
      rw [x1]; exact h19
    have g5' : a_gi (a_pi x 18 i (nI c)) 14 5 = nI (2 ^ fa_cnt (pkB N dy) nl) := a_nt (by omega) g5
    have hix : (19 - k) * 2 ^ fa_cnt (pkB N dy) nl + i < 20 * n := ix_lt (by omega) hi hn
    have ei : nI (19 - k) * nI (2 ^ fa_cnt (pkB N dy) nl) + nI i = nI ((19 - k) * 2 ^ fa_cnt (pkB N dy) nl + i) := by rw [pk_mul, nI_add]
    refine Or.inl ⟨a_pi (a_pi x 18 i (nI c)) 19 ((19 - k) * 2 ^ fa_cnt (pkB N dy) nl + i) v, ?_, x1, fun c' j a b => ?_, fun s hs => ?_, fun s a b => ?_, fun s hs => ?_, fun d s hs hd => ?_⟩
    · show b_X0_workBack_2 (nI (19 - k)) (nI i) x = _
      rw [b_X0_workBack_2, g5, if_neg (fun z => by have := (nI_leI (by omega) (by omega)).mp z; omega), a_ldN (by omega) (by omega), Option.bind_some, c2, Option.bind_some]
      dsimp only
      rw [a_stN (by omega) (by omega), Option.bind_some, g5', ei, a_stN (by omega) (by omega), Option.bind_some, nI_1]
    · rw [a_pi_ne (by omega), a_pi_ne (by omega)]; exact x2 c' j a b
    · by_cases e : s = i
      · subst e
        exact ⟨c, c1, by rw [a_pi_ne (by omega)]; exact a_pi_at, c3⟩
      · exact Cs_cong (by rw [a_pi_ne (by omega), a_pi_ne (by omega)]) (x3 s (by omega))
    · exact Cs_cong (by rw [a_pi_ne (by omega), a_pi_ne (by omega)]) (x4 s (by omega) b)
    · by_cases e : s = i
      · subst e
        have ek : 19 - (19 - k) = k := by omega
        unfold Ch1
        rw [a_pi_at, ek]
        exact c4
      · exact Ch1_cong (by rw [a_pi_ne (by omega), a_pi_ne (by omega)]) (x5 s (by omega))
    · have : d * 2 ^ fa_cnt (pkB N dy) nl + s ≠ (19 - k) * 2 ^ fa_cnt (pkB N dy) nl + i := fun z => hd (ix_eq hs hi z)
      rw [a_pi_ne (by omega), a_pi_ne (by omega)]; exact x6 d s hs hd) FU 0 C (by omega) ⟨rfl, fun _ _ _ _ => rfl, fun s hs => absurd hs (by omega), fun s _ hs => hS s hs, fun s hs => absurd hs (by omega), fun _ _ _ _ => rfl⟩ (FU_lt (by omega))
  rw [show (nI 0) = (0 : Int32) from rfl] at e1
  exact ⟨z, by rw [f_X0_workBack, e1, Option.bind_some], q1, q2, q3, q5, q6⟩
theorem days7 {C : aSc} {N : Nat → Int32} {nl dy n : Nat} (h : Ng N nl dy) (hC : Cg C N nl dy) (hP : Pk C N nl dy) (h5 : C.1 14 5 = nI (2 ^ fa_cnt (pkB N dy) nl)) (hn : 2 ^ fa_cnt (pkB N dy) nl ≤ n) (hn1 : n ≤ 1024) (h18 : C.2.2 18 = n) (h19 : C.2.2 19 = 20 * n) (hS : ∀ s, s < 2 ^ fa_cnt (pkB N dy) nl → Cs C N nl dy 0 s) (x5 : Int32) : ∃ C', lpf (fun a : Int32 × aSc => b_X0_find_24 (nI dy) x5 a.1 a.2) FU ((19 : Int32), C) = some C' ∧ C'.2 = C.2 ∧ (∀ c j, c ≠ 17 → c ≠ 18 → c ≠ 19 → C'.1 c j = C.1 c j) ∧ (∀ s, s < 2 ^ fa_cnt (pkB N dy) nl → Cs C' N nl dy (20 - dy) s) ∧ ∀ d, dy ≤ d → d < 20 → ∀ s, s < 2 ^ fa_cnt (pkB N dy) nl → Ch1 C' N nl dy d s := by
  have h19' := h.1.2
  obtain ⟨z, e1, q1, q2, q3, q4⟩ := lpf_ct (body := fun a : Int32 × aSc => b_X0_find_24 (nI dy) x5 a.1 a.2) (fun i x => (dn i, x)) (fun i x => x.2 = C.2 ∧ (∀ c j, c ≠ 17 → c ≠ 18 → c ≠ 19 → x.1 c j = C.1 c j) ∧ (∀ s, s < 2 ^ fa_cnt (pkB N dy) nl → Cs x N nl dy i s) ∧ ∀ d, 20 - i ≤ d → d < 20 → ∀ s, s < 2 ^ fa_cnt (pkB N dy) nl → Ch1 x N nl dy d s) (20 - dy) (Q := fun x => x.2 = C.2 ∧ (∀ c j, c ≠ 17 → c ≠ 18 → c ≠ 19 → x.1 c j = C.1 c j) ∧ (∀ s, s < 2 ^ fa_cnt (pkB N dy) nl → Cs x N nl dy (20 - dy) s) ∧ ∀ d, dy ≤ d → d < 20 → ∀ s, s < 2 ^ fa_cnt (pkB N dy) nl → Ch1 x N nl dy d s) (by
    rintro x ⟨x1, x2, x3, x4⟩
    refine ⟨x, ?_, x1, x2, x3, fun d a b => x4 d (by omega) b⟩
    show b_X0_find_24 (nI dy) x5 (dn (20 - dy)) x = _
    rw [b_X0_find_24, if_pos (dn_e dy (by omega))]) (by
    rintro i x hi ⟨x1, x2, x3, x4⟩
    have hCx : Cg x N nl dy := Cg_cong (fun c j a b => x2 c j (by omega) (by omega) (by omega)) hC
    have hPx : Pk x N nl dy := ⟨(x2 14 3 (by omega) (by omega) (by omega)).trans hP.1, fun l a b => (x2 16 _ (by omega) (by omega) (by omega)).trans (hP.2 l a b)⟩
    obtain ⟨C1, a1, a2, a3, a4⟩ := look7 (d := 19 - i) h hCx hPx (by omega)
    have hP1 : Pk C1 N nl dy := ⟨(a3 14 3 (by omega)).trans hPx.1, fun l a b => (a3 16 _ (by omega)).trans (hPx.2 l a b)⟩
    obtain ⟨C2, b1, b2, b3, b4, b5, b6⟩ := work7 (C := C1) (k := i) (n := n) h (by omega) hP1 a4 (by rw [a3 14 5 (by omega), x2 14 5 (by omega) (by omega) (by omega)]; exact h5) hn hn1 (by rw [a2, x1]; exact h18) (by rw [a2, x1]; exact h19) (fun s hs => Cs_cong (a3 18 s (by omega)) (x3 s hs))
    refine Or.inl ⟨C2, ?_, b2.trans (a2.trans x1), fun c j p1 p2 p3 => (b3 c j p2 p3).trans ((a3 c j p1).trans (x2 c j p1 p2 p3)), b4, fun d p1 p2 s hs => ?_⟩
    · show b_X0_find_24 (nI dy) x5 (dn i) x = _
      rw [b_X0_find_24, dn_in (by omega), if_neg (dn_n (by omega) hi), (sea7 h hCx (by omega)).1, Option.bind_some, a1, Option.bind_some, b1, Option.bind_some, dn_s i (by omega)]
    · by_cases e : d = 19 - i
      · subst e; exact b5 s hs
      · exact Ch1_cong ((b6 d s hs e).trans (a3 19 _ (by omega))) (x4 d (by omega) p2 s hs)) FU 0 C (by omega) ⟨rfl, fun _ _ _ _ _ => rfl, hS, fun d a b => absurd a (by omega)⟩ (FU_lt (by omega))
  exact ⟨z, e1, q1, q2, q3, q4⟩
theorem follow7 {C : aSc} {N : Nat → Int32} {nl dy n : Nat} (h : Ng N nl dy) (hP : Pk C N nl dy) (h5 : C.1 14 5 = nI (2 ^ fa_cnt (pkB N dy) nl)) (hn : 2 ^ fa_cnt (pkB N dy) nl ≤ n) (hn1 : n ≤ 1024) (h19 : C.2.2 19 = 20 * n) (hc : ∀ d, dy ≤ d → d < 20 → ∀ s, s < 2 ^ fa_cnt (pkB N dy) nl → Ch1 C N nl dy d s) : ∃ C', f_X0_follow (nI dy) C = some C' ∧ C'.2 = C.2 ∧ (∀ c j, c ≠ 15 → C'.1 c j = C.1 c j) ∧ ∀ d, dy ≤ d → d < 20 → C'.1 15 d = iv (S_pl N dy d) := by
  have h10 := h.1.1
  have h19' := h.1.2
  have hcl := fa_cnt_le (pkB N dy) nl
  have hp2 := p10 (nl := fa_cnt (pkB N dy) nl) (by omega)
  obtain ⟨z, e1, q1, q2, q3⟩ := lpf_ct (body := fun a : Int32 × Int32 × aSc => b_X0_follow_4 a.1 a.2.1 a.2.2) (fun i (x : Nat × aSc) => (nI x.1, nI i, x.2)) (fun i x => (dy ≤ i ∧ x.1 < 2 ^ fa_cnt (pkB N dy) nl ∧ exS (pkB N dy) x.1 nl = S_st N dy (i - dy)) ∧ x.2.2 = C.2 ∧ (∀ c j, c ≠ 15 → x.2.1 c j = C.1 c j) ∧ ∀ d, dy ≤ d → d < i → x.2.1 15 d = iv (S_pl N dy d)) 20 (Q := fun x => x.2 = C.2 ∧ (∀ c j, c ≠ 15 → x.1 c j = C.1 c j) ∧ ∀ d, dy ≤ d → d < 20 → x.1 15 d = iv (S_pl N dy d)) (by
    rintro ⟨s, x⟩ ⟨_, x1, x2, x3⟩
    refine ⟨x, ?_, x1, x2, x3⟩
    show b_X0_follow_4 (nI s) (nI 20) x = _
    rw [b_X0_follow_4, if_pos (show (20 : Int32) ≤ nI 20 from by decide)]) (by
    rintro i ⟨s, x⟩ hi ⟨⟨y1, y2, y3⟩, x1, x2, x3⟩
    have y2' : s < 2 ^ fa_cnt (pkB N dy) nl := y2
    have y3' : exS (pkB N dy) s nl = S_st N dy (i - dy) := y3
    have x1' : x.2 = C.2 := x1
    have x2' : ∀ c j, c ≠ 15 → x.1 c j = C.1 c j := x2
    have x3' : ∀ d, dy ≤ d → d < i → x.1 15 d = iv (S_pl N dy d) := x3
    have g5 : a_gi x 14 5 = nI (2 ^ fa_cnt (pkB N dy) nl) := (x2' 14 5 (by omega)).trans h5
    have hl19 : a_len 19 (x.2.2 19) = 20 * n := by
      show x.2.2 19 = _
      rw [x1']; exact h19
    have hl15 : a_len 15 (x.2.2 15) = 20 := rfl
    have hl16 : a_len 16 (x.2.2 16) = 10 := rfl
    have hix : i * 2 ^ fa_cnt (pkB N dy) nl + s < 20 * n := ix_lt hi y2' hn
    have ei : nI i * nI (2 ^ fa_cnt (pkB N dy) nl) + nI s = nI (i * 2 ^ fa_cnt (pkB N dy) nl + s) := by rw [pk_mul, nI_add]
    have hpl : S_pl N dy i = S_ch N (19 - i) (exS (pkB N dy) s nl) := by rw [y3']; rfl
    have es : S_st N dy (i + 1 - dy) = if S_pl N dy i = 10 then S_st N dy (i - dy) else S_st N dy (i - dy) ||| 2 ^ S_pl N dy i := by
      rw [show i + 1 - dy = (i - dy) + 1 from by omega]
      show (if S_ch N (19 - (dy + (i - dy))) (S_st N dy (i - dy)) = 10 then _ else _) = _
      rw [show dy + (i - dy) = i from by omega]; rfl
    have hb : b_X0_follow_4 (nI s) (nI i) x = if 0 ≤ C.1 19 (i * 2 ^ fa_cnt (pkB N dy) nl + s) then (a_ld x 16 (C.1 19 (i * 2 ^ fa_cnt (pkB N dy) nl + s))).bind fun u3 => g_X0_follow_46 (nI s) (nI i) (C.1 19 (i * 2 ^ fa_cnt (pkB N dy) nl + s)) u3 (nI i) x else g_X0_follow_46 (nI s) (nI i) (C.1 19 (i * 2 ^ fa_cnt (pkB N dy) nl + s)) (-1) (nI i) x := by
      rw [b_X0_follow_4, if_neg (show ¬ (20 : Int32) ≤ nI i from fun z => by have := (nI_leI (a := 20) (by omega) (by omega)).mp z; omega), g5, ei, a_ldN (by omega) (by omega), Option.bind_some, x2' 19 _ (by omega)]
    refine Or.inl ?_
    rcases hc i y1 hi s y2' with ⟨a1, a2⟩ | ⟨l, hl, hp, a1, a2⟩
    · rw [a2] at hpl
      rw [if_pos hpl] at es
      rw [a1, if_neg neg1.2, g_X0_follow_46, a_stN (by omega) (by omega), Option.bind_some, if_neg neg1.2, nI_1] at hb
      refine ⟨(s, a_pi x 15 i (-1)), hb, ⟨by omega, y2', by rw [es]; exact y3'⟩, x1', fun c j hcj => ?_, fun d p1 p2 => ?_⟩
      · show (a_pi x 15 i (-1)).1 c j = _
        rw [a_pi_ne (by omega)]; exact x2' c j hcj
      · show (a_pi x 15 i (-1)).1 15 d = _
        by_cases e : d = i
        · subst e; rw [a_pi_at, hpl]; rfl
        · rw [a_pi_ne (by omega)]; exact x3' d p1 (by omega)
    · rw [a2] at hpl
      have hcl2 := cnt_st hl hp
      have e16 : x.1 16 (fa_cnt (pkB N dy) l) = nI l := (x2' 16 _ (by omega)).trans (hP.2 l hl hp)
      rw [hpl, if_neg (by omega)] at es
      rw [a1, if_pos (nI_pos' (by omega)), a_ldN (by omega) (by omega), Option.bind_some, e16, g_X0_follow_46, a_stN (by omega) (by omega), Option.bind_some, if_pos (nI_pos' (by omega)), one_shl (by omega), fa_or, nI_1] at hb
      refine ⟨(s ||| 2 ^ fa_cnt (pkB N dy) l, a_pi x 15 i (nI l)), hb, ⟨by omega, or_in y2' hcl2, ?_⟩, x1', fun c j hcj => ?_, fun d p1 p2 => ?_⟩
      · show exS (pkB N dy) (s ||| 2 ^ fa_cnt (pkB N dy) l) nl = _
        rw [es, exS_or hl hp, y3']
      · show (a_pi x 15 i (nI l)).1 c j = _
        rw [a_pi_ne (by omega)]; exact x2' c j hcj
      · show (a_pi x 15 i (nI l)).1 15 d = _
        by_cases e : d = i
        · subst e
          rw [a_pi_at, hpl, iv, if_neg (by omega)]
        · rw [a_pi_ne (by omega)]; exact x3' d p1 (by omega)) FU dy (0, C) (by omega) ⟨⟨by omega, by omega, by rw [exS_0, Nat.sub_self]; rfl⟩, rfl, fun _ _ _ => rfl, fun d a b => absurd b (by omega)⟩ (FU_lt (by omega))
  have e1' : lpf (fun a : Int32 × Int32 × aSc => b_X0_follow_4 a.1 a.2.1 a.2.2) FU ((0 : Int32), nI dy, C) = some z := e1
  exact ⟨z, by rw [f_X0_follow, e1', Option.bind_some], q1, q2, q3⟩
theorem find7 {C : aSc} {N : Nat → Int32} {nl dy n0 : Nat} (h : Ng N nl dy) (hC : Cg C N nl dy) (hn0 : n0 ≤ 1024) (h18 : C.2.2 18 = n0) (h19 : C.2.2 19 = 20 * n0) : ∃ C', f_X0_find (nI nl) (nI dy) C = some C' ∧ C'.2.1 = C.2.1 ∧ (∃ n, n ≤ 1024 ∧ C'.2.2 18 = n ∧ C'.2.2 19 = 20 * n) ∧ (∀ c j, ¬ (14 ≤ c ∧ c ≤ 19) → C'.1 c j = C.1 c j) ∧ C'.1 14 0 = nI (S_le N (20 - dy) 0) ∧ ∀ d, dy ≤ d → d < 20 → C'.1 15 d = iv (S_pl N dy d) := by
  have h10 := h.1.1
  have hcl := fa_cnt_le (pkB N dy) nl
  obtain ⟨C1, a1, a2, a3, a4⟩ := pick7 h hC
  obtain ⟨C2, b1, b2, ⟨n, n1, n2, n3, n4⟩, b4, b5⟩ := room7 (C := C1) (n0 := n0) (by omega) a4.1 hn0 (by rw [a2]; exact h18) (by rw [a2]; exact h19)
  have hC2 : Cg C2 N nl dy := Cg_cong (fun c j x y => (b5 c j (by omega) (by omega) (by omega)).trans (a3 c j (by omega) (by omega))) hC
  have hP2 : Pk C2 N nl dy := ⟨(b5 14 3 (by omega) (by omega) (by omega)).trans a4.1, fun l x y => (b5 16 _ (by omega) (by omega) (by omega)).trans (a4.2 l x y)⟩
  obtain ⟨C3, c1, c2, c3, c4⟩ := end7 (n := n) h hC2 hP2 b4 n2 n3
  have hC3 : Cg C3 N nl dy := Cg_cong (fun c j x y => c3 c j (by omega)) hC2
  have hP3 : Pk C3 N nl dy := ⟨(c3 14 3 (by omega)).trans hP2.1, fun l x y => (c3 16 _ (by omega)).trans (hP2.2 l x y)⟩
  obtain ⟨C4, d1, d2, d3, d4, d5⟩ := days7 (n := n) h hC3 hP3 ((c3 14 5 (by omega)).trans b4) n2 n1 (by rw [c2]; exact n3) (by rw [c2]; exact n4) c4 (nI (S_oth N dy nl))
  have hP4 : Pk C4 N nl dy := ⟨(d3 14 3 (by omega) (by omega) (by omega)).trans hP3.1, fun l x y => (d3 16 _ (by omega) (by omega) (by omega)).trans (hP3.2 l x y)⟩
  obtain ⟨C5, f1, f2, f3, f4⟩ := follow7 (n := n) h hP4 ((d3 14 5 (by omega) (by omega) (by omega)).trans ((c3 14 5 (by omega)).trans b4)) n2 n1 (by rw [d2, c2]; exact n4) d5
  obtain ⟨c, g1, g2, g3⟩ := d4 0 (Nat.two_pow_pos _)
  rw [exS_0] at g3
  have e2 : C5.2 = C2.2 := f2.trans (d2.trans c2)
  have hl18 : a_len 18 (C5.2.2 18) = n := by
    show C5.2.2 18 = n
    rw [e2]; exact n3
  have hp1 := Nat.one_le_two_pow (n := fa_cnt (pkB N dy) nl)
  have ld : a_ld C5 18 0 = some (nI c) := by
    have := a_ldN (C := C5) (c := 18) (k := 0) (by omega) (by omega)
    rw [f3 18 0 (by omega), g2] at this
    exact this
  refine ⟨a_pi C5 14 0 (nI (S_oth N dy nl + c)), ?_, ?_, ⟨n, n1, ?_, ?_⟩, fun c' j x => ?_, ?_, fun d x y => ?_⟩
  · rw [f_X0_find, bd2, a1, Option.bind_some]
    show (f_X0_makeRoom C1).bind _ = _
    rw [b1, Option.bind_some, c1, Option.bind_some, d1, Option.bind_some, f1, Option.bind_some, ld, Option.bind_some, Option.bind_some, nI_add]
  · show C5.2.1 = _
    rw [e2, b2, a2]
  · show C5.2.2 18 = n
    rw [e2]; exact n3
  · show C5.2.2 19 = _
    rw [e2]; exact n4
  · rw [a_pi_ne (by omega), f3 c' j (by omega), d3 c' j (by omega) (by omega) (by omega), c3 c' j (by omega), b5 c' j (by omega) (by omega) (by omega), a3 c' j (by omega) (by omega)]
  · rw [a_pi_at, g3]
  · rw [a_pi_ne (by omega)]; exact f4 d x y

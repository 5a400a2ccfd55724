def mi_X8_clear : aMi := (cX8_clear, 2, RX8, (some .int), { frames := 1, cells := 0, slots := 0, locals := 21 })
def f_X8_clear  (M : aMm) : Option (Int32 × aMm) :=
  (f_X8_keep  M).bind fun M2 => (m_ld M2 1 (1 : Int32)).bind fun u3 => (m_st M2 1 (1 : Int32) (0 : Int32)).bind fun M5 => some (u3, M5)
set_option maxRecDepth 100000 in
set_option maxHeartbeats 4000000 in
theorem jm_X8_clear  {C : aSc} {M : aMm}  {res : aRes} {r : Int32 × aMm} (h : f_X8_clear  M = some r) (Kr : ∀ (v : Int32) (S' : aMm), r = (v, S') → res = (some (.int v), (C, S'))) : J mi_X8_clear res 0 0 0 [(0, .ref (94))] [] (C, M) := by
  rw [f_X8_clear] at h
  refine J_aload_n dX8_clear_0 rfl 0 rfl ?_
  obtain ⟨M2, h1, h⟩ := br_b h
  refine J_callV (mj := mi_X8_keep) (as := []) (rest := []) (ct_X8_keep (C := C)  h1) ⟨rfl, rfl⟩ rfl rfl (by decide) rfl cg_X8_114 hd_X8_keep rfl ⟨Nat.le_of_ble_eq_true rfl, Nat.le_of_ble_eq_true rfl⟩ (Nat.le_of_ble_eq_true rfl) ⟨Nat.zero_le _, Nat.zero_le _⟩ dX8_clear_1 ?_
  refine J_aload_n dX8_clear_4 rfl 0 rfl ?_
  refine J_getr (j := 0) (t := 103) (r := 95) rfl (by decide) (by decide) rfl (by decide) rfl rfl kf_X8_9 dX8_clear_5 ?_
  refine J_iconst 1 dX8_clear_8 rfl ?_
  obtain ⟨u3, h4, h⟩ := br_b h
  refine J_ialdM (m0 := 1) rfl rfl h4 dX8_clear_9 ?_
  refine J_istore_n (L' := [(1, .int (u3)), (0, .ref (94))]) dX8_clear_10 rfl (by decide) rfl ?_
  refine J_aload_n dX8_clear_11 rfl 1 rfl ?_
  refine J_getr (j := 0) (t := 103) (r := 95) rfl (by decide) (by decide) rfl (by decide) rfl rfl kf_X8_9 dX8_clear_12 ?_
  refine J_iconst 1 dX8_clear_15 rfl ?_
  refine J_iconst 0 dX8_clear_16 rfl ?_
  obtain ⟨M5, h6, h⟩ := br_b h
  refine J_iastM (m0 := 1) rfl rfl h6 dX8_clear_17 ?_
  refine J_iload_n dX8_clear_18 rfl 0 rfl ?_
  have h := Option.some.inj h
  subst h
  exact J_iret rfl rfl rfl (Kr _ _ rfl) dX8_clear_19
theorem ct_X8_clear  {C : aSc} {M : aMm} {v : Int32} {S' : aMm}  (h : f_X8_clear  M = some (v, S')) : Ct mi_X8_clear yX8_clear [.ref (94)] (C, M) (some (.int v), (C, S')) := Ct_of_J (by decide +kernel) rfl (Nat.le_of_ble_eq_true rfl) (jm_X8_clear  h (fun _ _ e => by cases e; rfl))
def mi_X8_holds : aMi := (cX8_holds, 10, RX8, (some .boolean), { frames := 4, cells := 0, slots := 0, locals := 87 })
def b_X8_holds_93 (x1 : Int32) (x2 : Int32) (x3 : Int32) (x4 : Int32) (x5 : Int32) (x6 : Int32) (x7 : Int32) (x8 : Int32) (M : aMm) : Option ((Int32) ⊕ ((Unit) ⊕ (Int32))) :=
  if ((a_min (15 : Int32) (x5 + x4)) : Int32) < x8 then some (.inr (.inl ())) else (f_X8_isNear x3 x2 (((16 : Int32) * x7) + x8) M).bind fun r16 => if (r16 : Int32) = 0 then some (.inl (x8 + (1 : Int32))) else if ((((16 : Int32) * x7) + x8) : Int32) = x2 then some (.inr (.inr (1 : Int32))) else (f_X8_wayBetween x2 (((16 : Int32) * x7) + x8) M).bind fun r18 => (m_ld M 1 (((230 : Int32) + ((3 : Int32) * x1)) + (1 : Int32))).bind fun u19 => (m_ld M 1 (((230 : Int32) + ((3 : Int32) * x1)) + (2 : Int32))).bind fun u21 => (f_X8_isFrom r18 u19 u21 M).bind fun r24 => if (r24 : Int32) = 0 then some (.inl (x8 + (1 : Int32))) else some (.inr (.inr (1 : Int32)))
set_option maxRecDepth 100000 in
set_option maxHeartbeats 4000000 in
theorem jl_X8_holds_93 {x1 : Int32} {x2 : Int32} {x3 : Int32} {x4 : Int32} {x5 : Int32} {x6 : Int32} {x7 : Int32} {M : aMm} {C : aSc}  {res : aRes} {r : (Unit) ⊕ (Int32)} : ∀ (n : Nat) (x8 : Int32), lpf (fun a : Int32 => b_X8_holds_93 (x1) (x2) (x3) (x4) (x5) (x6) (x7) a M) n x8 = some r → (r = .inl () → J mi_X8_holds res 0 0 183 [(0, .ref (94)), (1, .int (x1)), (2, .int (x2)), (3, .int (x3)), (4, .int (x4)), (5, .int (x5)), (6, .int (x6)), (7, .int (x7))] [] (C, M)) → (∀ (v : Int32), r = .inr v → res = (some (.int v), (C, M))) → J mi_X8_holds res 0 0 93 [(0, .ref (94)), (1, .int (x1)), (2, .int (x2)), (3, .int (x3)), (4, .int (x4)), (5, .int (x5)), (6, .int (x6)), (7, .int (x7)), (8, .int (x8))] [] (C, M) := by
  intro n
  induction n with
  | zero =>
    intro x8 h
    cases h
  | succ n ih =>
    intro x8 h Kx Kr
    obtain ⟨r0, h, h2⟩ := br_b h
    have h : b_X8_holds_93 x1 x2 x3 x4 x5 x6 x7 x8 M = some r0 := h
    rw [b_X8_holds_93] at h
    refine J_iload dX8_holds_93 8 rfl ?_
    refine J_bipush 15 dX8_holds_95 rfl ?_
    refine J_iload dX8_holds_97 5 rfl ?_
    refine J_iload dX8_holds_99 4 rfl ?_
    refine J_iadd dX8_holds_101 ?_
    refine J_mmin km_X8_184 kst_Math_min ki_Math kcd_Math_min (by decide) (Nat.le_of_ble_eq_true rfl) ⟨Nat.zero_le _, Nat.zero_le _⟩ dX8_holds_102 ?_
    refine J_icmp_gt 183 dX8_holds_105 (by decide) (fun c28 => ?_) (fun c28 => ?_)
    · have h := br_p c28 h
      have h := Option.some.inj h
      subst h
      have h2 := Option.some.inj h2
      subst h2
      refine J_sub [0, 1, 2, 3, 4, 5, 6, 7] rfl ?_
      exact Kx  rfl
    · have h := br_n c28 h
      refine J_bipush 16 dX8_holds_108 rfl ?_
      refine J_iload dX8_holds_110 7 rfl ?_
      refine J_imul dX8_holds_112 ?_
      refine J_iload dX8_holds_113 8 rfl ?_
      refine J_iadd dX8_holds_115 ?_
      refine J_istore (L' := [(9, .int ((((16 : Int32) * x7) + x8))), (0, .ref (94)), (1, .int (x1)), (2, .int (x2)), (3, .int (x3)), (4, .int (x4)), (5, .int (x5)), (6, .int (x6)), (7, .int (x7)), (8, .int (x8))]) dX8_holds_116 (by decide) rfl ?_
      refine J_aload_n dX8_holds_118 rfl 1 rfl ?_
      refine J_iload_n dX8_holds_119 rfl 4 rfl ?_
      refine J_iload_n dX8_holds_120 rfl 3 rfl ?_
      refine J_iload dX8_holds_121 0 rfl ?_
      obtain ⟨r16, h15, h⟩ := br_b h
      refine J_callV (mj := mi_X8_isNear) (as := [.int (x3), .int (x2), .int ((((16 : Int32) * x7) + x8))]) (rest := []) (ct_X8_isNear (C := C)  h15) ⟨rfl, rfl⟩ rfl rfl (by decide) rfl cg_X8_162 hd_X8_isNear rfl ⟨Nat.le_of_ble_eq_true rfl, Nat.le_of_ble_eq_true rfl⟩ (Nat.le_of_ble_eq_true rfl) ⟨Nat.zero_le _, Nat.zero_le _⟩ dX8_holds_123 ?_
      refine J_if_eq 177 dX8_holds_126 (by decide) (fun c27 => ?_) (fun c27 => ?_)
      · have h := br_p c27 h
        refine J_iinc (j := 9) (v := (x8 + (1 : Int32))) (L' := [(8, .int ((x8 + (1 : Int32)))), (9, .int ((((16 : Int32) * x7) + x8))), (0, .ref (94)), (1, .int (x1)), (2, .int (x2)), (3, .int (x3)), (4, .int (x4)), (5, .int (x5)), (6, .int (x6)), (7, .int (x7))]) dX8_holds_177 rfl rfl (by decide) rfl ?_
        refine J_goto 93 dX8_holds_180 (by decide) ?_
        have h := Option.some.inj h
        subst h
        refine J_sub [2, 3, 4, 5, 6, 7, 8, 9, 0] rfl ?_
        exact ih _ h2 Kx Kr
      · have h := br_n c27 h
        refine J_iload dX8_holds_129 0 rfl ?_
        refine J_iload_n dX8_holds_131 rfl 3 rfl ?_
        refine J_icmp_eq 175 dX8_holds_132 (by decide) (fun c26 => ?_) (fun c26 => ?_)
        · have h := br_p c26 h
          refine J_iconst 1 dX8_holds_175 rfl ?_
          have h := Option.some.inj h
          subst h
          have h2 := Option.some.inj h2
          subst h2
          exact J_zret (Or.inr rfl) rfl rfl rfl (Kr _ rfl) dX8_holds_176
        · have h := br_n c26 h
          refine J_iload_n dX8_holds_135 rfl 3 rfl ?_
          refine J_iload dX8_holds_136 0 rfl ?_
          obtain ⟨r18, h17, h⟩ := br_b h
          refine J_callS (mj := mi_X8_wayBetween) (as := [.int (x2), .int ((((16 : Int32) * x7) + x8))]) (rest := []) (ct_X8_wayBetween (C := C)  h17) ⟨rfl, rfl⟩ rfl cg_X8_148 hd_X8_wayBetween rfl ⟨Nat.le_of_ble_eq_true rfl, Nat.le_of_ble_eq_true rfl⟩ (Nat.le_of_ble_eq_true rfl) ⟨Nat.zero_le _, Nat.zero_le _⟩ dX8_holds_138 ?_
          refine J_aload_n dX8_holds_141 rfl 1 rfl ?_
          refine J_getr (j := 0) (t := 103) (r := 95) rfl (by decide) (by decide) rfl (by decide) rfl rfl kf_X8_9 dX8_holds_142 ?_
          refine J_sipush 230 dX8_holds_145 rfl ?_
          refine J_iconst 3 dX8_holds_148 rfl ?_
          refine J_iload_n dX8_holds_149 rfl 2 rfl ?_
          refine J_imul dX8_holds_150 ?_
          refine J_iadd dX8_holds_151 ?_
          refine J_iconst 1 dX8_holds_152 rfl ?_
          refine J_iadd dX8_holds_153 ?_
          obtain ⟨u19, h20, h⟩ := br_b h
          refine J_ialdM (m0 := 1) rfl rfl h20 dX8_holds_154 ?_
          refine J_aload_n dX8_holds_155 rfl 1 rfl ?_
          refine J_getr (j := 0) (t := 103) (r := 95) rfl (by decide) (by decide) rfl (by decide) rfl rfl kf_X8_9 dX8_holds_156 ?_
          refine J_sipush 230 dX8_holds_159 rfl ?_
          refine J_iconst 3 dX8_holds_162 rfl ?_
          refine J_iload_n dX8_holds_163 rfl 2 rfl ?_
          refine J_imul dX8_holds_164 ?_
          refine J_iadd dX8_holds_165 ?_
          refine J_iconst 2 dX8_holds_166 rfl ?_
          refine J_iadd dX8_holds_167 ?_
          obtain ⟨u21, h22, h⟩ := br_b h
          refine J_ialdM (m0 := 1) rfl rfl h22 dX8_holds_168 ?_
          obtain ⟨r24, h23, h⟩ := br_b h
          refine J_callS (mj := mi_X8_isFrom) (as := [.int (r18), .int (u19), .int (u21)]) (rest := []) (ct_X8_isFrom (C := C)  h23) ⟨rfl, rfl⟩ rfl cg_X8_151 hd_X8_isFrom rfl ⟨Nat.le_of_ble_eq_true rfl, Nat.le_of_ble_eq_true rfl⟩ (Nat.le_of_ble_eq_true rfl) ⟨Nat.zero_le _, Nat.zero_le _⟩ dX8_holds_169 ?_
          refine J_if_eq 177 dX8_holds_172 (by decide) (fun c25 => ?_) (fun c25 => ?_)
          · have h := br_p c25 h
            refine J_iinc (j := 9) (v := (x8 + (1 : Int32))) (L' := [(8, .int ((x8 + (1 : Int32)))), (9, .int ((((16 : Int32) * x7) + x8))), (0, .ref (94)), (1, .int (x1)), (2, .int (x2)), (3, .int (x3)), (4, .int (x4)), (5, .int (x5)), (6, .int (x6)), (7, .int (x7))]) dX8_holds_177 rfl rfl (by decide) rfl ?_
            refine J_goto 93 dX8_holds_180 (by decide) ?_
            have h := Option.some.inj h
            subst h
            refine J_sub [2, 3, 4, 5, 6, 7, 8, 9, 0] rfl ?_
            exact ih _ h2 Kx Kr
          · have h := br_n c25 h
            refine J_iconst 1 dX8_holds_175 rfl ?_
            have h := Option.some.inj h
            subst h
            have h2 := Option.some.inj h2
            subst h2
            exact J_zret (Or.inr rfl) rfl rfl rfl (Kr _ rfl) dX8_holds_176
def b_X8_holds_67 (x1 : Int32) (x2 : Int32) (x3 : Int32) (x4 : Int32) (x5 : Int32) (x6 : Int32) (x7 : Int32) (M : aMm) : Option ((Int32) ⊕ ((Unit) ⊕ (Int32))) :=
  if ((a_min (15 : Int32) (x6 + x4)) : Int32) < x7 then some (.inr (.inl ())) else (lpf (fun a : Int32 => b_X8_holds_93 (x1) (x2) (x3) (x4) (x5) (x6) (x7) a M) FU (a_max (0 : Int32) (x5 - x4))).bind fun z29 => Sum.elim (fun z29a => some (.inl (x7 + (1 : Int32)))) (fun z31 => some (.inr (.inr z31))) z29
set_option maxRecDepth 100000 in
set_option maxHeartbeats 4000000 in
theorem jl_X8_holds_67 {x1 : Int32} {x2 : Int32} {x3 : Int32} {x4 : Int32} {x5 : Int32} {x6 : Int32} {M : aMm} {C : aSc}  {res : aRes} {r : (Unit) ⊕ (Int32)} : ∀ (n : Nat) (x7 : Int32), lpf (fun a : Int32 => b_X8_holds_67 (x1) (x2) (x3) (x4) (x5) (x6) a M) n x7 = some r → (r = .inl () → J mi_X8_holds res 0 0 189 [] [] (C, M)) → (∀ (v : Int32), r = .inr v → res = (some (.int v), (C, M))) → J mi_X8_holds res 0 0 67 [(0, .ref (94)), (1, .int (x1)), (2, .int (x2)), (3, .int (x3)), (4, .int (x4)), (5, .int (x5)), (6, .int (x6)), (7, .int (x7))] [] (C, M) := by
  intro n
  induction n with
  | zero =>
    intro x7 h
    cases h
  | succ n ih =>
    intro x7 h Kx Kr
    obtain ⟨r0, h, h2⟩ := br_b h
    have h : b_X8_holds_67 x1 x2 x3 x4 x5 x6 x7 M = some r0 := h
    rw [b_X8_holds_67] at h
    refine J_iload dX8_holds_67 7 rfl ?_
    refine J_bipush 15 dX8_holds_69 rfl ?_
    refine J_iload dX8_holds_71 6 rfl ?_
    refine J_iload dX8_holds_73 4 rfl ?_
    refine J_iadd dX8_holds_75 ?_
    refine J_mmin km_X8_184 kst_Math_min ki_Math kcd_Math_min (by decide) (Nat.le_of_ble_eq_true rfl) ⟨Nat.zero_le _, Nat.zero_le _⟩ dX8_holds_76 ?_
    refine J_icmp_gt 189 dX8_holds_79 (by decide) (fun c32 => ?_) (fun c32 => ?_)
    · have h := br_p c32 h
      have h := Option.some.inj h
      subst h
      have h2 := Option.some.inj h2
      subst h2
      refine J_sub [] rfl ?_
      exact Kx  rfl
    · have h := br_n c32 h
      refine J_iconst 0 dX8_holds_82 rfl ?_
      refine J_iload dX8_holds_83 5 rfl ?_
      refine J_iload dX8_holds_85 4 rfl ?_
      refine J_isub dX8_holds_87 ?_
      refine J_mmax km_X8_157 kst_Math_max ki_Math kcd_Math_max (by decide) (Nat.le_of_ble_eq_true rfl) ⟨Nat.zero_le _, Nat.zero_le _⟩ dX8_holds_88 ?_
      refine J_istore (L' := [(8, .int ((a_max (0 : Int32) (x5 - x4)))), (0, .ref (94)), (1, .int (x1)), (2, .int (x2)), (3, .int (x3)), (4, .int (x4)), (5, .int (x5)), (6, .int (x6)), (7, .int (x7))]) dX8_holds_91 (by decide) rfl ?_
      refine J_sub [1, 2, 3, 4, 5, 6, 7, 8, 0] rfl ?_
      obtain ⟨z29, h30, h⟩ := br_b h
      refine jl_X8_holds_93  FU _ h30 ?_ ?_
      · intro e
        subst e
        have h := br_l h
        refine J_iinc (j := 7) (v := (x7 + (1 : Int32))) (L' := [(7, .int ((x7 + (1 : Int32)))), (0, .ref (94)), (1, .int (x1)), (2, .int (x2)), (3, .int (x3)), (4, .int (x4)), (5, .int (x5)), (6, .int (x6))]) dX8_holds_183 rfl rfl (by decide) rfl ?_
        refine J_goto 67 dX8_holds_186 (by decide) ?_
        have h := Option.some.inj h
        subst h
        refine J_sub [1, 2, 3, 4, 5, 6, 7, 0] rfl ?_
        exact ih _ h2 Kx Kr
      · intro v e
        subst e
        have h := br_r h
        have h := Option.some.inj h
        subst h
        have h2 := Option.some.inj h2
        subst h2
        exact Kr _ rfl
def f_X8_holds (x1 : Int32) (x2 : Int32) (M : aMm) : Option (Int32) :=
  (m_ld M 1 ((230 : Int32) + ((3 : Int32) * x1))).bind fun u1 => (f_X8_of u1 (7 : Int32) M).bind fun r4 => (m_ld M 1 r4).bind fun u5 => (f_X8_of u1 (1 : Int32) M).bind fun r8 => (m_ld M 1 r8).bind fun u9 => (f_X8_of u1 (1 : Int32) M).bind fun r12 => (m_ld M 1 r12).bind fun u13 => (lpf (fun a : Int32 => b_X8_holds_67 (x1) (x2) (u1) (u5) ((u9 - u9 / (16 : Int32) * (16 : Int32))) ((u13 / (16 : Int32))) a M) FU (a_max (0 : Int32) ((u13 / (16 : Int32)) - u5))).bind fun z33 => Sum.elim (fun z33a => some (0 : Int32)) (fun z35 => some z35) z33
set_option maxRecDepth 100000 in
set_option maxHeartbeats 4000000 in
theorem jm_X8_holds {x1 : Int32} {x2 : Int32} {C : aSc} {M : aMm}  {res : aRes} {r : Int32} (h : f_X8_holds x1 x2 M = some r) (Kr : ∀ (v : Int32), r = v → res = (some (.int v), (C, M))) : J mi_X8_holds res 0 0 0 [(0, .ref (94)), (1, .int (x1)), (2, .int (x2))] [] (C, M) := by
  rw [f_X8_holds] at h
  refine J_aload_n dX8_holds_0 rfl 0 rfl ?_
  refine J_getr (j := 0) (t := 103) (r := 95) rfl (by decide) (by decide) rfl (by decide) rfl rfl kf_X8_9 dX8_holds_1 ?_
  refine J_sipush 230 dX8_holds_4 rfl ?_
  refine J_iconst 3 dX8_holds_7 rfl ?_
  refine J_iload_n dX8_holds_8 rfl 1 rfl ?_
  refine J_imul dX8_holds_9 ?_
  refine J_iadd dX8_holds_10 ?_
  obtain ⟨u1, h2, h⟩ := br_b h
  refine J_ialdM (m0 := 1) rfl rfl h2 dX8_holds_11 ?_
  refine J_istore_n (L' := [(3, .int (u1)), (0, .ref (94)), (1, .int (x1)), (2, .int (x2))]) dX8_holds_12 rfl (by decide) rfl ?_
  refine J_aload_n dX8_holds_13 rfl 1 rfl ?_
  refine J_getr (j := 0) (t := 103) (r := 95) rfl (by decide) (by decide) rfl (by decide) rfl rfl kf_X8_9 dX8_holds_14 ?_
  refine J_iload_n dX8_holds_17 rfl 0 rfl ?_
  refine J_bipush 7 dX8_holds_18 rfl ?_
  obtain ⟨r4, h3, h⟩ := br_b h
  refine J_callS (mj := mi_X8_of) (as := [.int (u1), .int ((7 : Int32))]) (rest := [.ref (95)]) (ct_X8_of (C := C)  h3) ⟨rfl, rfl⟩ rfl cg_X8_45 hd_X8_of rfl ⟨Nat.le_of_ble_eq_true rfl, Nat.le_of_ble_eq_true rfl⟩ (Nat.le_of_ble_eq_true rfl) ⟨Nat.zero_le _, Nat.zero_le _⟩ dX8_holds_20 ?_
  obtain ⟨u5, h6, h⟩ := br_b h
  refine J_ialdM (m0 := 1) rfl rfl h6 dX8_holds_23 ?_
  refine J_istore (L' := [(4, .int (u5)), (3, .int (u1)), (0, .ref (94)), (1, .int (x1)), (2, .int (x2))]) dX8_holds_24 (by decide) rfl ?_
  refine J_aload_n dX8_holds_26 rfl 2 rfl ?_
  refine J_getr (j := 0) (t := 103) (r := 95) rfl (by decide) (by decide) rfl (by decide) rfl rfl kf_X8_9 dX8_holds_27 ?_
  refine J_iload_n dX8_holds_30 rfl 1 rfl ?_
  refine J_iconst 1 dX8_holds_31 rfl ?_
  obtain ⟨r8, h7, h⟩ := br_b h
  refine J_callS (mj := mi_X8_of) (as := [.int (u1), .int ((1 : Int32))]) (rest := [.ref (95)]) (ct_X8_of (C := C)  h7) ⟨rfl, rfl⟩ rfl cg_X8_45 hd_X8_of rfl ⟨Nat.le_of_ble_eq_true rfl, Nat.le_of_ble_eq_true rfl⟩ (Nat.le_of_ble_eq_true rfl) ⟨Nat.zero_le _, Nat.zero_le _⟩ dX8_holds_32 ?_
  obtain ⟨u9, h10, h⟩ := br_b h
  refine J_ialdM (m0 := 1) rfl rfl h10 dX8_holds_35 ?_
  refine J_bipush 16 dX8_holds_36 rfl ?_
  refine J_irem dX8_holds_38 (by decide) ?_
  refine J_istore (L' := [(5, .int ((u9 - u9 / (16 : Int32) * (16 : Int32)))), (4, .int (u5)), (3, .int (u1)), (0, .ref (94)), (1, .int (x1)), (2, .int (x2))]) dX8_holds_39 (by decide) rfl ?_
  refine J_aload_n dX8_holds_41 rfl 3 rfl ?_
  refine J_getr (j := 0) (t := 103) (r := 95) rfl (by decide) (by decide) rfl (by decide) rfl rfl kf_X8_9 dX8_holds_42 ?_
  refine J_iload_n dX8_holds_45 rfl 2 rfl ?_
  refine J_iconst 1 dX8_holds_46 rfl ?_
  obtain ⟨r12, h11, h⟩ := br_b h
  refine J_callS (mj := mi_X8_of) (as := [.int (u1), .int ((1 : Int32))]) (rest := [.ref (95)]) (ct_X8_of (C := C)  h11) ⟨rfl, rfl⟩ rfl cg_X8_45 hd_X8_of rfl ⟨Nat.le_of_ble_eq_true rfl, Nat.le_of_ble_eq_true rfl⟩ (Nat.le_of_ble_eq_true rfl) ⟨Nat.zero_le _, Nat.zero_le _⟩ dX8_holds_47 ?_
  obtain ⟨u13, h14, h⟩ := br_b h
  refine J_ialdM (m0 := 1) rfl rfl h14 dX8_holds_50 ?_
  refine J_bipush 16 dX8_holds_51 rfl ?_
  refine J_idiv dX8_holds_53 (by decide) ?_
  refine J_istore (L' := [(6, .int ((u13 / (16 : Int32)))), (5, .int ((u9 - u9 / (16 : Int32) * (16 : Int32)))), (4, .int (u5)), (3, .int (u1)), (0, .ref (94)), (1, .int (x1)), (2, .int (x2))]) dX8_holds_54 (by decide) rfl ?_
  refine J_iconst 0 dX8_holds_56 rfl ?_
  refine J_iload dX8_holds_57 0 rfl ?_
  refine J_iload dX8_holds_59 2 rfl ?_
  refine J_isub dX8_holds_61 ?_
  refine J_mmax km_X8_157 kst_Math_max ki_Math kcd_Math_max (by decide) (Nat.le_of_ble_eq_true rfl) ⟨Nat.zero_le _, Nat.zero_le _⟩ dX8_holds_62 ?_
  refine J_istore (L' := [(7, .int ((a_max (0 : Int32) ((u13 / (16 : Int32)) - u5)))), (6, .int ((u13 / (16 : Int32)))), (5, .int ((u9 - u9 / (16 : Int32) * (16 : Int32)))), (4, .int (u5)), (3, .int (u1)), (0, .ref (94)), (1, .int (x1)), (2, .int (x2))]) dX8_holds_65 (by decide) rfl ?_
  refine J_sub [5, 6, 7, 4, 3, 2, 1, 0] rfl ?_
  obtain ⟨z33, h34, h⟩ := br_b h
  refine jl_X8_holds_67  FU _ h34 ?_ ?_
  · intro e
    subst e
    have h := br_l h
    refine J_iconst 0 dX8_holds_189 rfl ?_
    have h := Option.some.inj h
    subst h
    exact J_zret (Or.inl rfl) rfl rfl rfl (Kr _ rfl) dX8_holds_190
  · intro v e
    subst e
    have h := br_r h
    have h := Option.some.inj h
    subst h
    exact Kr _ rfl
theorem ct_X8_holds {x1 : Int32} {x2 : Int32} {C : aSc} {M : aMm} {v : Int32}  (h : f_X8_holds x1 x2 M = some v) : Ct mi_X8_holds yX8_holds [.ref (94), .int (x1), .int (x2)] (C, M) (some (.int v), (C, M)) := Ct_of_J (by decide +kernel) rfl (Nat.le_of_ble_eq_true rfl) (jm_X8_holds  h (fun _ e => by cases e; rfl))
def mi_X8_isInFix : aMi := (cX8_isInFix, 4, RX8, (some .boolean), { frames := 5, cells := 0, slots := 0, locals := 116 })
def b_X8_isInFix_4 (x1 : Int32) (x2 : Int32) (x3 : Int32) (M : aMm) : Option ((Int32 × Int32) ⊕ (Int32)) :=
  (m_ld M 1 (1 : Int32)).bind fun u1 => if (u1 : Int32) ≤ x3 then some (.inr x2) else if (x2 : Int32) = 0 then some (.inl ((0 : Int32), (x3 + (1 : Int32)))) else (f_X8_holds x3 x1 M).bind fun r4 => if (r4 : Int32) = 0 then some (.inl ((0 : Int32), (x3 + (1 : Int32)))) else some (.inl ((1 : Int32), (x3 + (1 : Int32))))
set_option maxRecDepth 100000 in
set_option maxHeartbeats 4000000 in
theorem jl_X8_isInFix_4 {x1 : Int32} {M : aMm} {C : aSc}  {res : aRes} {r : Int32} : ∀ (n : Nat) (x2 : Int32) (x3 : Int32), lpf (fun a : Int32 × Int32 => b_X8_isInFix_4 (x1) a.1 a.2 M) n (x2, x3) = some r → (∀ (z2 : Int32), r = z2 → J mi_X8_isInFix res 0 0 39 [(2, .int (z2))] [] (C, M)) → J mi_X8_isInFix res 0 0 4 [(0, .ref (94)), (1, .int (x1)), (2, .int (x2)), (3, .int (x3))] [] (C, M) := by
  intro n
  induction n with
  | zero =>
    intro x2 x3 h
    cases h
  | succ n ih =>
    intro x2 x3 h Kx
    obtain ⟨r0, h, h2⟩ := br_b h
    have h : b_X8_isInFix_4 x1 x2 x3 M = some r0 := h
    rw [b_X8_isInFix_4] at h
    refine J_iload_n dX8_isInFix_4 rfl 3 rfl ?_
    refine J_aload_n dX8_isInFix_5 rfl 0 rfl ?_
    refine J_getr (j := 0) (t := 103) (r := 95) rfl (by decide) (by decide) rfl (by decide) rfl rfl kf_X8_9 dX8_isInFix_6 ?_
    refine J_iconst 1 dX8_isInFix_9 rfl ?_
    obtain ⟨u1, h2, h⟩ := br_b h
    refine J_ialdM (m0 := 1) rfl rfl h2 dX8_isInFix_10 ?_
    refine J_icmp_ge 39 dX8_isInFix_11 (by decide) (fun c7 => ?_) (fun c7 => ?_)
    · have h := br_p c7 h
      have h := Option.some.inj h
      subst h
      have h2 := Option.some.inj h2
      subst h2
      refine J_sub [2] rfl ?_
      exact Kx _ rfl
    · have h := br_n c7 h
      refine J_iload_n dX8_isInFix_14 rfl 2 rfl ?_
      refine J_if_eq 31 dX8_isInFix_15 (by decide) (fun c6 => ?_) (fun c6 => ?_)
      · have h := br_p c6 h
        refine J_iconst 0 dX8_isInFix_31 rfl ?_
        refine J_istore_n (L' := [(2, .int ((0 : Int32))), (0, .ref (94)), (1, .int (x1)), (3, .int (x3))]) dX8_isInFix_32 rfl (by decide) rfl ?_
        refine J_iinc (j := 3) (v := (x3 + (1 : Int32))) (L' := [(3, .int ((x3 + (1 : Int32)))), (2, .int ((0 : Int32))), (0, .ref (94)), (1, .int (x1))]) dX8_isInFix_33 rfl rfl (by decide) rfl ?_
        refine J_goto 4 dX8_isInFix_36 (by decide) ?_
        have h := Option.some.inj h
        subst h
        refine J_sub [2, 3, 1, 0] rfl ?_
        exact ih _ _ h2 Kx
      · have h := br_n c6 h
        refine J_aload_n dX8_isInFix_18 rfl 0 rfl ?_
        refine J_iload_n dX8_isInFix_19 rfl 3 rfl ?_
        refine J_iload_n dX8_isInFix_20 rfl 1 rfl ?_
        obtain ⟨r4, h3, h⟩ := br_b h
        refine J_callV (mj := mi_X8_holds) (as := [.int (x3), .int (x1)]) (rest := []) (ct_X8_holds (C := C)  h3) ⟨rfl, rfl⟩ rfl rfl (by decide) rfl cg_X8_187 hd_X8_holds rfl ⟨Nat.le_of_ble_eq_true rfl, Nat.le_of_ble_eq_true rfl⟩ (Nat.le_of_ble_eq_true rfl) ⟨Nat.zero_le _, Nat.zero_le _⟩ dX8_isInFix_21 ?_
        refine J_if_eq 31 dX8_isInFix_24 (by decide) (fun c5 => ?_) (fun c5 => ?_)
        · have h := br_p c5 h
          refine J_iconst 0 dX8_isInFix_31 rfl ?_
          refine J_istore_n (L' := [(2, .int ((0 : Int32))), (0, .ref (94)), (1, .int (x1)), (3, .int (x3))]) dX8_isInFix_32 rfl (by decide) rfl ?_
          refine J_iinc (j := 3) (v := (x3 + (1 : Int32))) (L' := [(3, .int ((x3 + (1 : Int32)))), (2, .int ((0 : Int32))), (0, .ref (94)), (1, .int (x1))]) dX8_isInFix_33 rfl rfl (by decide) rfl ?_
          refine J_goto 4 dX8_isInFix_36 (by decide) ?_
          have h := Option.some.inj h
          subst h
          refine J_sub [2, 3, 1, 0] rfl ?_
          exact ih _ _ h2 Kx
        · have h := br_n c5 h
          refine J_iconst 1 dX8_isInFix_27 rfl ?_
          refine J_goto 32 dX8_isInFix_28 (by decide) ?_
          refine J_istore_n (L' := [(2, .int ((1 : Int32))), (0, .ref (94)), (1, .int (x1)), (3, .int (x3))]) dX8_isInFix_32 rfl (by decide) rfl ?_
          refine J_iinc (j := 3) (v := (x3 + (1 : Int32))) (L' := [(3, .int ((x3 + (1 : Int32)))), (2, .int ((1 : Int32))), (0, .ref (94)), (1, .int (x1))]) dX8_isInFix_33 rfl rfl (by decide) rfl ?_
          refine J_goto 4 dX8_isInFix_36 (by decide) ?_
          have h := Option.some.inj h
          subst h
          refine J_sub [2, 3, 1, 0] rfl ?_
          exact ih _ _ h2 Kx
def f_X8_isInFix (x1 : Int32) (M : aMm) : Option (Int32) :=
  (lpf (fun a : Int32 × Int32 => b_X8_isInFix_4 (x1) a.1 a.2 M) FU ((1 : Int32), (0 : Int32))).bind fun z8 => if z8 = 0 ∨ z8 = 1 then some z8 else none
set_option maxRecDepth 100000 in
set_option maxHeartbeats 4000000 in
theorem jm_X8_isInFix {x1 : Int32} {C : aSc} {M : aMm}  {res : aRes} {r : Int32} (h : f_X8_isInFix x1 M = some r) (Kr : ∀ (v : Int32), r = v → res = (some (.int v), (C, M))) : J mi_X8_isInFix res 0 0 0 [(0, .ref (94)), (1, .int (x1))] [] (C, M) := by
  rw [f_X8_isInFix] at h
  refine J_iconst 1 dX8_isInFix_0 rfl ?_
  refine J_istore_n (L' := [(2, .int ((1 : Int32))), (0, .ref (94)), (1, .int (x1))]) dX8_isInFix_1 rfl (by decide) rfl ?_
  refine J_iconst 0 dX8_isInFix_2 rfl ?_
  refine J_istore_n (L' := [(3, .int ((0 : Int32))), (2, .int ((1 : Int32))), (0, .ref (94)), (1, .int (x1))]) dX8_isInFix_3 rfl (by decide) rfl ?_
  refine J_sub [2, 3, 1, 0] rfl ?_
  obtain ⟨z8, h9, h⟩ := br_b h
  refine jl_X8_isInFix_4  FU _ _ h9 ?_
  intro zz e
  subst e
  refine J_iload_n dX8_isInFix_39 rfl 0 rfl ?_
  obtain ⟨n11, h⟩ := br_g h
  have h := Option.some.inj h
  subst h
  exact J_zret n11 rfl rfl rfl (Kr _ rfl) dX8_isInFix_40
theorem ct_X8_isInFix {x1 : Int32} {C : aSc} {M : aMm} {v : Int32}  (h : f_X8_isInFix x1 M = some v) : Ct mi_X8_isInFix yX8_isInFix [.ref (94), .int (x1)] (C, M) (some (.int v), (C, M)) := Ct_of_J (by decide +kernel) rfl (Nat.le_of_ble_eq_true rfl) (jm_X8_isInFix  h (fun _ e => by cases e; rfl))
def mi_X8_fix : aMi := (cX8_fix, 5, RX8, (some .int), { frames := 6, cells := 0, slots := 0, locals := 139 })
def g_X8_fix_29 (x1 : Int32) (x2 : Int32) (x3 : Int32) (x4 : Int32) (M : aMm) : Option ((Int32 × Int32) ⊕ ((Int32) ⊕ (Int32 × aMm))) :=
  if (x4 : Int32) = 0 then some (.inl ((x2 + (0 : Int32)), (x3 + (1 : Int32)))) else some (.inl ((x2 + (1 : Int32)), (x3 + (1 : Int32))))
set_option maxRecDepth 100000 in
set_option maxHeartbeats 4000000 in
theorem jb_X8_fix_29 {x1 : Int32} {x2 : Int32} {x3 : Int32} {x4 : Int32} {M : aMm} {C : aSc}  {res : aRes} {r : (Int32 × Int32) ⊕ ((Int32) ⊕ (Int32 × aMm))} (h : g_X8_fix_29 x1 x2 x3 x4 M = some r) (Kn : ∀ (y2 : Int32) (y3 : Int32), r = .inl (y2, y3) → J mi_X8_fix res 0 0 4 [(0, .ref (94)), (1, .int (x1)), (2, .int (y2)), (3, .int (y3))] [] (C, M)) (Kx : ∀ (z2 : Int32), r = .inr (.inl z2) → J mi_X8_fix res 0 0 48 [(0, .ref (94)), (1, .int (x1)), (2, .int (z2))] [] (C, M)) (Kr : ∀ (v : Int32) (S' : aMm), r = .inr (.inr (v, S')) → res = (some (.int v), (C, S'))) : J mi_X8_fix res 0 0 29 [(0, .ref (94)), (1, .int (x1)), (2, .int (x2)), (3, .int (x3)), (4, .int (x4))] [] (C, M) := by
  rw [g_X8_fix_29] at h
  refine J_iload_n dX8_fix_29 rfl 2 rfl ?_
  refine J_iload dX8_fix_30 4 rfl ?_
  refine J_if_eq 39 dX8_fix_32 (by decide) (fun c3 => ?_) (fun c3 => ?_)
  · have h := br_p c3 h
    refine J_iconst 0 dX8_fix_39 rfl ?_
    refine J_iadd dX8_fix_40 ?_
    refine J_istore_n (L' := [(2, .int ((x2 + (0 : Int32)))), (0, .ref (94)), (1, .int (x1)), (3, .int (x3)), (4, .int (x4))]) dX8_fix_41 rfl (by decide) rfl ?_
    refine J_iinc (j := 3) (v := (x3 + (1 : Int32))) (L' := [(3, .int ((x3 + (1 : Int32)))), (2, .int ((x2 + (0 : Int32)))), (0, .ref (94)), (1, .int (x1)), (4, .int (x4))]) dX8_fix_42 rfl rfl (by decide) rfl ?_
    refine J_goto 4 dX8_fix_45 (by decide) ?_
    have h := Option.some.inj h
    subst h
    refine J_sub [2, 3, 1, 0] rfl ?_
    exact Kn _ _ rfl
  · have h := br_n c3 h
    refine J_iconst 1 dX8_fix_35 rfl ?_
    refine J_goto 40 dX8_fix_36 (by decide) ?_
    refine J_iadd dX8_fix_40 ?_
    refine J_istore_n (L' := [(2, .int ((x2 + (1 : Int32)))), (0, .ref (94)), (1, .int (x1)), (3, .int (x3)), (4, .int (x4))]) dX8_fix_41 rfl (by decide) rfl ?_
    refine J_iinc (j := 3) (v := (x3 + (1 : Int32))) (L' := [(3, .int ((x3 + (1 : Int32)))), (2, .int ((x2 + (1 : Int32)))), (0, .ref (94)), (1, .int (x1)), (4, .int (x4))]) dX8_fix_42 rfl rfl (by decide) rfl ?_
    refine J_goto 4 dX8_fix_45 (by decide) ?_
    have h := Option.some.inj h
    subst h
    refine J_sub [2, 3, 1, 0] rfl ?_
    exact Kn _ _ rfl
def b_X8_fix_4 (x1 : Int32) (x2 : Int32) (x3 : Int32) (M : aMm) : Option ((Int32 × Int32) ⊕ ((Int32) ⊕ (Int32 × aMm))) :=
  if ((256 : Int32) : Int32) ≤ x3 then some (.inr (.inl x2)) else (f_X8_isInFix x3 M).bind fun r2 => if (r2 : Int32) = 0 then g_X8_fix_29 (x1) (x2) (x3) (r2) M else if (x1 : Int32) = 0 then g_X8_fix_29 (x1) (x2) (x3) (r2) M else some (.inr (.inr (x3, M)))
set_option maxRecDepth 100000 in
set_option maxHeartbeats 4000000 in
theorem jl_X8_fix_4 {x1 : Int32} {M : aMm} {C : aSc}  {res : aRes} {r : (Int32) ⊕ (Int32 × aMm)} : ∀ (n : Nat) (x2 : Int32) (x3 : Int32), lpf (fun a : Int32 × Int32 => b_X8_fix_4 (x1) a.1 a.2 M) n (x2, x3) = some r → (∀ (z2 : Int32), r = .inl z2 → J mi_X8_fix res 0 0 48 [(0, .ref (94)), (1, .int (x1)), (2, .int (z2))] [] (C, M)) → (∀ (v : Int32) (S' : aMm), r = .inr (v, S') → res = (some (.int v), (C, S'))) → J mi_X8_fix res 0 0 4 [(0, .ref (94)), (1, .int (x1)), (2, .int (x2)), (3, .int (x3))] [] (C, M) := by
  intro n
  induction n with
  | zero =>
    intro x2 x3 h
    cases h
  | succ n ih =>
    intro x2 x3 h Kx Kr
    obtain ⟨r0, h, h2⟩ := br_b h
    have h : b_X8_fix_4 x1 x2 x3 M = some r0 := h
    rw [b_X8_fix_4] at h
    refine J_iload_n dX8_fix_4 rfl 3 rfl ?_
    refine J_sipush 256 dX8_fix_5 rfl ?_
    refine J_icmp_ge 48 dX8_fix_8 (by decide) (fun c6 => ?_) (fun c6 => ?_)
    · have h := br_p c6 h
      have h := Option.some.inj h
      subst h
      have h2 := Option.some.inj h2
      subst h2
      refine J_sub [0, 1, 2] rfl ?_
      exact Kx _ rfl
    · have h := br_n c6 h
      refine J_aload_n dX8_fix_11 rfl 0 rfl ?_
      refine J_iload_n dX8_fix_12 rfl 3 rfl ?_
      obtain ⟨r2, h1, h⟩ := br_b h
      refine J_callV (mj := mi_X8_isInFix) (as := [.int (x3)]) (rest := []) (ct_X8_isInFix (C := C)  h1) ⟨rfl, rfl⟩ rfl rfl (by decide) rfl cg_X8_190 hd_X8_isInFix rfl ⟨Nat.le_of_ble_eq_true rfl, Nat.le_of_ble_eq_true rfl⟩ (Nat.le_of_ble_eq_true rfl) ⟨Nat.zero_le _, Nat.zero_le _⟩ dX8_fix_13 ?_
      refine J_istore (L' := [(4, .int (r2)), (0, .ref (94)), (1, .int (x1)), (2, .int (x2)), (3, .int (x3))]) dX8_fix_16 (by decide) rfl ?_
      refine J_iload dX8_fix_18 0 rfl ?_
      refine J_if_eq 29 dX8_fix_20 (by decide) (fun c5 => ?_) (fun c5 => ?_)
      · have h := br_p c5 h
        refine J_sub [1, 2, 3, 4, 0] rfl ?_
        exact jb_X8_fix_29  h (fun _ _ e => by subst e; exact ih _ _ h2 Kx Kr) (fun _ e => by subst e; have h2 := Option.some.inj h2; subst h2; exact Kx _ rfl) (fun _ _ e => by subst e; have h2 := Option.some.inj h2; subst h2; exact Kr _ _ rfl)
      · have h := br_n c5 h
        refine J_iload_n dX8_fix_23 rfl 2 rfl ?_
        refine J_if_eq 29 dX8_fix_24 (by decide) (fun c4 => ?_) (fun c4 => ?_)
        · have h := br_p c4 h
          refine J_sub [1, 2, 3, 4, 0] rfl ?_
          exact jb_X8_fix_29  h (fun _ _ e => by subst e; exact ih _ _ h2 Kx Kr) (fun _ e => by subst e; have h2 := Option.some.inj h2; subst h2; exact Kx _ rfl) (fun _ _ e => by subst e; have h2 := Option.some.inj h2; subst h2; exact Kr _ _ rfl)
        · have h := br_n c4 h
          refine J_iload_n dX8_fix_27 rfl 4 rfl ?_
          have h := Option.some.inj h
          subst h
          have h2 := Option.some.inj h2
          subst h2
          exact J_iret rfl rfl rfl (Kr _ _ rfl) dX8_fix_28
def f_X8_fix (x1 : Int32) (M : aMm) : Option (Int32 × aMm) :=
  (lpf (fun a : Int32 × Int32 => b_X8_fix_4 (x1) a.1 a.2 M) FU ((0 : Int32), (0 : Int32))).bind fun z7 => Sum.elim (fun z7a => if (x1 : Int32) = 0 then some (z7a, M) else bd2 (f_X8_finding (-100006 : Int32) M) fun r11 M12 => some (r11, M12)) (fun z14 => some z14) z7
set_option maxRecDepth 100000 in
set_option maxHeartbeats 4000000 in
theorem jm_X8_fix {x1 : Int32} {C : aSc} {M : aMm}  {res : aRes} {r : Int32 × aMm} (h : f_X8_fix x1 M = some r) (Kr : ∀ (v : Int32) (S' : aMm), r = (v, S') → res = (some (.int v), (C, S'))) : J mi_X8_fix res 0 0 0 [(0, .ref (94)), (1, .int (x1))] [] (C, M) := by
  rw [f_X8_fix] at h
  refine J_iconst 0 dX8_fix_0 rfl ?_
  refine J_istore_n (L' := [(2, .int ((0 : Int32))), (0, .ref (94)), (1, .int (x1))]) dX8_fix_1 rfl (by decide) rfl ?_
  refine J_iconst 0 dX8_fix_2 rfl ?_
  refine J_istore_n (L' := [(3, .int ((0 : Int32))), (2, .int ((0 : Int32))), (0, .ref (94)), (1, .int (x1))]) dX8_fix_3 rfl (by decide) rfl ?_
  refine J_sub [2, 3, 1, 0] rfl ?_
  obtain ⟨z7, h8, h⟩ := br_b h
  refine jl_X8_fix_4  FU _ _ h8 ?_ ?_
  · intro v9 e
    subst e
    have h := br_l h
    refine J_iload_n dX8_fix_48 rfl 1 rfl ?_
    refine J_if_eq 61 dX8_fix_49 (by decide) (fun c13 => ?_) (fun c13 => ?_)
    · have h := br_p c13 h
      refine J_iload_n dX8_fix_61 rfl 2 rfl ?_
      have h := Option.some.inj h
      subst h
      exact J_iret rfl rfl rfl (Kr _ _ rfl) dX8_fix_62
    · have h := br_n c13 h
      refine J_aload_n dX8_fix_52 rfl 0 rfl ?_
      refine J_ldc (-100006) dX8_fix_53 kc_X8_52 ?_
      obtain ⟨r11, M12, h10, h⟩ := br_b2 h
      refine J_callV (mj := mi_X8_finding) (as := [.int ((-100006 : Int32))]) (rest := []) (ct_X8_finding (C := C)  h10) ⟨rfl, rfl⟩ rfl rfl (by decide) rfl cg_X8_53 hd_X8_finding rfl ⟨Nat.le_of_ble_eq_true rfl, Nat.le_of_ble_eq_true rfl⟩ (Nat.le_of_ble_eq_true rfl) ⟨Nat.zero_le _, Nat.zero_le _⟩ dX8_fix_55 ?_
      refine J_goto 62 dX8_fix_58 (by decide) ?_
      have h := Option.some.inj h
      subst h
      exact J_iret rfl rfl rfl (Kr _ _ rfl) dX8_fix_62
  · intro v S' e
    subst e
    have h := br_r h
    have h := Option.some.inj h
    subst h
    exact Kr _ _ rfl
theorem ct_X8_fix {x1 : Int32} {C : aSc} {M : aMm} {v : Int32} {S' : aMm}  (h : f_X8_fix x1 M = some (v, S')) : Ct mi_X8_fix yX8_fix [.ref (94), .int (x1)] (C, M) (some (.int v), (C, S')) := Ct_of_J (by decide +kernel) rfl (Nat.le_of_ble_eq_true rfl) (jm_X8_fix  h (fun _ _ e => by cases e; rfl))
def mi_X8_may : aMi := (cX8_may, 2, RX8, (some .int), { frames := 6, cells := 0, slots := 0, locals := 139 })
def f_X8_may (x1 : Int32) (M : aMm) : Option (Int32 × aMm) :=
  (f_X8_isCell x1 M).bind fun r2 => if (r2 : Int32) = 0 then bd2 (f_X8_finding (-100001 : Int32) M) fun r7 M8 => some (r7, M8) else (f_X8_isInFix x1 M).bind fun r4 => if (r4 : Int32) = 0 then some ((0 : Int32), M) else some ((1 : Int32), M)
set_option maxRecDepth 100000 in
set_option maxHeartbeats 4000000 in
theorem jm_X8_may {x1 : Int32} {C : aSc} {M : aMm}  {res : aRes} {r : Int32 × aMm} (h : f_X8_may x1 M = some r) (Kr : ∀ (v : Int32) (S' : aMm), r = (v, S') → res = (some (.int v), (C, S'))) : J mi_X8_may res 0 0 0 [(0, .ref (94)), (1, .int (x1))] [] (C, M) := by
  rw [f_X8_may] at h
  refine J_iload_n dX8_may_0 rfl 1 rfl ?_
  obtain ⟨r2, h1, h⟩ := br_b h
  refine J_callS (mj := mi_X8_isCell) (as := [.int (x1)]) (rest := []) (ct_X8_isCell (C := C)  h1) ⟨rfl, rfl⟩ rfl cg_X8_108 hd_X8_isCell rfl ⟨Nat.le_of_ble_eq_true rfl, Nat.le_of_ble_eq_true rfl⟩ (Nat.le_of_ble_eq_true rfl) ⟨Nat.zero_le _, Nat.zero_le _⟩ dX8_may_1 ?_
  refine J_if_ne 16 dX8_may_4 (by decide) (fun c9 => ?_) (fun c9 => ?_)
  · have h := br_n c9 h
    refine J_aload_n dX8_may_16 rfl 0 rfl ?_
    refine J_iload_n dX8_may_17 rfl 1 rfl ?_
    obtain ⟨r4, h3, h⟩ := br_b h
    refine J_callV (mj := mi_X8_isInFix) (as := [.int (x1)]) (rest := []) (ct_X8_isInFix (C := C)  h3) ⟨rfl, rfl⟩ rfl rfl (by decide) rfl cg_X8_190 hd_X8_isInFix rfl ⟨Nat.le_of_ble_eq_true rfl, Nat.le_of_ble_eq_true rfl⟩ (Nat.le_of_ble_eq_true rfl) ⟨Nat.zero_le _, Nat.zero_le _⟩ dX8_may_18 ?_
    refine J_if_eq 28 dX8_may_21 (by decide) (fun c5 => ?_) (fun c5 => ?_)
    · have h := br_p c5 h
      refine J_iconst 0 dX8_may_28 rfl ?_
      have h := Option.some.inj h
      subst h
      exact J_iret rfl rfl rfl (Kr _ _ rfl) dX8_may_29
    · have h := br_n c5 h
      refine J_iconst 1 dX8_may_24 rfl ?_
      refine J_goto 29 dX8_may_25 (by decide) ?_
      have h := Option.some.inj h
      subst h
      exact J_iret rfl rfl rfl (Kr _ _ rfl) dX8_may_29
  · have h := br_p c9 h
    refine J_aload_n dX8_may_7 rfl 0 rfl ?_
    refine J_ldc (-100001) dX8_may_8 kc_X8_57 ?_
    obtain ⟨r7, M8, h6, h⟩ := br_b2 h
    refine J_callV (mj := mi_X8_finding) (as := [.int ((-100001 : Int32))]) (rest := []) (ct_X8_finding (C := C)  h6) ⟨rfl, rfl⟩ rfl rfl (by decide) rfl cg_X8_53 hd_X8_finding rfl ⟨Nat.le_of_ble_eq_true rfl, Nat.le_of_ble_eq_true rfl⟩ (Nat.le_of_ble_eq_true rfl) ⟨Nat.zero_le _, Nat.zero_le _⟩ dX8_may_10 ?_
    refine J_goto 29 dX8_may_13 (by decide) ?_
    have h := Option.some.inj h
    subst h
    exact J_iret rfl rfl rfl (Kr _ _ rfl) dX8_may_29
theorem ct_X8_may {x1 : Int32} {C : aSc} {M : aMm} {v : Int32} {S' : aMm}  (h : f_X8_may x1 M = some (v, S')) : Ct mi_X8_may yX8_may [.ref (94), .int (x1)] (C, M) (some (.int v), (C, S')) := Ct_of_J (by decide +kernel) rfl (Nat.le_of_ble_eq_true rfl) (jm_X8_may  h (fun _ _ e => by cases e; rfl))
def mi_X8_fairway : aMi := (cX8_fairway, 5, RX8, (some .int), { frames := 2, cells := 0, slots := 0, locals := 42 })
def b_X8_fairway_24 (x1 : Int32) (x2 : Int32) (x3 : Int32) (x4 : Int32) (M : aMm) : Option ((Int32) ⊕ (Int32)) :=
  if (x3 : Int32) ≤ x4 then some (.inr x4) else (m_ld M 1 ((254 : Int32) + x4)).bind fun u5 => if (u5 : Int32) = x1 then some (.inr x4) else some (.inl (x4 + (1 : Int32)))
set_option maxRecDepth 100000 in
set_option maxHeartbeats 4000000 in
theorem jl_X8_fairway_24 {x1 : Int32} {x2 : Int32} {x3 : Int32} {M : aMm} {C : aSc}  {res : aRes} {r : Int32} : ∀ (n : Nat) (x4 : Int32), lpf (fun a : Int32 => b_X8_fairway_24 (x1) (x2) (x3) a M) n x4 = some r → (∀ (z4 : Int32), r = z4 → J mi_X8_fairway res 0 0 51 [(0, .ref (94)), (1, .int (x1)), (2, .int (x2)), (3, .int (x3)), (4, .int (z4))] [] (C, M)) → J mi_X8_fairway res 0 0 24 [(0, .ref (94)), (1, .int (x1)), (2, .int (x2)), (3, .int (x3)), (4, .int (x4))] [] (C, M) := by
  intro n
  induction n with
  | zero =>
    intro x4 h
    cases h
  | succ n ih =>
    intro x4 h Kx
    obtain ⟨r0, h, h2⟩ := br_b h
    have h : b_X8_fairway_24 x1 x2 x3 x4 M = some r0 := h
    rw [b_X8_fairway_24] at h
    refine J_iload dX8_fairway_24 4 rfl ?_
    refine J_iload_n dX8_fairway_26 rfl 3 rfl ?_
    refine J_icmp_ge 51 dX8_fairway_27 (by decide) (fun c8 => ?_) (fun c8 => ?_)
    · have h := br_p c8 h
      have h := Option.some.inj h
      subst h
      have h2 := Option.some.inj h2
      subst h2
      exact Kx _ rfl
    · have h := br_n c8 h
      refine J_aload_n dX8_fairway_30 rfl 0 rfl ?_
      refine J_getr (j := 0) (t := 103) (r := 95) rfl (by decide) (by decide) rfl (by decide) rfl rfl kf_X8_9 dX8_fairway_31 ?_
      refine J_sipush 254 dX8_fairway_34 rfl ?_
      refine J_iload dX8_fairway_37 4 rfl ?_
      refine J_iadd dX8_fairway_39 ?_
      obtain ⟨u5, h6, h⟩ := br_b h
      refine J_ialdM (m0 := 1) rfl rfl h6 dX8_fairway_40 ?_
      refine J_iload_n dX8_fairway_41 rfl 1 rfl ?_
      refine J_icmp_eq 51 dX8_fairway_42 (by decide) (fun c7 => ?_) (fun c7 => ?_)
      · have h := br_p c7 h
        have h := Option.some.inj h
        subst h
        have h2 := Option.some.inj h2
        subst h2
        exact Kx _ rfl
      · have h := br_n c7 h
        refine J_iinc (j := 4) (v := (x4 + (1 : Int32))) (L' := [(4, .int ((x4 + (1 : Int32)))), (0, .ref (94)), (1, .int (x1)), (2, .int (x2)), (3, .int (x3))]) dX8_fairway_45 rfl rfl (by decide) rfl ?_
        refine J_goto 24 dX8_fairway_48 (by decide) ?_
        have h := Option.some.inj h
        subst h
        refine J_sub [1, 2, 3, 4, 0] rfl ?_
        exact ih _ h2 Kx
def g_X8_fairway_112 (x2 : Int32) (x3 : Int32) (x4 : Int32) (M : aMm) : Option (Int32 × aMm) :=
  if (x2 : Int32) = 0 then if (x3 : Int32) ≤ x4 then (m_ld M 1 (2 : Int32)).bind fun u16 => some (u16, M) else (m_ld M 1 (((254 : Int32) + x3) - (1 : Int32))).bind fun u18 => (m_st M 1 ((254 : Int32) + x4) u18).bind fun M20 => (m_ld M20 1 (2 : Int32)).bind fun u22 => (m_st M20 1 (2 : Int32) (u22 - (1 : Int32))).bind fun M24 => (m_ld M24 1 (2 : Int32)).bind fun u26 => some (u26, M24) else (m_ld M 1 (2 : Int32)).bind fun u14 => some (u14, M)
set_option maxRecDepth 100000 in
set_option maxHeartbeats 4000000 in
theorem jb_X8_fairway_112 {x2 : Int32} {x3 : Int32} {x4 : Int32} {M : aMm} {C : aSc}  {res : aRes} {r : Int32 × aMm} (h : g_X8_fairway_112 x2 x3 x4 M = some r) (Kr : ∀ (v : Int32) (S' : aMm), r = (v, S') → res = (some (.int v), (C, S'))) : J mi_X8_fairway res 0 0 112 [(0, .ref (94)), (2, .int (x2)), (3, .int (x3)), (4, .int (x4))] [] (C, M) := by
  rw [g_X8_fairway_112] at h
  refine J_iload_n dX8_fairway_112 rfl 1 rfl ?_
  refine J_if_ne 155 dX8_fairway_113 (by decide) (fun c29 => ?_) (fun c29 => ?_)
  · have h := br_n c29 h
    refine J_aload_n dX8_fairway_155 rfl 0 rfl ?_
    refine J_getr (j := 0) (t := 103) (r := 95) rfl (by decide) (by decide) rfl (by decide) rfl rfl kf_X8_9 dX8_fairway_156 ?_
    refine J_iconst 2 dX8_fairway_159 rfl ?_
    obtain ⟨u14, h15, h⟩ := br_b h
    refine J_ialdM (m0 := 1) rfl rfl h15 dX8_fairway_160 ?_
    have h := Option.some.inj h
    subst h
    exact J_iret rfl rfl rfl (Kr _ _ rfl) dX8_fairway_161
  · have h := br_p c29 h
    refine J_iload dX8_fairway_116 3 rfl ?_
    refine J_iload_n dX8_fairway_118 rfl 2 rfl ?_
    refine J_icmp_ge 155 dX8_fairway_119 (by decide) (fun c28 => ?_) (fun c28 => ?_)
    · have h := br_p c28 h
      refine J_aload_n dX8_fairway_155 rfl 0 rfl ?_
      refine J_getr (j := 0) (t := 103) (r := 95) rfl (by decide) (by decide) rfl (by decide) rfl rfl kf_X8_9 dX8_fairway_156 ?_
      refine J_iconst 2 dX8_fairway_159 rfl ?_
      obtain ⟨u16, h17, h⟩ := br_b h
      refine J_ialdM (m0 := 1) rfl rfl h17 dX8_fairway_160 ?_
      have h := Option.some.inj h
      subst h
      exact J_iret rfl rfl rfl (Kr _ _ rfl) dX8_fairway_161
    · have h := br_n c28 h
      refine J_aload_n dX8_fairway_122 rfl 0 rfl ?_
      refine J_getr (j := 0) (t := 103) (r := 95) rfl (by decide) (by decide) rfl (by decide) rfl rfl kf_X8_9 dX8_fairway_123 ?_
      refine J_sipush 254 dX8_fairway_126 rfl ?_
      refine J_iload dX8_fairway_129 3 rfl ?_
      refine J_iadd dX8_fairway_131 ?_
      refine J_aload_n dX8_fairway_132 rfl 0 rfl ?_
      refine J_getr (j := 0) (t := 103) (r := 95) rfl (by decide) (by decide) rfl (by decide) rfl rfl kf_X8_9 dX8_fairway_133 ?_
      refine J_sipush 254 dX8_fairway_136 rfl ?_
      refine J_iload_n dX8_fairway_139 rfl 2 rfl ?_
      refine J_iadd dX8_fairway_140 ?_
      refine J_iconst 1 dX8_fairway_141 rfl ?_
      refine J_isub dX8_fairway_142 ?_
      obtain ⟨u18, h19, h⟩ := br_b h
      refine J_ialdM (m0 := 1) rfl rfl h19 dX8_fairway_143 ?_
      obtain ⟨M20, h21, h⟩ := br_b h
      refine J_iastM (m0 := 1) rfl rfl h21 dX8_fairway_144 ?_
      refine J_aload_n dX8_fairway_145 rfl 0 rfl ?_
      refine J_getr (j := 0) (t := 103) (r := 95) rfl (by decide) (by decide) rfl (by decide) rfl rfl kf_X8_9 dX8_fairway_146 ?_
      refine J_iconst 2 dX8_fairway_149 rfl ?_
      refine J_dup2 dX8_fairway_150 rfl rfl ?_
      obtain ⟨u22, h23, h⟩ := br_b h
      refine J_ialdM (m0 := 1) rfl rfl h23 dX8_fairway_151 ?_
      refine J_iconst 1 dX8_fairway_152 rfl ?_
      refine J_isub dX8_fairway_153 ?_
      obtain ⟨M24, h25, h⟩ := br_b h
      refine J_iastM (m0 := 1) rfl rfl h25 dX8_fairway_154 ?_
      refine J_aload_n dX8_fairway_155 rfl 0 rfl ?_
      refine J_getr (j := 0) (t := 103) (r := 95) rfl (by decide) (by decide) rfl (by decide) rfl rfl kf_X8_9 dX8_fairway_156 ?_
      refine J_iconst 2 dX8_fairway_159 rfl ?_
      obtain ⟨u26, h27, h⟩ := br_b h
      refine J_ialdM (m0 := 1) rfl rfl h27 dX8_fairway_160 ?_
      have h := Option.some.inj h
      subst h
      exact J_iret rfl rfl rfl (Kr _ _ rfl) dX8_fairway_161
def g_X8_fairway_74 (x1 : Int32) (x2 : Int32) (x3 : Int32) (x4 : Int32) (M : aMm) : Option (Int32 × aMm) :=
  (f_X8_keep  M).bind fun M13 => if (x2 : Int32) = 0 then g_X8_fairway_112 (x2) (x3) (x4) M13 else if (x4 : Int32) = x3 then (m_st M13 1 ((254 : Int32) + x3) x1).bind fun M30 => (m_ld M30 1 (2 : Int32)).bind fun u32 => (m_st M30 1 (2 : Int32) (u32 + (1 : Int32))).bind fun M34 => (m_ld M34 1 (2 : Int32)).bind fun u36 => some (u36, M34) else g_X8_fairway_112 (x2) (x3) (x4) M13
set_option maxRecDepth 100000 in
set_option maxHeartbeats 4000000 in
theorem jb_X8_fairway_74 {x1 : Int32} {x2 : Int32} {x3 : Int32} {x4 : Int32} {M : aMm} {C : aSc}  {res : aRes} {r : Int32 × aMm} (h : g_X8_fairway_74 x1 x2 x3 x4 M = some r) (Kr : ∀ (v : Int32) (S' : aMm), r = (v, S') → res = (some (.int v), (C, S'))) : J mi_X8_fairway res 0 0 74 [(0, .ref (94)), (1, .int (x1)), (2, .int (x2)), (3, .int (x3)), (4, .int (x4))] [] (C, M) := by
  rw [g_X8_fairway_74] at h
  refine J_aload_n dX8_fairway_74 rfl 0 rfl ?_
  obtain ⟨M13, h12, h⟩ := br_b h
  refine J_callV (mj := mi_X8_keep) (as := []) (rest := []) (ct_X8_keep (C := C)  h12) ⟨rfl, rfl⟩ rfl rfl (by decide) rfl cg_X8_114 hd_X8_keep rfl ⟨Nat.le_of_ble_eq_true rfl, Nat.le_of_ble_eq_true rfl⟩ (Nat.le_of_ble_eq_true rfl) ⟨Nat.zero_le _, Nat.zero_le _⟩ dX8_fairway_75 ?_
  refine J_iload_n dX8_fairway_78 rfl 2 rfl ?_
  refine J_if_eq 112 dX8_fairway_79 (by decide) (fun c39 => ?_) (fun c39 => ?_)
  · have h := br_p c39 h
    refine J_sub [0, 2, 3, 4] rfl ?_
    exact jb_X8_fairway_112  h Kr
  · have h := br_n c39 h
    refine J_iload dX8_fairway_82 4 rfl ?_
    refine J_iload_n dX8_fairway_84 rfl 3 rfl ?_
    refine J_icmp_ne 112 dX8_fairway_85 (by decide) (fun c38 => ?_) (fun c38 => ?_)
    · have h := br_n c38 h
      refine J_sub [0, 2, 3, 4] rfl ?_
      exact jb_X8_fairway_112  h Kr
    · have h := br_p c38 h
      refine J_aload_n dX8_fairway_88 rfl 0 rfl ?_
      refine J_getr (j := 0) (t := 103) (r := 95) rfl (by decide) (by decide) rfl (by decide) rfl rfl kf_X8_9 dX8_fairway_89 ?_
      refine J_sipush 254 dX8_fairway_92 rfl ?_
      refine J_iload_n dX8_fairway_95 rfl 3 rfl ?_
      refine J_iadd dX8_fairway_96 ?_
      refine J_iload_n dX8_fairway_97 rfl 1 rfl ?_
      obtain ⟨M30, h31, h⟩ := br_b h
      refine J_iastM (m0 := 1) rfl rfl h31 dX8_fairway_98 ?_
      refine J_aload_n dX8_fairway_99 rfl 0 rfl ?_
      refine J_getr (j := 0) (t := 103) (r := 95) rfl (by decide) (by decide) rfl (by decide) rfl rfl kf_X8_9 dX8_fairway_100 ?_
      refine J_iconst 2 dX8_fairway_103 rfl ?_
      refine J_dup2 dX8_fairway_104 rfl rfl ?_
      obtain ⟨u32, h33, h⟩ := br_b h
      refine J_ialdM (m0 := 1) rfl rfl h33 dX8_fairway_105 ?_
      refine J_iconst 1 dX8_fairway_106 rfl ?_
      refine J_iadd dX8_fairway_107 ?_
      obtain ⟨M34, h35, h⟩ := br_b h
      refine J_iastM (m0 := 1) rfl rfl h35 dX8_fairway_108 ?_
      refine J_goto 155 dX8_fairway_109 (by decide) ?_
      refine J_aload_n dX8_fairway_155 rfl 0 rfl ?_
      refine J_getr (j := 0) (t := 103) (r := 95) rfl (by decide) (by decide) rfl (by decide) rfl rfl kf_X8_9 dX8_fairway_156 ?_
      refine J_iconst 2 dX8_fairway_159 rfl ?_
      obtain ⟨u36, h37, h⟩ := br_b h
      refine J_ialdM (m0 := 1) rfl rfl h37 dX8_fairway_160 ?_
      have h := Option.some.inj h
      subst h
      exact J_iret rfl rfl rfl (Kr _ _ rfl) dX8_fairway_161
def g_X8_fairway_51 (x1 : Int32) (x2 : Int32) (x3 : Int32) (x4 : Int32) (M : aMm) : Option (Int32 × aMm) :=
  if (x2 : Int32) = 0 then g_X8_fairway_74 (x1) (x2) (x3) (x4) M else if (x4 : Int32) = x3 then if (x3 : Int32) = (12 : Int32) then bd2 (f_X8_finding (-100005 : Int32) M) fun r41 M42 => some (r41, M42) else g_X8_fairway_74 (x1) (x2) (x3) (x4) M else g_X8_fairway_74 (x1) (x2) (x3) (x4) M
set_option maxRecDepth 100000 in
set_option maxHeartbeats 4000000 in
theorem jb_X8_fairway_51 {x1 : Int32} {x2 : Int32} {x3 : Int32} {x4 : Int32} {M : aMm} {C : aSc}  {res : aRes} {r : Int32 × aMm} (h : g_X8_fairway_51 x1 x2 x3 x4 M = some r) (Kr : ∀ (v : Int32) (S' : aMm), r = (v, S') → res = (some (.int v), (C, S'))) : J mi_X8_fairway res 0 0 51 [(0, .ref (94)), (1, .int (x1)), (2, .int (x2)), (3, .int (x3)), (4, .int (x4))] [] (C, M) := by
  rw [g_X8_fairway_51] at h
  refine J_iload_n dX8_fairway_51 rfl 2 rfl ?_
  refine J_if_eq 74 dX8_fairway_52 (by decide) (fun c45 => ?_) (fun c45 => ?_)
  · have h := br_p c45 h
    exact jb_X8_fairway_74  h Kr
  · have h := br_n c45 h
    refine J_iload dX8_fairway_55 4 rfl ?_
    refine J_iload_n dX8_fairway_57 rfl 3 rfl ?_
    refine J_icmp_ne 74 dX8_fairway_58 (by decide) (fun c44 => ?_) (fun c44 => ?_)
    · have h := br_n c44 h
      exact jb_X8_fairway_74  h Kr
    · have h := br_p c44 h
      refine J_iload_n dX8_fairway_61 rfl 3 rfl ?_
      refine J_bipush 12 dX8_fairway_62 rfl ?_
      refine J_icmp_ne 74 dX8_fairway_64 (by decide) (fun c43 => ?_) (fun c43 => ?_)
      · have h := br_n c43 h
        exact jb_X8_fairway_74  h Kr
      · have h := br_p c43 h
        refine J_aload_n dX8_fairway_67 rfl 0 rfl ?_
        refine J_ldc (-100005) dX8_fairway_68 kc_X8_61 ?_
        obtain ⟨r41, M42, h40, h⟩ := br_b2 h
        refine J_callV (mj := mi_X8_finding) (as := [.int ((-100005 : Int32))]) (rest := []) (ct_X8_finding (C := C)  h40) ⟨rfl, rfl⟩ rfl rfl (by decide) rfl cg_X8_53 hd_X8_finding rfl ⟨Nat.le_of_ble_eq_true rfl, Nat.le_of_ble_eq_true rfl⟩ (Nat.le_of_ble_eq_true rfl) ⟨Nat.zero_le _, Nat.zero_le _⟩ dX8_fairway_70 ?_
        have h := Option.some.inj h
        subst h
        exact J_iret rfl rfl rfl (Kr _ _ rfl) dX8_fairway_73
def f_X8_fairway (x1 : Int32) (x2 : Int32) (M : aMm) : Option (Int32 × aMm) :=
  (f_X8_isCell x1 M).bind fun r2 => if (r2 : Int32) = 0 then bd2 (f_X8_finding (-100001 : Int32) M) fun r47 M48 => some (r47, M48) else (m_ld M 1 (2 : Int32)).bind fun u3 => (lpf (fun a : Int32 => b_X8_fairway_24 (x1) (x2) (u3) a M) FU (0 : Int32)).bind fun z9 => g_X8_fairway_51 (x1) (x2) (u3) (z9) M
set_option maxRecDepth 100000 in
set_option maxHeartbeats 4000000 in
theorem jm_X8_fairway {x1 : Int32} {x2 : Int32} {C : aSc} {M : aMm}  {res : aRes} {r : Int32 × aMm} (h : f_X8_fairway x1 x2 M = some r) (Kr : ∀ (v : Int32) (S' : aMm), r = (v, S') → res = (some (.int v), (C, S'))) : J mi_X8_fairway res 0 0 0 [(0, .ref (94)), (1, .int (x1)), (2, .int (x2))] [] (C, M) := by
  rw [f_X8_fairway] at h
  refine J_iload_n dX8_fairway_0 rfl 1 rfl ?_
  obtain ⟨r2, h1, h⟩ := br_b h
  refine J_callS (mj := mi_X8_isCell) (as := [.int (x1)]) (rest := []) (ct_X8_isCell (C := C)  h1) ⟨rfl, rfl⟩ rfl cg_X8_108 hd_X8_isCell rfl ⟨Nat.le_of_ble_eq_true rfl, Nat.le_of_ble_eq_true rfl⟩ (Nat.le_of_ble_eq_true rfl) ⟨Nat.zero_le _, Nat.zero_le _⟩ dX8_fairway_1 ?_
  refine J_if_ne 14 dX8_fairway_4 (by decide) (fun c49 => ?_) (fun c49 => ?_)
  · have h := br_n c49 h
    refine J_aload_n dX8_fairway_14 rfl 0 rfl ?_
    refine J_getr (j := 0) (t := 103) (r := 95) rfl (by decide) (by decide) rfl (by decide) rfl rfl kf_X8_9 dX8_fairway_15 ?_
    refine J_iconst 2 dX8_fairway_18 rfl ?_
    obtain ⟨u3, h4, h⟩ := br_b h
    refine J_ialdM (m0 := 1) rfl rfl h4 dX8_fairway_19 ?_
    refine J_istore_n (L' := [(3, .int (u3)), (0, .ref (94)), (1, .int (x1)), (2, .int (x2))]) dX8_fairway_20 rfl (by decide) rfl ?_
    refine J_iconst 0 dX8_fairway_21 rfl ?_
    refine J_istore (L' := [(4, .int ((0 : Int32))), (3, .int (u3)), (0, .ref (94)), (1, .int (x1)), (2, .int (x2))]) dX8_fairway_22 (by decide) rfl ?_
    refine J_sub [2, 3, 4, 1, 0] rfl ?_
    obtain ⟨z9, h10, h⟩ := br_b h
    refine jl_X8_fairway_24  FU _ h10 ?_
    intro zz e
    subst e
    exact jb_X8_fairway_51  h Kr
  · have h := br_p c49 h
    refine J_aload_n dX8_fairway_7 rfl 0 rfl ?_
    refine J_ldc (-100001) dX8_fairway_8 kc_X8_57 ?_
    obtain ⟨r47, M48, h46, h⟩ := br_b2 h
    refine J_callV (mj := mi_X8_finding) (as := [.int ((-100001 : Int32))]) (rest := []) (ct_X8_finding (C := C)  h46) ⟨rfl, rfl⟩ rfl rfl (by decide) rfl cg_X8_53 hd_X8_finding rfl ⟨Nat.le_of_ble_eq_true rfl, Nat.le_of_ble_eq_true rfl⟩ (Nat.le_of_ble_eq_true rfl) ⟨Nat.zero_le _, Nat.zero_le _⟩ dX8_fairway_10 ?_
    have h := Option.some.inj h
    subst h
    exact J_iret rfl rfl rfl (Kr _ _ rfl) dX8_fairway_13
theorem ct_X8_fairway {x1 : Int32} {x2 : Int32} {C : aSc} {M : aMm} {v : Int32} {S' : aMm}  (h : f_X8_fairway x1 x2 M = some (v, S')) : Ct mi_X8_fairway yX8_fairway [.ref (94), .int (x1), .int (x2)] (C, M) (some (.int v), (C, S')) := Ct_of_J (by decide +kernel) rfl (Nat.le_of_ble_eq_true rfl) (jm_X8_fairway  h (fun _ _ e => by cases e; rfl))
def mi_X8_kept : aMi := (cX8_kept, 5, RX8, (some .int), { frames := 6, cells := 0, slots := 0, locals := 139 })
def b_X8_kept_2  (x1 : Int32) (M : aMm) : Option ((Int32 × aMm) ⊕ (aMm)) :=
  (m_ld M 1 (2 : Int32)).bind fun u1 => if (u1 : Int32) ≤ x1 then some (.inr M) else (m_ld M 1 ((254 : Int32) + x1)).bind fun u3 => (f_X8_seenFrom u3 M).bind fun r6 => (m_st M 7 x1 r6).bind fun M7 => some (.inl ((x1 + (1 : Int32)), M7))
set_option maxRecDepth 100000 in
set_option maxHeartbeats 4000000 in
theorem jl_X8_kept_2  {C : aSc}  {res : aRes} {r : aMm} : ∀ (n : Nat) (x1 : Int32) (M : aMm), lpf (fun a : Int32 × aMm => b_X8_kept_2  a.1 a.2) n (x1, M) = some r → (∀ (S2 : aMm), r = S2 → J mi_X8_kept res 0 0 38 [(0, .ref (94))] [] (C, S2)) → J mi_X8_kept res 0 0 2 [(0, .ref (94)), (1, .int (x1))] [] (C, M) := by
  intro n
  induction n with
  | zero =>
    intro x1 M h
    cases h
  | succ n ih =>
    intro x1 M h Kx
    obtain ⟨r0, h, h2⟩ := br_b h
    have h : b_X8_kept_2  x1 M = some r0 := h
    rw [b_X8_kept_2] at h
    refine J_iload_n dX8_kept_2 rfl 1 rfl ?_
    refine J_aload_n dX8_kept_3 rfl 0 rfl ?_
    refine J_getr (j := 0) (t := 103) (r := 95) rfl (by decide) (by decide) rfl (by decide) rfl rfl kf_X8_9 dX8_kept_4 ?_
    refine J_iconst 2 dX8_kept_7 rfl ?_
    obtain ⟨u1, h2, h⟩ := br_b h
    refine J_ialdM (m0 := 1) rfl rfl h2 dX8_kept_8 ?_
    refine J_icmp_ge 38 dX8_kept_9 (by decide) (fun c9 => ?_) (fun c9 => ?_)
    · have h := br_p c9 h
      have h := Option.some.inj h
      subst h
      have h2 := Option.some.inj h2
      subst h2
      refine J_sub [0] rfl ?_
      exact Kx _ rfl
    · have h := br_n c9 h
      refine J_aload_n dX8_kept_12 rfl 0 rfl ?_
      refine J_getr (j := 16) (t := 109) (r := 101) rfl (by decide) (by decide) rfl (by decide) rfl rfl kf_X8_28 dX8_kept_13 ?_
      refine J_iload_n dX8_kept_16 rfl 1 rfl ?_
      refine J_aload_n dX8_kept_17 rfl 0 rfl ?_
      refine J_aload_n dX8_kept_18 rfl 0 rfl ?_
      refine J_getr (j := 0) (t := 103) (r := 95) rfl (by decide) (by decide) rfl (by decide) rfl rfl kf_X8_9 dX8_kept_19 ?_
      refine J_sipush 254 dX8_kept_22 rfl ?_
      refine J_iload_n dX8_kept_25 rfl 1 rfl ?_
      refine J_iadd dX8_kept_26 ?_
      obtain ⟨u3, h4, h⟩ := br_b h
      refine J_ialdM (m0 := 1) rfl rfl h4 dX8_kept_27 ?_
      obtain ⟨r6, h5, h⟩ := br_b h
      refine J_callV (mj := mi_X8_seenFrom) (as := [.int (u3)]) (rest := [.int (x1), .ref (101)]) (ct_X8_seenFrom (C := C)  h5) ⟨rfl, rfl⟩ rfl rfl (by decide) rfl cg_X8_168 hd_X8_seenFrom rfl ⟨Nat.le_of_ble_eq_true rfl, Nat.le_of_ble_eq_true rfl⟩ (Nat.le_of_ble_eq_true rfl) ⟨Nat.zero_le _, Nat.zero_le _⟩ dX8_kept_28 ?_
      obtain ⟨M7, h8, h⟩ := br_b h
      refine J_iastM (m0 := 7) rfl rfl h8 dX8_kept_31 ?_
      refine J_iinc (j := 1) (v := (x1 + (1 : Int32))) (L' := [(1, .int ((x1 + (1 : Int32)))), (0, .ref (94))]) dX8_kept_32 rfl rfl (by decide) rfl ?_
      refine J_goto 2 dX8_kept_35 (by decide) ?_
      have h := Option.some.inj h
      subst h
      refine J_sub [1, 0] rfl ?_
      exact ih _ _ h2 Kx
def b_X8_kept_78 (x1 : Int32) (x2 : Int32) (x3 : Int32) (x4 : Int32) (M : aMm) : Option ((Int32 × Int32) ⊕ (Int32)) :=
  (m_ld M 1 (2 : Int32)).bind fun u15 => if (u15 : Int32) ≤ x4 then some (.inr x3) else if (x3 : Int32) = 0 then some (.inl ((0 : Int32), (x4 + (1 : Int32)))) else (m_ld M 7 x4).bind fun u17 => (f_X8_ones (x2 &&& u17) M).bind fun r20 => if (r20 : Int32) < (2 : Int32) then some (.inl ((0 : Int32), (x4 + (1 : Int32)))) else some (.inl ((1 : Int32), (x4 + (1 : Int32))))
set_option maxRecDepth 100000 in
set_option maxHeartbeats 4000000 in
theorem jl_X8_kept_78 {x1 : Int32} {x2 : Int32} {M : aMm} {C : aSc}  {res : aRes} {r : Int32} : ∀ (n : Nat) (x3 : Int32) (x4 : Int32), lpf (fun a : Int32 × Int32 => b_X8_kept_78 (x1) (x2) a.1 a.2 M) n (x3, x4) = some r → (∀ (z3 : Int32), r = z3 → J mi_X8_kept res 0 0 121 [(0, .ref (94)), (1, .int (x1)), (2, .int (x2)), (3, .int (z3))] [] (C, M)) → J mi_X8_kept res 0 0 78 [(0, .ref (94)), (1, .int (x1)), (2, .int (x2)), (3, .int (x3)), (4, .int (x4))] [] (C, M) := by
  intro n
  induction n with
  | zero =>
    intro x3 x4 h
    cases h
  | succ n ih =>
    intro x3 x4 h Kx
    obtain ⟨r0, h, h2⟩ := br_b h
    have h : b_X8_kept_78 x1 x2 x3 x4 M = some r0 := h
    rw [b_X8_kept_78] at h
    refine J_iload dX8_kept_78 4 rfl ?_
    refine J_aload_n dX8_kept_80 rfl 0 rfl ?_
    refine J_getr (j := 0) (t := 103) (r := 95) rfl (by decide) (by decide) rfl (by decide) rfl rfl kf_X8_9 dX8_kept_81 ?_
    refine J_iconst 2 dX8_kept_84 rfl ?_
    obtain ⟨u15, h16, h⟩ := br_b h
    refine J_ialdM (m0 := 1) rfl rfl h16 dX8_kept_85 ?_
    refine J_icmp_ge 121 dX8_kept_86 (by decide) (fun c23 => ?_) (fun c23 => ?_)
    · have h := br_p c23 h
      have h := Option.some.inj h
      subst h
      have h2 := Option.some.inj h2
      subst h2
      refine J_sub [0, 1, 2, 3] rfl ?_
      exact Kx _ rfl
    · have h := br_n c23 h
      refine J_iload_n dX8_kept_89 rfl 3 rfl ?_
      refine J_if_eq 113 dX8_kept_90 (by decide) (fun c22 => ?_) (fun c22 => ?_)
      · have h := br_p c22 h
        refine J_iconst 0 dX8_kept_113 rfl ?_
        refine J_istore_n (L' := [(3, .int ((0 : Int32))), (0, .ref (94)), (1, .int (x1)), (2, .int (x2)), (4, .int (x4))]) dX8_kept_114 rfl (by decide) rfl ?_
        refine J_iinc (j := 4) (v := (x4 + (1 : Int32))) (L' := [(4, .int ((x4 + (1 : Int32)))), (3, .int ((0 : Int32))), (0, .ref (94)), (1, .int (x1)), (2, .int (x2))]) dX8_kept_115 rfl rfl (by decide) rfl ?_
        refine J_goto 78 dX8_kept_118 (by decide) ?_
        have h := Option.some.inj h
        subst h
        refine J_sub [2, 3, 4, 1, 0] rfl ?_
        exact ih _ _ h2 Kx
      · have h := br_n c22 h
        refine J_iload_n dX8_kept_93 rfl 2 rfl ?_
        refine J_aload_n dX8_kept_94 rfl 0 rfl ?_
        refine J_getr (j := 16) (t := 109) (r := 101) rfl (by decide) (by decide) rfl (by decide) rfl rfl kf_X8_28 dX8_kept_95 ?_
        refine J_iload dX8_kept_98 4 rfl ?_
        obtain ⟨u17, h18, h⟩ := br_b h
        refine J_ialdM (m0 := 7) rfl rfl h18 dX8_kept_100 ?_
        refine J_iand dX8_kept_101 ?_
        obtain ⟨r20, h19, h⟩ := br_b h
        refine J_callS (mj := mi_X8_ones) (as := [.int ((x2 &&& u17))]) (rest := []) (ct_X8_ones (C := C)  h19) ⟨rfl, rfl⟩ rfl cg_X8_124 hd_X8_ones rfl ⟨Nat.le_of_ble_eq_true rfl, Nat.le_of_ble_eq_true rfl⟩ (Nat.le_of_ble_eq_true rfl) ⟨Nat.zero_le _, Nat.zero_le _⟩ dX8_kept_102 ?_
        refine J_iconst 2 dX8_kept_105 rfl ?_
        refine J_icmp_lt 113 dX8_kept_106 (by decide) (fun c21 => ?_) (fun c21 => ?_)
        · have h := br_p c21 h
          refine J_iconst 0 dX8_kept_113 rfl ?_
          refine J_istore_n (L' := [(3, .int ((0 : Int32))), (0, .ref (94)), (1, .int (x1)), (2, .int (x2)), (4, .int (x4))]) dX8_kept_114 rfl (by decide) rfl ?_
          refine J_iinc (j := 4) (v := (x4 + (1 : Int32))) (L' := [(4, .int ((x4 + (1 : Int32)))), (3, .int ((0 : Int32))), (0, .ref (94)), (1, .int (x1)), (2, .int (x2))]) dX8_kept_115 rfl rfl (by decide) rfl ?_
          refine J_goto 78 dX8_kept_118 (by decide) ?_
          have h := Option.some.inj h
          subst h
          refine J_sub [2, 3, 4, 1, 0] rfl ?_
          exact ih _ _ h2 Kx
        · have h := br_n c21 h
          refine J_iconst 1 dX8_kept_109 rfl ?_
          refine J_goto 114 dX8_kept_110 (by decide) ?_
          refine J_istore_n (L' := [(3, .int ((1 : Int32))), (0, .ref (94)), (1, .int (x1)), (2, .int (x2)), (4, .int (x4))]) dX8_kept_114 rfl (by decide) rfl ?_
          refine J_iinc (j := 4) (v := (x4 + (1 : Int32))) (L' := [(4, .int ((x4 + (1 : Int32)))), (3, .int ((1 : Int32))), (0, .ref (94)), (1, .int (x1)), (2, .int (x2))]) dX8_kept_115 rfl rfl (by decide) rfl ?_
          refine J_goto 78 dX8_kept_118 (by decide) ?_
          have h := Option.some.inj h
          subst h
          refine J_sub [2, 3, 4, 1, 0] rfl ?_
          exact ih _ _ h2 Kx
def g_X8_kept_74 (x1 : Int32) (x2 : Int32) (t0 : Int32) (M : aMm) : Option ((Int32 × Int32) ⊕ (Int32)) :=
  (lpf (fun a : Int32 × Int32 => b_X8_kept_78 (x1) (x2) a.1 a.2 M) FU (t0, (0 : Int32))).bind fun z24 => if (z24 : Int32) = 0 then some (.inl (x1, (x2 + (1 : Int32)))) else some (.inl (x2, (x2 + (1 : Int32))))
set_option maxRecDepth 100000 in
set_option maxHeartbeats 4000000 in
theorem jb_X8_kept_74 {x1 : Int32} {x2 : Int32} {t0 : Int32} {M : aMm} {C : aSc}  {res : aRes} {r : (Int32 × Int32) ⊕ (Int32)} (h : g_X8_kept_74 x1 x2 t0 M = some r) (Kn : ∀ (y1 : Int32) (y2 : Int32), r = .inl (y1, y2) → J mi_X8_kept res 0 0 42 [(0, .ref (94)), (1, .int (y1)), (2, .int (y2))] [] (C, M)) (Kx : ∀ (z1 : Int32), r = .inr z1 → J mi_X8_kept res 0 0 137 [(0, .ref (94)), (1, .int (z1))] [] (C, M)) : J mi_X8_kept res 0 0 74 [(0, .ref (94)), (1, .int (x1)), (2, .int (x2))] [.int (t0)] (C, M) := by
  rw [g_X8_kept_74] at h
  refine J_istore_n (L' := [(3, .int (t0)), (0, .ref (94)), (1, .int (x1)), (2, .int (x2))]) dX8_kept_74 rfl (by decide) rfl ?_
  refine J_iconst 0 dX8_kept_75 rfl ?_
  refine J_istore (L' := [(4, .int ((0 : Int32))), (3, .int (t0)), (0, .ref (94)), (1, .int (x1)), (2, .int (x2))]) dX8_kept_76 (by decide) rfl ?_
  refine J_sub [2, 3, 4, 1, 0] rfl ?_
  obtain ⟨z24, h25, h⟩ := br_b h
  refine jl_X8_kept_78  FU _ _ h25 ?_
  intro zz e
  subst e
  refine J_iload_n dX8_kept_121 rfl 3 rfl ?_
  refine J_if_eq 129 dX8_kept_122 (by decide) (fun c27 => ?_) (fun c27 => ?_)
  · have h := br_p c27 h
    refine J_iload_n dX8_kept_129 rfl 1 rfl ?_
    refine J_istore_n (L' := [(1, .int (x1)), (0, .ref (94)), (2, .int (x2)), (3, .int (z24))]) dX8_kept_130 rfl (by decide) rfl ?_
    refine J_iinc (j := 2) (v := (x2 + (1 : Int32))) (L' := [(2, .int ((x2 + (1 : Int32)))), (1, .int (x1)), (0, .ref (94)), (3, .int (z24))]) dX8_kept_131 rfl rfl (by decide) rfl ?_
    refine J_goto 42 dX8_kept_134 (by decide) ?_
    have h := Option.some.inj h
    subst h
    refine J_sub [2, 1, 0] rfl ?_
    exact Kn _ _ rfl
  · have h := br_n c27 h
    refine J_iload_n dX8_kept_125 rfl 2 rfl ?_
    refine J_goto 130 dX8_kept_126 (by decide) ?_
    refine J_istore_n (L' := [(1, .int (x2)), (0, .ref (94)), (2, .int (x2)), (3, .int (z24))]) dX8_kept_130 rfl (by decide) rfl ?_
    refine J_iinc (j := 2) (v := (x2 + (1 : Int32))) (L' := [(2, .int ((x2 + (1 : Int32)))), (1, .int (x2)), (0, .ref (94)), (3, .int (z24))]) dX8_kept_131 rfl rfl (by decide) rfl ?_
    refine J_goto 42 dX8_kept_134 (by decide) ?_
    have h := Option.some.inj h
    subst h
    refine J_sub [2, 1, 0] rfl ?_
    exact Kn _ _ rfl
def g_X8_kept_69 (x1 : Int32) (x2 : Int32) (M : aMm) : Option ((Int32 × Int32) ⊕ (Int32)) :=
  g_X8_kept_74 (x1) (x2) ((1 : Int32)) M
set_option maxRecDepth 100000 in
set_option maxHeartbeats 4000000 in
theorem jb_X8_kept_69 {x1 : Int32} {x2 : Int32} {M : aMm} {C : aSc}  {res : aRes} {r : (Int32 × Int32) ⊕ (Int32)} (h : g_X8_kept_69 x1 x2 M = some r) (Kn : ∀ (y1 : Int32) (y2 : Int32), r = .inl (y1, y2) → J mi_X8_kept res 0 0 42 [(0, .ref (94)), (1, .int (y1)), (2, .int (y2))] [] (C, M)) (Kx : ∀ (z1 : Int32), r = .inr z1 → J mi_X8_kept res 0 0 137 [(0, .ref (94)), (1, .int (z1))] [] (C, M)) : J mi_X8_kept res 0 0 69 [(0, .ref (94)), (1, .int (x1)), (2, .int (x2))] [] (C, M) := by
  rw [g_X8_kept_69] at h
  refine J_iconst 1 dX8_kept_69 rfl ?_
  refine J_goto 74 dX8_kept_70 (by decide) ?_
  exact jb_X8_kept_74  h Kn Kx
def b_X8_kept_42  (x1 : Int32) (x2 : Int32) (M : aMm) : Option ((Int32 × Int32) ⊕ (Int32)) :=
  (m_ld M 1 (0 : Int32)).bind fun u13 => if (((1 : Int32) <<< (u13 &&& 31)) : Int32) ≤ x2 then some (.inr x1) else if (x1 : Int32) < 0 then g_X8_kept_69 (x1) (x2) M else (f_X8_ones x2 M).bind fun r29 => (f_X8_ones x1 M).bind fun r31 => if (r31 : Int32) ≤ r29 then g_X8_kept_74 (x1) (x2) ((0 : Int32)) M else g_X8_kept_69 (x1) (x2) M
set_option maxRecDepth 100000 in
set_option maxHeartbeats 4000000 in
theorem jl_X8_kept_42  {M : aMm} {C : aSc}  {res : aRes} {r : Int32} : ∀ (n : Nat) (x1 : Int32) (x2 : Int32), lpf (fun a : Int32 × Int32 => b_X8_kept_42  a.1 a.2 M) n (x1, x2) = some r → (∀ (z1 : Int32), r = z1 → J mi_X8_kept res 0 0 137 [(0, .ref (94)), (1, .int (z1))] [] (C, M)) → J mi_X8_kept res 0 0 42 [(0, .ref (94)), (1, .int (x1)), (2, .int (x2))] [] (C, M) := by
  intro n
  induction n with
  | zero =>
    intro x1 x2 h
    cases h
  | succ n ih =>
    intro x1 x2 h Kx
    obtain ⟨r0, h, h2⟩ := br_b h
    have h : b_X8_kept_42  x1 x2 M = some r0 := h
    rw [b_X8_kept_42] at h
    refine J_iload_n dX8_kept_42 rfl 2 rfl ?_
    refine J_iconst 1 dX8_kept_43 rfl ?_
    refine J_aload_n dX8_kept_44 rfl 0 rfl ?_
    refine J_getr (j := 0) (t := 103) (r := 95) rfl (by decide) (by decide) rfl (by decide) rfl rfl kf_X8_9 dX8_kept_45 ?_
    refine J_iconst 0 dX8_kept_48 rfl ?_
    obtain ⟨u13, h14, h⟩ := br_b h
    refine J_ialdM (m0 := 1) rfl rfl h14 dX8_kept_49 ?_
    refine J_ishl dX8_kept_50 ?_
    refine J_icmp_ge 137 dX8_kept_51 (by decide) (fun c34 => ?_) (fun c34 => ?_)
    · have h := br_p c34 h
      have h := Option.some.inj h
      subst h
      have h2 := Option.some.inj h2
      subst h2
      refine J_sub [0, 1] rfl ?_
      exact Kx _ rfl
    · have h := br_n c34 h
      refine J_iload_n dX8_kept_54 rfl 1 rfl ?_
      refine J_if_lt 69 dX8_kept_55 (by decide) (fun c33 => ?_) (fun c33 => ?_)
      · have h := br_p c33 h
        exact jb_X8_kept_69  h (fun _ _ e => by subst e; exact ih _ _ h2 Kx) (fun _ e => by subst e; have h2 := Option.some.inj h2; subst h2; exact Kx _ rfl)
      · have h := br_n c33 h
        refine J_iload_n dX8_kept_58 rfl 2 rfl ?_
        obtain ⟨r29, h28, h⟩ := br_b h
        refine J_callS (mj := mi_X8_ones) (as := [.int (x2)]) (rest := []) (ct_X8_ones (C := C)  h28) ⟨rfl, rfl⟩ rfl cg_X8_124 hd_X8_ones rfl ⟨Nat.le_of_ble_eq_true rfl, Nat.le_of_ble_eq_true rfl⟩ (Nat.le_of_ble_eq_true rfl) ⟨Nat.zero_le _, Nat.zero_le _⟩ dX8_kept_59 ?_
        refine J_iload_n dX8_kept_62 rfl 1 rfl ?_
        obtain ⟨r31, h30, h⟩ := br_b h
        refine J_callS (mj := mi_X8_ones) (as := [.int (x1)]) (rest := [.int (r29)]) (ct_X8_ones (C := C)  h30) ⟨rfl, rfl⟩ rfl cg_X8_124 hd_X8_ones rfl ⟨Nat.le_of_ble_eq_true rfl, Nat.le_of_ble_eq_true rfl⟩ (Nat.le_of_ble_eq_true rfl) ⟨Nat.zero_le _, Nat.zero_le _⟩ dX8_kept_63 ?_
        refine J_icmp_ge 73 dX8_kept_66 (by decide) (fun c32 => ?_) (fun c32 => ?_)
        · have h := br_p c32 h
          refine J_iconst 0 dX8_kept_73 rfl ?_
          exact jb_X8_kept_74  h (fun _ _ e => by subst e; exact ih _ _ h2 Kx) (fun _ e => by subst e; have h2 := Option.some.inj h2; subst h2; exact Kx _ rfl)
        · have h := br_n c32 h
          exact jb_X8_kept_69  h (fun _ _ e => by subst e; exact ih _ _ h2 Kx) (fun _ e => by subst e; have h2 := Option.some.inj h2; subst h2; exact Kx _ rfl)
def f_X8_kept  (M : aMm) : Option (Int32 × aMm) :=
  (lpf (fun a : Int32 × aMm => b_X8_kept_2  a.1 a.2) FU ((0 : Int32), M)).bind fun z10 => (lpf (fun a : Int32 × Int32 => b_X8_kept_42  a.1 a.2 z10) FU ((-1 : Int32), (0 : Int32))).bind fun z35 => if 0 ≤ (z35 : Int32) then some (z35, z10) else bd2 (f_X8_finding (-100006 : Int32) z10) fun r39 M40 => some (r39, M40)
set_option maxRecDepth 100000 in
set_option maxHeartbeats 4000000 in
theorem jm_X8_kept  {C : aSc} {M : aMm}  {res : aRes} {r : Int32 × aMm} (h : f_X8_kept  M = some r) (Kr : ∀ (v : Int32) (S' : aMm), r = (v, S') → res = (some (.int v), (C, S'))) : J mi_X8_kept res 0 0 0 [(0, .ref (94))] [] (C, M) := by
  rw [f_X8_kept] at h
  refine J_iconst 0 dX8_kept_0 rfl ?_
  refine J_istore_n (L' := [(1, .int ((0 : Int32))), (0, .ref (94))]) dX8_kept_1 rfl (by decide) rfl ?_
  refine J_sub [1, 0] rfl ?_
  obtain ⟨z10, h11, h⟩ := br_b h
  refine jl_X8_kept_2  FU _ _ h11 ?_
  intro zz e
  subst e
  refine J_iconst (-1) dX8_kept_38 rfl ?_
  refine J_istore_n (L' := [(1, .int ((-1 : Int32))), (0, .ref (94))]) dX8_kept_39 rfl (by decide) rfl ?_
  refine J_iconst 0 dX8_kept_40 rfl ?_
  refine J_istore_n (L' := [(2, .int ((0 : Int32))), (1, .int ((-1 : Int32))), (0, .ref (94))]) dX8_kept_41 rfl (by decide) rfl ?_
  refine J_sub [2, 1, 0] rfl ?_
  obtain ⟨z35, h36, h⟩ := br_b h
  refine jl_X8_kept_42  FU _ _ h36 ?_
  intro zz e
  subst e
  refine J_iload_n dX8_kept_137 rfl 1 rfl ?_
  refine J_if_ge 150 dX8_kept_138 (by decide) (fun c41 => ?_) (fun c41 => ?_)
  · have h := br_p c41 h
    refine J_iload_n dX8_kept_150 rfl 1 rfl ?_
    have h := Option.some.inj h
    subst h
    exact J_iret rfl rfl rfl (Kr _ _ rfl) dX8_kept_151
  · have h := br_n c41 h
    refine J_aload_n dX8_kept_141 rfl 0 rfl ?_
    refine J_ldc (-100006) dX8_kept_142 kc_X8_52 ?_
    obtain ⟨r39, M40, h38, h⟩ := br_b2 h
    refine J_callV (mj := mi_X8_finding) (as := [.int ((-100006 : Int32))]) (rest := []) (ct_X8_finding (C := C)  h38) ⟨rfl, rfl⟩ rfl rfl (by decide) rfl cg_X8_53 hd_X8_finding rfl ⟨Nat.le_of_ble_eq_true rfl, Nat.le_of_ble_eq_true rfl⟩ (Nat.le_of_ble_eq_true rfl) ⟨Nat.zero_le _, Nat.zero_le _⟩ dX8_kept_144 ?_
    refine J_goto 151 dX8_kept_147 (by decide) ?_
    have h := Option.some.inj h
    subst h
    exact J_iret rfl rfl rfl (Kr _ _ rfl) dX8_kept_151
theorem ct_X8_kept  {C : aSc} {M : aMm} {v : Int32} {S' : aMm}  (h : f_X8_kept  M = some (v, S')) : Ct mi_X8_kept yX8_kept [.ref (94)] (C, M) (some (.int v), (C, S')) := Ct_of_J (by decide +kernel) rfl (Nat.le_of_ble_eq_true rfl) (jm_X8_kept  h (fun _ _ e => by cases e; rfl))
def mi_X8_word : aMi := (cX8_word, 6, RX8, (some .int), { frames := 2, cells := 0, slots := 0, locals := 43 })
def g_X8_word_197 (x5 : Int32) (t0 : Int32) (t1 : Int32) (M : aMm) : Option (Int32 × aMm) :=
  (m_st M 1 t1 t0).bind fun M28 => (m_ld M28 1 (3 : Int32)).bind fun u30 => (m_st M28 1 (3 : Int32) (u30 + (1 : Int32))).bind fun M32 => some ((x5 + (1 : Int32)), M32)
set_option maxRecDepth 100000 in
set_option maxHeartbeats 4000000 in
theorem jb_X8_word_197 {x5 : Int32} {t0 : Int32} {t1 : Int32} {M : aMm} {C : aSc}  {res : aRes} {r : Int32 × aMm} (h : g_X8_word_197 x5 t0 t1 M = some r) (Kr : ∀ (v : Int32) (S' : aMm), r = (v, S') → res = (some (.int v), (C, S'))) : J mi_X8_word res 0 0 197 [(0, .ref (94)), (5, .int (x5))] [.int (t0), .int (t1), .ref (95)] (C, M) := by
  rw [g_X8_word_197] at h
  obtain ⟨M28, h29, h⟩ := br_b h
  refine J_iastM (m0 := 1) rfl rfl h29 dX8_word_197 ?_
  refine J_aload_n dX8_word_198 rfl 0 rfl ?_
  refine J_getr (j := 0) (t := 103) (r := 95) rfl (by decide) (by decide) rfl (by decide) rfl rfl kf_X8_9 dX8_word_199 ?_
  refine J_iconst 3 dX8_word_202 rfl ?_
  refine J_dup2 dX8_word_203 rfl rfl ?_
  obtain ⟨u30, h31, h⟩ := br_b h
  refine J_ialdM (m0 := 1) rfl rfl h31 dX8_word_204 ?_
  refine J_iconst 1 dX8_word_205 rfl ?_
  refine J_iadd dX8_word_206 ?_
  obtain ⟨M32, h33, h⟩ := br_b h
  refine J_iastM (m0 := 1) rfl rfl h33 dX8_word_207 ?_
  refine J_iload dX8_word_208 1 rfl ?_
  refine J_iconst 1 dX8_word_210 rfl ?_
  refine J_iadd dX8_word_211 ?_
  have h := Option.some.inj h
  subst h
  exact J_iret rfl rfl rfl (Kr _ _ rfl) dX8_word_212
def g_X8_word_87 (x1 : Int32) (x2 : Int32) (x3 : Int32) (x4 : Int32) (x5 : Int32) (M : aMm) : Option (Int32 × aMm) :=
  if (x5 : Int32) = (20 : Int32) then bd2 (f_X8_finding (-100005 : Int32) M) fun r36 M37 => some (r36, M37) else (f_X8_keep  M).bind fun M19 => (m_st M19 1 ((266 : Int32) + ((5 : Int32) * x5)) x1).bind fun M20 => (m_st M20 1 (((266 : Int32) + ((5 : Int32) * x5)) + (1 : Int32)) (x2 / (100 : Int32))).bind fun M22 => (m_st M22 1 (((266 : Int32) + ((5 : Int32) * x5)) + (2 : Int32)) (x2 - x2 / (100 : Int32) * (100 : Int32))).bind fun M24 => (m_st M24 1 (((266 : Int32) + ((5 : Int32) * x5)) + (3 : Int32)) x3).bind fun M26 => if (x4 : Int32) = 0 then g_X8_word_197 (x5) ((0 : Int32)) ((((266 : Int32) + ((5 : Int32) * x5)) + (4 : Int32))) M26 else g_X8_word_197 (x5) ((1 : Int32)) ((((266 : Int32) + ((5 : Int32) * x5)) + (4 : Int32))) M26
set_option maxRecDepth 100000 in
set_option maxHeartbeats 4000000 in
theorem jb_X8_word_87 {x1 : Int32} {x2 : Int32} {x3 : Int32} {x4 : Int32} {x5 : Int32} {M : aMm} {C : aSc}  {res : aRes} {r : Int32 × aMm} (h : g_X8_word_87 x1 x2 x3 x4 x5 M = some r) (Kr : ∀ (v : Int32) (S' : aMm), r = (v, S') → res = (some (.int v), (C, S'))) : J mi_X8_word res 0 0 87 [(0, .ref (94)), (1, .int (x1)), (2, .int (x2)), (3, .int (x3)), (4, .int (x4)), (5, .int (x5))] [] (C, M) := by
  rw [g_X8_word_87] at h
  refine J_iload dX8_word_87 5 rfl ?_
  refine J_bipush 20 dX8_word_89 rfl ?_
  refine J_icmp_ne 101 dX8_word_91 (by decide) (fun c38 => ?_) (fun c38 => ?_)
  · have h := br_n c38 h
    refine J_aload_n dX8_word_101 rfl 0 rfl ?_
    obtain ⟨M19, h18, h⟩ := br_b h
    refine J_callV (mj := mi_X8_keep) (as := []) (rest := []) (ct_X8_keep (C := C)  h18) ⟨rfl, rfl⟩ rfl rfl (by decide) rfl cg_X8_114 hd_X8_keep rfl ⟨Nat.le_of_ble_eq_true rfl, Nat.le_of_ble_eq_true rfl⟩ (Nat.le_of_ble_eq_true rfl) ⟨Nat.zero_le _, Nat.zero_le _⟩ dX8_word_102 ?_
    refine J_aload_n dX8_word_105 rfl 0 rfl ?_
    refine J_getr (j := 0) (t := 103) (r := 95) rfl (by decide) (by decide) rfl (by decide) rfl rfl kf_X8_9 dX8_word_106 ?_
    refine J_sipush 266 dX8_word_109 rfl ?_
    refine J_iconst 5 dX8_word_112 rfl ?_
    refine J_iload dX8_word_113 5 rfl ?_
    refine J_imul dX8_word_115 ?_
    refine J_iadd dX8_word_116 ?_
    refine J_iload_n dX8_word_117 rfl 1 rfl ?_
    obtain ⟨M20, h21, h⟩ := br_b h
    refine J_iastM (m0 := 1) rfl rfl h21 dX8_word_118 ?_
    refine J_aload_n dX8_word_119 rfl 0 rfl ?_
    refine J_getr (j := 0) (t := 103) (r := 95) rfl (by decide) (by decide) rfl (by decide) rfl rfl kf_X8_9 dX8_word_120 ?_
    refine J_sipush 266 dX8_word_123 rfl ?_
    refine J_iconst 5 dX8_word_126 rfl ?_
    refine J_iload dX8_word_127 5 rfl ?_
    refine J_imul dX8_word_129 ?_
    refine J_iadd dX8_word_130 ?_
    refine J_iconst 1 dX8_word_131 rfl ?_
    refine J_iadd dX8_word_132 ?_
    refine J_iload_n dX8_word_133 rfl 2 rfl ?_
    refine J_bipush 100 dX8_word_134 rfl ?_
    refine J_idiv dX8_word_136 (by decide) ?_
    obtain ⟨M22, h23, h⟩ := br_b h
    refine J_iastM (m0 := 1) rfl rfl h23 dX8_word_137 ?_
    refine J_aload_n dX8_word_138 rfl 0 rfl ?_
    refine J_getr (j := 0) (t := 103) (r := 95) rfl (by decide) (by decide) rfl (by decide) rfl rfl kf_X8_9 dX8_word_139 ?_
    refine J_sipush 266 dX8_word_142 rfl ?_
    refine J_iconst 5 dX8_word_145 rfl ?_
    refine J_iload dX8_word_146 5 rfl ?_
    refine J_imul dX8_word_148 ?_
    refine J_iadd dX8_word_149 ?_
    refine J_iconst 2 dX8_word_150 rfl ?_
    refine J_iadd dX8_word_151 ?_
    refine J_iload_n dX8_word_152 rfl 2 rfl ?_
    refine J_bipush 100 dX8_word_153 rfl ?_
    refine J_irem dX8_word_155 (by decide) ?_
    obtain ⟨M24, h25, h⟩ := br_b h
    refine J_iastM (m0 := 1) rfl rfl h25 dX8_word_156 ?_
    refine J_aload_n dX8_word_157 rfl 0 rfl ?_
    refine J_getr (j := 0) (t := 103) (r := 95) rfl (by decide) (by decide) rfl (by decide) rfl rfl kf_X8_9 dX8_word_158 ?_
    refine J_sipush 266 dX8_word_161 rfl ?_
    refine J_iconst 5 dX8_word_164 rfl ?_
    refine J_iload dX8_word_165 5 rfl ?_
    refine J_imul dX8_word_167 ?_
    refine J_iadd dX8_word_168 ?_
    refine J_iconst 3 dX8_word_169 rfl ?_
    refine J_iadd dX8_word_170 ?_
    refine J_iload_n dX8_word_171 rfl 3 rfl ?_
    obtain ⟨M26, h27, h⟩ := br_b h
    refine J_iastM (m0 := 1) rfl rfl h27 dX8_word_172 ?_
    refine J_aload_n dX8_word_173 rfl 0 rfl ?_
    refine J_getr (j := 0) (t := 103) (r := 95) rfl (by decide) (by decide) rfl (by decide) rfl rfl kf_X8_9 dX8_word_174 ?_
    refine J_sipush 266 dX8_word_177 rfl ?_
    refine J_iconst 5 dX8_word_180 rfl ?_
    refine J_iload dX8_word_181 5 rfl ?_
    refine J_imul dX8_word_183 ?_
    refine J_iadd dX8_word_184 ?_
    refine J_iconst 4 dX8_word_185 rfl ?_
    refine J_iadd dX8_word_186 ?_
    refine J_iload dX8_word_187 4 rfl ?_
    refine J_if_eq 196 dX8_word_189 (by decide) (fun c34 => ?_) (fun c34 => ?_)
    · have h := br_p c34 h
      refine J_iconst 0 dX8_word_196 rfl ?_
      refine J_sub [0, 5] rfl ?_
      exact jb_X8_word_197  h Kr
    · have h := br_n c34 h
      refine J_iconst 1 dX8_word_192 rfl ?_
      refine J_goto 197 dX8_word_193 (by decide) ?_
      refine J_sub [0, 5] rfl ?_
      exact jb_X8_word_197  h Kr
  · have h := br_p c38 h
    refine J_aload_n dX8_word_94 rfl 0 rfl ?_
    refine J_ldc (-100005) dX8_word_95 kc_X8_61 ?_
    obtain ⟨r36, M37, h35, h⟩ := br_b2 h
    refine J_callV (mj := mi_X8_finding) (as := [.int ((-100005 : Int32))]) (rest := []) (ct_X8_finding (C := C)  h35) ⟨rfl, rfl⟩ rfl rfl (by decide) rfl cg_X8_53 hd_X8_finding rfl ⟨Nat.le_of_ble_eq_true rfl, Nat.le_of_ble_eq_true rfl⟩ (Nat.le_of_ble_eq_true rfl) ⟨Nat.zero_le _, Nat.zero_le _⟩ dX8_word_97 ?_
    have h := Option.some.inj h
    subst h
    exact J_iret rfl rfl rfl (Kr _ _ rfl) dX8_word_100
def f_X8_word (x1 : Int32) (x2 : Int32) (x3 : Int32) (x4 : Int32) (M : aMm) : Option (Int32 × aMm) :=
  (f_X8_isLight x1 M).bind fun r2 => if (r2 : Int32) = 0 then bd2 (f_X8_finding (-100001 : Int32) M) fun r4 M5 => some (r4, M5) else (f_X8_within x2 (0 : Int32) (9999 : Int32) M).bind fun r7 => if (r7 : Int32) = 0 then bd2 (f_X8_finding (-100001 : Int32) M) fun r9 M10 => some (r9, M10) else (f_X8_within x3 (0 : Int32) (999 : Int32) M).bind fun r12 => if (r12 : Int32) = 0 then bd2 (f_X8_finding (-100001 : Int32) M) fun r48 M49 => some (r48, M49) else (m_ld M 1 (3 : Int32)).bind fun u13 => if ((x2 - x2 / (100 : Int32) * (100 : Int32)) : Int32) < (x2 / (100 : Int32)) then bd2 (f_X8_finding (-100003 : Int32) M) fun r16 M17 => some (r16, M17) else if (u13 : Int32) ≤ 0 then g_X8_word_87 (x1) (x2) (x3) (x4) (u13) M else (m_ld M 1 (((266 : Int32) + ((5 : Int32) * u13)) - (2 : Int32))).bind fun u39 => if (u39 : Int32) ≤ x3 then g_X8_word_87 (x1) (x2) (x3) (x4) (u13) M else bd2 (f_X8_finding (-100003 : Int32) M) fun r42 M43 => some (r42, M43)
set_option maxRecDepth 100000 in
set_option maxHeartbeats 4000000 in
theorem jm_X8_word {x1 : Int32} {x2 : Int32} {x3 : Int32} {x4 : Int32} {C : aSc} {M : aMm}  {res : aRes} {r : Int32 × aMm} (h : f_X8_word x1 x2 x3 x4 M = some r) (Kr : ∀ (v : Int32) (S' : aMm), r = (v, S') → res = (some (.int v), (C, S'))) : J mi_X8_word res 0 0 0 [(0, .ref (94)), (1, .int (x1)), (2, .int (x2)), (3, .int (x3)), (4, .int (x4))] [] (C, M) := by
  rw [f_X8_word] at h
  refine J_aload_n dX8_word_0 rfl 0 rfl ?_
  refine J_iload_n dX8_word_1 rfl 1 rfl ?_
  obtain ⟨r2, h1, h⟩ := br_b h
  refine J_callV (mj := mi_X8_isLight) (as := [.int (x1)]) (rest := []) (ct_X8_isLight (C := C)  h1) ⟨rfl, rfl⟩ rfl rfl (by decide) rfl cg_X8_120 hd_X8_isLight rfl ⟨Nat.le_of_ble_eq_true rfl, Nat.le_of_ble_eq_true rfl⟩ (Nat.le_of_ble_eq_true rfl) ⟨Nat.zero_le _, Nat.zero_le _⟩ dX8_word_2 ?_
  refine J_if_eq 30 dX8_word_5 (by decide) (fun c52 => ?_) (fun c52 => ?_)
  · have h := br_p c52 h
    refine J_aload_n dX8_word_30 rfl 0 rfl ?_
    refine J_ldc (-100001) dX8_word_31 kc_X8_57 ?_
    obtain ⟨r4, M5, h3, h⟩ := br_b2 h
    refine J_callV (mj := mi_X8_finding) (as := [.int ((-100001 : Int32))]) (rest := []) (ct_X8_finding (C := C)  h3) ⟨rfl, rfl⟩ rfl rfl (by decide) rfl cg_X8_53 hd_X8_finding rfl ⟨Nat.le_of_ble_eq_true rfl, Nat.le_of_ble_eq_true rfl⟩ (Nat.le_of_ble_eq_true rfl) ⟨Nat.zero_le _, Nat.zero_le _⟩ dX8_word_33 ?_
    have h := Option.some.inj h
    subst h
    exact J_iret rfl rfl rfl (Kr _ _ rfl) dX8_word_36
  · have h := br_n c52 h
    refine J_iload_n dX8_word_8 rfl 2 rfl ?_
    refine J_iconst 0 dX8_word_9 rfl ?_
    refine J_sipush 9999 dX8_word_10 rfl ?_
    obtain ⟨r7, h6, h⟩ := br_b h
    refine J_callS (mj := mi_X8_within) (as := [.int (x2), .int ((0 : Int32)), .int ((9999 : Int32))]) (rest := []) (ct_X8_within (C := C)  h6) ⟨rfl, rfl⟩ rfl cg_X8_41 hd_X8_within rfl ⟨Nat.le_of_ble_eq_true rfl, Nat.le_of_ble_eq_true rfl⟩ (Nat.le_of_ble_eq_true rfl) ⟨Nat.zero_le _, Nat.zero_le _⟩ dX8_word_13 ?_
    refine J_if_eq 30 dX8_word_16 (by decide) (fun c51 => ?_) (fun c51 => ?_)
    · have h := br_p c51 h
      refine J_aload_n dX8_word_30 rfl 0 rfl ?_
      refine J_ldc (-100001) dX8_word_31 kc_X8_57 ?_
      obtain ⟨r9, M10, h8, h⟩ := br_b2 h
      refine J_callV (mj := mi_X8_finding) (as := [.int ((-100001 : Int32))]) (rest := []) (ct_X8_finding (C := C)  h8) ⟨rfl, rfl⟩ rfl rfl (by decide) rfl cg_X8_53 hd_X8_finding rfl ⟨Nat.le_of_ble_eq_true rfl, Nat.le_of_ble_eq_true rfl⟩ (Nat.le_of_ble_eq_true rfl) ⟨Nat.zero_le _, Nat.zero_le _⟩ dX8_word_33 ?_
      have h := Option.some.inj h
      subst h
      exact J_iret rfl rfl rfl (Kr _ _ rfl) dX8_word_36
    · have h := br_n c51 h
      refine J_iload_n dX8_word_19 rfl 3 rfl ?_
      refine J_iconst 0 dX8_word_20 rfl ?_
      refine J_sipush 999 dX8_word_21 rfl ?_
      obtain ⟨r12, h11, h⟩ := br_b h
      refine J_callS (mj := mi_X8_within) (as := [.int (x3), .int ((0 : Int32)), .int ((999 : Int32))]) (rest := []) (ct_X8_within (C := C)  h11) ⟨rfl, rfl⟩ rfl cg_X8_41 hd_X8_within rfl ⟨Nat.le_of_ble_eq_true rfl, Nat.le_of_ble_eq_true rfl⟩ (Nat.le_of_ble_eq_true rfl) ⟨Nat.zero_le _, Nat.zero_le _⟩ dX8_word_24 ?_
      refine J_if_ne 37 dX8_word_27 (by decide) (fun c50 => ?_) (fun c50 => ?_)
      · have h := br_n c50 h
        refine J_aload_n dX8_word_37 rfl 0 rfl ?_
        refine J_getr (j := 0) (t := 103) (r := 95) rfl (by decide) (by decide) rfl (by decide) rfl rfl kf_X8_9 dX8_word_38 ?_
        refine J_iconst 3 dX8_word_41 rfl ?_
        obtain ⟨u13, h14, h⟩ := br_b h
        refine J_ialdM (m0 := 1) rfl rfl h14 dX8_word_42 ?_
        refine J_istore (L' := [(5, .int (u13)), (0, .ref (94)), (1, .int (x1)), (2, .int (x2)), (3, .int (x3)), (4, .int (x4))]) dX8_word_43 (by decide) rfl ?_
        refine J_iload_n dX8_word_45 rfl 3 rfl ?_
        refine J_bipush 100 dX8_word_46 rfl ?_
        refine J_idiv dX8_word_48 (by decide) ?_
        refine J_iload_n dX8_word_49 rfl 3 rfl ?_
        refine J_bipush 100 dX8_word_50 rfl ?_
        refine J_irem dX8_word_52 (by decide) ?_
        refine J_icmp_gt 80 dX8_word_53 (by decide) (fun c46 => ?_) (fun c46 => ?_)
        · have h := br_p c46 h
          refine J_aload_n dX8_word_80 rfl 1 rfl ?_
          refine J_ldc (-100003) dX8_word_81 kc_X8_147 ?_
          obtain ⟨r16, M17, h15, h⟩ := br_b2 h
          refine J_callV (mj := mi_X8_finding) (as := [.int ((-100003 : Int32))]) (rest := []) (ct_X8_finding (C := C)  h15) ⟨rfl, rfl⟩ rfl rfl (by decide) rfl cg_X8_53 hd_X8_finding rfl ⟨Nat.le_of_ble_eq_true rfl, Nat.le_of_ble_eq_true rfl⟩ (Nat.le_of_ble_eq_true rfl) ⟨Nat.zero_le _, Nat.zero_le _⟩ dX8_word_83 ?_
          have h := Option.some.inj h
          subst h
          exact J_iret rfl rfl rfl (Kr _ _ rfl) dX8_word_86
        · have h := br_n c46 h
          refine J_iload dX8_word_56 0 rfl ?_
          refine J_if_le 87 dX8_word_58 (by decide) (fun c45 => ?_) (fun c45 => ?_)
          · have h := br_p c45 h
            refine J_sub [1, 2, 3, 4, 5, 0] rfl ?_
            exact jb_X8_word_87  h Kr
          · have h := br_n c45 h
            refine J_iload_n dX8_word_61 rfl 4 rfl ?_
            refine J_aload_n dX8_word_62 rfl 1 rfl ?_
            refine J_getr (j := 0) (t := 103) (r := 95) rfl (by decide) (by decide) rfl (by decide) rfl rfl kf_X8_9 dX8_word_63 ?_
            refine J_sipush 266 dX8_word_66 rfl ?_
            refine J_iconst 5 dX8_word_69 rfl ?_
            refine J_iload dX8_word_70 0 rfl ?_
            refine J_imul dX8_word_72 ?_
            refine J_iadd dX8_word_73 ?_
            refine J_iconst 2 dX8_word_74 rfl ?_
            refine J_isub dX8_word_75 ?_
            obtain ⟨u39, h40, h⟩ := br_b h
            refine J_ialdM (m0 := 1) rfl rfl h40 dX8_word_76 ?_
            refine J_icmp_ge 87 dX8_word_77 (by decide) (fun c44 => ?_) (fun c44 => ?_)
            · have h := br_p c44 h
              refine J_sub [1, 2, 3, 4, 5, 0] rfl ?_
              exact jb_X8_word_87  h Kr
            · have h := br_n c44 h
              refine J_aload_n dX8_word_80 rfl 1 rfl ?_
              refine J_ldc (-100003) dX8_word_81 kc_X8_147 ?_
              obtain ⟨r42, M43, h41, h⟩ := br_b2 h
              refine J_callV (mj := mi_X8_finding) (as := [.int ((-100003 : Int32))]) (rest := []) (ct_X8_finding (C := C)  h41) ⟨rfl, rfl⟩ rfl rfl (by decide) rfl cg_X8_53 hd_X8_finding rfl ⟨Nat.le_of_ble_eq_true rfl, Nat.le_of_ble_eq_true rfl⟩ (Nat.le_of_ble_eq_true rfl) ⟨Nat.zero_le _, Nat.zero_le _⟩ dX8_word_83 ?_
              have h := Option.some.inj h
              subst h
              exact J_iret rfl rfl rfl (Kr _ _ rfl) dX8_word_86
      · have h := br_p c50 h
        refine J_aload_n dX8_word_30 rfl 0 rfl ?_
        refine J_ldc (-100001) dX8_word_31 kc_X8_57 ?_
        obtain ⟨r48, M49, h47, h⟩ := br_b2 h
        refine J_callV (mj := mi_X8_finding) (as := [.int ((-100001 : Int32))]) (rest := []) (ct_X8_finding (C := C)  h47) ⟨rfl, rfl⟩ rfl rfl (by decide) rfl cg_X8_53 hd_X8_finding rfl ⟨Nat.le_of_ble_eq_true rfl, Nat.le_of_ble_eq_true rfl⟩ (Nat.le_of_ble_eq_true rfl) ⟨Nat.zero_le _, Nat.zero_le _⟩ dX8_word_33 ?_
        have h := Option.some.inj h
        subst h
        exact J_iret rfl rfl rfl (Kr _ _ rfl) dX8_word_36
theorem ct_X8_word {x1 : Int32} {x2 : Int32} {x3 : Int32} {x4 : Int32} {C : aSc} {M : aMm} {v : Int32} {S' : aMm}  (h : f_X8_word x1 x2 x3 x4 M = some (v, S')) : Ct mi_X8_word yX8_word [.ref (94), .int (x1), .int (x2), .int (x3), .int (x4)] (C, M) (some (.int v), (C, S')) := Ct_of_J (by decide +kernel) rfl (Nat.le_of_ble_eq_true rfl) (jm_X8_word  h (fun _ _ e => by cases e; rfl))
def mi_X8_out : aMi := (cX8_out, 4, RX8, (some .int), { frames := 2, cells := 0, slots := 0, locals := 49 })
def f_X8_out (x1 : Int32) (x2 : Int32) (x3 : Int32) (M : aMm) : Option (Int32 × aMm) :=
  (f_X8_isLight x1 M).bind fun r2 => if (r2 : Int32) = 0 then bd2 (f_X8_finding (-100001 : Int32) M) fun r4 M5 => some (r4, M5) else (f_X8_within x2 (0 : Int32) (99 : Int32) M).bind fun r7 => if (r7 : Int32) = 0 then bd2 (f_X8_finding (-100001 : Int32) M) fun r9 M10 => some (r9, M10) else (f_X8_within x3 (0 : Int32) (999 : Int32) M).bind fun r12 => if (r12 : Int32) = 0 then bd2 (f_X8_finding (-100001 : Int32) M) fun r17 M18 => some (r17, M18) else (f_X8_isOut x1 x2 x3 M).bind fun r14 => if (r14 : Int32) = 0 then some ((0 : Int32), M) else some ((1 : Int32), M)
set_option maxRecDepth 100000 in
set_option maxHeartbeats 4000000 in
theorem jm_X8_out {x1 : Int32} {x2 : Int32} {x3 : Int32} {C : aSc} {M : aMm}  {res : aRes} {r : Int32 × aMm} (h : f_X8_out x1 x2 x3 M = some r) (Kr : ∀ (v : Int32) (S' : aMm), r = (v, S') → res = (some (.int v), (C, S'))) : J mi_X8_out res 0 0 0 [(0, .ref (94)), (1, .int (x1)), (2, .int (x2)), (3, .int (x3))] [] (C, M) := by
  rw [f_X8_out] at h
  refine J_aload_n dX8_out_0 rfl 0 rfl ?_
  refine J_iload_n dX8_out_1 rfl 1 rfl ?_
  obtain ⟨r2, h1, h⟩ := br_b h
  refine J_callV (mj := mi_X8_isLight) (as := [.int (x1)]) (rest := []) (ct_X8_isLight (C := C)  h1) ⟨rfl, rfl⟩ rfl rfl (by decide) rfl cg_X8_120 hd_X8_isLight rfl ⟨Nat.le_of_ble_eq_true rfl, Nat.le_of_ble_eq_true rfl⟩ (Nat.le_of_ble_eq_true rfl) ⟨Nat.zero_le _, Nat.zero_le _⟩ dX8_out_2 ?_
  refine J_if_eq 29 dX8_out_5 (by decide) (fun c21 => ?_) (fun c21 => ?_)
  · have h := br_p c21 h
    refine J_aload_n dX8_out_29 rfl 0 rfl ?_
    refine J_ldc (-100001) dX8_out_30 kc_X8_57 ?_
    obtain ⟨r4, M5, h3, h⟩ := br_b2 h
    refine J_callV (mj := mi_X8_finding) (as := [.int ((-100001 : Int32))]) (rest := []) (ct_X8_finding (C := C)  h3) ⟨rfl, rfl⟩ rfl rfl (by decide) rfl cg_X8_53 hd_X8_finding rfl ⟨Nat.le_of_ble_eq_true rfl, Nat.le_of_ble_eq_true rfl⟩ (Nat.le_of_ble_eq_true rfl) ⟨Nat.zero_le _, Nat.zero_le _⟩ dX8_out_32 ?_
    have h := Option.some.inj h
    subst h
    exact J_iret rfl rfl rfl (Kr _ _ rfl) dX8_out_35
  · have h := br_n c21 h
    refine J_iload_n dX8_out_8 rfl 2 rfl ?_
    refine J_iconst 0 dX8_out_9 rfl ?_
    refine J_bipush 99 dX8_out_10 rfl ?_
    obtain ⟨r7, h6, h⟩ := br_b h
    refine J_callS (mj := mi_X8_within) (as := [.int (x2), .int ((0 : Int32)), .int ((99 : Int32))]) (rest := []) (ct_X8_within (C := C)  h6) ⟨rfl, rfl⟩ rfl cg_X8_41 hd_X8_within rfl ⟨Nat.le_of_ble_eq_true rfl, Nat.le_of_ble_eq_true rfl⟩ (Nat.le_of_ble_eq_true rfl) ⟨Nat.zero_le _, Nat.zero_le _⟩ dX8_out_12 ?_
    refine J_if_eq 29 dX8_out_15 (by decide) (fun c20 => ?_) (fun c20 => ?_)
    · have h := br_p c20 h
      refine J_aload_n dX8_out_29 rfl 0 rfl ?_
      refine J_ldc (-100001) dX8_out_30 kc_X8_57 ?_
      obtain ⟨r9, M10, h8, h⟩ := br_b2 h
      refine J_callV (mj := mi_X8_finding) (as := [.int ((-100001 : Int32))]) (rest := []) (ct_X8_finding (C := C)  h8) ⟨rfl, rfl⟩ rfl rfl (by decide) rfl cg_X8_53 hd_X8_finding rfl ⟨Nat.le_of_ble_eq_true rfl, Nat.le_of_ble_eq_true rfl⟩ (Nat.le_of_ble_eq_true rfl) ⟨Nat.zero_le _, Nat.zero_le _⟩ dX8_out_32 ?_
      have h := Option.some.inj h
      subst h
      exact J_iret rfl rfl rfl (Kr _ _ rfl) dX8_out_35
    · have h := br_n c20 h
      refine J_iload_n dX8_out_18 rfl 3 rfl ?_
      refine J_iconst 0 dX8_out_19 rfl ?_
      refine J_sipush 999 dX8_out_20 rfl ?_
      obtain ⟨r12, h11, h⟩ := br_b h
      refine J_callS (mj := mi_X8_within) (as := [.int (x3), .int ((0 : Int32)), .int ((999 : Int32))]) (rest := []) (ct_X8_within (C := C)  h11) ⟨rfl, rfl⟩ rfl cg_X8_41 hd_X8_within rfl ⟨Nat.le_of_ble_eq_true rfl, Nat.le_of_ble_eq_true rfl⟩ (Nat.le_of_ble_eq_true rfl) ⟨Nat.zero_le _, Nat.zero_le _⟩ dX8_out_23 ?_
      refine J_if_ne 36 dX8_out_26 (by decide) (fun c19 => ?_) (fun c19 => ?_)
      · have h := br_n c19 h
        refine J_aload_n dX8_out_36 rfl 0 rfl ?_
        refine J_iload_n dX8_out_37 rfl 1 rfl ?_
        refine J_iload_n dX8_out_38 rfl 2 rfl ?_
        refine J_iload_n dX8_out_39 rfl 3 rfl ?_
        obtain ⟨r14, h13, h⟩ := br_b h
        refine J_callV (mj := mi_X8_isOut) (as := [.int (x1), .int (x2), .int (x3)]) (rest := []) (ct_X8_isOut (C := C)  h13) ⟨rfl, rfl⟩ rfl rfl (by decide) rfl cg_X8_165 hd_X8_isOut rfl ⟨Nat.le_of_ble_eq_true rfl, Nat.le_of_ble_eq_true rfl⟩ (Nat.le_of_ble_eq_true rfl) ⟨Nat.zero_le _, Nat.zero_le _⟩ dX8_out_40 ?_
        refine J_if_eq 50 dX8_out_43 (by decide) (fun c15 => ?_) (fun c15 => ?_)
        · have h := br_p c15 h
          refine J_iconst 0 dX8_out_50 rfl ?_
          have h := Option.some.inj h
          subst h
          exact J_iret rfl rfl rfl (Kr _ _ rfl) dX8_out_51
        · have h := br_n c15 h
          refine J_iconst 1 dX8_out_46 rfl ?_
          refine J_goto 51 dX8_out_47 (by decide) ?_
          have h := Option.some.inj h
          subst h
          exact J_iret rfl rfl rfl (Kr _ _ rfl) dX8_out_51
      · have h := br_p c19 h
        refine J_aload_n dX8_out_29 rfl 0 rfl ?_
        refine J_ldc (-100001) dX8_out_30 kc_X8_57 ?_
        obtain ⟨r17, M18, h16, h⟩ := br_b2 h
        refine J_callV (mj := mi_X8_finding) (as := [.int ((-100001 : Int32))]) (rest := []) (ct_X8_finding (C := C)  h16) ⟨rfl, rfl⟩ rfl rfl (by decide) rfl cg_X8_53 hd_X8_finding rfl ⟨Nat.le_of_ble_eq_true rfl, Nat.le_of_ble_eq_true rfl⟩ (Nat.le_of_ble_eq_true rfl) ⟨Nat.zero_le _, Nat.zero_le _⟩ dX8_out_32 ?_
        have h := Option.some.inj h
        subst h
        exact J_iret rfl rfl rfl (Kr _ _ rfl) dX8_out_35
theorem ct_X8_out {x1 : Int32} {x2 : Int32} {x3 : Int32} {C : aSc} {M : aMm} {v : Int32} {S' : aMm}  (h : f_X8_out x1 x2 x3 M = some (v, S')) : Ct mi_X8_out yX8_out [.ref (94), .int (x1), .int (x2), .int (x3)] (C, M) (some (.int v), (C, S')) := Ct_of_J (by decide +kernel) rfl (Nat.le_of_ble_eq_true rfl) (jm_X8_out  h (fun _ _ e => by cases e; rfl))
def mi_X8_ofRock : aMi := (cX8_ofRock, 5, RX8, (some .int), { frames := 2, cells := 0, slots := 0, locals := 44 })
def f_X8_ofRock (x1 : Int32) (x2 : Int32) (x3 : Int32) (x4 : Int32) (M : aMm) : Option (Int32 × aMm) :=
  (f_X8_isLight x1 M).bind fun r2 => if (r2 : Int32) = 0 then bd2 (f_X8_finding (-100001 : Int32) M) fun r4 M5 => some (r4, M5) else (f_X8_within x2 (0 : Int32) x3 M).bind fun r7 => if (r7 : Int32) = 0 then bd2 (f_X8_finding (-100001 : Int32) M) fun r20 M21 => some (r20, M21) else (f_X8_isRock x1 M).bind fun r9 => if (r9 : Int32) = 0 then bd2 (f_X8_finding (-100004 : Int32) M) fun r11 M12 => some (r11, M12) else (f_X8_of x1 x4 M).bind fun r14 => bd2 (f_X8_becomes r14 x2 M) fun r16 M17 => some (r16, M17)
set_option maxRecDepth 100000 in
set_option maxHeartbeats 4000000 in
theorem jm_X8_ofRock {x1 : Int32} {x2 : Int32} {x3 : Int32} {x4 : Int32} {C : aSc} {M : aMm}  {res : aRes} {r : Int32 × aMm} (h : f_X8_ofRock x1 x2 x3 x4 M = some r) (Kr : ∀ (v : Int32) (S' : aMm), r = (v, S') → res = (some (.int v), (C, S'))) : J mi_X8_ofRock res 0 0 0 [(0, .ref (94)), (1, .int (x1)), (2, .int (x2)), (3, .int (x3)), (4, .int (x4))] [] (C, M) := by
  rw [f_X8_ofRock] at h
  refine J_aload_n dX8_ofRock_0 rfl 0 rfl ?_
  refine J_iload_n dX8_ofRock_1 rfl 1 rfl ?_
  obtain ⟨r2, h1, h⟩ := br_b h
  refine J_callV (mj := mi_X8_isLight) (as := [.int (x1)]) (rest := []) (ct_X8_isLight (C := C)  h1) ⟨rfl, rfl⟩ rfl rfl (by decide) rfl cg_X8_120 hd_X8_isLight rfl ⟨Nat.le_of_ble_eq_true rfl, Nat.le_of_ble_eq_true rfl⟩ (Nat.le_of_ble_eq_true rfl) ⟨Nat.zero_le _, Nat.zero_le _⟩ dX8_ofRock_2 ?_
  refine J_if_eq 17 dX8_ofRock_5 (by decide) (fun c23 => ?_) (fun c23 => ?_)
  · have h := br_p c23 h
    refine J_aload_n dX8_ofRock_17 rfl 0 rfl ?_
    refine J_ldc (-100001) dX8_ofRock_18 kc_X8_57 ?_
    obtain ⟨r4, M5, h3, h⟩ := br_b2 h
    refine J_callV (mj := mi_X8_finding) (as := [.int ((-100001 : Int32))]) (rest := []) (ct_X8_finding (C := C)  h3) ⟨rfl, rfl⟩ rfl rfl (by decide) rfl cg_X8_53 hd_X8_finding rfl ⟨Nat.le_of_ble_eq_true rfl, Nat.le_of_ble_eq_true rfl⟩ (Nat.le_of_ble_eq_true rfl) ⟨Nat.zero_le _, Nat.zero_le _⟩ dX8_ofRock_20 ?_
    have h := Option.some.inj h
    subst h
    exact J_iret rfl rfl rfl (Kr _ _ rfl) dX8_ofRock_23
  · have h := br_n c23 h
    refine J_iload_n dX8_ofRock_8 rfl 2 rfl ?_
    refine J_iconst 0 dX8_ofRock_9 rfl ?_
    refine J_iload_n dX8_ofRock_10 rfl 3 rfl ?_
    obtain ⟨r7, h6, h⟩ := br_b h
    refine J_callS (mj := mi_X8_within) (as := [.int (x2), .int ((0 : Int32)), .int (x3)]) (rest := []) (ct_X8_within (C := C)  h6) ⟨rfl, rfl⟩ rfl cg_X8_41 hd_X8_within rfl ⟨Nat.le_of_ble_eq_true rfl, Nat.le_of_ble_eq_true rfl⟩ (Nat.le_of_ble_eq_true rfl) ⟨Nat.zero_le _, Nat.zero_le _⟩ dX8_ofRock_11 ?_
    refine J_if_ne 24 dX8_ofRock_14 (by decide) (fun c22 => ?_) (fun c22 => ?_)
    · have h := br_n c22 h
      refine J_aload_n dX8_ofRock_24 rfl 0 rfl ?_
      refine J_iload_n dX8_ofRock_25 rfl 1 rfl ?_
      obtain ⟨r9, h8, h⟩ := br_b h
      refine J_callV (mj := mi_X8_isRock) (as := [.int (x1)]) (rest := []) (ct_X8_isRock (C := C)  h8) ⟨rfl, rfl⟩ rfl rfl (by decide) rfl cg_X8_193 hd_X8_isRock rfl ⟨Nat.le_of_ble_eq_true rfl, Nat.le_of_ble_eq_true rfl⟩ (Nat.le_of_ble_eq_true rfl) ⟨Nat.zero_le _, Nat.zero_le _⟩ dX8_ofRock_26 ?_
      refine J_if_eq 46 dX8_ofRock_29 (by decide) (fun c18 => ?_) (fun c18 => ?_)
      · have h := br_p c18 h
        refine J_aload_n dX8_ofRock_46 rfl 0 rfl ?_
        refine J_ldc (-100004) dX8_ofRock_47 kc_X8_123 ?_
        obtain ⟨r11, M12, h10, h⟩ := br_b2 h
        refine J_callV (mj := mi_X8_finding) (as := [.int ((-100004 : Int32))]) (rest := []) (ct_X8_finding (C := C)  h10) ⟨rfl, rfl⟩ rfl rfl (by decide) rfl cg_X8_53 hd_X8_finding rfl ⟨Nat.le_of_ble_eq_true rfl, Nat.le_of_ble_eq_true rfl⟩ (Nat.le_of_ble_eq_true rfl) ⟨Nat.zero_le _, Nat.zero_le _⟩ dX8_ofRock_49 ?_
        have h := Option.some.inj h
        subst h
        exact J_iret rfl rfl rfl (Kr _ _ rfl) dX8_ofRock_52
      · have h := br_n c18 h
        refine J_aload_n dX8_ofRock_32 rfl 0 rfl ?_
        refine J_iload_n dX8_ofRock_33 rfl 1 rfl ?_
        refine J_iload dX8_ofRock_34 4 rfl ?_
        obtain ⟨r14, h13, h⟩ := br_b h
        refine J_callS (mj := mi_X8_of) (as := [.int (x1), .int (x4)]) (rest := [.ref (94)]) (ct_X8_of (C := C)  h13) ⟨rfl, rfl⟩ rfl cg_X8_45 hd_X8_of rfl ⟨Nat.le_of_ble_eq_true rfl, Nat.le_of_ble_eq_true rfl⟩ (Nat.le_of_ble_eq_true rfl) ⟨Nat.zero_le _, Nat.zero_le _⟩ dX8_ofRock_36 ?_
        refine J_iload_n dX8_ofRock_39 rfl 2 rfl ?_
        obtain ⟨r16, M17, h15, h⟩ := br_b2 h
        refine J_callV (mj := mi_X8_becomes) (as := [.int (r14), .int (x2)]) (rest := []) (ct_X8_becomes (C := C)  h15) ⟨rfl, rfl⟩ rfl rfl (by decide) rfl cg_X8_171 hd_X8_becomes rfl ⟨Nat.le_of_ble_eq_true rfl, Nat.le_of_ble_eq_true rfl⟩ (Nat.le_of_ble_eq_true rfl) ⟨Nat.zero_le _, Nat.zero_le _⟩ dX8_ofRock_40 ?_
        refine J_goto 52 dX8_ofRock_43 (by decide) ?_
        have h := Option.some.inj h
        subst h
        exact J_iret rfl rfl rfl (Kr _ _ rfl) dX8_ofRock_52
    · have h := br_p c22 h
      refine J_aload_n dX8_ofRock_17 rfl 0 rfl ?_
      refine J_ldc (-100001) dX8_ofRock_18 kc_X8_57 ?_
      obtain ⟨r20, M21, h19, h⟩ := br_b2 h
      refine J_callV (mj := mi_X8_finding) (as := [.int ((-100001 : Int32))]) (rest := []) (ct_X8_finding (C := C)  h19) ⟨rfl, rfl⟩ rfl rfl (by decide) rfl cg_X8_53 hd_X8_finding rfl ⟨Nat.le_of_ble_eq_true rfl, Nat.le_of_ble_eq_true rfl⟩ (Nat.le_of_ble_eq_true rfl) ⟨Nat.zero_le _, Nat.zero_le _⟩ dX8_ofRock_20 ?_
      have h := Option.some.inj h
      subst h
      exact J_iret rfl rfl rfl (Kr _ _ rfl) dX8_ofRock_23
theorem ct_X8_ofRock {x1 : Int32} {x2 : Int32} {x3 : Int32} {x4 : Int32} {C : aSc} {M : aMm} {v : Int32} {S' : aMm}  (h : f_X8_ofRock x1 x2 x3 x4 M = some (v, S')) : Ct mi_X8_ofRock yX8_ofRock [.ref (94), .int (x1), .int (x2), .int (x3), .int (x4)] (C, M) (some (.int v), (C, S')) := Ct_of_J (by decide +kernel) rfl (Nat.le_of_ble_eq_true rfl) (jm_X8_ofRock  h (fun _ _ e => by cases e; rfl))
def mi_X8_keeper : aMi := (cX8_keeper, 3, RX8, (some .int), { frames := 3, cells := 0, slots := 0, locals := 68 })
def f_X8_keeper (x1 : Int32) (x2 : Int32) (M : aMm) : Option (Int32 × aMm) :=
  bd2 (f_X8_ofRock x1 x2 (19 : Int32) (8 : Int32) M) fun r2 M3 => some (r2, M3)
set_option maxRecDepth 100000 in
set_option maxHeartbeats 4000000 in
theorem jm_X8_keeper {x1 : Int32} {x2 : Int32} {C : aSc} {M : aMm}  {res : aRes} {r : Int32 × aMm} (h : f_X8_keeper x1 x2 M = some r) (Kr : ∀ (v : Int32) (S' : aMm), r = (v, S') → res = (some (.int v), (C, S'))) : J mi_X8_keeper res 0 0 0 [(0, .ref (94)), (1, .int (x1)), (2, .int (x2))] [] (C, M) := by
  rw [f_X8_keeper] at h
  refine J_aload_n dX8_keeper_0 rfl 0 rfl ?_
  refine J_iload_n dX8_keeper_1 rfl 1 rfl ?_
  refine J_iload_n dX8_keeper_2 rfl 2 rfl ?_
  refine J_bipush 19 dX8_keeper_3 rfl ?_
  refine J_bipush 8 dX8_keeper_5 rfl ?_
  obtain ⟨r2, M3, h1, h⟩ := br_b2 h
  refine J_callV (mj := mi_X8_ofRock) (as := [.int (x1), .int (x2), .int ((19 : Int32)), .int ((8 : Int32))]) (rest := []) (ct_X8_ofRock (C := C)  h1) ⟨rfl, rfl⟩ rfl rfl (by decide) rfl cg_X8_196 hd_X8_ofRock rfl ⟨Nat.le_of_ble_eq_true rfl, Nat.le_of_ble_eq_true rfl⟩ (Nat.le_of_ble_eq_true rfl) ⟨Nat.zero_le _, Nat.zero_le _⟩ dX8_keeper_7 ?_
  have h := Option.some.inj h
  subst h
  exact J_iret rfl rfl rfl (Kr _ _ rfl) dX8_keeper_10
theorem ct_X8_keeper {x1 : Int32} {x2 : Int32} {C : aSc} {M : aMm} {v : Int32} {S' : aMm}  (h : f_X8_keeper x1 x2 M = some (v, S')) : Ct mi_X8_keeper yX8_keeper [.ref (94), .int (x1), .int (x2)] (C, M) (some (.int v), (C, S')) := Ct_of_J (by decide +kernel) rfl (Nat.le_of_ble_eq_true rfl) (jm_X8_keeper  h (fun _ _ e => by cases e; rfl))
def mi_X8_limit : aMi := (cX8_limit, 3, RX8, (some .int), { frames := 3, cells := 0, slots := 0, locals := 68 })
def f_X8_limit (x1 : Int32) (x2 : Int32) (M : aMm) : Option (Int32 × aMm) :=
  bd2 (f_X8_ofRock x1 x2 (9 : Int32) (9 : Int32) M) fun r2 M3 => some (r2, M3)
set_option maxRecDepth 100000 in
set_option maxHeartbeats 4000000 in
theorem jm_X8_limit {x1 : Int32} {x2 : Int32} {C : aSc} {M : aMm}  {res : aRes} {r : Int32 × aMm} (h : f_X8_limit x1 x2 M = some r) (Kr : ∀ (v : Int32) (S' : aMm), r = (v, S') → res = (some (.int v), (C, S'))) : J mi_X8_limit res 0 0 0 [(0, .ref (94)), (1, .int (x1)), (2, .int (x2))] [] (C, M) := by
  rw [f_X8_limit] at h
  refine J_aload_n dX8_limit_0 rfl 0 rfl ?_
  refine J_iload_n dX8_limit_1 rfl 1 rfl ?_
  refine J_iload_n dX8_limit_2 rfl 2 rfl ?_
  refine J_bipush 9 dX8_limit_3 rfl ?_
  refine J_bipush 9 dX8_limit_5 rfl ?_
  obtain ⟨r2, M3, h1, h⟩ := br_b2 h
  refine J_callV (mj := mi_X8_ofRock) (as := [.int (x1), .int (x2), .int ((9 : Int32)), .int ((9 : Int32))]) (rest := []) (ct_X8_ofRock (C := C)  h1) ⟨rfl, rfl⟩ rfl rfl (by decide) rfl cg_X8_196 hd_X8_ofRock rfl ⟨Nat.le_of_ble_eq_true rfl, Nat.le_of_ble_eq_true rfl⟩ (Nat.le_of_ble_eq_true rfl) ⟨Nat.zero_le _, Nat.zero_le _⟩ dX8_limit_7 ?_
  have h := Option.some.inj h
  subst h
  exact J_iret rfl rfl rfl (Kr _ _ rfl) dX8_limit_10
theorem ct_X8_limit {x1 : Int32} {x2 : Int32} {C : aSc} {M : aMm} {v : Int32} {S' : aMm}  (h : f_X8_limit x1 x2 M = some (v, S')) : Ct mi_X8_limit yX8_limit [.ref (94), .int (x1), .int (x2)] (C, M) (some (.int v), (C, S')) := Ct_of_J (by decide +kernel) rfl (Nat.le_of_ble_eq_true rfl) (jm_X8_limit  h (fun _ _ e => by cases e; rfl))
def mi_X8_seas : aMi := (cX8_seas, 5, RX8, (some .int), { frames := 2, cells := 0, slots := 0, locals := 42 })
def b_X8_seas_38 (x1 : Int32) (x2 : Int32) (x3 : Int32) (M : aMm) : Option ((Int32 × Int32 × aMm) ⊕ (Int32 × aMm)) :=
  if ((20 : Int32) : Int32) ≤ x3 then some (.inr (x2, M)) else (m_ld M 5 x1).bind fun u7 => if (u7 : Int32) ≤ x3 then some (.inr (x2, M)) else (m_ld M 6 (((30 : Int32) * x1) + x3)).bind fun u9 => (f_X8_within u9 (0 : Int32) (9 : Int32) M).bind fun r12 => if (r12 : Int32) = 0 then some (.inl (x2, (x3 + (1 : Int32)), M)) else (m_st M 1 ((366 : Int32) + x3) u9).bind fun M13 => some (.inl ((x2 + (1 : Int32)), (x3 + (1 : Int32)), M13))
set_option maxRecDepth 100000 in
set_option maxHeartbeats 4000000 in
theorem jl_X8_seas_38 {x1 : Int32} {C : aSc}  {res : aRes} {r : Int32 × aMm} : ∀ (n : Nat) (x2 : Int32) (x3 : Int32) (M : aMm), lpf (fun a : Int32 × Int32 × aMm => b_X8_seas_38 (x1) a.1 a.2.1 a.2.2) n (x2, x3, M) = some r → (∀ (z2 : Int32) (S2 : aMm), r = (z2, S2) → J mi_X8_seas res 0 0 99 [(2, .int (z2))] [] (C, S2)) → J mi_X8_seas res 0 0 38 [(0, .ref (94)), (1, .int (x1)), (2, .int (x2)), (3, .int (x3))] [] (C, M) := by
  intro n
  induction n with
  | zero =>
    intro x2 x3 M h
    cases h
  | succ n ih =>
    intro x2 x3 M h Kx
    obtain ⟨r0, h, h2⟩ := br_b h
    have h : b_X8_seas_38 x1 x2 x3 M = some r0 := h
    rw [b_X8_seas_38] at h
    refine J_iload_n dX8_seas_38 rfl 3 rfl ?_
    refine J_bipush 20 dX8_seas_39 rfl ?_
    refine J_icmp_ge 99 dX8_seas_41 (by decide) (fun c17 => ?_) (fun c17 => ?_)
    · have h := br_p c17 h
      have h := Option.some.inj h
      subst h
      have h2 := Option.some.inj h2
      subst h2
      refine J_sub [2] rfl ?_
      exact Kx _ _ rfl
    · have h := br_n c17 h
      refine J_iload_n dX8_seas_44 rfl 3 rfl ?_
      refine J_aload_n dX8_seas_45 rfl 0 rfl ?_
      refine J_getr (j := 7) (t := 107) (r := 99) rfl (by decide) (by decide) rfl (by decide) rfl rfl kf_X8_22 dX8_seas_46 ?_
      refine J_iload_n dX8_seas_49 rfl 1 rfl ?_
      obtain ⟨u7, h8, h⟩ := br_b h
      refine J_ialdM (m0 := 5) rfl rfl h8 dX8_seas_50 ?_
      refine J_icmp_ge 99 dX8_seas_51 (by decide) (fun c16 => ?_) (fun c16 => ?_)
      · have h := br_p c16 h
        have h := Option.some.inj h
        subst h
        have h2 := Option.some.inj h2
        subst h2
        refine J_sub [2] rfl ?_
        exact Kx _ _ rfl
      · have h := br_n c16 h
        refine J_aload_n dX8_seas_54 rfl 0 rfl ?_
        refine J_getr (j := 8) (t := 108) (r := 100) rfl (by decide) (by decide) rfl (by decide) rfl rfl kf_X8_25 dX8_seas_55 ?_
        refine J_bipush 30 dX8_seas_58 rfl ?_
        refine J_iload_n dX8_seas_60 rfl 1 rfl ?_
        refine J_imul dX8_seas_61 ?_
        refine J_iload_n dX8_seas_62 rfl 3 rfl ?_
        refine J_iadd dX8_seas_63 ?_
        obtain ⟨u9, h10, h⟩ := br_b h
        refine J_ialdM (m0 := 6) rfl rfl h10 dX8_seas_64 ?_
        refine J_istore (L' := [(4, .int (u9)), (0, .ref (94)), (1, .int (x1)), (2, .int (x2)), (3, .int (x3))]) dX8_seas_65 (by decide) rfl ?_
        refine J_iload dX8_seas_67 0 rfl ?_
        refine J_iconst 0 dX8_seas_69 rfl ?_
        refine J_bipush 9 dX8_seas_70 rfl ?_
        obtain ⟨r12, h11, h⟩ := br_b h
        refine J_callS (mj := mi_X8_within) (as := [.int (u9), .int ((0 : Int32)), .int ((9 : Int32))]) (rest := []) (ct_X8_within (C := C)  h11) ⟨rfl, rfl⟩ rfl cg_X8_41 hd_X8_within rfl ⟨Nat.le_of_ble_eq_true rfl, Nat.le_of_ble_eq_true rfl⟩ (Nat.le_of_ble_eq_true rfl) ⟨Nat.zero_le _, Nat.zero_le _⟩ dX8_seas_72 ?_
        refine J_if_eq 93 dX8_seas_75 (by decide) (fun c15 => ?_) (fun c15 => ?_)
        · have h := br_p c15 h
          refine J_iinc (j := 4) (v := (x3 + (1 : Int32))) (L' := [(3, .int ((x3 + (1 : Int32)))), (4, .int (u9)), (0, .ref (94)), (1, .int (x1)), (2, .int (x2))]) dX8_seas_93 rfl rfl (by decide) rfl ?_
          refine J_goto 38 dX8_seas_96 (by decide) ?_
          have h := Option.some.inj h
          subst h
          refine J_sub [2, 3, 4, 0] rfl ?_
          exact ih _ _ _ h2 Kx
        · have h := br_n c15 h
          refine J_aload_n dX8_seas_78 rfl 1 rfl ?_
          refine J_getr (j := 0) (t := 103) (r := 95) rfl (by decide) (by decide) rfl (by decide) rfl rfl kf_X8_9 dX8_seas_79 ?_
          refine J_sipush 366 dX8_seas_82 rfl ?_
          refine J_iload_n dX8_seas_85 rfl 4 rfl ?_
          refine J_iadd dX8_seas_86 ?_
          refine J_iload dX8_seas_87 0 rfl ?_
          obtain ⟨M13, h14, h⟩ := br_b h
          refine J_iastM (m0 := 1) rfl rfl h14 dX8_seas_89 ?_
          refine J_iinc (j := 3) (v := (x2 + (1 : Int32))) (L' := [(2, .int ((x2 + (1 : Int32)))), (4, .int (u9)), (0, .ref (94)), (1, .int (x1)), (3, .int (x3))]) dX8_seas_90 rfl rfl (by decide) rfl ?_
          refine J_iinc (j := 4) (v := (x3 + (1 : Int32))) (L' := [(3, .int ((x3 + (1 : Int32)))), (2, .int ((x2 + (1 : Int32)))), (4, .int (u9)), (0, .ref (94)), (1, .int (x1))]) dX8_seas_93 rfl rfl (by decide) rfl ?_
          refine J_goto 38 dX8_seas_96 (by decide) ?_
          have h := Option.some.inj h
          subst h
          refine J_sub [3, 4, 1, 0] rfl ?_
          exact ih _ _ _ h2 Kx
def f_X8_seas (x1 : Int32) (M : aMm) : Option (Int32 × aMm) :=
  (f_X8_isSheet x1 M).bind fun r2 => if (r2 : Int32) = 0 then bd2 (f_X8_finding (-100001 : Int32) M) fun r27 M28 => some (r27, M28) else (m_ld M 4 x1).bind fun u3 => if (u3 : Int32) = 0 then bd2 (f_X8_finding (-100002 : Int32) M) fun r23 M24 => some (r23, M24) else (f_X8_keep  M).bind fun M6 => (lpf (fun a : Int32 × Int32 × aMm => b_X8_seas_38 (x1) a.1 a.2.1 a.2.2) FU ((0 : Int32), (0 : Int32), M6)).bind fun z18 => some (z18.1, z18.2)
set_option maxRecDepth 100000 in
set_option maxHeartbeats 4000000 in
theorem jm_X8_seas {x1 : Int32} {C : aSc} {M : aMm}  {res : aRes} {r : Int32 × aMm} (h : f_X8_seas x1 M = some r) (Kr : ∀ (v : Int32) (S' : aMm), r = (v, S') → res = (some (.int v), (C, S'))) : J mi_X8_seas res 0 0 0 [(0, .ref (94)), (1, .int (x1))] [] (C, M) := by
  rw [f_X8_seas] at h
  refine J_iload_n dX8_seas_0 rfl 1 rfl ?_
  obtain ⟨r2, h1, h⟩ := br_b h
  refine J_callS (mj := mi_X8_isSheet) (as := [.int (x1)]) (rest := []) (ct_X8_isSheet (C := C)  h1) ⟨rfl, rfl⟩ rfl cg_X8_177 hd_X8_isSheet rfl ⟨Nat.le_of_ble_eq_true rfl, Nat.le_of_ble_eq_true rfl⟩ (Nat.le_of_ble_eq_true rfl) ⟨Nat.zero_le _, Nat.zero_le _⟩ dX8_seas_1 ?_
  refine J_if_ne 14 dX8_seas_4 (by decide) (fun c29 => ?_) (fun c29 => ?_)
  · have h := br_n c29 h
    refine J_aload_n dX8_seas_14 rfl 0 rfl ?_
    refine J_getr (j := 6) (t := 106) (r := 98) rfl (by decide) (by decide) rfl (by decide) rfl rfl kf_X8_19 dX8_seas_15 ?_
    refine J_iload_n dX8_seas_18 rfl 1 rfl ?_
    obtain ⟨u3, h4, h⟩ := br_b h
    refine J_ialdM (m0 := 4) rfl rfl h4 dX8_seas_19 ?_
    refine J_if_ne 30 dX8_seas_20 (by decide) (fun c25 => ?_) (fun c25 => ?_)
    · have h := br_n c25 h
      refine J_aload_n dX8_seas_30 rfl 0 rfl ?_
      obtain ⟨M6, h5, h⟩ := br_b h
      refine J_callV (mj := mi_X8_keep) (as := []) (rest := []) (ct_X8_keep (C := C)  h5) ⟨rfl, rfl⟩ rfl rfl (by decide) rfl cg_X8_114 hd_X8_keep rfl ⟨Nat.le_of_ble_eq_true rfl, Nat.le_of_ble_eq_true rfl⟩ (Nat.le_of_ble_eq_true rfl) ⟨Nat.zero_le _, Nat.zero_le _⟩ dX8_seas_31 ?_
      refine J_iconst 0 dX8_seas_34 rfl ?_
      refine J_istore_n (L' := [(2, .int ((0 : Int32))), (0, .ref (94)), (1, .int (x1))]) dX8_seas_35 rfl (by decide) rfl ?_
      refine J_iconst 0 dX8_seas_36 rfl ?_
      refine J_istore_n (L' := [(3, .int ((0 : Int32))), (2, .int ((0 : Int32))), (0, .ref (94)), (1, .int (x1))]) dX8_seas_37 rfl (by decide) rfl ?_
      refine J_sub [2, 3, 1, 0] rfl ?_
      obtain ⟨z18, h19, h⟩ := br_b h
      refine jl_X8_seas_38  FU _ _ _ h19 ?_
      intro v20 M21 e
      subst e
      refine J_iload_n dX8_seas_99 rfl 0 rfl ?_
      have h := Option.some.inj h
      subst h
      exact J_iret rfl rfl rfl (Kr _ _ rfl) dX8_seas_100
    · have h := br_p c25 h
      refine J_aload_n dX8_seas_23 rfl 0 rfl ?_
      refine J_ldc (-100002) dX8_seas_24 kc_X8_180 ?_
      obtain ⟨r23, M24, h22, h⟩ := br_b2 h
      refine J_callV (mj := mi_X8_finding) (as := [.int ((-100002 : Int32))]) (rest := []) (ct_X8_finding (C := C)  h22) ⟨rfl, rfl⟩ rfl rfl (by decide) rfl cg_X8_53 hd_X8_finding rfl ⟨Nat.le_of_ble_eq_true rfl, Nat.le_of_ble_eq_true rfl⟩ (Nat.le_of_ble_eq_true rfl) ⟨Nat.zero_le _, Nat.zero_le _⟩ dX8_seas_26 ?_
      have h := Option.some.inj h
      subst h
      exact J_iret rfl rfl rfl (Kr _ _ rfl) dX8_seas_29
  · have h := br_p c29 h
    refine J_aload_n dX8_seas_7 rfl 0 rfl ?_
    refine J_ldc (-100001) dX8_seas_8 kc_X8_57 ?_
    obtain ⟨r27, M28, h26, h⟩ := br_b2 h
    refine J_callV (mj := mi_X8_finding) (as := [.int ((-100001 : Int32))]) (rest := []) (ct_X8_finding (C := C)  h26) ⟨rfl, rfl⟩ rfl rfl (by decide) rfl cg_X8_53 hd_X8_finding rfl ⟨Nat.le_of_ble_eq_true rfl, Nat.le_of_ble_eq_true rfl⟩ (Nat.le_of_ble_eq_true rfl) ⟨Nat.zero_le _, Nat.zero_le _⟩ dX8_seas_10 ?_
    have h := Option.some.inj h
    subst h
    exact J_iret rfl rfl rfl (Kr _ _ rfl) dX8_seas_13
theorem ct_X8_seas {x1 : Int32} {C : aSc} {M : aMm} {v : Int32} {S' : aMm}  (h : f_X8_seas x1 M = some (v, S')) : Ct mi_X8_seas yX8_seas [.ref (94), .int (x1)] (C, M) (some (.int v), (C, S')) := Ct_of_J (by decide +kernel) rfl (Nat.le_of_ble_eq_true rfl) (jm_X8_seas  h (fun _ _ e => by cases e; rfl))
def mi_X8_overdueOf : aMi := (cX8_overdueOf, 3, RX8, (some .int), { frames := 1, cells := 0, slots := 0, locals := 21 })
def f_X8_overdueOf (x1 : Int32) (x2 : Int32) (M : aMm) : Option (Int32) :=
  (f_X8_of x1 (8 : Int32) M).bind fun r2 => (m_ld M 1 r2).bind fun u3 => some (a_max (0 : Int32) ((x2 - u3) - (10 : Int32)))
set_option maxRecDepth 100000 in
set_option maxHeartbeats 4000000 in
theorem jm_X8_overdueOf {x1 : Int32} {x2 : Int32} {C : aSc} {M : aMm}  {res : aRes} {r : Int32} (h : f_X8_overdueOf x1 x2 M = some r) (Kr : ∀ (v : Int32), r = v → res = (some (.int v), (C, M))) : J mi_X8_overdueOf res 0 0 0 [(0, .ref (94)), (1, .int (x1)), (2, .int (x2))] [] (C, M) := by
  rw [f_X8_overdueOf] at h
  refine J_iconst 0 dX8_overdueOf_0 rfl ?_
  refine J_iload_n dX8_overdueOf_1 rfl 2 rfl ?_
  refine J_aload_n dX8_overdueOf_2 rfl 0 rfl ?_
  refine J_getr (j := 0) (t := 103) (r := 95) rfl (by decide) (by decide) rfl (by decide) rfl rfl kf_X8_9 dX8_overdueOf_3 ?_
  refine J_iload_n dX8_overdueOf_6 rfl 1 rfl ?_
  refine J_bipush 8 dX8_overdueOf_7 rfl ?_
  obtain ⟨r2, h1, h⟩ := br_b h
  refine J_callS (mj := mi_X8_of) (as := [.int (x1), .int ((8 : Int32))]) (rest := [.ref (95), .int (x2), .int ((0 : Int32))]) (ct_X8_of (C := C)  h1) ⟨rfl, rfl⟩ rfl cg_X8_45 hd_X8_of rfl ⟨Nat.le_of_ble_eq_true rfl, Nat.le_of_ble_eq_true rfl⟩ (Nat.le_of_ble_eq_true rfl) ⟨Nat.zero_le _, Nat.zero_le _⟩ dX8_overdueOf_9 ?_
  obtain ⟨u3, h4, h⟩ := br_b h
  refine J_ialdM (m0 := 1) rfl rfl h4 dX8_overdueOf_12 ?_
  refine J_isub dX8_overdueOf_13 ?_
  refine J_bipush 10 dX8_overdueOf_14 rfl ?_
  refine J_isub dX8_overdueOf_16 ?_
  refine J_mmax km_X8_157 kst_Math_max ki_Math kcd_Math_max (by decide) (Nat.le_of_ble_eq_true rfl) ⟨Nat.zero_le _, Nat.zero_le _⟩ dX8_overdueOf_17 ?_
  have h := Option.some.inj h
  subst h
  exact J_iret rfl rfl rfl (Kr _ rfl) dX8_overdueOf_20
theorem ct_X8_overdueOf {x1 : Int32} {x2 : Int32} {C : aSc} {M : aMm} {v : Int32}  (h : f_X8_overdueOf x1 x2 M = some v) : Ct mi_X8_overdueOf yX8_overdueOf [.ref (94), .int (x1), .int (x2)] (C, M) (some (.int v), (C, M)) := Ct_of_J (by decide +kernel) rfl (Nat.le_of_ble_eq_true rfl) (jm_X8_overdueOf  h (fun _ e => by cases e; rfl))
def mi_X8_isLandable : aMi := (cX8_isLandable, 3, RX8, (some .boolean), { frames := 2, cells := 0, slots := 0, locals := 43 })
def f_X8_isLandable (x1 : Int32) (x2 : Int32) (M : aMm) : Option (Int32) :=
  (f_X8_isLight x1 M).bind fun r2 => if (r2 : Int32) = 0 then some (0 : Int32) else (f_X8_isRock x1 M).bind fun r4 => if (r4 : Int32) = 0 then some (0 : Int32) else (m_ld M 1 ((366 : Int32) + x2)).bind fun u5 => (f_X8_of x1 (9 : Int32) M).bind fun r8 => (m_ld M 1 r8).bind fun u9 => if (u9 : Int32) < u5 then some (0 : Int32) else some (1 : Int32)
set_option maxRecDepth 100000 in
set_option maxHeartbeats 4000000 in
theorem jm_X8_isLandable {x1 : Int32} {x2 : Int32} {C : aSc} {M : aMm}  {res : aRes} {r : Int32} (h : f_X8_isLandable x1 x2 M = some r) (Kr : ∀ (v : Int32), r = v → res = (some (.int v), (C, M))) : J mi_X8_isLandable res 0 0 0 [(0, .ref (94)), (1, .int (x1)), (2, .int (x2))] [] (C, M) := by
  rw [f_X8_isLandable] at h
  refine J_aload_n dX8_isLandable_0 rfl 0 rfl ?_
  refine J_iload_n dX8_isLandable_1 rfl 1 rfl ?_
  obtain ⟨r2, h1, h⟩ := br_b h
  refine J_callV (mj := mi_X8_isLight) (as := [.int (x1)]) (rest := []) (ct_X8_isLight (C := C)  h1) ⟨rfl, rfl⟩ rfl rfl (by decide) rfl cg_X8_120 hd_X8_isLight rfl ⟨Nat.le_of_ble_eq_true rfl, Nat.le_of_ble_eq_true rfl⟩ (Nat.le_of_ble_eq_true rfl) ⟨Nat.zero_le _, Nat.zero_le _⟩ dX8_isLandable_2 ?_
  refine J_if_eq 44 dX8_isLandable_5 (by decide) (fun c13 => ?_) (fun c13 => ?_)
  · have h := br_p c13 h
    refine J_iconst 0 dX8_isLandable_44 rfl ?_
    have h := Option.some.inj h
    subst h
    exact J_zret (Or.inl rfl) rfl rfl rfl (Kr _ rfl) dX8_isLandable_45
  · have h := br_n c13 h
    refine J_aload_n dX8_isLandable_8 rfl 0 rfl ?_
    refine J_iload_n dX8_isLandable_9 rfl 1 rfl ?_
    obtain ⟨r4, h3, h⟩ := br_b h
    refine J_callV (mj := mi_X8_isRock) (as := [.int (x1)]) (rest := []) (ct_X8_isRock (C := C)  h3) ⟨rfl, rfl⟩ rfl rfl (by decide) rfl cg_X8_193 hd_X8_isRock rfl ⟨Nat.le_of_ble_eq_true rfl, Nat.le_of_ble_eq_true rfl⟩ (Nat.le_of_ble_eq_true rfl) ⟨Nat.zero_le _, Nat.zero_le _⟩ dX8_isLandable_10 ?_
    refine J_if_eq 44 dX8_isLandable_13 (by decide) (fun c12 => ?_) (fun c12 => ?_)
    · have h := br_p c12 h
      refine J_iconst 0 dX8_isLandable_44 rfl ?_
      have h := Option.some.inj h
      subst h
      exact J_zret (Or.inl rfl) rfl rfl rfl (Kr _ rfl) dX8_isLandable_45
    · have h := br_n c12 h
      refine J_aload_n dX8_isLandable_16 rfl 0 rfl ?_
      refine J_getr (j := 0) (t := 103) (r := 95) rfl (by decide) (by decide) rfl (by decide) rfl rfl kf_X8_9 dX8_isLandable_17 ?_
      refine J_sipush 366 dX8_isLandable_20 rfl ?_
      refine J_iload_n dX8_isLandable_23 rfl 2 rfl ?_
      refine J_iadd dX8_isLandable_24 ?_
      obtain ⟨u5, h6, h⟩ := br_b h
      refine J_ialdM (m0 := 1) rfl rfl h6 dX8_isLandable_25 ?_
      refine J_aload_n dX8_isLandable_26 rfl 0 rfl ?_
      refine J_getr (j := 0) (t := 103) (r := 95) rfl (by decide) (by decide) rfl (by decide) rfl rfl kf_X8_9 dX8_isLandable_27 ?_
      refine J_iload_n dX8_isLandable_30 rfl 1 rfl ?_
      refine J_bipush 9 dX8_isLandable_31 rfl ?_
      obtain ⟨r8, h7, h⟩ := br_b h
      refine J_callS (mj := mi_X8_of) (as := [.int (x1), .int ((9 : Int32))]) (rest := [.ref (95), .int (u5)]) (ct_X8_of (C := C)  h7) ⟨rfl, rfl⟩ rfl cg_X8_45 hd_X8_of rfl ⟨Nat.le_of_ble_eq_true rfl, Nat.le_of_ble_eq_true rfl⟩ (Nat.le_of_ble_eq_true rfl) ⟨Nat.zero_le _, Nat.zero_le _⟩ dX8_isLandable_33 ?_
      obtain ⟨u9, h10, h⟩ := br_b h
      refine J_ialdM (m0 := 1) rfl rfl h10 dX8_isLandable_36 ?_
      refine J_icmp_gt 44 dX8_isLandable_37 (by decide) (fun c11 => ?_) (fun c11 => ?_)
      · have h := br_p c11 h
        refine J_iconst 0 dX8_isLandable_44 rfl ?_
        have h := Option.some.inj h
        subst h
        exact J_zret (Or.inl rfl) rfl rfl rfl (Kr _ rfl) dX8_isLandable_45
      · have h := br_n c11 h
        refine J_iconst 1 dX8_isLandable_40 rfl ?_
        refine J_goto 45 dX8_isLandable_41 (by decide) ?_
        have h := Option.some.inj h
        subst h
        exact J_zret (Or.inr rfl) rfl rfl rfl (Kr _ rfl) dX8_isLandable_45
theorem ct_X8_isLandable {x1 : Int32} {x2 : Int32} {C : aSc} {M : aMm} {v : Int32}  (h : f_X8_isLandable x1 x2 M = some v) : Ct mi_X8_isLandable yX8_isLandable [.ref (94), .int (x1), .int (x2)] (C, M) (some (.int v), (C, M)) := Ct_of_J (by decide +kernel) rfl (Nat.le_of_ble_eq_true rfl) (jm_X8_isLandable  h (fun _ e => by cases e; rfl))
def mi_X8_restOf : aMi := (cX8_restOf, 4, RX8, (some .int), { frames := 2, cells := 0, slots := 0, locals := 43 })
def b_X8_restOf_4 (x1 : Int32) (x2 : Int32) (x3 : Int32) (M : aMm) : Option ((Int32 × Int32) ⊕ (Int32)) :=
  (m_ld M 1 (0 : Int32)).bind fun u1 => if (u1 : Int32) ≤ x3 then some (.inr x2) else (f_X8_isRock x3 M).bind fun r4 => if (r4 : Int32) = 0 then some (.inl ((x2 + (0 : Int32)), (x3 + (1 : Int32)))) else if (((x1 >>> (x3 &&& 31)) &&& (1 : Int32)) : Int32) = 0 then (f_X8_overdueOf x3 (20 : Int32) M).bind fun r6 => some (.inl ((x2 + r6), (x3 + (1 : Int32)))) else some (.inl ((x2 + (0 : Int32)), (x3 + (1 : Int32))))
set_option maxRecDepth 100000 in
set_option maxHeartbeats 4000000 in
theorem jl_X8_restOf_4 {x1 : Int32} {M : aMm} {C : aSc}  {res : aRes} {r : Int32} : ∀ (n : Nat) (x2 : Int32) (x3 : Int32), lpf (fun a : Int32 × Int32 => b_X8_restOf_4 (x1) a.1 a.2 M) n (x2, x3) = some r → (∀ (z2 : Int32), r = z2 → J mi_X8_restOf res 0 0 50 [(2, .int (z2))] [] (C, M)) → J mi_X8_restOf res 0 0 4 [(0, .ref (94)), (1, .int (x1)), (2, .int (x2)), (3, .int (x3))] [] (C, M) := by
  intro n
  induction n with
  | zero =>
    intro x2 x3 h
    cases h
  | succ n ih =>
    intro x2 x3 h Kx
    obtain ⟨r0, h, h2⟩ := br_b h
    have h : b_X8_restOf_4 x1 x2 x3 M = some r0 := h
    rw [b_X8_restOf_4] at h
    refine J_iload_n dX8_restOf_4 rfl 3 rfl ?_
    refine J_aload_n dX8_restOf_5 rfl 0 rfl ?_
    refine J_getr (j := 0) (t := 103) (r := 95) rfl (by decide) (by decide) rfl (by decide) rfl rfl kf_X8_9 dX8_restOf_6 ?_
    refine J_iconst 0 dX8_restOf_9 rfl ?_
    obtain ⟨u1, h2, h⟩ := br_b h
    refine J_ialdM (m0 := 1) rfl rfl h2 dX8_restOf_10 ?_
    refine J_icmp_ge 50 dX8_restOf_11 (by decide) (fun c9 => ?_) (fun c9 => ?_)
    · have h := br_p c9 h
      have h := Option.some.inj h
      subst h
      have h2 := Option.some.inj h2
      subst h2
      refine J_sub [2] rfl ?_
      exact Kx _ rfl
    · have h := br_n c9 h
      refine J_iload_n dX8_restOf_14 rfl 2 rfl ?_
      refine J_aload_n dX8_restOf_15 rfl 0 rfl ?_
      refine J_iload_n dX8_restOf_16 rfl 3 rfl ?_
      obtain ⟨r4, h3, h⟩ := br_b h
      refine J_callV (mj := mi_X8_isRock) (as := [.int (x3)]) (rest := [.int (x2)]) (ct_X8_isRock (C := C)  h3) ⟨rfl, rfl⟩ rfl rfl (by decide) rfl cg_X8_193 hd_X8_isRock rfl ⟨Nat.le_of_ble_eq_true rfl, Nat.le_of_ble_eq_true rfl⟩ (Nat.le_of_ble_eq_true rfl) ⟨Nat.zero_le _, Nat.zero_le _⟩ dX8_restOf_17 ?_
      refine J_if_eq 41 dX8_restOf_20 (by decide) (fun c8 => ?_) (fun c8 => ?_)
      · have h := br_p c8 h
        refine J_iconst 0 dX8_restOf_41 rfl ?_
        refine J_iadd dX8_restOf_42 ?_
        refine J_istore_n (L' := [(2, .int ((x2 + (0 : Int32)))), (0, .ref (94)), (1, .int (x1)), (3, .int (x3))]) dX8_restOf_43 rfl (by decide) rfl ?_
        refine J_iinc (j := 3) (v := (x3 + (1 : Int32))) (L' := [(3, .int ((x3 + (1 : Int32)))), (2, .int ((x2 + (0 : Int32)))), (0, .ref (94)), (1, .int (x1))]) dX8_restOf_44 rfl rfl (by decide) rfl ?_
        refine J_goto 4 dX8_restOf_47 (by decide) ?_
        have h := Option.some.inj h
        subst h
        refine J_sub [2, 3, 1, 0] rfl ?_
        exact ih _ _ h2 Kx
      · have h := br_n c8 h
        refine J_iload_n dX8_restOf_23 rfl 1 rfl ?_
        refine J_iload_n dX8_restOf_24 rfl 3 rfl ?_
        refine J_ishr dX8_restOf_25 ?_
        refine J_iconst 1 dX8_restOf_26 rfl ?_
        refine J_iand dX8_restOf_27 ?_
        refine J_if_ne 41 dX8_restOf_28 (by decide) (fun c7 => ?_) (fun c7 => ?_)
        · have h := br_n c7 h
          refine J_iconst 0 dX8_restOf_41 rfl ?_
          refine J_iadd dX8_restOf_42 ?_
          refine J_istore_n (L' := [(2, .int ((x2 + (0 : Int32)))), (0, .ref (94)), (1, .int (x1)), (3, .int (x3))]) dX8_restOf_43 rfl (by decide) rfl ?_
          refine J_iinc (j := 3) (v := (x3 + (1 : Int32))) (L' := [(3, .int ((x3 + (1 : Int32)))), (2, .int ((x2 + (0 : Int32)))), (0, .ref (94)), (1, .int (x1))]) dX8_restOf_44 rfl rfl (by decide) rfl ?_
          refine J_goto 4 dX8_restOf_47 (by decide) ?_
          have h := Option.some.inj h
          subst h
          refine J_sub [2, 3, 1, 0] rfl ?_
          exact ih _ _ h2 Kx
        · have h := br_p c7 h
          refine J_aload_n dX8_restOf_31 rfl 0 rfl ?_
          refine J_iload_n dX8_restOf_32 rfl 3 rfl ?_
          refine J_bipush 20 dX8_restOf_33 rfl ?_
          obtain ⟨r6, h5, h⟩ := br_b h
          refine J_callV (mj := mi_X8_overdueOf) (as := [.int (x3), .int ((20 : Int32))]) (rest := [.int (x2)]) (ct_X8_overdueOf (C := C)  h5) ⟨rfl, rfl⟩ rfl rfl (by decide) rfl cg_X8_200 hd_X8_overdueOf rfl ⟨Nat.le_of_ble_eq_true rfl, Nat.le_of_ble_eq_true rfl⟩ (Nat.le_of_ble_eq_true rfl) ⟨Nat.zero_le _, Nat.zero_le _⟩ dX8_restOf_35 ?_
          refine J_goto 42 dX8_restOf_38 (by decide) ?_
          refine J_iadd dX8_restOf_42 ?_
          refine J_istore_n (L' := [(2, .int ((x2 + r6))), (0, .ref (94)), (1, .int (x1)), (3, .int (x3))]) dX8_restOf_43 rfl (by decide) rfl ?_
          refine J_iinc (j := 3) (v := (x3 + (1 : Int32))) (L' := [(3, .int ((x3 + (1 : Int32)))), (2, .int ((x2 + r6))), (0, .ref (94)), (1, .int (x1))]) dX8_restOf_44 rfl rfl (by decide) rfl ?_
          refine J_goto 4 dX8_restOf_47 (by decide) ?_
          have h := Option.some.inj h
          subst h
          refine J_sub [2, 3, 1, 0] rfl ?_
          exact ih _ _ h2 Kx
def f_X8_restOf (x1 : Int32) (M : aMm) : Option (Int32) :=
  (lpf (fun a : Int32 × Int32 => b_X8_restOf_4 (x1) a.1 a.2 M) FU ((0 : Int32), (0 : Int32))).bind fun z10 => some z10
set_option maxRecDepth 100000 in
set_option maxHeartbeats 4000000 in
theorem jm_X8_restOf {x1 : Int32} {C : aSc} {M : aMm}  {res : aRes} {r : Int32} (h : f_X8_restOf x1 M = some r) (Kr : ∀ (v : Int32), r = v → res = (some (.int v), (C, M))) : J mi_X8_restOf res 0 0 0 [(0, .ref (94)), (1, .int (x1))] [] (C, M) := by
  rw [f_X8_restOf] at h
  refine J_iconst 0 dX8_restOf_0 rfl ?_
  refine J_istore_n (L' := [(2, .int ((0 : Int32))), (0, .ref (94)), (1, .int (x1))]) dX8_restOf_1 rfl (by decide) rfl ?_
  refine J_iconst 0 dX8_restOf_2 rfl ?_
  refine J_istore_n (L' := [(3, .int ((0 : Int32))), (2, .int ((0 : Int32))), (0, .ref (94)), (1, .int (x1))]) dX8_restOf_3 rfl (by decide) rfl ?_
  refine J_sub [2, 3, 1, 0] rfl ?_
  obtain ⟨z10, h11, h⟩ := br_b h
  refine jl_X8_restOf_4  FU _ _ h11 ?_
  intro zz e
  subst e
  refine J_iload_n dX8_restOf_50 rfl 0 rfl ?_
  have h := Option.some.inj h
  subst h
  exact J_iret rfl rfl rfl (Kr _ rfl) dX8_restOf_51
theorem ct_X8_restOf {x1 : Int32} {C : aSc} {M : aMm} {v : Int32}  (h : f_X8_restOf x1 M = some v) : Ct mi_X8_restOf yX8_restOf [.ref (94), .int (x1)] (C, M) (some (.int v), (C, M)) := Ct_of_J (by decide +kernel) rfl (Nat.le_of_ble_eq_true rfl) (jm_X8_restOf  h (fun _ e => by cases e; rfl))
def mi_X8_byLanding : aMi := (cX8_byLanding, 4, RX8, (some .int), { frames := 2, cells := 0, slots := 0, locals := 43 })
def f_X8_byLanding (x1 : Int32) (x2 : Int32) (x3 : Int32) (M : aMm) : Option (Int32) :=
  (f_X8_overdueOf x1 x2 M).bind fun r2 => (m_ld M 8 (((1024 : Int32) * (x2 + (1 : Int32))) + (x3 ||| ((1 : Int32) <<< (x1 &&& 31))))).bind fun u3 => some (r2 + u3)
set_option maxRecDepth 100000 in
set_option maxHeartbeats 4000000 in
theorem jm_X8_byLanding {x1 : Int32} {x2 : Int32} {x3 : Int32} {C : aSc} {M : aMm}  {res : aRes} {r : Int32} (h : f_X8_byLanding x1 x2 x3 M = some r) (Kr : ∀ (v : Int32), r = v → res = (some (.int v), (C, M))) : J mi_X8_byLanding res 0 0 0 [(0, .ref (94)), (1, .int (x1)), (2, .int (x2)), (3, .int (x3))] [] (C, M) := by
  rw [f_X8_byLanding] at h
  refine J_aload_n dX8_byLanding_0 rfl 0 rfl ?_
  refine J_iload_n dX8_byLanding_1 rfl 1 rfl ?_
  refine J_iload_n dX8_byLanding_2 rfl 2 rfl ?_
  obtain ⟨r2, h1, h⟩ := br_b h
  refine J_callV (mj := mi_X8_overdueOf) (as := [.int (x1), .int (x2)]) (rest := []) (ct_X8_overdueOf (C := C)  h1) ⟨rfl, rfl⟩ rfl rfl (by decide) rfl cg_X8_200 hd_X8_overdueOf rfl ⟨Nat.le_of_ble_eq_true rfl, Nat.le_of_ble_eq_true rfl⟩ (Nat.le_of_ble_eq_true rfl) ⟨Nat.zero_le _, Nat.zero_le _⟩ dX8_byLanding_3 ?_
  refine J_aload_n dX8_byLanding_6 rfl 0 rfl ?_
  refine J_getr (j := 17) (t := 110) (r := 102) rfl (by decide) (by decide) rfl (by decide) rfl rfl kf_X8_31 dX8_byLanding_7 ?_
  refine J_sipush 1024 dX8_byLanding_10 rfl ?_
  refine J_iload_n dX8_byLanding_13 rfl 2 rfl ?_
  refine J_iconst 1 dX8_byLanding_14 rfl ?_
  refine J_iadd dX8_byLanding_15 ?_
  refine J_imul dX8_byLanding_16 ?_
  refine J_iload_n dX8_byLanding_17 rfl 3 rfl ?_
  refine J_iconst 1 dX8_byLanding_18 rfl ?_
  refine J_iload_n dX8_byLanding_19 rfl 1 rfl ?_
  refine J_ishl dX8_byLanding_20 ?_
  refine J_ior dX8_byLanding_21 ?_
  refine J_iadd dX8_byLanding_22 ?_
  obtain ⟨u3, h4, h⟩ := br_b h
  refine J_ialdM (m0 := 8) rfl rfl h4 dX8_byLanding_23 ?_
  refine J_iadd dX8_byLanding_24 ?_
  have h := Option.some.inj h
  subst h
  exact J_iret rfl rfl rfl (Kr _ rfl) dX8_byLanding_25
theorem ct_X8_byLanding {x1 : Int32} {x2 : Int32} {x3 : Int32} {C : aSc} {M : aMm} {v : Int32}  (h : f_X8_byLanding x1 x2 x3 M = some v) : Ct mi_X8_byLanding yX8_byLanding [.ref (94), .int (x1), .int (x2), .int (x3)] (C, M) (some (.int v), (C, M)) := Ct_of_J (by decide +kernel) rfl (Nat.le_of_ble_eq_true rfl) (jm_X8_byLanding  h (fun _ e => by cases e; rfl))
def mi_X8_findLandings : aMi := (cX8_findLandings, 6, RX8, none, { frames := 3, cells := 0, slots := 0, locals := 66 })
def b_X8_findLandings_11 (x1 : Int32) (x2 : Int32) (M : aMm) : Option ((Int32 × aMm) ⊕ (aMm)) :=
  if (x1 : Int32) ≤ x2 then some (.inr M) else (f_X8_restOf x2 M).bind fun r4 => (m_st M 8 ((20480 : Int32) + x2) r4).bind fun M5 => some (.inl ((x2 + (1 : Int32)), M5))
set_option maxRecDepth 100000 in
set_option maxHeartbeats 4000000 in
theorem jl_X8_findLandings_11 {x1 : Int32} {C : aSc}  {res : aRes} {r : aMm} : ∀ (n : Nat) (x2 : Int32) (M : aMm), lpf (fun a : Int32 × aMm => b_X8_findLandings_11 (x1) a.1 a.2) n (x2, M) = some r → (∀ (S2 : aMm), r = S2 → J mi_X8_findLandings res 0 0 37 [(0, .ref (94)), (1, .int (x1))] [] (C, S2)) → J mi_X8_findLandings res 0 0 11 [(0, .ref (94)), (1, .int (x1)), (2, .int (x2))] [] (C, M) := by
  intro n
  induction n with
  | zero =>
    intro x2 M h
    cases h
  | succ n ih =>
    intro x2 M h Kx
    obtain ⟨r0, h, h2⟩ := br_b h
    have h : b_X8_findLandings_11 x1 x2 M = some r0 := h
    rw [b_X8_findLandings_11] at h
    refine J_iload_n dX8_findLandings_11 rfl 2 rfl ?_
    refine J_iload_n dX8_findLandings_12 rfl 1 rfl ?_
    refine J_icmp_ge 37 dX8_findLandings_13 (by decide) (fun c7 => ?_) (fun c7 => ?_)
    · have h := br_p c7 h
      have h := Option.some.inj h
      subst h
      have h2 := Option.some.inj h2
      subst h2
      refine J_sub [0, 1] rfl ?_
      exact Kx _ rfl
    · have h := br_n c7 h
      refine J_aload_n dX8_findLandings_16 rfl 0 rfl ?_
      refine J_getr (j := 17) (t := 110) (r := 102) rfl (by decide) (by decide) rfl (by decide) rfl rfl kf_X8_31 dX8_findLandings_17 ?_
      refine J_sipush 20480 dX8_findLandings_20 rfl ?_
      refine J_iload_n dX8_findLandings_23 rfl 2 rfl ?_
      refine J_iadd dX8_findLandings_24 ?_
      refine J_aload_n dX8_findLandings_25 rfl 0 rfl ?_
      refine J_iload_n dX8_findLandings_26 rfl 2 rfl ?_
      obtain ⟨r4, h3, h⟩ := br_b h
      refine J_callV (mj := mi_X8_restOf) (as := [.int (x2)]) (rest := [.int (((20480 : Int32) + x2)), .ref (102)]) (ct_X8_restOf (C := C)  h3) ⟨rfl, rfl⟩ rfl rfl (by decide) rfl cg_X8_203 hd_X8_restOf rfl ⟨Nat.le_of_ble_eq_true rfl, Nat.le_of_ble_eq_true rfl⟩ (Nat.le_of_ble_eq_true rfl) ⟨Nat.zero_le _, Nat.zero_le _⟩ dX8_findLandings_27 ?_
      obtain ⟨M5, h6, h⟩ := br_b h
      refine J_iastM (m0 := 8) rfl rfl h6 dX8_findLandings_30 ?_
      refine J_iinc (j := 2) (v := (x2 + (1 : Int32))) (L' := [(2, .int ((x2 + (1 : Int32)))), (0, .ref (94)), (1, .int (x1))]) dX8_findLandings_31 rfl rfl (by decide) rfl ?_
      refine J_goto 11 dX8_findLandings_34 (by decide) ?_
      have h := Option.some.inj h
      subst h
      refine J_sub [1, 2, 0] rfl ?_
      exact ih _ _ h2 Kx
def b_X8_findLandings_76 (x1 : Int32) (x2 : Int32) (x3 : Int32) (x4 : Int32) (x5 : Int32) (M : aMm) : Option ((Int32 × Int32) ⊕ (Int32)) :=
  (m_ld M 1 (0 : Int32)).bind fun u15 => if (u15 : Int32) ≤ x5 then some (.inr x4) else if (((x3 >>> (x5 &&& 31)) &&& (1 : Int32)) : Int32) = 0 then (f_X8_isLandable x5 x2 M).bind fun r18 => if (r18 : Int32) = 0 then some (.inl (x4, (x5 + (1 : Int32)))) else (f_X8_byLanding x5 x2 x3 M).bind fun r20 => some (.inl ((a_min x4 r20), (x5 + (1 : Int32)))) else some (.inl (x4, (x5 + (1 : Int32))))
set_option maxRecDepth 100000 in
set_option maxHeartbeats 4000000 in
theorem jl_X8_findLandings_76 {x1 : Int32} {x2 : Int32} {x3 : Int32} {M : aMm} {C : aSc}  {res : aRes} {r : Int32} : ∀ (n : Nat) (x4 : Int32) (x5 : Int32), lpf (fun a : Int32 × Int32 => b_X8_findLandings_76 (x1) (x2) (x3) a.1 a.2 M) n (x4, x5) = some r → (∀ (z4 : Int32), r = z4 → J mi_X8_findLandings res 0 0 127 [(0, .ref (94)), (1, .int (x1)), (2, .int (x2)), (3, .int (x3)), (4, .int (z4))] [] (C, M)) → J mi_X8_findLandings res 0 0 76 [(0, .ref (94)), (1, .int (x1)), (2, .int (x2)), (3, .int (x3)), (4, .int (x4)), (5, .int (x5))] [] (C, M) := by
  intro n
  induction n with
  | zero =>
    intro x4 x5 h
    cases h
  | succ n ih =>
    intro x4 x5 h Kx
    obtain ⟨r0, h, h2⟩ := br_b h
    have h : b_X8_findLandings_76 x1 x2 x3 x4 x5 M = some r0 := h
    rw [b_X8_findLandings_76] at h
    refine J_iload dX8_findLandings_76 5 rfl ?_
    refine J_aload_n dX8_findLandings_78 rfl 0 rfl ?_
    refine J_getr (j := 0) (t := 103) (r := 95) rfl (by decide) (by decide) rfl (by decide) rfl rfl kf_X8_9 dX8_findLandings_79 ?_
    refine J_iconst 0 dX8_findLandings_82 rfl ?_
    obtain ⟨u15, h16, h⟩ := br_b h
    refine J_ialdM (m0 := 1) rfl rfl h16 dX8_findLandings_83 ?_
    refine J_icmp_ge 127 dX8_findLandings_84 (by decide) (fun c23 => ?_) (fun c23 => ?_)
    · have h := br_p c23 h
      have h := Option.some.inj h
      subst h
      have h2 := Option.some.inj h2
      subst h2
      refine J_sub [0, 1, 2, 3, 4] rfl ?_
      exact Kx _ rfl
    · have h := br_n c23 h
      refine J_iload_n dX8_findLandings_87 rfl 3 rfl ?_
      refine J_iload dX8_findLandings_88 5 rfl ?_
      refine J_ishr dX8_findLandings_90 ?_
      refine J_iconst 1 dX8_findLandings_91 rfl ?_
      refine J_iand dX8_findLandings_92 ?_
      refine J_if_ne 121 dX8_findLandings_93 (by decide) (fun c22 => ?_) (fun c22 => ?_)
      · have h := br_n c22 h
        refine J_iinc (j := 5) (v := (x5 + (1 : Int32))) (L' := [(5, .int ((x5 + (1 : Int32)))), (0, .ref (94)), (1, .int (x1)), (2, .int (x2)), (3, .int (x3)), (4, .int (x4))]) dX8_findLandings_121 rfl rfl (by decide) rfl ?_
        refine J_goto 76 dX8_findLandings_124 (by decide) ?_
        have h := Option.some.inj h
        subst h
        refine J_sub [1, 2, 3, 4, 5, 0] rfl ?_
        exact ih _ _ h2 Kx
      · have h := br_p c22 h
        refine J_aload_n dX8_findLandings_96 rfl 0 rfl ?_
        refine J_iload dX8_findLandings_97 5 rfl ?_
        refine J_iload_n dX8_findLandings_99 rfl 2 rfl ?_
        obtain ⟨r18, h17, h⟩ := br_b h
        refine J_callV (mj := mi_X8_isLandable) (as := [.int (x5), .int (x2)]) (rest := []) (ct_X8_isLandable (C := C)  h17) ⟨rfl, rfl⟩ rfl rfl (by decide) rfl cg_X8_206 hd_X8_isLandable rfl ⟨Nat.le_of_ble_eq_true rfl, Nat.le_of_ble_eq_true rfl⟩ (Nat.le_of_ble_eq_true rfl) ⟨Nat.zero_le _, Nat.zero_le _⟩ dX8_findLandings_100 ?_
        refine J_if_eq 121 dX8_findLandings_103 (by decide) (fun c21 => ?_) (fun c21 => ?_)
        · have h := br_p c21 h
          refine J_iinc (j := 5) (v := (x5 + (1 : Int32))) (L' := [(5, .int ((x5 + (1 : Int32)))), (0, .ref (94)), (1, .int (x1)), (2, .int (x2)), (3, .int (x3)), (4, .int (x4))]) dX8_findLandings_121 rfl rfl (by decide) rfl ?_
          refine J_goto 76 dX8_findLandings_124 (by decide) ?_
          have h := Option.some.inj h
          subst h
          refine J_sub [1, 2, 3, 4, 5, 0] rfl ?_
          exact ih _ _ h2 Kx
        · have h := br_n c21 h
          refine J_iload dX8_findLandings_106 4 rfl ?_
          refine J_aload_n dX8_findLandings_108 rfl 0 rfl ?_
          refine J_iload dX8_findLandings_109 5 rfl ?_
          refine J_iload_n dX8_findLandings_111 rfl 2 rfl ?_
          refine J_iload_n dX8_findLandings_112 rfl 3 rfl ?_
          obtain ⟨r20, h19, h⟩ := br_b h
          refine J_callV (mj := mi_X8_byLanding) (as := [.int (x5), .int (x2), .int (x3)]) (rest := [.int (x4)]) (ct_X8_byLanding (C := C)  h19) ⟨rfl, rfl⟩ rfl rfl (by decide) rfl cg_X8_209 hd_X8_byLanding rfl ⟨Nat.le_of_ble_eq_true rfl, Nat.le_of_ble_eq_true rfl⟩ (Nat.le_of_ble_eq_true rfl) ⟨Nat.zero_le _, Nat.zero_le _⟩ dX8_findLandings_113 ?_
          refine J_mmin km_X8_184 kst_Math_min ki_Math kcd_Math_min (by decide) (Nat.le_of_ble_eq_true rfl) ⟨Nat.zero_le _, Nat.zero_le _⟩ dX8_findLandings_116 ?_
          refine J_istore (L' := [(4, .int ((a_min x4 r20))), (0, .ref (94)), (1, .int (x1)), (2, .int (x2)), (3, .int (x3)), (5, .int (x5))]) dX8_findLandings_119 (by decide) rfl ?_
          refine J_iinc (j := 5) (v := (x5 + (1 : Int32))) (L' := [(5, .int ((x5 + (1 : Int32)))), (4, .int ((a_min x4 r20))), (0, .ref (94)), (1, .int (x1)), (2, .int (x2)), (3, .int (x3))]) dX8_findLandings_121 rfl rfl (by decide) rfl ?_
          refine J_goto 76 dX8_findLandings_124 (by decide) ?_
          have h := Option.some.inj h
          subst h
          refine J_sub [2, 3, 4, 5, 1, 0] rfl ?_
          exact ih _ _ h2 Kx
def b_X8_findLandings_52 (x1 : Int32) (x2 : Int32) (x3 : Int32) (M : aMm) : Option ((Int32 × aMm) ⊕ (aMm)) :=
  if (x1 : Int32) ≤ x3 then some (.inr M) else (m_ld M 8 (((1024 : Int32) * (x2 + (1 : Int32))) + x3)).bind fun u13 => (lpf (fun a : Int32 × Int32 => b_X8_findLandings_76 (x1) (x2) (x3) a.1 a.2 M) FU (u13, (0 : Int32))).bind fun z24 => (m_st M 8 (((1024 : Int32) * x2) + x3) z24).bind fun M27 => some (.inl ((x3 + (1 : Int32)), M27))
set_option maxRecDepth 100000 in
set_option maxHeartbeats 4000000 in
theorem jl_X8_findLandings_52 {x1 : Int32} {x2 : Int32} {C : aSc}  {res : aRes} {r : aMm} : ∀ (n : Nat) (x3 : Int32) (M : aMm), lpf (fun a : Int32 × aMm => b_X8_findLandings_52 (x1) (x2) a.1 a.2) n (x3, M) = some r → (∀ (S2 : aMm), r = S2 → J mi_X8_findLandings res 0 0 147 [(0, .ref (94)), (1, .int (x1)), (2, .int (x2))] [] (C, S2)) → J mi_X8_findLandings res 0 0 52 [(0, .ref (94)), (1, .int (x1)), (2, .int (x2)), (3, .int (x3))] [] (C, M) := by
  intro n
  induction n with
  | zero =>
    intro x3 M h
    cases h
  | succ n ih =>
    intro x3 M h Kx
    obtain ⟨r0, h, h2⟩ := br_b h
    have h : b_X8_findLandings_52 x1 x2 x3 M = some r0 := h
    rw [b_X8_findLandings_52] at h
    refine J_iload_n dX8_findLandings_52 rfl 3 rfl ?_
    refine J_iload_n dX8_findLandings_53 rfl 1 rfl ?_
    refine J_icmp_ge 147 dX8_findLandings_54 (by decide) (fun c29 => ?_) (fun c29 => ?_)
    · have h := br_p c29 h
      have h := Option.some.inj h
      subst h
      have h2 := Option.some.inj h2
      subst h2
      refine J_sub [0, 1, 2] rfl ?_
      exact Kx _ rfl
    · have h := br_n c29 h
      refine J_aload_n dX8_findLandings_57 rfl 0 rfl ?_
      refine J_getr (j := 17) (t := 110) (r := 102) rfl (by decide) (by decide) rfl (by decide) rfl rfl kf_X8_31 dX8_findLandings_58 ?_
      refine J_sipush 1024 dX8_findLandings_61 rfl ?_
      refine J_iload_n dX8_findLandings_64 rfl 2 rfl ?_
      refine J_iconst 1 dX8_findLandings_65 rfl ?_
      refine J_iadd dX8_findLandings_66 ?_
      refine J_imul dX8_findLandings_67 ?_
      refine J_iload_n dX8_findLandings_68 rfl 3 rfl ?_
      refine J_iadd dX8_findLandings_69 ?_
      obtain ⟨u13, h14, h⟩ := br_b h
      refine J_ialdM (m0 := 8) rfl rfl h14 dX8_findLandings_70 ?_
      refine J_istore (L' := [(4, .int (u13)), (0, .ref (94)), (1, .int (x1)), (2, .int (x2)), (3, .int (x3))]) dX8_findLandings_71 (by decide) rfl ?_
      refine J_iconst 0 dX8_findLandings_73 rfl ?_
      refine J_istore (L' := [(5, .int ((0 : Int32))), (4, .int (u13)), (0, .ref (94)), (1, .int (x1)), (2, .int (x2)), (3, .int (x3))]) dX8_findLandings_74 (by decide) rfl ?_
      refine J_sub [2, 3, 4, 5, 1, 0] rfl ?_
      obtain ⟨z24, h25, h⟩ := br_b h
      refine jl_X8_findLandings_76  FU _ _ h25 ?_
      intro zz e
      subst e
      refine J_aload_n dX8_findLandings_127 rfl 0 rfl ?_
      refine J_getr (j := 17) (t := 110) (r := 102) rfl (by decide) (by decide) rfl (by decide) rfl rfl kf_X8_31 dX8_findLandings_128 ?_
      refine J_sipush 1024 dX8_findLandings_131 rfl ?_
      refine J_iload_n dX8_findLandings_134 rfl 2 rfl ?_
      refine J_imul dX8_findLandings_135 ?_
      refine J_iload_n dX8_findLandings_136 rfl 3 rfl ?_
      refine J_iadd dX8_findLandings_137 ?_
      refine J_iload dX8_findLandings_138 4 rfl ?_
      obtain ⟨M27, h28, h⟩ := br_b h
      refine J_iastM (m0 := 8) rfl rfl h28 dX8_findLandings_140 ?_
      refine J_iinc (j := 3) (v := (x3 + (1 : Int32))) (L' := [(3, .int ((x3 + (1 : Int32)))), (0, .ref (94)), (1, .int (x1)), (2, .int (x2)), (4, .int (z24))]) dX8_findLandings_141 rfl rfl (by decide) rfl ?_
      refine J_goto 52 dX8_findLandings_144 (by decide) ?_
      have h := Option.some.inj h
      subst h
      refine J_sub [1, 2, 3, 0] rfl ?_
      exact ih _ _ h2 Kx
def b_X8_findLandings_40 (x1 : Int32) (x2 : Int32) (M : aMm) : Option ((Int32 × aMm) ⊕ (aMm)) :=
  (m_ld M 1 (5 : Int32)).bind fun u11 => if (x2 : Int32) < u11 then some (.inr M) else (lpf (fun a : Int32 × aMm => b_X8_findLandings_52 (x1) (x2) a.1 a.2) FU ((0 : Int32), M)).bind fun z30 => some (.inl ((x2 + (-1 : Int32)), z30))
set_option maxRecDepth 100000 in
set_option maxHeartbeats 4000000 in
theorem jl_X8_findLandings_40 {x1 : Int32} {C : aSc}  {res : aRes} {r : aMm} : ∀ (n : Nat) (x2 : Int32) (M : aMm), lpf (fun a : Int32 × aMm => b_X8_findLandings_40 (x1) a.1 a.2) n (x2, M) = some r → (∀ (S2 : aMm), r = S2 → J mi_X8_findLandings res 0 0 153 [] [] (C, S2)) → J mi_X8_findLandings res 0 0 40 [(0, .ref (94)), (1, .int (x1)), (2, .int (x2))] [] (C, M) := by
  intro n
  induction n with
  | zero =>
    intro x2 M h
    cases h
  | succ n ih =>
    intro x2 M h Kx
    obtain ⟨r0, h, h2⟩ := br_b h
    have h : b_X8_findLandings_40 x1 x2 M = some r0 := h
    rw [b_X8_findLandings_40] at h
    refine J_iload_n dX8_findLandings_40 rfl 2 rfl ?_
    refine J_aload_n dX8_findLandings_41 rfl 0 rfl ?_
    refine J_getr (j := 0) (t := 103) (r := 95) rfl (by decide) (by decide) rfl (by decide) rfl rfl kf_X8_9 dX8_findLandings_42 ?_
    refine J_iconst 5 dX8_findLandings_45 rfl ?_
    obtain ⟨u11, h12, h⟩ := br_b h
    refine J_ialdM (m0 := 1) rfl rfl h12 dX8_findLandings_46 ?_
    refine J_icmp_lt 153 dX8_findLandings_47 (by decide) (fun c33 => ?_) (fun c33 => ?_)
    · have h := br_p c33 h
      have h := Option.some.inj h
      subst h
      have h2 := Option.some.inj h2
      subst h2
      refine J_sub [] rfl ?_
      exact Kx _ rfl
    · have h := br_n c33 h
      refine J_iconst 0 dX8_findLandings_50 rfl ?_
      refine J_istore_n (L' := [(3, .int ((0 : Int32))), (0, .ref (94)), (1, .int (x1)), (2, .int (x2))]) dX8_findLandings_51 rfl (by decide) rfl ?_
      refine J_sub [1, 2, 3, 0] rfl ?_
      obtain ⟨z30, h31, h⟩ := br_b h
      refine jl_X8_findLandings_52  FU _ _ h31 ?_
      intro zz e
      subst e
      refine J_iinc (j := 2) (v := (x2 + (-1 : Int32))) (L' := [(2, .int ((x2 + (-1 : Int32)))), (0, .ref (94)), (1, .int (x1))]) dX8_findLandings_147 rfl rfl (by decide) rfl ?_
      refine J_goto 40 dX8_findLandings_150 (by decide) ?_
      have h := Option.some.inj h
      subst h
      refine J_sub [1, 2, 0] rfl ?_
      exact ih _ _ h2 Kx
def f_X8_findLandings  (M : aMm) : Option (aMm) :=
  (m_ld M 1 (0 : Int32)).bind fun u1 => (lpf (fun a : Int32 × aMm => b_X8_findLandings_11 (((1 : Int32) <<< (u1 &&& 31))) a.1 a.2) FU ((0 : Int32), M)).bind fun z8 => (lpf (fun a : Int32 × aMm => b_X8_findLandings_40 (((1 : Int32) <<< (u1 &&& 31))) a.1 a.2) FU ((19 : Int32), z8)).bind fun z34 => some z34
set_option maxRecDepth 100000 in
set_option maxHeartbeats 4000000 in
theorem jm_X8_findLandings  {C : aSc} {M : aMm}  {res : aRes} {r : aMm} (h : f_X8_findLandings  M = some r) (Kr : ∀ (S' : aMm), r = S' → res = (none, (C, S'))) : J mi_X8_findLandings res 0 0 0 [(0, .ref (94))] [] (C, M) := by
  rw [f_X8_findLandings] at h
  refine J_iconst 1 dX8_findLandings_0 rfl ?_
  refine J_aload_n dX8_findLandings_1 rfl 0 rfl ?_
  refine J_getr (j := 0) (t := 103) (r := 95) rfl (by decide) (by decide) rfl (by decide) rfl rfl kf_X8_9 dX8_findLandings_2 ?_
  refine J_iconst 0 dX8_findLandings_5 rfl ?_
  obtain ⟨u1, h2, h⟩ := br_b h
  refine J_ialdM (m0 := 1) rfl rfl h2 dX8_findLandings_6 ?_
  refine J_ishl dX8_findLandings_7 ?_
  refine J_istore_n (L' := [(1, .int (((1 : Int32) <<< (u1 &&& 31)))), (0, .ref (94))]) dX8_findLandings_8 rfl (by decide) rfl ?_
  refine J_iconst 0 dX8_findLandings_9 rfl ?_
  refine J_istore_n (L' := [(2, .int ((0 : Int32))), (1, .int (((1 : Int32) <<< (u1 &&& 31)))), (0, .ref (94))]) dX8_findLandings_10 rfl (by decide) rfl ?_
  refine J_sub [2, 1, 0] rfl ?_
  obtain ⟨z8, h9, h⟩ := br_b h
  refine jl_X8_findLandings_11  FU _ _ h9 ?_
  intro zz e
  subst e
  refine J_bipush 19 dX8_findLandings_37 rfl ?_
  refine J_istore_n (L' := [(2, .int ((19 : Int32))), (0, .ref (94)), (1, .int (((1 : Int32) <<< (u1 &&& 31))))]) dX8_findLandings_39 rfl (by decide) rfl ?_
  refine J_sub [1, 2, 0] rfl ?_
  obtain ⟨z34, h35, h⟩ := br_b h
  refine jl_X8_findLandings_40  FU _ _ h35 ?_
  intro zz e
  subst e
  have h := Option.some.inj h
  subst h
  exact J_vret rfl rfl rfl (Kr _ rfl) dX8_findLandings_153
theorem ct_X8_findLandings  {C : aSc} {M : aMm} {S' : aMm}  (h : f_X8_findLandings  M = some S') : Ct mi_X8_findLandings yX8_findLandings [.ref (94)] (C, M) (none, (C, S')) := Ct_of_J (by decide +kernel) rfl (Nat.le_of_ble_eq_true rfl) (jm_X8_findLandings  h (fun _ e => by cases e; rfl))
def mi_X8_overdue : aMi := (cX8_overdue, 1, RX8, (some .int), { frames := 4, cells := 0, slots := 0, locals := 91 })
def f_X8_overdue  (M : aMm) : Option (Int32 × aMm) :=
  (f_X8_findLandings  M).bind fun M2 => (m_ld M2 1 (5 : Int32)).bind fun u3 => (m_ld M2 8 ((1024 : Int32) * u3)).bind fun u5 => some (u5, M2)
set_option maxRecDepth 100000 in
set_option maxHeartbeats 4000000 in
theorem jm_X8_overdue  {C : aSc} {M : aMm}  {res : aRes} {r : Int32 × aMm} (h : f_X8_overdue  M = some r) (Kr : ∀ (v : Int32) (S' : aMm), r = (v, S') → res = (some (.int v), (C, S'))) : J mi_X8_overdue res 0 0 0 [(0, .ref (94))] [] (C, M) := by
  rw [f_X8_overdue] at h
  refine J_aload_n dX8_overdue_0 rfl 0 rfl ?_
  obtain ⟨M2, h1, h⟩ := br_b h
  refine J_callV (mj := mi_X8_findLandings) (as := []) (rest := []) (ct_X8_findLandings (C := C)  h1) ⟨rfl, rfl⟩ rfl rfl (by decide) rfl cg_X8_212 hd_X8_findLandings rfl ⟨Nat.le_of_ble_eq_true rfl, Nat.le_of_ble_eq_true rfl⟩ (Nat.le_of_ble_eq_true rfl) ⟨Nat.zero_le _, Nat.zero_le _⟩ dX8_overdue_1 ?_
  refine J_aload_n dX8_overdue_4 rfl 0 rfl ?_
  refine J_getr (j := 17) (t := 110) (r := 102) rfl (by decide) (by decide) rfl (by decide) rfl rfl kf_X8_31 dX8_overdue_5 ?_
  refine J_sipush 1024 dX8_overdue_8 rfl ?_
  refine J_aload_n dX8_overdue_11 rfl 0 rfl ?_
  refine J_getr (j := 0) (t := 103) (r := 95) rfl (by decide) (by decide) rfl (by decide) rfl rfl kf_X8_9 dX8_overdue_12 ?_
  refine J_iconst 5 dX8_overdue_15 rfl ?_
  obtain ⟨u3, h4, h⟩ := br_b h
  refine J_ialdM (m0 := 1) rfl rfl h4 dX8_overdue_16 ?_
  refine J_imul dX8_overdue_17 ?_
  obtain ⟨u5, h6, h⟩ := br_b h
  refine J_ialdM (m0 := 8) rfl rfl h6 dX8_overdue_18 ?_
  have h := Option.some.inj h
  subst h
  exact J_iret rfl rfl rfl (Kr _ _ rfl) dX8_overdue_19
theorem ct_X8_overdue  {C : aSc} {M : aMm} {v : Int32} {S' : aMm}  (h : f_X8_overdue  M = some (v, S')) : Ct mi_X8_overdue yX8_overdue [.ref (94)] (C, M) (some (.int v), (C, S')) := Ct_of_J (by decide +kernel) rfl (Nat.le_of_ble_eq_true rfl) (jm_X8_overdue  h (fun _ _ e => by cases e; rfl))
def mi_X8_firstOn : aMi := (cX8_firstOn, 5, RX8, (some .int), { frames := 3, cells := 0, slots := 0, locals := 66 })
def b_X8_firstOn_36 (x1 : Int32) (x2 : Int32) (x3 : Int32) (x4 : Int32) (M : aMm) : Option ((Int32) ⊕ (Int32)) :=
  if (((x2 >>> (x4 &&& 31)) &&& (1 : Int32)) : Int32) = (1 : Int32) then some (.inl (x4 + (1 : Int32))) else (f_X8_isLandable x4 x1 M).bind fun r6 => if (r6 : Int32) = 0 then some (.inl (x4 + (1 : Int32))) else (f_X8_byLanding x4 x1 x2 M).bind fun r8 => if (r8 : Int32) = x3 then some (.inr x4) else some (.inl (x4 + (1 : Int32)))
set_option maxRecDepth 100000 in
set_option maxHeartbeats 4000000 in
theorem jl_X8_firstOn_36 {x1 : Int32} {x2 : Int32} {x3 : Int32} {M : aMm} {C : aSc}  {res : aRes} {r : Int32} : ∀ (n : Nat) (x4 : Int32), lpf (fun a : Int32 => b_X8_firstOn_36 (x1) (x2) (x3) a M) n x4 = some r → (∀ (z4 : Int32), r = z4 → J mi_X8_firstOn res 0 0 74 [(4, .int (z4))] [] (C, M)) → J mi_X8_firstOn res 0 0 36 [(0, .ref (94)), (1, .int (x1)), (2, .int (x2)), (3, .int (x3)), (4, .int (x4))] [] (C, M) := by
  intro n
  induction n with
  | zero =>
    intro x4 h
    cases h
  | succ n ih =>
    intro x4 h Kx
    obtain ⟨r0, h, h2⟩ := br_b h
    have h : b_X8_firstOn_36 x1 x2 x3 x4 M = some r0 := h
    rw [b_X8_firstOn_36] at h
    refine J_iload_n dX8_firstOn_36 rfl 2 rfl ?_
    refine J_iload dX8_firstOn_37 4 rfl ?_
    refine J_ishr dX8_firstOn_39 ?_
    refine J_iconst 1 dX8_firstOn_40 rfl ?_
    refine J_iand dX8_firstOn_41 ?_
    refine J_iconst 1 dX8_firstOn_42 rfl ?_
    refine J_icmp_eq 68 dX8_firstOn_43 (by decide) (fun c11 => ?_) (fun c11 => ?_)
    · have h := br_p c11 h
      refine J_iinc (j := 4) (v := (x4 + (1 : Int32))) (L' := [(4, .int ((x4 + (1 : Int32)))), (0, .ref (94)), (1, .int (x1)), (2, .int (x2)), (3, .int (x3))]) dX8_firstOn_68 rfl rfl (by decide) rfl ?_
      refine J_goto 36 dX8_firstOn_71 (by decide) ?_
      have h := Option.some.inj h
      subst h
      refine J_sub [1, 2, 3, 4, 0] rfl ?_
      exact ih _ h2 Kx
    · have h := br_n c11 h
      refine J_aload_n dX8_firstOn_46 rfl 0 rfl ?_
      refine J_iload dX8_firstOn_47 4 rfl ?_
      refine J_iload_n dX8_firstOn_49 rfl 1 rfl ?_
      obtain ⟨r6, h5, h⟩ := br_b h
      refine J_callV (mj := mi_X8_isLandable) (as := [.int (x4), .int (x1)]) (rest := []) (ct_X8_isLandable (C := C)  h5) ⟨rfl, rfl⟩ rfl rfl (by decide) rfl cg_X8_206 hd_X8_isLandable rfl ⟨Nat.le_of_ble_eq_true rfl, Nat.le_of_ble_eq_true rfl⟩ (Nat.le_of_ble_eq_true rfl) ⟨Nat.zero_le _, Nat.zero_le _⟩ dX8_firstOn_50 ?_
      refine J_if_eq 68 dX8_firstOn_53 (by decide) (fun c10 => ?_) (fun c10 => ?_)
      · have h := br_p c10 h
        refine J_iinc (j := 4) (v := (x4 + (1 : Int32))) (L' := [(4, .int ((x4 + (1 : Int32)))), (0, .ref (94)), (1, .int (x1)), (2, .int (x2)), (3, .int (x3))]) dX8_firstOn_68 rfl rfl (by decide) rfl ?_
        refine J_goto 36 dX8_firstOn_71 (by decide) ?_
        have h := Option.some.inj h
        subst h
        refine J_sub [1, 2, 3, 4, 0] rfl ?_
        exact ih _ h2 Kx
      · have h := br_n c10 h
        refine J_aload_n dX8_firstOn_56 rfl 0 rfl ?_
        refine J_iload dX8_firstOn_57 4 rfl ?_
        refine J_iload_n dX8_firstOn_59 rfl 1 rfl ?_
        refine J_iload_n dX8_firstOn_60 rfl 2 rfl ?_
        obtain ⟨r8, h7, h⟩ := br_b h
        refine J_callV (mj := mi_X8_byLanding) (as := [.int (x4), .int (x1), .int (x2)]) (rest := []) (ct_X8_byLanding (C := C)  h7) ⟨rfl, rfl⟩ rfl rfl (by decide) rfl cg_X8_209 hd_X8_byLanding rfl ⟨Nat.le_of_ble_eq_true rfl, Nat.le_of_ble_eq_true rfl⟩ (Nat.le_of_ble_eq_true rfl) ⟨Nat.zero_le _, Nat.zero_le _⟩ dX8_firstOn_61 ?_
        refine J_iload_n dX8_firstOn_64 rfl 3 rfl ?_
        refine J_icmp_eq 74 dX8_firstOn_65 (by decide) (fun c9 => ?_) (fun c9 => ?_)
        · have h := br_p c9 h
          have h := Option.some.inj h
          subst h
          have h2 := Option.some.inj h2
          subst h2
          refine J_sub [4] rfl ?_
          exact Kx _ rfl
        · have h := br_n c9 h
          refine J_iinc (j := 4) (v := (x4 + (1 : Int32))) (L' := [(4, .int ((x4 + (1 : Int32)))), (0, .ref (94)), (1, .int (x1)), (2, .int (x2)), (3, .int (x3))]) dX8_firstOn_68 rfl rfl (by decide) rfl ?_
          refine J_goto 36 dX8_firstOn_71 (by decide) ?_
          have h := Option.some.inj h
          subst h
          refine J_sub [1, 2, 3, 4, 0] rfl ?_
          exact ih _ h2 Kx
def f_X8_firstOn (x1 : Int32) (x2 : Int32) (M : aMm) : Option (Int32) :=
  (m_ld M 8 (((1024 : Int32) * x1) + x2)).bind fun u1 => (m_ld M 8 (((1024 : Int32) * (x1 + (1 : Int32))) + x2)).bind fun u3 => if (u3 : Int32) = u1 then some (-1 : Int32) else (lpf (fun a : Int32 => b_X8_firstOn_36 (x1) (x2) (u1) a M) FU (0 : Int32)).bind fun z12 => some z12
set_option maxRecDepth 100000 in
set_option maxHeartbeats 4000000 in
theorem jm_X8_firstOn {x1 : Int32} {x2 : Int32} {C : aSc} {M : aMm}  {res : aRes} {r : Int32} (h : f_X8_firstOn x1 x2 M = some r) (Kr : ∀ (v : Int32), r = v → res = (some (.int v), (C, M))) : J mi_X8_firstOn res 0 0 0 [(0, .ref (94)), (1, .int (x1)), (2, .int (x2))] [] (C, M) := by
  rw [f_X8_firstOn] at h
  refine J_aload_n dX8_firstOn_0 rfl 0 rfl ?_
  refine J_getr (j := 17) (t := 110) (r := 102) rfl (by decide) (by decide) rfl (by decide) rfl rfl kf_X8_31 dX8_firstOn_1 ?_
  refine J_sipush 1024 dX8_firstOn_4 rfl ?_
  refine J_iload_n dX8_firstOn_7 rfl 1 rfl ?_
  refine J_imul dX8_firstOn_8 ?_
  refine J_iload_n dX8_firstOn_9 rfl 2 rfl ?_
  refine J_iadd dX8_firstOn_10 ?_
  obtain ⟨u1, h2, h⟩ := br_b h
  refine J_ialdM (m0 := 8) rfl rfl h2 dX8_firstOn_11 ?_
  refine J_istore_n (L' := [(3, .int (u1)), (0, .ref (94)), (1, .int (x1)), (2, .int (x2))]) dX8_firstOn_12 rfl (by decide) rfl ?_
  refine J_aload_n dX8_firstOn_13 rfl 1 rfl ?_
  refine J_getr (j := 17) (t := 110) (r := 102) rfl (by decide) (by decide) rfl (by decide) rfl rfl kf_X8_31 dX8_firstOn_14 ?_
  refine J_sipush 1024 dX8_firstOn_17 rfl ?_
  refine J_iload_n dX8_firstOn_20 rfl 2 rfl ?_
  refine J_iconst 1 dX8_firstOn_21 rfl ?_
  refine J_iadd dX8_firstOn_22 ?_
  refine J_imul dX8_firstOn_23 ?_
  refine J_iload_n dX8_firstOn_24 rfl 3 rfl ?_
  refine J_iadd dX8_firstOn_25 ?_
  obtain ⟨u3, h4, h⟩ := br_b h
  refine J_ialdM (m0 := 8) rfl rfl h4 dX8_firstOn_26 ?_
  refine J_iload_n dX8_firstOn_27 rfl 0 rfl ?_
  refine J_icmp_ne 33 dX8_firstOn_28 (by decide) (fun c15 => ?_) (fun c15 => ?_)
  · have h := br_n c15 h
    refine J_iconst 0 dX8_firstOn_33 rfl ?_
    refine J_istore (L' := [(4, .int ((0 : Int32))), (3, .int (u1)), (0, .ref (94)), (1, .int (x1)), (2, .int (x2))]) dX8_firstOn_34 (by decide) rfl ?_
    refine J_sub [2, 3, 4, 1, 0] rfl ?_
    obtain ⟨z12, h13, h⟩ := br_b h
    refine jl_X8_firstOn_36  FU _ h13 ?_
    intro zz e
    subst e
    refine J_iload dX8_firstOn_74 0 rfl ?_
    have h := Option.some.inj h
    subst h
    exact J_iret rfl rfl rfl (Kr _ rfl) dX8_firstOn_76
  · have h := br_p c15 h
    refine J_iconst (-1) dX8_firstOn_31 rfl ?_
    have h := Option.some.inj h
    subst h
    exact J_iret rfl rfl rfl (Kr _ rfl) dX8_firstOn_32
theorem ct_X8_firstOn {x1 : Int32} {x2 : Int32} {C : aSc} {M : aMm} {v : Int32}  (h : f_X8_firstOn x1 x2 M = some v) : Ct mi_X8_firstOn yX8_firstOn [.ref (94), .int (x1), .int (x2)] (C, M) (some (.int v), (C, M)) := Ct_of_J (by decide +kernel) rfl (Nat.le_of_ble_eq_true rfl) (jm_X8_firstOn  h (fun _ e => by cases e; rfl))

def mi_X8_landing : aMi := (cX8_landing, 5, RX8, (some .int), { frames := 4, cells := 0, slots := 0, locals := 91 })
def b_X8_landing_33 (x1 : Int32) (x2 : Int32) (x3 : Int32) (x4 : Int32) (M : aMm) : Option ((Int32 × Int32 × Int32) ⊕ (Int32)) :=
  if (x1 : Int32) < x4 then some (.inr x3) else (f_X8_firstOn x4 x2 M).bind fun r8 => if 0 ≤ (r8 : Int32) then some (.inl ((x2 ||| ((1 : Int32) <<< (r8 &&& 31))), r8, (x4 + (1 : Int32)))) else some (.inl ((x2 ||| (0 : Int32)), r8, (x4 + (1 : Int32))))
set_option maxRecDepth 100000 in
set_option maxHeartbeats 4000000 in
theorem jl_X8_landing_33 {x1 : Int32} {M : aMm} {C : aSc}  {res : aRes} {r : Int32} : ∀ (n : Nat) (x2 : Int32) (x3 : Int32) (x4 : Int32), lpf (fun a : Int32 × Int32 × Int32 => b_X8_landing_33 (x1) a.1 a.2.1 a.2.2 M) n (x2, x3, x4) = some r → (∀ (z3 : Int32), r = z3 → J mi_X8_landing res 0 0 67 [(0, .ref (94)), (3, .int (z3))] [] (C, M)) → J mi_X8_landing res 0 0 33 [(0, .ref (94)), (1, .int (x1)), (2, .int (x2)), (3, .int (x3)), (4, .int (x4))] [] (C, M) := by
  intro n
  induction n with
  | zero =>
    intro x2 x3 x4 h
    cases h
  | succ n ih =>
    intro x2 x3 x4 h Kx
    obtain ⟨r0, h, h2⟩ := br_b h
    have h : b_X8_landing_33 x1 x2 x3 x4 M = some r0 := h
    rw [b_X8_landing_33] at h
    refine J_iload dX8_landing_33 4 rfl ?_
    refine J_iload_n dX8_landing_35 rfl 1 rfl ?_
    refine J_icmp_gt 67 dX8_landing_36 (by decide) (fun c10 => ?_) (fun c10 => ?_)
    · have h := br_p c10 h
      have h := Option.some.inj h
      subst h
      have h2 := Option.some.inj h2
      subst h2
      refine J_sub [0, 3] rfl ?_
      exact Kx _ rfl
    · have h := br_n c10 h
      refine J_aload_n dX8_landing_39 rfl 0 rfl ?_
      refine J_iload dX8_landing_40 4 rfl ?_
      refine J_iload_n dX8_landing_42 rfl 2 rfl ?_
      obtain ⟨r8, h7, h⟩ := br_b h
      refine J_callV (mj := mi_X8_firstOn) (as := [.int (x4), .int (x2)]) (rest := []) (ct_X8_firstOn (C := C)  h7) ⟨rfl, rfl⟩ rfl rfl (by decide) rfl cg_X8_215 hd_X8_firstOn rfl ⟨Nat.le_of_ble_eq_true rfl, Nat.le_of_ble_eq_true rfl⟩ (Nat.le_of_ble_eq_true rfl) ⟨Nat.zero_le _, Nat.zero_le _⟩ dX8_landing_43 ?_
      refine J_istore_n (L' := [(3, .int (r8)), (0, .ref (94)), (1, .int (x1)), (2, .int (x2)), (4, .int (x4))]) dX8_landing_46 rfl (by decide) rfl ?_
      refine J_iload_n dX8_landing_47 rfl 3 rfl ?_
      refine J_iload_n dX8_landing_48 rfl 0 rfl ?_
      refine J_if_ge 56 dX8_landing_49 (by decide) (fun c9 => ?_) (fun c9 => ?_)
      · have h := br_p c9 h
        refine J_iconst 1 dX8_landing_56 rfl ?_
        refine J_iload_n dX8_landing_57 rfl 0 rfl ?_
        refine J_ishl dX8_landing_58 ?_
        refine J_ior dX8_landing_59 ?_
        refine J_istore_n (L' := [(2, .int ((x2 ||| ((1 : Int32) <<< (r8 &&& 31))))), (3, .int (r8)), (0, .ref (94)), (1, .int (x1)), (4, .int (x4))]) dX8_landing_60 rfl (by decide) rfl ?_
        refine J_iinc (j := 4) (v := (x4 + (1 : Int32))) (L' := [(4, .int ((x4 + (1 : Int32)))), (2, .int ((x2 ||| ((1 : Int32) <<< (r8 &&& 31))))), (3, .int (r8)), (0, .ref (94)), (1, .int (x1))]) dX8_landing_61 rfl rfl (by decide) rfl ?_
        refine J_goto 33 dX8_landing_64 (by decide) ?_
        have h := Option.some.inj h
        subst h
        refine J_sub [3, 4, 1, 2, 0] rfl ?_
        exact ih _ _ _ h2 Kx
      · have h := br_n c9 h
        refine J_iconst 0 dX8_landing_52 rfl ?_
        refine J_goto 59 dX8_landing_53 (by decide) ?_
        refine J_ior dX8_landing_59 ?_
        refine J_istore_n (L' := [(2, .int ((x2 ||| (0 : Int32)))), (3, .int (r8)), (0, .ref (94)), (1, .int (x1)), (4, .int (x4))]) dX8_landing_60 rfl (by decide) rfl ?_
        refine J_iinc (j := 4) (v := (x4 + (1 : Int32))) (L' := [(4, .int ((x4 + (1 : Int32)))), (2, .int ((x2 ||| (0 : Int32)))), (3, .int (r8)), (0, .ref (94)), (1, .int (x1))]) dX8_landing_61 rfl rfl (by decide) rfl ?_
        refine J_goto 33 dX8_landing_64 (by decide) ?_
        have h := Option.some.inj h
        subst h
        refine J_sub [3, 4, 1, 2, 0] rfl ?_
        exact ih _ _ _ h2 Kx
def f_X8_landing (x1 : Int32) (M : aMm) : Option (Int32 × aMm) :=
  (f_X8_within x1 (0 : Int32) (19 : Int32) M).bind fun r2 => if (r2 : Int32) = 0 then bd2 (f_X8_finding (-100001 : Int32) M) fun r19 M20 => some (r19, M20) else (f_X8_findLandings  M).bind fun M4 => (m_ld M4 1 (5 : Int32)).bind fun u5 => (lpf (fun a : Int32 × Int32 × Int32 => b_X8_landing_33 (x1) a.1 a.2.1 a.2.2 M4) FU ((0 : Int32), (-1 : Int32), u5)).bind fun z11 => if 0 ≤ (z11 : Int32) then some (z11, M4) else bd2 (f_X8_finding (-100006 : Int32) M4) fun r15 M16 => some (r15, M16)
set_option maxRecDepth 100000 in
set_option maxHeartbeats 4000000 in
theorem jm_X8_landing {x1 : Int32} {C : aSc} {M : aMm}  {res : aRes} {r : Int32 × aMm} (h : f_X8_landing x1 M = some r) (Kr : ∀ (v : Int32) (S' : aMm), r = (v, S') → res = (some (.int v), (C, S'))) : J mi_X8_landing res 0 0 0 [(0, .ref (94)), (1, .int (x1))] [] (C, M) := by
  rw [f_X8_landing] at h
  refine J_iload_n dX8_landing_0 rfl 1 rfl ?_
  refine J_iconst 0 dX8_landing_1 rfl ?_
  refine J_bipush 19 dX8_landing_2 rfl ?_
  obtain ⟨r2, h1, h⟩ := br_b h
  refine J_callS (mj := mi_X8_within) (as := [.int (x1), .int ((0 : Int32)), .int ((19 : Int32))]) (rest := []) (ct_X8_within (C := C)  h1) ⟨rfl, rfl⟩ rfl cg_X8_41 hd_X8_within rfl ⟨Nat.le_of_ble_eq_true rfl, Nat.le_of_ble_eq_true rfl⟩ (Nat.le_of_ble_eq_true rfl) ⟨Nat.zero_le _, Nat.zero_le _⟩ dX8_landing_4 ?_
  refine J_if_ne 17 dX8_landing_7 (by decide) (fun c21 => ?_) (fun c21 => ?_)
  · have h := br_n c21 h
    refine J_aload_n dX8_landing_17 rfl 0 rfl ?_
    obtain ⟨M4, h3, h⟩ := br_b h
    refine J_callV (mj := mi_X8_findLandings) (as := []) (rest := []) (ct_X8_findLandings (C := C)  h3) ⟨rfl, rfl⟩ rfl rfl (by decide) rfl cg_X8_212 hd_X8_findLandings rfl ⟨Nat.le_of_ble_eq_true rfl, Nat.le_of_ble_eq_true rfl⟩ (Nat.le_of_ble_eq_true rfl) ⟨Nat.zero_le _, Nat.zero_le _⟩ dX8_landing_18 ?_
    refine J_iconst 0 dX8_landing_21 rfl ?_
    refine J_istore_n (L' := [(2, .int ((0 : Int32))), (0, .ref (94)), (1, .int (x1))]) dX8_landing_22 rfl (by decide) rfl ?_
    refine J_iconst (-1) dX8_landing_23 rfl ?_
    refine J_istore_n (L' := [(3, .int ((-1 : Int32))), (2, .int ((0 : Int32))), (0, .ref (94)), (1, .int (x1))]) dX8_landing_24 rfl (by decide) rfl ?_
    refine J_aload_n dX8_landing_25 rfl 2 rfl ?_
    refine J_getr (j := 0) (t := 103) (r := 95) rfl (by decide) (by decide) rfl (by decide) rfl rfl kf_X8_9 dX8_landing_26 ?_
    refine J_iconst 5 dX8_landing_29 rfl ?_
    obtain ⟨u5, h6, h⟩ := br_b h
    refine J_ialdM (m0 := 1) rfl rfl h6 dX8_landing_30 ?_
    refine J_istore (L' := [(4, .int (u5)), (3, .int ((-1 : Int32))), (2, .int ((0 : Int32))), (0, .ref (94)), (1, .int (x1))]) dX8_landing_31 (by decide) rfl ?_
    refine J_sub [3, 4, 2, 1, 0] rfl ?_
    obtain ⟨z11, h12, h⟩ := br_b h
    refine jl_X8_landing_33  FU _ _ _ h12 ?_
    intro zz e
    subst e
    refine J_iload_n dX8_landing_67 rfl 1 rfl ?_
    refine J_if_ge 80 dX8_landing_68 (by decide) (fun c17 => ?_) (fun c17 => ?_)
    · have h := br_p c17 h
      refine J_iload_n dX8_landing_80 rfl 1 rfl ?_
      have h := Option.some.inj h
      subst h
      exact J_iret rfl rfl rfl (Kr _ _ rfl) dX8_landing_81
    · have h := br_n c17 h
      refine J_aload_n dX8_landing_71 rfl 0 rfl ?_
      refine J_ldc (-100006) dX8_landing_72 kc_X8_52 ?_
      obtain ⟨r15, M16, h14, h⟩ := br_b2 h
      refine J_callV (mj := mi_X8_finding) (as := [.int ((-100006 : Int32))]) (rest := []) (ct_X8_finding (C := C)  h14) ⟨rfl, rfl⟩ rfl rfl (by decide) rfl cg_X8_53 hd_X8_finding rfl ⟨Nat.le_of_ble_eq_true rfl, Nat.le_of_ble_eq_true rfl⟩ (Nat.le_of_ble_eq_true rfl) ⟨Nat.zero_le _, Nat.zero_le _⟩ dX8_landing_74 ?_
      refine J_goto 81 dX8_landing_77 (by decide) ?_
      have h := Option.some.inj h
      subst h
      exact J_iret rfl rfl rfl (Kr _ _ rfl) dX8_landing_81
  · have h := br_p c21 h
    refine J_aload_n dX8_landing_10 rfl 0 rfl ?_
    refine J_ldc (-100001) dX8_landing_11 kc_X8_57 ?_
    obtain ⟨r19, M20, h18, h⟩ := br_b2 h
    refine J_callV (mj := mi_X8_finding) (as := [.int ((-100001 : Int32))]) (rest := []) (ct_X8_finding (C := C)  h18) ⟨rfl, rfl⟩ rfl rfl (by decide) rfl cg_X8_53 hd_X8_finding rfl ⟨Nat.le_of_ble_eq_true rfl, Nat.le_of_ble_eq_true rfl⟩ (Nat.le_of_ble_eq_true rfl) ⟨Nat.zero_le _, Nat.zero_le _⟩ dX8_landing_13 ?_
    have h := Option.some.inj h
    subst h
    exact J_iret rfl rfl rfl (Kr _ _ rfl) dX8_landing_16
theorem ct_X8_landing {x1 : Int32} {C : aSc} {M : aMm} {v : Int32} {S' : aMm}  (h : f_X8_landing x1 M = some (v, S')) : Ct mi_X8_landing yX8_landing [.ref (94), .int (x1)] (C, M) (some (.int v), (C, S')) := Ct_of_J (by decide +kernel) rfl (Nat.le_of_ble_eq_true rfl) (jm_X8_landing  h (fun _ _ e => by cases e; rfl))
def mi_X8_proves : aMi := (cX8_proves, 7, RX8, (some .int), { frames := 4, cells := 0, slots := 0, locals := 91 })
def b_X8_proves_66 (x1 : Int32) (x2 : Int32) (x3 : Int32) (x4 : Int32) (M : aMm) : Option ((Int32 × Int32 × Int32) ⊕ ((Int32 × Int32) ⊕ (Int32 × aMm))) :=
  (m_ld M 5 x1).bind fun u11 => if (u11 : Int32) ≤ x4 then some (.inr (.inl (x2, x3))) else (m_ld M 6 (((30 : Int32) * x1) + x4)).bind fun u13 => (m_ld M 1 (5 : Int32)).bind fun u15 => if (u13 : Int32) = (-1 : Int32) then some (.inl (x2, x3, (x4 + (1 : Int32)))) else (f_X8_isLandable u13 (u15 + x4) M).bind fun r18 => if (r18 : Int32) = 0 then some (.inr (.inr (x4, M))) else if (((x2 >>> (u13 &&& 31)) &&& (1 : Int32)) : Int32) = (1 : Int32) then some (.inr (.inr (x4, M))) else (f_X8_overdueOf u13 (u15 + x4) M).bind fun r20 => some (.inl ((x2 ||| ((1 : Int32) <<< (u13 &&& 31))), (x3 + r20), (x4 + (1 : Int32))))
set_option maxRecDepth 100000 in
set_option maxHeartbeats 4000000 in
theorem jl_X8_proves_66 {x1 : Int32} {M : aMm} {C : aSc}  {res : aRes} {r : (Int32 × Int32) ⊕ (Int32 × aMm)} : ∀ (n : Nat) (x2 : Int32) (x3 : Int32) (x4 : Int32), lpf (fun a : Int32 × Int32 × Int32 => b_X8_proves_66 (x1) a.1 a.2.1 a.2.2 M) n (x2, x3, x4) = some r → (∀ (z2 : Int32) (z3 : Int32), r = .inl (z2, z3) → J mi_X8_proves res 0 0 159 [(0, .ref (94)), (1, .int (x1)), (2, .int (z2)), (3, .int (z3))] [] (C, M)) → (∀ (v : Int32) (S' : aMm), r = .inr (v, S') → res = (some (.int v), (C, S'))) → J mi_X8_proves res 0 0 66 [(0, .ref (94)), (1, .int (x1)), (2, .int (x2)), (3, .int (x3)), (4, .int (x4))] [] (C, M) := by
  intro n
  induction n with
  | zero =>
    intro x2 x3 x4 h
    cases h
  | succ n ih =>
    intro x2 x3 x4 h Kx Kr
    obtain ⟨r0, h, h2⟩ := br_b h
    have h : b_X8_proves_66 x1 x2 x3 x4 M = some r0 := h
    rw [b_X8_proves_66] at h
    refine J_iload dX8_proves_66 4 rfl ?_
    refine J_aload_n dX8_proves_68 rfl 0 rfl ?_
    refine J_getr (j := 7) (t := 107) (r := 99) rfl (by decide) (by decide) rfl (by decide) rfl rfl kf_X8_22 dX8_proves_69 ?_
    refine J_iload_n dX8_proves_72 rfl 1 rfl ?_
    obtain ⟨u11, h12, h⟩ := br_b h
    refine J_ialdM (m0 := 5) rfl rfl h12 dX8_proves_73 ?_
    refine J_icmp_ge 159 dX8_proves_74 (by decide) (fun c24 => ?_) (fun c24 => ?_)
    · have h := br_p c24 h
      have h := Option.some.inj h
      subst h
      have h2 := Option.some.inj h2
      subst h2
      refine J_sub [0, 1, 2, 3] rfl ?_
      exact Kx _ _ rfl
    · have h := br_n c24 h
      refine J_aload_n dX8_proves_77 rfl 0 rfl ?_
      refine J_getr (j := 8) (t := 108) (r := 100) rfl (by decide) (by decide) rfl (by decide) rfl rfl kf_X8_25 dX8_proves_78 ?_
      refine J_bipush 30 dX8_proves_81 rfl ?_
      refine J_iload_n dX8_proves_83 rfl 1 rfl ?_
      refine J_imul dX8_proves_84 ?_
      refine J_iload dX8_proves_85 4 rfl ?_
      refine J_iadd dX8_proves_87 ?_
      obtain ⟨u13, h14, h⟩ := br_b h
      refine J_ialdM (m0 := 6) rfl rfl h14 dX8_proves_88 ?_
      refine J_istore (L' := [(5, .int (u13)), (0, .ref (94)), (1, .int (x1)), (2, .int (x2)), (3, .int (x3)), (4, .int (x4))]) dX8_proves_89 (by decide) rfl ?_
      refine J_aload_n dX8_proves_91 rfl 1 rfl ?_
      refine J_getr (j := 0) (t := 103) (r := 95) rfl (by decide) (by decide) rfl (by decide) rfl rfl kf_X8_9 dX8_proves_92 ?_
      refine J_iconst 5 dX8_proves_95 rfl ?_
      obtain ⟨u15, h16, h⟩ := br_b h
      refine J_ialdM (m0 := 1) rfl rfl h16 dX8_proves_96 ?_
      refine J_iload dX8_proves_97 5 rfl ?_
      refine J_iadd dX8_proves_99 ?_
      refine J_istore (L' := [(6, .int ((u15 + x4))), (5, .int (u13)), (0, .ref (94)), (1, .int (x1)), (2, .int (x2)), (3, .int (x3)), (4, .int (x4))]) dX8_proves_100 (by decide) rfl ?_
      refine J_iload dX8_proves_102 1 rfl ?_
      refine J_iconst (-1) dX8_proves_104 rfl ?_
      refine J_icmp_ne 111 dX8_proves_105 (by decide) (fun c23 => ?_) (fun c23 => ?_)
      · have h := br_n c23 h
        refine J_aload_n dX8_proves_111 rfl 2 rfl ?_
        refine J_iload dX8_proves_112 1 rfl ?_
        refine J_iload dX8_proves_114 0 rfl ?_
        obtain ⟨r18, h17, h⟩ := br_b h
        refine J_callV (mj := mi_X8_isLandable) (as := [.int (u13), .int ((u15 + x4))]) (rest := []) (ct_X8_isLandable (C := C)  h17) ⟨rfl, rfl⟩ rfl rfl (by decide) rfl cg_X8_206 hd_X8_isLandable rfl ⟨Nat.le_of_ble_eq_true rfl, Nat.le_of_ble_eq_true rfl⟩ (Nat.le_of_ble_eq_true rfl) ⟨Nat.zero_le _, Nat.zero_le _⟩ dX8_proves_116 ?_
        refine J_if_eq 132 dX8_proves_119 (by decide) (fun c22 => ?_) (fun c22 => ?_)
        · have h := br_p c22 h
          refine J_iload dX8_proves_132 6 rfl ?_
          have h := Option.some.inj h
          subst h
          have h2 := Option.some.inj h2
          subst h2
          exact J_iret rfl rfl rfl (Kr _ _ rfl) dX8_proves_134
        · have h := br_n c22 h
          refine J_iload_n dX8_proves_122 rfl 4 rfl ?_
          refine J_iload dX8_proves_123 1 rfl ?_
          refine J_ishr dX8_proves_125 ?_
          refine J_iconst 1 dX8_proves_126 rfl ?_
          refine J_iand dX8_proves_127 ?_
          refine J_iconst 1 dX8_proves_128 rfl ?_
          refine J_icmp_ne 135 dX8_proves_129 (by decide) (fun c21 => ?_) (fun c21 => ?_)
          · have h := br_n c21 h
            refine J_iload_n dX8_proves_135 rfl 4 rfl ?_
            refine J_iconst 1 dX8_proves_136 rfl ?_
            refine J_iload dX8_proves_137 1 rfl ?_
            refine J_ishl dX8_proves_139 ?_
            refine J_ior dX8_proves_140 ?_
            refine J_istore_n (L' := [(2, .int ((x2 ||| ((1 : Int32) <<< (u13 &&& 31))))), (6, .int ((u15 + x4))), (5, .int (u13)), (0, .ref (94)), (1, .int (x1)), (3, .int (x3)), (4, .int (x4))]) dX8_proves_141 rfl (by decide) rfl ?_
            refine J_iload_n dX8_proves_142 rfl 5 rfl ?_
            refine J_aload_n dX8_proves_143 rfl 3 rfl ?_
            refine J_iload dX8_proves_144 2 rfl ?_
            refine J_iload dX8_proves_146 1 rfl ?_
            obtain ⟨r20, h19, h⟩ := br_b h
            refine J_callV (mj := mi_X8_overdueOf) (as := [.int (u13), .int ((u15 + x4))]) (rest := [.int (x3)]) (ct_X8_overdueOf (C := C)  h19) ⟨rfl, rfl⟩ rfl rfl (by decide) rfl cg_X8_200 hd_X8_overdueOf rfl ⟨Nat.le_of_ble_eq_true rfl, Nat.le_of_ble_eq_true rfl⟩ (Nat.le_of_ble_eq_true rfl) ⟨Nat.zero_le _, Nat.zero_le _⟩ dX8_proves_148 ?_
            refine J_iadd dX8_proves_151 ?_
            refine J_istore_n (L' := [(3, .int ((x3 + r20))), (2, .int ((x2 ||| ((1 : Int32) <<< (u13 &&& 31))))), (6, .int ((u15 + x4))), (5, .int (u13)), (0, .ref (94)), (1, .int (x1)), (4, .int (x4))]) dX8_proves_152 rfl (by decide) rfl ?_
            refine J_iinc (j := 6) (v := (x4 + (1 : Int32))) (L' := [(4, .int ((x4 + (1 : Int32)))), (3, .int ((x3 + r20))), (2, .int ((x2 ||| ((1 : Int32) <<< (u13 &&& 31))))), (6, .int ((u15 + x4))), (5, .int (u13)), (0, .ref (94)), (1, .int (x1))]) dX8_proves_153 rfl rfl (by decide) rfl ?_
            refine J_goto 66 dX8_proves_156 (by decide) ?_
            have h := Option.some.inj h
            subst h
            refine J_sub [5, 6, 2, 1, 0] rfl ?_
            exact ih _ _ _ h2 Kx Kr
          · have h := br_p c21 h
            refine J_iload dX8_proves_132 6 rfl ?_
            have h := Option.some.inj h
            subst h
            have h2 := Option.some.inj h2
            subst h2
            exact J_iret rfl rfl rfl (Kr _ _ rfl) dX8_proves_134
      · have h := br_p c23 h
        refine J_goto 153 dX8_proves_108 (by decide) ?_
        refine J_iinc (j := 6) (v := (x4 + (1 : Int32))) (L' := [(4, .int ((x4 + (1 : Int32)))), (6, .int ((u15 + x4))), (5, .int (u13)), (0, .ref (94)), (1, .int (x1)), (2, .int (x2)), (3, .int (x3))]) dX8_proves_153 rfl rfl (by decide) rfl ?_
        refine J_goto 66 dX8_proves_156 (by decide) ?_
        have h := Option.some.inj h
        subst h
        refine J_sub [3, 4, 5, 6, 0] rfl ?_
        exact ih _ _ _ h2 Kx Kr
def f_X8_proves (x1 : Int32) (M : aMm) : Option (Int32 × aMm) :=
  (f_X8_isSheet x1 M).bind fun r2 => if (r2 : Int32) = 0 then bd2 (f_X8_finding (-100001 : Int32) M) fun r48 M49 => some (r48, M49) else (m_ld M 4 x1).bind fun u3 => if (u3 : Int32) = 0 then bd2 (f_X8_finding (-100002 : Int32) M) fun r44 M45 => some (r44, M45) else (m_ld M 5 x1).bind fun u5 => (m_ld M 1 (5 : Int32)).bind fun u7 => if (u5 : Int32) = ((20 : Int32) - u7) then (f_X8_findLandings  M).bind fun M10 => (lpf (fun a : Int32 × Int32 × Int32 => b_X8_proves_66 (x1) a.1 a.2.1 a.2.2 M10) FU ((0 : Int32), (0 : Int32), (0 : Int32))).bind fun z25 => Sum.elim (fun z25a => (f_X8_restOf z25a.1 M10).bind fun r30 => (m_ld M10 1 (5 : Int32)).bind fun u31 => (m_ld M10 8 ((1024 : Int32) * u31)).bind fun u33 => if ((z25a.2 + r30) : Int32) = u33 then some ((-1 : Int32), M10) else (m_ld M10 5 x1).bind fun u35 => some (u35, M10)) (fun z38 => some z38) z25 else bd2 (f_X8_finding (-100003 : Int32) M) fun r40 M41 => some (r40, M41)
set_option maxRecDepth 100000 in
set_option maxHeartbeats 4000000 in
theorem jm_X8_proves {x1 : Int32} {C : aSc} {M : aMm}  {res : aRes} {r : Int32 × aMm} (h : f_X8_proves x1 M = some r) (Kr : ∀ (v : Int32) (S' : aMm), r = (v, S') → res = (some (.int v), (C, S'))) : J mi_X8_proves res 0 0 0 [(0, .ref (94)), (1, .int (x1))] [] (C, M) := by
  rw [f_X8_proves] at h
  refine J_iload_n dX8_proves_0 rfl 1 rfl ?_
  obtain ⟨r2, h1, h⟩ := br_b h
  refine J_callS (mj := mi_X8_isSheet) (as := [.int (x1)]) (rest := []) (ct_X8_isSheet (C := C)  h1) ⟨rfl, rfl⟩ rfl cg_X8_177 hd_X8_isSheet rfl ⟨Nat.le_of_ble_eq_true rfl, Nat.le_of_ble_eq_true rfl⟩ (Nat.le_of_ble_eq_true rfl) ⟨Nat.zero_le _, Nat.zero_le _⟩ dX8_proves_1 ?_
  refine J_if_ne 14 dX8_proves_4 (by decide) (fun c50 => ?_) (fun c50 => ?_)
  · have h := br_n c50 h
    refine J_aload_n dX8_proves_14 rfl 0 rfl ?_
    refine J_getr (j := 6) (t := 106) (r := 98) rfl (by decide) (by decide) rfl (by decide) rfl rfl kf_X8_19 dX8_proves_15 ?_
    refine J_iload_n dX8_proves_18 rfl 1 rfl ?_
    obtain ⟨u3, h4, h⟩ := br_b h
    refine J_ialdM (m0 := 4) rfl rfl h4 dX8_proves_19 ?_
    refine J_if_ne 30 dX8_proves_20 (by decide) (fun c46 => ?_) (fun c46 => ?_)
    · have h := br_n c46 h
      refine J_aload_n dX8_proves_30 rfl 0 rfl ?_
      refine J_getr (j := 7) (t := 107) (r := 99) rfl (by decide) (by decide) rfl (by decide) rfl rfl kf_X8_22 dX8_proves_31 ?_
      refine J_iload_n dX8_proves_34 rfl 1 rfl ?_
      obtain ⟨u5, h6, h⟩ := br_b h
      refine J_ialdM (m0 := 5) rfl rfl h6 dX8_proves_35 ?_
      refine J_bipush 20 dX8_proves_36 rfl ?_
      refine J_aload_n dX8_proves_38 rfl 0 rfl ?_
      refine J_getr (j := 0) (t := 103) (r := 95) rfl (by decide) (by decide) rfl (by decide) rfl rfl kf_X8_9 dX8_proves_39 ?_
      refine J_iconst 5 dX8_proves_42 rfl ?_
      obtain ⟨u7, h8, h⟩ := br_b h
      refine J_ialdM (m0 := 1) rfl rfl h8 dX8_proves_43 ?_
      refine J_isub dX8_proves_44 ?_
      refine J_icmp_eq 55 dX8_proves_45 (by decide) (fun c42 => ?_) (fun c42 => ?_)
      · have h := br_p c42 h
        refine J_aload_n dX8_proves_55 rfl 0 rfl ?_
        obtain ⟨M10, h9, h⟩ := br_b h
        refine J_callV (mj := mi_X8_findLandings) (as := []) (rest := []) (ct_X8_findLandings (C := C)  h9) ⟨rfl, rfl⟩ rfl rfl (by decide) rfl cg_X8_212 hd_X8_findLandings rfl ⟨Nat.le_of_ble_eq_true rfl, Nat.le_of_ble_eq_true rfl⟩ (Nat.le_of_ble_eq_true rfl) ⟨Nat.zero_le _, Nat.zero_le _⟩ dX8_proves_56 ?_
        refine J_iconst 0 dX8_proves_59 rfl ?_
        refine J_istore_n (L' := [(2, .int ((0 : Int32))), (0, .ref (94)), (1, .int (x1))]) dX8_proves_60 rfl (by decide) rfl ?_
        refine J_iconst 0 dX8_proves_61 rfl ?_
        refine J_istore_n (L' := [(3, .int ((0 : Int32))), (2, .int ((0 : Int32))), (0, .ref (94)), (1, .int (x1))]) dX8_proves_62 rfl (by decide) rfl ?_
        refine J_iconst 0 dX8_proves_63 rfl ?_
        refine J_istore (L' := [(4, .int ((0 : Int32))), (3, .int ((0 : Int32))), (2, .int ((0 : Int32))), (0, .ref (94)), (1, .int (x1))]) dX8_proves_64 (by decide) rfl ?_
        refine J_sub [3, 4, 2, 1, 0] rfl ?_
        obtain ⟨z25, h26, h⟩ := br_b h
        refine jl_X8_proves_66  FU _ _ _ h26 ?_ ?_
        · intro v27 v28 e
          subst e
          have h := br_l h
          refine J_iload_n dX8_proves_159 rfl 3 rfl ?_
          refine J_aload_n dX8_proves_160 rfl 0 rfl ?_
          refine J_iload_n dX8_proves_161 rfl 2 rfl ?_
          obtain ⟨r30, h29, h⟩ := br_b h
          refine J_callV (mj := mi_X8_restOf) (as := [.int (v27)]) (rest := [.int (v28)]) (ct_X8_restOf (C := C)  h29) ⟨rfl, rfl⟩ rfl rfl (by decide) rfl cg_X8_203 hd_X8_restOf rfl ⟨Nat.le_of_ble_eq_true rfl, Nat.le_of_ble_eq_true rfl⟩ (Nat.le_of_ble_eq_true rfl) ⟨Nat.zero_le _, Nat.zero_le _⟩ dX8_proves_162 ?_
          refine J_iadd dX8_proves_165 ?_
          refine J_aload_n dX8_proves_166 rfl 0 rfl ?_
          refine J_getr (j := 17) (t := 110) (r := 102) rfl (by decide) (by decide) rfl (by decide) rfl rfl kf_X8_31 dX8_proves_167 ?_
          refine J_sipush 1024 dX8_proves_170 rfl ?_
          refine J_aload_n dX8_proves_173 rfl 0 rfl ?_
          refine J_getr (j := 0) (t := 103) (r := 95) rfl (by decide) (by decide) rfl (by decide) rfl rfl kf_X8_9 dX8_proves_174 ?_
          refine J_iconst 5 dX8_proves_177 rfl ?_
          obtain ⟨u31, h32, h⟩ := br_b h
          refine J_ialdM (m0 := 1) rfl rfl h32 dX8_proves_178 ?_
          refine J_imul dX8_proves_179 ?_
          obtain ⟨u33, h34, h⟩ := br_b h
          refine J_ialdM (m0 := 8) rfl rfl h34 dX8_proves_180 ?_
          refine J_icmp_ne 188 dX8_proves_181 (by decide) (fun c37 => ?_) (fun c37 => ?_)
          · have h := br_n c37 h
            refine J_aload_n dX8_proves_188 rfl 0 rfl ?_
            refine J_getr (j := 7) (t := 107) (r := 99) rfl (by decide) (by decide) rfl (by decide) rfl rfl kf_X8_22 dX8_proves_189 ?_
            refine J_iload_n dX8_proves_192 rfl 1 rfl ?_
            obtain ⟨u35, h36, h⟩ := br_b h
            refine J_ialdM (m0 := 5) rfl rfl h36 dX8_proves_193 ?_
            have h := Option.some.inj h
            subst h
            exact J_iret rfl rfl rfl (Kr _ _ rfl) dX8_proves_194
          · have h := br_p c37 h
            refine J_iconst (-1) dX8_proves_184 rfl ?_
            refine J_goto 194 dX8_proves_185 (by decide) ?_
            have h := Option.some.inj h
            subst h
            exact J_iret rfl rfl rfl (Kr _ _ rfl) dX8_proves_194
        · intro v S' e
          subst e
          have h := br_r h
          have h := Option.some.inj h
          subst h
          exact Kr _ _ rfl
      · have h := br_n c42 h
        refine J_aload_n dX8_proves_48 rfl 0 rfl ?_
        refine J_ldc (-100003) dX8_proves_49 kc_X8_147 ?_
        obtain ⟨r40, M41, h39, h⟩ := br_b2 h
        refine J_callV (mj := mi_X8_finding) (as := [.int ((-100003 : Int32))]) (rest := []) (ct_X8_finding (C := C)  h39) ⟨rfl, rfl⟩ rfl rfl (by decide) rfl cg_X8_53 hd_X8_finding rfl ⟨Nat.le_of_ble_eq_true rfl, Nat.le_of_ble_eq_true rfl⟩ (Nat.le_of_ble_eq_true rfl) ⟨Nat.zero_le _, Nat.zero_le _⟩ dX8_proves_51 ?_
        have h := Option.some.inj h
        subst h
        exact J_iret rfl rfl rfl (Kr _ _ rfl) dX8_proves_54
    · have h := br_p c46 h
      refine J_aload_n dX8_proves_23 rfl 0 rfl ?_
      refine J_ldc (-100002) dX8_proves_24 kc_X8_180 ?_
      obtain ⟨r44, M45, h43, h⟩ := br_b2 h
      refine J_callV (mj := mi_X8_finding) (as := [.int ((-100002 : Int32))]) (rest := []) (ct_X8_finding (C := C)  h43) ⟨rfl, rfl⟩ rfl rfl (by decide) rfl cg_X8_53 hd_X8_finding rfl ⟨Nat.le_of_ble_eq_true rfl, Nat.le_of_ble_eq_true rfl⟩ (Nat.le_of_ble_eq_true rfl) ⟨Nat.zero_le _, Nat.zero_le _⟩ dX8_proves_26 ?_
      have h := Option.some.inj h
      subst h
      exact J_iret rfl rfl rfl (Kr _ _ rfl) dX8_proves_29
  · have h := br_p c50 h
    refine J_aload_n dX8_proves_7 rfl 0 rfl ?_
    refine J_ldc (-100001) dX8_proves_8 kc_X8_57 ?_
    obtain ⟨r48, M49, h47, h⟩ := br_b2 h
    refine J_callV (mj := mi_X8_finding) (as := [.int ((-100001 : Int32))]) (rest := []) (ct_X8_finding (C := C)  h47) ⟨rfl, rfl⟩ rfl rfl (by decide) rfl cg_X8_53 hd_X8_finding rfl ⟨Nat.le_of_ble_eq_true rfl, Nat.le_of_ble_eq_true rfl⟩ (Nat.le_of_ble_eq_true rfl) ⟨Nat.zero_le _, Nat.zero_le _⟩ dX8_proves_10 ?_
    have h := Option.some.inj h
    subst h
    exact J_iret rfl rfl rfl (Kr _ _ rfl) dX8_proves_13
theorem ct_X8_proves {x1 : Int32} {C : aSc} {M : aMm} {v : Int32} {S' : aMm}  (h : f_X8_proves x1 M = some (v, S')) : Ct mi_X8_proves yX8_proves [.ref (94), .int (x1)] (C, M) (some (.int v), (C, S')) := Ct_of_J (by decide +kernel) rfl (Nat.le_of_ble_eq_true rfl) (jm_X8_proves  h (fun _ _ e => by cases e; rfl))
def mi_X8_sheet : aMi := (cX8_sheet, 5, RX8, (some .int), { frames := 2, cells := 0, slots := 0, locals := 42 })
def b_X8_sheet_85 (x1 : Int32) (x4 : Int32) (M : aMm) : Option ((Int32 × aMm) ⊕ (aMm)) :=
  if ((30 : Int32) : Int32) ≤ x4 then some (.inr M) else (m_st M 6 (((30 : Int32) * x1) + x4) (0 : Int32)).bind fun M10 => some (.inl ((x4 + (1 : Int32)), M10))
set_option maxRecDepth 100000 in
set_option maxHeartbeats 4000000 in
theorem jl_X8_sheet_85 {x1 : Int32} {C : aSc}  {res : aRes} {r : aMm} : ∀ (n : Nat) (x4 : Int32) (M : aMm), lpf (fun a : Int32 × aMm => b_X8_sheet_85 (x1) a.1 a.2) n (x4, M) = some r → (∀ (S2 : aMm), r = S2 → J mi_X8_sheet res 0 0 111 [(0, .ref (94)), (1, .int (x1))] [] (C, S2)) → J mi_X8_sheet res 0 0 85 [(0, .ref (94)), (1, .int (x1)), (4, .int (x4))] [] (C, M) := by
  intro n
  induction n with
  | zero =>
    intro x4 M h
    cases h
  | succ n ih =>
    intro x4 M h Kx
    obtain ⟨r0, h, h2⟩ := br_b h
    have h : b_X8_sheet_85 x1 x4 M = some r0 := h
    rw [b_X8_sheet_85] at h
    refine J_iload dX8_sheet_85 2 rfl ?_
    refine J_bipush 30 dX8_sheet_87 rfl ?_
    refine J_icmp_ge 111 dX8_sheet_89 (by decide) (fun c12 => ?_) (fun c12 => ?_)
    · have h := br_p c12 h
      have h := Option.some.inj h
      subst h
      have h2 := Option.some.inj h2
      subst h2
      refine J_sub [0, 1] rfl ?_
      exact Kx _ rfl
    · have h := br_n c12 h
      refine J_aload_n dX8_sheet_92 rfl 0 rfl ?_
      refine J_getr (j := 8) (t := 108) (r := 100) rfl (by decide) (by decide) rfl (by decide) rfl rfl kf_X8_25 dX8_sheet_93 ?_
      refine J_bipush 30 dX8_sheet_96 rfl ?_
      refine J_iload_n dX8_sheet_98 rfl 1 rfl ?_
      refine J_imul dX8_sheet_99 ?_
      refine J_iload dX8_sheet_100 2 rfl ?_
      refine J_iadd dX8_sheet_102 ?_
      refine J_iconst 0 dX8_sheet_103 rfl ?_
      obtain ⟨M10, h11, h⟩ := br_b h
      refine J_iastM (m0 := 6) rfl rfl h11 dX8_sheet_104 ?_
      refine J_iinc (j := 2) (v := (x4 + (1 : Int32))) (L' := [(4, .int ((x4 + (1 : Int32)))), (0, .ref (94)), (1, .int (x1))]) dX8_sheet_105 rfl rfl (by decide) rfl ?_
      refine J_goto 85 dX8_sheet_108 (by decide) ?_
      have h := Option.some.inj h
      subst h
      refine J_sub [1, 2, 0] rfl ?_
      exact ih _ _ h2 Kx
def g_X8_sheet_81 (x1 : Int32) (t0 : Int32) (t1 : Int32) (M : aMm) : Option (Int32 × aMm) :=
  (m_st M 5 t1 t0).bind fun M8 => (lpf (fun a : Int32 × aMm => b_X8_sheet_85 (x1) a.1 a.2) FU ((0 : Int32), M8)).bind fun z13 => (m_ld z13 5 x1).bind fun u16 => some (u16, z13)
set_option maxRecDepth 100000 in
set_option maxHeartbeats 4000000 in
theorem jb_X8_sheet_81 {x1 : Int32} {t0 : Int32} {t1 : Int32} {M : aMm} {C : aSc}  {res : aRes} {r : Int32 × aMm} (h : g_X8_sheet_81 x1 t0 t1 M = some r) (Kr : ∀ (v : Int32) (S' : aMm), r = (v, S') → res = (some (.int v), (C, S'))) : J mi_X8_sheet res 0 0 81 [(0, .ref (94)), (1, .int (x1))] [.int (t0), .int (t1), .ref (99)] (C, M) := by
  rw [g_X8_sheet_81] at h
  obtain ⟨M8, h9, h⟩ := br_b h
  refine J_iastM (m0 := 5) rfl rfl h9 dX8_sheet_81 ?_
  refine J_iconst 0 dX8_sheet_82 rfl ?_
  refine J_istore (L' := [(4, .int ((0 : Int32))), (0, .ref (94)), (1, .int (x1))]) dX8_sheet_83 (by decide) rfl ?_
  refine J_sub [1, 2, 0] rfl ?_
  obtain ⟨z13, h14, h⟩ := br_b h
  refine jl_X8_sheet_85  FU _ _ h14 ?_
  intro zz e
  subst e
  refine J_aload_n dX8_sheet_111 rfl 0 rfl ?_
  refine J_getr (j := 7) (t := 107) (r := 99) rfl (by decide) (by decide) rfl (by decide) rfl rfl kf_X8_22 dX8_sheet_112 ?_
  refine J_iload_n dX8_sheet_115 rfl 1 rfl ?_
  obtain ⟨u16, h17, h⟩ := br_b h
  refine J_ialdM (m0 := 5) rfl rfl h17 dX8_sheet_116 ?_
  have h := Option.some.inj h
  subst h
  exact J_iret rfl rfl rfl (Kr _ _ rfl) dX8_sheet_117
def g_X8_sheet_36 (x1 : Int32) (x2 : Int32) (x3 : Int32) (M : aMm) : Option (Int32 × aMm) :=
  if 0 ≤ (x3 : Int32) then if (x3 : Int32) ≤ (30 : Int32) then (m_st M 4 x1 x2).bind fun M6 => if (x2 : Int32) = 0 then g_X8_sheet_81 (x1) ((0 : Int32)) (x1) M6 else g_X8_sheet_81 (x1) (x3) (x1) M6 else bd2 (f_X8_finding (-100001 : Int32) M) fun r20 M21 => some (r20, M21) else bd2 (f_X8_finding (-100003 : Int32) M) fun r24 M25 => some (r24, M25)
set_option maxRecDepth 100000 in
set_option maxHeartbeats 4000000 in
theorem jb_X8_sheet_36 {x1 : Int32} {x2 : Int32} {x3 : Int32} {M : aMm} {C : aSc}  {res : aRes} {r : Int32 × aMm} (h : g_X8_sheet_36 x1 x2 x3 M = some r) (Kr : ∀ (v : Int32) (S' : aMm), r = (v, S') → res = (some (.int v), (C, S'))) : J mi_X8_sheet res 0 0 36 [(0, .ref (94)), (1, .int (x1)), (2, .int (x2)), (3, .int (x3))] [] (C, M) := by
  rw [g_X8_sheet_36] at h
  refine J_iload_n dX8_sheet_36 rfl 3 rfl ?_
  refine J_if_ge 47 dX8_sheet_37 (by decide) (fun c26 => ?_) (fun c26 => ?_)
  · have h := br_p c26 h
    refine J_iload_n dX8_sheet_47 rfl 3 rfl ?_
    refine J_bipush 30 dX8_sheet_48 rfl ?_
    refine J_icmp_le 60 dX8_sheet_50 (by decide) (fun c22 => ?_) (fun c22 => ?_)
    · have h := br_p c22 h
      refine J_aload_n dX8_sheet_60 rfl 0 rfl ?_
      refine J_getr (j := 6) (t := 106) (r := 98) rfl (by decide) (by decide) rfl (by decide) rfl rfl kf_X8_19 dX8_sheet_61 ?_
      refine J_iload_n dX8_sheet_64 rfl 1 rfl ?_
      refine J_iload_n dX8_sheet_65 rfl 2 rfl ?_
      obtain ⟨M6, h7, h⟩ := br_b h
      refine J_iastM (m0 := 4) rfl rfl h7 dX8_sheet_66 ?_
      refine J_aload_n dX8_sheet_67 rfl 0 rfl ?_
      refine J_getr (j := 7) (t := 107) (r := 99) rfl (by decide) (by decide) rfl (by decide) rfl rfl kf_X8_22 dX8_sheet_68 ?_
      refine J_iload_n dX8_sheet_71 rfl 1 rfl ?_
      refine J_iload_n dX8_sheet_72 rfl 2 rfl ?_
      refine J_if_ne 80 dX8_sheet_73 (by decide) (fun c18 => ?_) (fun c18 => ?_)
      · have h := br_n c18 h
        refine J_iload_n dX8_sheet_80 rfl 3 rfl ?_
        refine J_sub [0, 1] rfl ?_
        exact jb_X8_sheet_81  h Kr
      · have h := br_p c18 h
        refine J_iconst 0 dX8_sheet_76 rfl ?_
        refine J_goto 81 dX8_sheet_77 (by decide) ?_
        refine J_sub [0, 1] rfl ?_
        exact jb_X8_sheet_81  h Kr
    · have h := br_n c22 h
      refine J_aload_n dX8_sheet_53 rfl 0 rfl ?_
      refine J_ldc (-100001) dX8_sheet_54 kc_X8_57 ?_
      obtain ⟨r20, M21, h19, h⟩ := br_b2 h
      refine J_callV (mj := mi_X8_finding) (as := [.int ((-100001 : Int32))]) (rest := []) (ct_X8_finding (C := C)  h19) ⟨rfl, rfl⟩ rfl rfl (by decide) rfl cg_X8_53 hd_X8_finding rfl ⟨Nat.le_of_ble_eq_true rfl, Nat.le_of_ble_eq_true rfl⟩ (Nat.le_of_ble_eq_true rfl) ⟨Nat.zero_le _, Nat.zero_le _⟩ dX8_sheet_56 ?_
      have h := Option.some.inj h
      subst h
      exact J_iret rfl rfl rfl (Kr _ _ rfl) dX8_sheet_59
  · have h := br_n c26 h
    refine J_aload_n dX8_sheet_40 rfl 0 rfl ?_
    refine J_ldc (-100003) dX8_sheet_41 kc_X8_147 ?_
    obtain ⟨r24, M25, h23, h⟩ := br_b2 h
    refine J_callV (mj := mi_X8_finding) (as := [.int ((-100003 : Int32))]) (rest := []) (ct_X8_finding (C := C)  h23) ⟨rfl, rfl⟩ rfl rfl (by decide) rfl cg_X8_53 hd_X8_finding rfl ⟨Nat.le_of_ble_eq_true rfl, Nat.le_of_ble_eq_true rfl⟩ (Nat.le_of_ble_eq_true rfl) ⟨Nat.zero_le _, Nat.zero_le _⟩ dX8_sheet_43 ?_
    have h := Option.some.inj h
    subst h
    exact J_iret rfl rfl rfl (Kr _ _ rfl) dX8_sheet_46
def f_X8_sheet (x1 : Int32) (x2 : Int32) (x3 : Int32) (M : aMm) : Option (Int32 × aMm) :=
  (f_X8_isSheet x1 M).bind fun r2 => if (r2 : Int32) = 0 then bd2 (f_X8_finding (-100001 : Int32) M) fun r4 M5 => some (r4, M5) else if (x2 : Int32) = 0 then g_X8_sheet_36 (x1) (x2) (x3) M else if (x2 : Int32) = (8 : Int32) then g_X8_sheet_36 (x1) (x2) (x3) M else if (x2 : Int32) = (16 : Int32) then g_X8_sheet_36 (x1) (x2) (x3) M else if (x2 : Int32) = (32 : Int32) then g_X8_sheet_36 (x1) (x2) (x3) M else bd2 (f_X8_finding (-100001 : Int32) M) fun r28 M29 => some (r28, M29)
set_option maxRecDepth 100000 in
set_option maxHeartbeats 4000000 in
theorem jm_X8_sheet {x1 : Int32} {x2 : Int32} {x3 : Int32} {C : aSc} {M : aMm}  {res : aRes} {r : Int32 × aMm} (h : f_X8_sheet x1 x2 x3 M = some r) (Kr : ∀ (v : Int32) (S' : aMm), r = (v, S') → res = (some (.int v), (C, S'))) : J mi_X8_sheet res 0 0 0 [(0, .ref (94)), (1, .int (x1)), (2, .int (x2)), (3, .int (x3))] [] (C, M) := by
  rw [f_X8_sheet] at h
  refine J_iload_n dX8_sheet_0 rfl 1 rfl ?_
  obtain ⟨r2, h1, h⟩ := br_b h
  refine J_callS (mj := mi_X8_isSheet) (as := [.int (x1)]) (rest := []) (ct_X8_isSheet (C := C)  h1) ⟨rfl, rfl⟩ rfl cg_X8_177 hd_X8_isSheet rfl ⟨Nat.le_of_ble_eq_true rfl, Nat.le_of_ble_eq_true rfl⟩ (Nat.le_of_ble_eq_true rfl) ⟨Nat.zero_le _, Nat.zero_le _⟩ dX8_sheet_1 ?_
  refine J_if_eq 29 dX8_sheet_4 (by decide) (fun c34 => ?_) (fun c34 => ?_)
  · have h := br_p c34 h
    refine J_aload_n dX8_sheet_29 rfl 0 rfl ?_
    refine J_ldc (-100001) dX8_sheet_30 kc_X8_57 ?_
    obtain ⟨r4, M5, h3, h⟩ := br_b2 h
    refine J_callV (mj := mi_X8_finding) (as := [.int ((-100001 : Int32))]) (rest := []) (ct_X8_finding (C := C)  h3) ⟨rfl, rfl⟩ rfl rfl (by decide) rfl cg_X8_53 hd_X8_finding rfl ⟨Nat.le_of_ble_eq_true rfl, Nat.le_of_ble_eq_true rfl⟩ (Nat.le_of_ble_eq_true rfl) ⟨Nat.zero_le _, Nat.zero_le _⟩ dX8_sheet_32 ?_
    have h := Option.some.inj h
    subst h
    exact J_iret rfl rfl rfl (Kr _ _ rfl) dX8_sheet_35
  · have h := br_n c34 h
    refine J_iload_n dX8_sheet_7 rfl 2 rfl ?_
    refine J_if_eq 36 dX8_sheet_8 (by decide) (fun c33 => ?_) (fun c33 => ?_)
    · have h := br_p c33 h
      exact jb_X8_sheet_36  h Kr
    · have h := br_n c33 h
      refine J_iload_n dX8_sheet_11 rfl 2 rfl ?_
      refine J_bipush 8 dX8_sheet_12 rfl ?_
      refine J_icmp_eq 36 dX8_sheet_14 (by decide) (fun c32 => ?_) (fun c32 => ?_)
      · have h := br_p c32 h
        exact jb_X8_sheet_36  h Kr
      · have h := br_n c32 h
        refine J_iload_n dX8_sheet_17 rfl 2 rfl ?_
        refine J_bipush 16 dX8_sheet_18 rfl ?_
        refine J_icmp_eq 36 dX8_sheet_20 (by decide) (fun c31 => ?_) (fun c31 => ?_)
        · have h := br_p c31 h
          exact jb_X8_sheet_36  h Kr
        · have h := br_n c31 h
          refine J_iload_n dX8_sheet_23 rfl 2 rfl ?_
          refine J_bipush 32 dX8_sheet_24 rfl ?_
          refine J_icmp_eq 36 dX8_sheet_26 (by decide) (fun c30 => ?_) (fun c30 => ?_)
          · have h := br_p c30 h
            exact jb_X8_sheet_36  h Kr
          · have h := br_n c30 h
            refine J_aload_n dX8_sheet_29 rfl 0 rfl ?_
            refine J_ldc (-100001) dX8_sheet_30 kc_X8_57 ?_
            obtain ⟨r28, M29, h27, h⟩ := br_b2 h
            refine J_callV (mj := mi_X8_finding) (as := [.int ((-100001 : Int32))]) (rest := []) (ct_X8_finding (C := C)  h27) ⟨rfl, rfl⟩ rfl rfl (by decide) rfl cg_X8_53 hd_X8_finding rfl ⟨Nat.le_of_ble_eq_true rfl, Nat.le_of_ble_eq_true rfl⟩ (Nat.le_of_ble_eq_true rfl) ⟨Nat.zero_le _, Nat.zero_le _⟩ dX8_sheet_32 ?_
            have h := Option.some.inj h
            subst h
            exact J_iret rfl rfl rfl (Kr _ _ rfl) dX8_sheet_35
theorem ct_X8_sheet {x1 : Int32} {x2 : Int32} {x3 : Int32} {C : aSc} {M : aMm} {v : Int32} {S' : aMm}  (h : f_X8_sheet x1 x2 x3 M = some (v, S')) : Ct mi_X8_sheet yX8_sheet [.ref (94), .int (x1), .int (x2), .int (x3)] (C, M) (some (.int v), (C, S')) := Ct_of_J (by decide +kernel) rfl (Nat.le_of_ble_eq_true rfl) (jm_X8_sheet  h (fun _ _ e => by cases e; rfl))
def mi_X8_put : aMi := (cX8_put, 5, RX8, (some .int), { frames := 2, cells := 0, slots := 0, locals := 42 })
def f_X8_put (x1 : Int32) (x2 : Int32) (x3 : Int32) (M : aMm) : Option (Int32 × aMm) :=
  (f_X8_isSheet x1 M).bind fun r2 => if (r2 : Int32) = 0 then bd2 (f_X8_finding (-100001 : Int32) M) fun r22 M23 => some (r22, M23) else (m_ld M 4 x1).bind fun u3 => if (u3 : Int32) = 0 then bd2 (f_X8_finding (-100002 : Int32) M) fun r18 M19 => some (r18, M19) else (m_ld M 5 x1).bind fun u5 => (f_X8_within x2 (0 : Int32) (u5 - (1 : Int32)) M).bind fun r8 => if (r8 : Int32) = 0 then bd2 (f_X8_finding (-100001 : Int32) M) fun r14 M15 => some (r14, M15) else (m_ld M 4 x1).bind fun u9 => (m_st M 6 (((30 : Int32) * x1) + x2) ((x3 <<< (((32 : Int32) - u9) &&& 31)) >>> (((32 : Int32) - u9) &&& 31))).bind fun M11 => some ((0 : Int32), M11)
set_option maxRecDepth 100000 in
set_option maxHeartbeats 4000000 in
theorem jm_X8_put {x1 : Int32} {x2 : Int32} {x3 : Int32} {C : aSc} {M : aMm}  {res : aRes} {r : Int32 × aMm} (h : f_X8_put x1 x2 x3 M = some r) (Kr : ∀ (v : Int32) (S' : aMm), r = (v, S') → res = (some (.int v), (C, S'))) : J mi_X8_put res 0 0 0 [(0, .ref (94)), (1, .int (x1)), (2, .int (x2)), (3, .int (x3))] [] (C, M) := by
  rw [f_X8_put] at h
  refine J_iload_n dX8_put_0 rfl 1 rfl ?_
  obtain ⟨r2, h1, h⟩ := br_b h
  refine J_callS (mj := mi_X8_isSheet) (as := [.int (x1)]) (rest := []) (ct_X8_isSheet (C := C)  h1) ⟨rfl, rfl⟩ rfl cg_X8_177 hd_X8_isSheet rfl ⟨Nat.le_of_ble_eq_true rfl, Nat.le_of_ble_eq_true rfl⟩ (Nat.le_of_ble_eq_true rfl) ⟨Nat.zero_le _, Nat.zero_le _⟩ dX8_put_1 ?_
  refine J_if_ne 14 dX8_put_4 (by decide) (fun c24 => ?_) (fun c24 => ?_)
  · have h := br_n c24 h
    refine J_aload_n dX8_put_14 rfl 0 rfl ?_
    refine J_getr (j := 6) (t := 106) (r := 98) rfl (by decide) (by decide) rfl (by decide) rfl rfl kf_X8_19 dX8_put_15 ?_
    refine J_iload_n dX8_put_18 rfl 1 rfl ?_
    obtain ⟨u3, h4, h⟩ := br_b h
    refine J_ialdM (m0 := 4) rfl rfl h4 dX8_put_19 ?_
    refine J_if_ne 30 dX8_put_20 (by decide) (fun c20 => ?_) (fun c20 => ?_)
    · have h := br_n c20 h
      refine J_iload_n dX8_put_30 rfl 2 rfl ?_
      refine J_iconst 0 dX8_put_31 rfl ?_
      refine J_aload_n dX8_put_32 rfl 0 rfl ?_
      refine J_getr (j := 7) (t := 107) (r := 99) rfl (by decide) (by decide) rfl (by decide) rfl rfl kf_X8_22 dX8_put_33 ?_
      refine J_iload_n dX8_put_36 rfl 1 rfl ?_
      obtain ⟨u5, h6, h⟩ := br_b h
      refine J_ialdM (m0 := 5) rfl rfl h6 dX8_put_37 ?_
      refine J_iconst 1 dX8_put_38 rfl ?_
      refine J_isub dX8_put_39 ?_
      obtain ⟨r8, h7, h⟩ := br_b h
      refine J_callS (mj := mi_X8_within) (as := [.int (x2), .int ((0 : Int32)), .int ((u5 - (1 : Int32)))]) (rest := []) (ct_X8_within (C := C)  h7) ⟨rfl, rfl⟩ rfl cg_X8_41 hd_X8_within rfl ⟨Nat.le_of_ble_eq_true rfl, Nat.le_of_ble_eq_true rfl⟩ (Nat.le_of_ble_eq_true rfl) ⟨Nat.zero_le _, Nat.zero_le _⟩ dX8_put_40 ?_
      refine J_if_ne 53 dX8_put_43 (by decide) (fun c16 => ?_) (fun c16 => ?_)
      · have h := br_n c16 h
        refine J_bipush 32 dX8_put_53 rfl ?_
        refine J_aload_n dX8_put_55 rfl 0 rfl ?_
        refine J_getr (j := 6) (t := 106) (r := 98) rfl (by decide) (by decide) rfl (by decide) rfl rfl kf_X8_19 dX8_put_56 ?_
        refine J_iload_n dX8_put_59 rfl 1 rfl ?_
        obtain ⟨u9, h10, h⟩ := br_b h
        refine J_ialdM (m0 := 4) rfl rfl h10 dX8_put_60 ?_
        refine J_isub dX8_put_61 ?_
        refine J_istore (L' := [(4, .int (((32 : Int32) - u9))), (0, .ref (94)), (1, .int (x1)), (2, .int (x2)), (3, .int (x3))]) dX8_put_62 (by decide) rfl ?_
        refine J_aload_n dX8_put_64 rfl 1 rfl ?_
        refine J_getr (j := 8) (t := 108) (r := 100) rfl (by decide) (by decide) rfl (by decide) rfl rfl kf_X8_25 dX8_put_65 ?_
        refine J_bipush 30 dX8_put_68 rfl ?_
        refine J_iload_n dX8_put_70 rfl 2 rfl ?_
        refine J_imul dX8_put_71 ?_
        refine J_iload_n dX8_put_72 rfl 3 rfl ?_
        refine J_iadd dX8_put_73 ?_
        refine J_iload_n dX8_put_74 rfl 4 rfl ?_
        refine J_iload dX8_put_75 0 rfl ?_
        refine J_ishl dX8_put_77 ?_
        refine J_iload dX8_put_78 0 rfl ?_
        refine J_ishr dX8_put_80 ?_
        obtain ⟨M11, h12, h⟩ := br_b h
        refine J_iastM (m0 := 6) rfl rfl h12 dX8_put_81 ?_
        refine J_iconst 0 dX8_put_82 rfl ?_
        have h := Option.some.inj h
        subst h
        exact J_iret rfl rfl rfl (Kr _ _ rfl) dX8_put_83
      · have h := br_p c16 h
        refine J_aload_n dX8_put_46 rfl 0 rfl ?_
        refine J_ldc (-100001) dX8_put_47 kc_X8_57 ?_
        obtain ⟨r14, M15, h13, h⟩ := br_b2 h
        refine J_callV (mj := mi_X8_finding) (as := [.int ((-100001 : Int32))]) (rest := []) (ct_X8_finding (C := C)  h13) ⟨rfl, rfl⟩ rfl rfl (by decide) rfl cg_X8_53 hd_X8_finding rfl ⟨Nat.le_of_ble_eq_true rfl, Nat.le_of_ble_eq_true rfl⟩ (Nat.le_of_ble_eq_true rfl) ⟨Nat.zero_le _, Nat.zero_le _⟩ dX8_put_49 ?_
        have h := Option.some.inj h
        subst h
        exact J_iret rfl rfl rfl (Kr _ _ rfl) dX8_put_52
    · have h := br_p c20 h
      refine J_aload_n dX8_put_23 rfl 0 rfl ?_
      refine J_ldc (-100002) dX8_put_24 kc_X8_180 ?_
      obtain ⟨r18, M19, h17, h⟩ := br_b2 h
      refine J_callV (mj := mi_X8_finding) (as := [.int ((-100002 : Int32))]) (rest := []) (ct_X8_finding (C := C)  h17) ⟨rfl, rfl⟩ rfl rfl (by decide) rfl cg_X8_53 hd_X8_finding rfl ⟨Nat.le_of_ble_eq_true rfl, Nat.le_of_ble_eq_true rfl⟩ (Nat.le_of_ble_eq_true rfl) ⟨Nat.zero_le _, Nat.zero_le _⟩ dX8_put_26 ?_
      have h := Option.some.inj h
      subst h
      exact J_iret rfl rfl rfl (Kr _ _ rfl) dX8_put_29
  · have h := br_p c24 h
    refine J_aload_n dX8_put_7 rfl 0 rfl ?_
    refine J_ldc (-100001) dX8_put_8 kc_X8_57 ?_
    obtain ⟨r22, M23, h21, h⟩ := br_b2 h
    refine J_callV (mj := mi_X8_finding) (as := [.int ((-100001 : Int32))]) (rest := []) (ct_X8_finding (C := C)  h21) ⟨rfl, rfl⟩ rfl rfl (by decide) rfl cg_X8_53 hd_X8_finding rfl ⟨Nat.le_of_ble_eq_true rfl, Nat.le_of_ble_eq_true rfl⟩ (Nat.le_of_ble_eq_true rfl) ⟨Nat.zero_le _, Nat.zero_le _⟩ dX8_put_10 ?_
    have h := Option.some.inj h
    subst h
    exact J_iret rfl rfl rfl (Kr _ _ rfl) dX8_put_13
theorem ct_X8_put {x1 : Int32} {x2 : Int32} {x3 : Int32} {C : aSc} {M : aMm} {v : Int32} {S' : aMm}  (h : f_X8_put x1 x2 x3 M = some (v, S')) : Ct mi_X8_put yX8_put [.ref (94), .int (x1), .int (x2), .int (x3)] (C, M) (some (.int v), (C, S')) := Ct_of_J (by decide +kernel) rfl (Nat.le_of_ble_eq_true rfl) (jm_X8_put  h (fun _ _ e => by cases e; rfl))
def mi_X8_copy : aMi := (cX8_copy, 7, RX8, (some .int), { frames := 2, cells := 0, slots := 0, locals := 42 })
def b_X8_copy_127 (x1 : Int32) (x2 : Int32) (x3 : Int32) (x4 : Int32) (x5 : Int32) (x6 : Int32) (M : aMm) : Option ((Int32 × aMm) ⊕ (aMm)) :=
  if (x5 : Int32) ≤ x6 then some (.inr M) else (m_ld M 6 ((((30 : Int32) * x1) + x2) + x6)).bind fun u35 => (m_st M 9 x6 u35).bind fun M37 => some (.inl ((x6 + (1 : Int32)), M37))
set_option maxRecDepth 100000 in
set_option maxHeartbeats 4000000 in
theorem jl_X8_copy_127 {x1 : Int32} {x2 : Int32} {x3 : Int32} {x4 : Int32} {x5 : Int32} {C : aSc}  {res : aRes} {r : aMm} : ∀ (n : Nat) (x6 : Int32) (M : aMm), lpf (fun a : Int32 × aMm => b_X8_copy_127 (x1) (x2) (x3) (x4) (x5) a.1 a.2) n (x6, M) = some r → (∀ (S2 : aMm), r = S2 → J mi_X8_copy res 0 0 161 [(0, .ref (94)), (3, .int (x3)), (4, .int (x4)), (5, .int (x5))] [] (C, S2)) → J mi_X8_copy res 0 0 127 [(0, .ref (94)), (1, .int (x1)), (2, .int (x2)), (3, .int (x3)), (4, .int (x4)), (5, .int (x5)), (6, .int (x6))] [] (C, M) := by
  intro n
  induction n with
  | zero =>
    intro x6 M h
    cases h
  | succ n ih =>
    intro x6 M h Kx
    obtain ⟨r0, h, h2⟩ := br_b h
    have h : b_X8_copy_127 x1 x2 x3 x4 x5 x6 M = some r0 := h
    rw [b_X8_copy_127] at h
    refine J_iload dX8_copy_127 6 rfl ?_
    refine J_iload dX8_copy_129 5 rfl ?_
    refine J_icmp_ge 161 dX8_copy_131 (by decide) (fun c39 => ?_) (fun c39 => ?_)
    · have h := br_p c39 h
      have h := Option.some.inj h
      subst h
      have h2 := Option.some.inj h2
      subst h2
      refine J_sub [0, 3, 4, 5] rfl ?_
      exact Kx _ rfl
    · have h := br_n c39 h
      refine J_aload_n dX8_copy_134 rfl 0 rfl ?_
      refine J_getr (j := 18) (t := 111) (r := 103) rfl (by decide) (by decide) rfl (by decide) rfl rfl kf_X8_34 dX8_copy_135 ?_
      refine J_iload dX8_copy_138 6 rfl ?_
      refine J_aload_n dX8_copy_140 rfl 0 rfl ?_
      refine J_getr (j := 8) (t := 108) (r := 100) rfl (by decide) (by decide) rfl (by decide) rfl rfl kf_X8_25 dX8_copy_141 ?_
      refine J_bipush 30 dX8_copy_144 rfl ?_
      refine J_iload_n dX8_copy_146 rfl 1 rfl ?_
      refine J_imul dX8_copy_147 ?_
      refine J_iload_n dX8_copy_148 rfl 2 rfl ?_
      refine J_iadd dX8_copy_149 ?_
      refine J_iload dX8_copy_150 6 rfl ?_
      refine J_iadd dX8_copy_152 ?_
      obtain ⟨u35, h36, h⟩ := br_b h
      refine J_ialdM (m0 := 6) rfl rfl h36 dX8_copy_153 ?_
      obtain ⟨M37, h38, h⟩ := br_b h
      refine J_iastM (m0 := 9) rfl rfl h38 dX8_copy_154 ?_
      refine J_iinc (j := 6) (v := (x6 + (1 : Int32))) (L' := [(6, .int ((x6 + (1 : Int32)))), (0, .ref (94)), (1, .int (x1)), (2, .int (x2)), (3, .int (x3)), (4, .int (x4)), (5, .int (x5))]) dX8_copy_155 rfl rfl (by decide) rfl ?_
      refine J_goto 127 dX8_copy_158 (by decide) ?_
      have h := Option.some.inj h
      subst h
      refine J_sub [1, 2, 3, 4, 5, 6, 0] rfl ?_
      exact ih _ _ h2 Kx
def b_X8_copy_164 (x3 : Int32) (x4 : Int32) (x5 : Int32) (x6 : Int32) (M : aMm) : Option ((Int32 × aMm) ⊕ (aMm)) :=
  if (x5 : Int32) ≤ x6 then some (.inr M) else (m_ld M 9 x6).bind fun u43 => (m_st M 6 ((((30 : Int32) * x3) + x4) + x6) u43).bind fun M45 => some (.inl ((x6 + (1 : Int32)), M45))
set_option maxRecDepth 100000 in
set_option maxHeartbeats 4000000 in
theorem jl_X8_copy_164 {x3 : Int32} {x4 : Int32} {x5 : Int32} {C : aSc}  {res : aRes} {r : aMm} : ∀ (n : Nat) (x6 : Int32) (M : aMm), lpf (fun a : Int32 × aMm => b_X8_copy_164 (x3) (x4) (x5) a.1 a.2) n (x6, M) = some r → (∀ (S2 : aMm), r = S2 → J mi_X8_copy res 0 0 199 [(5, .int (x5))] [] (C, S2)) → J mi_X8_copy res 0 0 164 [(0, .ref (94)), (3, .int (x3)), (4, .int (x4)), (5, .int (x5)), (6, .int (x6))] [] (C, M) := by
  intro n
  induction n with
  | zero =>
    intro x6 M h
    cases h
  | succ n ih =>
    intro x6 M h Kx
    obtain ⟨r0, h, h2⟩ := br_b h
    have h : b_X8_copy_164 x3 x4 x5 x6 M = some r0 := h
    rw [b_X8_copy_164] at h
    refine J_iload dX8_copy_164 4 rfl ?_
    refine J_iload dX8_copy_166 3 rfl ?_
    refine J_icmp_ge 199 dX8_copy_168 (by decide) (fun c47 => ?_) (fun c47 => ?_)
    · have h := br_p c47 h
      have h := Option.some.inj h
      subst h
      have h2 := Option.some.inj h2
      subst h2
      refine J_sub [3] rfl ?_
      exact Kx _ rfl
    · have h := br_n c47 h
      refine J_aload_n dX8_copy_171 rfl 0 rfl ?_
      refine J_getr (j := 8) (t := 108) (r := 100) rfl (by decide) (by decide) rfl (by decide) rfl rfl kf_X8_25 dX8_copy_172 ?_
      refine J_bipush 30 dX8_copy_175 rfl ?_
      refine J_iload_n dX8_copy_177 rfl 1 rfl ?_
      refine J_imul dX8_copy_178 ?_
      refine J_iload dX8_copy_179 2 rfl ?_
      refine J_iadd dX8_copy_181 ?_
      refine J_iload dX8_copy_182 4 rfl ?_
      refine J_iadd dX8_copy_184 ?_
      refine J_aload_n dX8_copy_185 rfl 0 rfl ?_
      refine J_getr (j := 18) (t := 111) (r := 103) rfl (by decide) (by decide) rfl (by decide) rfl rfl kf_X8_34 dX8_copy_186 ?_
      refine J_iload dX8_copy_189 4 rfl ?_
      obtain ⟨u43, h44, h⟩ := br_b h
      refine J_ialdM (m0 := 9) rfl rfl h44 dX8_copy_191 ?_
      obtain ⟨M45, h46, h⟩ := br_b h
      refine J_iastM (m0 := 6) rfl rfl h46 dX8_copy_192 ?_
      refine J_iinc (j := 4) (v := (x6 + (1 : Int32))) (L' := [(6, .int ((x6 + (1 : Int32)))), (0, .ref (94)), (3, .int (x3)), (4, .int (x4)), (5, .int (x5))]) dX8_copy_193 rfl rfl (by decide) rfl ?_
      refine J_goto 164 dX8_copy_196 (by decide) ?_
      have h := Option.some.inj h
      subst h
      refine J_sub [1, 2, 3, 4, 0] rfl ?_
      exact ih _ _ h2 Kx
def f_X8_copy (x1 : Int32) (x2 : Int32) (x3 : Int32) (x4 : Int32) (x5 : Int32) (M : aMm) : Option (Int32 × aMm) :=
  (f_X8_isSheet x1 M).bind fun r2 => if (r2 : Int32) = 0 then bd2 (f_X8_finding (-100001 : Int32) M) fun r4 M5 => some (r4, M5) else (f_X8_isSheet x3 M).bind fun r7 => if (r7 : Int32) = 0 then bd2 (f_X8_finding (-100001 : Int32) M) fun r69 M70 => some (r69, M70) else (m_ld M 4 x1).bind fun u8 => if (u8 : Int32) = 0 then bd2 (f_X8_finding (-100002 : Int32) M) fun r11 M12 => some (r11, M12) else (m_ld M 4 x3).bind fun u13 => if (u13 : Int32) = 0 then bd2 (f_X8_finding (-100002 : Int32) M) fun r64 M65 => some (r64, M65) else (m_ld M 4 x1).bind fun u15 => (m_ld M 4 x3).bind fun u17 => if (u15 : Int32) = u17 then if (x2 : Int32) < 0 then bd2 (f_X8_finding (-100001 : Int32) M) fun r20 M21 => some (r20, M21) else if (x4 : Int32) < 0 then bd2 (f_X8_finding (-100001 : Int32) M) fun r23 M24 => some (r23, M24) else if (x5 : Int32) < 0 then bd2 (f_X8_finding (-100001 : Int32) M) fun r26 M27 => some (r26, M27) else (m_ld M 5 x1).bind fun u28 => if 0 < ((lg_cmp ((x2 : Int32).toInt64 + (x5 : Int32).toInt64) ((u28 : Int32).toInt64)) : Int32) then bd2 (f_X8_finding (-100001 : Int32) M) fun r31 M32 => some (r31, M32) else (m_ld M 5 x3).bind fun u33 => if ((lg_cmp ((x4 : Int32).toInt64 + (x5 : Int32).toInt64) ((u33 : Int32).toInt64)) : Int32) ≤ 0 then (lpf (fun a : Int32 × aMm => b_X8_copy_127 (x1) (x2) (x3) (x4) (x5) a.1 a.2) FU ((0 : Int32), M)).bind fun z40 => (lpf (fun a : Int32 × aMm => b_X8_copy_164 (x3) (x4) (x5) a.1 a.2) FU ((0 : Int32), z40)).bind fun z48 => some (x5, z48) else bd2 (f_X8_finding (-100001 : Int32) M) fun r52 M53 => some (r52, M53) else bd2 (f_X8_finding (-100004 : Int32) M) fun r60 M61 => some (r60, M61)
set_option maxRecDepth 100000 in
set_option maxHeartbeats 4000000 in
theorem jm_X8_copy {x1 : Int32} {x2 : Int32} {x3 : Int32} {x4 : Int32} {x5 : Int32} {C : aSc} {M : aMm}  {res : aRes} {r : Int32 × aMm} (h : f_X8_copy x1 x2 x3 x4 x5 M = some r) (Kr : ∀ (v : Int32) (S' : aMm), r = (v, S') → res = (some (.int v), (C, S'))) : J mi_X8_copy res 0 0 0 [(0, .ref (94)), (1, .int (x1)), (2, .int (x2)), (3, .int (x3)), (4, .int (x4)), (5, .int (x5))] [] (C, M) := by
  rw [f_X8_copy] at h
  refine J_iload_n dX8_copy_0 rfl 1 rfl ?_
  obtain ⟨r2, h1, h⟩ := br_b h
  refine J_callS (mj := mi_X8_isSheet) (as := [.int (x1)]) (rest := []) (ct_X8_isSheet (C := C)  h1) ⟨rfl, rfl⟩ rfl cg_X8_177 hd_X8_isSheet rfl ⟨Nat.le_of_ble_eq_true rfl, Nat.le_of_ble_eq_true rfl⟩ (Nat.le_of_ble_eq_true rfl) ⟨Nat.zero_le _, Nat.zero_le _⟩ dX8_copy_1 ?_
  refine J_if_eq 14 dX8_copy_4 (by decide) (fun c72 => ?_) (fun c72 => ?_)
  · have h := br_p c72 h
    refine J_aload_n dX8_copy_14 rfl 0 rfl ?_
    refine J_ldc (-100001) dX8_copy_15 kc_X8_57 ?_
    obtain ⟨r4, M5, h3, h⟩ := br_b2 h
    refine J_callV (mj := mi_X8_finding) (as := [.int ((-100001 : Int32))]) (rest := []) (ct_X8_finding (C := C)  h3) ⟨rfl, rfl⟩ rfl rfl (by decide) rfl cg_X8_53 hd_X8_finding rfl ⟨Nat.le_of_ble_eq_true rfl, Nat.le_of_ble_eq_true rfl⟩ (Nat.le_of_ble_eq_true rfl) ⟨Nat.zero_le _, Nat.zero_le _⟩ dX8_copy_17 ?_
    have h := Option.some.inj h
    subst h
    exact J_iret rfl rfl rfl (Kr _ _ rfl) dX8_copy_20
  · have h := br_n c72 h
    refine J_iload_n dX8_copy_7 rfl 3 rfl ?_
    obtain ⟨r7, h6, h⟩ := br_b h
    refine J_callS (mj := mi_X8_isSheet) (as := [.int (x3)]) (rest := []) (ct_X8_isSheet (C := C)  h6) ⟨rfl, rfl⟩ rfl cg_X8_177 hd_X8_isSheet rfl ⟨Nat.le_of_ble_eq_true rfl, Nat.le_of_ble_eq_true rfl⟩ (Nat.le_of_ble_eq_true rfl) ⟨Nat.zero_le _, Nat.zero_le _⟩ dX8_copy_8 ?_
    refine J_if_ne 21 dX8_copy_11 (by decide) (fun c71 => ?_) (fun c71 => ?_)
    · have h := br_n c71 h
      refine J_aload_n dX8_copy_21 rfl 0 rfl ?_
      refine J_getr (j := 6) (t := 106) (r := 98) rfl (by decide) (by decide) rfl (by decide) rfl rfl kf_X8_19 dX8_copy_22 ?_
      refine J_iload_n dX8_copy_25 rfl 1 rfl ?_
      obtain ⟨u8, h9, h⟩ := br_b h
      refine J_ialdM (m0 := 4) rfl rfl h9 dX8_copy_26 ?_
      refine J_if_eq 39 dX8_copy_27 (by decide) (fun c67 => ?_) (fun c67 => ?_)
      · have h := br_p c67 h
        refine J_aload_n dX8_copy_39 rfl 0 rfl ?_
        refine J_ldc (-100002) dX8_copy_40 kc_X8_180 ?_
        obtain ⟨r11, M12, h10, h⟩ := br_b2 h
        refine J_callV (mj := mi_X8_finding) (as := [.int ((-100002 : Int32))]) (rest := []) (ct_X8_finding (C := C)  h10) ⟨rfl, rfl⟩ rfl rfl (by decide) rfl cg_X8_53 hd_X8_finding rfl ⟨Nat.le_of_ble_eq_true rfl, Nat.le_of_ble_eq_true rfl⟩ (Nat.le_of_ble_eq_true rfl) ⟨Nat.zero_le _, Nat.zero_le _⟩ dX8_copy_42 ?_
        have h := Option.some.inj h
        subst h
        exact J_iret rfl rfl rfl (Kr _ _ rfl) dX8_copy_45
      · have h := br_n c67 h
        refine J_aload_n dX8_copy_30 rfl 0 rfl ?_
        refine J_getr (j := 6) (t := 106) (r := 98) rfl (by decide) (by decide) rfl (by decide) rfl rfl kf_X8_19 dX8_copy_31 ?_
        refine J_iload_n dX8_copy_34 rfl 3 rfl ?_
        obtain ⟨u13, h14, h⟩ := br_b h
        refine J_ialdM (m0 := 4) rfl rfl h14 dX8_copy_35 ?_
        refine J_if_ne 46 dX8_copy_36 (by decide) (fun c66 => ?_) (fun c66 => ?_)
        · have h := br_n c66 h
          refine J_aload_n dX8_copy_46 rfl 0 rfl ?_
          refine J_getr (j := 6) (t := 106) (r := 98) rfl (by decide) (by decide) rfl (by decide) rfl rfl kf_X8_19 dX8_copy_47 ?_
          refine J_iload_n dX8_copy_50 rfl 1 rfl ?_
          obtain ⟨u15, h16, h⟩ := br_b h
          refine J_ialdM (m0 := 4) rfl rfl h16 dX8_copy_51 ?_
          refine J_aload_n dX8_copy_52 rfl 0 rfl ?_
          refine J_getr (j := 6) (t := 106) (r := 98) rfl (by decide) (by decide) rfl (by decide) rfl rfl kf_X8_19 dX8_copy_53 ?_
          refine J_iload_n dX8_copy_56 rfl 3 rfl ?_
          obtain ⟨u17, h18, h⟩ := br_b h
          refine J_ialdM (m0 := 4) rfl rfl h18 dX8_copy_57 ?_
          refine J_icmp_eq 68 dX8_copy_58 (by decide) (fun c62 => ?_) (fun c62 => ?_)
          · have h := br_p c62 h
            refine J_iload_n dX8_copy_68 rfl 2 rfl ?_
            refine J_if_lt 117 dX8_copy_69 (by decide) (fun c58 => ?_) (fun c58 => ?_)
            · have h := br_p c58 h
              refine J_aload_n dX8_copy_117 rfl 0 rfl ?_
              refine J_ldc (-100001) dX8_copy_118 kc_X8_57 ?_
              obtain ⟨r20, M21, h19, h⟩ := br_b2 h
              refine J_callV (mj := mi_X8_finding) (as := [.int ((-100001 : Int32))]) (rest := []) (ct_X8_finding (C := C)  h19) ⟨rfl, rfl⟩ rfl rfl (by decide) rfl cg_X8_53 hd_X8_finding rfl ⟨Nat.le_of_ble_eq_true rfl, Nat.le_of_ble_eq_true rfl⟩ (Nat.le_of_ble_eq_true rfl) ⟨Nat.zero_le _, Nat.zero_le _⟩ dX8_copy_120 ?_
              have h := Option.some.inj h
              subst h
              exact J_iret rfl rfl rfl (Kr _ _ rfl) dX8_copy_123
            · have h := br_n c58 h
              refine J_iload dX8_copy_72 4 rfl ?_
              refine J_if_lt 117 dX8_copy_74 (by decide) (fun c57 => ?_) (fun c57 => ?_)
              · have h := br_p c57 h
                refine J_aload_n dX8_copy_117 rfl 0 rfl ?_
                refine J_ldc (-100001) dX8_copy_118 kc_X8_57 ?_
                obtain ⟨r23, M24, h22, h⟩ := br_b2 h
                refine J_callV (mj := mi_X8_finding) (as := [.int ((-100001 : Int32))]) (rest := []) (ct_X8_finding (C := C)  h22) ⟨rfl, rfl⟩ rfl rfl (by decide) rfl cg_X8_53 hd_X8_finding rfl ⟨Nat.le_of_ble_eq_true rfl, Nat.le_of_ble_eq_true rfl⟩ (Nat.le_of_ble_eq_true rfl) ⟨Nat.zero_le _, Nat.zero_le _⟩ dX8_copy_120 ?_
                have h := Option.some.inj h
                subst h
                exact J_iret rfl rfl rfl (Kr _ _ rfl) dX8_copy_123
              · have h := br_n c57 h
                refine J_iload dX8_copy_77 5 rfl ?_
                refine J_if_lt 117 dX8_copy_79 (by decide) (fun c56 => ?_) (fun c56 => ?_)
                · have h := br_p c56 h
                  refine J_aload_n dX8_copy_117 rfl 0 rfl ?_
                  refine J_ldc (-100001) dX8_copy_118 kc_X8_57 ?_
                  obtain ⟨r26, M27, h25, h⟩ := br_b2 h
                  refine J_callV (mj := mi_X8_finding) (as := [.int ((-100001 : Int32))]) (rest := []) (ct_X8_finding (C := C)  h25) ⟨rfl, rfl⟩ rfl rfl (by decide) rfl cg_X8_53 hd_X8_finding rfl ⟨Nat.le_of_ble_eq_true rfl, Nat.le_of_ble_eq_true rfl⟩ (Nat.le_of_ble_eq_true rfl) ⟨Nat.zero_le _, Nat.zero_le _⟩ dX8_copy_120 ?_
                  have h := Option.some.inj h
                  subst h
                  exact J_iret rfl rfl rfl (Kr _ _ rfl) dX8_copy_123
                · have h := br_n c56 h
                  refine J_iload_n dX8_copy_82 rfl 2 rfl ?_
                  refine J_i2l dX8_copy_83 ?_
                  refine J_iload dX8_copy_84 5 rfl ?_
                  refine J_i2l dX8_copy_86 ?_
                  refine J_ladd dX8_copy_87 ?_
                  refine J_aload_n dX8_copy_88 rfl 0 rfl ?_
                  refine J_getr (j := 7) (t := 107) (r := 99) rfl (by decide) (by decide) rfl (by decide) rfl rfl kf_X8_22 dX8_copy_89 ?_
                  refine J_iload_n dX8_copy_92 rfl 1 rfl ?_
                  obtain ⟨u28, h29, h⟩ := br_b h
                  refine J_ialdM (m0 := 5) rfl rfl h29 dX8_copy_93 ?_
                  refine J_i2l dX8_copy_94 ?_
                  refine J_lcmp dX8_copy_95 ?_
                  refine J_if_gt 117 dX8_copy_96 (by decide) (fun c55 => ?_) (fun c55 => ?_)
                  · have h := br_p c55 h
                    refine J_aload_n dX8_copy_117 rfl 0 rfl ?_
                    refine J_ldc (-100001) dX8_copy_118 kc_X8_57 ?_
                    obtain ⟨r31, M32, h30, h⟩ := br_b2 h
                    refine J_callV (mj := mi_X8_finding) (as := [.int ((-100001 : Int32))]) (rest := []) (ct_X8_finding (C := C)  h30) ⟨rfl, rfl⟩ rfl rfl (by decide) rfl cg_X8_53 hd_X8_finding rfl ⟨Nat.le_of_ble_eq_true rfl, Nat.le_of_ble_eq_true rfl⟩ (Nat.le_of_ble_eq_true rfl) ⟨Nat.zero_le _, Nat.zero_le _⟩ dX8_copy_120 ?_
                    have h := Option.some.inj h
                    subst h
                    exact J_iret rfl rfl rfl (Kr _ _ rfl) dX8_copy_123
                  · have h := br_n c55 h
                    refine J_iload dX8_copy_99 4 rfl ?_
                    refine J_i2l dX8_copy_101 ?_
                    refine J_iload dX8_copy_102 5 rfl ?_
                    refine J_i2l dX8_copy_104 ?_
                    refine J_ladd dX8_copy_105 ?_
                    refine J_aload_n dX8_copy_106 rfl 0 rfl ?_
                    refine J_getr (j := 7) (t := 107) (r := 99) rfl (by decide) (by decide) rfl (by decide) rfl rfl kf_X8_22 dX8_copy_107 ?_
                    refine J_iload_n dX8_copy_110 rfl 3 rfl ?_
                    obtain ⟨u33, h34, h⟩ := br_b h
                    refine J_ialdM (m0 := 5) rfl rfl h34 dX8_copy_111 ?_
                    refine J_i2l dX8_copy_112 ?_
                    refine J_lcmp dX8_copy_113 ?_
                    refine J_if_le 124 dX8_copy_114 (by decide) (fun c54 => ?_) (fun c54 => ?_)
                    · have h := br_p c54 h
                      refine J_iconst 0 dX8_copy_124 rfl ?_
                      refine J_istore (L' := [(6, .int ((0 : Int32))), (0, .ref (94)), (1, .int (x1)), (2, .int (x2)), (3, .int (x3)), (4, .int (x4)), (5, .int (x5))]) dX8_copy_125 (by decide) rfl ?_
                      refine J_sub [1, 2, 3, 4, 5, 6, 0] rfl ?_
                      obtain ⟨z40, h41, h⟩ := br_b h
                      refine jl_X8_copy_127  FU _ _ h41 ?_
                      intro zz e
                      subst e
                      refine J_iconst 0 dX8_copy_161 rfl ?_
                      refine J_istore (L' := [(6, .int ((0 : Int32))), (0, .ref (94)), (3, .int (x3)), (4, .int (x4)), (5, .int (x5))]) dX8_copy_162 (by decide) rfl ?_
                      refine J_sub [1, 2, 3, 4, 0] rfl ?_
                      obtain ⟨z48, h49, h⟩ := br_b h
                      refine jl_X8_copy_164  FU _ _ h49 ?_
                      intro zz e
                      subst e
                      refine J_iload dX8_copy_199 0 rfl ?_
                      have h := Option.some.inj h
                      subst h
                      exact J_iret rfl rfl rfl (Kr _ _ rfl) dX8_copy_201
                    · have h := br_n c54 h
                      refine J_aload_n dX8_copy_117 rfl 0 rfl ?_
                      refine J_ldc (-100001) dX8_copy_118 kc_X8_57 ?_
                      obtain ⟨r52, M53, h51, h⟩ := br_b2 h
                      refine J_callV (mj := mi_X8_finding) (as := [.int ((-100001 : Int32))]) (rest := []) (ct_X8_finding (C := C)  h51) ⟨rfl, rfl⟩ rfl rfl (by decide) rfl cg_X8_53 hd_X8_finding rfl ⟨Nat.le_of_ble_eq_true rfl, Nat.le_of_ble_eq_true rfl⟩ (Nat.le_of_ble_eq_true rfl) ⟨Nat.zero_le _, Nat.zero_le _⟩ dX8_copy_120 ?_
                      have h := Option.some.inj h
                      subst h
                      exact J_iret rfl rfl rfl (Kr _ _ rfl) dX8_copy_123
          · have h := br_n c62 h
            refine J_aload_n dX8_copy_61 rfl 0 rfl ?_
            refine J_ldc (-100004) dX8_copy_62 kc_X8_123 ?_
            obtain ⟨r60, M61, h59, h⟩ := br_b2 h
            refine J_callV (mj := mi_X8_finding) (as := [.int ((-100004 : Int32))]) (rest := []) (ct_X8_finding (C := C)  h59) ⟨rfl, rfl⟩ rfl rfl (by decide) rfl cg_X8_53 hd_X8_finding rfl ⟨Nat.le_of_ble_eq_true rfl, Nat.le_of_ble_eq_true rfl⟩ (Nat.le_of_ble_eq_true rfl) ⟨Nat.zero_le _, Nat.zero_le _⟩ dX8_copy_64 ?_
            have h := Option.some.inj h
            subst h
            exact J_iret rfl rfl rfl (Kr _ _ rfl) dX8_copy_67
        · have h := br_p c66 h
          refine J_aload_n dX8_copy_39 rfl 0 rfl ?_
          refine J_ldc (-100002) dX8_copy_40 kc_X8_180 ?_
          obtain ⟨r64, M65, h63, h⟩ := br_b2 h
          refine J_callV (mj := mi_X8_finding) (as := [.int ((-100002 : Int32))]) (rest := []) (ct_X8_finding (C := C)  h63) ⟨rfl, rfl⟩ rfl rfl (by decide) rfl cg_X8_53 hd_X8_finding rfl ⟨Nat.le_of_ble_eq_true rfl, Nat.le_of_ble_eq_true rfl⟩ (Nat.le_of_ble_eq_true rfl) ⟨Nat.zero_le _, Nat.zero_le _⟩ dX8_copy_42 ?_
          have h := Option.some.inj h
          subst h
          exact J_iret rfl rfl rfl (Kr _ _ rfl) dX8_copy_45
    · have h := br_p c71 h
      refine J_aload_n dX8_copy_14 rfl 0 rfl ?_
      refine J_ldc (-100001) dX8_copy_15 kc_X8_57 ?_
      obtain ⟨r69, M70, h68, h⟩ := br_b2 h
      refine J_callV (mj := mi_X8_finding) (as := [.int ((-100001 : Int32))]) (rest := []) (ct_X8_finding (C := C)  h68) ⟨rfl, rfl⟩ rfl rfl (by decide) rfl cg_X8_53 hd_X8_finding rfl ⟨Nat.le_of_ble_eq_true rfl, Nat.le_of_ble_eq_true rfl⟩ (Nat.le_of_ble_eq_true rfl) ⟨Nat.zero_le _, Nat.zero_le _⟩ dX8_copy_17 ?_
      have h := Option.some.inj h
      subst h
      exact J_iret rfl rfl rfl (Kr _ _ rfl) dX8_copy_20
theorem ct_X8_copy {x1 : Int32} {x2 : Int32} {x3 : Int32} {x4 : Int32} {x5 : Int32} {C : aSc} {M : aMm} {v : Int32} {S' : aMm}  (h : f_X8_copy x1 x2 x3 x4 x5 M = some (v, S')) : Ct mi_X8_copy yX8_copy [.ref (94), .int (x1), .int (x2), .int (x3), .int (x4), .int (x5)] (C, M) (some (.int v), (C, S')) := Ct_of_J (by decide +kernel) rfl (Nat.le_of_ble_eq_true rfl) (jm_X8_copy  h (fun _ _ e => by cases e; rfl))
def mi_X8_all : aMi := (cX8_all, 4, RX8, (some .int), { frames := 2, cells := 0, slots := 0, locals := 43 })
def b_X8_all_4 (x1 : Int32) (x2 : Int32) (x3 : Int32) (M : aMm) : Option ((Int32 × Int32) ⊕ (Int32)) :=
  (m_ld M 1 (0 : Int32)).bind fun u1 => if (u1 : Int32) ≤ x3 then some (.inr x2) else (f_X8_isRock x3 M).bind fun r4 => if (r4 : Int32) = 0 then some (.inl ((x2 + (0 : Int32)), (x3 + (1 : Int32)))) else some (.inl ((x2 + (1 : Int32)), (x3 + (1 : Int32))))
set_option maxRecDepth 100000 in
set_option maxHeartbeats 4000000 in
theorem jl_X8_all_4 {x1 : Int32} {M : aMm} {C : aSc}  {res : aRes} {r : Int32} : ∀ (n : Nat) (x2 : Int32) (x3 : Int32), lpf (fun a : Int32 × Int32 => b_X8_all_4 (x1) a.1 a.2 M) n (x2, x3) = some r → (∀ (z2 : Int32), r = z2 → J mi_X8_all res 0 0 36 [(0, .ref (94)), (1, .int (x1)), (2, .int (z2))] [] (C, M)) → J mi_X8_all res 0 0 4 [(0, .ref (94)), (1, .int (x1)), (2, .int (x2)), (3, .int (x3))] [] (C, M) := by
  intro n
  induction n with
  | zero =>
    intro x2 x3 h
    cases h
  | succ n ih =>
    intro x2 x3 h Kx
    obtain ⟨r0, h, h2⟩ := br_b h
    have h : b_X8_all_4 x1 x2 x3 M = some r0 := h
    rw [b_X8_all_4] at h
    refine J_iload_n dX8_all_4 rfl 3 rfl ?_
    refine J_aload_n dX8_all_5 rfl 0 rfl ?_
    refine J_getr (j := 0) (t := 103) (r := 95) rfl (by decide) (by decide) rfl (by decide) rfl rfl kf_X8_9 dX8_all_6 ?_
    refine J_iconst 0 dX8_all_9 rfl ?_
    obtain ⟨u1, h2, h⟩ := br_b h
    refine J_ialdM (m0 := 1) rfl rfl h2 dX8_all_10 ?_
    refine J_icmp_ge 36 dX8_all_11 (by decide) (fun c6 => ?_) (fun c6 => ?_)
    · have h := br_p c6 h
      have h := Option.some.inj h
      subst h
      have h2 := Option.some.inj h2
      subst h2
      refine J_sub [0, 1, 2] rfl ?_
      exact Kx _ rfl
    · have h := br_n c6 h
      refine J_iload_n dX8_all_14 rfl 2 rfl ?_
      refine J_aload_n dX8_all_15 rfl 0 rfl ?_
      refine J_iload_n dX8_all_16 rfl 3 rfl ?_
      obtain ⟨r4, h3, h⟩ := br_b h
      refine J_callV (mj := mi_X8_isRock) (as := [.int (x3)]) (rest := [.int (x2)]) (ct_X8_isRock (C := C)  h3) ⟨rfl, rfl⟩ rfl rfl (by decide) rfl cg_X8_193 hd_X8_isRock rfl ⟨Nat.le_of_ble_eq_true rfl, Nat.le_of_ble_eq_true rfl⟩ (Nat.le_of_ble_eq_true rfl) ⟨Nat.zero_le _, Nat.zero_le _⟩ dX8_all_17 ?_
      refine J_if_eq 27 dX8_all_20 (by decide) (fun c5 => ?_) (fun c5 => ?_)
      · have h := br_p c5 h
        refine J_iconst 0 dX8_all_27 rfl ?_
        refine J_iadd dX8_all_28 ?_
        refine J_istore_n (L' := [(2, .int ((x2 + (0 : Int32)))), (0, .ref (94)), (1, .int (x1)), (3, .int (x3))]) dX8_all_29 rfl (by decide) rfl ?_
        refine J_iinc (j := 3) (v := (x3 + (1 : Int32))) (L' := [(3, .int ((x3 + (1 : Int32)))), (2, .int ((x2 + (0 : Int32)))), (0, .ref (94)), (1, .int (x1))]) dX8_all_30 rfl rfl (by decide) rfl ?_
        refine J_goto 4 dX8_all_33 (by decide) ?_
        have h := Option.some.inj h
        subst h
        refine J_sub [2, 3, 1, 0] rfl ?_
        exact ih _ _ h2 Kx
      · have h := br_n c5 h
        refine J_iconst 1 dX8_all_23 rfl ?_
        refine J_goto 28 dX8_all_24 (by decide) ?_
        refine J_iadd dX8_all_28 ?_
        refine J_istore_n (L' := [(2, .int ((x2 + (1 : Int32)))), (0, .ref (94)), (1, .int (x1)), (3, .int (x3))]) dX8_all_29 rfl (by decide) rfl ?_
        refine J_iinc (j := 3) (v := (x3 + (1 : Int32))) (L' := [(3, .int ((x3 + (1 : Int32)))), (2, .int ((x2 + (1 : Int32)))), (0, .ref (94)), (1, .int (x1))]) dX8_all_30 rfl rfl (by decide) rfl ?_
        refine J_goto 4 dX8_all_33 (by decide) ?_
        have h := Option.some.inj h
        subst h
        refine J_sub [2, 3, 1, 0] rfl ?_
        exact ih _ _ h2 Kx
def f_X8_all (x1 : Int32) (M : aMm) : Option (Int32 × aMm) :=
  (lpf (fun a : Int32 × Int32 => b_X8_all_4 (x1) a.1 a.2 M) FU ((0 : Int32), (0 : Int32))).bind fun z7 => if (x1 : Int32) = 0 then (m_ld M 1 (0 : Int32)).bind fun u11 => some (u11, M) else if (x1 : Int32) = 1 then some (z7, M) else if (x1 : Int32) = 2 then (m_ld M 1 (1 : Int32)).bind fun u15 => some (u15, M) else if (x1 : Int32) = 3 then (m_ld M 1 (2 : Int32)).bind fun u18 => some (u18, M) else if (x1 : Int32) = 4 then (m_ld M 1 (3 : Int32)).bind fun u21 => some (u21, M) else if (x1 : Int32) = 5 then some ((m_gi M 0 5), M) else if (x1 : Int32) = 6 then some ((m_gi M 0 3), M) else bd2 (f_X8_finding (-100001 : Int32) M) fun r26 M27 => some (r26, M27)
set_option maxRecDepth 100000 in
set_option maxHeartbeats 4000000 in
theorem jm_X8_all {x1 : Int32} {C : aSc} {M : aMm}  {res : aRes} {r : Int32 × aMm} (h : f_X8_all x1 M = some r) (Kr : ∀ (v : Int32) (S' : aMm), r = (v, S') → res = (some (.int v), (C, S'))) : J mi_X8_all res 0 0 0 [(0, .ref (94)), (1, .int (x1))] [] (C, M) := by
  rw [f_X8_all] at h
  refine J_iconst 0 dX8_all_0 rfl ?_
  refine J_istore_n (L' := [(2, .int ((0 : Int32))), (0, .ref (94)), (1, .int (x1))]) dX8_all_1 rfl (by decide) rfl ?_
  refine J_iconst 0 dX8_all_2 rfl ?_
  refine J_istore_n (L' := [(3, .int ((0 : Int32))), (2, .int ((0 : Int32))), (0, .ref (94)), (1, .int (x1))]) dX8_all_3 rfl (by decide) rfl ?_
  refine J_sub [2, 3, 1, 0] rfl ?_
  obtain ⟨z7, h8, h⟩ := br_b h
  refine jl_X8_all_4  FU _ _ h8 ?_
  intro zz e
  subst e
  refine J_iload_n dX8_all_36 rfl 1 rfl ?_
  by_cases c10 : (x1 : Int32) = 0
  · have h := br_p c10 h
    refine J_tsw 80 dX8_all_37 (by decide) (by rw [c10]; decide) ?_
    refine J_aload_n dX8_all_80 rfl 0 rfl ?_
    refine J_getr (j := 0) (t := 103) (r := 95) rfl (by decide) (by decide) rfl (by decide) rfl rfl kf_X8_9 dX8_all_81 ?_
    refine J_iconst 0 dX8_all_84 rfl ?_
    obtain ⟨u11, h12, h⟩ := br_b h
    refine J_ialdM (m0 := 1) rfl rfl h12 dX8_all_85 ?_
    have h := Option.some.inj h
    subst h
    exact J_iret rfl rfl rfl (Kr _ _ rfl) dX8_all_86
  · have h := br_n c10 h
    by_cases c13 : (x1 : Int32) = 1
    · have h := br_p c13 h
      refine J_tsw 87 dX8_all_37 (by decide) (by rw [c13]; decide) ?_
      refine J_iload_n dX8_all_87 rfl 2 rfl ?_
      have h := Option.some.inj h
      subst h
      exact J_iret rfl rfl rfl (Kr _ _ rfl) dX8_all_88
    · have h := br_n c13 h
      by_cases c14 : (x1 : Int32) = 2
      · have h := br_p c14 h
        refine J_tsw 89 dX8_all_37 (by decide) (by rw [c14]; decide) ?_
        refine J_aload_n dX8_all_89 rfl 0 rfl ?_
        refine J_getr (j := 0) (t := 103) (r := 95) rfl (by decide) (by decide) rfl (by decide) rfl rfl kf_X8_9 dX8_all_90 ?_
        refine J_iconst 1 dX8_all_93 rfl ?_
        obtain ⟨u15, h16, h⟩ := br_b h
        refine J_ialdM (m0 := 1) rfl rfl h16 dX8_all_94 ?_
        have h := Option.some.inj h
        subst h
        exact J_iret rfl rfl rfl (Kr _ _ rfl) dX8_all_95
      · have h := br_n c14 h
        by_cases c17 : (x1 : Int32) = 3
        · have h := br_p c17 h
          refine J_tsw 96 dX8_all_37 (by decide) (by rw [c17]; decide) ?_
          refine J_aload_n dX8_all_96 rfl 0 rfl ?_
          refine J_getr (j := 0) (t := 103) (r := 95) rfl (by decide) (by decide) rfl (by decide) rfl rfl kf_X8_9 dX8_all_97 ?_
          refine J_iconst 2 dX8_all_100 rfl ?_
          obtain ⟨u18, h19, h⟩ := br_b h
          refine J_ialdM (m0 := 1) rfl rfl h19 dX8_all_101 ?_
          have h := Option.some.inj h
          subst h
          exact J_iret rfl rfl rfl (Kr _ _ rfl) dX8_all_102
        · have h := br_n c17 h
          by_cases c20 : (x1 : Int32) = 4
          · have h := br_p c20 h
            refine J_tsw 103 dX8_all_37 (by decide) (by rw [c20]; decide) ?_
            refine J_aload_n dX8_all_103 rfl 0 rfl ?_
            refine J_getr (j := 0) (t := 103) (r := 95) rfl (by decide) (by decide) rfl (by decide) rfl rfl kf_X8_9 dX8_all_104 ?_
            refine J_iconst 3 dX8_all_107 rfl ?_
            obtain ⟨u21, h22, h⟩ := br_b h
            refine J_ialdM (m0 := 1) rfl rfl h22 dX8_all_108 ?_
            have h := Option.some.inj h
            subst h
            exact J_iret rfl rfl rfl (Kr _ _ rfl) dX8_all_109
          · have h := br_n c20 h
            by_cases c23 : (x1 : Int32) = 5
            · have h := br_p c23 h
              refine J_tsw 110 dX8_all_37 (by decide) (by rw [c23]; decide) ?_
              refine J_aload_n dX8_all_110 rfl 0 rfl ?_
              refine J_getiM (m0 := 0) (j := 5) rfl rfl (by decide) rfl (by decide) rfl kf_X8_58 dX8_all_111 ?_
              have h := Option.some.inj h
              subst h
              exact J_iret rfl rfl rfl (Kr _ _ rfl) dX8_all_114
            · have h := br_n c23 h
              by_cases c24 : (x1 : Int32) = 6
              · have h := br_p c24 h
                refine J_tsw 115 dX8_all_37 (by decide) (by rw [c24]; decide) ?_
                refine J_aload_n dX8_all_115 rfl 0 rfl ?_
                refine J_getiM (m0 := 0) (j := 3) rfl rfl (by decide) rfl (by decide) rfl kf_X8_37 dX8_all_116 ?_
                have h := Option.some.inj h
                subst h
                exact J_iret rfl rfl rfl (Kr _ _ rfl) dX8_all_119
              · have h := br_n c24 h
                refine J_tsw 120 dX8_all_37 (by decide) (by have e0 := lv_neT (a := 0) c10 rfl; have e1 := lv_neT (a := 1) c13 rfl; have e2 := lv_neT (a := 2) c14 rfl; have e3 := lv_neT (a := 3) c17 rfl; have e4 := lv_neT (a := 4) c20 rfl; have e5 := lv_neT (a := 5) c23 rfl; have e6 := lv_neT (a := 6) c24 rfl; unfold a_tsw; rw [if_pos (by omega)]; rfl) ?_
                refine J_aload_n dX8_all_120 rfl 0 rfl ?_
                refine J_ldc (-100001) dX8_all_121 kc_X8_57 ?_
                obtain ⟨r26, M27, h25, h⟩ := br_b2 h
                refine J_callV (mj := mi_X8_finding) (as := [.int ((-100001 : Int32))]) (rest := []) (ct_X8_finding (C := C)  h25) ⟨rfl, rfl⟩ rfl rfl (by decide) rfl cg_X8_53 hd_X8_finding rfl ⟨Nat.le_of_ble_eq_true rfl, Nat.le_of_ble_eq_true rfl⟩ (Nat.le_of_ble_eq_true rfl) ⟨Nat.zero_le _, Nat.zero_le _⟩ dX8_all_123 ?_
                have h := Option.some.inj h
                subst h
                exact J_iret rfl rfl rfl (Kr _ _ rfl) dX8_all_126
theorem ct_X8_all {x1 : Int32} {C : aSc} {M : aMm} {v : Int32} {S' : aMm}  (h : f_X8_all x1 M = some (v, S')) : Ct mi_X8_all yX8_all [.ref (94), .int (x1)] (C, M) (some (.int v), (C, S')) := Ct_of_J (by decide +kernel) rfl (Nat.le_of_ble_eq_true rfl) (jm_X8_all  h (fun _ _ e => by cases e; rfl))

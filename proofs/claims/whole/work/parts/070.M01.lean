def mi_X8_doubt : aMi := (cX8_doubt, 4, RX8, (some .int), { frames := 2, cells := 0, slots := 0, locals := 43 })
def f_X8_doubt (x1 : Int32) (x2 : Int32) (M : aMm) : Option (Int32 × aMm) :=
  (f_X8_isLight x1 M).bind fun r2 => if (r2 : Int32) = 0 then bd2 (f_X8_finding (-100001 : Int32) M) fun r4 M5 => some (r4, M5) else (f_X8_within x2 (0 : Int32) (3 : Int32) M).bind fun r7 => if (r7 : Int32) = 0 then bd2 (f_X8_finding (-100001 : Int32) M) fun r27 M28 => some (r27, M28) else (f_X8_of x1 (0 : Int32) M).bind fun r9 => (m_ld M 1 r9).bind fun u10 => if (u10 : Int32) = (2 : Int32) then (f_X8_keep  M).bind fun M13 => (f_X8_of x1 (7 : Int32) M13).bind fun r15 => (m_ld M13 1 r15).bind fun u16 => (f_X8_of x1 (7 : Int32) M13).bind fun r19 => (m_st M13 1 r19 x2).bind fun M20 => some (u16, M20) else bd2 (f_X8_finding (-100004 : Int32) M) fun r23 M24 => some (r23, M24)
set_option maxRecDepth 100000 in
set_option maxHeartbeats 4000000 in
theorem jm_X8_doubt {x1 : Int32} {x2 : Int32} {C : aSc} {M : aMm}  {res : aRes} {r : Int32 × aMm} (h : f_X8_doubt x1 x2 M = some r) (Kr : ∀ (v : Int32) (S' : aMm), r = (v, S') → res = (some (.int v), (C, S'))) : J mi_X8_doubt res 0 0 0 [(0, .ref (94)), (1, .int (x1)), (2, .int (x2))] [] (C, M) := by
  rw [f_X8_doubt] at h
  refine J_aload_n dX8_doubt_0 rfl 0 rfl ?_
  refine J_iload_n dX8_doubt_1 rfl 1 rfl ?_
  obtain ⟨r2, h1, h⟩ := br_b h
  refine J_callV (mj := mi_X8_isLight) (as := [.int (x1)]) (rest := []) (ct_X8_isLight (C := C)  h1) ⟨rfl, rfl⟩ rfl rfl (by decide) rfl cg_X8_120 hd_X8_isLight rfl ⟨Nat.le_of_ble_eq_true rfl, Nat.le_of_ble_eq_true rfl⟩ (Nat.le_of_ble_eq_true rfl) ⟨Nat.zero_le _, Nat.zero_le _⟩ dX8_doubt_2 ?_
  refine J_if_eq 17 dX8_doubt_5 (by decide) (fun c30 => ?_) (fun c30 => ?_)
  · have h := br_p c30 h
    refine J_aload_n dX8_doubt_17 rfl 0 rfl ?_
    refine J_ldc (-100001) dX8_doubt_18 kc_X8_57 ?_
    obtain ⟨r4, M5, h3, h⟩ := br_b2 h
    refine J_callV (mj := mi_X8_finding) (as := [.int ((-100001 : Int32))]) (rest := []) (ct_X8_finding (C := C)  h3) ⟨rfl, rfl⟩ rfl rfl (by decide) rfl cg_X8_53 hd_X8_finding rfl ⟨Nat.le_of_ble_eq_true rfl, Nat.le_of_ble_eq_true rfl⟩ (Nat.le_of_ble_eq_true rfl) ⟨Nat.zero_le _, Nat.zero_le _⟩ dX8_doubt_20 ?_
    have h := Option.some.inj h
    subst h
    exact J_iret rfl rfl rfl (Kr _ _ rfl) dX8_doubt_23
  · have h := br_n c30 h
    refine J_iload_n dX8_doubt_8 rfl 2 rfl ?_
    refine J_iconst 0 dX8_doubt_9 rfl ?_
    refine J_iconst 3 dX8_doubt_10 rfl ?_
    obtain ⟨r7, h6, h⟩ := br_b h
    refine J_callS (mj := mi_X8_within) (as := [.int (x2), .int ((0 : Int32)), .int ((3 : Int32))]) (rest := []) (ct_X8_within (C := C)  h6) ⟨rfl, rfl⟩ rfl cg_X8_41 hd_X8_within rfl ⟨Nat.le_of_ble_eq_true rfl, Nat.le_of_ble_eq_true rfl⟩ (Nat.le_of_ble_eq_true rfl) ⟨Nat.zero_le _, Nat.zero_le _⟩ dX8_doubt_11 ?_
    refine J_if_ne 24 dX8_doubt_14 (by decide) (fun c29 => ?_) (fun c29 => ?_)
    · have h := br_n c29 h
      refine J_aload_n dX8_doubt_24 rfl 0 rfl ?_
      refine J_getr (j := 0) (t := 103) (r := 95) rfl (by decide) (by decide) rfl (by decide) rfl rfl kf_X8_9 dX8_doubt_25 ?_
      refine J_iload_n dX8_doubt_28 rfl 1 rfl ?_
      refine J_iconst 0 dX8_doubt_29 rfl ?_
      obtain ⟨r9, h8, h⟩ := br_b h
      refine J_callS (mj := mi_X8_of) (as := [.int (x1), .int ((0 : Int32))]) (rest := [.ref (95)]) (ct_X8_of (C := C)  h8) ⟨rfl, rfl⟩ rfl cg_X8_45 hd_X8_of rfl ⟨Nat.le_of_ble_eq_true rfl, Nat.le_of_ble_eq_true rfl⟩ (Nat.le_of_ble_eq_true rfl) ⟨Nat.zero_le _, Nat.zero_le _⟩ dX8_doubt_30 ?_
      obtain ⟨u10, h11, h⟩ := br_b h
      refine J_ialdM (m0 := 1) rfl rfl h11 dX8_doubt_33 ?_
      refine J_iconst 2 dX8_doubt_34 rfl ?_
      refine J_icmp_eq 45 dX8_doubt_35 (by decide) (fun c25 => ?_) (fun c25 => ?_)
      · have h := br_p c25 h
        refine J_aload_n dX8_doubt_45 rfl 0 rfl ?_
        obtain ⟨M13, h12, h⟩ := br_b h
        refine J_callV (mj := mi_X8_keep) (as := []) (rest := []) (ct_X8_keep (C := C)  h12) ⟨rfl, rfl⟩ rfl rfl (by decide) rfl cg_X8_114 hd_X8_keep rfl ⟨Nat.le_of_ble_eq_true rfl, Nat.le_of_ble_eq_true rfl⟩ (Nat.le_of_ble_eq_true rfl) ⟨Nat.zero_le _, Nat.zero_le _⟩ dX8_doubt_46 ?_
        refine J_aload_n dX8_doubt_49 rfl 0 rfl ?_
        refine J_getr (j := 0) (t := 103) (r := 95) rfl (by decide) (by decide) rfl (by decide) rfl rfl kf_X8_9 dX8_doubt_50 ?_
        refine J_iload_n dX8_doubt_53 rfl 1 rfl ?_
        refine J_bipush 7 dX8_doubt_54 rfl ?_
        obtain ⟨r15, h14, h⟩ := br_b h
        refine J_callS (mj := mi_X8_of) (as := [.int (x1), .int ((7 : Int32))]) (rest := [.ref (95)]) (ct_X8_of (C := C)  h14) ⟨rfl, rfl⟩ rfl cg_X8_45 hd_X8_of rfl ⟨Nat.le_of_ble_eq_true rfl, Nat.le_of_ble_eq_true rfl⟩ (Nat.le_of_ble_eq_true rfl) ⟨Nat.zero_le _, Nat.zero_le _⟩ dX8_doubt_56 ?_
        obtain ⟨u16, h17, h⟩ := br_b h
        refine J_ialdM (m0 := 1) rfl rfl h17 dX8_doubt_59 ?_
        refine J_istore_n (L' := [(3, .int (u16)), (0, .ref (94)), (1, .int (x1)), (2, .int (x2))]) dX8_doubt_60 rfl (by decide) rfl ?_
        refine J_aload_n dX8_doubt_61 rfl 1 rfl ?_
        refine J_getr (j := 0) (t := 103) (r := 95) rfl (by decide) (by decide) rfl (by decide) rfl rfl kf_X8_9 dX8_doubt_62 ?_
        refine J_iload_n dX8_doubt_65 rfl 2 rfl ?_
        refine J_bipush 7 dX8_doubt_66 rfl ?_
        obtain ⟨r19, h18, h⟩ := br_b h
        refine J_callS (mj := mi_X8_of) (as := [.int (x1), .int ((7 : Int32))]) (rest := [.ref (95)]) (ct_X8_of (C := C)  h18) ⟨rfl, rfl⟩ rfl cg_X8_45 hd_X8_of rfl ⟨Nat.le_of_ble_eq_true rfl, Nat.le_of_ble_eq_true rfl⟩ (Nat.le_of_ble_eq_true rfl) ⟨Nat.zero_le _, Nat.zero_le _⟩ dX8_doubt_68 ?_
        refine J_iload_n dX8_doubt_71 rfl 3 rfl ?_
        obtain ⟨M20, h21, h⟩ := br_b h
        refine J_iastM (m0 := 1) rfl rfl h21 dX8_doubt_72 ?_
        refine J_iload_n dX8_doubt_73 rfl 0 rfl ?_
        have h := Option.some.inj h
        subst h
        exact J_iret rfl rfl rfl (Kr _ _ rfl) dX8_doubt_74
      · have h := br_n c25 h
        refine J_aload_n dX8_doubt_38 rfl 0 rfl ?_
        refine J_ldc (-100004) dX8_doubt_39 kc_X8_123 ?_
        obtain ⟨r23, M24, h22, h⟩ := br_b2 h
        refine J_callV (mj := mi_X8_finding) (as := [.int ((-100004 : Int32))]) (rest := []) (ct_X8_finding (C := C)  h22) ⟨rfl, rfl⟩ rfl rfl (by decide) rfl cg_X8_53 hd_X8_finding rfl ⟨Nat.le_of_ble_eq_true rfl, Nat.le_of_ble_eq_true rfl⟩ (Nat.le_of_ble_eq_true rfl) ⟨Nat.zero_le _, Nat.zero_le _⟩ dX8_doubt_41 ?_
        have h := Option.some.inj h
        subst h
        exact J_iret rfl rfl rfl (Kr _ _ rfl) dX8_doubt_44
    · have h := br_p c29 h
      refine J_aload_n dX8_doubt_17 rfl 0 rfl ?_
      refine J_ldc (-100001) dX8_doubt_18 kc_X8_57 ?_
      obtain ⟨r27, M28, h26, h⟩ := br_b2 h
      refine J_callV (mj := mi_X8_finding) (as := [.int ((-100001 : Int32))]) (rest := []) (ct_X8_finding (C := C)  h26) ⟨rfl, rfl⟩ rfl rfl (by decide) rfl cg_X8_53 hd_X8_finding rfl ⟨Nat.le_of_ble_eq_true rfl, Nat.le_of_ble_eq_true rfl⟩ (Nat.le_of_ble_eq_true rfl) ⟨Nat.zero_le _, Nat.zero_le _⟩ dX8_doubt_20 ?_
      have h := Option.some.inj h
      subst h
      exact J_iret rfl rfl rfl (Kr _ _ rfl) dX8_doubt_23
theorem ct_X8_doubt {x1 : Int32} {x2 : Int32} {C : aSc} {M : aMm} {v : Int32} {S' : aMm}  (h : f_X8_doubt x1 x2 M = some (v, S')) : Ct mi_X8_doubt yX8_doubt [.ref (94), .int (x1), .int (x2)] (C, M) (some (.int v), (C, S')) := Ct_of_J (by decide +kernel) rfl (Nat.le_of_ble_eq_true rfl) (jm_X8_doubt  h (fun _ _ e => by cases e; rfl))
def mi_X8_eastOf : aMi := (cX8_eastOf, 3, RX8, (some .int), { frames := 0, cells := 0, slots := 0, locals := 0 })
def g_X8_eastOf_23 (x0 : Int32) (M : aMm) : Option (Int32) :=
  if ((8 : Int32) : Int32) ≤ x0 then some (-(2 : Int32)) else some (2 : Int32)
set_option maxRecDepth 100000 in
set_option maxHeartbeats 4000000 in
theorem jb_X8_eastOf_23 {x0 : Int32} {M : aMm} {C : aSc}  {res : aRes} {r : Int32} (h : g_X8_eastOf_23 x0 M = some r) (Kr : ∀ (v : Int32), r = v → res = (some (.int v), (C, M))) : J mi_X8_eastOf res 0 0 23 [(0, .int (x0))] [] (C, M) := by
  rw [g_X8_eastOf_23] at h
  refine J_iconst 2 dX8_eastOf_23 rfl ?_
  refine J_goto 28 dX8_eastOf_24 (by decide) ?_
  refine J_istore_n (L' := [(2, .int ((2 : Int32))), (0, .int (x0))]) dX8_eastOf_28 rfl (by decide) rfl ?_
  refine J_iload_n dX8_eastOf_29 rfl 1 rfl ?_
  refine J_bipush 8 dX8_eastOf_30 rfl ?_
  refine J_icmp_ge 39 dX8_eastOf_32 (by decide) (fun c1 => ?_) (fun c1 => ?_)
  · have h := br_p c1 h
    refine J_iload_n dX8_eastOf_39 rfl 0 rfl ?_
    refine J_ineg dX8_eastOf_40 ?_
    have h := Option.some.inj h
    subst h
    exact J_iret rfl rfl rfl (Kr _ rfl) dX8_eastOf_41
  · have h := br_n c1 h
    refine J_iload_n dX8_eastOf_35 rfl 0 rfl ?_
    refine J_goto 41 dX8_eastOf_36 (by decide) ?_
    have h := Option.some.inj h
    subst h
    exact J_iret rfl rfl rfl (Kr _ rfl) dX8_eastOf_41
def f_X8_eastOf (x0 : Int32) (M : aMm) : Option (Int32) :=
  if ((x0 - x0 / (8 : Int32) * (8 : Int32)) : Int32) = 0 then if ((8 : Int32) : Int32) ≤ x0 then some (-(0 : Int32)) else some (0 : Int32) else if ((x0 - x0 / (8 : Int32) * (8 : Int32)) : Int32) = (3 : Int32) then g_X8_eastOf_23 (x0) M else if ((x0 - x0 / (8 : Int32) * (8 : Int32)) : Int32) = (5 : Int32) then g_X8_eastOf_23 (x0) M else if ((8 : Int32) : Int32) ≤ x0 then some (-(1 : Int32)) else some (1 : Int32)
set_option maxRecDepth 100000 in
set_option maxHeartbeats 4000000 in
theorem jm_X8_eastOf {x0 : Int32} {C : aSc} {M : aMm}  {res : aRes} {r : Int32} (h : f_X8_eastOf x0 M = some r) (Kr : ∀ (v : Int32), r = v → res = (some (.int v), (C, M))) : J mi_X8_eastOf res 0 0 0 [(0, .int (x0))] [] (C, M) := by
  rw [f_X8_eastOf] at h
  refine J_iload_n dX8_eastOf_0 rfl 0 rfl ?_
  refine J_bipush 8 dX8_eastOf_1 rfl ?_
  refine J_irem dX8_eastOf_3 (by decide) ?_
  refine J_istore_n (L' := [(1, .int ((x0 - x0 / (8 : Int32) * (8 : Int32)))), (0, .int (x0))]) dX8_eastOf_4 rfl (by decide) rfl ?_
  refine J_iload_n dX8_eastOf_5 rfl 0 rfl ?_
  refine J_if_ne 13 dX8_eastOf_6 (by decide) (fun c6 => ?_) (fun c6 => ?_)
  · have h := br_n c6 h
    refine J_iload_n dX8_eastOf_13 rfl 0 rfl ?_
    refine J_iconst 3 dX8_eastOf_14 rfl ?_
    refine J_icmp_eq 23 dX8_eastOf_15 (by decide) (fun c4 => ?_) (fun c4 => ?_)
    · have h := br_p c4 h
      refine J_sub [1] rfl ?_
      exact jb_X8_eastOf_23  h Kr
    · have h := br_n c4 h
      refine J_iload_n dX8_eastOf_18 rfl 0 rfl ?_
      refine J_iconst 5 dX8_eastOf_19 rfl ?_
      refine J_icmp_ne 27 dX8_eastOf_20 (by decide) (fun c3 => ?_) (fun c3 => ?_)
      · have h := br_n c3 h
        refine J_iconst 1 dX8_eastOf_27 rfl ?_
        refine J_istore_n (L' := [(2, .int ((1 : Int32))), (1, .int ((x0 - x0 / (8 : Int32) * (8 : Int32)))), (0, .int (x0))]) dX8_eastOf_28 rfl (by decide) rfl ?_
        refine J_iload_n dX8_eastOf_29 rfl 2 rfl ?_
        refine J_bipush 8 dX8_eastOf_30 rfl ?_
        refine J_icmp_ge 39 dX8_eastOf_32 (by decide) (fun c2 => ?_) (fun c2 => ?_)
        · have h := br_p c2 h
          refine J_iload_n dX8_eastOf_39 rfl 0 rfl ?_
          refine J_ineg dX8_eastOf_40 ?_
          have h := Option.some.inj h
          subst h
          exact J_iret rfl rfl rfl (Kr _ rfl) dX8_eastOf_41
        · have h := br_n c2 h
          refine J_iload_n dX8_eastOf_35 rfl 0 rfl ?_
          refine J_goto 41 dX8_eastOf_36 (by decide) ?_
          have h := Option.some.inj h
          subst h
          exact J_iret rfl rfl rfl (Kr _ rfl) dX8_eastOf_41
      · have h := br_p c3 h
        refine J_sub [1] rfl ?_
        exact jb_X8_eastOf_23  h Kr
  · have h := br_p c6 h
    refine J_iconst 0 dX8_eastOf_9 rfl ?_
    refine J_goto 28 dX8_eastOf_10 (by decide) ?_
    refine J_istore_n (L' := [(2, .int ((0 : Int32))), (1, .int ((x0 - x0 / (8 : Int32) * (8 : Int32)))), (0, .int (x0))]) dX8_eastOf_28 rfl (by decide) rfl ?_
    refine J_iload_n dX8_eastOf_29 rfl 2 rfl ?_
    refine J_bipush 8 dX8_eastOf_30 rfl ?_
    refine J_icmp_ge 39 dX8_eastOf_32 (by decide) (fun c5 => ?_) (fun c5 => ?_)
    · have h := br_p c5 h
      refine J_iload_n dX8_eastOf_39 rfl 0 rfl ?_
      refine J_ineg dX8_eastOf_40 ?_
      have h := Option.some.inj h
      subst h
      exact J_iret rfl rfl rfl (Kr _ rfl) dX8_eastOf_41
    · have h := br_n c5 h
      refine J_iload_n dX8_eastOf_35 rfl 0 rfl ?_
      refine J_goto 41 dX8_eastOf_36 (by decide) ?_
      have h := Option.some.inj h
      subst h
      exact J_iret rfl rfl rfl (Kr _ rfl) dX8_eastOf_41
theorem ct_X8_eastOf {x0 : Int32} {C : aSc} {M : aMm} {v : Int32}  (h : f_X8_eastOf x0 M = some v) : Ct mi_X8_eastOf yX8_eastOf [.int (x0)] (C, M) (some (.int v), (C, M)) := Ct_of_J (by decide +kernel) rfl (Nat.le_of_ble_eq_true rfl) (jm_X8_eastOf  h (fun _ e => by cases e; rfl))
def mi_X8_northOf : aMi := (cX8_northOf, 3, RX8, (some .int), { frames := 0, cells := 0, slots := 0, locals := 0 })
def f_X8_northOf (x0 : Int32) (M : aMm) : Option (Int32) :=
  if ((x0 - x0 / (8 : Int32) * (8 : Int32)) : Int32) = (4 : Int32) then if ((8 : Int32) : Int32) ≤ x0 then some (-(0 : Int32)) else some (0 : Int32) else if ((x0 - x0 / (8 : Int32) * (8 : Int32)) : Int32) = (1 : Int32) then if ((8 : Int32) : Int32) ≤ x0 then some (-(2 : Int32)) else some (2 : Int32) else if ((x0 - x0 / (8 : Int32) * (8 : Int32)) : Int32) = (7 : Int32) then if ((8 : Int32) : Int32) ≤ x0 then some (-(-2 : Int32)) else some (-2 : Int32) else if ((4 : Int32) : Int32) ≤ (x0 - x0 / (8 : Int32) * (8 : Int32)) then if ((8 : Int32) : Int32) ≤ x0 then some (-(-1 : Int32)) else some (-1 : Int32) else if ((8 : Int32) : Int32) ≤ x0 then some (-(1 : Int32)) else some (1 : Int32)
set_option maxRecDepth 100000 in
set_option maxHeartbeats 4000000 in
theorem jm_X8_northOf {x0 : Int32} {C : aSc} {M : aMm}  {res : aRes} {r : Int32} (h : f_X8_northOf x0 M = some r) (Kr : ∀ (v : Int32), r = v → res = (some (.int v), (C, M))) : J mi_X8_northOf res 0 0 0 [(0, .int (x0))] [] (C, M) := by
  rw [f_X8_northOf] at h
  refine J_iload_n dX8_northOf_0 rfl 0 rfl ?_
  refine J_bipush 8 dX8_northOf_1 rfl ?_
  refine J_irem dX8_northOf_3 (by decide) ?_
  refine J_istore_n (L' := [(1, .int ((x0 - x0 / (8 : Int32) * (8 : Int32)))), (0, .int (x0))]) dX8_northOf_4 rfl (by decide) rfl ?_
  refine J_iload_n dX8_northOf_5 rfl 0 rfl ?_
  refine J_iconst 4 dX8_northOf_6 rfl ?_
  refine J_icmp_ne 14 dX8_northOf_7 (by decide) (fun c9 => ?_) (fun c9 => ?_)
  · have h := br_n c9 h
    refine J_iload_n dX8_northOf_14 rfl 0 rfl ?_
    refine J_iconst 1 dX8_northOf_15 rfl ?_
    refine J_icmp_ne 23 dX8_northOf_16 (by decide) (fun c7 => ?_) (fun c7 => ?_)
    · have h := br_n c7 h
      refine J_iload_n dX8_northOf_23 rfl 0 rfl ?_
      refine J_bipush 7 dX8_northOf_24 rfl ?_
      refine J_icmp_ne 34 dX8_northOf_26 (by decide) (fun c5 => ?_) (fun c5 => ?_)
      · have h := br_n c5 h
        refine J_iload_n dX8_northOf_34 rfl 0 rfl ?_
        refine J_iconst 4 dX8_northOf_35 rfl ?_
        refine J_icmp_ge 43 dX8_northOf_36 (by decide) (fun c3 => ?_) (fun c3 => ?_)
        · have h := br_p c3 h
          refine J_iconst (-1) dX8_northOf_43 rfl ?_
          refine J_istore_n (L' := [(2, .int ((-1 : Int32))), (1, .int ((x0 - x0 / (8 : Int32) * (8 : Int32)))), (0, .int (x0))]) dX8_northOf_44 rfl (by decide) rfl ?_
          refine J_iload_n dX8_northOf_45 rfl 2 rfl ?_
          refine J_bipush 8 dX8_northOf_46 rfl ?_
          refine J_icmp_ge 55 dX8_northOf_48 (by decide) (fun c1 => ?_) (fun c1 => ?_)
          · have h := br_p c1 h
            refine J_iload_n dX8_northOf_55 rfl 0 rfl ?_
            refine J_ineg dX8_northOf_56 ?_
            have h := Option.some.inj h
            subst h
            exact J_iret rfl rfl rfl (Kr _ rfl) dX8_northOf_57
          · have h := br_n c1 h
            refine J_iload_n dX8_northOf_51 rfl 0 rfl ?_
            refine J_goto 57 dX8_northOf_52 (by decide) ?_
            have h := Option.some.inj h
            subst h
            exact J_iret rfl rfl rfl (Kr _ rfl) dX8_northOf_57
        · have h := br_n c3 h
          refine J_iconst 1 dX8_northOf_39 rfl ?_
          refine J_goto 44 dX8_northOf_40 (by decide) ?_
          refine J_istore_n (L' := [(2, .int ((1 : Int32))), (1, .int ((x0 - x0 / (8 : Int32) * (8 : Int32)))), (0, .int (x0))]) dX8_northOf_44 rfl (by decide) rfl ?_
          refine J_iload_n dX8_northOf_45 rfl 2 rfl ?_
          refine J_bipush 8 dX8_northOf_46 rfl ?_
          refine J_icmp_ge 55 dX8_northOf_48 (by decide) (fun c2 => ?_) (fun c2 => ?_)
          · have h := br_p c2 h
            refine J_iload_n dX8_northOf_55 rfl 0 rfl ?_
            refine J_ineg dX8_northOf_56 ?_
            have h := Option.some.inj h
            subst h
            exact J_iret rfl rfl rfl (Kr _ rfl) dX8_northOf_57
          · have h := br_n c2 h
            refine J_iload_n dX8_northOf_51 rfl 0 rfl ?_
            refine J_goto 57 dX8_northOf_52 (by decide) ?_
            have h := Option.some.inj h
            subst h
            exact J_iret rfl rfl rfl (Kr _ rfl) dX8_northOf_57
      · have h := br_p c5 h
        refine J_bipush (-2) dX8_northOf_29 rfl ?_
        refine J_goto 44 dX8_northOf_31 (by decide) ?_
        refine J_istore_n (L' := [(2, .int ((-2 : Int32))), (1, .int ((x0 - x0 / (8 : Int32) * (8 : Int32)))), (0, .int (x0))]) dX8_northOf_44 rfl (by decide) rfl ?_
        refine J_iload_n dX8_northOf_45 rfl 2 rfl ?_
        refine J_bipush 8 dX8_northOf_46 rfl ?_
        refine J_icmp_ge 55 dX8_northOf_48 (by decide) (fun c4 => ?_) (fun c4 => ?_)
        · have h := br_p c4 h
          refine J_iload_n dX8_northOf_55 rfl 0 rfl ?_
          refine J_ineg dX8_northOf_56 ?_
          have h := Option.some.inj h
          subst h
          exact J_iret rfl rfl rfl (Kr _ rfl) dX8_northOf_57
        · have h := br_n c4 h
          refine J_iload_n dX8_northOf_51 rfl 0 rfl ?_
          refine J_goto 57 dX8_northOf_52 (by decide) ?_
          have h := Option.some.inj h
          subst h
          exact J_iret rfl rfl rfl (Kr _ rfl) dX8_northOf_57
    · have h := br_p c7 h
      refine J_iconst 2 dX8_northOf_19 rfl ?_
      refine J_goto 44 dX8_northOf_20 (by decide) ?_
      refine J_istore_n (L' := [(2, .int ((2 : Int32))), (1, .int ((x0 - x0 / (8 : Int32) * (8 : Int32)))), (0, .int (x0))]) dX8_northOf_44 rfl (by decide) rfl ?_
      refine J_iload_n dX8_northOf_45 rfl 2 rfl ?_
      refine J_bipush 8 dX8_northOf_46 rfl ?_
      refine J_icmp_ge 55 dX8_northOf_48 (by decide) (fun c6 => ?_) (fun c6 => ?_)
      · have h := br_p c6 h
        refine J_iload_n dX8_northOf_55 rfl 0 rfl ?_
        refine J_ineg dX8_northOf_56 ?_
        have h := Option.some.inj h
        subst h
        exact J_iret rfl rfl rfl (Kr _ rfl) dX8_northOf_57
      · have h := br_n c6 h
        refine J_iload_n dX8_northOf_51 rfl 0 rfl ?_
        refine J_goto 57 dX8_northOf_52 (by decide) ?_
        have h := Option.some.inj h
        subst h
        exact J_iret rfl rfl rfl (Kr _ rfl) dX8_northOf_57
  · have h := br_p c9 h
    refine J_iconst 0 dX8_northOf_10 rfl ?_
    refine J_goto 44 dX8_northOf_11 (by decide) ?_
    refine J_istore_n (L' := [(2, .int ((0 : Int32))), (1, .int ((x0 - x0 / (8 : Int32) * (8 : Int32)))), (0, .int (x0))]) dX8_northOf_44 rfl (by decide) rfl ?_
    refine J_iload_n dX8_northOf_45 rfl 2 rfl ?_
    refine J_bipush 8 dX8_northOf_46 rfl ?_
    refine J_icmp_ge 55 dX8_northOf_48 (by decide) (fun c8 => ?_) (fun c8 => ?_)
    · have h := br_p c8 h
      refine J_iload_n dX8_northOf_55 rfl 0 rfl ?_
      refine J_ineg dX8_northOf_56 ?_
      have h := Option.some.inj h
      subst h
      exact J_iret rfl rfl rfl (Kr _ rfl) dX8_northOf_57
    · have h := br_n c8 h
      refine J_iload_n dX8_northOf_51 rfl 0 rfl ?_
      refine J_goto 57 dX8_northOf_52 (by decide) ?_
      have h := Option.some.inj h
      subst h
      exact J_iret rfl rfl rfl (Kr _ rfl) dX8_northOf_57
theorem ct_X8_northOf {x0 : Int32} {C : aSc} {M : aMm} {v : Int32}  (h : f_X8_northOf x0 M = some v) : Ct mi_X8_northOf yX8_northOf [.int (x0)] (C, M) (some (.int v), (C, M)) := Ct_of_J (by decide +kernel) rfl (Nat.le_of_ble_eq_true rfl) (jm_X8_northOf  h (fun _ e => by cases e; rfl))
def mi_X8_behind : aMi := (cX8_behind, 3, RX8, (some .int), { frames := 1, cells := 0, slots := 0, locals := 22 })
def f_X8_behind (x0 : Int32) (x1 : Int32) (x2 : Int32) (M : aMm) : Option (Int32) :=
  (f_X8_northOf x0 M).bind fun r2 => (f_X8_eastOf x0 M).bind fun r4 => some ((r2 * x1) - (r4 * x2))
set_option maxRecDepth 100000 in
set_option maxHeartbeats 4000000 in
theorem jm_X8_behind {x0 : Int32} {x1 : Int32} {x2 : Int32} {C : aSc} {M : aMm}  {res : aRes} {r : Int32} (h : f_X8_behind x0 x1 x2 M = some r) (Kr : ∀ (v : Int32), r = v → res = (some (.int v), (C, M))) : J mi_X8_behind res 0 0 0 [(0, .int (x0)), (1, .int (x1)), (2, .int (x2))] [] (C, M) := by
  rw [f_X8_behind] at h
  refine J_iload_n dX8_behind_0 rfl 0 rfl ?_
  obtain ⟨r2, h1, h⟩ := br_b h
  refine J_callS (mj := mi_X8_northOf) (as := [.int (x0)]) (rest := []) (ct_X8_northOf (C := C)  h1) ⟨rfl, rfl⟩ rfl cg_X8_134 hd_X8_northOf rfl ⟨Nat.le_of_ble_eq_true rfl, Nat.le_of_ble_eq_true rfl⟩ (Nat.le_of_ble_eq_true rfl) ⟨Nat.zero_le _, Nat.zero_le _⟩ dX8_behind_1 ?_
  refine J_iload_n dX8_behind_4 rfl 1 rfl ?_
  refine J_imul dX8_behind_5 ?_
  refine J_iload_n dX8_behind_6 rfl 0 rfl ?_
  obtain ⟨r4, h3, h⟩ := br_b h
  refine J_callS (mj := mi_X8_eastOf) (as := [.int (x0)]) (rest := [.int ((r2 * x1))]) (ct_X8_eastOf (C := C)  h3) ⟨rfl, rfl⟩ rfl cg_X8_137 hd_X8_eastOf rfl ⟨Nat.le_of_ble_eq_true rfl, Nat.le_of_ble_eq_true rfl⟩ (Nat.le_of_ble_eq_true rfl) ⟨Nat.zero_le _, Nat.zero_le _⟩ dX8_behind_7 ?_
  refine J_iload_n dX8_behind_10 rfl 2 rfl ?_
  refine J_imul dX8_behind_11 ?_
  refine J_isub dX8_behind_12 ?_
  have h := Option.some.inj h
  subst h
  exact J_iret rfl rfl rfl (Kr _ rfl) dX8_behind_13
theorem ct_X8_behind {x0 : Int32} {x1 : Int32} {x2 : Int32} {C : aSc} {M : aMm} {v : Int32}  (h : f_X8_behind x0 x1 x2 M = some v) : Ct mi_X8_behind yX8_behind [.int (x0), .int (x1), .int (x2)] (C, M) (some (.int v), (C, M)) := Ct_of_J (by decide +kernel) rfl (Nat.le_of_ble_eq_true rfl) (jm_X8_behind  h (fun _ e => by cases e; rfl))
def mi_X8_wayOf : aMi := (cX8_wayOf, 3, RX8, (some .int), { frames := 2, cells := 0, slots := 0, locals := 44 })
def b_X8_wayOf_2 (x0 : Int32) (x1 : Int32) (x2 : Int32) (M : aMm) : Option ((Int32) ⊕ (Int32)) :=
  (f_X8_behind x2 x0 x1 M).bind fun r2 => if (r2 : Int32) < 0 then some (.inl (x2 + (1 : Int32))) else (f_X8_behind ((x2 + (1 : Int32)) - (x2 + (1 : Int32)) / (16 : Int32) * (16 : Int32)) x0 x1 M).bind fun r4 => if (r4 : Int32) < 0 then some (.inr x2) else some (.inl (x2 + (1 : Int32)))
set_option maxRecDepth 100000 in
set_option maxHeartbeats 4000000 in
theorem jl_X8_wayOf_2 {x0 : Int32} {x1 : Int32} {M : aMm} {C : aSc}  {res : aRes} {r : Int32} : ∀ (n : Nat) (x2 : Int32), lpf (fun a : Int32 => b_X8_wayOf_2 (x0) (x1) a M) n x2 = some r → (∀ (z2 : Int32), r = z2 → J mi_X8_wayOf res 0 0 31 [(2, .int (z2))] [] (C, M)) → J mi_X8_wayOf res 0 0 2 [(0, .int (x0)), (1, .int (x1)), (2, .int (x2))] [] (C, M) := by
  intro n
  induction n with
  | zero =>
    intro x2 h
    cases h
  | succ n ih =>
    intro x2 h Kx
    obtain ⟨r0, h, h2⟩ := br_b h
    have h : b_X8_wayOf_2 x0 x1 x2 M = some r0 := h
    rw [b_X8_wayOf_2] at h
    refine J_iload_n dX8_wayOf_2 rfl 2 rfl ?_
    refine J_iload_n dX8_wayOf_3 rfl 0 rfl ?_
    refine J_iload_n dX8_wayOf_4 rfl 1 rfl ?_
    obtain ⟨r2, h1, h⟩ := br_b h
    refine J_callS (mj := mi_X8_behind) (as := [.int (x2), .int (x0), .int (x1)]) (rest := []) (ct_X8_behind (C := C)  h1) ⟨rfl, rfl⟩ rfl cg_X8_140 hd_X8_behind rfl ⟨Nat.le_of_ble_eq_true rfl, Nat.le_of_ble_eq_true rfl⟩ (Nat.le_of_ble_eq_true rfl) ⟨Nat.zero_le _, Nat.zero_le _⟩ dX8_wayOf_5 ?_
    refine J_if_lt 25 dX8_wayOf_8 (by decide) (fun c6 => ?_) (fun c6 => ?_)
    · have h := br_p c6 h
      refine J_iinc (j := 2) (v := (x2 + (1 : Int32))) (L' := [(2, .int ((x2 + (1 : Int32)))), (0, .int (x0)), (1, .int (x1))]) dX8_wayOf_25 rfl rfl (by decide) rfl ?_
      refine J_goto 2 dX8_wayOf_28 (by decide) ?_
      have h := Option.some.inj h
      subst h
      refine J_sub [1, 2, 0] rfl ?_
      exact ih _ h2 Kx
    · have h := br_n c6 h
      refine J_iload_n dX8_wayOf_11 rfl 2 rfl ?_
      refine J_iconst 1 dX8_wayOf_12 rfl ?_
      refine J_iadd dX8_wayOf_13 ?_
      refine J_bipush 16 dX8_wayOf_14 rfl ?_
      refine J_irem dX8_wayOf_16 (by decide) ?_
      refine J_iload_n dX8_wayOf_17 rfl 0 rfl ?_
      refine J_iload_n dX8_wayOf_18 rfl 1 rfl ?_
      obtain ⟨r4, h3, h⟩ := br_b h
      refine J_callS (mj := mi_X8_behind) (as := [.int (((x2 + (1 : Int32)) - (x2 + (1 : Int32)) / (16 : Int32) * (16 : Int32))), .int (x0), .int (x1)]) (rest := []) (ct_X8_behind (C := C)  h3) ⟨rfl, rfl⟩ rfl cg_X8_140 hd_X8_behind rfl ⟨Nat.le_of_ble_eq_true rfl, Nat.le_of_ble_eq_true rfl⟩ (Nat.le_of_ble_eq_true rfl) ⟨Nat.zero_le _, Nat.zero_le _⟩ dX8_wayOf_19 ?_
      refine J_if_lt 31 dX8_wayOf_22 (by decide) (fun c5 => ?_) (fun c5 => ?_)
      · have h := br_p c5 h
        have h := Option.some.inj h
        subst h
        have h2 := Option.some.inj h2
        subst h2
        refine J_sub [2] rfl ?_
        exact Kx _ rfl
      · have h := br_n c5 h
        refine J_iinc (j := 2) (v := (x2 + (1 : Int32))) (L' := [(2, .int ((x2 + (1 : Int32)))), (0, .int (x0)), (1, .int (x1))]) dX8_wayOf_25 rfl rfl (by decide) rfl ?_
        refine J_goto 2 dX8_wayOf_28 (by decide) ?_
        have h := Option.some.inj h
        subst h
        refine J_sub [1, 2, 0] rfl ?_
        exact ih _ h2 Kx
def f_X8_wayOf (x0 : Int32) (x1 : Int32) (M : aMm) : Option (Int32) :=
  (lpf (fun a : Int32 => b_X8_wayOf_2 (x0) (x1) a M) FU (0 : Int32)).bind fun z7 => some z7
set_option maxRecDepth 100000 in
set_option maxHeartbeats 4000000 in
theorem jm_X8_wayOf {x0 : Int32} {x1 : Int32} {C : aSc} {M : aMm}  {res : aRes} {r : Int32} (h : f_X8_wayOf x0 x1 M = some r) (Kr : ∀ (v : Int32), r = v → res = (some (.int v), (C, M))) : J mi_X8_wayOf res 0 0 0 [(0, .int (x0)), (1, .int (x1))] [] (C, M) := by
  rw [f_X8_wayOf] at h
  refine J_iconst 0 dX8_wayOf_0 rfl ?_
  refine J_istore_n (L' := [(2, .int ((0 : Int32))), (0, .int (x0)), (1, .int (x1))]) dX8_wayOf_1 rfl (by decide) rfl ?_
  refine J_sub [1, 2, 0] rfl ?_
  obtain ⟨z7, h8, h⟩ := br_b h
  refine jl_X8_wayOf_2  FU _ h8 ?_
  intro zz e
  subst e
  refine J_iload_n dX8_wayOf_31 rfl 0 rfl ?_
  have h := Option.some.inj h
  subst h
  exact J_iret rfl rfl rfl (Kr _ rfl) dX8_wayOf_32
theorem ct_X8_wayOf {x0 : Int32} {x1 : Int32} {C : aSc} {M : aMm} {v : Int32}  (h : f_X8_wayOf x0 x1 M = some v) : Ct mi_X8_wayOf yX8_wayOf [.int (x0), .int (x1)] (C, M) (some (.int v), (C, M)) := Ct_of_J (by decide +kernel) rfl (Nat.le_of_ble_eq_true rfl) (jm_X8_wayOf  h (fun _ e => by cases e; rfl))
def mi_X8_wayBetween : aMi := (cX8_wayBetween, 2, RX8, (some .int), { frames := 3, cells := 0, slots := 0, locals := 66 })
def f_X8_wayBetween (x0 : Int32) (x1 : Int32) (M : aMm) : Option (Int32) :=
  (f_X8_wayOf ((x1 - x1 / (16 : Int32) * (16 : Int32)) - (x0 - x0 / (16 : Int32) * (16 : Int32))) ((x1 / (16 : Int32)) - (x0 / (16 : Int32))) M).bind fun r2 => some r2
set_option maxRecDepth 100000 in
set_option maxHeartbeats 4000000 in
theorem jm_X8_wayBetween {x0 : Int32} {x1 : Int32} {C : aSc} {M : aMm}  {res : aRes} {r : Int32} (h : f_X8_wayBetween x0 x1 M = some r) (Kr : ∀ (v : Int32), r = v → res = (some (.int v), (C, M))) : J mi_X8_wayBetween res 0 0 0 [(0, .int (x0)), (1, .int (x1))] [] (C, M) := by
  rw [f_X8_wayBetween] at h
  refine J_iload_n dX8_wayBetween_0 rfl 1 rfl ?_
  refine J_bipush 16 dX8_wayBetween_1 rfl ?_
  refine J_irem dX8_wayBetween_3 (by decide) ?_
  refine J_iload_n dX8_wayBetween_4 rfl 0 rfl ?_
  refine J_bipush 16 dX8_wayBetween_5 rfl ?_
  refine J_irem dX8_wayBetween_7 (by decide) ?_
  refine J_isub dX8_wayBetween_8 ?_
  refine J_iload_n dX8_wayBetween_9 rfl 1 rfl ?_
  refine J_bipush 16 dX8_wayBetween_10 rfl ?_
  refine J_idiv dX8_wayBetween_12 (by decide) ?_
  refine J_iload_n dX8_wayBetween_13 rfl 0 rfl ?_
  refine J_bipush 16 dX8_wayBetween_14 rfl ?_
  refine J_idiv dX8_wayBetween_16 (by decide) ?_
  refine J_isub dX8_wayBetween_17 ?_
  obtain ⟨r2, h1, h⟩ := br_b h
  refine J_callS (mj := mi_X8_wayOf) (as := [.int (((x1 - x1 / (16 : Int32) * (16 : Int32)) - (x0 - x0 / (16 : Int32) * (16 : Int32)))), .int (((x1 / (16 : Int32)) - (x0 / (16 : Int32))))]) (rest := []) (ct_X8_wayOf (C := C)  h1) ⟨rfl, rfl⟩ rfl cg_X8_144 hd_X8_wayOf rfl ⟨Nat.le_of_ble_eq_true rfl, Nat.le_of_ble_eq_true rfl⟩ (Nat.le_of_ble_eq_true rfl) ⟨Nat.zero_le _, Nat.zero_le _⟩ dX8_wayBetween_18 ?_
  have h := Option.some.inj h
  subst h
  exact J_iret rfl rfl rfl (Kr _ rfl) dX8_wayBetween_21
theorem ct_X8_wayBetween {x0 : Int32} {x1 : Int32} {C : aSc} {M : aMm} {v : Int32}  (h : f_X8_wayBetween x0 x1 M = some v) : Ct mi_X8_wayBetween yX8_wayBetween [.int (x0), .int (x1)] (C, M) (some (.int v), (C, M)) := Ct_of_J (by decide +kernel) rfl (Nat.le_of_ble_eq_true rfl) (jm_X8_wayBetween  h (fun _ e => by cases e; rfl))
def mi_X8_isFrom : aMi := (cX8_isFrom, 3, RX8, (some .boolean), { frames := 0, cells := 0, slots := 0, locals := 0 })
def f_X8_isFrom (x0 : Int32) (x1 : Int32) (x2 : Int32) (M : aMm) : Option (Int32) :=
  if ((((x2 - x1) + (16 : Int32)) - ((x2 - x1) + (16 : Int32)) / (16 : Int32) * (16 : Int32)) : Int32) < (((x0 - x1) + (16 : Int32)) - ((x0 - x1) + (16 : Int32)) / (16 : Int32) * (16 : Int32)) then some (0 : Int32) else some (1 : Int32)
set_option maxRecDepth 100000 in
set_option maxHeartbeats 4000000 in
theorem jm_X8_isFrom {x0 : Int32} {x1 : Int32} {x2 : Int32} {C : aSc} {M : aMm}  {res : aRes} {r : Int32} (h : f_X8_isFrom x0 x1 x2 M = some r) (Kr : ∀ (v : Int32), r = v → res = (some (.int v), (C, M))) : J mi_X8_isFrom res 0 0 0 [(0, .int (x0)), (1, .int (x1)), (2, .int (x2))] [] (C, M) := by
  rw [f_X8_isFrom] at h
  refine J_iload_n dX8_isFrom_0 rfl 0 rfl ?_
  refine J_iload_n dX8_isFrom_1 rfl 1 rfl ?_
  refine J_isub dX8_isFrom_2 ?_
  refine J_bipush 16 dX8_isFrom_3 rfl ?_
  refine J_iadd dX8_isFrom_5 ?_
  refine J_bipush 16 dX8_isFrom_6 rfl ?_
  refine J_irem dX8_isFrom_8 (by decide) ?_
  refine J_iload_n dX8_isFrom_9 rfl 2 rfl ?_
  refine J_iload_n dX8_isFrom_10 rfl 1 rfl ?_
  refine J_isub dX8_isFrom_11 ?_
  refine J_bipush 16 dX8_isFrom_12 rfl ?_
  refine J_iadd dX8_isFrom_14 ?_
  refine J_bipush 16 dX8_isFrom_15 rfl ?_
  refine J_irem dX8_isFrom_17 (by decide) ?_
  refine J_icmp_gt 25 dX8_isFrom_18 (by decide) (fun c1 => ?_) (fun c1 => ?_)
  · have h := br_p c1 h
    refine J_iconst 0 dX8_isFrom_25 rfl ?_
    have h := Option.some.inj h
    subst h
    exact J_zret (Or.inl rfl) rfl rfl rfl (Kr _ rfl) dX8_isFrom_26
  · have h := br_n c1 h
    refine J_iconst 1 dX8_isFrom_21 rfl ?_
    refine J_goto 26 dX8_isFrom_22 (by decide) ?_
    have h := Option.some.inj h
    subst h
    exact J_zret (Or.inr rfl) rfl rfl rfl (Kr _ rfl) dX8_isFrom_26
theorem ct_X8_isFrom {x0 : Int32} {x1 : Int32} {x2 : Int32} {C : aSc} {M : aMm} {v : Int32}  (h : f_X8_isFrom x0 x1 x2 M = some v) : Ct mi_X8_isFrom yX8_isFrom [.int (x0), .int (x1), .int (x2)] (C, M) (some (.int v), (C, M)) := Ct_of_J (by decide +kernel) rfl (Nat.le_of_ble_eq_true rfl) (jm_X8_isFrom  h (fun _ e => by cases e; rfl))
def mi_X8_direction : aMi := (cX8_direction, 3, RX8, (some .int), { frames := 4, cells := 0, slots := 0, locals := 87 })
def f_X8_direction (x1 : Int32) (x2 : Int32) (M : aMm) : Option (Int32 × aMm) :=
  (f_X8_isCell x1 M).bind fun r2 => if (r2 : Int32) = 0 then bd2 (f_X8_finding (-100001 : Int32) M) fun r4 M5 => some (r4, M5) else (f_X8_isCell x2 M).bind fun r7 => if (r7 : Int32) = 0 then bd2 (f_X8_finding (-100001 : Int32) M) fun r15 M16 => some (r15, M16) else if (x1 : Int32) = x2 then bd2 (f_X8_finding (-100003 : Int32) M) fun r11 M12 => some (r11, M12) else (f_X8_wayBetween x1 x2 M).bind fun r9 => some (r9, M)
set_option maxRecDepth 100000 in
set_option maxHeartbeats 4000000 in
theorem jm_X8_direction {x1 : Int32} {x2 : Int32} {C : aSc} {M : aMm}  {res : aRes} {r : Int32 × aMm} (h : f_X8_direction x1 x2 M = some r) (Kr : ∀ (v : Int32) (S' : aMm), r = (v, S') → res = (some (.int v), (C, S'))) : J mi_X8_direction res 0 0 0 [(0, .ref (94)), (1, .int (x1)), (2, .int (x2))] [] (C, M) := by
  rw [f_X8_direction] at h
  refine J_iload_n dX8_direction_0 rfl 1 rfl ?_
  obtain ⟨r2, h1, h⟩ := br_b h
  refine J_callS (mj := mi_X8_isCell) (as := [.int (x1)]) (rest := []) (ct_X8_isCell (C := C)  h1) ⟨rfl, rfl⟩ rfl cg_X8_108 hd_X8_isCell rfl ⟨Nat.le_of_ble_eq_true rfl, Nat.le_of_ble_eq_true rfl⟩ (Nat.le_of_ble_eq_true rfl) ⟨Nat.zero_le _, Nat.zero_le _⟩ dX8_direction_1 ?_
  refine J_if_eq 14 dX8_direction_4 (by decide) (fun c18 => ?_) (fun c18 => ?_)
  · have h := br_p c18 h
    refine J_aload_n dX8_direction_14 rfl 0 rfl ?_
    refine J_ldc (-100001) dX8_direction_15 kc_X8_57 ?_
    obtain ⟨r4, M5, h3, h⟩ := br_b2 h
    refine J_callV (mj := mi_X8_finding) (as := [.int ((-100001 : Int32))]) (rest := []) (ct_X8_finding (C := C)  h3) ⟨rfl, rfl⟩ rfl rfl (by decide) rfl cg_X8_53 hd_X8_finding rfl ⟨Nat.le_of_ble_eq_true rfl, Nat.le_of_ble_eq_true rfl⟩ (Nat.le_of_ble_eq_true rfl) ⟨Nat.zero_le _, Nat.zero_le _⟩ dX8_direction_17 ?_
    have h := Option.some.inj h
    subst h
    exact J_iret rfl rfl rfl (Kr _ _ rfl) dX8_direction_20
  · have h := br_n c18 h
    refine J_iload_n dX8_direction_7 rfl 2 rfl ?_
    obtain ⟨r7, h6, h⟩ := br_b h
    refine J_callS (mj := mi_X8_isCell) (as := [.int (x2)]) (rest := []) (ct_X8_isCell (C := C)  h6) ⟨rfl, rfl⟩ rfl cg_X8_108 hd_X8_isCell rfl ⟨Nat.le_of_ble_eq_true rfl, Nat.le_of_ble_eq_true rfl⟩ (Nat.le_of_ble_eq_true rfl) ⟨Nat.zero_le _, Nat.zero_le _⟩ dX8_direction_8 ?_
    refine J_if_ne 21 dX8_direction_11 (by decide) (fun c17 => ?_) (fun c17 => ?_)
    · have h := br_n c17 h
      refine J_iload_n dX8_direction_21 rfl 1 rfl ?_
      refine J_iload_n dX8_direction_22 rfl 2 rfl ?_
      refine J_icmp_ne 35 dX8_direction_23 (by decide) (fun c13 => ?_) (fun c13 => ?_)
      · have h := br_n c13 h
        refine J_iload_n dX8_direction_35 rfl 1 rfl ?_
        refine J_iload_n dX8_direction_36 rfl 2 rfl ?_
        obtain ⟨r9, h8, h⟩ := br_b h
        refine J_callS (mj := mi_X8_wayBetween) (as := [.int (x1), .int (x2)]) (rest := []) (ct_X8_wayBetween (C := C)  h8) ⟨rfl, rfl⟩ rfl cg_X8_148 hd_X8_wayBetween rfl ⟨Nat.le_of_ble_eq_true rfl, Nat.le_of_ble_eq_true rfl⟩ (Nat.le_of_ble_eq_true rfl) ⟨Nat.zero_le _, Nat.zero_le _⟩ dX8_direction_37 ?_
        have h := Option.some.inj h
        subst h
        exact J_iret rfl rfl rfl (Kr _ _ rfl) dX8_direction_40
      · have h := br_p c13 h
        refine J_aload_n dX8_direction_26 rfl 0 rfl ?_
        refine J_ldc (-100003) dX8_direction_27 kc_X8_147 ?_
        obtain ⟨r11, M12, h10, h⟩ := br_b2 h
        refine J_callV (mj := mi_X8_finding) (as := [.int ((-100003 : Int32))]) (rest := []) (ct_X8_finding (C := C)  h10) ⟨rfl, rfl⟩ rfl rfl (by decide) rfl cg_X8_53 hd_X8_finding rfl ⟨Nat.le_of_ble_eq_true rfl, Nat.le_of_ble_eq_true rfl⟩ (Nat.le_of_ble_eq_true rfl) ⟨Nat.zero_le _, Nat.zero_le _⟩ dX8_direction_29 ?_
        refine J_goto 40 dX8_direction_32 (by decide) ?_
        have h := Option.some.inj h
        subst h
        exact J_iret rfl rfl rfl (Kr _ _ rfl) dX8_direction_40
    · have h := br_p c17 h
      refine J_aload_n dX8_direction_14 rfl 0 rfl ?_
      refine J_ldc (-100001) dX8_direction_15 kc_X8_57 ?_
      obtain ⟨r15, M16, h14, h⟩ := br_b2 h
      refine J_callV (mj := mi_X8_finding) (as := [.int ((-100001 : Int32))]) (rest := []) (ct_X8_finding (C := C)  h14) ⟨rfl, rfl⟩ rfl rfl (by decide) rfl cg_X8_53 hd_X8_finding rfl ⟨Nat.le_of_ble_eq_true rfl, Nat.le_of_ble_eq_true rfl⟩ (Nat.le_of_ble_eq_true rfl) ⟨Nat.zero_le _, Nat.zero_le _⟩ dX8_direction_17 ?_
      have h := Option.some.inj h
      subst h
      exact J_iret rfl rfl rfl (Kr _ _ rfl) dX8_direction_20
theorem ct_X8_direction {x1 : Int32} {x2 : Int32} {C : aSc} {M : aMm} {v : Int32} {S' : aMm}  (h : f_X8_direction x1 x2 M = some (v, S')) : Ct mi_X8_direction yX8_direction [.ref (94), .int (x1), .int (x2)] (C, M) (some (.int v), (C, S')) := Ct_of_J (by decide +kernel) rfl (Nat.le_of_ble_eq_true rfl) (jm_X8_direction  h (fun _ _ e => by cases e; rfl))
def mi_X8_colourOf : aMi := (cX8_colourOf, 9, RX8, (some .int), { frames := 4, cells := 0, slots := 0, locals := 87 })
def b_X8_colourOf_63 (x1 : Int32) (x5 : Int32) (x6 : Int32) (x7 : Int32) (M : aMm) : Option ((Int32 × Int32) ⊕ (Int32)) :=
  (f_X8_of x1 (6 : Int32) M).bind fun r16 => (m_ld M 1 r16).bind fun u17 => if (u17 : Int32) ≤ x7 then some (.inr x6) else (f_X8_of x1 ((10 : Int32) + ((3 : Int32) * x7)) M).bind fun r20 => (m_ld M 1 r20).bind fun u21 => (m_ld M 1 (r20 + (1 : Int32))).bind fun u23 => (f_X8_isFrom x5 u21 u23 M).bind fun r26 => if (r26 : Int32) = 0 then some (.inl (x6, (x7 + (1 : Int32)))) else (m_ld M 1 (r20 + (2 : Int32))).bind fun u27 => some (.inl (u27, (x7 + (1 : Int32))))
set_option maxRecDepth 100000 in
set_option maxHeartbeats 4000000 in
theorem jl_X8_colourOf_63 {x1 : Int32} {x5 : Int32} {M : aMm} {C : aSc}  {res : aRes} {r : Int32} : ∀ (n : Nat) (x6 : Int32) (x7 : Int32), lpf (fun a : Int32 × Int32 => b_X8_colourOf_63 (x1) (x5) a.1 a.2 M) n (x6, x7) = some r → (∀ (z6 : Int32), r = z6 → J mi_X8_colourOf res 0 0 138 [(6, .int (z6))] [] (C, M)) → J mi_X8_colourOf res 0 0 63 [(0, .ref (94)), (1, .int (x1)), (5, .int (x5)), (6, .int (x6)), (7, .int (x7))] [] (C, M) := by
  intro n
  induction n with
  | zero =>
    intro x6 x7 h
    cases h
  | succ n ih =>
    intro x6 x7 h Kx
    obtain ⟨r0, h, h2⟩ := br_b h
    have h : b_X8_colourOf_63 x1 x5 x6 x7 M = some r0 := h
    rw [b_X8_colourOf_63] at h
    refine J_iload dX8_colourOf_63 4 rfl ?_
    refine J_aload_n dX8_colourOf_65 rfl 0 rfl ?_
    refine J_getr (j := 0) (t := 103) (r := 95) rfl (by decide) (by decide) rfl (by decide) rfl rfl kf_X8_9 dX8_colourOf_66 ?_
    refine J_iload_n dX8_colourOf_69 rfl 1 rfl ?_
    refine J_bipush 6 dX8_colourOf_70 rfl ?_
    obtain ⟨r16, h15, h⟩ := br_b h
    refine J_callS (mj := mi_X8_of) (as := [.int (x1), .int ((6 : Int32))]) (rest := [.ref (95), .int (x7)]) (ct_X8_of (C := C)  h15) ⟨rfl, rfl⟩ rfl cg_X8_45 hd_X8_of rfl ⟨Nat.le_of_ble_eq_true rfl, Nat.le_of_ble_eq_true rfl⟩ (Nat.le_of_ble_eq_true rfl) ⟨Nat.zero_le _, Nat.zero_le _⟩ dX8_colourOf_72 ?_
    obtain ⟨u17, h18, h⟩ := br_b h
    refine J_ialdM (m0 := 1) rfl rfl h18 dX8_colourOf_75 ?_
    refine J_icmp_ge 138 dX8_colourOf_76 (by decide) (fun c30 => ?_) (fun c30 => ?_)
    · have h := br_p c30 h
      have h := Option.some.inj h
      subst h
      have h2 := Option.some.inj h2
      subst h2
      refine J_sub [3] rfl ?_
      exact Kx _ rfl
    · have h := br_n c30 h
      refine J_iload_n dX8_colourOf_79 rfl 1 rfl ?_
      refine J_bipush 10 dX8_colourOf_80 rfl ?_
      refine J_iconst 3 dX8_colourOf_82 rfl ?_
      refine J_iload dX8_colourOf_83 4 rfl ?_
      refine J_imul dX8_colourOf_85 ?_
      refine J_iadd dX8_colourOf_86 ?_
      obtain ⟨r20, h19, h⟩ := br_b h
      refine J_callS (mj := mi_X8_of) (as := [.int (x1), .int (((10 : Int32) + ((3 : Int32) * x7)))]) (rest := []) (ct_X8_of (C := C)  h19) ⟨rfl, rfl⟩ rfl cg_X8_45 hd_X8_of rfl ⟨Nat.le_of_ble_eq_true rfl, Nat.le_of_ble_eq_true rfl⟩ (Nat.le_of_ble_eq_true rfl) ⟨Nat.zero_le _, Nat.zero_le _⟩ dX8_colourOf_87 ?_
      refine J_istore (L' := [(8, .int (r20)), (0, .ref (94)), (1, .int (x1)), (5, .int (x5)), (6, .int (x6)), (7, .int (x7))]) dX8_colourOf_90 (by decide) rfl ?_
      refine J_iload dX8_colourOf_92 3 rfl ?_
      refine J_aload_n dX8_colourOf_94 rfl 1 rfl ?_
      refine J_getr (j := 0) (t := 103) (r := 95) rfl (by decide) (by decide) rfl (by decide) rfl rfl kf_X8_9 dX8_colourOf_95 ?_
      refine J_iload dX8_colourOf_98 0 rfl ?_
      obtain ⟨u21, h22, h⟩ := br_b h
      refine J_ialdM (m0 := 1) rfl rfl h22 dX8_colourOf_100 ?_
      refine J_aload_n dX8_colourOf_101 rfl 1 rfl ?_
      refine J_getr (j := 0) (t := 103) (r := 95) rfl (by decide) (by decide) rfl (by decide) rfl rfl kf_X8_9 dX8_colourOf_102 ?_
      refine J_iload dX8_colourOf_105 0 rfl ?_
      refine J_iconst 1 dX8_colourOf_107 rfl ?_
      refine J_iadd dX8_colourOf_108 ?_
      obtain ⟨u23, h24, h⟩ := br_b h
      refine J_ialdM (m0 := 1) rfl rfl h24 dX8_colourOf_109 ?_
      obtain ⟨r26, h25, h⟩ := br_b h
      refine J_callS (mj := mi_X8_isFrom) (as := [.int (x5), .int (u21), .int (u23)]) (rest := []) (ct_X8_isFrom (C := C)  h25) ⟨rfl, rfl⟩ rfl cg_X8_151 hd_X8_isFrom rfl ⟨Nat.le_of_ble_eq_true rfl, Nat.le_of_ble_eq_true rfl⟩ (Nat.le_of_ble_eq_true rfl) ⟨Nat.zero_le _, Nat.zero_le _⟩ dX8_colourOf_110 ?_
      refine J_if_eq 128 dX8_colourOf_113 (by decide) (fun c29 => ?_) (fun c29 => ?_)
      · have h := br_p c29 h
        refine J_iload dX8_colourOf_128 4 rfl ?_
        refine J_istore (L' := [(6, .int (x6)), (8, .int (r20)), (0, .ref (94)), (1, .int (x1)), (5, .int (x5)), (7, .int (x7))]) dX8_colourOf_130 (by decide) rfl ?_
        refine J_iinc (j := 5) (v := (x7 + (1 : Int32))) (L' := [(7, .int ((x7 + (1 : Int32)))), (6, .int (x6)), (8, .int (r20)), (0, .ref (94)), (1, .int (x1)), (5, .int (x5))]) dX8_colourOf_132 rfl rfl (by decide) rfl ?_
        refine J_goto 63 dX8_colourOf_135 (by decide) ?_
        have h := Option.some.inj h
        subst h
        refine J_sub [3, 4, 5, 1, 0] rfl ?_
        exact ih _ _ h2 Kx
      · have h := br_n c29 h
        refine J_aload_n dX8_colourOf_116 rfl 1 rfl ?_
        refine J_getr (j := 0) (t := 103) (r := 95) rfl (by decide) (by decide) rfl (by decide) rfl rfl kf_X8_9 dX8_colourOf_117 ?_
        refine J_iload dX8_colourOf_120 0 rfl ?_
        refine J_iconst 2 dX8_colourOf_122 rfl ?_
        refine J_iadd dX8_colourOf_123 ?_
        obtain ⟨u27, h28, h⟩ := br_b h
        refine J_ialdM (m0 := 1) rfl rfl h28 dX8_colourOf_124 ?_
        refine J_goto 130 dX8_colourOf_125 (by decide) ?_
        refine J_istore (L' := [(6, .int (u27)), (8, .int (r20)), (0, .ref (94)), (1, .int (x1)), (5, .int (x5)), (7, .int (x7))]) dX8_colourOf_130 (by decide) rfl ?_
        refine J_iinc (j := 5) (v := (x7 + (1 : Int32))) (L' := [(7, .int ((x7 + (1 : Int32)))), (6, .int (u27)), (8, .int (r20)), (0, .ref (94)), (1, .int (x1)), (5, .int (x5))]) dX8_colourOf_132 rfl rfl (by decide) rfl ?_
        refine J_goto 63 dX8_colourOf_135 (by decide) ?_
        have h := Option.some.inj h
        subst h
        refine J_sub [3, 4, 5, 1, 0] rfl ?_
        exact ih _ _ h2 Kx
def g_X8_colourOf_58 (x1 : Int32) (x5 : Int32) (t0 : Int32) (M : aMm) : Option (Int32) :=
  (lpf (fun a : Int32 × Int32 => b_X8_colourOf_63 (x1) (x5) a.1 a.2 M) FU (t0, (0 : Int32))).bind fun z31 => some z31
set_option maxRecDepth 100000 in
set_option maxHeartbeats 4000000 in
theorem jb_X8_colourOf_58 {x1 : Int32} {x5 : Int32} {t0 : Int32} {M : aMm} {C : aSc}  {res : aRes} {r : Int32} (h : g_X8_colourOf_58 x1 x5 t0 M = some r) (Kr : ∀ (v : Int32), r = v → res = (some (.int v), (C, M))) : J mi_X8_colourOf res 0 0 58 [(0, .ref (94)), (1, .int (x1)), (5, .int (x5))] [.int (t0)] (C, M) := by
  rw [g_X8_colourOf_58] at h
  refine J_istore (L' := [(6, .int (t0)), (0, .ref (94)), (1, .int (x1)), (5, .int (x5))]) dX8_colourOf_58 (by decide) rfl ?_
  refine J_iconst 0 dX8_colourOf_60 rfl ?_
  refine J_istore (L' := [(7, .int ((0 : Int32))), (6, .int (t0)), (0, .ref (94)), (1, .int (x1)), (5, .int (x5))]) dX8_colourOf_61 (by decide) rfl ?_
  refine J_sub [2, 3, 4, 1, 0] rfl ?_
  obtain ⟨z31, h32, h⟩ := br_b h
  refine jl_X8_colourOf_63  FU _ _ h32 ?_
  intro zz e
  subst e
  refine J_iload dX8_colourOf_138 0 rfl ?_
  have h := Option.some.inj h
  subst h
  exact J_iret rfl rfl rfl (Kr _ rfl) dX8_colourOf_140
def f_X8_colourOf (x1 : Int32) (x2 : Int32) (M : aMm) : Option (Int32) :=
  (f_X8_of x1 (3 : Int32) M).bind fun r2 => (m_ld M 1 r2).bind fun u3 => (f_X8_of x1 (1 : Int32) M).bind fun r6 => (m_ld M 1 r6).bind fun u7 => if (x2 : Int32) = u7 then some u3 else (f_X8_wayBetween u7 x2 M).bind fun r10 => (f_X8_of x1 (0 : Int32) M).bind fun r12 => (m_ld M 1 r12).bind fun u13 => if (u13 : Int32) = (3 : Int32) then g_X8_colourOf_58 (x1) (r10) ((3 : Int32)) M else g_X8_colourOf_58 (x1) (r10) (u3) M
set_option maxRecDepth 100000 in
set_option maxHeartbeats 4000000 in
theorem jm_X8_colourOf {x1 : Int32} {x2 : Int32} {C : aSc} {M : aMm}  {res : aRes} {r : Int32} (h : f_X8_colourOf x1 x2 M = some r) (Kr : ∀ (v : Int32), r = v → res = (some (.int v), (C, M))) : J mi_X8_colourOf res 0 0 0 [(0, .ref (94)), (1, .int (x1)), (2, .int (x2))] [] (C, M) := by
  rw [f_X8_colourOf] at h
  refine J_aload_n dX8_colourOf_0 rfl 0 rfl ?_
  refine J_getr (j := 0) (t := 103) (r := 95) rfl (by decide) (by decide) rfl (by decide) rfl rfl kf_X8_9 dX8_colourOf_1 ?_
  refine J_iload_n dX8_colourOf_4 rfl 1 rfl ?_
  refine J_iconst 3 dX8_colourOf_5 rfl ?_
  obtain ⟨r2, h1, h⟩ := br_b h
  refine J_callS (mj := mi_X8_of) (as := [.int (x1), .int ((3 : Int32))]) (rest := [.ref (95)]) (ct_X8_of (C := C)  h1) ⟨rfl, rfl⟩ rfl cg_X8_45 hd_X8_of rfl ⟨Nat.le_of_ble_eq_true rfl, Nat.le_of_ble_eq_true rfl⟩ (Nat.le_of_ble_eq_true rfl) ⟨Nat.zero_le _, Nat.zero_le _⟩ dX8_colourOf_6 ?_
  obtain ⟨u3, h4, h⟩ := br_b h
  refine J_ialdM (m0 := 1) rfl rfl h4 dX8_colourOf_9 ?_
  refine J_istore_n (L' := [(3, .int (u3)), (0, .ref (94)), (1, .int (x1)), (2, .int (x2))]) dX8_colourOf_10 rfl (by decide) rfl ?_
  refine J_aload_n dX8_colourOf_11 rfl 1 rfl ?_
  refine J_getr (j := 0) (t := 103) (r := 95) rfl (by decide) (by decide) rfl (by decide) rfl rfl kf_X8_9 dX8_colourOf_12 ?_
  refine J_iload_n dX8_colourOf_15 rfl 2 rfl ?_
  refine J_iconst 1 dX8_colourOf_16 rfl ?_
  obtain ⟨r6, h5, h⟩ := br_b h
  refine J_callS (mj := mi_X8_of) (as := [.int (x1), .int ((1 : Int32))]) (rest := [.ref (95)]) (ct_X8_of (C := C)  h5) ⟨rfl, rfl⟩ rfl cg_X8_45 hd_X8_of rfl ⟨Nat.le_of_ble_eq_true rfl, Nat.le_of_ble_eq_true rfl⟩ (Nat.le_of_ble_eq_true rfl) ⟨Nat.zero_le _, Nat.zero_le _⟩ dX8_colourOf_17 ?_
  obtain ⟨u7, h8, h⟩ := br_b h
  refine J_ialdM (m0 := 1) rfl rfl h8 dX8_colourOf_20 ?_
  refine J_istore (L' := [(4, .int (u7)), (3, .int (u3)), (0, .ref (94)), (1, .int (x1)), (2, .int (x2))]) dX8_colourOf_21 (by decide) rfl ?_
  refine J_iload_n dX8_colourOf_23 rfl 4 rfl ?_
  refine J_iload dX8_colourOf_24 0 rfl ?_
  refine J_icmp_ne 31 dX8_colourOf_26 (by decide) (fun c35 => ?_) (fun c35 => ?_)
  · have h := br_n c35 h
    refine J_iload dX8_colourOf_31 0 rfl ?_
    refine J_iload_n dX8_colourOf_33 rfl 4 rfl ?_
    obtain ⟨r10, h9, h⟩ := br_b h
    refine J_callS (mj := mi_X8_wayBetween) (as := [.int (u7), .int (x2)]) (rest := []) (ct_X8_wayBetween (C := C)  h9) ⟨rfl, rfl⟩ rfl cg_X8_148 hd_X8_wayBetween rfl ⟨Nat.le_of_ble_eq_true rfl, Nat.le_of_ble_eq_true rfl⟩ (Nat.le_of_ble_eq_true rfl) ⟨Nat.zero_le _, Nat.zero_le _⟩ dX8_colourOf_34 ?_
    refine J_istore (L' := [(5, .int (r10)), (4, .int (u7)), (3, .int (u3)), (0, .ref (94)), (1, .int (x1)), (2, .int (x2))]) dX8_colourOf_37 (by decide) rfl ?_
    refine J_aload_n dX8_colourOf_39 rfl 3 rfl ?_
    refine J_getr (j := 0) (t := 103) (r := 95) rfl (by decide) (by decide) rfl (by decide) rfl rfl kf_X8_9 dX8_colourOf_40 ?_
    refine J_iload_n dX8_colourOf_43 rfl 4 rfl ?_
    refine J_iconst 0 dX8_colourOf_44 rfl ?_
    obtain ⟨r12, h11, h⟩ := br_b h
    refine J_callS (mj := mi_X8_of) (as := [.int (x1), .int ((0 : Int32))]) (rest := [.ref (95)]) (ct_X8_of (C := C)  h11) ⟨rfl, rfl⟩ rfl cg_X8_45 hd_X8_of rfl ⟨Nat.le_of_ble_eq_true rfl, Nat.le_of_ble_eq_true rfl⟩ (Nat.le_of_ble_eq_true rfl) ⟨Nat.zero_le _, Nat.zero_le _⟩ dX8_colourOf_45 ?_
    obtain ⟨u13, h14, h⟩ := br_b h
    refine J_ialdM (m0 := 1) rfl rfl h14 dX8_colourOf_48 ?_
    refine J_iconst 3 dX8_colourOf_49 rfl ?_
    refine J_icmp_ne 57 dX8_colourOf_50 (by decide) (fun c34 => ?_) (fun c34 => ?_)
    · have h := br_n c34 h
      refine J_iload_n dX8_colourOf_57 rfl 2 rfl ?_
      refine J_sub [3, 4, 0] rfl ?_
      exact jb_X8_colourOf_58  h Kr
    · have h := br_p c34 h
      refine J_iconst 3 dX8_colourOf_53 rfl ?_
      refine J_goto 58 dX8_colourOf_54 (by decide) ?_
      refine J_sub [3, 4, 0] rfl ?_
      exact jb_X8_colourOf_58  h Kr
  · have h := br_p c35 h
    refine J_iload_n dX8_colourOf_29 rfl 1 rfl ?_
    have h := Option.some.inj h
    subst h
    exact J_iret rfl rfl rfl (Kr _ rfl) dX8_colourOf_30
theorem ct_X8_colourOf {x1 : Int32} {x2 : Int32} {C : aSc} {M : aMm} {v : Int32}  (h : f_X8_colourOf x1 x2 M = some v) : Ct mi_X8_colourOf yX8_colourOf [.ref (94), .int (x1), .int (x2)] (C, M) (some (.int v), (C, M)) := Ct_of_J (by decide +kernel) rfl (Nat.le_of_ble_eq_true rfl) (jm_X8_colourOf  h (fun _ e => by cases e; rfl))
def mi_X8_colour : aMi := (cX8_colour, 3, RX8, (some .int), { frames := 5, cells := 0, slots := 0, locals := 115 })
def f_X8_colour (x1 : Int32) (x2 : Int32) (M : aMm) : Option (Int32 × aMm) :=
  (f_X8_isLight x1 M).bind fun r2 => if (r2 : Int32) = 0 then bd2 (f_X8_finding (-100001 : Int32) M) fun r4 M5 => some (r4, M5) else (f_X8_isCell x2 M).bind fun r7 => if (r7 : Int32) = 0 then bd2 (f_X8_finding (-100001 : Int32) M) fun r9 M10 => some (r9, M10) else (f_X8_colourOf x1 x2 M).bind fun r12 => some (r12, M)
set_option maxRecDepth 100000 in
set_option maxHeartbeats 4000000 in
theorem jm_X8_colour {x1 : Int32} {x2 : Int32} {C : aSc} {M : aMm}  {res : aRes} {r : Int32 × aMm} (h : f_X8_colour x1 x2 M = some r) (Kr : ∀ (v : Int32) (S' : aMm), r = (v, S') → res = (some (.int v), (C, S'))) : J mi_X8_colour res 0 0 0 [(0, .ref (94)), (1, .int (x1)), (2, .int (x2))] [] (C, M) := by
  rw [f_X8_colour] at h
  refine J_aload_n dX8_colour_0 rfl 0 rfl ?_
  refine J_iload_n dX8_colour_1 rfl 1 rfl ?_
  obtain ⟨r2, h1, h⟩ := br_b h
  refine J_callV (mj := mi_X8_isLight) (as := [.int (x1)]) (rest := []) (ct_X8_isLight (C := C)  h1) ⟨rfl, rfl⟩ rfl rfl (by decide) rfl cg_X8_120 hd_X8_isLight rfl ⟨Nat.le_of_ble_eq_true rfl, Nat.le_of_ble_eq_true rfl⟩ (Nat.le_of_ble_eq_true rfl) ⟨Nat.zero_le _, Nat.zero_le _⟩ dX8_colour_2 ?_
  refine J_if_eq 24 dX8_colour_5 (by decide) (fun c14 => ?_) (fun c14 => ?_)
  · have h := br_p c14 h
    refine J_aload_n dX8_colour_24 rfl 0 rfl ?_
    refine J_ldc (-100001) dX8_colour_25 kc_X8_57 ?_
    obtain ⟨r4, M5, h3, h⟩ := br_b2 h
    refine J_callV (mj := mi_X8_finding) (as := [.int ((-100001 : Int32))]) (rest := []) (ct_X8_finding (C := C)  h3) ⟨rfl, rfl⟩ rfl rfl (by decide) rfl cg_X8_53 hd_X8_finding rfl ⟨Nat.le_of_ble_eq_true rfl, Nat.le_of_ble_eq_true rfl⟩ (Nat.le_of_ble_eq_true rfl) ⟨Nat.zero_le _, Nat.zero_le _⟩ dX8_colour_27 ?_
    have h := Option.some.inj h
    subst h
    exact J_iret rfl rfl rfl (Kr _ _ rfl) dX8_colour_30
  · have h := br_n c14 h
    refine J_iload_n dX8_colour_8 rfl 2 rfl ?_
    obtain ⟨r7, h6, h⟩ := br_b h
    refine J_callS (mj := mi_X8_isCell) (as := [.int (x2)]) (rest := []) (ct_X8_isCell (C := C)  h6) ⟨rfl, rfl⟩ rfl cg_X8_108 hd_X8_isCell rfl ⟨Nat.le_of_ble_eq_true rfl, Nat.le_of_ble_eq_true rfl⟩ (Nat.le_of_ble_eq_true rfl) ⟨Nat.zero_le _, Nat.zero_le _⟩ dX8_colour_9 ?_
    refine J_if_eq 24 dX8_colour_12 (by decide) (fun c13 => ?_) (fun c13 => ?_)
    · have h := br_p c13 h
      refine J_aload_n dX8_colour_24 rfl 0 rfl ?_
      refine J_ldc (-100001) dX8_colour_25 kc_X8_57 ?_
      obtain ⟨r9, M10, h8, h⟩ := br_b2 h
      refine J_callV (mj := mi_X8_finding) (as := [.int ((-100001 : Int32))]) (rest := []) (ct_X8_finding (C := C)  h8) ⟨rfl, rfl⟩ rfl rfl (by decide) rfl cg_X8_53 hd_X8_finding rfl ⟨Nat.le_of_ble_eq_true rfl, Nat.le_of_ble_eq_true rfl⟩ (Nat.le_of_ble_eq_true rfl) ⟨Nat.zero_le _, Nat.zero_le _⟩ dX8_colour_27 ?_
      have h := Option.some.inj h
      subst h
      exact J_iret rfl rfl rfl (Kr _ _ rfl) dX8_colour_30
    · have h := br_n c13 h
      refine J_aload_n dX8_colour_15 rfl 0 rfl ?_
      refine J_iload_n dX8_colour_16 rfl 1 rfl ?_
      refine J_iload_n dX8_colour_17 rfl 2 rfl ?_
      obtain ⟨r12, h11, h⟩ := br_b h
      refine J_callV (mj := mi_X8_colourOf) (as := [.int (x1), .int (x2)]) (rest := []) (ct_X8_colourOf (C := C)  h11) ⟨rfl, rfl⟩ rfl rfl (by decide) rfl cg_X8_154 hd_X8_colourOf rfl ⟨Nat.le_of_ble_eq_true rfl, Nat.le_of_ble_eq_true rfl⟩ (Nat.le_of_ble_eq_true rfl) ⟨Nat.zero_le _, Nat.zero_le _⟩ dX8_colour_18 ?_
      refine J_goto 30 dX8_colour_21 (by decide) ?_
      have h := Option.some.inj h
      subst h
      exact J_iret rfl rfl rfl (Kr _ _ rfl) dX8_colour_30
theorem ct_X8_colour {x1 : Int32} {x2 : Int32} {C : aSc} {M : aMm} {v : Int32} {S' : aMm}  (h : f_X8_colour x1 x2 M = some (v, S')) : Ct mi_X8_colour yX8_colour [.ref (94), .int (x1), .int (x2)] (C, M) (some (.int v), (C, S')) := Ct_of_J (by decide +kernel) rfl (Nat.le_of_ble_eq_true rfl) (jm_X8_colour  h (fun _ _ e => by cases e; rfl))
def mi_X8_isNear : aMi := (cX8_isNear, 7, RX8, (some .boolean), { frames := 1, cells := 0, slots := 0, locals := 21 })
def f_X8_isNear (x1 : Int32) (x2 : Int32) (x3 : Int32) (M : aMm) : Option (Int32) :=
  (f_X8_of x1 (2 : Int32) M).bind fun r2 => (m_ld M 1 r2).bind fun u3 => (m_ld M 1 (4 : Int32)).bind fun u5 => if (((a_max (0 : Int32) (u3 - u5)) * (a_max (0 : Int32) (u3 - u5))) : Int32) < ((((x2 - x2 / (16 : Int32) * (16 : Int32)) - (x3 - x3 / (16 : Int32) * (16 : Int32))) * ((x2 - x2 / (16 : Int32) * (16 : Int32)) - (x3 - x3 / (16 : Int32) * (16 : Int32)))) + (((x2 / (16 : Int32)) - (x3 / (16 : Int32))) * ((x2 / (16 : Int32)) - (x3 / (16 : Int32))))) then some (0 : Int32) else some (1 : Int32)
set_option maxRecDepth 100000 in
set_option maxHeartbeats 4000000 in
theorem jm_X8_isNear {x1 : Int32} {x2 : Int32} {x3 : Int32} {C : aSc} {M : aMm}  {res : aRes} {r : Int32} (h : f_X8_isNear x1 x2 x3 M = some r) (Kr : ∀ (v : Int32), r = v → res = (some (.int v), (C, M))) : J mi_X8_isNear res 0 0 0 [(0, .ref (94)), (1, .int (x1)), (2, .int (x2)), (3, .int (x3))] [] (C, M) := by
  rw [f_X8_isNear] at h
  refine J_iconst 0 dX8_isNear_0 rfl ?_
  refine J_aload_n dX8_isNear_1 rfl 0 rfl ?_
  refine J_getr (j := 0) (t := 103) (r := 95) rfl (by decide) (by decide) rfl (by decide) rfl rfl kf_X8_9 dX8_isNear_2 ?_
  refine J_iload_n dX8_isNear_5 rfl 1 rfl ?_
  refine J_iconst 2 dX8_isNear_6 rfl ?_
  obtain ⟨r2, h1, h⟩ := br_b h
  refine J_callS (mj := mi_X8_of) (as := [.int (x1), .int ((2 : Int32))]) (rest := [.ref (95), .int ((0 : Int32))]) (ct_X8_of (C := C)  h1) ⟨rfl, rfl⟩ rfl cg_X8_45 hd_X8_of rfl ⟨Nat.le_of_ble_eq_true rfl, Nat.le_of_ble_eq_true rfl⟩ (Nat.le_of_ble_eq_true rfl) ⟨Nat.zero_le _, Nat.zero_le _⟩ dX8_isNear_7 ?_
  obtain ⟨u3, h4, h⟩ := br_b h
  refine J_ialdM (m0 := 1) rfl rfl h4 dX8_isNear_10 ?_
  refine J_aload_n dX8_isNear_11 rfl 0 rfl ?_
  refine J_getr (j := 0) (t := 103) (r := 95) rfl (by decide) (by decide) rfl (by decide) rfl rfl kf_X8_9 dX8_isNear_12 ?_
  refine J_iconst 4 dX8_isNear_15 rfl ?_
  obtain ⟨u5, h6, h⟩ := br_b h
  refine J_ialdM (m0 := 1) rfl rfl h6 dX8_isNear_16 ?_
  refine J_isub dX8_isNear_17 ?_
  refine J_mmax km_X8_157 kst_Math_max ki_Math kcd_Math_max (by decide) (Nat.le_of_ble_eq_true rfl) ⟨Nat.zero_le _, Nat.zero_le _⟩ dX8_isNear_18 ?_
  refine J_istore (L' := [(4, .int ((a_max (0 : Int32) (u3 - u5)))), (0, .ref (94)), (1, .int (x1)), (2, .int (x2)), (3, .int (x3))]) dX8_isNear_21 (by decide) rfl ?_
  refine J_iload_n dX8_isNear_23 rfl 3 rfl ?_
  refine J_bipush 16 dX8_isNear_24 rfl ?_
  refine J_irem dX8_isNear_26 (by decide) ?_
  refine J_iload_n dX8_isNear_27 rfl 4 rfl ?_
  refine J_bipush 16 dX8_isNear_28 rfl ?_
  refine J_irem dX8_isNear_30 (by decide) ?_
  refine J_isub dX8_isNear_31 ?_
  refine J_istore (L' := [(5, .int (((x2 - x2 / (16 : Int32) * (16 : Int32)) - (x3 - x3 / (16 : Int32) * (16 : Int32))))), (4, .int ((a_max (0 : Int32) (u3 - u5)))), (0, .ref (94)), (1, .int (x1)), (2, .int (x2)), (3, .int (x3))]) dX8_isNear_32 (by decide) rfl ?_
  refine J_iload_n dX8_isNear_34 rfl 4 rfl ?_
  refine J_bipush 16 dX8_isNear_35 rfl ?_
  refine J_idiv dX8_isNear_37 (by decide) ?_
  refine J_iload_n dX8_isNear_38 rfl 5 rfl ?_
  refine J_bipush 16 dX8_isNear_39 rfl ?_
  refine J_idiv dX8_isNear_41 (by decide) ?_
  refine J_isub dX8_isNear_42 ?_
  refine J_istore (L' := [(6, .int (((x2 / (16 : Int32)) - (x3 / (16 : Int32))))), (5, .int (((x2 - x2 / (16 : Int32) * (16 : Int32)) - (x3 - x3 / (16 : Int32) * (16 : Int32))))), (4, .int ((a_max (0 : Int32) (u3 - u5)))), (0, .ref (94)), (1, .int (x1)), (2, .int (x2)), (3, .int (x3))]) dX8_isNear_43 (by decide) rfl ?_
  refine J_iload dX8_isNear_45 1 rfl ?_
  refine J_iload dX8_isNear_47 1 rfl ?_
  refine J_imul dX8_isNear_49 ?_
  refine J_iload dX8_isNear_50 0 rfl ?_
  refine J_iload dX8_isNear_52 0 rfl ?_
  refine J_imul dX8_isNear_54 ?_
  refine J_iadd dX8_isNear_55 ?_
  refine J_iload dX8_isNear_56 2 rfl ?_
  refine J_iload dX8_isNear_58 2 rfl ?_
  refine J_imul dX8_isNear_60 ?_
  refine J_icmp_gt 68 dX8_isNear_61 (by decide) (fun c7 => ?_) (fun c7 => ?_)
  · have h := br_p c7 h
    refine J_iconst 0 dX8_isNear_68 rfl ?_
    have h := Option.some.inj h
    subst h
    exact J_zret (Or.inl rfl) rfl rfl rfl (Kr _ rfl) dX8_isNear_69
  · have h := br_n c7 h
    refine J_iconst 1 dX8_isNear_64 rfl ?_
    refine J_goto 69 dX8_isNear_65 (by decide) ?_
    have h := Option.some.inj h
    subst h
    exact J_zret (Or.inr rfl) rfl rfl rfl (Kr _ rfl) dX8_isNear_69
theorem ct_X8_isNear {x1 : Int32} {x2 : Int32} {x3 : Int32} {C : aSc} {M : aMm} {v : Int32}  (h : f_X8_isNear x1 x2 x3 M = some v) : Ct mi_X8_isNear yX8_isNear [.ref (94), .int (x1), .int (x2), .int (x3)] (C, M) (some (.int v), (C, M)) := Ct_of_J (by decide +kernel) rfl (Nat.le_of_ble_eq_true rfl) (jm_X8_isNear  h (fun _ e => by cases e; rfl))
def mi_X8_isOut : aMi := (cX8_isOut, 8, RX8, (some .boolean), { frames := 1, cells := 0, slots := 0, locals := 22 })
def g_X8_isOut_81 (x1 : Int32) (x2 : Int32) (x3 : Int32) (x4 : Int32) (x5 : Int32) (x6 : Int32) (t0 : Int32) (M : aMm) : Option ((Int32 × Int32) ⊕ (Int32)) :=
  if (t0 : Int32) = 0 then some (.inl (x4, (x5 + (1 : Int32)))) else (m_ld M 1 (x6 + (4 : Int32))).bind fun u5 => if (u5 : Int32) = (1 : Int32) then some (.inl ((1 : Int32), (x5 + (1 : Int32)))) else some (.inl ((0 : Int32), (x5 + (1 : Int32))))
set_option maxRecDepth 100000 in
set_option maxHeartbeats 4000000 in
theorem jb_X8_isOut_81 {x1 : Int32} {x2 : Int32} {x3 : Int32} {x4 : Int32} {x5 : Int32} {x6 : Int32} {t0 : Int32} {M : aMm} {C : aSc}  {res : aRes} {r : (Int32 × Int32) ⊕ (Int32)} (h : g_X8_isOut_81 x1 x2 x3 x4 x5 x6 t0 M = some r) (Kn : ∀ (y4 : Int32) (y5 : Int32), r = .inl (y4, y5) → J mi_X8_isOut res 0 0 6 [(0, .ref (94)), (1, .int (x1)), (2, .int (x2)), (3, .int (x3)), (4, .int (y4)), (5, .int (y5))] [] (C, M)) (Kx : ∀ (z4 : Int32), r = .inr z4 → J mi_X8_isOut res 0 0 119 [(4, .int (z4))] [] (C, M)) : J mi_X8_isOut res 0 0 81 [(0, .ref (94)), (1, .int (x1)), (2, .int (x2)), (3, .int (x3)), (4, .int (x4)), (5, .int (x5)), (6, .int (x6))] [.int (t0)] (C, M) := by
  rw [g_X8_isOut_81] at h
  refine J_istore (L' := [(7, .int (t0)), (0, .ref (94)), (1, .int (x1)), (2, .int (x2)), (3, .int (x3)), (4, .int (x4)), (5, .int (x5)), (6, .int (x6))]) dX8_isOut_81 (by decide) rfl ?_
  refine J_iload dX8_isOut_83 0 rfl ?_
  refine J_if_eq 109 dX8_isOut_85 (by decide) (fun c8 => ?_) (fun c8 => ?_)
  · have h := br_p c8 h
    refine J_iload dX8_isOut_109 5 rfl ?_
    refine J_istore (L' := [(4, .int (x4)), (7, .int (t0)), (0, .ref (94)), (1, .int (x1)), (2, .int (x2)), (3, .int (x3)), (5, .int (x5)), (6, .int (x6))]) dX8_isOut_111 (by decide) rfl ?_
    refine J_iinc (j := 6) (v := (x5 + (1 : Int32))) (L' := [(5, .int ((x5 + (1 : Int32)))), (4, .int (x4)), (7, .int (t0)), (0, .ref (94)), (1, .int (x1)), (2, .int (x2)), (3, .int (x3)), (6, .int (x6))]) dX8_isOut_113 rfl rfl (by decide) rfl ?_
    refine J_goto 6 dX8_isOut_116 (by decide) ?_
    have h := Option.some.inj h
    subst h
    refine J_sub [3, 4, 5, 6, 1, 0] rfl ?_
    exact Kn _ _ rfl
  · have h := br_n c8 h
    refine J_aload_n dX8_isOut_88 rfl 1 rfl ?_
    refine J_getr (j := 0) (t := 103) (r := 95) rfl (by decide) (by decide) rfl (by decide) rfl rfl kf_X8_9 dX8_isOut_89 ?_
    refine J_iload dX8_isOut_92 7 rfl ?_
    refine J_iconst 4 dX8_isOut_94 rfl ?_
    refine J_iadd dX8_isOut_95 ?_
    obtain ⟨u5, h6, h⟩ := br_b h
    refine J_ialdM (m0 := 1) rfl rfl h6 dX8_isOut_96 ?_
    refine J_iconst 1 dX8_isOut_97 rfl ?_
    refine J_icmp_ne 105 dX8_isOut_98 (by decide) (fun c7 => ?_) (fun c7 => ?_)
    · have h := br_n c7 h
      refine J_iconst 0 dX8_isOut_105 rfl ?_
      refine J_goto 111 dX8_isOut_106 (by decide) ?_
      refine J_istore (L' := [(4, .int ((0 : Int32))), (7, .int (t0)), (0, .ref (94)), (1, .int (x1)), (2, .int (x2)), (3, .int (x3)), (5, .int (x5)), (6, .int (x6))]) dX8_isOut_111 (by decide) rfl ?_
      refine J_iinc (j := 6) (v := (x5 + (1 : Int32))) (L' := [(5, .int ((x5 + (1 : Int32)))), (4, .int ((0 : Int32))), (7, .int (t0)), (0, .ref (94)), (1, .int (x1)), (2, .int (x2)), (3, .int (x3)), (6, .int (x6))]) dX8_isOut_113 rfl rfl (by decide) rfl ?_
      refine J_goto 6 dX8_isOut_116 (by decide) ?_
      have h := Option.some.inj h
      subst h
      refine J_sub [3, 4, 5, 6, 1, 0] rfl ?_
      exact Kn _ _ rfl
    · have h := br_p c7 h
      refine J_iconst 1 dX8_isOut_101 rfl ?_
      refine J_goto 111 dX8_isOut_102 (by decide) ?_
      refine J_istore (L' := [(4, .int ((1 : Int32))), (7, .int (t0)), (0, .ref (94)), (1, .int (x1)), (2, .int (x2)), (3, .int (x3)), (5, .int (x5)), (6, .int (x6))]) dX8_isOut_111 (by decide) rfl ?_
      refine J_iinc (j := 6) (v := (x5 + (1 : Int32))) (L' := [(5, .int ((x5 + (1 : Int32)))), (4, .int ((1 : Int32))), (7, .int (t0)), (0, .ref (94)), (1, .int (x1)), (2, .int (x2)), (3, .int (x3)), (6, .int (x6))]) dX8_isOut_113 rfl rfl (by decide) rfl ?_
      refine J_goto 6 dX8_isOut_116 (by decide) ?_
      have h := Option.some.inj h
      subst h
      refine J_sub [3, 4, 5, 6, 1, 0] rfl ?_
      exact Kn _ _ rfl
def g_X8_isOut_80 (x1 : Int32) (x2 : Int32) (x3 : Int32) (x4 : Int32) (x5 : Int32) (x6 : Int32) (M : aMm) : Option ((Int32 × Int32) ⊕ (Int32)) :=
  g_X8_isOut_81 (x1) (x2) (x3) (x4) (x5) (x6) ((0 : Int32)) M
set_option maxRecDepth 100000 in
set_option maxHeartbeats 4000000 in
theorem jb_X8_isOut_80 {x1 : Int32} {x2 : Int32} {x3 : Int32} {x4 : Int32} {x5 : Int32} {x6 : Int32} {M : aMm} {C : aSc}  {res : aRes} {r : (Int32 × Int32) ⊕ (Int32)} (h : g_X8_isOut_80 x1 x2 x3 x4 x5 x6 M = some r) (Kn : ∀ (y4 : Int32) (y5 : Int32), r = .inl (y4, y5) → J mi_X8_isOut res 0 0 6 [(0, .ref (94)), (1, .int (x1)), (2, .int (x2)), (3, .int (x3)), (4, .int (y4)), (5, .int (y5))] [] (C, M)) (Kx : ∀ (z4 : Int32), r = .inr z4 → J mi_X8_isOut res 0 0 119 [(4, .int (z4))] [] (C, M)) : J mi_X8_isOut res 0 0 80 [(0, .ref (94)), (1, .int (x1)), (2, .int (x2)), (3, .int (x3)), (4, .int (x4)), (5, .int (x5)), (6, .int (x6))] [] (C, M) := by
  rw [g_X8_isOut_80] at h
  refine J_iconst 0 dX8_isOut_80 rfl ?_
  exact jb_X8_isOut_81  h Kn Kx
def b_X8_isOut_6 (x1 : Int32) (x2 : Int32) (x3 : Int32) (x4 : Int32) (x5 : Int32) (M : aMm) : Option ((Int32 × Int32) ⊕ (Int32)) :=
  (m_ld M 1 (3 : Int32)).bind fun u1 => if (u1 : Int32) ≤ x5 then some (.inr x4) else (m_ld M 1 ((266 : Int32) + ((5 : Int32) * x5))).bind fun u3 => if (u3 : Int32) = x1 then (m_ld M 1 (((266 : Int32) + ((5 : Int32) * x5)) + (1 : Int32))).bind fun u9 => (m_ld M 1 (((266 : Int32) + ((5 : Int32) * x5)) + (2 : Int32))).bind fun u11 => (f_X8_within x2 u9 u11 M).bind fun r14 => if (r14 : Int32) = 0 then g_X8_isOut_80 (x1) (x2) (x3) (x4) (x5) (((266 : Int32) + ((5 : Int32) * x5))) M else (m_ld M 1 (((266 : Int32) + ((5 : Int32) * x5)) + (3 : Int32))).bind fun u15 => if (x3 : Int32) < u15 then g_X8_isOut_80 (x1) (x2) (x3) (x4) (x5) (((266 : Int32) + ((5 : Int32) * x5))) M else g_X8_isOut_81 (x1) (x2) (x3) (x4) (x5) (((266 : Int32) + ((5 : Int32) * x5))) ((1 : Int32)) M else g_X8_isOut_80 (x1) (x2) (x3) (x4) (x5) (((266 : Int32) + ((5 : Int32) * x5))) M
set_option maxRecDepth 100000 in
set_option maxHeartbeats 4000000 in
theorem jl_X8_isOut_6 {x1 : Int32} {x2 : Int32} {x3 : Int32} {M : aMm} {C : aSc}  {res : aRes} {r : Int32} : ∀ (n : Nat) (x4 : Int32) (x5 : Int32), lpf (fun a : Int32 × Int32 => b_X8_isOut_6 (x1) (x2) (x3) a.1 a.2 M) n (x4, x5) = some r → (∀ (z4 : Int32), r = z4 → J mi_X8_isOut res 0 0 119 [(4, .int (z4))] [] (C, M)) → J mi_X8_isOut res 0 0 6 [(0, .ref (94)), (1, .int (x1)), (2, .int (x2)), (3, .int (x3)), (4, .int (x4)), (5, .int (x5))] [] (C, M) := by
  intro n
  induction n with
  | zero =>
    intro x4 x5 h
    cases h
  | succ n ih =>
    intro x4 x5 h Kx
    obtain ⟨r0, h, h2⟩ := br_b h
    have h : b_X8_isOut_6 x1 x2 x3 x4 x5 M = some r0 := h
    rw [b_X8_isOut_6] at h
    refine J_iload dX8_isOut_6 5 rfl ?_
    refine J_aload_n dX8_isOut_8 rfl 0 rfl ?_
    refine J_getr (j := 0) (t := 103) (r := 95) rfl (by decide) (by decide) rfl (by decide) rfl rfl kf_X8_9 dX8_isOut_9 ?_
    refine J_iconst 3 dX8_isOut_12 rfl ?_
    obtain ⟨u1, h2, h⟩ := br_b h
    refine J_ialdM (m0 := 1) rfl rfl h2 dX8_isOut_13 ?_
    refine J_icmp_ge 119 dX8_isOut_14 (by decide) (fun c20 => ?_) (fun c20 => ?_)
    · have h := br_p c20 h
      have h := Option.some.inj h
      subst h
      have h2 := Option.some.inj h2
      subst h2
      refine J_sub [4] rfl ?_
      exact Kx _ rfl
    · have h := br_n c20 h
      refine J_sipush 266 dX8_isOut_17 rfl ?_
      refine J_iconst 5 dX8_isOut_20 rfl ?_
      refine J_iload dX8_isOut_21 5 rfl ?_
      refine J_imul dX8_isOut_23 ?_
      refine J_iadd dX8_isOut_24 ?_
      refine J_istore (L' := [(6, .int (((266 : Int32) + ((5 : Int32) * x5)))), (0, .ref (94)), (1, .int (x1)), (2, .int (x2)), (3, .int (x3)), (4, .int (x4)), (5, .int (x5))]) dX8_isOut_25 (by decide) rfl ?_
      refine J_aload_n dX8_isOut_27 rfl 1 rfl ?_
      refine J_getr (j := 0) (t := 103) (r := 95) rfl (by decide) (by decide) rfl (by decide) rfl rfl kf_X8_9 dX8_isOut_28 ?_
      refine J_iload dX8_isOut_31 0 rfl ?_
      obtain ⟨u3, h4, h⟩ := br_b h
      refine J_ialdM (m0 := 1) rfl rfl h4 dX8_isOut_33 ?_
      refine J_iload_n dX8_isOut_34 rfl 2 rfl ?_
      refine J_icmp_ne 80 dX8_isOut_35 (by decide) (fun c19 => ?_) (fun c19 => ?_)
      · have h := br_n c19 h
        refine J_sub [1, 2, 3, 4, 5, 6, 0] rfl ?_
        exact jb_X8_isOut_80  h (fun _ _ e => by subst e; exact ih _ _ h2 Kx) (fun _ e => by subst e; have h2 := Option.some.inj h2; subst h2; exact Kx _ rfl)
      · have h := br_p c19 h
        refine J_iload_n dX8_isOut_38 rfl 3 rfl ?_
        refine J_aload_n dX8_isOut_39 rfl 1 rfl ?_
        refine J_getr (j := 0) (t := 103) (r := 95) rfl (by decide) (by decide) rfl (by decide) rfl rfl kf_X8_9 dX8_isOut_40 ?_
        refine J_iload dX8_isOut_43 0 rfl ?_
        refine J_iconst 1 dX8_isOut_45 rfl ?_
        refine J_iadd dX8_isOut_46 ?_
        obtain ⟨u9, h10, h⟩ := br_b h
        refine J_ialdM (m0 := 1) rfl rfl h10 dX8_isOut_47 ?_
        refine J_aload_n dX8_isOut_48 rfl 1 rfl ?_
        refine J_getr (j := 0) (t := 103) (r := 95) rfl (by decide) (by decide) rfl (by decide) rfl rfl kf_X8_9 dX8_isOut_49 ?_
        refine J_iload dX8_isOut_52 0 rfl ?_
        refine J_iconst 2 dX8_isOut_54 rfl ?_
        refine J_iadd dX8_isOut_55 ?_
        obtain ⟨u11, h12, h⟩ := br_b h
        refine J_ialdM (m0 := 1) rfl rfl h12 dX8_isOut_56 ?_
        obtain ⟨r14, h13, h⟩ := br_b h
        refine J_callS (mj := mi_X8_within) (as := [.int (x2), .int (u9), .int (u11)]) (rest := []) (ct_X8_within (C := C)  h13) ⟨rfl, rfl⟩ rfl cg_X8_41 hd_X8_within rfl ⟨Nat.le_of_ble_eq_true rfl, Nat.le_of_ble_eq_true rfl⟩ (Nat.le_of_ble_eq_true rfl) ⟨Nat.zero_le _, Nat.zero_le _⟩ dX8_isOut_57 ?_
        refine J_if_eq 80 dX8_isOut_60 (by decide) (fun c18 => ?_) (fun c18 => ?_)
        · have h := br_p c18 h
          refine J_sub [1, 2, 3, 4, 5, 6, 0] rfl ?_
          exact jb_X8_isOut_80  h (fun _ _ e => by subst e; exact ih _ _ h2 Kx) (fun _ e => by subst e; have h2 := Option.some.inj h2; subst h2; exact Kx _ rfl)
        · have h := br_n c18 h
          refine J_aload_n dX8_isOut_63 rfl 1 rfl ?_
          refine J_getr (j := 0) (t := 103) (r := 95) rfl (by decide) (by decide) rfl (by decide) rfl rfl kf_X8_9 dX8_isOut_64 ?_
          refine J_iload dX8_isOut_67 0 rfl ?_
          refine J_iconst 3 dX8_isOut_69 rfl ?_
          refine J_iadd dX8_isOut_70 ?_
          obtain ⟨u15, h16, h⟩ := br_b h
          refine J_ialdM (m0 := 1) rfl rfl h16 dX8_isOut_71 ?_
          refine J_iload_n dX8_isOut_72 rfl 4 rfl ?_
          refine J_icmp_gt 80 dX8_isOut_73 (by decide) (fun c17 => ?_) (fun c17 => ?_)
          · have h := br_p c17 h
            refine J_sub [1, 2, 3, 4, 5, 6, 0] rfl ?_
            exact jb_X8_isOut_80  h (fun _ _ e => by subst e; exact ih _ _ h2 Kx) (fun _ e => by subst e; have h2 := Option.some.inj h2; subst h2; exact Kx _ rfl)
          · have h := br_n c17 h
            refine J_iconst 1 dX8_isOut_76 rfl ?_
            refine J_goto 81 dX8_isOut_77 (by decide) ?_
            refine J_sub [1, 2, 3, 4, 5, 6, 0] rfl ?_
            exact jb_X8_isOut_81  h (fun _ _ e => by subst e; exact ih _ _ h2 Kx) (fun _ e => by subst e; have h2 := Option.some.inj h2; subst h2; exact Kx _ rfl)
def f_X8_isOut (x1 : Int32) (x2 : Int32) (x3 : Int32) (M : aMm) : Option (Int32) :=
  (lpf (fun a : Int32 × Int32 => b_X8_isOut_6 (x1) (x2) (x3) a.1 a.2 M) FU ((0 : Int32), (0 : Int32))).bind fun z21 => if z21 = 0 ∨ z21 = 1 then some z21 else none
set_option maxRecDepth 100000 in
set_option maxHeartbeats 4000000 in
theorem jm_X8_isOut {x1 : Int32} {x2 : Int32} {x3 : Int32} {C : aSc} {M : aMm}  {res : aRes} {r : Int32} (h : f_X8_isOut x1 x2 x3 M = some r) (Kr : ∀ (v : Int32), r = v → res = (some (.int v), (C, M))) : J mi_X8_isOut res 0 0 0 [(0, .ref (94)), (1, .int (x1)), (2, .int (x2)), (3, .int (x3))] [] (C, M) := by
  rw [f_X8_isOut] at h
  refine J_iconst 0 dX8_isOut_0 rfl ?_
  refine J_istore (L' := [(4, .int ((0 : Int32))), (0, .ref (94)), (1, .int (x1)), (2, .int (x2)), (3, .int (x3))]) dX8_isOut_1 (by decide) rfl ?_
  refine J_iconst 0 dX8_isOut_3 rfl ?_
  refine J_istore (L' := [(5, .int ((0 : Int32))), (4, .int ((0 : Int32))), (0, .ref (94)), (1, .int (x1)), (2, .int (x2)), (3, .int (x3))]) dX8_isOut_4 (by decide) rfl ?_
  refine J_sub [2, 3, 4, 5, 1, 0] rfl ?_
  obtain ⟨z21, h22, h⟩ := br_b h
  refine jl_X8_isOut_6  FU _ _ h22 ?_
  intro zz e
  subst e
  refine J_iload dX8_isOut_119 0 rfl ?_
  obtain ⟨n24, h⟩ := br_g h
  have h := Option.some.inj h
  subst h
  exact J_zret n24 rfl rfl rfl (Kr _ rfl) dX8_isOut_121
theorem ct_X8_isOut {x1 : Int32} {x2 : Int32} {x3 : Int32} {C : aSc} {M : aMm} {v : Int32}  (h : f_X8_isOut x1 x2 x3 M = some v) : Ct mi_X8_isOut yX8_isOut [.ref (94), .int (x1), .int (x2), .int (x3)] (C, M) (some (.int v), (C, M)) := Ct_of_J (by decide +kernel) rfl (Nat.le_of_ble_eq_true rfl) (jm_X8_isOut  h (fun _ e => by cases e; rfl))
def mi_X8_seenFrom : aMi := (cX8_seenFrom, 5, RX8, (some .int), { frames := 5, cells := 0, slots := 0, locals := 115 })
def g_X8_seenFrom_65 (x1 : Int32) (x2 : Int32) (x3 : Int32) (t0 : Int32) (M : aMm) : Option ((Int32 × Int32) ⊕ (Int32)) :=
  if (t0 : Int32) = 0 then some (.inl ((x2 ||| (0 : Int32)), (x3 + (1 : Int32)))) else some (.inl ((x2 ||| ((1 : Int32) <<< (x3 &&& 31))), (x3 + (1 : Int32))))
set_option maxRecDepth 100000 in
set_option maxHeartbeats 4000000 in
theorem jb_X8_seenFrom_65 {x1 : Int32} {x2 : Int32} {x3 : Int32} {t0 : Int32} {M : aMm} {C : aSc}  {res : aRes} {r : (Int32 × Int32) ⊕ (Int32)} (h : g_X8_seenFrom_65 x1 x2 x3 t0 M = some r) (Kn : ∀ (y2 : Int32) (y3 : Int32), r = .inl (y2, y3) → J mi_X8_seenFrom res 0 0 4 [(0, .ref (94)), (1, .int (x1)), (2, .int (y2)), (3, .int (y3))] [] (C, M)) (Kx : ∀ (z2 : Int32), r = .inr z2 → J mi_X8_seenFrom res 0 0 88 [(2, .int (z2))] [] (C, M)) : J mi_X8_seenFrom res 0 0 65 [(0, .ref (94)), (1, .int (x1)), (2, .int (x2)), (3, .int (x3))] [.int (t0)] (C, M) := by
  rw [g_X8_seenFrom_65] at h
  refine J_istore (L' := [(4, .int (t0)), (0, .ref (94)), (1, .int (x1)), (2, .int (x2)), (3, .int (x3))]) dX8_seenFrom_65 (by decide) rfl ?_
  refine J_iload_n dX8_seenFrom_67 rfl 3 rfl ?_
  refine J_iload dX8_seenFrom_68 0 rfl ?_
  refine J_if_eq 79 dX8_seenFrom_70 (by decide) (fun c9 => ?_) (fun c9 => ?_)
  · have h := br_p c9 h
    refine J_iconst 0 dX8_seenFrom_79 rfl ?_
    refine J_ior dX8_seenFrom_80 ?_
    refine J_istore_n (L' := [(2, .int ((x2 ||| (0 : Int32)))), (4, .int (t0)), (0, .ref (94)), (1, .int (x1)), (3, .int (x3))]) dX8_seenFrom_81 rfl (by decide) rfl ?_
    refine J_iinc (j := 4) (v := (x3 + (1 : Int32))) (L' := [(3, .int ((x3 + (1 : Int32)))), (2, .int ((x2 ||| (0 : Int32)))), (4, .int (t0)), (0, .ref (94)), (1, .int (x1))]) dX8_seenFrom_82 rfl rfl (by decide) rfl ?_
    refine J_goto 4 dX8_seenFrom_85 (by decide) ?_
    have h := Option.some.inj h
    subst h
    refine J_sub [3, 4, 1, 0] rfl ?_
    exact Kn _ _ rfl
  · have h := br_n c9 h
    refine J_iconst 1 dX8_seenFrom_73 rfl ?_
    refine J_iload_n dX8_seenFrom_74 rfl 4 rfl ?_
    refine J_ishl dX8_seenFrom_75 ?_
    refine J_goto 80 dX8_seenFrom_76 (by decide) ?_
    refine J_ior dX8_seenFrom_80 ?_
    refine J_istore_n (L' := [(2, .int ((x2 ||| ((1 : Int32) <<< (x3 &&& 31))))), (4, .int (t0)), (0, .ref (94)), (1, .int (x1)), (3, .int (x3))]) dX8_seenFrom_81 rfl (by decide) rfl ?_
    refine J_iinc (j := 4) (v := (x3 + (1 : Int32))) (L' := [(3, .int ((x3 + (1 : Int32)))), (2, .int ((x2 ||| ((1 : Int32) <<< (x3 &&& 31))))), (4, .int (t0)), (0, .ref (94)), (1, .int (x1))]) dX8_seenFrom_82 rfl rfl (by decide) rfl ?_
    refine J_goto 4 dX8_seenFrom_85 (by decide) ?_
    have h := Option.some.inj h
    subst h
    refine J_sub [3, 4, 1, 0] rfl ?_
    exact Kn _ _ rfl
def g_X8_seenFrom_64 (x1 : Int32) (x2 : Int32) (x3 : Int32) (M : aMm) : Option ((Int32 × Int32) ⊕ (Int32)) :=
  g_X8_seenFrom_65 (x1) (x2) (x3) ((0 : Int32)) M
set_option maxRecDepth 100000 in
set_option maxHeartbeats 4000000 in
theorem jb_X8_seenFrom_64 {x1 : Int32} {x2 : Int32} {x3 : Int32} {M : aMm} {C : aSc}  {res : aRes} {r : (Int32 × Int32) ⊕ (Int32)} (h : g_X8_seenFrom_64 x1 x2 x3 M = some r) (Kn : ∀ (y2 : Int32) (y3 : Int32), r = .inl (y2, y3) → J mi_X8_seenFrom res 0 0 4 [(0, .ref (94)), (1, .int (x1)), (2, .int (y2)), (3, .int (y3))] [] (C, M)) (Kx : ∀ (z2 : Int32), r = .inr z2 → J mi_X8_seenFrom res 0 0 88 [(2, .int (z2))] [] (C, M)) : J mi_X8_seenFrom res 0 0 64 [(0, .ref (94)), (1, .int (x1)), (2, .int (x2)), (3, .int (x3))] [] (C, M) := by
  rw [g_X8_seenFrom_64] at h
  refine J_iconst 0 dX8_seenFrom_64 rfl ?_
  exact jb_X8_seenFrom_65  h Kn Kx
def b_X8_seenFrom_4 (x1 : Int32) (x2 : Int32) (x3 : Int32) (M : aMm) : Option ((Int32 × Int32) ⊕ (Int32)) :=
  (m_ld M 1 (0 : Int32)).bind fun u1 => if (u1 : Int32) ≤ x3 then some (.inr x2) else (f_X8_of x3 (1 : Int32) M).bind fun r4 => (m_ld M 1 r4).bind fun u5 => (f_X8_isNear x3 x1 u5 M).bind fun r8 => if (r8 : Int32) = 0 then g_X8_seenFrom_64 (x1) (x2) (x3) M else (f_X8_colourOf x3 x1 M).bind fun r11 => if (r11 : Int32) = (3 : Int32) then g_X8_seenFrom_64 (x1) (x2) (x3) M else (m_ld M 1 (5 : Int32)).bind fun u12 => (f_X8_isOut x3 u12 (999 : Int32) M).bind fun r15 => if (r15 : Int32) = 0 then g_X8_seenFrom_65 (x1) (x2) (x3) ((1 : Int32)) M else g_X8_seenFrom_64 (x1) (x2) (x3) M
set_option maxRecDepth 100000 in
set_option maxHeartbeats 4000000 in
theorem jl_X8_seenFrom_4 {x1 : Int32} {M : aMm} {C : aSc}  {res : aRes} {r : Int32} : ∀ (n : Nat) (x2 : Int32) (x3 : Int32), lpf (fun a : Int32 × Int32 => b_X8_seenFrom_4 (x1) a.1 a.2 M) n (x2, x3) = some r → (∀ (z2 : Int32), r = z2 → J mi_X8_seenFrom res 0 0 88 [(2, .int (z2))] [] (C, M)) → J mi_X8_seenFrom res 0 0 4 [(0, .ref (94)), (1, .int (x1)), (2, .int (x2)), (3, .int (x3))] [] (C, M) := by
  intro n
  induction n with
  | zero =>
    intro x2 x3 h
    cases h
  | succ n ih =>
    intro x2 x3 h Kx
    obtain ⟨r0, h, h2⟩ := br_b h
    have h : b_X8_seenFrom_4 x1 x2 x3 M = some r0 := h
    rw [b_X8_seenFrom_4] at h
    refine J_iload_n dX8_seenFrom_4 rfl 3 rfl ?_
    refine J_aload_n dX8_seenFrom_5 rfl 0 rfl ?_
    refine J_getr (j := 0) (t := 103) (r := 95) rfl (by decide) (by decide) rfl (by decide) rfl rfl kf_X8_9 dX8_seenFrom_6 ?_
    refine J_iconst 0 dX8_seenFrom_9 rfl ?_
    obtain ⟨u1, h2, h⟩ := br_b h
    refine J_ialdM (m0 := 1) rfl rfl h2 dX8_seenFrom_10 ?_
    refine J_icmp_ge 88 dX8_seenFrom_11 (by decide) (fun c19 => ?_) (fun c19 => ?_)
    · have h := br_p c19 h
      have h := Option.some.inj h
      subst h
      have h2 := Option.some.inj h2
      subst h2
      refine J_sub [2] rfl ?_
      exact Kx _ rfl
    · have h := br_n c19 h
      refine J_aload_n dX8_seenFrom_14 rfl 0 rfl ?_
      refine J_iload_n dX8_seenFrom_15 rfl 3 rfl ?_
      refine J_iload_n dX8_seenFrom_16 rfl 1 rfl ?_
      refine J_aload_n dX8_seenFrom_17 rfl 0 rfl ?_
      refine J_getr (j := 0) (t := 103) (r := 95) rfl (by decide) (by decide) rfl (by decide) rfl rfl kf_X8_9 dX8_seenFrom_18 ?_
      refine J_iload_n dX8_seenFrom_21 rfl 3 rfl ?_
      refine J_iconst 1 dX8_seenFrom_22 rfl ?_
      obtain ⟨r4, h3, h⟩ := br_b h
      refine J_callS (mj := mi_X8_of) (as := [.int (x3), .int ((1 : Int32))]) (rest := [.ref (95), .int (x1), .int (x3), .ref (94)]) (ct_X8_of (C := C)  h3) ⟨rfl, rfl⟩ rfl cg_X8_45 hd_X8_of rfl ⟨Nat.le_of_ble_eq_true rfl, Nat.le_of_ble_eq_true rfl⟩ (Nat.le_of_ble_eq_true rfl) ⟨Nat.zero_le _, Nat.zero_le _⟩ dX8_seenFrom_23 ?_
      obtain ⟨u5, h6, h⟩ := br_b h
      refine J_ialdM (m0 := 1) rfl rfl h6 dX8_seenFrom_26 ?_
      obtain ⟨r8, h7, h⟩ := br_b h
      refine J_callV (mj := mi_X8_isNear) (as := [.int (x3), .int (x1), .int (u5)]) (rest := []) (ct_X8_isNear (C := C)  h7) ⟨rfl, rfl⟩ rfl rfl (by decide) rfl cg_X8_162 hd_X8_isNear rfl ⟨Nat.le_of_ble_eq_true rfl, Nat.le_of_ble_eq_true rfl⟩ (Nat.le_of_ble_eq_true rfl) ⟨Nat.zero_le _, Nat.zero_le _⟩ dX8_seenFrom_27 ?_
      refine J_if_eq 64 dX8_seenFrom_30 (by decide) (fun c18 => ?_) (fun c18 => ?_)
      · have h := br_p c18 h
        exact jb_X8_seenFrom_64  h (fun _ _ e => by subst e; exact ih _ _ h2 Kx) (fun _ e => by subst e; have h2 := Option.some.inj h2; subst h2; exact Kx _ rfl)
      · have h := br_n c18 h
        refine J_aload_n dX8_seenFrom_33 rfl 0 rfl ?_
        refine J_iload_n dX8_seenFrom_34 rfl 3 rfl ?_
        refine J_iload_n dX8_seenFrom_35 rfl 1 rfl ?_
        obtain ⟨r11, h10, h⟩ := br_b h
        refine J_callV (mj := mi_X8_colourOf) (as := [.int (x3), .int (x1)]) (rest := []) (ct_X8_colourOf (C := C)  h10) ⟨rfl, rfl⟩ rfl rfl (by decide) rfl cg_X8_154 hd_X8_colourOf rfl ⟨Nat.le_of_ble_eq_true rfl, Nat.le_of_ble_eq_true rfl⟩ (Nat.le_of_ble_eq_true rfl) ⟨Nat.zero_le _, Nat.zero_le _⟩ dX8_seenFrom_36 ?_
        refine J_iconst 3 dX8_seenFrom_39 rfl ?_
        refine J_icmp_eq 64 dX8_seenFrom_40 (by decide) (fun c17 => ?_) (fun c17 => ?_)
        · have h := br_p c17 h
          exact jb_X8_seenFrom_64  h (fun _ _ e => by subst e; exact ih _ _ h2 Kx) (fun _ e => by subst e; have h2 := Option.some.inj h2; subst h2; exact Kx _ rfl)
        · have h := br_n c17 h
          refine J_aload_n dX8_seenFrom_43 rfl 0 rfl ?_
          refine J_iload_n dX8_seenFrom_44 rfl 3 rfl ?_
          refine J_aload_n dX8_seenFrom_45 rfl 0 rfl ?_
          refine J_getr (j := 0) (t := 103) (r := 95) rfl (by decide) (by decide) rfl (by decide) rfl rfl kf_X8_9 dX8_seenFrom_46 ?_
          refine J_iconst 5 dX8_seenFrom_49 rfl ?_
          obtain ⟨u12, h13, h⟩ := br_b h
          refine J_ialdM (m0 := 1) rfl rfl h13 dX8_seenFrom_50 ?_
          refine J_sipush 999 dX8_seenFrom_51 rfl ?_
          obtain ⟨r15, h14, h⟩ := br_b h
          refine J_callV (mj := mi_X8_isOut) (as := [.int (x3), .int (u12), .int ((999 : Int32))]) (rest := []) (ct_X8_isOut (C := C)  h14) ⟨rfl, rfl⟩ rfl rfl (by decide) rfl cg_X8_165 hd_X8_isOut rfl ⟨Nat.le_of_ble_eq_true rfl, Nat.le_of_ble_eq_true rfl⟩ (Nat.le_of_ble_eq_true rfl) ⟨Nat.zero_le _, Nat.zero_le _⟩ dX8_seenFrom_54 ?_
          refine J_if_ne 64 dX8_seenFrom_57 (by decide) (fun c16 => ?_) (fun c16 => ?_)
          · have h := br_n c16 h
            exact jb_X8_seenFrom_64  h (fun _ _ e => by subst e; exact ih _ _ h2 Kx) (fun _ e => by subst e; have h2 := Option.some.inj h2; subst h2; exact Kx _ rfl)
          · have h := br_p c16 h
            refine J_iconst 1 dX8_seenFrom_60 rfl ?_
            refine J_goto 65 dX8_seenFrom_61 (by decide) ?_
            exact jb_X8_seenFrom_65  h (fun _ _ e => by subst e; exact ih _ _ h2 Kx) (fun _ e => by subst e; have h2 := Option.some.inj h2; subst h2; exact Kx _ rfl)
def f_X8_seenFrom (x1 : Int32) (M : aMm) : Option (Int32) :=
  (lpf (fun a : Int32 × Int32 => b_X8_seenFrom_4 (x1) a.1 a.2 M) FU ((0 : Int32), (0 : Int32))).bind fun z20 => some z20
set_option maxRecDepth 100000 in
set_option maxHeartbeats 4000000 in
theorem jm_X8_seenFrom {x1 : Int32} {C : aSc} {M : aMm}  {res : aRes} {r : Int32} (h : f_X8_seenFrom x1 M = some r) (Kr : ∀ (v : Int32), r = v → res = (some (.int v), (C, M))) : J mi_X8_seenFrom res 0 0 0 [(0, .ref (94)), (1, .int (x1))] [] (C, M) := by
  rw [f_X8_seenFrom] at h
  refine J_iconst 0 dX8_seenFrom_0 rfl ?_
  refine J_istore_n (L' := [(2, .int ((0 : Int32))), (0, .ref (94)), (1, .int (x1))]) dX8_seenFrom_1 rfl (by decide) rfl ?_
  refine J_iconst 0 dX8_seenFrom_2 rfl ?_
  refine J_istore_n (L' := [(3, .int ((0 : Int32))), (2, .int ((0 : Int32))), (0, .ref (94)), (1, .int (x1))]) dX8_seenFrom_3 rfl (by decide) rfl ?_
  refine J_sub [2, 3, 1, 0] rfl ?_
  obtain ⟨z20, h21, h⟩ := br_b h
  refine jl_X8_seenFrom_4  FU _ _ h21 ?_
  intro zz e
  subst e
  refine J_iload_n dX8_seenFrom_88 rfl 0 rfl ?_
  have h := Option.some.inj h
  subst h
  exact J_iret rfl rfl rfl (Kr _ rfl) dX8_seenFrom_89
theorem ct_X8_seenFrom {x1 : Int32} {C : aSc} {M : aMm} {v : Int32}  (h : f_X8_seenFrom x1 M = some v) : Ct mi_X8_seenFrom yX8_seenFrom [.ref (94), .int (x1)] (C, M) (some (.int v), (C, M)) := Ct_of_J (by decide +kernel) rfl (Nat.le_of_ble_eq_true rfl) (jm_X8_seenFrom  h (fun _ e => by cases e; rfl))
def mi_X8_seen : aMi := (cX8_seen, 2, RX8, (some .int), { frames := 6, cells := 0, slots := 0, locals := 139 })
def f_X8_seen (x1 : Int32) (M : aMm) : Option (Int32 × aMm) :=
  (f_X8_isCell x1 M).bind fun r2 => if (r2 : Int32) = 0 then bd2 (f_X8_finding (-100001 : Int32) M) fun r4 M5 => some (r4, M5) else (f_X8_seenFrom x1 M).bind fun r7 => some (r7, M)
set_option maxRecDepth 100000 in
set_option maxHeartbeats 4000000 in
theorem jm_X8_seen {x1 : Int32} {C : aSc} {M : aMm}  {res : aRes} {r : Int32 × aMm} (h : f_X8_seen x1 M = some r) (Kr : ∀ (v : Int32) (S' : aMm), r = (v, S') → res = (some (.int v), (C, S'))) : J mi_X8_seen res 0 0 0 [(0, .ref (94)), (1, .int (x1))] [] (C, M) := by
  rw [f_X8_seen] at h
  refine J_iload_n dX8_seen_0 rfl 1 rfl ?_
  obtain ⟨r2, h1, h⟩ := br_b h
  refine J_callS (mj := mi_X8_isCell) (as := [.int (x1)]) (rest := []) (ct_X8_isCell (C := C)  h1) ⟨rfl, rfl⟩ rfl cg_X8_108 hd_X8_isCell rfl ⟨Nat.le_of_ble_eq_true rfl, Nat.le_of_ble_eq_true rfl⟩ (Nat.le_of_ble_eq_true rfl) ⟨Nat.zero_le _, Nat.zero_le _⟩ dX8_seen_1 ?_
  refine J_if_eq 15 dX8_seen_4 (by decide) (fun c8 => ?_) (fun c8 => ?_)
  · have h := br_p c8 h
    refine J_aload_n dX8_seen_15 rfl 0 rfl ?_
    refine J_ldc (-100001) dX8_seen_16 kc_X8_57 ?_
    obtain ⟨r4, M5, h3, h⟩ := br_b2 h
    refine J_callV (mj := mi_X8_finding) (as := [.int ((-100001 : Int32))]) (rest := []) (ct_X8_finding (C := C)  h3) ⟨rfl, rfl⟩ rfl rfl (by decide) rfl cg_X8_53 hd_X8_finding rfl ⟨Nat.le_of_ble_eq_true rfl, Nat.le_of_ble_eq_true rfl⟩ (Nat.le_of_ble_eq_true rfl) ⟨Nat.zero_le _, Nat.zero_le _⟩ dX8_seen_18 ?_
    have h := Option.some.inj h
    subst h
    exact J_iret rfl rfl rfl (Kr _ _ rfl) dX8_seen_21
  · have h := br_n c8 h
    refine J_aload_n dX8_seen_7 rfl 0 rfl ?_
    refine J_iload_n dX8_seen_8 rfl 1 rfl ?_
    obtain ⟨r7, h6, h⟩ := br_b h
    refine J_callV (mj := mi_X8_seenFrom) (as := [.int (x1)]) (rest := []) (ct_X8_seenFrom (C := C)  h6) ⟨rfl, rfl⟩ rfl rfl (by decide) rfl cg_X8_168 hd_X8_seenFrom rfl ⟨Nat.le_of_ble_eq_true rfl, Nat.le_of_ble_eq_true rfl⟩ (Nat.le_of_ble_eq_true rfl) ⟨Nat.zero_le _, Nat.zero_le _⟩ dX8_seen_9 ?_
    refine J_goto 21 dX8_seen_12 (by decide) ?_
    have h := Option.some.inj h
    subst h
    exact J_iret rfl rfl rfl (Kr _ _ rfl) dX8_seen_21
theorem ct_X8_seen {x1 : Int32} {C : aSc} {M : aMm} {v : Int32} {S' : aMm}  (h : f_X8_seen x1 M = some (v, S')) : Ct mi_X8_seen yX8_seen [.ref (94), .int (x1)] (C, M) (some (.int v), (C, S')) := Ct_of_J (by decide +kernel) rfl (Nat.le_of_ble_eq_true rfl) (jm_X8_seen  h (fun _ _ e => by cases e; rfl))
def mi_X8_becomes : aMi := (cX8_becomes, 4, RX8, (some .int), { frames := 1, cells := 0, slots := 0, locals := 21 })
def f_X8_becomes (x1 : Int32) (x2 : Int32) (M : aMm) : Option (Int32 × aMm) :=
  (f_X8_keep  M).bind fun M2 => (m_ld M2 1 x1).bind fun u3 => (m_st M2 1 x1 x2).bind fun M5 => some (u3, M5)
set_option maxRecDepth 100000 in
set_option maxHeartbeats 4000000 in
theorem jm_X8_becomes {x1 : Int32} {x2 : Int32} {C : aSc} {M : aMm}  {res : aRes} {r : Int32 × aMm} (h : f_X8_becomes x1 x2 M = some r) (Kr : ∀ (v : Int32) (S' : aMm), r = (v, S') → res = (some (.int v), (C, S'))) : J mi_X8_becomes res 0 0 0 [(0, .ref (94)), (1, .int (x1)), (2, .int (x2))] [] (C, M) := by
  rw [f_X8_becomes] at h
  refine J_aload_n dX8_becomes_0 rfl 0 rfl ?_
  obtain ⟨M2, h1, h⟩ := br_b h
  refine J_callV (mj := mi_X8_keep) (as := []) (rest := []) (ct_X8_keep (C := C)  h1) ⟨rfl, rfl⟩ rfl rfl (by decide) rfl cg_X8_114 hd_X8_keep rfl ⟨Nat.le_of_ble_eq_true rfl, Nat.le_of_ble_eq_true rfl⟩ (Nat.le_of_ble_eq_true rfl) ⟨Nat.zero_le _, Nat.zero_le _⟩ dX8_becomes_1 ?_
  refine J_aload_n dX8_becomes_4 rfl 0 rfl ?_
  refine J_getr (j := 0) (t := 103) (r := 95) rfl (by decide) (by decide) rfl (by decide) rfl rfl kf_X8_9 dX8_becomes_5 ?_
  refine J_iload_n dX8_becomes_8 rfl 1 rfl ?_
  obtain ⟨u3, h4, h⟩ := br_b h
  refine J_ialdM (m0 := 1) rfl rfl h4 dX8_becomes_9 ?_
  refine J_istore_n (L' := [(3, .int (u3)), (0, .ref (94)), (1, .int (x1)), (2, .int (x2))]) dX8_becomes_10 rfl (by decide) rfl ?_
  refine J_aload_n dX8_becomes_11 rfl 1 rfl ?_
  refine J_getr (j := 0) (t := 103) (r := 95) rfl (by decide) (by decide) rfl (by decide) rfl rfl kf_X8_9 dX8_becomes_12 ?_
  refine J_iload_n dX8_becomes_15 rfl 2 rfl ?_
  refine J_iload_n dX8_becomes_16 rfl 3 rfl ?_
  obtain ⟨M5, h6, h⟩ := br_b h
  refine J_iastM (m0 := 1) rfl rfl h6 dX8_becomes_17 ?_
  refine J_iload_n dX8_becomes_18 rfl 0 rfl ?_
  have h := Option.some.inj h
  subst h
  exact J_iret rfl rfl rfl (Kr _ _ rfl) dX8_becomes_19
theorem ct_X8_becomes {x1 : Int32} {x2 : Int32} {C : aSc} {M : aMm} {v : Int32} {S' : aMm}  (h : f_X8_becomes x1 x2 M = some (v, S')) : Ct mi_X8_becomes yX8_becomes [.ref (94), .int (x1), .int (x2)] (C, M) (some (.int v), (C, S')) := Ct_of_J (by decide +kernel) rfl (Nat.le_of_ble_eq_true rfl) (jm_X8_becomes  h (fun _ _ e => by cases e; rfl))
def mi_X8_haze : aMi := (cX8_haze, 2, RX8, (some .int), { frames := 2, cells := 0, slots := 0, locals := 44 })
def f_X8_haze (x1 : Int32) (M : aMm) : Option (Int32 × aMm) :=
  (f_X8_within x1 (0 : Int32) (15 : Int32) M).bind fun r2 => if (r2 : Int32) = 0 then bd2 (f_X8_finding (-100001 : Int32) M) fun r4 M5 => some (r4, M5) else bd2 (f_X8_becomes (4 : Int32) x1 M) fun r7 M8 => some (r7, M8)
set_option maxRecDepth 100000 in
set_option maxHeartbeats 4000000 in
theorem jm_X8_haze {x1 : Int32} {C : aSc} {M : aMm}  {res : aRes} {r : Int32 × aMm} (h : f_X8_haze x1 M = some r) (Kr : ∀ (v : Int32) (S' : aMm), r = (v, S') → res = (some (.int v), (C, S'))) : J mi_X8_haze res 0 0 0 [(0, .ref (94)), (1, .int (x1))] [] (C, M) := by
  rw [f_X8_haze] at h
  refine J_iload_n dX8_haze_0 rfl 1 rfl ?_
  refine J_iconst 0 dX8_haze_1 rfl ?_
  refine J_bipush 15 dX8_haze_2 rfl ?_
  obtain ⟨r2, h1, h⟩ := br_b h
  refine J_callS (mj := mi_X8_within) (as := [.int (x1), .int ((0 : Int32)), .int ((15 : Int32))]) (rest := []) (ct_X8_within (C := C)  h1) ⟨rfl, rfl⟩ rfl cg_X8_41 hd_X8_within rfl ⟨Nat.le_of_ble_eq_true rfl, Nat.le_of_ble_eq_true rfl⟩ (Nat.le_of_ble_eq_true rfl) ⟨Nat.zero_le _, Nat.zero_le _⟩ dX8_haze_4 ?_
  refine J_if_eq 19 dX8_haze_7 (by decide) (fun c9 => ?_) (fun c9 => ?_)
  · have h := br_p c9 h
    refine J_aload_n dX8_haze_19 rfl 0 rfl ?_
    refine J_ldc (-100001) dX8_haze_20 kc_X8_57 ?_
    obtain ⟨r4, M5, h3, h⟩ := br_b2 h
    refine J_callV (mj := mi_X8_finding) (as := [.int ((-100001 : Int32))]) (rest := []) (ct_X8_finding (C := C)  h3) ⟨rfl, rfl⟩ rfl rfl (by decide) rfl cg_X8_53 hd_X8_finding rfl ⟨Nat.le_of_ble_eq_true rfl, Nat.le_of_ble_eq_true rfl⟩ (Nat.le_of_ble_eq_true rfl) ⟨Nat.zero_le _, Nat.zero_le _⟩ dX8_haze_22 ?_
    have h := Option.some.inj h
    subst h
    exact J_iret rfl rfl rfl (Kr _ _ rfl) dX8_haze_25
  · have h := br_n c9 h
    refine J_aload_n dX8_haze_10 rfl 0 rfl ?_
    refine J_iconst 4 dX8_haze_11 rfl ?_
    refine J_iload_n dX8_haze_12 rfl 1 rfl ?_
    obtain ⟨r7, M8, h6, h⟩ := br_b2 h
    refine J_callV (mj := mi_X8_becomes) (as := [.int ((4 : Int32)), .int (x1)]) (rest := []) (ct_X8_becomes (C := C)  h6) ⟨rfl, rfl⟩ rfl rfl (by decide) rfl cg_X8_171 hd_X8_becomes rfl ⟨Nat.le_of_ble_eq_true rfl, Nat.le_of_ble_eq_true rfl⟩ (Nat.le_of_ble_eq_true rfl) ⟨Nat.zero_le _, Nat.zero_le _⟩ dX8_haze_13 ?_
    refine J_goto 25 dX8_haze_16 (by decide) ?_
    have h := Option.some.inj h
    subst h
    exact J_iret rfl rfl rfl (Kr _ _ rfl) dX8_haze_25
theorem ct_X8_haze {x1 : Int32} {C : aSc} {M : aMm} {v : Int32} {S' : aMm}  (h : f_X8_haze x1 M = some (v, S')) : Ct mi_X8_haze yX8_haze [.ref (94), .int (x1)] (C, M) (some (.int v), (C, S')) := Ct_of_J (by decide +kernel) rfl (Nat.le_of_ble_eq_true rfl) (jm_X8_haze  h (fun _ _ e => by cases e; rfl))
def mi_X8_day : aMi := (cX8_day, 2, RX8, (some .int), { frames := 2, cells := 0, slots := 0, locals := 44 })
def f_X8_day (x1 : Int32) (M : aMm) : Option (Int32 × aMm) :=
  (f_X8_within x1 (0 : Int32) (19 : Int32) M).bind fun r2 => if (r2 : Int32) = 0 then bd2 (f_X8_finding (-100001 : Int32) M) fun r4 M5 => some (r4, M5) else bd2 (f_X8_becomes (5 : Int32) x1 M) fun r7 M8 => some (r7, M8)
set_option maxRecDepth 100000 in
set_option maxHeartbeats 4000000 in
theorem jm_X8_day {x1 : Int32} {C : aSc} {M : aMm}  {res : aRes} {r : Int32 × aMm} (h : f_X8_day x1 M = some r) (Kr : ∀ (v : Int32) (S' : aMm), r = (v, S') → res = (some (.int v), (C, S'))) : J mi_X8_day res 0 0 0 [(0, .ref (94)), (1, .int (x1))] [] (C, M) := by
  rw [f_X8_day] at h
  refine J_iload_n dX8_day_0 rfl 1 rfl ?_
  refine J_iconst 0 dX8_day_1 rfl ?_
  refine J_bipush 19 dX8_day_2 rfl ?_
  obtain ⟨r2, h1, h⟩ := br_b h
  refine J_callS (mj := mi_X8_within) (as := [.int (x1), .int ((0 : Int32)), .int ((19 : Int32))]) (rest := []) (ct_X8_within (C := C)  h1) ⟨rfl, rfl⟩ rfl cg_X8_41 hd_X8_within rfl ⟨Nat.le_of_ble_eq_true rfl, Nat.le_of_ble_eq_true rfl⟩ (Nat.le_of_ble_eq_true rfl) ⟨Nat.zero_le _, Nat.zero_le _⟩ dX8_day_4 ?_
  refine J_if_eq 19 dX8_day_7 (by decide) (fun c9 => ?_) (fun c9 => ?_)
  · have h := br_p c9 h
    refine J_aload_n dX8_day_19 rfl 0 rfl ?_
    refine J_ldc (-100001) dX8_day_20 kc_X8_57 ?_
    obtain ⟨r4, M5, h3, h⟩ := br_b2 h
    refine J_callV (mj := mi_X8_finding) (as := [.int ((-100001 : Int32))]) (rest := []) (ct_X8_finding (C := C)  h3) ⟨rfl, rfl⟩ rfl rfl (by decide) rfl cg_X8_53 hd_X8_finding rfl ⟨Nat.le_of_ble_eq_true rfl, Nat.le_of_ble_eq_true rfl⟩ (Nat.le_of_ble_eq_true rfl) ⟨Nat.zero_le _, Nat.zero_le _⟩ dX8_day_22 ?_
    have h := Option.some.inj h
    subst h
    exact J_iret rfl rfl rfl (Kr _ _ rfl) dX8_day_25
  · have h := br_n c9 h
    refine J_aload_n dX8_day_10 rfl 0 rfl ?_
    refine J_iconst 5 dX8_day_11 rfl ?_
    refine J_iload_n dX8_day_12 rfl 1 rfl ?_
    obtain ⟨r7, M8, h6, h⟩ := br_b2 h
    refine J_callV (mj := mi_X8_becomes) (as := [.int ((5 : Int32)), .int (x1)]) (rest := []) (ct_X8_becomes (C := C)  h6) ⟨rfl, rfl⟩ rfl rfl (by decide) rfl cg_X8_171 hd_X8_becomes rfl ⟨Nat.le_of_ble_eq_true rfl, Nat.le_of_ble_eq_true rfl⟩ (Nat.le_of_ble_eq_true rfl) ⟨Nat.zero_le _, Nat.zero_le _⟩ dX8_day_13 ?_
    refine J_goto 25 dX8_day_16 (by decide) ?_
    have h := Option.some.inj h
    subst h
    exact J_iret rfl rfl rfl (Kr _ _ rfl) dX8_day_25
theorem ct_X8_day {x1 : Int32} {C : aSc} {M : aMm} {v : Int32} {S' : aMm}  (h : f_X8_day x1 M = some (v, S')) : Ct mi_X8_day yX8_day [.ref (94), .int (x1)] (C, M) (some (.int v), (C, S')) := Ct_of_J (by decide +kernel) rfl (Nat.le_of_ble_eq_true rfl) (jm_X8_day  h (fun _ _ e => by cases e; rfl))
def mi_X8_alike : aMi := (cX8_alike, 7, RX8, (some .int), { frames := 2, cells := 0, slots := 0, locals := 43 })
def b_X8_alike_41 (x1 : Int32) (x2 : Int32) (x3 : Int32) (x4 : Int32) (x5 : Int32) (x6 : Int32) (M : aMm) : Option ((Int32) ⊕ (Int32)) :=
  if ((60 : Int32) : Int32) ≤ x6 then some (.inr x6) else (f_X8_hasLight x1 (x4 + x6) M).bind fun r10 => (f_X8_hasLight x2 (x5 + x6) M).bind fun r12 => if (r10 : Int32) = r12 then some (.inl (x6 + (1 : Int32))) else some (.inr x6)
set_option maxRecDepth 100000 in
set_option maxHeartbeats 4000000 in
theorem jl_X8_alike_41 {x1 : Int32} {x2 : Int32} {x3 : Int32} {x4 : Int32} {x5 : Int32} {M : aMm} {C : aSc}  {res : aRes} {r : Int32} : ∀ (n : Nat) (x6 : Int32), lpf (fun a : Int32 => b_X8_alike_41 (x1) (x2) (x3) (x4) (x5) a M) n x6 = some r → (∀ (z6 : Int32), r = z6 → J mi_X8_alike res 0 0 77 [(0, .ref (94)), (1, .int (x1)), (2, .int (x2)), (3, .int (x3)), (4, .int (x4)), (5, .int (x5)), (6, .int (z6))] [] (C, M)) → J mi_X8_alike res 0 0 41 [(0, .ref (94)), (1, .int (x1)), (2, .int (x2)), (3, .int (x3)), (4, .int (x4)), (5, .int (x5)), (6, .int (x6))] [] (C, M) := by
  intro n
  induction n with
  | zero =>
    intro x6 h
    cases h
  | succ n ih =>
    intro x6 h Kx
    obtain ⟨r0, h, h2⟩ := br_b h
    have h : b_X8_alike_41 x1 x2 x3 x4 x5 x6 M = some r0 := h
    rw [b_X8_alike_41] at h
    refine J_iload dX8_alike_41 6 rfl ?_
    refine J_bipush 60 dX8_alike_43 rfl ?_
    refine J_icmp_ge 77 dX8_alike_45 (by decide) (fun c14 => ?_) (fun c14 => ?_)
    · have h := br_p c14 h
      have h := Option.some.inj h
      subst h
      have h2 := Option.some.inj h2
      subst h2
      exact Kx _ rfl
    · have h := br_n c14 h
      refine J_aload_n dX8_alike_48 rfl 0 rfl ?_
      refine J_iload_n dX8_alike_49 rfl 1 rfl ?_
      refine J_iload dX8_alike_50 4 rfl ?_
      refine J_iload dX8_alike_52 6 rfl ?_
      refine J_iadd dX8_alike_54 ?_
      obtain ⟨r10, h9, h⟩ := br_b h
      refine J_callV (mj := mi_X8_hasLight) (as := [.int (x1), .int ((x4 + x6))]) (rest := []) (ct_X8_hasLight (C := C)  h9) ⟨rfl, rfl⟩ rfl rfl (by decide) rfl cg_X8_127 hd_X8_hasLight rfl ⟨Nat.le_of_ble_eq_true rfl, Nat.le_of_ble_eq_true rfl⟩ (Nat.le_of_ble_eq_true rfl) ⟨Nat.zero_le _, Nat.zero_le _⟩ dX8_alike_55 ?_
      refine J_aload_n dX8_alike_58 rfl 0 rfl ?_
      refine J_iload_n dX8_alike_59 rfl 2 rfl ?_
      refine J_iload dX8_alike_60 5 rfl ?_
      refine J_iload dX8_alike_62 6 rfl ?_
      refine J_iadd dX8_alike_64 ?_
      obtain ⟨r12, h11, h⟩ := br_b h
      refine J_callV (mj := mi_X8_hasLight) (as := [.int (x2), .int ((x5 + x6))]) (rest := [.int (r10)]) (ct_X8_hasLight (C := C)  h11) ⟨rfl, rfl⟩ rfl rfl (by decide) rfl cg_X8_127 hd_X8_hasLight rfl ⟨Nat.le_of_ble_eq_true rfl, Nat.le_of_ble_eq_true rfl⟩ (Nat.le_of_ble_eq_true rfl) ⟨Nat.zero_le _, Nat.zero_le _⟩ dX8_alike_65 ?_
      refine J_icmp_ne 77 dX8_alike_68 (by decide) (fun c13 => ?_) (fun c13 => ?_)
      · have h := br_n c13 h
        have h := Option.some.inj h
        subst h
        have h2 := Option.some.inj h2
        subst h2
        exact Kx _ rfl
      · have h := br_p c13 h
        refine J_iinc (j := 6) (v := (x6 + (1 : Int32))) (L' := [(6, .int ((x6 + (1 : Int32)))), (0, .ref (94)), (1, .int (x1)), (2, .int (x2)), (3, .int (x3)), (4, .int (x4)), (5, .int (x5))]) dX8_alike_71 rfl rfl (by decide) rfl ?_
        refine J_goto 41 dX8_alike_74 (by decide) ?_
        have h := Option.some.inj h
        subst h
        refine J_sub [1, 2, 3, 4, 5, 6, 0] rfl ?_
        exact ih _ h2 Kx
def b_X8_alike_23 (x1 : Int32) (x2 : Int32) (x4 : Int32) (x3 : Int32) (x5 : Int32) (M : aMm) : Option ((Int32 × Int32) ⊕ (Int32)) :=
  (f_X8_of x2 (4 : Int32) M).bind fun r6 => (m_ld M 1 r6).bind fun u7 => if (u7 : Int32) ≤ x5 then some (.inr x3) else (lpf (fun a : Int32 => b_X8_alike_41 (x1) (x2) (x3) (x4) (x5) a M) FU (0 : Int32)).bind fun z15 => some (.inl ((a_max x3 z15), (x5 + (1 : Int32))))
set_option maxRecDepth 100000 in
set_option maxHeartbeats 4000000 in
theorem jl_X8_alike_23 {x1 : Int32} {x2 : Int32} {x4 : Int32} {M : aMm} {C : aSc}  {res : aRes} {r : Int32} : ∀ (n : Nat) (x3 : Int32) (x5 : Int32), lpf (fun a : Int32 × Int32 => b_X8_alike_23 (x1) (x2) (x4) a.1 a.2 M) n (x3, x5) = some r → (∀ (z3 : Int32), r = z3 → J mi_X8_alike res 0 0 90 [(0, .ref (94)), (1, .int (x1)), (2, .int (x2)), (3, .int (z3)), (4, .int (x4))] [] (C, M)) → J mi_X8_alike res 0 0 23 [(0, .ref (94)), (1, .int (x1)), (2, .int (x2)), (3, .int (x3)), (4, .int (x4)), (5, .int (x5))] [] (C, M) := by
  intro n
  induction n with
  | zero =>
    intro x3 x5 h
    cases h
  | succ n ih =>
    intro x3 x5 h Kx
    obtain ⟨r0, h, h2⟩ := br_b h
    have h : b_X8_alike_23 x1 x2 x4 x3 x5 M = some r0 := h
    rw [b_X8_alike_23] at h
    refine J_iload dX8_alike_23 5 rfl ?_
    refine J_aload_n dX8_alike_25 rfl 0 rfl ?_
    refine J_getr (j := 0) (t := 103) (r := 95) rfl (by decide) (by decide) rfl (by decide) rfl rfl kf_X8_9 dX8_alike_26 ?_
    refine J_iload_n dX8_alike_29 rfl 2 rfl ?_
    refine J_iconst 4 dX8_alike_30 rfl ?_
    obtain ⟨r6, h5, h⟩ := br_b h
    refine J_callS (mj := mi_X8_of) (as := [.int (x2), .int ((4 : Int32))]) (rest := [.ref (95), .int (x5)]) (ct_X8_of (C := C)  h5) ⟨rfl, rfl⟩ rfl cg_X8_45 hd_X8_of rfl ⟨Nat.le_of_ble_eq_true rfl, Nat.le_of_ble_eq_true rfl⟩ (Nat.le_of_ble_eq_true rfl) ⟨Nat.zero_le _, Nat.zero_le _⟩ dX8_alike_31 ?_
    obtain ⟨u7, h8, h⟩ := br_b h
    refine J_ialdM (m0 := 1) rfl rfl h8 dX8_alike_34 ?_
    refine J_icmp_ge 90 dX8_alike_35 (by decide) (fun c18 => ?_) (fun c18 => ?_)
    · have h := br_p c18 h
      have h := Option.some.inj h
      subst h
      have h2 := Option.some.inj h2
      subst h2
      refine J_sub [0, 1, 2, 3, 4] rfl ?_
      exact Kx _ rfl
    · have h := br_n c18 h
      refine J_iconst 0 dX8_alike_38 rfl ?_
      refine J_istore (L' := [(6, .int ((0 : Int32))), (0, .ref (94)), (1, .int (x1)), (2, .int (x2)), (3, .int (x3)), (4, .int (x4)), (5, .int (x5))]) dX8_alike_39 (by decide) rfl ?_
      refine J_sub [1, 2, 3, 4, 5, 6, 0] rfl ?_
      obtain ⟨z15, h16, h⟩ := br_b h
      refine jl_X8_alike_41  FU _ h16 ?_
      intro zz e
      subst e
      refine J_iload_n dX8_alike_77 rfl 3 rfl ?_
      refine J_iload dX8_alike_78 6 rfl ?_
      refine J_mmax km_X8_157 kst_Math_max ki_Math kcd_Math_max (by decide) (Nat.le_of_ble_eq_true rfl) ⟨Nat.zero_le _, Nat.zero_le _⟩ dX8_alike_80 ?_
      refine J_istore_n (L' := [(3, .int ((a_max x3 z15))), (0, .ref (94)), (1, .int (x1)), (2, .int (x2)), (4, .int (x4)), (5, .int (x5)), (6, .int (z15))]) dX8_alike_83 rfl (by decide) rfl ?_
      refine J_iinc (j := 5) (v := (x5 + (1 : Int32))) (L' := [(5, .int ((x5 + (1 : Int32)))), (3, .int ((a_max x3 z15))), (0, .ref (94)), (1, .int (x1)), (2, .int (x2)), (4, .int (x4)), (6, .int (z15))]) dX8_alike_84 rfl rfl (by decide) rfl ?_
      refine J_goto 23 dX8_alike_87 (by decide) ?_
      have h := Option.some.inj h
      subst h
      refine J_sub [2, 3, 4, 1, 5, 0] rfl ?_
      exact ih _ _ h2 Kx
def b_X8_alike_5 (x1 : Int32) (x2 : Int32) (x3 : Int32) (x4 : Int32) (M : aMm) : Option ((Int32 × Int32) ⊕ (Int32)) :=
  (f_X8_of x1 (4 : Int32) M).bind fun r2 => (m_ld M 1 r2).bind fun u3 => if (u3 : Int32) ≤ x4 then some (.inr x3) else (lpf (fun a : Int32 × Int32 => b_X8_alike_23 (x1) (x2) (x4) a.1 a.2 M) FU (x3, (0 : Int32))).bind fun z19 => some (.inl (z19, (x4 + (1 : Int32))))
set_option maxRecDepth 100000 in
set_option maxHeartbeats 4000000 in
theorem jl_X8_alike_5 {x1 : Int32} {x2 : Int32} {M : aMm} {C : aSc}  {res : aRes} {r : Int32} : ∀ (n : Nat) (x3 : Int32) (x4 : Int32), lpf (fun a : Int32 × Int32 => b_X8_alike_5 (x1) (x2) a.1 a.2 M) n (x3, x4) = some r → (∀ (z3 : Int32), r = z3 → J mi_X8_alike res 0 0 96 [(3, .int (z3))] [] (C, M)) → J mi_X8_alike res 0 0 5 [(0, .ref (94)), (1, .int (x1)), (2, .int (x2)), (3, .int (x3)), (4, .int (x4))] [] (C, M) := by
  intro n
  induction n with
  | zero =>
    intro x3 x4 h
    cases h
  | succ n ih =>
    intro x3 x4 h Kx
    obtain ⟨r0, h, h2⟩ := br_b h
    have h : b_X8_alike_5 x1 x2 x3 x4 M = some r0 := h
    rw [b_X8_alike_5] at h
    refine J_iload dX8_alike_5 4 rfl ?_
    refine J_aload_n dX8_alike_7 rfl 0 rfl ?_
    refine J_getr (j := 0) (t := 103) (r := 95) rfl (by decide) (by decide) rfl (by decide) rfl rfl kf_X8_9 dX8_alike_8 ?_
    refine J_iload_n dX8_alike_11 rfl 1 rfl ?_
    refine J_iconst 4 dX8_alike_12 rfl ?_
    obtain ⟨r2, h1, h⟩ := br_b h
    refine J_callS (mj := mi_X8_of) (as := [.int (x1), .int ((4 : Int32))]) (rest := [.ref (95), .int (x4)]) (ct_X8_of (C := C)  h1) ⟨rfl, rfl⟩ rfl cg_X8_45 hd_X8_of rfl ⟨Nat.le_of_ble_eq_true rfl, Nat.le_of_ble_eq_true rfl⟩ (Nat.le_of_ble_eq_true rfl) ⟨Nat.zero_le _, Nat.zero_le _⟩ dX8_alike_13 ?_
    obtain ⟨u3, h4, h⟩ := br_b h
    refine J_ialdM (m0 := 1) rfl rfl h4 dX8_alike_16 ?_
    refine J_icmp_ge 96 dX8_alike_17 (by decide) (fun c22 => ?_) (fun c22 => ?_)
    · have h := br_p c22 h
      have h := Option.some.inj h
      subst h
      have h2 := Option.some.inj h2
      subst h2
      refine J_sub [3] rfl ?_
      exact Kx _ rfl
    · have h := br_n c22 h
      refine J_iconst 0 dX8_alike_20 rfl ?_
      refine J_istore (L' := [(5, .int ((0 : Int32))), (0, .ref (94)), (1, .int (x1)), (2, .int (x2)), (3, .int (x3)), (4, .int (x4))]) dX8_alike_21 (by decide) rfl ?_
      refine J_sub [1, 2, 3, 4, 5, 0] rfl ?_
      obtain ⟨z19, h20, h⟩ := br_b h
      refine jl_X8_alike_23  FU _ _ h20 ?_
      intro zz e
      subst e
      refine J_iinc (j := 4) (v := (x4 + (1 : Int32))) (L' := [(4, .int ((x4 + (1 : Int32)))), (0, .ref (94)), (1, .int (x1)), (2, .int (x2)), (3, .int (z19))]) dX8_alike_90 rfl rfl (by decide) rfl ?_
      refine J_goto 5 dX8_alike_93 (by decide) ?_
      have h := Option.some.inj h
      subst h
      refine J_sub [1, 2, 3, 4, 0] rfl ?_
      exact ih _ _ h2 Kx
def f_X8_alike (x1 : Int32) (x2 : Int32) (M : aMm) : Option (Int32) :=
  (lpf (fun a : Int32 × Int32 => b_X8_alike_5 (x1) (x2) a.1 a.2 M) FU ((0 : Int32), (0 : Int32))).bind fun z23 => some z23
set_option maxRecDepth 100000 in
set_option maxHeartbeats 4000000 in
theorem jm_X8_alike {x1 : Int32} {x2 : Int32} {C : aSc} {M : aMm}  {res : aRes} {r : Int32} (h : f_X8_alike x1 x2 M = some r) (Kr : ∀ (v : Int32), r = v → res = (some (.int v), (C, M))) : J mi_X8_alike res 0 0 0 [(0, .ref (94)), (1, .int (x1)), (2, .int (x2))] [] (C, M) := by
  rw [f_X8_alike] at h
  refine J_iconst 0 dX8_alike_0 rfl ?_
  refine J_istore_n (L' := [(3, .int ((0 : Int32))), (0, .ref (94)), (1, .int (x1)), (2, .int (x2))]) dX8_alike_1 rfl (by decide) rfl ?_
  refine J_iconst 0 dX8_alike_2 rfl ?_
  refine J_istore (L' := [(4, .int ((0 : Int32))), (3, .int ((0 : Int32))), (0, .ref (94)), (1, .int (x1)), (2, .int (x2))]) dX8_alike_3 (by decide) rfl ?_
  refine J_sub [2, 3, 4, 1, 0] rfl ?_
  obtain ⟨z23, h24, h⟩ := br_b h
  refine jl_X8_alike_5  FU _ _ h24 ?_
  intro zz e
  subst e
  refine J_iload_n dX8_alike_96 rfl 0 rfl ?_
  have h := Option.some.inj h
  subst h
  exact J_iret rfl rfl rfl (Kr _ rfl) dX8_alike_97
theorem ct_X8_alike {x1 : Int32} {x2 : Int32} {C : aSc} {M : aMm} {v : Int32}  (h : f_X8_alike x1 x2 M = some v) : Ct mi_X8_alike yX8_alike [.ref (94), .int (x1), .int (x2)] (C, M) (some (.int v), (C, M)) := Ct_of_J (by decide +kernel) rfl (Nat.le_of_ble_eq_true rfl) (jm_X8_alike  h (fun _ e => by cases e; rfl))
def mi_X8_apart : aMi := (cX8_apart, 4, RX8, (some .int), { frames := 3, cells := 0, slots := 0, locals := 69 })
def f_X8_apart (x1 : Int32) (x2 : Int32) (M : aMm) : Option (Int32 × aMm) :=
  (f_X8_isLight x1 M).bind fun r2 => if (r2 : Int32) = 0 then bd2 (f_X8_finding (-100001 : Int32) M) fun r4 M5 => some (r4, M5) else (f_X8_isLight x2 M).bind fun r7 => if (r7 : Int32) = 0 then bd2 (f_X8_finding (-100001 : Int32) M) fun r19 M20 => some (r19, M20) else if (x1 : Int32) = x2 then bd2 (f_X8_finding (-100003 : Int32) M) fun r15 M16 => some (r15, M16) else (f_X8_alike x1 x2 M).bind fun r9 => if (r9 : Int32) < (60 : Int32) then some ((r9 + (1 : Int32)), M) else bd2 (f_X8_finding (-100006 : Int32) M) fun r11 M12 => some (r11, M12)
set_option maxRecDepth 100000 in
set_option maxHeartbeats 4000000 in
theorem jm_X8_apart {x1 : Int32} {x2 : Int32} {C : aSc} {M : aMm}  {res : aRes} {r : Int32 × aMm} (h : f_X8_apart x1 x2 M = some r) (Kr : ∀ (v : Int32) (S' : aMm), r = (v, S') → res = (some (.int v), (C, S'))) : J mi_X8_apart res 0 0 0 [(0, .ref (94)), (1, .int (x1)), (2, .int (x2))] [] (C, M) := by
  rw [f_X8_apart] at h
  refine J_aload_n dX8_apart_0 rfl 0 rfl ?_
  refine J_iload_n dX8_apart_1 rfl 1 rfl ?_
  obtain ⟨r2, h1, h⟩ := br_b h
  refine J_callV (mj := mi_X8_isLight) (as := [.int (x1)]) (rest := []) (ct_X8_isLight (C := C)  h1) ⟨rfl, rfl⟩ rfl rfl (by decide) rfl cg_X8_120 hd_X8_isLight rfl ⟨Nat.le_of_ble_eq_true rfl, Nat.le_of_ble_eq_true rfl⟩ (Nat.le_of_ble_eq_true rfl) ⟨Nat.zero_le _, Nat.zero_le _⟩ dX8_apart_2 ?_
  refine J_if_eq 16 dX8_apart_5 (by decide) (fun c22 => ?_) (fun c22 => ?_)
  · have h := br_p c22 h
    refine J_aload_n dX8_apart_16 rfl 0 rfl ?_
    refine J_ldc (-100001) dX8_apart_17 kc_X8_57 ?_
    obtain ⟨r4, M5, h3, h⟩ := br_b2 h
    refine J_callV (mj := mi_X8_finding) (as := [.int ((-100001 : Int32))]) (rest := []) (ct_X8_finding (C := C)  h3) ⟨rfl, rfl⟩ rfl rfl (by decide) rfl cg_X8_53 hd_X8_finding rfl ⟨Nat.le_of_ble_eq_true rfl, Nat.le_of_ble_eq_true rfl⟩ (Nat.le_of_ble_eq_true rfl) ⟨Nat.zero_le _, Nat.zero_le _⟩ dX8_apart_19 ?_
    have h := Option.some.inj h
    subst h
    exact J_iret rfl rfl rfl (Kr _ _ rfl) dX8_apart_22
  · have h := br_n c22 h
    refine J_aload_n dX8_apart_8 rfl 0 rfl ?_
    refine J_iload_n dX8_apart_9 rfl 2 rfl ?_
    obtain ⟨r7, h6, h⟩ := br_b h
    refine J_callV (mj := mi_X8_isLight) (as := [.int (x2)]) (rest := []) (ct_X8_isLight (C := C)  h6) ⟨rfl, rfl⟩ rfl rfl (by decide) rfl cg_X8_120 hd_X8_isLight rfl ⟨Nat.le_of_ble_eq_true rfl, Nat.le_of_ble_eq_true rfl⟩ (Nat.le_of_ble_eq_true rfl) ⟨Nat.zero_le _, Nat.zero_le _⟩ dX8_apart_10 ?_
    refine J_if_ne 23 dX8_apart_13 (by decide) (fun c21 => ?_) (fun c21 => ?_)
    · have h := br_n c21 h
      refine J_iload_n dX8_apart_23 rfl 1 rfl ?_
      refine J_iload_n dX8_apart_24 rfl 2 rfl ?_
      refine J_icmp_ne 35 dX8_apart_25 (by decide) (fun c17 => ?_) (fun c17 => ?_)
      · have h := br_n c17 h
        refine J_aload_n dX8_apart_35 rfl 0 rfl ?_
        refine J_iload_n dX8_apart_36 rfl 1 rfl ?_
        refine J_iload_n dX8_apart_37 rfl 2 rfl ?_
        obtain ⟨r9, h8, h⟩ := br_b h
        refine J_callV (mj := mi_X8_alike) (as := [.int (x1), .int (x2)]) (rest := []) (ct_X8_alike (C := C)  h8) ⟨rfl, rfl⟩ rfl rfl (by decide) rfl cg_X8_174 hd_X8_alike rfl ⟨Nat.le_of_ble_eq_true rfl, Nat.le_of_ble_eq_true rfl⟩ (Nat.le_of_ble_eq_true rfl) ⟨Nat.zero_le _, Nat.zero_le _⟩ dX8_apart_38 ?_
        refine J_istore_n (L' := [(3, .int (r9)), (0, .ref (94)), (1, .int (x1)), (2, .int (x2))]) dX8_apart_41 rfl (by decide) rfl ?_
        refine J_iload_n dX8_apart_42 rfl 0 rfl ?_
        refine J_bipush 60 dX8_apart_43 rfl ?_
        refine J_icmp_lt 57 dX8_apart_45 (by decide) (fun c13 => ?_) (fun c13 => ?_)
        · have h := br_p c13 h
          refine J_iload_n dX8_apart_57 rfl 0 rfl ?_
          refine J_iconst 1 dX8_apart_58 rfl ?_
          refine J_iadd dX8_apart_59 ?_
          have h := Option.some.inj h
          subst h
          exact J_iret rfl rfl rfl (Kr _ _ rfl) dX8_apart_60
        · have h := br_n c13 h
          refine J_aload_n dX8_apart_48 rfl 1 rfl ?_
          refine J_ldc (-100006) dX8_apart_49 kc_X8_52 ?_
          obtain ⟨r11, M12, h10, h⟩ := br_b2 h
          refine J_callV (mj := mi_X8_finding) (as := [.int ((-100006 : Int32))]) (rest := []) (ct_X8_finding (C := C)  h10) ⟨rfl, rfl⟩ rfl rfl (by decide) rfl cg_X8_53 hd_X8_finding rfl ⟨Nat.le_of_ble_eq_true rfl, Nat.le_of_ble_eq_true rfl⟩ (Nat.le_of_ble_eq_true rfl) ⟨Nat.zero_le _, Nat.zero_le _⟩ dX8_apart_51 ?_
          refine J_goto 60 dX8_apart_54 (by decide) ?_
          have h := Option.some.inj h
          subst h
          exact J_iret rfl rfl rfl (Kr _ _ rfl) dX8_apart_60
      · have h := br_p c17 h
        refine J_aload_n dX8_apart_28 rfl 0 rfl ?_
        refine J_ldc (-100003) dX8_apart_29 kc_X8_147 ?_
        obtain ⟨r15, M16, h14, h⟩ := br_b2 h
        refine J_callV (mj := mi_X8_finding) (as := [.int ((-100003 : Int32))]) (rest := []) (ct_X8_finding (C := C)  h14) ⟨rfl, rfl⟩ rfl rfl (by decide) rfl cg_X8_53 hd_X8_finding rfl ⟨Nat.le_of_ble_eq_true rfl, Nat.le_of_ble_eq_true rfl⟩ (Nat.le_of_ble_eq_true rfl) ⟨Nat.zero_le _, Nat.zero_le _⟩ dX8_apart_31 ?_
        have h := Option.some.inj h
        subst h
        exact J_iret rfl rfl rfl (Kr _ _ rfl) dX8_apart_34
    · have h := br_p c21 h
      refine J_aload_n dX8_apart_16 rfl 0 rfl ?_
      refine J_ldc (-100001) dX8_apart_17 kc_X8_57 ?_
      obtain ⟨r19, M20, h18, h⟩ := br_b2 h
      refine J_callV (mj := mi_X8_finding) (as := [.int ((-100001 : Int32))]) (rest := []) (ct_X8_finding (C := C)  h18) ⟨rfl, rfl⟩ rfl rfl (by decide) rfl cg_X8_53 hd_X8_finding rfl ⟨Nat.le_of_ble_eq_true rfl, Nat.le_of_ble_eq_true rfl⟩ (Nat.le_of_ble_eq_true rfl) ⟨Nat.zero_le _, Nat.zero_le _⟩ dX8_apart_19 ?_
      have h := Option.some.inj h
      subst h
      exact J_iret rfl rfl rfl (Kr _ _ rfl) dX8_apart_22
theorem ct_X8_apart {x1 : Int32} {x2 : Int32} {C : aSc} {M : aMm} {v : Int32} {S' : aMm}  (h : f_X8_apart x1 x2 M = some (v, S')) : Ct mi_X8_apart yX8_apart [.ref (94), .int (x1), .int (x2)] (C, M) (some (.int v), (C, S')) := Ct_of_J (by decide +kernel) rfl (Nat.le_of_ble_eq_true rfl) (jm_X8_apart  h (fun _ _ e => by cases e; rfl))
def mi_X8_allApart : aMi := (cX8_allApart, 5, RX8, (some .int), { frames := 3, cells := 0, slots := 0, locals := 69 })
def b_X8_allApart_42 (x1 : Int32) (x3 : Int32) (x2 : Int32) (x4 : Int32) (M : aMm) : Option ((Int32 × Int32) ⊕ (Int32)) :=
  (m_ld M 1 (0 : Int32)).bind fun u8 => if (u8 : Int32) ≤ x4 then some (.inr x2) else if (((x1 >>> (x3 &&& 31)) &&& (1 : Int32)) : Int32) = (1 : Int32) then if (((x1 >>> (x4 &&& 31)) &&& (1 : Int32)) : Int32) = (1 : Int32) then (f_X8_alike x3 x4 M).bind fun r11 => some (.inl ((a_max x2 r11), (x4 + (1 : Int32)))) else some (.inl (x2, (x4 + (1 : Int32)))) else some (.inl (x2, (x4 + (1 : Int32))))
set_option maxRecDepth 100000 in
set_option maxHeartbeats 4000000 in
theorem jl_X8_allApart_42 {x1 : Int32} {x3 : Int32} {M : aMm} {C : aSc}  {res : aRes} {r : Int32} : ∀ (n : Nat) (x2 : Int32) (x4 : Int32), lpf (fun a : Int32 × Int32 => b_X8_allApart_42 (x1) (x3) a.1 a.2 M) n (x2, x4) = some r → (∀ (z2 : Int32), r = z2 → J mi_X8_allApart res 0 0 94 [(0, .ref (94)), (1, .int (x1)), (2, .int (z2)), (3, .int (x3))] [] (C, M)) → J mi_X8_allApart res 0 0 42 [(0, .ref (94)), (1, .int (x1)), (2, .int (x2)), (3, .int (x3)), (4, .int (x4))] [] (C, M) := by
  intro n
  induction n with
  | zero =>
    intro x2 x4 h
    cases h
  | succ n ih =>
    intro x2 x4 h Kx
    obtain ⟨r0, h, h2⟩ := br_b h
    have h : b_X8_allApart_42 x1 x3 x2 x4 M = some r0 := h
    rw [b_X8_allApart_42] at h
    refine J_iload dX8_allApart_42 4 rfl ?_
    refine J_aload_n dX8_allApart_44 rfl 0 rfl ?_
    refine J_getr (j := 0) (t := 103) (r := 95) rfl (by decide) (by decide) rfl (by decide) rfl rfl kf_X8_9 dX8_allApart_45 ?_
    refine J_iconst 0 dX8_allApart_48 rfl ?_
    obtain ⟨u8, h9, h⟩ := br_b h
    refine J_ialdM (m0 := 1) rfl rfl h9 dX8_allApart_49 ?_
    refine J_icmp_ge 94 dX8_allApart_50 (by decide) (fun c14 => ?_) (fun c14 => ?_)
    · have h := br_p c14 h
      have h := Option.some.inj h
      subst h
      have h2 := Option.some.inj h2
      subst h2
      refine J_sub [0, 1, 2, 3] rfl ?_
      exact Kx _ rfl
    · have h := br_n c14 h
      refine J_iload_n dX8_allApart_53 rfl 1 rfl ?_
      refine J_iload_n dX8_allApart_54 rfl 3 rfl ?_
      refine J_ishr dX8_allApart_55 ?_
      refine J_iconst 1 dX8_allApart_56 rfl ?_
      refine J_iand dX8_allApart_57 ?_
      refine J_iconst 1 dX8_allApart_58 rfl ?_
      refine J_icmp_ne 86 dX8_allApart_59 (by decide) (fun c13 => ?_) (fun c13 => ?_)
      · have h := br_n c13 h
        refine J_iload_n dX8_allApart_86 rfl 2 rfl ?_
        refine J_istore_n (L' := [(2, .int (x2)), (0, .ref (94)), (1, .int (x1)), (3, .int (x3)), (4, .int (x4))]) dX8_allApart_87 rfl (by decide) rfl ?_
        refine J_iinc (j := 4) (v := (x4 + (1 : Int32))) (L' := [(4, .int ((x4 + (1 : Int32)))), (2, .int (x2)), (0, .ref (94)), (1, .int (x1)), (3, .int (x3))]) dX8_allApart_88 rfl rfl (by decide) rfl ?_
        refine J_goto 42 dX8_allApart_91 (by decide) ?_
        have h := Option.some.inj h
        subst h
        refine J_sub [2, 3, 1, 4, 0] rfl ?_
        exact ih _ _ h2 Kx
      · have h := br_p c13 h
        refine J_iload_n dX8_allApart_62 rfl 1 rfl ?_
        refine J_iload dX8_allApart_63 4 rfl ?_
        refine J_ishr dX8_allApart_65 ?_
        refine J_iconst 1 dX8_allApart_66 rfl ?_
        refine J_iand dX8_allApart_67 ?_
        refine J_iconst 1 dX8_allApart_68 rfl ?_
        refine J_icmp_ne 86 dX8_allApart_69 (by decide) (fun c12 => ?_) (fun c12 => ?_)
        · have h := br_n c12 h
          refine J_iload_n dX8_allApart_86 rfl 2 rfl ?_
          refine J_istore_n (L' := [(2, .int (x2)), (0, .ref (94)), (1, .int (x1)), (3, .int (x3)), (4, .int (x4))]) dX8_allApart_87 rfl (by decide) rfl ?_
          refine J_iinc (j := 4) (v := (x4 + (1 : Int32))) (L' := [(4, .int ((x4 + (1 : Int32)))), (2, .int (x2)), (0, .ref (94)), (1, .int (x1)), (3, .int (x3))]) dX8_allApart_88 rfl rfl (by decide) rfl ?_
          refine J_goto 42 dX8_allApart_91 (by decide) ?_
          have h := Option.some.inj h
          subst h
          refine J_sub [2, 3, 1, 4, 0] rfl ?_
          exact ih _ _ h2 Kx
        · have h := br_p c12 h
          refine J_iload_n dX8_allApart_72 rfl 2 rfl ?_
          refine J_aload_n dX8_allApart_73 rfl 0 rfl ?_
          refine J_iload_n dX8_allApart_74 rfl 3 rfl ?_
          refine J_iload dX8_allApart_75 4 rfl ?_
          obtain ⟨r11, h10, h⟩ := br_b h
          refine J_callV (mj := mi_X8_alike) (as := [.int (x3), .int (x4)]) (rest := [.int (x2)]) (ct_X8_alike (C := C)  h10) ⟨rfl, rfl⟩ rfl rfl (by decide) rfl cg_X8_174 hd_X8_alike rfl ⟨Nat.le_of_ble_eq_true rfl, Nat.le_of_ble_eq_true rfl⟩ (Nat.le_of_ble_eq_true rfl) ⟨Nat.zero_le _, Nat.zero_le _⟩ dX8_allApart_77 ?_
          refine J_mmax km_X8_157 kst_Math_max ki_Math kcd_Math_max (by decide) (Nat.le_of_ble_eq_true rfl) ⟨Nat.zero_le _, Nat.zero_le _⟩ dX8_allApart_80 ?_
          refine J_goto 87 dX8_allApart_83 (by decide) ?_
          refine J_istore_n (L' := [(2, .int ((a_max x2 r11))), (0, .ref (94)), (1, .int (x1)), (3, .int (x3)), (4, .int (x4))]) dX8_allApart_87 rfl (by decide) rfl ?_
          refine J_iinc (j := 4) (v := (x4 + (1 : Int32))) (L' := [(4, .int ((x4 + (1 : Int32)))), (2, .int ((a_max x2 r11))), (0, .ref (94)), (1, .int (x1)), (3, .int (x3))]) dX8_allApart_88 rfl rfl (by decide) rfl ?_
          refine J_goto 42 dX8_allApart_91 (by decide) ?_
          have h := Option.some.inj h
          subst h
          refine J_sub [2, 3, 1, 4, 0] rfl ?_
          exact ih _ _ h2 Kx
def b_X8_allApart_27 (x1 : Int32) (x2 : Int32) (x3 : Int32) (M : aMm) : Option ((Int32 × Int32) ⊕ (Int32)) :=
  (m_ld M 1 (0 : Int32)).bind fun u6 => if (u6 : Int32) ≤ x3 then some (.inr x2) else (lpf (fun a : Int32 × Int32 => b_X8_allApart_42 (x1) (x3) a.1 a.2 M) FU (x2, (x3 + (1 : Int32)))).bind fun z15 => some (.inl (z15, (x3 + (1 : Int32))))
set_option maxRecDepth 100000 in
set_option maxHeartbeats 4000000 in
theorem jl_X8_allApart_27 {x1 : Int32} {M : aMm} {C : aSc}  {res : aRes} {r : Int32} : ∀ (n : Nat) (x2 : Int32) (x3 : Int32), lpf (fun a : Int32 × Int32 => b_X8_allApart_27 (x1) a.1 a.2 M) n (x2, x3) = some r → (∀ (z2 : Int32), r = z2 → J mi_X8_allApart res 0 0 100 [(0, .ref (94)), (2, .int (z2))] [] (C, M)) → J mi_X8_allApart res 0 0 27 [(0, .ref (94)), (1, .int (x1)), (2, .int (x2)), (3, .int (x3))] [] (C, M) := by
  intro n
  induction n with
  | zero =>
    intro x2 x3 h
    cases h
  | succ n ih =>
    intro x2 x3 h Kx
    obtain ⟨r0, h, h2⟩ := br_b h
    have h : b_X8_allApart_27 x1 x2 x3 M = some r0 := h
    rw [b_X8_allApart_27] at h
    refine J_iload_n dX8_allApart_27 rfl 3 rfl ?_
    refine J_aload_n dX8_allApart_28 rfl 0 rfl ?_
    refine J_getr (j := 0) (t := 103) (r := 95) rfl (by decide) (by decide) rfl (by decide) rfl rfl kf_X8_9 dX8_allApart_29 ?_
    refine J_iconst 0 dX8_allApart_32 rfl ?_
    obtain ⟨u6, h7, h⟩ := br_b h
    refine J_ialdM (m0 := 1) rfl rfl h7 dX8_allApart_33 ?_
    refine J_icmp_ge 100 dX8_allApart_34 (by decide) (fun c18 => ?_) (fun c18 => ?_)
    · have h := br_p c18 h
      have h := Option.some.inj h
      subst h
      have h2 := Option.some.inj h2
      subst h2
      refine J_sub [0, 2] rfl ?_
      exact Kx _ rfl
    · have h := br_n c18 h
      refine J_iload_n dX8_allApart_37 rfl 3 rfl ?_
      refine J_iconst 1 dX8_allApart_38 rfl ?_
      refine J_iadd dX8_allApart_39 ?_
      refine J_istore (L' := [(4, .int ((x3 + (1 : Int32)))), (0, .ref (94)), (1, .int (x1)), (2, .int (x2)), (3, .int (x3))]) dX8_allApart_40 (by decide) rfl ?_
      refine J_sub [1, 2, 3, 4, 0] rfl ?_
      obtain ⟨z15, h16, h⟩ := br_b h
      refine jl_X8_allApart_42  FU _ _ h16 ?_
      intro zz e
      subst e
      refine J_iinc (j := 3) (v := (x3 + (1 : Int32))) (L' := [(3, .int ((x3 + (1 : Int32)))), (0, .ref (94)), (1, .int (x1)), (2, .int (z15))]) dX8_allApart_94 rfl rfl (by decide) rfl ?_
      refine J_goto 27 dX8_allApart_97 (by decide) ?_
      have h := Option.some.inj h
      subst h
      refine J_sub [1, 2, 3, 0] rfl ?_
      exact ih _ _ h2 Kx
def f_X8_allApart (x1 : Int32) (M : aMm) : Option (Int32 × aMm) :=
  if (x1 : Int32) < 0 then bd2 (f_X8_finding (-100001 : Int32) M) fun r2 M3 => some (r2, M3) else (m_ld M 1 (0 : Int32)).bind fun u4 => if (x1 : Int32) < ((1 : Int32) <<< (u4 &&& 31)) then (lpf (fun a : Int32 × Int32 => b_X8_allApart_27 (x1) a.1 a.2 M) FU ((0 : Int32), (0 : Int32))).bind fun z19 => if (z19 : Int32) < (60 : Int32) then some ((z19 + (1 : Int32)), M) else bd2 (f_X8_finding (-100006 : Int32) M) fun r23 M24 => some (r23, M24) else bd2 (f_X8_finding (-100001 : Int32) M) fun r27 M28 => some (r27, M28)
set_option maxRecDepth 100000 in
set_option maxHeartbeats 4000000 in
theorem jm_X8_allApart {x1 : Int32} {C : aSc} {M : aMm}  {res : aRes} {r : Int32 × aMm} (h : f_X8_allApart x1 M = some r) (Kr : ∀ (v : Int32) (S' : aMm), r = (v, S') → res = (some (.int v), (C, S'))) : J mi_X8_allApart res 0 0 0 [(0, .ref (94)), (1, .int (x1))] [] (C, M) := by
  rw [f_X8_allApart] at h
  refine J_iload_n dX8_allApart_0 rfl 1 rfl ?_
  refine J_if_lt 16 dX8_allApart_1 (by decide) (fun c30 => ?_) (fun c30 => ?_)
  · have h := br_p c30 h
    refine J_aload_n dX8_allApart_16 rfl 0 rfl ?_
    refine J_ldc (-100001) dX8_allApart_17 kc_X8_57 ?_
    obtain ⟨r2, M3, h1, h⟩ := br_b2 h
    refine J_callV (mj := mi_X8_finding) (as := [.int ((-100001 : Int32))]) (rest := []) (ct_X8_finding (C := C)  h1) ⟨rfl, rfl⟩ rfl rfl (by decide) rfl cg_X8_53 hd_X8_finding rfl ⟨Nat.le_of_ble_eq_true rfl, Nat.le_of_ble_eq_true rfl⟩ (Nat.le_of_ble_eq_true rfl) ⟨Nat.zero_le _, Nat.zero_le _⟩ dX8_allApart_19 ?_
    have h := Option.some.inj h
    subst h
    exact J_iret rfl rfl rfl (Kr _ _ rfl) dX8_allApart_22
  · have h := br_n c30 h
    refine J_iload_n dX8_allApart_4 rfl 1 rfl ?_
    refine J_iconst 1 dX8_allApart_5 rfl ?_
    refine J_aload_n dX8_allApart_6 rfl 0 rfl ?_
    refine J_getr (j := 0) (t := 103) (r := 95) rfl (by decide) (by decide) rfl (by decide) rfl rfl kf_X8_9 dX8_allApart_7 ?_
    refine J_iconst 0 dX8_allApart_10 rfl ?_
    obtain ⟨u4, h5, h⟩ := br_b h
    refine J_ialdM (m0 := 1) rfl rfl h5 dX8_allApart_11 ?_
    refine J_ishl dX8_allApart_12 ?_
    refine J_icmp_lt 23 dX8_allApart_13 (by decide) (fun c29 => ?_) (fun c29 => ?_)
    · have h := br_p c29 h
      refine J_iconst 0 dX8_allApart_23 rfl ?_
      refine J_istore_n (L' := [(2, .int ((0 : Int32))), (0, .ref (94)), (1, .int (x1))]) dX8_allApart_24 rfl (by decide) rfl ?_
      refine J_iconst 0 dX8_allApart_25 rfl ?_
      refine J_istore_n (L' := [(3, .int ((0 : Int32))), (2, .int ((0 : Int32))), (0, .ref (94)), (1, .int (x1))]) dX8_allApart_26 rfl (by decide) rfl ?_
      refine J_sub [2, 3, 1, 0] rfl ?_
      obtain ⟨z19, h20, h⟩ := br_b h
      refine jl_X8_allApart_27  FU _ _ h20 ?_
      intro zz e
      subst e
      refine J_iload_n dX8_allApart_100 rfl 1 rfl ?_
      refine J_bipush 60 dX8_allApart_101 rfl ?_
      refine J_icmp_lt 115 dX8_allApart_103 (by decide) (fun c25 => ?_) (fun c25 => ?_)
      · have h := br_p c25 h
        refine J_iload_n dX8_allApart_115 rfl 1 rfl ?_
        refine J_iconst 1 dX8_allApart_116 rfl ?_
        refine J_iadd dX8_allApart_117 ?_
        have h := Option.some.inj h
        subst h
        exact J_iret rfl rfl rfl (Kr _ _ rfl) dX8_allApart_118
      · have h := br_n c25 h
        refine J_aload_n dX8_allApart_106 rfl 0 rfl ?_
        refine J_ldc (-100006) dX8_allApart_107 kc_X8_52 ?_
        obtain ⟨r23, M24, h22, h⟩ := br_b2 h
        refine J_callV (mj := mi_X8_finding) (as := [.int ((-100006 : Int32))]) (rest := []) (ct_X8_finding (C := C)  h22) ⟨rfl, rfl⟩ rfl rfl (by decide) rfl cg_X8_53 hd_X8_finding rfl ⟨Nat.le_of_ble_eq_true rfl, Nat.le_of_ble_eq_true rfl⟩ (Nat.le_of_ble_eq_true rfl) ⟨Nat.zero_le _, Nat.zero_le _⟩ dX8_allApart_109 ?_
        refine J_goto 118 dX8_allApart_112 (by decide) ?_
        have h := Option.some.inj h
        subst h
        exact J_iret rfl rfl rfl (Kr _ _ rfl) dX8_allApart_118
    · have h := br_n c29 h
      refine J_aload_n dX8_allApart_16 rfl 0 rfl ?_
      refine J_ldc (-100001) dX8_allApart_17 kc_X8_57 ?_
      obtain ⟨r27, M28, h26, h⟩ := br_b2 h
      refine J_callV (mj := mi_X8_finding) (as := [.int ((-100001 : Int32))]) (rest := []) (ct_X8_finding (C := C)  h26) ⟨rfl, rfl⟩ rfl rfl (by decide) rfl cg_X8_53 hd_X8_finding rfl ⟨Nat.le_of_ble_eq_true rfl, Nat.le_of_ble_eq_true rfl⟩ (Nat.le_of_ble_eq_true rfl) ⟨Nat.zero_le _, Nat.zero_le _⟩ dX8_allApart_19 ?_
      have h := Option.some.inj h
      subst h
      exact J_iret rfl rfl rfl (Kr _ _ rfl) dX8_allApart_22
theorem ct_X8_allApart {x1 : Int32} {C : aSc} {M : aMm} {v : Int32} {S' : aMm}  (h : f_X8_allApart x1 M = some (v, S')) : Ct mi_X8_allApart yX8_allApart [.ref (94), .int (x1)] (C, M) (some (.int v), (C, S')) := Ct_of_J (by decide +kernel) rfl (Nat.le_of_ble_eq_true rfl) (jm_X8_allApart  h (fun _ _ e => by cases e; rfl))
def mi_X8_fitsFrom : aMi := (cX8_fitsFrom, 5, RX8, (some .boolean), { frames := 2, cells := 0, slots := 0, locals := 43 })
def b_X8_fitsFrom_3 (x1 : Int32) (x2 : Int32) (x3 : Int32) (x4 : Int32) (M : aMm) : Option ((Int32) ⊕ ((Unit) ⊕ (Int32))) :=
  (m_ld M 5 x3).bind fun u1 => if (u1 : Int32) ≤ x4 then some (.inr (.inl ())) else (f_X8_hasLight x1 (x2 + x4) M).bind fun r4 => (m_ld M 6 (((30 : Int32) * x3) + x4)).bind fun u5 => if (u5 : Int32) = 0 then if (r4 : Int32) = (0 : Int32) then some (.inl (x4 + (1 : Int32))) else some (.inr (.inr (0 : Int32))) else if (r4 : Int32) = (1 : Int32) then some (.inl (x4 + (1 : Int32))) else some (.inr (.inr (0 : Int32)))
set_option maxRecDepth 100000 in
set_option maxHeartbeats 4000000 in
theorem jl_X8_fitsFrom_3 {x1 : Int32} {x2 : Int32} {x3 : Int32} {M : aMm} {C : aSc}  {res : aRes} {r : (Unit) ⊕ (Int32)} : ∀ (n : Nat) (x4 : Int32), lpf (fun a : Int32 => b_X8_fitsFrom_3 (x1) (x2) (x3) a M) n x4 = some r → (r = .inl () → J mi_X8_fitsFrom res 0 0 54 [] [] (C, M)) → (∀ (v : Int32), r = .inr v → res = (some (.int v), (C, M))) → J mi_X8_fitsFrom res 0 0 3 [(0, .ref (94)), (1, .int (x1)), (2, .int (x2)), (3, .int (x3)), (4, .int (x4))] [] (C, M) := by
  intro n
  induction n with
  | zero =>
    intro x4 h
    cases h
  | succ n ih =>
    intro x4 h Kx Kr
    obtain ⟨r0, h, h2⟩ := br_b h
    have h : b_X8_fitsFrom_3 x1 x2 x3 x4 M = some r0 := h
    rw [b_X8_fitsFrom_3] at h
    refine J_iload dX8_fitsFrom_3 4 rfl ?_
    refine J_aload_n dX8_fitsFrom_5 rfl 0 rfl ?_
    refine J_getr (j := 7) (t := 107) (r := 99) rfl (by decide) (by decide) rfl (by decide) rfl rfl kf_X8_22 dX8_fitsFrom_6 ?_
    refine J_iload_n dX8_fitsFrom_9 rfl 3 rfl ?_
    obtain ⟨u1, h2, h⟩ := br_b h
    refine J_ialdM (m0 := 5) rfl rfl h2 dX8_fitsFrom_10 ?_
    refine J_icmp_ge 54 dX8_fitsFrom_11 (by decide) (fun c10 => ?_) (fun c10 => ?_)
    · have h := br_p c10 h
      have h := Option.some.inj h
      subst h
      have h2 := Option.some.inj h2
      subst h2
      refine J_sub [] rfl ?_
      exact Kx  rfl
    · have h := br_n c10 h
      refine J_aload_n dX8_fitsFrom_14 rfl 0 rfl ?_
      refine J_iload_n dX8_fitsFrom_15 rfl 1 rfl ?_
      refine J_iload_n dX8_fitsFrom_16 rfl 2 rfl ?_
      refine J_iload dX8_fitsFrom_17 4 rfl ?_
      refine J_iadd dX8_fitsFrom_19 ?_
      obtain ⟨r4, h3, h⟩ := br_b h
      refine J_callV (mj := mi_X8_hasLight) (as := [.int (x1), .int ((x2 + x4))]) (rest := []) (ct_X8_hasLight (C := C)  h3) ⟨rfl, rfl⟩ rfl rfl (by decide) rfl cg_X8_127 hd_X8_hasLight rfl ⟨Nat.le_of_ble_eq_true rfl, Nat.le_of_ble_eq_true rfl⟩ (Nat.le_of_ble_eq_true rfl) ⟨Nat.zero_le _, Nat.zero_le _⟩ dX8_fitsFrom_20 ?_
      refine J_aload_n dX8_fitsFrom_23 rfl 0 rfl ?_
      refine J_getr (j := 8) (t := 108) (r := 100) rfl (by decide) (by decide) rfl (by decide) rfl rfl kf_X8_25 dX8_fitsFrom_24 ?_
      refine J_bipush 30 dX8_fitsFrom_27 rfl ?_
      refine J_iload_n dX8_fitsFrom_29 rfl 3 rfl ?_
      refine J_imul dX8_fitsFrom_30 ?_
      refine J_iload dX8_fitsFrom_31 4 rfl ?_
      refine J_iadd dX8_fitsFrom_33 ?_
      obtain ⟨u5, h6, h⟩ := br_b h
      refine J_ialdM (m0 := 6) rfl rfl h6 dX8_fitsFrom_34 ?_
      refine J_if_eq 42 dX8_fitsFrom_35 (by decide) (fun c9 => ?_) (fun c9 => ?_)
      · have h := br_p c9 h
        refine J_iconst 0 dX8_fitsFrom_42 rfl ?_
        refine J_icmp_eq 48 dX8_fitsFrom_43 (by decide) (fun c7 => ?_) (fun c7 => ?_)
        · have h := br_p c7 h
          refine J_iinc (j := 4) (v := (x4 + (1 : Int32))) (L' := [(4, .int ((x4 + (1 : Int32)))), (0, .ref (94)), (1, .int (x1)), (2, .int (x2)), (3, .int (x3))]) dX8_fitsFrom_48 rfl rfl (by decide) rfl ?_
          refine J_goto 3 dX8_fitsFrom_51 (by decide) ?_
          have h := Option.some.inj h
          subst h
          refine J_sub [1, 2, 3, 4, 0] rfl ?_
          exact ih _ h2 Kx Kr
        · have h := br_n c7 h
          refine J_iconst 0 dX8_fitsFrom_46 rfl ?_
          have h := Option.some.inj h
          subst h
          have h2 := Option.some.inj h2
          subst h2
          exact J_zret (Or.inl rfl) rfl rfl rfl (Kr _ rfl) dX8_fitsFrom_47
      · have h := br_n c9 h
        refine J_iconst 1 dX8_fitsFrom_38 rfl ?_
        refine J_goto 43 dX8_fitsFrom_39 (by decide) ?_
        refine J_icmp_eq 48 dX8_fitsFrom_43 (by decide) (fun c8 => ?_) (fun c8 => ?_)
        · have h := br_p c8 h
          refine J_iinc (j := 4) (v := (x4 + (1 : Int32))) (L' := [(4, .int ((x4 + (1 : Int32)))), (0, .ref (94)), (1, .int (x1)), (2, .int (x2)), (3, .int (x3))]) dX8_fitsFrom_48 rfl rfl (by decide) rfl ?_
          refine J_goto 3 dX8_fitsFrom_51 (by decide) ?_
          have h := Option.some.inj h
          subst h
          refine J_sub [1, 2, 3, 4, 0] rfl ?_
          exact ih _ h2 Kx Kr
        · have h := br_n c8 h
          refine J_iconst 0 dX8_fitsFrom_46 rfl ?_
          have h := Option.some.inj h
          subst h
          have h2 := Option.some.inj h2
          subst h2
          exact J_zret (Or.inl rfl) rfl rfl rfl (Kr _ rfl) dX8_fitsFrom_47
def f_X8_fitsFrom (x1 : Int32) (x2 : Int32) (x3 : Int32) (M : aMm) : Option (Int32) :=
  (lpf (fun a : Int32 => b_X8_fitsFrom_3 (x1) (x2) (x3) a M) FU (0 : Int32)).bind fun z11 => Sum.elim (fun z11a => some (1 : Int32)) (fun z13 => some z13) z11
set_option maxRecDepth 100000 in
set_option maxHeartbeats 4000000 in
theorem jm_X8_fitsFrom {x1 : Int32} {x2 : Int32} {x3 : Int32} {C : aSc} {M : aMm}  {res : aRes} {r : Int32} (h : f_X8_fitsFrom x1 x2 x3 M = some r) (Kr : ∀ (v : Int32), r = v → res = (some (.int v), (C, M))) : J mi_X8_fitsFrom res 0 0 0 [(0, .ref (94)), (1, .int (x1)), (2, .int (x2)), (3, .int (x3))] [] (C, M) := by
  rw [f_X8_fitsFrom] at h
  refine J_iconst 0 dX8_fitsFrom_0 rfl ?_
  refine J_istore (L' := [(4, .int ((0 : Int32))), (0, .ref (94)), (1, .int (x1)), (2, .int (x2)), (3, .int (x3))]) dX8_fitsFrom_1 (by decide) rfl ?_
  refine J_sub [1, 2, 3, 4, 0] rfl ?_
  obtain ⟨z11, h12, h⟩ := br_b h
  refine jl_X8_fitsFrom_3  FU _ h12 ?_ ?_
  · intro e
    subst e
    have h := br_l h
    refine J_iconst 1 dX8_fitsFrom_54 rfl ?_
    have h := Option.some.inj h
    subst h
    exact J_zret (Or.inr rfl) rfl rfl rfl (Kr _ rfl) dX8_fitsFrom_55
  · intro v e
    subst e
    have h := br_r h
    have h := Option.some.inj h
    subst h
    exact Kr _ rfl
theorem ct_X8_fitsFrom {x1 : Int32} {x2 : Int32} {x3 : Int32} {C : aSc} {M : aMm} {v : Int32}  (h : f_X8_fitsFrom x1 x2 x3 M = some v) : Ct mi_X8_fitsFrom yX8_fitsFrom [.ref (94), .int (x1), .int (x2), .int (x3)] (C, M) (some (.int v), (C, M)) := Ct_of_J (by decide +kernel) rfl (Nat.le_of_ble_eq_true rfl) (jm_X8_fitsFrom  h (fun _ e => by cases e; rfl))
def mi_X8_isSheet : aMi := (cX8_isSheet, 1, RX8, (some .boolean), { frames := 1, cells := 0, slots := 0, locals := 22 })
def f_X8_isSheet (x0 : Int32) (M : aMm) : Option (Int32) :=
  (f_X8_within x0 (0 : Int32) (3 : Int32) M).bind fun r2 => if r2 = 0 ∨ r2 = 1 then some r2 else none
set_option maxRecDepth 100000 in
set_option maxHeartbeats 4000000 in
theorem jm_X8_isSheet {x0 : Int32} {C : aSc} {M : aMm}  {res : aRes} {r : Int32} (h : f_X8_isSheet x0 M = some r) (Kr : ∀ (v : Int32), r = v → res = (some (.int v), (C, M))) : J mi_X8_isSheet res 0 0 0 [(0, .int (x0))] [] (C, M) := by
  rw [f_X8_isSheet] at h
  refine J_iload_n dX8_isSheet_0 rfl 0 rfl ?_
  refine J_iconst 0 dX8_isSheet_1 rfl ?_
  refine J_iconst 3 dX8_isSheet_2 rfl ?_
  obtain ⟨r2, h1, h⟩ := br_b h
  refine J_callS (mj := mi_X8_within) (as := [.int (x0), .int ((0 : Int32)), .int ((3 : Int32))]) (rest := []) (ct_X8_within (C := C)  h1) ⟨rfl, rfl⟩ rfl cg_X8_41 hd_X8_within rfl ⟨Nat.le_of_ble_eq_true rfl, Nat.le_of_ble_eq_true rfl⟩ (Nat.le_of_ble_eq_true rfl) ⟨Nat.zero_le _, Nat.zero_le _⟩ dX8_isSheet_3 ?_
  obtain ⟨n3, h⟩ := br_g h
  have h := Option.some.inj h
  subst h
  exact J_zret n3 rfl rfl rfl (Kr _ rfl) dX8_isSheet_6
theorem ct_X8_isSheet {x0 : Int32} {C : aSc} {M : aMm} {v : Int32}  (h : f_X8_isSheet x0 M = some v) : Ct mi_X8_isSheet yX8_isSheet [.int (x0)] (C, M) (some (.int v), (C, M)) := Ct_of_J (by decide +kernel) rfl (Nat.le_of_ble_eq_true rfl) (jm_X8_isSheet  h (fun _ e => by cases e; rfl))
def mi_X8_fits : aMi := (cX8_fits, 5, RX8, (some .int), { frames := 3, cells := 0, slots := 0, locals := 67 })
def b_X8_fits_47 (x1 : Int32) (x3 : Int32) (x2 : Int32) (x4 : Int32) (M : aMm) : Option ((Int32 × Int32) ⊕ (Int32)) :=
  (f_X8_of x3 (4 : Int32) M).bind fun r8 => (m_ld M 1 r8).bind fun u9 => if (u9 : Int32) ≤ x4 then some (.inr x2) else (f_X8_fitsFrom x3 x4 x1 M).bind fun r12 => if (r12 : Int32) = 0 then some (.inl ((x2 ||| (0 : Int32)), (x4 + (1 : Int32)))) else some (.inl ((x2 ||| ((1 : Int32) <<< (x3 &&& 31))), (x4 + (1 : Int32))))
set_option maxRecDepth 100000 in
set_option maxHeartbeats 4000000 in
theorem jl_X8_fits_47 {x1 : Int32} {x3 : Int32} {M : aMm} {C : aSc}  {res : aRes} {r : Int32} : ∀ (n : Nat) (x2 : Int32) (x4 : Int32), lpf (fun a : Int32 × Int32 => b_X8_fits_47 (x1) (x3) a.1 a.2 M) n (x2, x4) = some r → (∀ (z2 : Int32), r = z2 → J mi_X8_fits res 0 0 89 [(0, .ref (94)), (1, .int (x1)), (2, .int (z2)), (3, .int (x3))] [] (C, M)) → J mi_X8_fits res 0 0 47 [(0, .ref (94)), (1, .int (x1)), (2, .int (x2)), (3, .int (x3)), (4, .int (x4))] [] (C, M) := by
  intro n
  induction n with
  | zero =>
    intro x2 x4 h
    cases h
  | succ n ih =>
    intro x2 x4 h Kx
    obtain ⟨r0, h, h2⟩ := br_b h
    have h : b_X8_fits_47 x1 x3 x2 x4 M = some r0 := h
    rw [b_X8_fits_47] at h
    refine J_iload dX8_fits_47 4 rfl ?_
    refine J_aload_n dX8_fits_49 rfl 0 rfl ?_
    refine J_getr (j := 0) (t := 103) (r := 95) rfl (by decide) (by decide) rfl (by decide) rfl rfl kf_X8_9 dX8_fits_50 ?_
    refine J_iload_n dX8_fits_53 rfl 3 rfl ?_
    refine J_iconst 4 dX8_fits_54 rfl ?_
    obtain ⟨r8, h7, h⟩ := br_b h
    refine J_callS (mj := mi_X8_of) (as := [.int (x3), .int ((4 : Int32))]) (rest := [.ref (95), .int (x4)]) (ct_X8_of (C := C)  h7) ⟨rfl, rfl⟩ rfl cg_X8_45 hd_X8_of rfl ⟨Nat.le_of_ble_eq_true rfl, Nat.le_of_ble_eq_true rfl⟩ (Nat.le_of_ble_eq_true rfl) ⟨Nat.zero_le _, Nat.zero_le _⟩ dX8_fits_55 ?_
    obtain ⟨u9, h10, h⟩ := br_b h
    refine J_ialdM (m0 := 1) rfl rfl h10 dX8_fits_58 ?_
    refine J_icmp_ge 89 dX8_fits_59 (by decide) (fun c14 => ?_) (fun c14 => ?_)
    · have h := br_p c14 h
      have h := Option.some.inj h
      subst h
      have h2 := Option.some.inj h2
      subst h2
      refine J_sub [0, 1, 2, 3] rfl ?_
      exact Kx _ rfl
    · have h := br_n c14 h
      refine J_iload_n dX8_fits_62 rfl 2 rfl ?_
      refine J_aload_n dX8_fits_63 rfl 0 rfl ?_
      refine J_iload_n dX8_fits_64 rfl 3 rfl ?_
      refine J_iload dX8_fits_65 4 rfl ?_
      refine J_iload_n dX8_fits_67 rfl 1 rfl ?_
      obtain ⟨r12, h11, h⟩ := br_b h
      refine J_callV (mj := mi_X8_fitsFrom) (as := [.int (x3), .int (x4), .int (x1)]) (rest := [.int (x2)]) (ct_X8_fitsFrom (C := C)  h11) ⟨rfl, rfl⟩ rfl rfl (by decide) rfl cg_X8_181 hd_X8_fitsFrom rfl ⟨Nat.le_of_ble_eq_true rfl, Nat.le_of_ble_eq_true rfl⟩ (Nat.le_of_ble_eq_true rfl) ⟨Nat.zero_le _, Nat.zero_le _⟩ dX8_fits_68 ?_
      refine J_if_eq 80 dX8_fits_71 (by decide) (fun c13 => ?_) (fun c13 => ?_)
      · have h := br_p c13 h
        refine J_iconst 0 dX8_fits_80 rfl ?_
        refine J_ior dX8_fits_81 ?_
        refine J_istore_n (L' := [(2, .int ((x2 ||| (0 : Int32)))), (0, .ref (94)), (1, .int (x1)), (3, .int (x3)), (4, .int (x4))]) dX8_fits_82 rfl (by decide) rfl ?_
        refine J_iinc (j := 4) (v := (x4 + (1 : Int32))) (L' := [(4, .int ((x4 + (1 : Int32)))), (2, .int ((x2 ||| (0 : Int32)))), (0, .ref (94)), (1, .int (x1)), (3, .int (x3))]) dX8_fits_83 rfl rfl (by decide) rfl ?_
        refine J_goto 47 dX8_fits_86 (by decide) ?_
        have h := Option.some.inj h
        subst h
        refine J_sub [2, 3, 1, 4, 0] rfl ?_
        exact ih _ _ h2 Kx
      · have h := br_n c13 h
        refine J_iconst 1 dX8_fits_74 rfl ?_
        refine J_iload_n dX8_fits_75 rfl 3 rfl ?_
        refine J_ishl dX8_fits_76 ?_
        refine J_goto 81 dX8_fits_77 (by decide) ?_
        refine J_ior dX8_fits_81 ?_
        refine J_istore_n (L' := [(2, .int ((x2 ||| ((1 : Int32) <<< (x3 &&& 31))))), (0, .ref (94)), (1, .int (x1)), (3, .int (x3)), (4, .int (x4))]) dX8_fits_82 rfl (by decide) rfl ?_
        refine J_iinc (j := 4) (v := (x4 + (1 : Int32))) (L' := [(4, .int ((x4 + (1 : Int32)))), (2, .int ((x2 ||| ((1 : Int32) <<< (x3 &&& 31))))), (0, .ref (94)), (1, .int (x1)), (3, .int (x3))]) dX8_fits_83 rfl rfl (by decide) rfl ?_
        refine J_goto 47 dX8_fits_86 (by decide) ?_
        have h := Option.some.inj h
        subst h
        refine J_sub [2, 3, 1, 4, 0] rfl ?_
        exact ih _ _ h2 Kx
def b_X8_fits_34 (x1 : Int32) (x2 : Int32) (x3 : Int32) (M : aMm) : Option ((Int32 × Int32) ⊕ (Int32)) :=
  (m_ld M 1 (0 : Int32)).bind fun u5 => if (u5 : Int32) ≤ x3 then some (.inr x2) else (lpf (fun a : Int32 × Int32 => b_X8_fits_47 (x1) (x3) a.1 a.2 M) FU (x2, (0 : Int32))).bind fun z15 => some (.inl (z15, (x3 + (1 : Int32))))
set_option maxRecDepth 100000 in
set_option maxHeartbeats 4000000 in
theorem jl_X8_fits_34 {x1 : Int32} {M : aMm} {C : aSc}  {res : aRes} {r : Int32} : ∀ (n : Nat) (x2 : Int32) (x3 : Int32), lpf (fun a : Int32 × Int32 => b_X8_fits_34 (x1) a.1 a.2 M) n (x2, x3) = some r → (∀ (z2 : Int32), r = z2 → J mi_X8_fits res 0 0 95 [(2, .int (z2))] [] (C, M)) → J mi_X8_fits res 0 0 34 [(0, .ref (94)), (1, .int (x1)), (2, .int (x2)), (3, .int (x3))] [] (C, M) := by
  intro n
  induction n with
  | zero =>
    intro x2 x3 h
    cases h
  | succ n ih =>
    intro x2 x3 h Kx
    obtain ⟨r0, h, h2⟩ := br_b h
    have h : b_X8_fits_34 x1 x2 x3 M = some r0 := h
    rw [b_X8_fits_34] at h
    refine J_iload_n dX8_fits_34 rfl 3 rfl ?_
    refine J_aload_n dX8_fits_35 rfl 0 rfl ?_
    refine J_getr (j := 0) (t := 103) (r := 95) rfl (by decide) (by decide) rfl (by decide) rfl rfl kf_X8_9 dX8_fits_36 ?_
    refine J_iconst 0 dX8_fits_39 rfl ?_
    obtain ⟨u5, h6, h⟩ := br_b h
    refine J_ialdM (m0 := 1) rfl rfl h6 dX8_fits_40 ?_
    refine J_icmp_ge 95 dX8_fits_41 (by decide) (fun c18 => ?_) (fun c18 => ?_)
    · have h := br_p c18 h
      have h := Option.some.inj h
      subst h
      have h2 := Option.some.inj h2
      subst h2
      refine J_sub [2] rfl ?_
      exact Kx _ rfl
    · have h := br_n c18 h
      refine J_iconst 0 dX8_fits_44 rfl ?_
      refine J_istore (L' := [(4, .int ((0 : Int32))), (0, .ref (94)), (1, .int (x1)), (2, .int (x2)), (3, .int (x3))]) dX8_fits_45 (by decide) rfl ?_
      refine J_sub [1, 2, 3, 4, 0] rfl ?_
      obtain ⟨z15, h16, h⟩ := br_b h
      refine jl_X8_fits_47  FU _ _ h16 ?_
      intro zz e
      subst e
      refine J_iinc (j := 3) (v := (x3 + (1 : Int32))) (L' := [(3, .int ((x3 + (1 : Int32)))), (0, .ref (94)), (1, .int (x1)), (2, .int (z15))]) dX8_fits_89 rfl rfl (by decide) rfl ?_
      refine J_goto 34 dX8_fits_92 (by decide) ?_
      have h := Option.some.inj h
      subst h
      refine J_sub [1, 2, 3, 0] rfl ?_
      exact ih _ _ h2 Kx
def f_X8_fits (x1 : Int32) (M : aMm) : Option (Int32 × aMm) :=
  (f_X8_isSheet x1 M).bind fun r2 => if (r2 : Int32) = 0 then bd2 (f_X8_finding (-100001 : Int32) M) fun r27 M28 => some (r27, M28) else (m_ld M 4 x1).bind fun u3 => if (u3 : Int32) = 0 then bd2 (f_X8_finding (-100002 : Int32) M) fun r23 M24 => some (r23, M24) else (lpf (fun a : Int32 × Int32 => b_X8_fits_34 (x1) a.1 a.2 M) FU ((0 : Int32), (0 : Int32))).bind fun z19 => some (z19, M)
set_option maxRecDepth 100000 in
set_option maxHeartbeats 4000000 in
theorem jm_X8_fits {x1 : Int32} {C : aSc} {M : aMm}  {res : aRes} {r : Int32 × aMm} (h : f_X8_fits x1 M = some r) (Kr : ∀ (v : Int32) (S' : aMm), r = (v, S') → res = (some (.int v), (C, S'))) : J mi_X8_fits res 0 0 0 [(0, .ref (94)), (1, .int (x1))] [] (C, M) := by
  rw [f_X8_fits] at h
  refine J_iload_n dX8_fits_0 rfl 1 rfl ?_
  obtain ⟨r2, h1, h⟩ := br_b h
  refine J_callS (mj := mi_X8_isSheet) (as := [.int (x1)]) (rest := []) (ct_X8_isSheet (C := C)  h1) ⟨rfl, rfl⟩ rfl cg_X8_177 hd_X8_isSheet rfl ⟨Nat.le_of_ble_eq_true rfl, Nat.le_of_ble_eq_true rfl⟩ (Nat.le_of_ble_eq_true rfl) ⟨Nat.zero_le _, Nat.zero_le _⟩ dX8_fits_1 ?_
  refine J_if_ne 14 dX8_fits_4 (by decide) (fun c29 => ?_) (fun c29 => ?_)
  · have h := br_n c29 h
    refine J_aload_n dX8_fits_14 rfl 0 rfl ?_
    refine J_getr (j := 6) (t := 106) (r := 98) rfl (by decide) (by decide) rfl (by decide) rfl rfl kf_X8_19 dX8_fits_15 ?_
    refine J_iload_n dX8_fits_18 rfl 1 rfl ?_
    obtain ⟨u3, h4, h⟩ := br_b h
    refine J_ialdM (m0 := 4) rfl rfl h4 dX8_fits_19 ?_
    refine J_if_ne 30 dX8_fits_20 (by decide) (fun c25 => ?_) (fun c25 => ?_)
    · have h := br_n c25 h
      refine J_iconst 0 dX8_fits_30 rfl ?_
      refine J_istore_n (L' := [(2, .int ((0 : Int32))), (0, .ref (94)), (1, .int (x1))]) dX8_fits_31 rfl (by decide) rfl ?_
      refine J_iconst 0 dX8_fits_32 rfl ?_
      refine J_istore_n (L' := [(3, .int ((0 : Int32))), (2, .int ((0 : Int32))), (0, .ref (94)), (1, .int (x1))]) dX8_fits_33 rfl (by decide) rfl ?_
      refine J_sub [2, 3, 1, 0] rfl ?_
      obtain ⟨z19, h20, h⟩ := br_b h
      refine jl_X8_fits_34  FU _ _ h20 ?_
      intro zz e
      subst e
      refine J_iload_n dX8_fits_95 rfl 0 rfl ?_
      have h := Option.some.inj h
      subst h
      exact J_iret rfl rfl rfl (Kr _ _ rfl) dX8_fits_96
    · have h := br_p c25 h
      refine J_aload_n dX8_fits_23 rfl 0 rfl ?_
      refine J_ldc (-100002) dX8_fits_24 kc_X8_180 ?_
      obtain ⟨r23, M24, h22, h⟩ := br_b2 h
      refine J_callV (mj := mi_X8_finding) (as := [.int ((-100002 : Int32))]) (rest := []) (ct_X8_finding (C := C)  h22) ⟨rfl, rfl⟩ rfl rfl (by decide) rfl cg_X8_53 hd_X8_finding rfl ⟨Nat.le_of_ble_eq_true rfl, Nat.le_of_ble_eq_true rfl⟩ (Nat.le_of_ble_eq_true rfl) ⟨Nat.zero_le _, Nat.zero_le _⟩ dX8_fits_26 ?_
      have h := Option.some.inj h
      subst h
      exact J_iret rfl rfl rfl (Kr _ _ rfl) dX8_fits_29
  · have h := br_p c29 h
    refine J_aload_n dX8_fits_7 rfl 0 rfl ?_
    refine J_ldc (-100001) dX8_fits_8 kc_X8_57 ?_
    obtain ⟨r27, M28, h26, h⟩ := br_b2 h
    refine J_callV (mj := mi_X8_finding) (as := [.int ((-100001 : Int32))]) (rest := []) (ct_X8_finding (C := C)  h26) ⟨rfl, rfl⟩ rfl rfl (by decide) rfl cg_X8_53 hd_X8_finding rfl ⟨Nat.le_of_ble_eq_true rfl, Nat.le_of_ble_eq_true rfl⟩ (Nat.le_of_ble_eq_true rfl) ⟨Nat.zero_le _, Nat.zero_le _⟩ dX8_fits_10 ?_
    have h := Option.some.inj h
    subst h
    exact J_iret rfl rfl rfl (Kr _ _ rfl) dX8_fits_13
theorem ct_X8_fits {x1 : Int32} {C : aSc} {M : aMm} {v : Int32} {S' : aMm}  (h : f_X8_fits x1 M = some (v, S')) : Ct mi_X8_fits yX8_fits [.ref (94), .int (x1)] (C, M) (some (.int v), (C, S')) := Ct_of_J (by decide +kernel) rfl (Nat.le_of_ble_eq_true rfl) (jm_X8_fits  h (fun _ _ e => by cases e; rfl))
def mi_X8_bearing : aMi := (cX8_bearing, 5, RX8, (some .int), { frames := 2, cells := 0, slots := 0, locals := 43 })
def f_X8_bearing (x1 : Int32) (x2 : Int32) (x3 : Int32) (M : aMm) : Option (Int32 × aMm) :=
  (f_X8_isLight x1 M).bind fun r2 => if (r2 : Int32) = 0 then bd2 (f_X8_finding (-100001 : Int32) M) fun r4 M5 => some (r4, M5) else (f_X8_isWay x2 M).bind fun r7 => if (r7 : Int32) = 0 then bd2 (f_X8_finding (-100001 : Int32) M) fun r9 M10 => some (r9, M10) else (f_X8_isWay x3 M).bind fun r12 => if (r12 : Int32) = 0 then bd2 (f_X8_finding (-100001 : Int32) M) fun r32 M33 => some (r32, M33) else (m_ld M 1 (1 : Int32)).bind fun u13 => if (u13 : Int32) = (8 : Int32) then bd2 (f_X8_finding (-100005 : Int32) M) fun r28 M29 => some (r28, M29) else (f_X8_keep  M).bind fun M16 => (m_st M16 1 ((230 : Int32) + ((3 : Int32) * u13)) x1).bind fun M17 => (m_st M17 1 (((230 : Int32) + ((3 : Int32) * u13)) + (1 : Int32)) x2).bind fun M19 => (m_st M19 1 (((230 : Int32) + ((3 : Int32) * u13)) + (2 : Int32)) x3).bind fun M21 => (m_ld M21 1 (1 : Int32)).bind fun u23 => (m_st M21 1 (1 : Int32) (u23 + (1 : Int32))).bind fun M25 => some ((u13 + (1 : Int32)), M25)
set_option maxRecDepth 100000 in
set_option maxHeartbeats 4000000 in
theorem jm_X8_bearing {x1 : Int32} {x2 : Int32} {x3 : Int32} {C : aSc} {M : aMm}  {res : aRes} {r : Int32 × aMm} (h : f_X8_bearing x1 x2 x3 M = some r) (Kr : ∀ (v : Int32) (S' : aMm), r = (v, S') → res = (some (.int v), (C, S'))) : J mi_X8_bearing res 0 0 0 [(0, .ref (94)), (1, .int (x1)), (2, .int (x2)), (3, .int (x3))] [] (C, M) := by
  rw [f_X8_bearing] at h
  refine J_aload_n dX8_bearing_0 rfl 0 rfl ?_
  refine J_iload_n dX8_bearing_1 rfl 1 rfl ?_
  obtain ⟨r2, h1, h⟩ := br_b h
  refine J_callV (mj := mi_X8_isLight) (as := [.int (x1)]) (rest := []) (ct_X8_isLight (C := C)  h1) ⟨rfl, rfl⟩ rfl rfl (by decide) rfl cg_X8_120 hd_X8_isLight rfl ⟨Nat.le_of_ble_eq_true rfl, Nat.le_of_ble_eq_true rfl⟩ (Nat.le_of_ble_eq_true rfl) ⟨Nat.zero_le _, Nat.zero_le _⟩ dX8_bearing_2 ?_
  refine J_if_eq 22 dX8_bearing_5 (by decide) (fun c36 => ?_) (fun c36 => ?_)
  · have h := br_p c36 h
    refine J_aload_n dX8_bearing_22 rfl 0 rfl ?_
    refine J_ldc (-100001) dX8_bearing_23 kc_X8_57 ?_
    obtain ⟨r4, M5, h3, h⟩ := br_b2 h
    refine J_callV (mj := mi_X8_finding) (as := [.int ((-100001 : Int32))]) (rest := []) (ct_X8_finding (C := C)  h3) ⟨rfl, rfl⟩ rfl rfl (by decide) rfl cg_X8_53 hd_X8_finding rfl ⟨Nat.le_of_ble_eq_true rfl, Nat.le_of_ble_eq_true rfl⟩ (Nat.le_of_ble_eq_true rfl) ⟨Nat.zero_le _, Nat.zero_le _⟩ dX8_bearing_25 ?_
    have h := Option.some.inj h
    subst h
    exact J_iret rfl rfl rfl (Kr _ _ rfl) dX8_bearing_28
  · have h := br_n c36 h
    refine J_iload_n dX8_bearing_8 rfl 2 rfl ?_
    obtain ⟨r7, h6, h⟩ := br_b h
    refine J_callS (mj := mi_X8_isWay) (as := [.int (x2)]) (rest := []) (ct_X8_isWay (C := C)  h6) ⟨rfl, rfl⟩ rfl cg_X8_131 hd_X8_isWay rfl ⟨Nat.le_of_ble_eq_true rfl, Nat.le_of_ble_eq_true rfl⟩ (Nat.le_of_ble_eq_true rfl) ⟨Nat.zero_le _, Nat.zero_le _⟩ dX8_bearing_9 ?_
    refine J_if_eq 22 dX8_bearing_12 (by decide) (fun c35 => ?_) (fun c35 => ?_)
    · have h := br_p c35 h
      refine J_aload_n dX8_bearing_22 rfl 0 rfl ?_
      refine J_ldc (-100001) dX8_bearing_23 kc_X8_57 ?_
      obtain ⟨r9, M10, h8, h⟩ := br_b2 h
      refine J_callV (mj := mi_X8_finding) (as := [.int ((-100001 : Int32))]) (rest := []) (ct_X8_finding (C := C)  h8) ⟨rfl, rfl⟩ rfl rfl (by decide) rfl cg_X8_53 hd_X8_finding rfl ⟨Nat.le_of_ble_eq_true rfl, Nat.le_of_ble_eq_true rfl⟩ (Nat.le_of_ble_eq_true rfl) ⟨Nat.zero_le _, Nat.zero_le _⟩ dX8_bearing_25 ?_
      have h := Option.some.inj h
      subst h
      exact J_iret rfl rfl rfl (Kr _ _ rfl) dX8_bearing_28
    · have h := br_n c35 h
      refine J_iload_n dX8_bearing_15 rfl 3 rfl ?_
      obtain ⟨r12, h11, h⟩ := br_b h
      refine J_callS (mj := mi_X8_isWay) (as := [.int (x3)]) (rest := []) (ct_X8_isWay (C := C)  h11) ⟨rfl, rfl⟩ rfl cg_X8_131 hd_X8_isWay rfl ⟨Nat.le_of_ble_eq_true rfl, Nat.le_of_ble_eq_true rfl⟩ (Nat.le_of_ble_eq_true rfl) ⟨Nat.zero_le _, Nat.zero_le _⟩ dX8_bearing_16 ?_
      refine J_if_ne 29 dX8_bearing_19 (by decide) (fun c34 => ?_) (fun c34 => ?_)
      · have h := br_n c34 h
        refine J_aload_n dX8_bearing_29 rfl 0 rfl ?_
        refine J_getr (j := 0) (t := 103) (r := 95) rfl (by decide) (by decide) rfl (by decide) rfl rfl kf_X8_9 dX8_bearing_30 ?_
        refine J_iconst 1 dX8_bearing_33 rfl ?_
        obtain ⟨u13, h14, h⟩ := br_b h
        refine J_ialdM (m0 := 1) rfl rfl h14 dX8_bearing_34 ?_
        refine J_istore (L' := [(4, .int (u13)), (0, .ref (94)), (1, .int (x1)), (2, .int (x2)), (3, .int (x3))]) dX8_bearing_35 (by decide) rfl ?_
        refine J_iload dX8_bearing_37 0 rfl ?_
        refine J_bipush 8 dX8_bearing_39 rfl ?_
        refine J_icmp_ne 51 dX8_bearing_41 (by decide) (fun c30 => ?_) (fun c30 => ?_)
        · have h := br_n c30 h
          refine J_aload_n dX8_bearing_51 rfl 1 rfl ?_
          obtain ⟨M16, h15, h⟩ := br_b h
          refine J_callV (mj := mi_X8_keep) (as := []) (rest := []) (ct_X8_keep (C := C)  h15) ⟨rfl, rfl⟩ rfl rfl (by decide) rfl cg_X8_114 hd_X8_keep rfl ⟨Nat.le_of_ble_eq_true rfl, Nat.le_of_ble_eq_true rfl⟩ (Nat.le_of_ble_eq_true rfl) ⟨Nat.zero_le _, Nat.zero_le _⟩ dX8_bearing_52 ?_
          refine J_aload_n dX8_bearing_55 rfl 1 rfl ?_
          refine J_getr (j := 0) (t := 103) (r := 95) rfl (by decide) (by decide) rfl (by decide) rfl rfl kf_X8_9 dX8_bearing_56 ?_
          refine J_sipush 230 dX8_bearing_59 rfl ?_
          refine J_iconst 3 dX8_bearing_62 rfl ?_
          refine J_iload dX8_bearing_63 0 rfl ?_
          refine J_imul dX8_bearing_65 ?_
          refine J_iadd dX8_bearing_66 ?_
          refine J_iload_n dX8_bearing_67 rfl 2 rfl ?_
          obtain ⟨M17, h18, h⟩ := br_b h
          refine J_iastM (m0 := 1) rfl rfl h18 dX8_bearing_68 ?_
          refine J_aload_n dX8_bearing_69 rfl 1 rfl ?_
          refine J_getr (j := 0) (t := 103) (r := 95) rfl (by decide) (by decide) rfl (by decide) rfl rfl kf_X8_9 dX8_bearing_70 ?_
          refine J_sipush 230 dX8_bearing_73 rfl ?_
          refine J_iconst 3 dX8_bearing_76 rfl ?_
          refine J_iload dX8_bearing_77 0 rfl ?_
          refine J_imul dX8_bearing_79 ?_
          refine J_iadd dX8_bearing_80 ?_
          refine J_iconst 1 dX8_bearing_81 rfl ?_
          refine J_iadd dX8_bearing_82 ?_
          refine J_iload_n dX8_bearing_83 rfl 3 rfl ?_
          obtain ⟨M19, h20, h⟩ := br_b h
          refine J_iastM (m0 := 1) rfl rfl h20 dX8_bearing_84 ?_
          refine J_aload_n dX8_bearing_85 rfl 1 rfl ?_
          refine J_getr (j := 0) (t := 103) (r := 95) rfl (by decide) (by decide) rfl (by decide) rfl rfl kf_X8_9 dX8_bearing_86 ?_
          refine J_sipush 230 dX8_bearing_89 rfl ?_
          refine J_iconst 3 dX8_bearing_92 rfl ?_
          refine J_iload dX8_bearing_93 0 rfl ?_
          refine J_imul dX8_bearing_95 ?_
          refine J_iadd dX8_bearing_96 ?_
          refine J_iconst 2 dX8_bearing_97 rfl ?_
          refine J_iadd dX8_bearing_98 ?_
          refine J_iload_n dX8_bearing_99 rfl 4 rfl ?_
          obtain ⟨M21, h22, h⟩ := br_b h
          refine J_iastM (m0 := 1) rfl rfl h22 dX8_bearing_100 ?_
          refine J_aload_n dX8_bearing_101 rfl 1 rfl ?_
          refine J_getr (j := 0) (t := 103) (r := 95) rfl (by decide) (by decide) rfl (by decide) rfl rfl kf_X8_9 dX8_bearing_102 ?_
          refine J_iconst 1 dX8_bearing_105 rfl ?_
          refine J_dup2 dX8_bearing_106 rfl rfl ?_
          obtain ⟨u23, h24, h⟩ := br_b h
          refine J_ialdM (m0 := 1) rfl rfl h24 dX8_bearing_107 ?_
          refine J_iconst 1 dX8_bearing_108 rfl ?_
          refine J_iadd dX8_bearing_109 ?_
          obtain ⟨M25, h26, h⟩ := br_b h
          refine J_iastM (m0 := 1) rfl rfl h26 dX8_bearing_110 ?_
          refine J_iload dX8_bearing_111 0 rfl ?_
          refine J_iconst 1 dX8_bearing_113 rfl ?_
          refine J_iadd dX8_bearing_114 ?_
          have h := Option.some.inj h
          subst h
          exact J_iret rfl rfl rfl (Kr _ _ rfl) dX8_bearing_115
        · have h := br_p c30 h
          refine J_aload_n dX8_bearing_44 rfl 1 rfl ?_
          refine J_ldc (-100005) dX8_bearing_45 kc_X8_61 ?_
          obtain ⟨r28, M29, h27, h⟩ := br_b2 h
          refine J_callV (mj := mi_X8_finding) (as := [.int ((-100005 : Int32))]) (rest := []) (ct_X8_finding (C := C)  h27) ⟨rfl, rfl⟩ rfl rfl (by decide) rfl cg_X8_53 hd_X8_finding rfl ⟨Nat.le_of_ble_eq_true rfl, Nat.le_of_ble_eq_true rfl⟩ (Nat.le_of_ble_eq_true rfl) ⟨Nat.zero_le _, Nat.zero_le _⟩ dX8_bearing_47 ?_
          have h := Option.some.inj h
          subst h
          exact J_iret rfl rfl rfl (Kr _ _ rfl) dX8_bearing_50
      · have h := br_p c34 h
        refine J_aload_n dX8_bearing_22 rfl 0 rfl ?_
        refine J_ldc (-100001) dX8_bearing_23 kc_X8_57 ?_
        obtain ⟨r32, M33, h31, h⟩ := br_b2 h
        refine J_callV (mj := mi_X8_finding) (as := [.int ((-100001 : Int32))]) (rest := []) (ct_X8_finding (C := C)  h31) ⟨rfl, rfl⟩ rfl rfl (by decide) rfl cg_X8_53 hd_X8_finding rfl ⟨Nat.le_of_ble_eq_true rfl, Nat.le_of_ble_eq_true rfl⟩ (Nat.le_of_ble_eq_true rfl) ⟨Nat.zero_le _, Nat.zero_le _⟩ dX8_bearing_25 ?_
        have h := Option.some.inj h
        subst h
        exact J_iret rfl rfl rfl (Kr _ _ rfl) dX8_bearing_28
theorem ct_X8_bearing {x1 : Int32} {x2 : Int32} {x3 : Int32} {C : aSc} {M : aMm} {v : Int32} {S' : aMm}  (h : f_X8_bearing x1 x2 x3 M = some (v, S')) : Ct mi_X8_bearing yX8_bearing [.ref (94), .int (x1), .int (x2), .int (x3)] (C, M) (some (.int v), (C, S')) := Ct_of_J (by decide +kernel) rfl (Nat.le_of_ble_eq_true rfl) (jm_X8_bearing  h (fun _ _ e => by cases e; rfl))

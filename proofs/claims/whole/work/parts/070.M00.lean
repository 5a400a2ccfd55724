def mi_X8_finding : aMi := (cX8_finding, 2, RX8, (some .int), { frames := 0, cells := 0, slots := 0, locals := 0 })
def f_X8_finding (x1 : Int32) (M : aMm) : Option (Int32 × aMm) :=
  (some (m_pi M 0 3 ((m_gi M 0 3) + (1 : Int32)))).bind fun M1 => some (x1, M1)
set_option maxRecDepth 100000 in
set_option maxHeartbeats 4000000 in
theorem jm_X8_finding {x1 : Int32} {C : aSc} {M : aMm}  {res : aRes} {r : Int32 × aMm} (h : f_X8_finding x1 M = some r) (Kr : ∀ (v : Int32) (S' : aMm), r = (v, S') → res = (some (.int v), (C, S'))) : J mi_X8_finding res 0 0 0 [(0, .ref (94)), (1, .int (x1))] [] (C, M) := by
  rw [f_X8_finding] at h
  refine J_aload_n dX8_finding_0 rfl 0 rfl ?_
  refine J_dup dX8_finding_1 rfl ?_
  refine J_getiM (m0 := 0) (j := 3) rfl rfl (by decide) rfl (by decide) rfl kf_X8_37 dX8_finding_2 ?_
  refine J_iconst 1 dX8_finding_5 rfl ?_
  refine J_iadd dX8_finding_6 ?_
  obtain ⟨M1, e2, h⟩ := br_s h
  refine J_putiM (m0 := 0) (j := 3) rfl rfl (by decide) rfl (by decide) rfl rfl rfl kf_X8_37 e2 dX8_finding_7 ?_
  refine J_iload_n dX8_finding_10 rfl 1 rfl ?_
  have h := Option.some.inj h
  subst h
  exact J_iret rfl rfl rfl (Kr _ _ rfl) dX8_finding_11
theorem ct_X8_finding {x1 : Int32} {C : aSc} {M : aMm} {v : Int32} {S' : aMm}  (h : f_X8_finding x1 M = some (v, S')) : Ct mi_X8_finding yX8_finding [.ref (94), .int (x1)] (C, M) (some (.int v), (C, S')) := Ct_of_J (by decide +kernel) rfl (Nat.le_of_ble_eq_true rfl) (jm_X8_finding  h (fun _ _ e => by cases e; rfl))
def mi_X8_within : aMi := (cX8_within, 3, RX8, (some .boolean), { frames := 0, cells := 0, slots := 0, locals := 0 })
def f_X8_within (x0 : Int32) (x1 : Int32) (x2 : Int32) (M : aMm) : Option (Int32) :=
  if (x0 : Int32) < x1 then some (0 : Int32) else if (x2 : Int32) < x0 then some (0 : Int32) else some (1 : Int32)
set_option maxRecDepth 100000 in
set_option maxHeartbeats 4000000 in
theorem jm_X8_within {x0 : Int32} {x1 : Int32} {x2 : Int32} {C : aSc} {M : aMm}  {res : aRes} {r : Int32} (h : f_X8_within x0 x1 x2 M = some r) (Kr : ∀ (v : Int32), r = v → res = (some (.int v), (C, M))) : J mi_X8_within res 0 0 0 [(0, .int (x0)), (1, .int (x1)), (2, .int (x2))] [] (C, M) := by
  rw [f_X8_within] at h
  refine J_iload_n dX8_within_0 rfl 0 rfl ?_
  refine J_iload_n dX8_within_1 rfl 1 rfl ?_
  refine J_icmp_lt 14 dX8_within_2 (by decide) (fun c2 => ?_) (fun c2 => ?_)
  · have h := br_p c2 h
    refine J_iconst 0 dX8_within_14 rfl ?_
    have h := Option.some.inj h
    subst h
    exact J_zret (Or.inl rfl) rfl rfl rfl (Kr _ rfl) dX8_within_15
  · have h := br_n c2 h
    refine J_iload_n dX8_within_5 rfl 0 rfl ?_
    refine J_iload_n dX8_within_6 rfl 2 rfl ?_
    refine J_icmp_gt 14 dX8_within_7 (by decide) (fun c1 => ?_) (fun c1 => ?_)
    · have h := br_p c1 h
      refine J_iconst 0 dX8_within_14 rfl ?_
      have h := Option.some.inj h
      subst h
      exact J_zret (Or.inl rfl) rfl rfl rfl (Kr _ rfl) dX8_within_15
    · have h := br_n c1 h
      refine J_iconst 1 dX8_within_10 rfl ?_
      refine J_goto 15 dX8_within_11 (by decide) ?_
      have h := Option.some.inj h
      subst h
      exact J_zret (Or.inr rfl) rfl rfl rfl (Kr _ rfl) dX8_within_15
theorem ct_X8_within {x0 : Int32} {x1 : Int32} {x2 : Int32} {C : aSc} {M : aMm} {v : Int32}  (h : f_X8_within x0 x1 x2 M = some v) : Ct mi_X8_within yX8_within [.int (x0), .int (x1), .int (x2)] (C, M) (some (.int v), (C, M)) := Ct_of_J (by decide +kernel) rfl (Nat.le_of_ble_eq_true rfl) (jm_X8_within  h (fun _ e => by cases e; rfl))
def mi_X8_isLight : aMi := (cX8_isLight, 2, RX8, (some .boolean), { frames := 1, cells := 0, slots := 0, locals := 22 })
def f_X8_isLight (x1 : Int32) (M : aMm) : Option (Int32) :=
  (m_ld M 1 (0 : Int32)).bind fun u1 => (f_X8_within x1 (0 : Int32) (u1 - (1 : Int32)) M).bind fun r4 => if r4 = 0 ∨ r4 = 1 then some r4 else none
set_option maxRecDepth 100000 in
set_option maxHeartbeats 4000000 in
theorem jm_X8_isLight {x1 : Int32} {C : aSc} {M : aMm}  {res : aRes} {r : Int32} (h : f_X8_isLight x1 M = some r) (Kr : ∀ (v : Int32), r = v → res = (some (.int v), (C, M))) : J mi_X8_isLight res 0 0 0 [(0, .ref (94)), (1, .int (x1))] [] (C, M) := by
  rw [f_X8_isLight] at h
  refine J_iload_n dX8_isLight_0 rfl 1 rfl ?_
  refine J_iconst 0 dX8_isLight_1 rfl ?_
  refine J_aload_n dX8_isLight_2 rfl 0 rfl ?_
  refine J_getr (j := 0) (t := 103) (r := 95) rfl (by decide) (by decide) rfl (by decide) rfl rfl kf_X8_9 dX8_isLight_3 ?_
  refine J_iconst 0 dX8_isLight_6 rfl ?_
  obtain ⟨u1, h2, h⟩ := br_b h
  refine J_ialdM (m0 := 1) rfl rfl h2 dX8_isLight_7 ?_
  refine J_iconst 1 dX8_isLight_8 rfl ?_
  refine J_isub dX8_isLight_9 ?_
  obtain ⟨r4, h3, h⟩ := br_b h
  refine J_callS (mj := mi_X8_within) (as := [.int (x1), .int ((0 : Int32)), .int ((u1 - (1 : Int32)))]) (rest := []) (ct_X8_within (C := C)  h3) ⟨rfl, rfl⟩ rfl cg_X8_41 hd_X8_within rfl ⟨Nat.le_of_ble_eq_true rfl, Nat.le_of_ble_eq_true rfl⟩ (Nat.le_of_ble_eq_true rfl) ⟨Nat.zero_le _, Nat.zero_le _⟩ dX8_isLight_10 ?_
  obtain ⟨n5, h⟩ := br_g h
  have h := Option.some.inj h
  subst h
  exact J_zret n5 rfl rfl rfl (Kr _ rfl) dX8_isLight_13
theorem ct_X8_isLight {x1 : Int32} {C : aSc} {M : aMm} {v : Int32}  (h : f_X8_isLight x1 M = some v) : Ct mi_X8_isLight yX8_isLight [.ref (94), .int (x1)] (C, M) (some (.int v), (C, M)) := Ct_of_J (by decide +kernel) rfl (Nat.le_of_ble_eq_true rfl) (jm_X8_isLight  h (fun _ e => by cases e; rfl))
def mi_X8_isCell : aMi := (cX8_isCell, 1, RX8, (some .boolean), { frames := 1, cells := 0, slots := 0, locals := 22 })
def f_X8_isCell (x0 : Int32) (M : aMm) : Option (Int32) :=
  (f_X8_within x0 (0 : Int32) (255 : Int32) M).bind fun r2 => if r2 = 0 ∨ r2 = 1 then some r2 else none
set_option maxRecDepth 100000 in
set_option maxHeartbeats 4000000 in
theorem jm_X8_isCell {x0 : Int32} {C : aSc} {M : aMm}  {res : aRes} {r : Int32} (h : f_X8_isCell x0 M = some r) (Kr : ∀ (v : Int32), r = v → res = (some (.int v), (C, M))) : J mi_X8_isCell res 0 0 0 [(0, .int (x0))] [] (C, M) := by
  rw [f_X8_isCell] at h
  refine J_iload_n dX8_isCell_0 rfl 0 rfl ?_
  refine J_iconst 0 dX8_isCell_1 rfl ?_
  refine J_sipush 255 dX8_isCell_2 rfl ?_
  obtain ⟨r2, h1, h⟩ := br_b h
  refine J_callS (mj := mi_X8_within) (as := [.int (x0), .int ((0 : Int32)), .int ((255 : Int32))]) (rest := []) (ct_X8_within (C := C)  h1) ⟨rfl, rfl⟩ rfl cg_X8_41 hd_X8_within rfl ⟨Nat.le_of_ble_eq_true rfl, Nat.le_of_ble_eq_true rfl⟩ (Nat.le_of_ble_eq_true rfl) ⟨Nat.zero_le _, Nat.zero_le _⟩ dX8_isCell_5 ?_
  obtain ⟨n3, h⟩ := br_g h
  have h := Option.some.inj h
  subst h
  exact J_zret n3 rfl rfl rfl (Kr _ rfl) dX8_isCell_8
theorem ct_X8_isCell {x0 : Int32} {C : aSc} {M : aMm} {v : Int32}  (h : f_X8_isCell x0 M = some v) : Ct mi_X8_isCell yX8_isCell [.int (x0)] (C, M) (some (.int v), (C, M)) := Ct_of_J (by decide +kernel) rfl (Nat.le_of_ble_eq_true rfl) (jm_X8_isCell  h (fun _ e => by cases e; rfl))
def mi_X8_isWay : aMi := (cX8_isWay, 1, RX8, (some .boolean), { frames := 1, cells := 0, slots := 0, locals := 22 })
def f_X8_isWay (x0 : Int32) (M : aMm) : Option (Int32) :=
  (f_X8_within x0 (0 : Int32) (15 : Int32) M).bind fun r2 => if r2 = 0 ∨ r2 = 1 then some r2 else none
set_option maxRecDepth 100000 in
set_option maxHeartbeats 4000000 in
theorem jm_X8_isWay {x0 : Int32} {C : aSc} {M : aMm}  {res : aRes} {r : Int32} (h : f_X8_isWay x0 M = some r) (Kr : ∀ (v : Int32), r = v → res = (some (.int v), (C, M))) : J mi_X8_isWay res 0 0 0 [(0, .int (x0))] [] (C, M) := by
  rw [f_X8_isWay] at h
  refine J_iload_n dX8_isWay_0 rfl 0 rfl ?_
  refine J_iconst 0 dX8_isWay_1 rfl ?_
  refine J_bipush 15 dX8_isWay_2 rfl ?_
  obtain ⟨r2, h1, h⟩ := br_b h
  refine J_callS (mj := mi_X8_within) (as := [.int (x0), .int ((0 : Int32)), .int ((15 : Int32))]) (rest := []) (ct_X8_within (C := C)  h1) ⟨rfl, rfl⟩ rfl cg_X8_41 hd_X8_within rfl ⟨Nat.le_of_ble_eq_true rfl, Nat.le_of_ble_eq_true rfl⟩ (Nat.le_of_ble_eq_true rfl) ⟨Nat.zero_le _, Nat.zero_le _⟩ dX8_isWay_4 ?_
  obtain ⟨n3, h⟩ := br_g h
  have h := Option.some.inj h
  subst h
  exact J_zret n3 rfl rfl rfl (Kr _ rfl) dX8_isWay_7
theorem ct_X8_isWay {x0 : Int32} {C : aSc} {M : aMm} {v : Int32}  (h : f_X8_isWay x0 M = some v) : Ct mi_X8_isWay yX8_isWay [.int (x0)] (C, M) (some (.int v), (C, M)) := Ct_of_J (by decide +kernel) rfl (Nat.le_of_ble_eq_true rfl) (jm_X8_isWay  h (fun _ e => by cases e; rfl))
def mi_X8_of : aMi := (cX8_of, 2, RX8, (some .int), { frames := 0, cells := 0, slots := 0, locals := 0 })
def f_X8_of (x0 : Int32) (x1 : Int32) (M : aMm) : Option (Int32) :=
  some (((10 : Int32) + ((22 : Int32) * x0)) + x1)
set_option maxRecDepth 100000 in
set_option maxHeartbeats 4000000 in
theorem jm_X8_of {x0 : Int32} {x1 : Int32} {C : aSc} {M : aMm}  {res : aRes} {r : Int32} (h : f_X8_of x0 x1 M = some r) (Kr : ∀ (v : Int32), r = v → res = (some (.int v), (C, M))) : J mi_X8_of res 0 0 0 [(0, .int (x0)), (1, .int (x1))] [] (C, M) := by
  rw [f_X8_of] at h
  refine J_bipush 10 dX8_of_0 rfl ?_
  refine J_bipush 22 dX8_of_2 rfl ?_
  refine J_iload_n dX8_of_4 rfl 0 rfl ?_
  refine J_imul dX8_of_5 ?_
  refine J_iadd dX8_of_6 ?_
  refine J_iload_n dX8_of_7 rfl 1 rfl ?_
  refine J_iadd dX8_of_8 ?_
  have h := Option.some.inj h
  subst h
  exact J_iret rfl rfl rfl (Kr _ rfl) dX8_of_9
theorem ct_X8_of {x0 : Int32} {x1 : Int32} {C : aSc} {M : aMm} {v : Int32}  (h : f_X8_of x0 x1 M = some v) : Ct mi_X8_of yX8_of [.int (x0), .int (x1)] (C, M) (some (.int v), (C, M)) := Ct_of_J (by decide +kernel) rfl (Nat.le_of_ble_eq_true rfl) (jm_X8_of  h (fun _ e => by cases e; rfl))
def mi_X8_isRock : aMi := (cX8_isRock, 3, RX8, (some .boolean), { frames := 1, cells := 0, slots := 0, locals := 21 })
def f_X8_isRock (x1 : Int32) (M : aMm) : Option (Int32) :=
  (f_X8_of x1 (0 : Int32) M).bind fun r2 => (m_ld M 1 r2).bind fun u3 => if (u3 : Int32) = (1 : Int32) then some (1 : Int32) else if (u3 : Int32) = (3 : Int32) then some (1 : Int32) else some (0 : Int32)
set_option maxRecDepth 100000 in
set_option maxHeartbeats 4000000 in
theorem jm_X8_isRock {x1 : Int32} {C : aSc} {M : aMm}  {res : aRes} {r : Int32} (h : f_X8_isRock x1 M = some r) (Kr : ∀ (v : Int32), r = v → res = (some (.int v), (C, M))) : J mi_X8_isRock res 0 0 0 [(0, .ref (94)), (1, .int (x1))] [] (C, M) := by
  rw [f_X8_isRock] at h
  refine J_aload_n dX8_isRock_0 rfl 0 rfl ?_
  refine J_getr (j := 0) (t := 103) (r := 95) rfl (by decide) (by decide) rfl (by decide) rfl rfl kf_X8_9 dX8_isRock_1 ?_
  refine J_iload_n dX8_isRock_4 rfl 1 rfl ?_
  refine J_iconst 0 dX8_isRock_5 rfl ?_
  obtain ⟨r2, h1, h⟩ := br_b h
  refine J_callS (mj := mi_X8_of) (as := [.int (x1), .int ((0 : Int32))]) (rest := [.ref (95)]) (ct_X8_of (C := C)  h1) ⟨rfl, rfl⟩ rfl cg_X8_45 hd_X8_of rfl ⟨Nat.le_of_ble_eq_true rfl, Nat.le_of_ble_eq_true rfl⟩ (Nat.le_of_ble_eq_true rfl) ⟨Nat.zero_le _, Nat.zero_le _⟩ dX8_isRock_6 ?_
  obtain ⟨u3, h4, h⟩ := br_b h
  refine J_ialdM (m0 := 1) rfl rfl h4 dX8_isRock_9 ?_
  refine J_istore_n (L' := [(2, .int (u3)), (0, .ref (94)), (1, .int (x1))]) dX8_isRock_10 rfl (by decide) rfl ?_
  refine J_iload_n dX8_isRock_11 rfl 0 rfl ?_
  refine J_iconst 1 dX8_isRock_12 rfl ?_
  refine J_icmp_eq 21 dX8_isRock_13 (by decide) (fun c6 => ?_) (fun c6 => ?_)
  · have h := br_p c6 h
    refine J_iconst 1 dX8_isRock_21 rfl ?_
    refine J_goto 26 dX8_isRock_22 (by decide) ?_
    have h := Option.some.inj h
    subst h
    exact J_zret (Or.inr rfl) rfl rfl rfl (Kr _ rfl) dX8_isRock_26
  · have h := br_n c6 h
    refine J_iload_n dX8_isRock_16 rfl 0 rfl ?_
    refine J_iconst 3 dX8_isRock_17 rfl ?_
    refine J_icmp_ne 25 dX8_isRock_18 (by decide) (fun c5 => ?_) (fun c5 => ?_)
    · have h := br_n c5 h
      refine J_iconst 0 dX8_isRock_25 rfl ?_
      have h := Option.some.inj h
      subst h
      exact J_zret (Or.inl rfl) rfl rfl rfl (Kr _ rfl) dX8_isRock_26
    · have h := br_p c5 h
      refine J_iconst 1 dX8_isRock_21 rfl ?_
      refine J_goto 26 dX8_isRock_22 (by decide) ?_
      have h := Option.some.inj h
      subst h
      exact J_zret (Or.inr rfl) rfl rfl rfl (Kr _ rfl) dX8_isRock_26
theorem ct_X8_isRock {x1 : Int32} {C : aSc} {M : aMm} {v : Int32}  (h : f_X8_isRock x1 M = some v) : Ct mi_X8_isRock yX8_isRock [.ref (94), .int (x1)] (C, M) (some (.int v), (C, M)) := Ct_of_J (by decide +kernel) rfl (Nat.le_of_ble_eq_true rfl) (jm_X8_isRock  h (fun _ e => by cases e; rfl))
def mi_X8_keep : aMi := (cX8_keep, 2, RX8, none, { frames := 0, cells := 0, slots := 0, locals := 0 })
def b_X8_keep_52  (x1 : Int32) (M : aMm) : Option ((Int32 × aMm) ⊕ (aMm)) :=
  if ((386 : Int32) : Int32) ≤ x1 then some (.inr M) else (m_ld M 1 x1).bind fun u1 => (m_st M 2 (((m_gi M 0 2) * (386 : Int32)) + x1) u1).bind fun M3 => some (.inl ((x1 + (1 : Int32)), M3))
set_option maxRecDepth 100000 in
set_option maxHeartbeats 4000000 in
theorem jl_X8_keep_52  {C : aSc}  {res : aRes} {r : aMm} : ∀ (n : Nat) (x1 : Int32) (M : aMm), lpf (fun a : Int32 × aMm => b_X8_keep_52  a.1 a.2) n (x1, M) = some r → (∀ (S2 : aMm), r = S2 → J mi_X8_keep res 0 0 86 [(0, .ref (94))] [] (C, S2)) → J mi_X8_keep res 0 0 52 [(0, .ref (94)), (1, .int (x1))] [] (C, M) := by
  intro n
  induction n with
  | zero =>
    intro x1 M h
    cases h
  | succ n ih =>
    intro x1 M h Kx
    obtain ⟨r0, h, h2⟩ := br_b h
    have h : b_X8_keep_52  x1 M = some r0 := h
    rw [b_X8_keep_52] at h
    refine J_iload_n dX8_keep_52 rfl 1 rfl ?_
    refine J_sipush 386 dX8_keep_53 rfl ?_
    refine J_icmp_ge 86 dX8_keep_56 (by decide) (fun c5 => ?_) (fun c5 => ?_)
    · have h := br_p c5 h
      have h := Option.some.inj h
      subst h
      have h2 := Option.some.inj h2
      subst h2
      refine J_sub [0] rfl ?_
      exact Kx _ rfl
    · have h := br_n c5 h
      refine J_aload_n dX8_keep_59 rfl 0 rfl ?_
      refine J_getr (j := 1) (t := 104) (r := 96) rfl (by decide) (by decide) rfl (by decide) rfl rfl kf_X8_13 dX8_keep_60 ?_
      refine J_aload_n dX8_keep_63 rfl 0 rfl ?_
      refine J_getiM (m0 := 0) (j := 2) rfl rfl (by decide) rfl (by decide) rfl kf_X8_49 dX8_keep_64 ?_
      refine J_sipush 386 dX8_keep_67 rfl ?_
      refine J_imul dX8_keep_70 ?_
      refine J_iload_n dX8_keep_71 rfl 1 rfl ?_
      refine J_iadd dX8_keep_72 ?_
      refine J_aload_n dX8_keep_73 rfl 0 rfl ?_
      refine J_getr (j := 0) (t := 103) (r := 95) rfl (by decide) (by decide) rfl (by decide) rfl rfl kf_X8_9 dX8_keep_74 ?_
      refine J_iload_n dX8_keep_77 rfl 1 rfl ?_
      obtain ⟨u1, h2, h⟩ := br_b h
      refine J_ialdM (m0 := 1) rfl rfl h2 dX8_keep_78 ?_
      obtain ⟨M3, h4, h⟩ := br_b h
      refine J_iastM (m0 := 2) rfl rfl h4 dX8_keep_79 ?_
      refine J_iinc (j := 1) (v := (x1 + (1 : Int32))) (L' := [(1, .int ((x1 + (1 : Int32)))), (0, .ref (94))]) dX8_keep_80 rfl rfl (by decide) rfl ?_
      refine J_goto 52 dX8_keep_83 (by decide) ?_
      have h := Option.some.inj h
      subst h
      refine J_sub [1, 0] rfl ?_
      exact ih _ _ h2 Kx
def g_X8_keep_50  (M : aMm) : Option (aMm) :=
  (lpf (fun a : Int32 × aMm => b_X8_keep_52  a.1 a.2) FU ((0 : Int32), M)).bind fun z6 => (some (m_pi z6 0 2 ((m_gi z6 0 2) + (1 : Int32)))).bind fun M9 => some M9
set_option maxRecDepth 100000 in
set_option maxHeartbeats 4000000 in
theorem jb_X8_keep_50  {M : aMm} {C : aSc}  {res : aRes} {r : aMm} (h : g_X8_keep_50  M = some r) (Kr : ∀ (S' : aMm), r = S' → res = (none, (C, S'))) : J mi_X8_keep res 0 0 50 [(0, .ref (94))] [] (C, M) := by
  rw [g_X8_keep_50] at h
  refine J_iconst 0 dX8_keep_50 rfl ?_
  refine J_istore_n (L' := [(1, .int ((0 : Int32))), (0, .ref (94))]) dX8_keep_51 rfl (by decide) rfl ?_
  refine J_sub [1, 0] rfl ?_
  obtain ⟨z6, h7, h⟩ := br_b h
  refine jl_X8_keep_52  FU _ _ h7 ?_
  intro zz e
  subst e
  refine J_aload_n dX8_keep_86 rfl 0 rfl ?_
  refine J_dup dX8_keep_87 rfl ?_
  refine J_getiM (m0 := 0) (j := 2) rfl rfl (by decide) rfl (by decide) rfl kf_X8_49 dX8_keep_88 ?_
  refine J_iconst 1 dX8_keep_91 rfl ?_
  refine J_iadd dX8_keep_92 ?_
  obtain ⟨M9, e10, h⟩ := br_s h
  refine J_putiM (m0 := 0) (j := 2) rfl rfl (by decide) rfl (by decide) rfl rfl rfl kf_X8_49 e10 dX8_keep_93 ?_
  have h := Option.some.inj h
  subst h
  exact J_vret rfl rfl rfl (Kr _ rfl) dX8_keep_96
def b_X8_keep_11  (x1 : Int32) (M : aMm) : Option ((Int32 × aMm) ⊕ (aMm)) :=
  if ((5790 : Int32) : Int32) ≤ x1 then some (.inr M) else (m_ld M 2 (x1 + (386 : Int32))).bind fun u11 => (m_st M 2 x1 u11).bind fun M13 => some (.inl ((x1 + (1 : Int32)), M13))
set_option maxRecDepth 100000 in
set_option maxHeartbeats 4000000 in
theorem jl_X8_keep_11  {C : aSc}  {res : aRes} {r : aMm} : ∀ (n : Nat) (x1 : Int32) (M : aMm), lpf (fun a : Int32 × aMm => b_X8_keep_11  a.1 a.2) n (x1, M) = some r → (∀ (S2 : aMm), r = S2 → J mi_X8_keep res 0 0 40 [(0, .ref (94))] [] (C, S2)) → J mi_X8_keep res 0 0 11 [(0, .ref (94)), (1, .int (x1))] [] (C, M) := by
  intro n
  induction n with
  | zero =>
    intro x1 M h
    cases h
  | succ n ih =>
    intro x1 M h Kx
    obtain ⟨r0, h, h2⟩ := br_b h
    have h : b_X8_keep_11  x1 M = some r0 := h
    rw [b_X8_keep_11] at h
    refine J_iload_n dX8_keep_11 rfl 1 rfl ?_
    refine J_sipush 5790 dX8_keep_12 rfl ?_
    refine J_icmp_ge 40 dX8_keep_15 (by decide) (fun c15 => ?_) (fun c15 => ?_)
    · have h := br_p c15 h
      have h := Option.some.inj h
      subst h
      have h2 := Option.some.inj h2
      subst h2
      refine J_sub [0] rfl ?_
      exact Kx _ rfl
    · have h := br_n c15 h
      refine J_aload_n dX8_keep_18 rfl 0 rfl ?_
      refine J_getr (j := 1) (t := 104) (r := 96) rfl (by decide) (by decide) rfl (by decide) rfl rfl kf_X8_13 dX8_keep_19 ?_
      refine J_iload_n dX8_keep_22 rfl 1 rfl ?_
      refine J_aload_n dX8_keep_23 rfl 0 rfl ?_
      refine J_getr (j := 1) (t := 104) (r := 96) rfl (by decide) (by decide) rfl (by decide) rfl rfl kf_X8_13 dX8_keep_24 ?_
      refine J_iload_n dX8_keep_27 rfl 1 rfl ?_
      refine J_sipush 386 dX8_keep_28 rfl ?_
      refine J_iadd dX8_keep_31 ?_
      obtain ⟨u11, h12, h⟩ := br_b h
      refine J_ialdM (m0 := 2) rfl rfl h12 dX8_keep_32 ?_
      obtain ⟨M13, h14, h⟩ := br_b h
      refine J_iastM (m0 := 2) rfl rfl h14 dX8_keep_33 ?_
      refine J_iinc (j := 1) (v := (x1 + (1 : Int32))) (L' := [(1, .int ((x1 + (1 : Int32)))), (0, .ref (94))]) dX8_keep_34 rfl rfl (by decide) rfl ?_
      refine J_goto 11 dX8_keep_37 (by decide) ?_
      have h := Option.some.inj h
      subst h
      refine J_sub [1, 0] rfl ?_
      exact ih _ _ h2 Kx
def f_X8_keep  (M : aMm) : Option (aMm) :=
  if ((m_gi M 0 2) : Int32) = (16 : Int32) then (lpf (fun a : Int32 × aMm => b_X8_keep_11  a.1 a.2) FU ((0 : Int32), M)).bind fun z16 => (some (m_pi z16 0 2 ((m_gi z16 0 2) - (1 : Int32)))).bind fun M19 => g_X8_keep_50  M19 else g_X8_keep_50  M
set_option maxRecDepth 100000 in
set_option maxHeartbeats 4000000 in
theorem jm_X8_keep  {C : aSc} {M : aMm}  {res : aRes} {r : aMm} (h : f_X8_keep  M = some r) (Kr : ∀ (S' : aMm), r = S' → res = (none, (C, S'))) : J mi_X8_keep res 0 0 0 [(0, .ref (94))] [] (C, M) := by
  rw [f_X8_keep] at h
  refine J_aload_n dX8_keep_0 rfl 0 rfl ?_
  refine J_getiM (m0 := 0) (j := 2) rfl rfl (by decide) rfl (by decide) rfl kf_X8_49 dX8_keep_1 ?_
  refine J_bipush 16 dX8_keep_4 rfl ?_
  refine J_icmp_ne 50 dX8_keep_6 (by decide) (fun c21 => ?_) (fun c21 => ?_)
  · have h := br_n c21 h
    exact jb_X8_keep_50  h Kr
  · have h := br_p c21 h
    refine J_iconst 0 dX8_keep_9 rfl ?_
    refine J_istore_n (L' := [(1, .int ((0 : Int32))), (0, .ref (94))]) dX8_keep_10 rfl (by decide) rfl ?_
    refine J_sub [1, 0] rfl ?_
    obtain ⟨z16, h17, h⟩ := br_b h
    refine jl_X8_keep_11  FU _ _ h17 ?_
    intro zz e
    subst e
    refine J_aload_n dX8_keep_40 rfl 0 rfl ?_
    refine J_dup dX8_keep_41 rfl ?_
    refine J_getiM (m0 := 0) (j := 2) rfl rfl (by decide) rfl (by decide) rfl kf_X8_49 dX8_keep_42 ?_
    refine J_iconst 1 dX8_keep_45 rfl ?_
    refine J_isub dX8_keep_46 ?_
    obtain ⟨M19, e20, h⟩ := br_s h
    refine J_putiM (m0 := 0) (j := 2) rfl rfl (by decide) rfl (by decide) rfl rfl rfl kf_X8_49 e20 dX8_keep_47 ?_
    exact jb_X8_keep_50  h Kr
theorem ct_X8_keep  {C : aSc} {M : aMm} {S' : aMm}  (h : f_X8_keep  M = some S') : Ct mi_X8_keep yX8_keep [.ref (94)] (C, M) (none, (C, S')) := Ct_of_J (by decide +kernel) rfl (Nat.le_of_ble_eq_true rfl) (jm_X8_keep  h (fun _ e => by cases e; rfl))
def mi_X8_undo : aMi := (cX8_undo, 2, RX8, (some .int), { frames := 1, cells := 0, slots := 0, locals := 21 })
def b_X8_undo_26  (x1 : Int32) (M : aMm) : Option ((Int32 × aMm) ⊕ (aMm)) :=
  if ((386 : Int32) : Int32) ≤ x1 then some (.inr M) else (m_ld M 2 (((m_gi M 0 2) * (386 : Int32)) + x1)).bind fun u3 => (m_st M 1 x1 u3).bind fun M5 => some (.inl ((x1 + (1 : Int32)), M5))
set_option maxRecDepth 100000 in
set_option maxHeartbeats 4000000 in
theorem jl_X8_undo_26  {C : aSc}  {res : aRes} {r : aMm} : ∀ (n : Nat) (x1 : Int32) (M : aMm), lpf (fun a : Int32 × aMm => b_X8_undo_26  a.1 a.2) n (x1, M) = some r → (∀ (S2 : aMm), r = S2 → J mi_X8_undo res 0 0 60 [(0, .ref (94))] [] (C, S2)) → J mi_X8_undo res 0 0 26 [(0, .ref (94)), (1, .int (x1))] [] (C, M) := by
  intro n
  induction n with
  | zero =>
    intro x1 M h
    cases h
  | succ n ih =>
    intro x1 M h Kx
    obtain ⟨r0, h, h2⟩ := br_b h
    have h : b_X8_undo_26  x1 M = some r0 := h
    rw [b_X8_undo_26] at h
    refine J_iload_n dX8_undo_26 rfl 1 rfl ?_
    refine J_sipush 386 dX8_undo_27 rfl ?_
    refine J_icmp_ge 60 dX8_undo_30 (by decide) (fun c7 => ?_) (fun c7 => ?_)
    · have h := br_p c7 h
      have h := Option.some.inj h
      subst h
      have h2 := Option.some.inj h2
      subst h2
      refine J_sub [0] rfl ?_
      exact Kx _ rfl
    · have h := br_n c7 h
      refine J_aload_n dX8_undo_33 rfl 0 rfl ?_
      refine J_getr (j := 0) (t := 103) (r := 95) rfl (by decide) (by decide) rfl (by decide) rfl rfl kf_X8_9 dX8_undo_34 ?_
      refine J_iload_n dX8_undo_37 rfl 1 rfl ?_
      refine J_aload_n dX8_undo_38 rfl 0 rfl ?_
      refine J_getr (j := 1) (t := 104) (r := 96) rfl (by decide) (by decide) rfl (by decide) rfl rfl kf_X8_13 dX8_undo_39 ?_
      refine J_aload_n dX8_undo_42 rfl 0 rfl ?_
      refine J_getiM (m0 := 0) (j := 2) rfl rfl (by decide) rfl (by decide) rfl kf_X8_49 dX8_undo_43 ?_
      refine J_sipush 386 dX8_undo_46 rfl ?_
      refine J_imul dX8_undo_49 ?_
      refine J_iload_n dX8_undo_50 rfl 1 rfl ?_
      refine J_iadd dX8_undo_51 ?_
      obtain ⟨u3, h4, h⟩ := br_b h
      refine J_ialdM (m0 := 2) rfl rfl h4 dX8_undo_52 ?_
      obtain ⟨M5, h6, h⟩ := br_b h
      refine J_iastM (m0 := 1) rfl rfl h6 dX8_undo_53 ?_
      refine J_iinc (j := 1) (v := (x1 + (1 : Int32))) (L' := [(1, .int ((x1 + (1 : Int32)))), (0, .ref (94))]) dX8_undo_54 rfl rfl (by decide) rfl ?_
      refine J_goto 26 dX8_undo_57 (by decide) ?_
      have h := Option.some.inj h
      subst h
      refine J_sub [1, 0] rfl ?_
      exact ih _ _ h2 Kx
def f_X8_undo  (M : aMm) : Option (Int32 × aMm) :=
  if ((m_gi M 0 2) : Int32) = 0 then bd2 (f_X8_finding (-100006 : Int32) M) fun r12 M13 => some (r12, M13) else (some (m_pi M 0 2 ((m_gi M 0 2) - (1 : Int32)))).bind fun M1 => (lpf (fun a : Int32 × aMm => b_X8_undo_26  a.1 a.2) FU ((0 : Int32), M1)).bind fun z8 => some ((m_gi z8 0 2), z8)
set_option maxRecDepth 100000 in
set_option maxHeartbeats 4000000 in
theorem jm_X8_undo  {C : aSc} {M : aMm}  {res : aRes} {r : Int32 × aMm} (h : f_X8_undo  M = some r) (Kr : ∀ (v : Int32) (S' : aMm), r = (v, S') → res = (some (.int v), (C, S'))) : J mi_X8_undo res 0 0 0 [(0, .ref (94))] [] (C, M) := by
  rw [f_X8_undo] at h
  refine J_aload_n dX8_undo_0 rfl 0 rfl ?_
  refine J_getiM (m0 := 0) (j := 2) rfl rfl (by decide) rfl (by decide) rfl kf_X8_49 dX8_undo_1 ?_
  refine J_if_ne 14 dX8_undo_4 (by decide) (fun c14 => ?_) (fun c14 => ?_)
  · have h := br_n c14 h
    refine J_aload_n dX8_undo_14 rfl 0 rfl ?_
    refine J_dup dX8_undo_15 rfl ?_
    refine J_getiM (m0 := 0) (j := 2) rfl rfl (by decide) rfl (by decide) rfl kf_X8_49 dX8_undo_16 ?_
    refine J_iconst 1 dX8_undo_19 rfl ?_
    refine J_isub dX8_undo_20 ?_
    obtain ⟨M1, e2, h⟩ := br_s h
    refine J_putiM (m0 := 0) (j := 2) rfl rfl (by decide) rfl (by decide) rfl rfl rfl kf_X8_49 e2 dX8_undo_21 ?_
    refine J_iconst 0 dX8_undo_24 rfl ?_
    refine J_istore_n (L' := [(1, .int ((0 : Int32))), (0, .ref (94))]) dX8_undo_25 rfl (by decide) rfl ?_
    refine J_sub [1, 0] rfl ?_
    obtain ⟨z8, h9, h⟩ := br_b h
    refine jl_X8_undo_26  FU _ _ h9 ?_
    intro zz e
    subst e
    refine J_aload_n dX8_undo_60 rfl 0 rfl ?_
    refine J_getiM (m0 := 0) (j := 2) rfl rfl (by decide) rfl (by decide) rfl kf_X8_49 dX8_undo_61 ?_
    have h := Option.some.inj h
    subst h
    exact J_iret rfl rfl rfl (Kr _ _ rfl) dX8_undo_64
  · have h := br_p c14 h
    refine J_aload_n dX8_undo_7 rfl 0 rfl ?_
    refine J_ldc (-100006) dX8_undo_8 kc_X8_52 ?_
    obtain ⟨r12, M13, h11, h⟩ := br_b2 h
    refine J_callV (mj := mi_X8_finding) (as := [.int ((-100006 : Int32))]) (rest := []) (ct_X8_finding (C := C)  h11) ⟨rfl, rfl⟩ rfl rfl (by decide) rfl cg_X8_53 hd_X8_finding rfl ⟨Nat.le_of_ble_eq_true rfl, Nat.le_of_ble_eq_true rfl⟩ (Nat.le_of_ble_eq_true rfl) ⟨Nat.zero_le _, Nat.zero_le _⟩ dX8_undo_10 ?_
    have h := Option.some.inj h
    subst h
    exact J_iret rfl rfl rfl (Kr _ _ rfl) dX8_undo_13
theorem ct_X8_undo  {C : aSc} {M : aMm} {v : Int32} {S' : aMm}  (h : f_X8_undo  M = some (v, S')) : Ct mi_X8_undo yX8_undo [.ref (94)] (C, M) (some (.int v), (C, S')) := Ct_of_J (by decide +kernel) rfl (Nat.le_of_ble_eq_true rfl) (jm_X8_undo  h (fun _ _ e => by cases e; rfl))
def mi_X8_feed : aMi := (cX8_feed, 5, RX8, (some .int), { frames := 1, cells := 0, slots := 0, locals := 22 })
def b_X8_feed_38 (x1 : Int32) (x2 : Int64) (x4 : Int32) (M : aMm) : Option ((Int32 × aMm) ⊕ (aMm)) :=
  if (x1 : Int32) ≤ x4 then some (.inr M) else (m_st M 3 (m_gi M 0 5) ((((x2 >>> ((((8 : Int32) * x4) : Int32).toInt64 &&& 63)) &&& (255 : Int64)) : Int64).toInt32)).bind fun M3 => (some (m_pi M3 0 5 ((m_gi M3 0 5) + (1 : Int32)))).bind fun M5 => some (.inl ((x4 + (1 : Int32)), M5))
set_option maxRecDepth 100000 in
set_option maxHeartbeats 4000000 in
theorem jl_X8_feed_38 {x1 : Int32} {x2 : Int64} {C : aSc}  {res : aRes} {r : aMm} : ∀ (n : Nat) (x4 : Int32) (M : aMm), lpf (fun a : Int32 × aMm => b_X8_feed_38 (x1) (x2) a.1 a.2) n (x4, M) = some r → (∀ (S2 : aMm), r = S2 → J mi_X8_feed res 0 0 81 [(0, .ref (94))] [] (C, S2)) → J mi_X8_feed res 0 0 38 [(0, .ref (94)), (1, .int (x1)), (2, .long (x2)), (4, .int (x4))] [] (C, M) := by
  intro n
  induction n with
  | zero =>
    intro x4 M h
    cases h
  | succ n ih =>
    intro x4 M h Kx
    obtain ⟨r0, h, h2⟩ := br_b h
    have h : b_X8_feed_38 x1 x2 x4 M = some r0 := h
    rw [b_X8_feed_38] at h
    refine J_iload dX8_feed_38 3 rfl ?_
    refine J_iload_n dX8_feed_40 rfl 1 rfl ?_
    refine J_icmp_ge 81 dX8_feed_41 (by decide) (fun c7 => ?_) (fun c7 => ?_)
    · have h := br_p c7 h
      have h := Option.some.inj h
      subst h
      have h2 := Option.some.inj h2
      subst h2
      refine J_sub [0] rfl ?_
      exact Kx _ rfl
    · have h := br_n c7 h
      refine J_aload_n dX8_feed_44 rfl 0 rfl ?_
      refine J_getr (j := 4) (t := 105) (r := 97) rfl (by decide) (by decide) rfl (by decide) rfl rfl kf_X8_16 dX8_feed_45 ?_
      refine J_aload_n dX8_feed_48 rfl 0 rfl ?_
      refine J_getiM (m0 := 0) (j := 5) rfl rfl (by decide) rfl (by decide) rfl kf_X8_58 dX8_feed_49 ?_
      refine J_lload_n dX8_feed_52 rfl 2 rfl ?_
      refine J_bipush 8 dX8_feed_53 rfl ?_
      refine J_iload dX8_feed_55 3 rfl ?_
      refine J_imul dX8_feed_57 ?_
      refine J_lshr dX8_feed_58 ?_
      refine J_ldc2 255 dX8_feed_59 kl_X8_62 ?_
      refine J_land dX8_feed_62 ?_
      refine J_l2i dX8_feed_63 ?_
      obtain ⟨M3, h4, h⟩ := br_b h
      refine J_iastM (m0 := 3) rfl rfl h4 dX8_feed_64 ?_
      refine J_aload_n dX8_feed_65 rfl 0 rfl ?_
      refine J_dup dX8_feed_66 rfl ?_
      refine J_getiM (m0 := 0) (j := 5) rfl rfl (by decide) rfl (by decide) rfl kf_X8_58 dX8_feed_67 ?_
      refine J_iconst 1 dX8_feed_70 rfl ?_
      refine J_iadd dX8_feed_71 ?_
      obtain ⟨M5, e6, h⟩ := br_s h
      refine J_putiM (m0 := 0) (j := 5) rfl rfl (by decide) rfl (by decide) rfl rfl rfl kf_X8_58 e6 dX8_feed_72 ?_
      refine J_iinc (j := 3) (v := (x4 + (1 : Int32))) (L' := [(4, .int ((x4 + (1 : Int32)))), (0, .ref (94)), (1, .int (x1)), (2, .long (x2))]) dX8_feed_75 rfl rfl (by decide) rfl ?_
      refine J_goto 38 dX8_feed_78 (by decide) ?_
      have h := Option.some.inj h
      subst h
      refine J_sub [1, 2, 3, 0] rfl ?_
      exact ih _ _ h2 Kx
def f_X8_feed (x1 : Int32) (x2 : Int64) (M : aMm) : Option (Int32 × aMm) :=
  (f_X8_within x1 (1 : Int32) (8 : Int32) M).bind fun r2 => if (r2 : Int32) = 0 then bd2 (f_X8_finding (-100001 : Int32) M) fun r16 M17 => some (r16, M17) else if (((m_gi M 0 5) + x1) : Int32) ≤ (40 : Int32) then (lpf (fun a : Int32 × aMm => b_X8_feed_38 (x1) (x2) a.1 a.2) FU ((0 : Int32), M)).bind fun z8 => some ((m_gi z8 0 5), z8) else bd2 (f_X8_finding (-100005 : Int32) M) fun r12 M13 => some (r12, M13)
set_option maxRecDepth 100000 in
set_option maxHeartbeats 4000000 in
theorem jm_X8_feed {x1 : Int32} {x2 : Int64} {C : aSc} {M : aMm}  {res : aRes} {r : Int32 × aMm} (h : f_X8_feed x1 x2 M = some r) (Kr : ∀ (v : Int32) (S' : aMm), r = (v, S') → res = (some (.int v), (C, S'))) : J mi_X8_feed res 0 0 0 [(0, .ref (94)), (1, .int (x1)), (2, .long (x2))] [] (C, M) := by
  rw [f_X8_feed] at h
  refine J_iload_n dX8_feed_0 rfl 1 rfl ?_
  refine J_iconst 1 dX8_feed_1 rfl ?_
  refine J_bipush 8 dX8_feed_2 rfl ?_
  obtain ⟨r2, h1, h⟩ := br_b h
  refine J_callS (mj := mi_X8_within) (as := [.int (x1), .int ((1 : Int32)), .int ((8 : Int32))]) (rest := []) (ct_X8_within (C := C)  h1) ⟨rfl, rfl⟩ rfl cg_X8_41 hd_X8_within rfl ⟨Nat.le_of_ble_eq_true rfl, Nat.le_of_ble_eq_true rfl⟩ (Nat.le_of_ble_eq_true rfl) ⟨Nat.zero_le _, Nat.zero_le _⟩ dX8_feed_4 ?_
  refine J_if_ne 17 dX8_feed_7 (by decide) (fun c18 => ?_) (fun c18 => ?_)
  · have h := br_n c18 h
    refine J_aload_n dX8_feed_17 rfl 0 rfl ?_
    refine J_getiM (m0 := 0) (j := 5) rfl rfl (by decide) rfl (by decide) rfl kf_X8_58 dX8_feed_18 ?_
    refine J_iload_n dX8_feed_21 rfl 1 rfl ?_
    refine J_iadd dX8_feed_22 ?_
    refine J_bipush 40 dX8_feed_23 rfl ?_
    refine J_icmp_le 35 dX8_feed_25 (by decide) (fun c14 => ?_) (fun c14 => ?_)
    · have h := br_p c14 h
      refine J_iconst 0 dX8_feed_35 rfl ?_
      refine J_istore (L' := [(4, .int ((0 : Int32))), (0, .ref (94)), (1, .int (x1)), (2, .long (x2))]) dX8_feed_36 (by decide) rfl ?_
      refine J_sub [1, 2, 3, 0] rfl ?_
      obtain ⟨z8, h9, h⟩ := br_b h
      refine jl_X8_feed_38  FU _ _ h9 ?_
      intro zz e
      subst e
      refine J_aload_n dX8_feed_81 rfl 0 rfl ?_
      refine J_getiM (m0 := 0) (j := 5) rfl rfl (by decide) rfl (by decide) rfl kf_X8_58 dX8_feed_82 ?_
      have h := Option.some.inj h
      subst h
      exact J_iret rfl rfl rfl (Kr _ _ rfl) dX8_feed_85
    · have h := br_n c14 h
      refine J_aload_n dX8_feed_28 rfl 0 rfl ?_
      refine J_ldc (-100005) dX8_feed_29 kc_X8_61 ?_
      obtain ⟨r12, M13, h11, h⟩ := br_b2 h
      refine J_callV (mj := mi_X8_finding) (as := [.int ((-100005 : Int32))]) (rest := []) (ct_X8_finding (C := C)  h11) ⟨rfl, rfl⟩ rfl rfl (by decide) rfl cg_X8_53 hd_X8_finding rfl ⟨Nat.le_of_ble_eq_true rfl, Nat.le_of_ble_eq_true rfl⟩ (Nat.le_of_ble_eq_true rfl) ⟨Nat.zero_le _, Nat.zero_le _⟩ dX8_feed_31 ?_
      have h := Option.some.inj h
      subst h
      exact J_iret rfl rfl rfl (Kr _ _ rfl) dX8_feed_34
  · have h := br_p c18 h
    refine J_aload_n dX8_feed_10 rfl 0 rfl ?_
    refine J_ldc (-100001) dX8_feed_11 kc_X8_57 ?_
    obtain ⟨r16, M17, h15, h⟩ := br_b2 h
    refine J_callV (mj := mi_X8_finding) (as := [.int ((-100001 : Int32))]) (rest := []) (ct_X8_finding (C := C)  h15) ⟨rfl, rfl⟩ rfl rfl (by decide) rfl cg_X8_53 hd_X8_finding rfl ⟨Nat.le_of_ble_eq_true rfl, Nat.le_of_ble_eq_true rfl⟩ (Nat.le_of_ble_eq_true rfl) ⟨Nat.zero_le _, Nat.zero_le _⟩ dX8_feed_13 ?_
    have h := Option.some.inj h
    subst h
    exact J_iret rfl rfl rfl (Kr _ _ rfl) dX8_feed_16
theorem ct_X8_feed {x1 : Int32} {x2 : Int64} {C : aSc} {M : aMm} {v : Int32} {S' : aMm}  (h : f_X8_feed x1 x2 M = some (v, S')) : Ct mi_X8_feed yX8_feed [.ref (94), .int (x1), .long (x2)] (C, M) (some (.int v), (C, S')) := Ct_of_J (by decide +kernel) rfl (Nat.le_of_ble_eq_true rfl) (jm_X8_feed  h (fun _ _ e => by cases e; rfl))
def mi_X8_isHere : aMi := (cX8_isHere, 2, RX8, (some .boolean), { frames := 0, cells := 0, slots := 0, locals := 0 })
def f_X8_isHere (x1 : Int32) (M : aMm) : Option (Int32) :=
  if ((m_gi M 0 10) : Int32) = 0 then if ((m_gi M 0 5) : Int32) ≤ (m_gi M 0 9) then some (0 : Int32) else (m_ld M 3 (m_gi M 0 9)).bind fun u1 => if (u1 : Int32) = x1 then some (1 : Int32) else some (0 : Int32) else some (0 : Int32)
set_option maxRecDepth 100000 in
set_option maxHeartbeats 4000000 in
theorem jm_X8_isHere {x1 : Int32} {C : aSc} {M : aMm}  {res : aRes} {r : Int32} (h : f_X8_isHere x1 M = some r) (Kr : ∀ (v : Int32), r = v → res = (some (.int v), (C, M))) : J mi_X8_isHere res 0 0 0 [(0, .ref (94)), (1, .int (x1))] [] (C, M) := by
  rw [f_X8_isHere] at h
  refine J_aload_n dX8_isHere_0 rfl 0 rfl ?_
  refine J_getiM (m0 := 0) (j := 10) rfl rfl (by decide) rfl (by decide) rfl kf_X8_64 dX8_isHere_1 ?_
  refine J_if_ne 35 dX8_isHere_4 (by decide) (fun c5 => ?_) (fun c5 => ?_)
  · have h := br_n c5 h
    refine J_iconst 0 dX8_isHere_35 rfl ?_
    have h := Option.some.inj h
    subst h
    exact J_zret (Or.inl rfl) rfl rfl rfl (Kr _ rfl) dX8_isHere_36
  · have h := br_p c5 h
    refine J_aload_n dX8_isHere_7 rfl 0 rfl ?_
    refine J_getiM (m0 := 0) (j := 9) rfl rfl (by decide) rfl (by decide) rfl kf_X8_68 dX8_isHere_8 ?_
    refine J_aload_n dX8_isHere_11 rfl 0 rfl ?_
    refine J_getiM (m0 := 0) (j := 5) rfl rfl (by decide) rfl (by decide) rfl kf_X8_58 dX8_isHere_12 ?_
    refine J_icmp_ge 35 dX8_isHere_15 (by decide) (fun c4 => ?_) (fun c4 => ?_)
    · have h := br_p c4 h
      refine J_iconst 0 dX8_isHere_35 rfl ?_
      have h := Option.some.inj h
      subst h
      exact J_zret (Or.inl rfl) rfl rfl rfl (Kr _ rfl) dX8_isHere_36
    · have h := br_n c4 h
      refine J_aload_n dX8_isHere_18 rfl 0 rfl ?_
      refine J_getr (j := 4) (t := 105) (r := 97) rfl (by decide) (by decide) rfl (by decide) rfl rfl kf_X8_16 dX8_isHere_19 ?_
      refine J_aload_n dX8_isHere_22 rfl 0 rfl ?_
      refine J_getiM (m0 := 0) (j := 9) rfl rfl (by decide) rfl (by decide) rfl kf_X8_68 dX8_isHere_23 ?_
      obtain ⟨u1, h2, h⟩ := br_b h
      refine J_ialdM (m0 := 3) rfl rfl h2 dX8_isHere_26 ?_
      refine J_iload_n dX8_isHere_27 rfl 1 rfl ?_
      refine J_icmp_ne 35 dX8_isHere_28 (by decide) (fun c3 => ?_) (fun c3 => ?_)
      · have h := br_n c3 h
        refine J_iconst 0 dX8_isHere_35 rfl ?_
        have h := Option.some.inj h
        subst h
        exact J_zret (Or.inl rfl) rfl rfl rfl (Kr _ rfl) dX8_isHere_36
      · have h := br_p c3 h
        refine J_iconst 1 dX8_isHere_31 rfl ?_
        refine J_goto 36 dX8_isHere_32 (by decide) ?_
        have h := Option.some.inj h
        subst h
        exact J_zret (Or.inr rfl) rfl rfl rfl (Kr _ rfl) dX8_isHere_36
theorem ct_X8_isHere {x1 : Int32} {C : aSc} {M : aMm} {v : Int32}  (h : f_X8_isHere x1 M = some v) : Ct mi_X8_isHere yX8_isHere [.ref (94), .int (x1)] (C, M) (some (.int v), (C, M)) := Ct_of_J (by decide +kernel) rfl (Nat.le_of_ble_eq_true rfl) (jm_X8_isHere  h (fun _ e => by cases e; rfl))
def mi_X8_need : aMi := (cX8_need, 2, RX8, none, { frames := 1, cells := 0, slots := 0, locals := 21 })
def g_X8_need_21 (t0 : Int32) (M : aMm) : Option (aMm) :=
  if t0 = 0 ∨ t0 = 1 then (some (m_pi M 0 10 t0)).bind fun M1 => if ((m_gi M1 0 10) : Int32) = 0 then (some (m_pi M1 0 9 ((m_gi M1 0 9) + (1 : Int32)))).bind fun M4 => some M4 else (some (m_pi M1 0 9 ((m_gi M1 0 9) + (0 : Int32)))).bind fun M6 => some M6 else none
set_option maxRecDepth 100000 in
set_option maxHeartbeats 4000000 in
theorem jb_X8_need_21 {t0 : Int32} {M : aMm} {C : aSc}  {res : aRes} {r : aMm} (h : g_X8_need_21 t0 M = some r) (Kr : ∀ (S' : aMm), r = S' → res = (none, (C, S'))) : J mi_X8_need res 0 0 21 [(0, .ref (94))] [.int (t0), .ref (94)] (C, M) := by
  rw [g_X8_need_21] at h
  obtain ⟨n3, h⟩ := br_g h
  obtain ⟨M1, e2, h⟩ := br_s h
  refine J_putzM (m0 := 0) (j := 10) n3 rfl rfl (by decide) rfl (by decide) rfl rfl rfl kf_X8_64 e2 dX8_need_21 ?_
  refine J_aload_n dX8_need_24 rfl 0 rfl ?_
  refine J_dup dX8_need_25 rfl ?_
  refine J_getiM (m0 := 0) (j := 9) rfl rfl (by decide) rfl (by decide) rfl kf_X8_68 dX8_need_26 ?_
  refine J_aload_n dX8_need_29 rfl 0 rfl ?_
  refine J_getiM (m0 := 0) (j := 10) rfl rfl (by decide) rfl (by decide) rfl kf_X8_64 dX8_need_30 ?_
  refine J_if_eq 40 dX8_need_33 (by decide) (fun c8 => ?_) (fun c8 => ?_)
  · have h := br_p c8 h
    refine J_iconst 1 dX8_need_40 rfl ?_
    refine J_iadd dX8_need_41 ?_
    obtain ⟨M4, e5, h⟩ := br_s h
    refine J_putiM (m0 := 0) (j := 9) rfl rfl (by decide) rfl (by decide) rfl rfl rfl kf_X8_68 e5 dX8_need_42 ?_
    have h := Option.some.inj h
    subst h
    exact J_vret rfl rfl rfl (Kr _ rfl) dX8_need_45
  · have h := br_n c8 h
    refine J_iconst 0 dX8_need_36 rfl ?_
    refine J_goto 41 dX8_need_37 (by decide) ?_
    refine J_iadd dX8_need_41 ?_
    obtain ⟨M6, e7, h⟩ := br_s h
    refine J_putiM (m0 := 0) (j := 9) rfl rfl (by decide) rfl (by decide) rfl rfl rfl kf_X8_68 e7 dX8_need_42 ?_
    have h := Option.some.inj h
    subst h
    exact J_vret rfl rfl rfl (Kr _ rfl) dX8_need_45
def g_X8_need_16  (M : aMm) : Option (aMm) :=
  g_X8_need_21 ((1 : Int32)) M
set_option maxRecDepth 100000 in
set_option maxHeartbeats 4000000 in
theorem jb_X8_need_16  {M : aMm} {C : aSc}  {res : aRes} {r : aMm} (h : g_X8_need_16  M = some r) (Kr : ∀ (S' : aMm), r = S' → res = (none, (C, S'))) : J mi_X8_need res 0 0 16 [(0, .ref (94))] [.ref (94)] (C, M) := by
  rw [g_X8_need_16] at h
  refine J_iconst 1 dX8_need_16 rfl ?_
  refine J_goto 21 dX8_need_17 (by decide) ?_
  exact jb_X8_need_21  h Kr
def f_X8_need (x1 : Int32) (M : aMm) : Option (aMm) :=
  if ((m_gi M 0 10) : Int32) = 0 then (f_X8_isHere x1 M).bind fun r10 => if (r10 : Int32) = 0 then g_X8_need_16  M else g_X8_need_21 ((0 : Int32)) M else g_X8_need_16  M
set_option maxRecDepth 100000 in
set_option maxHeartbeats 4000000 in
theorem jm_X8_need {x1 : Int32} {C : aSc} {M : aMm}  {res : aRes} {r : aMm} (h : f_X8_need x1 M = some r) (Kr : ∀ (S' : aMm), r = S' → res = (none, (C, S'))) : J mi_X8_need res 0 0 0 [(0, .ref (94)), (1, .int (x1))] [] (C, M) := by
  rw [f_X8_need] at h
  refine J_aload_n dX8_need_0 rfl 0 rfl ?_
  refine J_aload_n dX8_need_1 rfl 0 rfl ?_
  refine J_getiM (m0 := 0) (j := 10) rfl rfl (by decide) rfl (by decide) rfl kf_X8_64 dX8_need_2 ?_
  refine J_if_ne 16 dX8_need_5 (by decide) (fun c12 => ?_) (fun c12 => ?_)
  · have h := br_n c12 h
    refine J_sub [0] rfl ?_
    exact jb_X8_need_16  h Kr
  · have h := br_p c12 h
    refine J_aload_n dX8_need_8 rfl 0 rfl ?_
    refine J_iload_n dX8_need_9 rfl 1 rfl ?_
    obtain ⟨r10, h9, h⟩ := br_b h
    refine J_callV (mj := mi_X8_isHere) (as := [.int (x1)]) (rest := [.ref (94)]) (ct_X8_isHere (C := C)  h9) ⟨rfl, rfl⟩ rfl rfl (by decide) rfl cg_X8_71 hd_X8_isHere rfl ⟨Nat.le_of_ble_eq_true rfl, Nat.le_of_ble_eq_true rfl⟩ (Nat.le_of_ble_eq_true rfl) ⟨Nat.zero_le _, Nat.zero_le _⟩ dX8_need_10 ?_
    refine J_if_ne 20 dX8_need_13 (by decide) (fun c11 => ?_) (fun c11 => ?_)
    · have h := br_n c11 h
      refine J_iconst 0 dX8_need_20 rfl ?_
      refine J_sub [0] rfl ?_
      exact jb_X8_need_21  h Kr
    · have h := br_p c11 h
      refine J_sub [0] rfl ?_
      exact jb_X8_need_16  h Kr
theorem ct_X8_need {x1 : Int32} {C : aSc} {M : aMm} {S' : aMm}  (h : f_X8_need x1 M = some S') : Ct mi_X8_need yX8_need [.ref (94), .int (x1)] (C, M) (none, (C, S')) := Ct_of_J (by decide +kernel) rfl (Nat.le_of_ble_eq_true rfl) (jm_X8_need  h (fun _ e => by cases e; rfl))
def mi_X8_isDigit : aMi := (cX8_isDigit, 1, RX8, (some .boolean), { frames := 1, cells := 0, slots := 0, locals := 22 })
def f_X8_isDigit  (M : aMm) : Option (Int32) :=
  if ((m_gi M 0 10) : Int32) = 0 then if ((m_gi M 0 5) : Int32) ≤ (m_gi M 0 9) then some (0 : Int32) else (m_ld M 3 (m_gi M 0 9)).bind fun u1 => (f_X8_within u1 (48 : Int32) (57 : Int32) M).bind fun r4 => if (r4 : Int32) = 0 then some (0 : Int32) else some (1 : Int32) else some (0 : Int32)
set_option maxRecDepth 100000 in
set_option maxHeartbeats 4000000 in
theorem jm_X8_isDigit  {C : aSc} {M : aMm}  {res : aRes} {r : Int32} (h : f_X8_isDigit  M = some r) (Kr : ∀ (v : Int32), r = v → res = (some (.int v), (C, M))) : J mi_X8_isDigit res 0 0 0 [(0, .ref (94))] [] (C, M) := by
  rw [f_X8_isDigit] at h
  refine J_aload_n dX8_isDigit_0 rfl 0 rfl ?_
  refine J_getiM (m0 := 0) (j := 10) rfl rfl (by decide) rfl (by decide) rfl kf_X8_64 dX8_isDigit_1 ?_
  refine J_if_ne 41 dX8_isDigit_4 (by decide) (fun c7 => ?_) (fun c7 => ?_)
  · have h := br_n c7 h
    refine J_iconst 0 dX8_isDigit_41 rfl ?_
    have h := Option.some.inj h
    subst h
    exact J_zret (Or.inl rfl) rfl rfl rfl (Kr _ rfl) dX8_isDigit_42
  · have h := br_p c7 h
    refine J_aload_n dX8_isDigit_7 rfl 0 rfl ?_
    refine J_getiM (m0 := 0) (j := 9) rfl rfl (by decide) rfl (by decide) rfl kf_X8_68 dX8_isDigit_8 ?_
    refine J_aload_n dX8_isDigit_11 rfl 0 rfl ?_
    refine J_getiM (m0 := 0) (j := 5) rfl rfl (by decide) rfl (by decide) rfl kf_X8_58 dX8_isDigit_12 ?_
    refine J_icmp_ge 41 dX8_isDigit_15 (by decide) (fun c6 => ?_) (fun c6 => ?_)
    · have h := br_p c6 h
      refine J_iconst 0 dX8_isDigit_41 rfl ?_
      have h := Option.some.inj h
      subst h
      exact J_zret (Or.inl rfl) rfl rfl rfl (Kr _ rfl) dX8_isDigit_42
    · have h := br_n c6 h
      refine J_aload_n dX8_isDigit_18 rfl 0 rfl ?_
      refine J_getr (j := 4) (t := 105) (r := 97) rfl (by decide) (by decide) rfl (by decide) rfl rfl kf_X8_16 dX8_isDigit_19 ?_
      refine J_aload_n dX8_isDigit_22 rfl 0 rfl ?_
      refine J_getiM (m0 := 0) (j := 9) rfl rfl (by decide) rfl (by decide) rfl kf_X8_68 dX8_isDigit_23 ?_
      obtain ⟨u1, h2, h⟩ := br_b h
      refine J_ialdM (m0 := 3) rfl rfl h2 dX8_isDigit_26 ?_
      refine J_bipush 48 dX8_isDigit_27 rfl ?_
      refine J_bipush 57 dX8_isDigit_29 rfl ?_
      obtain ⟨r4, h3, h⟩ := br_b h
      refine J_callS (mj := mi_X8_within) (as := [.int (u1), .int ((48 : Int32)), .int ((57 : Int32))]) (rest := []) (ct_X8_within (C := C)  h3) ⟨rfl, rfl⟩ rfl cg_X8_41 hd_X8_within rfl ⟨Nat.le_of_ble_eq_true rfl, Nat.le_of_ble_eq_true rfl⟩ (Nat.le_of_ble_eq_true rfl) ⟨Nat.zero_le _, Nat.zero_le _⟩ dX8_isDigit_31 ?_
      refine J_if_eq 41 dX8_isDigit_34 (by decide) (fun c5 => ?_) (fun c5 => ?_)
      · have h := br_p c5 h
        refine J_iconst 0 dX8_isDigit_41 rfl ?_
        have h := Option.some.inj h
        subst h
        exact J_zret (Or.inl rfl) rfl rfl rfl (Kr _ rfl) dX8_isDigit_42
      · have h := br_n c5 h
        refine J_iconst 1 dX8_isDigit_37 rfl ?_
        refine J_goto 42 dX8_isDigit_38 (by decide) ?_
        have h := Option.some.inj h
        subst h
        exact J_zret (Or.inr rfl) rfl rfl rfl (Kr _ rfl) dX8_isDigit_42
theorem ct_X8_isDigit  {C : aSc} {M : aMm} {v : Int32}  (h : f_X8_isDigit  M = some v) : Ct mi_X8_isDigit yX8_isDigit [.ref (94)] (C, M) (some (.int v), (C, M)) := Ct_of_J (by decide +kernel) rfl (Nat.le_of_ble_eq_true rfl) (jm_X8_isDigit  h (fun _ e => by cases e; rfl))
def mi_X8_number : aMi := (cX8_number, 3, RX8, (some .int), { frames := 2, cells := 0, slots := 0, locals := 42 })
def b_X8_number_27  (x1 : Int32) (x2 : Int32) (M : aMm) : Option ((Int32 × Int32 × aMm) ⊕ (Int32 × aMm)) :=
  if ((2 : Int32) : Int32) ≤ x2 then some (.inr (x1, M)) else (f_X8_isDigit  M).bind fun r5 => if (r5 : Int32) = 0 then some (.inr (x1, M)) else (m_ld M 3 (m_gi M 0 9)).bind fun u6 => (some (m_pi M 0 9 ((m_gi M 0 9) + (1 : Int32)))).bind fun M8 => some (.inl (((((10 : Int32) * x1) + u6) - (48 : Int32)), (x2 + (1 : Int32)), M8))
set_option maxRecDepth 100000 in
set_option maxHeartbeats 4000000 in
theorem jl_X8_number_27  {C : aSc}  {res : aRes} {r : Int32 × aMm} : ∀ (n : Nat) (x1 : Int32) (x2 : Int32) (M : aMm), lpf (fun a : Int32 × Int32 × aMm => b_X8_number_27  a.1 a.2.1 a.2.2) n (x1, x2, M) = some r → (∀ (z1 : Int32) (S2 : aMm), r = (z1, S2) → J mi_X8_number res 0 0 73 [(1, .int (z1))] [] (C, S2)) → J mi_X8_number res 0 0 27 [(0, .ref (94)), (1, .int (x1)), (2, .int (x2))] [] (C, M) := by
  intro n
  induction n with
  | zero =>
    intro x1 x2 M h
    cases h
  | succ n ih =>
    intro x1 x2 M h Kx
    obtain ⟨r0, h, h2⟩ := br_b h
    have h : b_X8_number_27  x1 x2 M = some r0 := h
    rw [b_X8_number_27] at h
    refine J_iload_n dX8_number_27 rfl 2 rfl ?_
    refine J_iconst 2 dX8_number_28 rfl ?_
    refine J_icmp_ge 73 dX8_number_29 (by decide) (fun c11 => ?_) (fun c11 => ?_)
    · have h := br_p c11 h
      have h := Option.some.inj h
      subst h
      have h2 := Option.some.inj h2
      subst h2
      refine J_sub [1] rfl ?_
      exact Kx _ _ rfl
    · have h := br_n c11 h
      refine J_aload_n dX8_number_32 rfl 0 rfl ?_
      obtain ⟨r5, h4, h⟩ := br_b h
      refine J_callV (mj := mi_X8_isDigit) (as := []) (rest := []) (ct_X8_isDigit (C := C)  h4) ⟨rfl, rfl⟩ rfl rfl (by decide) rfl cg_X8_75 hd_X8_isDigit rfl ⟨Nat.le_of_ble_eq_true rfl, Nat.le_of_ble_eq_true rfl⟩ (Nat.le_of_ble_eq_true rfl) ⟨Nat.zero_le _, Nat.zero_le _⟩ dX8_number_33 ?_
      refine J_if_eq 73 dX8_number_36 (by decide) (fun c10 => ?_) (fun c10 => ?_)
      · have h := br_p c10 h
        have h := Option.some.inj h
        subst h
        have h2 := Option.some.inj h2
        subst h2
        refine J_sub [1] rfl ?_
        exact Kx _ _ rfl
      · have h := br_n c10 h
        refine J_bipush 10 dX8_number_39 rfl ?_
        refine J_iload_n dX8_number_41 rfl 1 rfl ?_
        refine J_imul dX8_number_42 ?_
        refine J_aload_n dX8_number_43 rfl 0 rfl ?_
        refine J_getr (j := 4) (t := 105) (r := 97) rfl (by decide) (by decide) rfl (by decide) rfl rfl kf_X8_16 dX8_number_44 ?_
        refine J_aload_n dX8_number_47 rfl 0 rfl ?_
        refine J_getiM (m0 := 0) (j := 9) rfl rfl (by decide) rfl (by decide) rfl kf_X8_68 dX8_number_48 ?_
        obtain ⟨u6, h7, h⟩ := br_b h
        refine J_ialdM (m0 := 3) rfl rfl h7 dX8_number_51 ?_
        refine J_iadd dX8_number_52 ?_
        refine J_bipush 48 dX8_number_53 rfl ?_
        refine J_isub dX8_number_55 ?_
        refine J_istore_n (L' := [(1, .int (((((10 : Int32) * x1) + u6) - (48 : Int32)))), (0, .ref (94)), (2, .int (x2))]) dX8_number_56 rfl (by decide) rfl ?_
        refine J_aload_n dX8_number_57 rfl 1 rfl ?_
        refine J_dup dX8_number_58 rfl ?_
        refine J_getiM (m0 := 0) (j := 9) rfl rfl (by decide) rfl (by decide) rfl kf_X8_68 dX8_number_59 ?_
        refine J_iconst 1 dX8_number_62 rfl ?_
        refine J_iadd dX8_number_63 ?_
        obtain ⟨M8, e9, h⟩ := br_s h
        refine J_putiM (m0 := 0) (j := 9) rfl rfl (by decide) rfl (by decide) rfl rfl rfl kf_X8_68 e9 dX8_number_64 ?_
        refine J_iinc (j := 2) (v := (x2 + (1 : Int32))) (L' := [(2, .int ((x2 + (1 : Int32)))), (1, .int (((((10 : Int32) * x1) + u6) - (48 : Int32)))), (0, .ref (94))]) dX8_number_67 rfl rfl (by decide) rfl ?_
        refine J_goto 27 dX8_number_70 (by decide) ?_
        have h := Option.some.inj h
        subst h
        refine J_sub [2, 1, 0] rfl ?_
        exact ih _ _ _ h2 Kx
def g_X8_number_20 (t0 : Int32) (M : aMm) : Option (Int32 × aMm) :=
  if t0 = 0 ∨ t0 = 1 then (some (m_pi M 0 10 t0)).bind fun M1 => (lpf (fun a : Int32 × Int32 × aMm => b_X8_number_27  a.1 a.2.1 a.2.2) FU ((0 : Int32), (0 : Int32), M1)).bind fun z12 => some (z12.1, z12.2) else none
set_option maxRecDepth 100000 in
set_option maxHeartbeats 4000000 in
theorem jb_X8_number_20 {t0 : Int32} {M : aMm} {C : aSc}  {res : aRes} {r : Int32 × aMm} (h : g_X8_number_20 t0 M = some r) (Kr : ∀ (v : Int32) (S' : aMm), r = (v, S') → res = (some (.int v), (C, S'))) : J mi_X8_number res 0 0 20 [(0, .ref (94))] [.int (t0), .ref (94)] (C, M) := by
  rw [g_X8_number_20] at h
  obtain ⟨n3, h⟩ := br_g h
  obtain ⟨M1, e2, h⟩ := br_s h
  refine J_putzM (m0 := 0) (j := 10) n3 rfl rfl (by decide) rfl (by decide) rfl rfl rfl kf_X8_64 e2 dX8_number_20 ?_
  refine J_iconst 0 dX8_number_23 rfl ?_
  refine J_istore_n (L' := [(1, .int ((0 : Int32))), (0, .ref (94))]) dX8_number_24 rfl (by decide) rfl ?_
  refine J_iconst 0 dX8_number_25 rfl ?_
  refine J_istore_n (L' := [(2, .int ((0 : Int32))), (1, .int ((0 : Int32))), (0, .ref (94))]) dX8_number_26 rfl (by decide) rfl ?_
  refine J_sub [2, 1, 0] rfl ?_
  obtain ⟨z12, h13, h⟩ := br_b h
  refine jl_X8_number_27  FU _ _ _ h13 ?_
  intro v14 M15 e
  subst e
  refine J_iload_n dX8_number_73 rfl 0 rfl ?_
  have h := Option.some.inj h
  subst h
  exact J_iret rfl rfl rfl (Kr _ _ rfl) dX8_number_74
def g_X8_number_15  (M : aMm) : Option (Int32 × aMm) :=
  g_X8_number_20 ((1 : Int32)) M
set_option maxRecDepth 100000 in
set_option maxHeartbeats 4000000 in
theorem jb_X8_number_15  {M : aMm} {C : aSc}  {res : aRes} {r : Int32 × aMm} (h : g_X8_number_15  M = some r) (Kr : ∀ (v : Int32) (S' : aMm), r = (v, S') → res = (some (.int v), (C, S'))) : J mi_X8_number res 0 0 15 [(0, .ref (94))] [.ref (94)] (C, M) := by
  rw [g_X8_number_15] at h
  refine J_iconst 1 dX8_number_15 rfl ?_
  refine J_goto 20 dX8_number_16 (by decide) ?_
  exact jb_X8_number_20  h Kr
def f_X8_number  (M : aMm) : Option (Int32 × aMm) :=
  if ((m_gi M 0 10) : Int32) = 0 then (f_X8_isDigit  M).bind fun r17 => if (r17 : Int32) = 0 then g_X8_number_15  M else g_X8_number_20 ((0 : Int32)) M else g_X8_number_15  M
set_option maxRecDepth 100000 in
set_option maxHeartbeats 4000000 in
theorem jm_X8_number  {C : aSc} {M : aMm}  {res : aRes} {r : Int32 × aMm} (h : f_X8_number  M = some r) (Kr : ∀ (v : Int32) (S' : aMm), r = (v, S') → res = (some (.int v), (C, S'))) : J mi_X8_number res 0 0 0 [(0, .ref (94))] [] (C, M) := by
  rw [f_X8_number] at h
  refine J_aload_n dX8_number_0 rfl 0 rfl ?_
  refine J_aload_n dX8_number_1 rfl 0 rfl ?_
  refine J_getiM (m0 := 0) (j := 10) rfl rfl (by decide) rfl (by decide) rfl kf_X8_64 dX8_number_2 ?_
  refine J_if_ne 15 dX8_number_5 (by decide) (fun c19 => ?_) (fun c19 => ?_)
  · have h := br_n c19 h
    exact jb_X8_number_15  h Kr
  · have h := br_p c19 h
    refine J_aload_n dX8_number_8 rfl 0 rfl ?_
    obtain ⟨r17, h16, h⟩ := br_b h
    refine J_callV (mj := mi_X8_isDigit) (as := []) (rest := [.ref (94)]) (ct_X8_isDigit (C := C)  h16) ⟨rfl, rfl⟩ rfl rfl (by decide) rfl cg_X8_75 hd_X8_isDigit rfl ⟨Nat.le_of_ble_eq_true rfl, Nat.le_of_ble_eq_true rfl⟩ (Nat.le_of_ble_eq_true rfl) ⟨Nat.zero_le _, Nat.zero_le _⟩ dX8_number_9 ?_
    refine J_if_ne 19 dX8_number_12 (by decide) (fun c18 => ?_) (fun c18 => ?_)
    · have h := br_n c18 h
      refine J_iconst 0 dX8_number_19 rfl ?_
      exact jb_X8_number_20  h Kr
    · have h := br_p c18 h
      exact jb_X8_number_15  h Kr
theorem ct_X8_number  {C : aSc} {M : aMm} {v : Int32} {S' : aMm}  (h : f_X8_number  M = some (v, S')) : Ct mi_X8_number yX8_number [.ref (94)] (C, M) (some (.int v), (C, S')) := Ct_of_J (by decide +kernel) rfl (Nat.le_of_ble_eq_true rfl) (jm_X8_number  h (fun _ _ e => by cases e; rfl))
def mi_X8_readSort : aMi := (cX8_readSort, 1, RX8, none, { frames := 3, cells := 0, slots := 0, locals := 64 })
def g_X8_readSort_151  (M : aMm) : Option (aMm) :=
  (some (m_pi M 0 12 (1 : Int32))).bind fun M15 => if ((m_gi M15 0 11) : Int32) = (70 : Int32) then some M15 else if ((m_gi M15 0 11) : Int32) = (73 : Int32) then some M15 else (f_X8_isHere (40 : Int32) M15).bind fun r18 => if (r18 : Int32) = 0 then some M15 else (some (m_pi M15 0 9 ((m_gi M15 0 9) + (1 : Int32)))).bind fun M19 => bd2 (f_X8_number  M19) fun r22 M23 => (some (m_pi M23 0 12 r22)).bind fun M24 => (f_X8_need (41 : Int32) M24).bind fun M27 => some M27
set_option maxRecDepth 100000 in
set_option maxHeartbeats 4000000 in
theorem jb_X8_readSort_151  {M : aMm} {C : aSc}  {res : aRes} {r : aMm} (h : g_X8_readSort_151  M = some r) (Kr : ∀ (S' : aMm), r = S' → res = (none, (C, S'))) : J mi_X8_readSort res 0 0 151 [(0, .ref (94))] [] (C, M) := by
  rw [g_X8_readSort_151] at h
  refine J_aload_n dX8_readSort_151 rfl 0 rfl ?_
  refine J_iconst 1 dX8_readSort_152 rfl ?_
  obtain ⟨M15, e16, h⟩ := br_s h
  refine J_putiM (m0 := 0) (j := 12) rfl rfl (by decide) rfl (by decide) rfl rfl rfl kf_X8_86 e16 dX8_readSort_153 ?_
  refine J_aload_n dX8_readSort_156 rfl 0 rfl ?_
  refine J_getiM (m0 := 0) (j := 11) rfl rfl (by decide) rfl (by decide) rfl kf_X8_79 dX8_readSort_157 ?_
  refine J_bipush 70 dX8_readSort_160 rfl ?_
  refine J_icmp_eq 207 dX8_readSort_162 (by decide) (fun c30 => ?_) (fun c30 => ?_)
  · have h := br_p c30 h
    have h := Option.some.inj h
    subst h
    exact J_vret rfl rfl rfl (Kr _ rfl) dX8_readSort_207
  · have h := br_n c30 h
    refine J_aload_n dX8_readSort_165 rfl 0 rfl ?_
    refine J_getiM (m0 := 0) (j := 11) rfl rfl (by decide) rfl (by decide) rfl kf_X8_79 dX8_readSort_166 ?_
    refine J_bipush 73 dX8_readSort_169 rfl ?_
    refine J_icmp_eq 207 dX8_readSort_171 (by decide) (fun c29 => ?_) (fun c29 => ?_)
    · have h := br_p c29 h
      have h := Option.some.inj h
      subst h
      exact J_vret rfl rfl rfl (Kr _ rfl) dX8_readSort_207
    · have h := br_n c29 h
      refine J_aload_n dX8_readSort_174 rfl 0 rfl ?_
      refine J_bipush 40 dX8_readSort_175 rfl ?_
      obtain ⟨r18, h17, h⟩ := br_b h
      refine J_callV (mj := mi_X8_isHere) (as := [.int ((40 : Int32))]) (rest := []) (ct_X8_isHere (C := C)  h17) ⟨rfl, rfl⟩ rfl rfl (by decide) rfl cg_X8_71 hd_X8_isHere rfl ⟨Nat.le_of_ble_eq_true rfl, Nat.le_of_ble_eq_true rfl⟩ (Nat.le_of_ble_eq_true rfl) ⟨Nat.zero_le _, Nat.zero_le _⟩ dX8_readSort_177 ?_
      refine J_if_eq 207 dX8_readSort_180 (by decide) (fun c28 => ?_) (fun c28 => ?_)
      · have h := br_p c28 h
        have h := Option.some.inj h
        subst h
        exact J_vret rfl rfl rfl (Kr _ rfl) dX8_readSort_207
      · have h := br_n c28 h
        refine J_aload_n dX8_readSort_183 rfl 0 rfl ?_
        refine J_dup dX8_readSort_184 rfl ?_
        refine J_getiM (m0 := 0) (j := 9) rfl rfl (by decide) rfl (by decide) rfl kf_X8_68 dX8_readSort_185 ?_
        refine J_iconst 1 dX8_readSort_188 rfl ?_
        refine J_iadd dX8_readSort_189 ?_
        obtain ⟨M19, e20, h⟩ := br_s h
        refine J_putiM (m0 := 0) (j := 9) rfl rfl (by decide) rfl (by decide) rfl rfl rfl kf_X8_68 e20 dX8_readSort_190 ?_
        refine J_aload_n dX8_readSort_193 rfl 0 rfl ?_
        refine J_aload_n dX8_readSort_194 rfl 0 rfl ?_
        obtain ⟨r22, M23, h21, h⟩ := br_b2 h
        refine J_callV (mj := mi_X8_number) (as := []) (rest := [.ref (94)]) (ct_X8_number (C := C)  h21) ⟨rfl, rfl⟩ rfl rfl (by decide) rfl cg_X8_89 hd_X8_number rfl ⟨Nat.le_of_ble_eq_true rfl, Nat.le_of_ble_eq_true rfl⟩ (Nat.le_of_ble_eq_true rfl) ⟨Nat.zero_le _, Nat.zero_le _⟩ dX8_readSort_195 ?_
        obtain ⟨M24, e25, h⟩ := br_s h
        refine J_putiM (m0 := 0) (j := 12) rfl rfl (by decide) rfl (by decide) rfl rfl rfl kf_X8_86 e25 dX8_readSort_198 ?_
        refine J_aload_n dX8_readSort_201 rfl 0 rfl ?_
        refine J_bipush 41 dX8_readSort_202 rfl ?_
        obtain ⟨M27, h26, h⟩ := br_b h
        refine J_callV (mj := mi_X8_need) (as := [.int ((41 : Int32))]) (rest := []) (ct_X8_need (C := C)  h26) ⟨rfl, rfl⟩ rfl rfl (by decide) rfl cg_X8_82 hd_X8_need rfl ⟨Nat.le_of_ble_eq_true rfl, Nat.le_of_ble_eq_true rfl⟩ (Nat.le_of_ble_eq_true rfl) ⟨Nat.zero_le _, Nat.zero_le _⟩ dX8_readSort_204 ?_
        have h := Option.some.inj h
        subst h
        exact J_vret rfl rfl rfl (Kr _ rfl) dX8_readSort_207
def g_X8_readSort_58 (t0 : Int32) (t1 : Int32) (M : aMm) : Option (aMm) :=
  (some (m_pi M 0 9 (t1 + t0))).bind fun M49 => g_X8_readSort_151  M49
set_option maxRecDepth 100000 in
set_option maxHeartbeats 4000000 in
theorem jb_X8_readSort_58 {t0 : Int32} {t1 : Int32} {M : aMm} {C : aSc}  {res : aRes} {r : aMm} (h : g_X8_readSort_58 t0 t1 M = some r) (Kr : ∀ (S' : aMm), r = S' → res = (none, (C, S'))) : J mi_X8_readSort res 0 0 58 [(0, .ref (94))] [.int (t0), .int (t1), .ref (94)] (C, M) := by
  rw [g_X8_readSort_58] at h
  refine J_iadd dX8_readSort_58 ?_
  obtain ⟨M49, e50, h⟩ := br_s h
  refine J_putiM (m0 := 0) (j := 9) rfl rfl (by decide) rfl (by decide) rfl rfl rfl kf_X8_68 e50 dX8_readSort_59 ?_
  refine J_goto 151 dX8_readSort_62 (by decide) ?_
  exact jb_X8_readSort_151  h Kr
def g_X8_readSort_36 (t0 : Int32) (M : aMm) : Option (aMm) :=
  (some (m_pi M 0 11 t0)).bind fun M47 => if ((m_gi M47 0 11) : Int32) = (108 : Int32) then g_X8_readSort_58 ((1 : Int32)) ((m_gi M47 0 9)) M47 else g_X8_readSort_58 ((0 : Int32)) ((m_gi M47 0 9)) M47
set_option maxRecDepth 100000 in
set_option maxHeartbeats 4000000 in
theorem jb_X8_readSort_36 {t0 : Int32} {M : aMm} {C : aSc}  {res : aRes} {r : aMm} (h : g_X8_readSort_36 t0 M = some r) (Kr : ∀ (S' : aMm), r = S' → res = (none, (C, S'))) : J mi_X8_readSort res 0 0 36 [(0, .ref (94))] [.int (t0), .ref (94)] (C, M) := by
  rw [g_X8_readSort_36] at h
  obtain ⟨M47, e48, h⟩ := br_s h
  refine J_putiM (m0 := 0) (j := 11) rfl rfl (by decide) rfl (by decide) rfl rfl rfl kf_X8_79 e48 dX8_readSort_36 ?_
  refine J_aload_n dX8_readSort_39 rfl 0 rfl ?_
  refine J_dup dX8_readSort_40 rfl ?_
  refine J_getiM (m0 := 0) (j := 9) rfl rfl (by decide) rfl (by decide) rfl kf_X8_68 dX8_readSort_41 ?_
  refine J_aload_n dX8_readSort_44 rfl 0 rfl ?_
  refine J_getiM (m0 := 0) (j := 11) rfl rfl (by decide) rfl (by decide) rfl kf_X8_79 dX8_readSort_45 ?_
  refine J_bipush 108 dX8_readSort_48 rfl ?_
  refine J_icmp_ne 57 dX8_readSort_50 (by decide) (fun c51 => ?_) (fun c51 => ?_)
  · have h := br_n c51 h
    refine J_iconst 0 dX8_readSort_57 rfl ?_
    exact jb_X8_readSort_58  h Kr
  · have h := br_p c51 h
    refine J_iconst 1 dX8_readSort_53 rfl ?_
    refine J_goto 58 dX8_readSort_54 (by decide) ?_
    exact jb_X8_readSort_58  h Kr
def f_X8_readSort  (M : aMm) : Option (aMm) :=
  (f_X8_isHere (70 : Int32) M).bind fun r2 => if (r2 : Int32) = 0 then (f_X8_isHere (79 : Int32) M).bind fun r4 => if (r4 : Int32) = 0 then (f_X8_isHere (81 : Int32) M).bind fun r6 => if (r6 : Int32) = 0 then (f_X8_need (73 : Int32) M).bind fun M8 => (f_X8_need (115 : Int32) M8).bind fun M10 => (f_X8_need (111 : Int32) M10).bind fun M12 => (some (m_pi M12 0 11 (73 : Int32))).bind fun M13 => g_X8_readSort_151  M13 else (some (m_pi M 0 9 ((m_gi M 0 9) + (1 : Int32)))).bind fun M31 => (some (m_pi M31 0 11 (81 : Int32))).bind fun M33 => g_X8_readSort_151  M33 else (some (m_pi M 0 9 ((m_gi M 0 9) + (1 : Int32)))).bind fun M36 => (f_X8_need (99 : Int32) M36).bind fun M39 => (some (m_pi M39 0 11 (79 : Int32))).bind fun M40 => g_X8_readSort_151  M40 else (some (m_pi M 0 9 ((m_gi M 0 9) + (1 : Int32)))).bind fun M43 => (f_X8_isHere (108 : Int32) M43).bind fun r46 => if (r46 : Int32) = 0 then g_X8_readSort_36 ((70 : Int32)) M43 else g_X8_readSort_36 ((108 : Int32)) M43
set_option maxRecDepth 100000 in
set_option maxHeartbeats 4000000 in
theorem jm_X8_readSort  {C : aSc} {M : aMm}  {res : aRes} {r : aMm} (h : f_X8_readSort  M = some r) (Kr : ∀ (S' : aMm), r = S' → res = (none, (C, S'))) : J mi_X8_readSort res 0 0 0 [(0, .ref (94))] [] (C, M) := by
  rw [f_X8_readSort] at h
  refine J_aload_n dX8_readSort_0 rfl 0 rfl ?_
  refine J_bipush 70 dX8_readSort_1 rfl ?_
  obtain ⟨r2, h1, h⟩ := br_b h
  refine J_callV (mj := mi_X8_isHere) (as := [.int ((70 : Int32))]) (rest := []) (ct_X8_isHere (C := C)  h1) ⟨rfl, rfl⟩ rfl rfl (by decide) rfl cg_X8_71 hd_X8_isHere rfl ⟨Nat.le_of_ble_eq_true rfl, Nat.le_of_ble_eq_true rfl⟩ (Nat.le_of_ble_eq_true rfl) ⟨Nat.zero_le _, Nat.zero_le _⟩ dX8_readSort_3 ?_
  refine J_if_eq 65 dX8_readSort_6 (by decide) (fun c53 => ?_) (fun c53 => ?_)
  · have h := br_p c53 h
    refine J_aload_n dX8_readSort_65 rfl 0 rfl ?_
    refine J_bipush 79 dX8_readSort_66 rfl ?_
    obtain ⟨r4, h3, h⟩ := br_b h
    refine J_callV (mj := mi_X8_isHere) (as := [.int ((79 : Int32))]) (rest := []) (ct_X8_isHere (C := C)  h3) ⟨rfl, rfl⟩ rfl rfl (by decide) rfl cg_X8_71 hd_X8_isHere rfl ⟨Nat.le_of_ble_eq_true rfl, Nat.le_of_ble_eq_true rfl⟩ (Nat.le_of_ble_eq_true rfl) ⟨Nat.zero_le _, Nat.zero_le _⟩ dX8_readSort_68 ?_
    refine J_if_eq 99 dX8_readSort_71 (by decide) (fun c42 => ?_) (fun c42 => ?_)
    · have h := br_p c42 h
      refine J_aload_n dX8_readSort_99 rfl 0 rfl ?_
      refine J_bipush 81 dX8_readSort_100 rfl ?_
      obtain ⟨r6, h5, h⟩ := br_b h
      refine J_callV (mj := mi_X8_isHere) (as := [.int ((81 : Int32))]) (rest := []) (ct_X8_isHere (C := C)  h5) ⟨rfl, rfl⟩ rfl rfl (by decide) rfl cg_X8_71 hd_X8_isHere rfl ⟨Nat.le_of_ble_eq_true rfl, Nat.le_of_ble_eq_true rfl⟩ (Nat.le_of_ble_eq_true rfl) ⟨Nat.zero_le _, Nat.zero_le _⟩ dX8_readSort_102 ?_
      refine J_if_eq 127 dX8_readSort_105 (by decide) (fun c35 => ?_) (fun c35 => ?_)
      · have h := br_p c35 h
        refine J_aload_n dX8_readSort_127 rfl 0 rfl ?_
        refine J_bipush 73 dX8_readSort_128 rfl ?_
        obtain ⟨M8, h7, h⟩ := br_b h
        refine J_callV (mj := mi_X8_need) (as := [.int ((73 : Int32))]) (rest := []) (ct_X8_need (C := C)  h7) ⟨rfl, rfl⟩ rfl rfl (by decide) rfl cg_X8_82 hd_X8_need rfl ⟨Nat.le_of_ble_eq_true rfl, Nat.le_of_ble_eq_true rfl⟩ (Nat.le_of_ble_eq_true rfl) ⟨Nat.zero_le _, Nat.zero_le _⟩ dX8_readSort_130 ?_
        refine J_aload_n dX8_readSort_133 rfl 0 rfl ?_
        refine J_bipush 115 dX8_readSort_134 rfl ?_
        obtain ⟨M10, h9, h⟩ := br_b h
        refine J_callV (mj := mi_X8_need) (as := [.int ((115 : Int32))]) (rest := []) (ct_X8_need (C := C)  h9) ⟨rfl, rfl⟩ rfl rfl (by decide) rfl cg_X8_82 hd_X8_need rfl ⟨Nat.le_of_ble_eq_true rfl, Nat.le_of_ble_eq_true rfl⟩ (Nat.le_of_ble_eq_true rfl) ⟨Nat.zero_le _, Nat.zero_le _⟩ dX8_readSort_136 ?_
        refine J_aload_n dX8_readSort_139 rfl 0 rfl ?_
        refine J_bipush 111 dX8_readSort_140 rfl ?_
        obtain ⟨M12, h11, h⟩ := br_b h
        refine J_callV (mj := mi_X8_need) (as := [.int ((111 : Int32))]) (rest := []) (ct_X8_need (C := C)  h11) ⟨rfl, rfl⟩ rfl rfl (by decide) rfl cg_X8_82 hd_X8_need rfl ⟨Nat.le_of_ble_eq_true rfl, Nat.le_of_ble_eq_true rfl⟩ (Nat.le_of_ble_eq_true rfl) ⟨Nat.zero_le _, Nat.zero_le _⟩ dX8_readSort_142 ?_
        refine J_aload_n dX8_readSort_145 rfl 0 rfl ?_
        refine J_bipush 73 dX8_readSort_146 rfl ?_
        obtain ⟨M13, e14, h⟩ := br_s h
        refine J_putiM (m0 := 0) (j := 11) rfl rfl (by decide) rfl (by decide) rfl rfl rfl kf_X8_79 e14 dX8_readSort_148 ?_
        exact jb_X8_readSort_151  h Kr
      · have h := br_n c35 h
        refine J_aload_n dX8_readSort_108 rfl 0 rfl ?_
        refine J_dup dX8_readSort_109 rfl ?_
        refine J_getiM (m0 := 0) (j := 9) rfl rfl (by decide) rfl (by decide) rfl kf_X8_68 dX8_readSort_110 ?_
        refine J_iconst 1 dX8_readSort_113 rfl ?_
        refine J_iadd dX8_readSort_114 ?_
        obtain ⟨M31, e32, h⟩ := br_s h
        refine J_putiM (m0 := 0) (j := 9) rfl rfl (by decide) rfl (by decide) rfl rfl rfl kf_X8_68 e32 dX8_readSort_115 ?_
        refine J_aload_n dX8_readSort_118 rfl 0 rfl ?_
        refine J_bipush 81 dX8_readSort_119 rfl ?_
        obtain ⟨M33, e34, h⟩ := br_s h
        refine J_putiM (m0 := 0) (j := 11) rfl rfl (by decide) rfl (by decide) rfl rfl rfl kf_X8_79 e34 dX8_readSort_121 ?_
        refine J_goto 151 dX8_readSort_124 (by decide) ?_
        exact jb_X8_readSort_151  h Kr
    · have h := br_n c42 h
      refine J_aload_n dX8_readSort_74 rfl 0 rfl ?_
      refine J_dup dX8_readSort_75 rfl ?_
      refine J_getiM (m0 := 0) (j := 9) rfl rfl (by decide) rfl (by decide) rfl kf_X8_68 dX8_readSort_76 ?_
      refine J_iconst 1 dX8_readSort_79 rfl ?_
      refine J_iadd dX8_readSort_80 ?_
      obtain ⟨M36, e37, h⟩ := br_s h
      refine J_putiM (m0 := 0) (j := 9) rfl rfl (by decide) rfl (by decide) rfl rfl rfl kf_X8_68 e37 dX8_readSort_81 ?_
      refine J_aload_n dX8_readSort_84 rfl 0 rfl ?_
      refine J_bipush 99 dX8_readSort_85 rfl ?_
      obtain ⟨M39, h38, h⟩ := br_b h
      refine J_callV (mj := mi_X8_need) (as := [.int ((99 : Int32))]) (rest := []) (ct_X8_need (C := C)  h38) ⟨rfl, rfl⟩ rfl rfl (by decide) rfl cg_X8_82 hd_X8_need rfl ⟨Nat.le_of_ble_eq_true rfl, Nat.le_of_ble_eq_true rfl⟩ (Nat.le_of_ble_eq_true rfl) ⟨Nat.zero_le _, Nat.zero_le _⟩ dX8_readSort_87 ?_
      refine J_aload_n dX8_readSort_90 rfl 0 rfl ?_
      refine J_bipush 79 dX8_readSort_91 rfl ?_
      obtain ⟨M40, e41, h⟩ := br_s h
      refine J_putiM (m0 := 0) (j := 11) rfl rfl (by decide) rfl (by decide) rfl rfl rfl kf_X8_79 e41 dX8_readSort_93 ?_
      refine J_goto 151 dX8_readSort_96 (by decide) ?_
      exact jb_X8_readSort_151  h Kr
  · have h := br_n c53 h
    refine J_aload_n dX8_readSort_9 rfl 0 rfl ?_
    refine J_dup dX8_readSort_10 rfl ?_
    refine J_getiM (m0 := 0) (j := 9) rfl rfl (by decide) rfl (by decide) rfl kf_X8_68 dX8_readSort_11 ?_
    refine J_iconst 1 dX8_readSort_14 rfl ?_
    refine J_iadd dX8_readSort_15 ?_
    obtain ⟨M43, e44, h⟩ := br_s h
    refine J_putiM (m0 := 0) (j := 9) rfl rfl (by decide) rfl (by decide) rfl rfl rfl kf_X8_68 e44 dX8_readSort_16 ?_
    refine J_aload_n dX8_readSort_19 rfl 0 rfl ?_
    refine J_aload_n dX8_readSort_20 rfl 0 rfl ?_
    refine J_bipush 108 dX8_readSort_21 rfl ?_
    obtain ⟨r46, h45, h⟩ := br_b h
    refine J_callV (mj := mi_X8_isHere) (as := [.int ((108 : Int32))]) (rest := [.ref (94)]) (ct_X8_isHere (C := C)  h45) ⟨rfl, rfl⟩ rfl rfl (by decide) rfl cg_X8_71 hd_X8_isHere rfl ⟨Nat.le_of_ble_eq_true rfl, Nat.le_of_ble_eq_true rfl⟩ (Nat.le_of_ble_eq_true rfl) ⟨Nat.zero_le _, Nat.zero_le _⟩ dX8_readSort_23 ?_
    refine J_if_eq 34 dX8_readSort_26 (by decide) (fun c52 => ?_) (fun c52 => ?_)
    · have h := br_p c52 h
      refine J_bipush 70 dX8_readSort_34 rfl ?_
      exact jb_X8_readSort_36  h Kr
    · have h := br_n c52 h
      refine J_bipush 108 dX8_readSort_29 rfl ?_
      refine J_goto 36 dX8_readSort_31 (by decide) ?_
      exact jb_X8_readSort_36  h Kr
theorem ct_X8_readSort  {C : aSc} {M : aMm} {S' : aMm}  (h : f_X8_readSort  M = some S') : Ct mi_X8_readSort yX8_readSort [.ref (94)] (C, M) (none, (C, S')) := Ct_of_J (by decide +kernel) rfl (Nat.le_of_ble_eq_true rfl) (jm_X8_readSort  h (fun _ e => by cases e; rfl))
def mi_X8_goesIn : aMi := (cX8_goesIn, 1, RX8, (some .boolean), { frames := 1, cells := 0, slots := 0, locals := 22 })
def f_X8_goesIn  (M : aMm) : Option (Int32) :=
  if ((m_gi M 0 11) : Int32) = 70 then some (1 : Int32) else if ((m_gi M 0 11) : Int32) = 73 then (f_X8_within (m_gi M 0 14) (1 : Int32) (30 : Int32) M).bind fun r4 => if (r4 : Int32) = 0 then some (0 : Int32) else if (((m_gi M 0 14) - (m_gi M 0 14) / (2 : Int32) * (2 : Int32)) : Int32) = 0 then some (1 : Int32) else some (0 : Int32) else (f_X8_within (m_gi M 0 14) (1 : Int32) (30 : Int32) M).bind fun r8 => if (r8 : Int32) = 0 then some (0 : Int32) else (f_X8_within (m_gi M 0 12) (1 : Int32) (15 : Int32) M).bind fun r10 => if (r10 : Int32) = 0 then some (0 : Int32) else if ((m_gi M 0 11) : Int32) = (81 : Int32) then if ((m_gi M 0 14) : Int32) < (((2 : Int32) * (m_gi M 0 12)) + (1 : Int32)) then some (0 : Int32) else some (1 : Int32) else if ((m_gi M 0 14) : Int32) < (((2 : Int32) * (m_gi M 0 12)) + (0 : Int32)) then some (0 : Int32) else some (1 : Int32)
set_option maxRecDepth 100000 in
set_option maxHeartbeats 4000000 in
theorem jm_X8_goesIn  {C : aSc} {M : aMm}  {res : aRes} {r : Int32} (h : f_X8_goesIn  M = some r) (Kr : ∀ (v : Int32), r = v → res = (some (.int v), (C, M))) : J mi_X8_goesIn res 0 0 0 [(0, .ref (94))] [] (C, M) := by
  rw [f_X8_goesIn] at h
  refine J_aload_n dX8_goesIn_0 rfl 0 rfl ?_
  refine J_getiM (m0 := 0) (j := 11) rfl rfl (by decide) rfl (by decide) rfl kf_X8_79 dX8_goesIn_1 ?_
  by_cases c1 : ((m_gi M 0 11) : Int32) = 70
  · have h := br_p c1 h
    refine J_lsw 32 dX8_goesIn_4 (by decide) (by rw [c1]; decide) ?_
    refine J_iconst 1 dX8_goesIn_32 rfl ?_
    have h := Option.some.inj h
    subst h
    exact J_zret (Or.inr rfl) rfl rfl rfl (Kr _ rfl) dX8_goesIn_33
  · have h := br_n c1 h
    by_cases c2 : ((m_gi M 0 11) : Int32) = 73
    · have h := br_p c2 h
      refine J_lsw 34 dX8_goesIn_4 (by decide) (by rw [c2]; decide) ?_
      refine J_aload_n dX8_goesIn_34 rfl 0 rfl ?_
      refine J_getiM (m0 := 0) (j := 14) rfl rfl (by decide) rfl (by decide) rfl kf_X8_93 dX8_goesIn_35 ?_
      refine J_iconst 1 dX8_goesIn_38 rfl ?_
      refine J_bipush 30 dX8_goesIn_39 rfl ?_
      obtain ⟨r4, h3, h⟩ := br_b h
      refine J_callS (mj := mi_X8_within) (as := [.int ((m_gi M 0 14)), .int ((1 : Int32)), .int ((30 : Int32))]) (rest := []) (ct_X8_within (C := C)  h3) ⟨rfl, rfl⟩ rfl cg_X8_41 hd_X8_within rfl ⟨Nat.le_of_ble_eq_true rfl, Nat.le_of_ble_eq_true rfl⟩ (Nat.le_of_ble_eq_true rfl) ⟨Nat.zero_le _, Nat.zero_le _⟩ dX8_goesIn_41 ?_
      refine J_if_eq 60 dX8_goesIn_44 (by decide) (fun c6 => ?_) (fun c6 => ?_)
      · have h := br_p c6 h
        refine J_iconst 0 dX8_goesIn_60 rfl ?_
        have h := Option.some.inj h
        subst h
        exact J_zret (Or.inl rfl) rfl rfl rfl (Kr _ rfl) dX8_goesIn_61
      · have h := br_n c6 h
        refine J_aload_n dX8_goesIn_47 rfl 0 rfl ?_
        refine J_getiM (m0 := 0) (j := 14) rfl rfl (by decide) rfl (by decide) rfl kf_X8_93 dX8_goesIn_48 ?_
        refine J_iconst 2 dX8_goesIn_51 rfl ?_
        refine J_irem dX8_goesIn_52 (by decide) ?_
        refine J_if_ne 60 dX8_goesIn_53 (by decide) (fun c5 => ?_) (fun c5 => ?_)
        · have h := br_n c5 h
          refine J_iconst 0 dX8_goesIn_60 rfl ?_
          have h := Option.some.inj h
          subst h
          exact J_zret (Or.inl rfl) rfl rfl rfl (Kr _ rfl) dX8_goesIn_61
        · have h := br_p c5 h
          refine J_iconst 1 dX8_goesIn_56 rfl ?_
          refine J_goto 61 dX8_goesIn_57 (by decide) ?_
          have h := Option.some.inj h
          subst h
          exact J_zret (Or.inr rfl) rfl rfl rfl (Kr _ rfl) dX8_goesIn_61
    · have h := br_n c2 h
      refine J_lsw 62 dX8_goesIn_4 (by decide) (by show (_ : Int) + Op.lookupswitch.offset [(70, 28), (73, 30)] 58 _ = _; rw [lv_osw (a := 70) c1 rfl, lv_osw (a := 73) c2 rfl]; rfl) ?_
      refine J_aload_n dX8_goesIn_62 rfl 0 rfl ?_
      refine J_getiM (m0 := 0) (j := 14) rfl rfl (by decide) rfl (by decide) rfl kf_X8_93 dX8_goesIn_63 ?_
      refine J_iconst 1 dX8_goesIn_66 rfl ?_
      refine J_bipush 30 dX8_goesIn_67 rfl ?_
      obtain ⟨r8, h7, h⟩ := br_b h
      refine J_callS (mj := mi_X8_within) (as := [.int ((m_gi M 0 14)), .int ((1 : Int32)), .int ((30 : Int32))]) (rest := []) (ct_X8_within (C := C)  h7) ⟨rfl, rfl⟩ rfl cg_X8_41 hd_X8_within rfl ⟨Nat.le_of_ble_eq_true rfl, Nat.le_of_ble_eq_true rfl⟩ (Nat.le_of_ble_eq_true rfl) ⟨Nat.zero_le _, Nat.zero_le _⟩ dX8_goesIn_69 ?_
      refine J_if_eq 120 dX8_goesIn_72 (by decide) (fun c15 => ?_) (fun c15 => ?_)
      · have h := br_p c15 h
        refine J_iconst 0 dX8_goesIn_120 rfl ?_
        have h := Option.some.inj h
        subst h
        exact J_zret (Or.inl rfl) rfl rfl rfl (Kr _ rfl) dX8_goesIn_121
      · have h := br_n c15 h
        refine J_aload_n dX8_goesIn_75 rfl 0 rfl ?_
        refine J_getiM (m0 := 0) (j := 12) rfl rfl (by decide) rfl (by decide) rfl kf_X8_86 dX8_goesIn_76 ?_
        refine J_iconst 1 dX8_goesIn_79 rfl ?_
        refine J_bipush 15 dX8_goesIn_80 rfl ?_
        obtain ⟨r10, h9, h⟩ := br_b h
        refine J_callS (mj := mi_X8_within) (as := [.int ((m_gi M 0 12)), .int ((1 : Int32)), .int ((15 : Int32))]) (rest := []) (ct_X8_within (C := C)  h9) ⟨rfl, rfl⟩ rfl cg_X8_41 hd_X8_within rfl ⟨Nat.le_of_ble_eq_true rfl, Nat.le_of_ble_eq_true rfl⟩ (Nat.le_of_ble_eq_true rfl) ⟨Nat.zero_le _, Nat.zero_le _⟩ dX8_goesIn_82 ?_
        refine J_if_eq 120 dX8_goesIn_85 (by decide) (fun c14 => ?_) (fun c14 => ?_)
        · have h := br_p c14 h
          refine J_iconst 0 dX8_goesIn_120 rfl ?_
          have h := Option.some.inj h
          subst h
          exact J_zret (Or.inl rfl) rfl rfl rfl (Kr _ rfl) dX8_goesIn_121
        · have h := br_n c14 h
          refine J_iconst 2 dX8_goesIn_88 rfl ?_
          refine J_aload_n dX8_goesIn_89 rfl 0 rfl ?_
          refine J_getiM (m0 := 0) (j := 12) rfl rfl (by decide) rfl (by decide) rfl kf_X8_86 dX8_goesIn_90 ?_
          refine J_imul dX8_goesIn_93 ?_
          refine J_aload_n dX8_goesIn_94 rfl 0 rfl ?_
          refine J_getiM (m0 := 0) (j := 11) rfl rfl (by decide) rfl (by decide) rfl kf_X8_79 dX8_goesIn_95 ?_
          refine J_bipush 81 dX8_goesIn_98 rfl ?_
          refine J_icmp_ne 107 dX8_goesIn_100 (by decide) (fun c13 => ?_) (fun c13 => ?_)
          · have h := br_n c13 h
            refine J_iconst 0 dX8_goesIn_107 rfl ?_
            refine J_iadd dX8_goesIn_108 ?_
            refine J_aload_n dX8_goesIn_109 rfl 0 rfl ?_
            refine J_getiM (m0 := 0) (j := 14) rfl rfl (by decide) rfl (by decide) rfl kf_X8_93 dX8_goesIn_110 ?_
            refine J_icmp_gt 120 dX8_goesIn_113 (by decide) (fun c11 => ?_) (fun c11 => ?_)
            · have h := br_p c11 h
              refine J_iconst 0 dX8_goesIn_120 rfl ?_
              have h := Option.some.inj h
              subst h
              exact J_zret (Or.inl rfl) rfl rfl rfl (Kr _ rfl) dX8_goesIn_121
            · have h := br_n c11 h
              refine J_iconst 1 dX8_goesIn_116 rfl ?_
              refine J_goto 121 dX8_goesIn_117 (by decide) ?_
              have h := Option.some.inj h
              subst h
              exact J_zret (Or.inr rfl) rfl rfl rfl (Kr _ rfl) dX8_goesIn_121
          · have h := br_p c13 h
            refine J_iconst 1 dX8_goesIn_103 rfl ?_
            refine J_goto 108 dX8_goesIn_104 (by decide) ?_
            refine J_iadd dX8_goesIn_108 ?_
            refine J_aload_n dX8_goesIn_109 rfl 0 rfl ?_
            refine J_getiM (m0 := 0) (j := 14) rfl rfl (by decide) rfl (by decide) rfl kf_X8_93 dX8_goesIn_110 ?_
            refine J_icmp_gt 120 dX8_goesIn_113 (by decide) (fun c12 => ?_) (fun c12 => ?_)
            · have h := br_p c12 h
              refine J_iconst 0 dX8_goesIn_120 rfl ?_
              have h := Option.some.inj h
              subst h
              exact J_zret (Or.inl rfl) rfl rfl rfl (Kr _ rfl) dX8_goesIn_121
            · have h := br_n c12 h
              refine J_iconst 1 dX8_goesIn_116 rfl ?_
              refine J_goto 121 dX8_goesIn_117 (by decide) ?_
              have h := Option.some.inj h
              subst h
              exact J_zret (Or.inr rfl) rfl rfl rfl (Kr _ rfl) dX8_goesIn_121
theorem ct_X8_goesIn  {C : aSc} {M : aMm} {v : Int32}  (h : f_X8_goesIn  M = some v) : Ct mi_X8_goesIn yX8_goesIn [.ref (94)] (C, M) (some (.int v), (C, M)) := Ct_of_J (by decide +kernel) rfl (Nat.le_of_ble_eq_true rfl) (jm_X8_goesIn  h (fun _ e => by cases e; rfl))
def mi_X8_faultOf : aMi := (cX8_faultOf, 1, RX8, (some .int), { frames := 4, cells := 0, slots := 0, locals := 84 })
def g_X8_faultOf_143 (t0 : Int32) (M : aMm) : Option (Int32 × aMm) :=
  if t0 = 0 ∨ t0 = 1 then (some (m_pi M 0 10 t0)).bind fun M17 => if ((m_gi M17 0 10) : Int32) = 0 then (f_X8_goesIn  M17).bind fun r21 => if (r21 : Int32) = 0 then some ((m_gi M17 0 15), M17) else some ((-1 : Int32), M17) else some ((m_gi M17 0 9), M17) else none
set_option maxRecDepth 100000 in
set_option maxHeartbeats 4000000 in
theorem jb_X8_faultOf_143 {t0 : Int32} {M : aMm} {C : aSc}  {res : aRes} {r : Int32 × aMm} (h : g_X8_faultOf_143 t0 M = some r) (Kr : ∀ (v : Int32) (S' : aMm), r = (v, S') → res = (some (.int v), (C, S'))) : J mi_X8_faultOf res 0 0 143 [(0, .ref (94))] [.int (t0), .ref (94)] (C, M) := by
  rw [g_X8_faultOf_143] at h
  obtain ⟨n19, h⟩ := br_g h
  obtain ⟨M17, e18, h⟩ := br_s h
  refine J_putzM (m0 := 0) (j := 10) n19 rfl rfl (by decide) rfl (by decide) rfl rfl rfl kf_X8_64 e18 dX8_faultOf_143 ?_
  refine J_aload_n dX8_faultOf_146 rfl 0 rfl ?_
  refine J_getiM (m0 := 0) (j := 10) rfl rfl (by decide) rfl (by decide) rfl kf_X8_64 dX8_faultOf_147 ?_
  refine J_if_eq 160 dX8_faultOf_150 (by decide) (fun c23 => ?_) (fun c23 => ?_)
  · have h := br_p c23 h
    refine J_aload_n dX8_faultOf_160 rfl 0 rfl ?_
    obtain ⟨r21, h20, h⟩ := br_b h
    refine J_callV (mj := mi_X8_goesIn) (as := []) (rest := []) (ct_X8_goesIn (C := C)  h20) ⟨rfl, rfl⟩ rfl rfl (by decide) rfl cg_X8_105 hd_X8_goesIn rfl ⟨Nat.le_of_ble_eq_true rfl, Nat.le_of_ble_eq_true rfl⟩ (Nat.le_of_ble_eq_true rfl) ⟨Nat.zero_le _, Nat.zero_le _⟩ dX8_faultOf_161 ?_
    refine J_if_eq 171 dX8_faultOf_164 (by decide) (fun c22 => ?_) (fun c22 => ?_)
    · have h := br_p c22 h
      refine J_aload_n dX8_faultOf_171 rfl 0 rfl ?_
      refine J_getiM (m0 := 0) (j := 15) rfl rfl (by decide) rfl (by decide) rfl kf_X8_102 dX8_faultOf_172 ?_
      have h := Option.some.inj h
      subst h
      exact J_iret rfl rfl rfl (Kr _ _ rfl) dX8_faultOf_175
    · have h := br_n c22 h
      refine J_iconst (-1) dX8_faultOf_167 rfl ?_
      refine J_goto 175 dX8_faultOf_168 (by decide) ?_
      have h := Option.some.inj h
      subst h
      exact J_iret rfl rfl rfl (Kr _ _ rfl) dX8_faultOf_175
  · have h := br_n c23 h
    refine J_aload_n dX8_faultOf_153 rfl 0 rfl ?_
    refine J_getiM (m0 := 0) (j := 9) rfl rfl (by decide) rfl (by decide) rfl kf_X8_68 dX8_faultOf_154 ?_
    refine J_goto 175 dX8_faultOf_157 (by decide) ?_
    have h := Option.some.inj h
    subst h
    exact J_iret rfl rfl rfl (Kr _ _ rfl) dX8_faultOf_175
def g_X8_faultOf_138  (M : aMm) : Option (Int32 × aMm) :=
  g_X8_faultOf_143 ((1 : Int32)) M
set_option maxRecDepth 100000 in
set_option maxHeartbeats 4000000 in
theorem jb_X8_faultOf_138  {M : aMm} {C : aSc}  {res : aRes} {r : Int32 × aMm} (h : g_X8_faultOf_138  M = some r) (Kr : ∀ (v : Int32) (S' : aMm), r = (v, S') → res = (some (.int v), (C, S'))) : J mi_X8_faultOf res 0 0 138 [(0, .ref (94))] [.ref (94)] (C, M) := by
  rw [g_X8_faultOf_138] at h
  refine J_iconst 1 dX8_faultOf_138 rfl ?_
  refine J_goto 143 dX8_faultOf_139 (by decide) ?_
  exact jb_X8_faultOf_143  h Kr
def g_X8_faultOf_119  (M : aMm) : Option (Int32 × aMm) :=
  if ((m_gi M 0 10) : Int32) = 0 then if ((m_gi M 0 5) : Int32) ≤ (m_gi M 0 9) then g_X8_faultOf_143 ((0 : Int32)) M else g_X8_faultOf_138  M else g_X8_faultOf_138  M
set_option maxRecDepth 100000 in
set_option maxHeartbeats 4000000 in
theorem jb_X8_faultOf_119  {M : aMm} {C : aSc}  {res : aRes} {r : Int32 × aMm} (h : g_X8_faultOf_119  M = some r) (Kr : ∀ (v : Int32) (S' : aMm), r = (v, S') → res = (some (.int v), (C, S'))) : J mi_X8_faultOf res 0 0 119 [(0, .ref (94))] [] (C, M) := by
  rw [g_X8_faultOf_119] at h
  refine J_aload_n dX8_faultOf_119 rfl 0 rfl ?_
  refine J_aload_n dX8_faultOf_120 rfl 0 rfl ?_
  refine J_getiM (m0 := 0) (j := 10) rfl rfl (by decide) rfl (by decide) rfl kf_X8_64 dX8_faultOf_121 ?_
  refine J_if_ne 138 dX8_faultOf_124 (by decide) (fun c25 => ?_) (fun c25 => ?_)
  · have h := br_n c25 h
    exact jb_X8_faultOf_138  h Kr
  · have h := br_p c25 h
    refine J_aload_n dX8_faultOf_127 rfl 0 rfl ?_
    refine J_getiM (m0 := 0) (j := 9) rfl rfl (by decide) rfl (by decide) rfl kf_X8_68 dX8_faultOf_128 ?_
    refine J_aload_n dX8_faultOf_131 rfl 0 rfl ?_
    refine J_getiM (m0 := 0) (j := 5) rfl rfl (by decide) rfl (by decide) rfl kf_X8_58 dX8_faultOf_132 ?_
    refine J_icmp_ge 142 dX8_faultOf_135 (by decide) (fun c24 => ?_) (fun c24 => ?_)
    · have h := br_p c24 h
      refine J_iconst 0 dX8_faultOf_142 rfl ?_
      exact jb_X8_faultOf_143  h Kr
    · have h := br_n c24 h
      exact jb_X8_faultOf_138  h Kr
def g_X8_faultOf_73 (t0 : Int32) (M : aMm) : Option (Int32 × aMm) :=
  (f_X8_need t0 M).bind fun M14 => (some (m_pi M14 0 14 (1 : Int32))).bind fun M15 => if ((m_gi M15 0 10) : Int32) = 0 then if ((m_gi M15 0 11) : Int32) = (70 : Int32) then g_X8_faultOf_119  M15 else (some (m_pi M15 0 15 (m_gi M15 0 9))).bind fun M26 => bd2 (f_X8_number  M26) fun r29 M30 => (some (m_pi M30 0 14 r29)).bind fun M31 => (f_X8_need (115 : Int32) M31).bind fun M34 => g_X8_faultOf_119  M34 else g_X8_faultOf_119  M15
set_option maxRecDepth 100000 in
set_option maxHeartbeats 4000000 in
theorem jb_X8_faultOf_73 {t0 : Int32} {M : aMm} {C : aSc}  {res : aRes} {r : Int32 × aMm} (h : g_X8_faultOf_73 t0 M = some r) (Kr : ∀ (v : Int32) (S' : aMm), r = (v, S') → res = (some (.int v), (C, S'))) : J mi_X8_faultOf res 0 0 73 [(0, .ref (94))] [.int (t0), .ref (94)] (C, M) := by
  rw [g_X8_faultOf_73] at h
  obtain ⟨M14, h13, h⟩ := br_b h
  refine J_callV (mj := mi_X8_need) (as := [.int (t0)]) (rest := []) (ct_X8_need (C := C)  h13) ⟨rfl, rfl⟩ rfl rfl (by decide) rfl cg_X8_82 hd_X8_need rfl ⟨Nat.le_of_ble_eq_true rfl, Nat.le_of_ble_eq_true rfl⟩ (Nat.le_of_ble_eq_true rfl) ⟨Nat.zero_le _, Nat.zero_le _⟩ dX8_faultOf_73 ?_
  refine J_aload_n dX8_faultOf_76 rfl 0 rfl ?_
  refine J_iconst 1 dX8_faultOf_77 rfl ?_
  obtain ⟨M15, e16, h⟩ := br_s h
  refine J_putiM (m0 := 0) (j := 14) rfl rfl (by decide) rfl (by decide) rfl rfl rfl kf_X8_93 e16 dX8_faultOf_78 ?_
  refine J_aload_n dX8_faultOf_81 rfl 0 rfl ?_
  refine J_getiM (m0 := 0) (j := 10) rfl rfl (by decide) rfl (by decide) rfl kf_X8_64 dX8_faultOf_82 ?_
  refine J_if_ne 119 dX8_faultOf_85 (by decide) (fun c36 => ?_) (fun c36 => ?_)
  · have h := br_n c36 h
    exact jb_X8_faultOf_119  h Kr
  · have h := br_p c36 h
    refine J_aload_n dX8_faultOf_88 rfl 0 rfl ?_
    refine J_getiM (m0 := 0) (j := 11) rfl rfl (by decide) rfl (by decide) rfl kf_X8_79 dX8_faultOf_89 ?_
    refine J_bipush 70 dX8_faultOf_92 rfl ?_
    refine J_icmp_eq 119 dX8_faultOf_94 (by decide) (fun c35 => ?_) (fun c35 => ?_)
    · have h := br_p c35 h
      exact jb_X8_faultOf_119  h Kr
    · have h := br_n c35 h
      refine J_aload_n dX8_faultOf_97 rfl 0 rfl ?_
      refine J_aload_n dX8_faultOf_98 rfl 0 rfl ?_
      refine J_getiM (m0 := 0) (j := 9) rfl rfl (by decide) rfl (by decide) rfl kf_X8_68 dX8_faultOf_99 ?_
      obtain ⟨M26, e27, h⟩ := br_s h
      refine J_putiM (m0 := 0) (j := 15) rfl rfl (by decide) rfl (by decide) rfl rfl rfl kf_X8_102 e27 dX8_faultOf_102 ?_
      refine J_aload_n dX8_faultOf_105 rfl 0 rfl ?_
      refine J_aload_n dX8_faultOf_106 rfl 0 rfl ?_
      obtain ⟨r29, M30, h28, h⟩ := br_b2 h
      refine J_callV (mj := mi_X8_number) (as := []) (rest := [.ref (94)]) (ct_X8_number (C := C)  h28) ⟨rfl, rfl⟩ rfl rfl (by decide) rfl cg_X8_89 hd_X8_number rfl ⟨Nat.le_of_ble_eq_true rfl, Nat.le_of_ble_eq_true rfl⟩ (Nat.le_of_ble_eq_true rfl) ⟨Nat.zero_le _, Nat.zero_le _⟩ dX8_faultOf_107 ?_
      obtain ⟨M31, e32, h⟩ := br_s h
      refine J_putiM (m0 := 0) (j := 14) rfl rfl (by decide) rfl (by decide) rfl rfl rfl kf_X8_93 e32 dX8_faultOf_110 ?_
      refine J_aload_n dX8_faultOf_113 rfl 0 rfl ?_
      refine J_bipush 115 dX8_faultOf_114 rfl ?_
      obtain ⟨M34, h33, h⟩ := br_b h
      refine J_callV (mj := mi_X8_need) (as := [.int ((115 : Int32))]) (rest := []) (ct_X8_need (C := C)  h33) ⟨rfl, rfl⟩ rfl rfl (by decide) rfl cg_X8_82 hd_X8_need rfl ⟨Nat.le_of_ble_eq_true rfl, Nat.le_of_ble_eq_true rfl⟩ (Nat.le_of_ble_eq_true rfl) ⟨Nat.zero_le _, Nat.zero_le _⟩ dX8_faultOf_116 ?_
      exact jb_X8_faultOf_119  h Kr
def g_X8_faultOf_42 (t0 : Int32) (M : aMm) : Option (Int32 × aMm) :=
  (some (m_pi M 0 13 t0)).bind fun M11 => if ((m_gi M11 0 13) : Int32) = 0 then g_X8_faultOf_73 ((87 : Int32)) M11 else if ((m_gi M11 0 13) : Int32) = (1 : Int32) then g_X8_faultOf_73 ((82 : Int32)) M11 else g_X8_faultOf_73 ((71 : Int32)) M11
set_option maxRecDepth 100000 in
set_option maxHeartbeats 4000000 in
theorem jb_X8_faultOf_42 {t0 : Int32} {M : aMm} {C : aSc}  {res : aRes} {r : Int32 × aMm} (h : g_X8_faultOf_42 t0 M = some r) (Kr : ∀ (v : Int32) (S' : aMm), r = (v, S') → res = (some (.int v), (C, S'))) : J mi_X8_faultOf res 0 0 42 [(0, .ref (94))] [.int (t0), .ref (94)] (C, M) := by
  rw [g_X8_faultOf_42] at h
  obtain ⟨M11, e12, h⟩ := br_s h
  refine J_putiM (m0 := 0) (j := 13) rfl rfl (by decide) rfl (by decide) rfl rfl rfl kf_X8_99 e12 dX8_faultOf_42 ?_
  refine J_aload_n dX8_faultOf_45 rfl 0 rfl ?_
  refine J_aload_n dX8_faultOf_46 rfl 0 rfl ?_
  refine J_getiM (m0 := 0) (j := 13) rfl rfl (by decide) rfl (by decide) rfl kf_X8_99 dX8_faultOf_47 ?_
  refine J_if_ne 58 dX8_faultOf_50 (by decide) (fun c38 => ?_) (fun c38 => ?_)
  · have h := br_n c38 h
    refine J_aload_n dX8_faultOf_58 rfl 0 rfl ?_
    refine J_getiM (m0 := 0) (j := 13) rfl rfl (by decide) rfl (by decide) rfl kf_X8_99 dX8_faultOf_59 ?_
    refine J_iconst 1 dX8_faultOf_62 rfl ?_
    refine J_icmp_ne 71 dX8_faultOf_63 (by decide) (fun c37 => ?_) (fun c37 => ?_)
    · have h := br_n c37 h
      refine J_bipush 71 dX8_faultOf_71 rfl ?_
      exact jb_X8_faultOf_73  h Kr
    · have h := br_p c37 h
      refine J_bipush 82 dX8_faultOf_66 rfl ?_
      refine J_goto 73 dX8_faultOf_68 (by decide) ?_
      exact jb_X8_faultOf_73  h Kr
  · have h := br_p c38 h
    refine J_bipush 87 dX8_faultOf_53 rfl ?_
    refine J_goto 73 dX8_faultOf_55 (by decide) ?_
    exact jb_X8_faultOf_73  h Kr
def f_X8_faultOf  (M : aMm) : Option (Int32 × aMm) :=
  (some (m_pi M 0 9 (0 : Int32))).bind fun M1 => (some (m_pi M1 0 10 (0 : Int32))).bind fun M3 => (f_X8_readSort  M3).bind fun M6 => (f_X8_isHere (87 : Int32) M6).bind fun r8 => if (r8 : Int32) = 0 then (f_X8_isHere (82 : Int32) M6).bind fun r10 => if (r10 : Int32) = 0 then g_X8_faultOf_42 ((2 : Int32)) M6 else g_X8_faultOf_42 ((1 : Int32)) M6 else g_X8_faultOf_42 ((0 : Int32)) M6
set_option maxRecDepth 100000 in
set_option maxHeartbeats 4000000 in
theorem jm_X8_faultOf  {C : aSc} {M : aMm}  {res : aRes} {r : Int32 × aMm} (h : f_X8_faultOf  M = some r) (Kr : ∀ (v : Int32) (S' : aMm), r = (v, S') → res = (some (.int v), (C, S'))) : J mi_X8_faultOf res 0 0 0 [(0, .ref (94))] [] (C, M) := by
  rw [f_X8_faultOf] at h
  refine J_aload_n dX8_faultOf_0 rfl 0 rfl ?_
  refine J_iconst 0 dX8_faultOf_1 rfl ?_
  obtain ⟨M1, e2, h⟩ := br_s h
  refine J_putiM (m0 := 0) (j := 9) rfl rfl (by decide) rfl (by decide) rfl rfl rfl kf_X8_68 e2 dX8_faultOf_2 ?_
  refine J_aload_n dX8_faultOf_5 rfl 0 rfl ?_
  refine J_iconst 0 dX8_faultOf_6 rfl ?_
  obtain ⟨M3, e4, h⟩ := br_s h
  refine J_putzM (m0 := 0) (j := 10) (Or.inl rfl) rfl rfl (by decide) rfl (by decide) rfl rfl rfl kf_X8_64 e4 dX8_faultOf_7 ?_
  refine J_aload_n dX8_faultOf_10 rfl 0 rfl ?_
  obtain ⟨M6, h5, h⟩ := br_b h
  refine J_callV (mj := mi_X8_readSort) (as := []) (rest := []) (ct_X8_readSort (C := C)  h5) ⟨rfl, rfl⟩ rfl rfl (by decide) rfl cg_X8_96 hd_X8_readSort rfl ⟨Nat.le_of_ble_eq_true rfl, Nat.le_of_ble_eq_true rfl⟩ (Nat.le_of_ble_eq_true rfl) ⟨Nat.zero_le _, Nat.zero_le _⟩ dX8_faultOf_11 ?_
  refine J_aload_n dX8_faultOf_14 rfl 0 rfl ?_
  refine J_aload_n dX8_faultOf_15 rfl 0 rfl ?_
  refine J_bipush 87 dX8_faultOf_16 rfl ?_
  obtain ⟨r8, h7, h⟩ := br_b h
  refine J_callV (mj := mi_X8_isHere) (as := [.int ((87 : Int32))]) (rest := [.ref (94)]) (ct_X8_isHere (C := C)  h7) ⟨rfl, rfl⟩ rfl rfl (by decide) rfl cg_X8_71 hd_X8_isHere rfl ⟨Nat.le_of_ble_eq_true rfl, Nat.le_of_ble_eq_true rfl⟩ (Nat.le_of_ble_eq_true rfl) ⟨Nat.zero_le _, Nat.zero_le _⟩ dX8_faultOf_18 ?_
  refine J_if_eq 28 dX8_faultOf_21 (by decide) (fun c40 => ?_) (fun c40 => ?_)
  · have h := br_p c40 h
    refine J_aload_n dX8_faultOf_28 rfl 0 rfl ?_
    refine J_bipush 82 dX8_faultOf_29 rfl ?_
    obtain ⟨r10, h9, h⟩ := br_b h
    refine J_callV (mj := mi_X8_isHere) (as := [.int ((82 : Int32))]) (rest := [.ref (94)]) (ct_X8_isHere (C := C)  h9) ⟨rfl, rfl⟩ rfl rfl (by decide) rfl cg_X8_71 hd_X8_isHere rfl ⟨Nat.le_of_ble_eq_true rfl, Nat.le_of_ble_eq_true rfl⟩ (Nat.le_of_ble_eq_true rfl) ⟨Nat.zero_le _, Nat.zero_le _⟩ dX8_faultOf_31 ?_
    refine J_if_eq 41 dX8_faultOf_34 (by decide) (fun c39 => ?_) (fun c39 => ?_)
    · have h := br_p c39 h
      refine J_iconst 2 dX8_faultOf_41 rfl ?_
      exact jb_X8_faultOf_42  h Kr
    · have h := br_n c39 h
      refine J_iconst 1 dX8_faultOf_37 rfl ?_
      refine J_goto 42 dX8_faultOf_38 (by decide) ?_
      exact jb_X8_faultOf_42  h Kr
  · have h := br_n c40 h
    refine J_iconst 0 dX8_faultOf_24 rfl ?_
    refine J_goto 42 dX8_faultOf_25 (by decide) ?_
    exact jb_X8_faultOf_42  h Kr
theorem ct_X8_faultOf  {C : aSc} {M : aMm} {v : Int32} {S' : aMm}  (h : f_X8_faultOf  M = some (v, S')) : Ct mi_X8_faultOf yX8_faultOf [.ref (94)] (C, M) (some (.int v), (C, S')) := Ct_of_J (by decide +kernel) rfl (Nat.le_of_ble_eq_true rfl) (jm_X8_faultOf  h (fun _ _ e => by cases e; rfl))
def mi_X8_isLit : aMi := (cX8_isLit, 2, RX8, (some .boolean), { frames := 0, cells := 0, slots := 0, locals := 0 })
def f_X8_isLit (x1 : Int32) (M : aMm) : Option (Int32) :=
  if ((m_gi M 0 11) : Int32) = 70 then some (1 : Int32) else if ((m_gi M 0 11) : Int32) = 73 then if (((m_gi M 0 14) / (2 : Int32)) : Int32) ≤ x1 then some (0 : Int32) else some (1 : Int32) else if ((m_gi M 0 11) : Int32) = 79 then if (((2 : Int32) * (m_gi M 0 12)) : Int32) ≤ x1 then some (1 : Int32) else if ((x1 - x1 / (2 : Int32) * (2 : Int32)) : Int32) = (1 : Int32) then some (1 : Int32) else some (0 : Int32) else if (((2 : Int32) * (m_gi M 0 12)) : Int32) ≤ x1 then some (0 : Int32) else if ((x1 - x1 / (2 : Int32) * (2 : Int32)) : Int32) = 0 then some (1 : Int32) else some (0 : Int32)
set_option maxRecDepth 100000 in
set_option maxHeartbeats 4000000 in
theorem jm_X8_isLit {x1 : Int32} {C : aSc} {M : aMm}  {res : aRes} {r : Int32} (h : f_X8_isLit x1 M = some r) (Kr : ∀ (v : Int32), r = v → res = (some (.int v), (C, M))) : J mi_X8_isLit res 0 0 0 [(0, .ref (94)), (1, .int (x1))] [] (C, M) := by
  rw [f_X8_isLit] at h
  refine J_aload_n dX8_isLit_0 rfl 0 rfl ?_
  refine J_getiM (m0 := 0) (j := 11) rfl rfl (by decide) rfl (by decide) rfl kf_X8_79 dX8_isLit_1 ?_
  by_cases c1 : ((m_gi M 0 11) : Int32) = 70
  · have h := br_p c1 h
    refine J_lsw 40 dX8_isLit_4 (by decide) (by rw [c1]; decide) ?_
    refine J_iconst 1 dX8_isLit_40 rfl ?_
    have h := Option.some.inj h
    subst h
    exact J_zret (Or.inr rfl) rfl rfl rfl (Kr _ rfl) dX8_isLit_41
  · have h := br_n c1 h
    by_cases c2 : ((m_gi M 0 11) : Int32) = 73
    · have h := br_p c2 h
      refine J_lsw 42 dX8_isLit_4 (by decide) (by rw [c2]; decide) ?_
      refine J_iload_n dX8_isLit_42 rfl 1 rfl ?_
      refine J_aload_n dX8_isLit_43 rfl 0 rfl ?_
      refine J_getiM (m0 := 0) (j := 14) rfl rfl (by decide) rfl (by decide) rfl kf_X8_93 dX8_isLit_44 ?_
      refine J_iconst 2 dX8_isLit_47 rfl ?_
      refine J_idiv dX8_isLit_48 (by decide) ?_
      refine J_icmp_ge 56 dX8_isLit_49 (by decide) (fun c3 => ?_) (fun c3 => ?_)
      · have h := br_p c3 h
        refine J_iconst 0 dX8_isLit_56 rfl ?_
        have h := Option.some.inj h
        subst h
        exact J_zret (Or.inl rfl) rfl rfl rfl (Kr _ rfl) dX8_isLit_57
      · have h := br_n c3 h
        refine J_iconst 1 dX8_isLit_52 rfl ?_
        refine J_goto 57 dX8_isLit_53 (by decide) ?_
        have h := Option.some.inj h
        subst h
        exact J_zret (Or.inr rfl) rfl rfl rfl (Kr _ rfl) dX8_isLit_57
    · have h := br_n c2 h
      by_cases c4 : ((m_gi M 0 11) : Int32) = 79
      · have h := br_p c4 h
        refine J_lsw 58 dX8_isLit_4 (by decide) (by rw [c4]; decide) ?_
        refine J_iload_n dX8_isLit_58 rfl 1 rfl ?_
        refine J_iconst 2 dX8_isLit_59 rfl ?_
        refine J_aload_n dX8_isLit_60 rfl 0 rfl ?_
        refine J_getiM (m0 := 0) (j := 12) rfl rfl (by decide) rfl (by decide) rfl kf_X8_86 dX8_isLit_61 ?_
        refine J_imul dX8_isLit_64 ?_
        refine J_icmp_ge 75 dX8_isLit_65 (by decide) (fun c6 => ?_) (fun c6 => ?_)
        · have h := br_p c6 h
          refine J_iconst 1 dX8_isLit_75 rfl ?_
          refine J_goto 80 dX8_isLit_76 (by decide) ?_
          have h := Option.some.inj h
          subst h
          exact J_zret (Or.inr rfl) rfl rfl rfl (Kr _ rfl) dX8_isLit_80
        · have h := br_n c6 h
          refine J_iload_n dX8_isLit_68 rfl 1 rfl ?_
          refine J_iconst 2 dX8_isLit_69 rfl ?_
          refine J_irem dX8_isLit_70 (by decide) ?_
          refine J_iconst 1 dX8_isLit_71 rfl ?_
          refine J_icmp_ne 79 dX8_isLit_72 (by decide) (fun c5 => ?_) (fun c5 => ?_)
          · have h := br_n c5 h
            refine J_iconst 0 dX8_isLit_79 rfl ?_
            have h := Option.some.inj h
            subst h
            exact J_zret (Or.inl rfl) rfl rfl rfl (Kr _ rfl) dX8_isLit_80
          · have h := br_p c5 h
            refine J_iconst 1 dX8_isLit_75 rfl ?_
            refine J_goto 80 dX8_isLit_76 (by decide) ?_
            have h := Option.some.inj h
            subst h
            exact J_zret (Or.inr rfl) rfl rfl rfl (Kr _ rfl) dX8_isLit_80
      · have h := br_n c4 h
        refine J_lsw 81 dX8_isLit_4 (by decide) (by show (_ : Int) + Op.lookupswitch.offset [(70, 36), (73, 38), (79, 54)] 77 _ = _; rw [lv_osw (a := 70) c1 rfl, lv_osw (a := 73) c2 rfl, lv_osw (a := 79) c4 rfl]; rfl) ?_
        refine J_iload_n dX8_isLit_81 rfl 1 rfl ?_
        refine J_iconst 2 dX8_isLit_82 rfl ?_
        refine J_aload_n dX8_isLit_83 rfl 0 rfl ?_
        refine J_getiM (m0 := 0) (j := 12) rfl rfl (by decide) rfl (by decide) rfl kf_X8_86 dX8_isLit_84 ?_
        refine J_imul dX8_isLit_87 ?_
        refine J_icmp_ge 101 dX8_isLit_88 (by decide) (fun c8 => ?_) (fun c8 => ?_)
        · have h := br_p c8 h
          refine J_iconst 0 dX8_isLit_101 rfl ?_
          have h := Option.some.inj h
          subst h
          exact J_zret (Or.inl rfl) rfl rfl rfl (Kr _ rfl) dX8_isLit_102
        · have h := br_n c8 h
          refine J_iload_n dX8_isLit_91 rfl 1 rfl ?_
          refine J_iconst 2 dX8_isLit_92 rfl ?_
          refine J_irem dX8_isLit_93 (by decide) ?_
          refine J_if_ne 101 dX8_isLit_94 (by decide) (fun c7 => ?_) (fun c7 => ?_)
          · have h := br_n c7 h
            refine J_iconst 0 dX8_isLit_101 rfl ?_
            have h := Option.some.inj h
            subst h
            exact J_zret (Or.inl rfl) rfl rfl rfl (Kr _ rfl) dX8_isLit_102
          · have h := br_p c7 h
            refine J_iconst 1 dX8_isLit_97 rfl ?_
            refine J_goto 102 dX8_isLit_98 (by decide) ?_
            have h := Option.some.inj h
            subst h
            exact J_zret (Or.inr rfl) rfl rfl rfl (Kr _ rfl) dX8_isLit_102
theorem ct_X8_isLit {x1 : Int32} {C : aSc} {M : aMm} {v : Int32}  (h : f_X8_isLit x1 M = some v) : Ct mi_X8_isLit yX8_isLit [.ref (94), .int (x1)] (C, M) (some (.int v), (C, M)) := Ct_of_J (by decide +kernel) rfl (Nat.le_of_ble_eq_true rfl) (jm_X8_isLit  h (fun _ e => by cases e; rfl))
def mi_X8_light : aMi := (cX8_light, 7, RX8, (some .int), { frames := 5, cells := 0, slots := 0, locals := 104 })
def b_X8_light_83 (x1 : Int32) (x2 : Int32) (x3 : Int32) (x4 : Int32) (x6 : Int32) (M : aMm) : Option ((Int32 × aMm) ⊕ (aMm)) :=
  if ((22 : Int32) : Int32) ≤ x6 then some (.inr M) else (f_X8_of x4 x6 M).bind fun r23 => (m_st M 1 r23 (0 : Int32)).bind fun M24 => some (.inl ((x6 + (1 : Int32)), M24))
set_option maxRecDepth 100000 in
set_option maxHeartbeats 4000000 in
theorem jl_X8_light_83 {x1 : Int32} {x2 : Int32} {x3 : Int32} {x4 : Int32} {C : aSc}  {res : aRes} {r : aMm} : ∀ (n : Nat) (x6 : Int32) (M : aMm), lpf (fun a : Int32 × aMm => b_X8_light_83 (x1) (x2) (x3) (x4) a.1 a.2) n (x6, M) = some r → (∀ (S2 : aMm), r = S2 → J mi_X8_light res 0 0 109 [(0, .ref (94)), (1, .int (x1)), (2, .int (x2)), (3, .int (x3)), (4, .int (x4))] [] (C, S2)) → J mi_X8_light res 0 0 83 [(0, .ref (94)), (1, .int (x1)), (2, .int (x2)), (3, .int (x3)), (4, .int (x4)), (6, .int (x6))] [] (C, M) := by
  intro n
  induction n with
  | zero =>
    intro x6 M h
    cases h
  | succ n ih =>
    intro x6 M h Kx
    obtain ⟨r0, h, h2⟩ := br_b h
    have h : b_X8_light_83 x1 x2 x3 x4 x6 M = some r0 := h
    rw [b_X8_light_83] at h
    refine J_iload dX8_light_83 5 rfl ?_
    refine J_bipush 22 dX8_light_85 rfl ?_
    refine J_icmp_ge 109 dX8_light_87 (by decide) (fun c26 => ?_) (fun c26 => ?_)
    · have h := br_p c26 h
      have h := Option.some.inj h
      subst h
      have h2 := Option.some.inj h2
      subst h2
      refine J_sub [0, 1, 2, 3, 4] rfl ?_
      exact Kx _ rfl
    · have h := br_n c26 h
      refine J_aload_n dX8_light_90 rfl 0 rfl ?_
      refine J_getr (j := 0) (t := 103) (r := 95) rfl (by decide) (by decide) rfl (by decide) rfl rfl kf_X8_9 dX8_light_91 ?_
      refine J_iload dX8_light_94 4 rfl ?_
      refine J_iload dX8_light_96 5 rfl ?_
      obtain ⟨r23, h22, h⟩ := br_b h
      refine J_callS (mj := mi_X8_of) (as := [.int (x4), .int (x6)]) (rest := [.ref (95)]) (ct_X8_of (C := C)  h22) ⟨rfl, rfl⟩ rfl cg_X8_45 hd_X8_of rfl ⟨Nat.le_of_ble_eq_true rfl, Nat.le_of_ble_eq_true rfl⟩ (Nat.le_of_ble_eq_true rfl) ⟨Nat.zero_le _, Nat.zero_le _⟩ dX8_light_98 ?_
      refine J_iconst 0 dX8_light_101 rfl ?_
      obtain ⟨M24, h25, h⟩ := br_b h
      refine J_iastM (m0 := 1) rfl rfl h25 dX8_light_102 ?_
      refine J_iinc (j := 5) (v := (x6 + (1 : Int32))) (L' := [(6, .int ((x6 + (1 : Int32)))), (0, .ref (94)), (1, .int (x1)), (2, .int (x2)), (3, .int (x3)), (4, .int (x4))]) dX8_light_103 rfl rfl (by decide) rfl ?_
      refine J_goto 83 dX8_light_106 (by decide) ?_
      have h := Option.some.inj h
      subst h
      refine J_sub [1, 2, 3, 4, 5, 0] rfl ?_
      exact ih _ _ h2 Kx
def b_X8_light_178 (x4 : Int32) (x6 : Int32) (M : aMm) : Option ((Int32 × aMm) ⊕ (aMm)) :=
  if ((m_gi M 0 14) : Int32) ≤ x6 then some (.inr M) else (f_X8_of x4 (5 : Int32) M).bind fun r51 => (m_ld M 1 r51).bind fun u52 => (f_X8_isLit x6 M).bind fun r55 => if (r55 : Int32) = 0 then (m_st M 1 r51 (u52 ||| (0 : Int32))).bind fun M56 => some (.inl ((x6 + (1 : Int32)), M56)) else (m_st M 1 r51 (u52 ||| ((1 : Int32) <<< (x6 &&& 31)))).bind fun M58 => some (.inl ((x6 + (1 : Int32)), M58))
set_option maxRecDepth 100000 in
set_option maxHeartbeats 4000000 in
theorem jl_X8_light_178 {x4 : Int32} {C : aSc}  {res : aRes} {r : aMm} : ∀ (n : Nat) (x6 : Int32) (M : aMm), lpf (fun a : Int32 × aMm => b_X8_light_178 (x4) a.1 a.2) n (x6, M) = some r → (∀ (S2 : aMm), r = S2 → J mi_X8_light res 0 0 224 [(0, .ref (94)), (4, .int (x4))] [] (C, S2)) → J mi_X8_light res 0 0 178 [(0, .ref (94)), (4, .int (x4)), (6, .int (x6))] [] (C, M) := by
  intro n
  induction n with
  | zero =>
    intro x6 M h
    cases h
  | succ n ih =>
    intro x6 M h Kx
    obtain ⟨r0, h, h2⟩ := br_b h
    have h : b_X8_light_178 x4 x6 M = some r0 := h
    rw [b_X8_light_178] at h
    refine J_iload dX8_light_178 2 rfl ?_
    refine J_aload_n dX8_light_180 rfl 0 rfl ?_
    refine J_getiM (m0 := 0) (j := 14) rfl rfl (by decide) rfl (by decide) rfl kf_X8_93 dX8_light_181 ?_
    refine J_icmp_ge 224 dX8_light_184 (by decide) (fun c61 => ?_) (fun c61 => ?_)
    · have h := br_p c61 h
      have h := Option.some.inj h
      subst h
      have h2 := Option.some.inj h2
      subst h2
      refine J_sub [0, 1] rfl ?_
      exact Kx _ rfl
    · have h := br_n c61 h
      refine J_aload_n dX8_light_187 rfl 0 rfl ?_
      refine J_getr (j := 0) (t := 103) (r := 95) rfl (by decide) (by decide) rfl (by decide) rfl rfl kf_X8_9 dX8_light_188 ?_
      refine J_iload dX8_light_191 1 rfl ?_
      refine J_iconst 5 dX8_light_193 rfl ?_
      obtain ⟨r51, h50, h⟩ := br_b h
      refine J_callS (mj := mi_X8_of) (as := [.int (x4), .int ((5 : Int32))]) (rest := [.ref (95)]) (ct_X8_of (C := C)  h50) ⟨rfl, rfl⟩ rfl cg_X8_45 hd_X8_of rfl ⟨Nat.le_of_ble_eq_true rfl, Nat.le_of_ble_eq_true rfl⟩ (Nat.le_of_ble_eq_true rfl) ⟨Nat.zero_le _, Nat.zero_le _⟩ dX8_light_194 ?_
      refine J_dup2 dX8_light_197 rfl rfl ?_
      obtain ⟨u52, h53, h⟩ := br_b h
      refine J_ialdM (m0 := 1) rfl rfl h53 dX8_light_198 ?_
      refine J_aload_n dX8_light_199 rfl 0 rfl ?_
      refine J_iload dX8_light_200 2 rfl ?_
      obtain ⟨r55, h54, h⟩ := br_b h
      refine J_callV (mj := mi_X8_isLit) (as := [.int (x6)]) (rest := [.int (u52), .int (r51), .ref (95)]) (ct_X8_isLit (C := C)  h54) ⟨rfl, rfl⟩ rfl rfl (by decide) rfl cg_X8_117 hd_X8_isLit rfl ⟨Nat.le_of_ble_eq_true rfl, Nat.le_of_ble_eq_true rfl⟩ (Nat.le_of_ble_eq_true rfl) ⟨Nat.zero_le _, Nat.zero_le _⟩ dX8_light_202 ?_
      refine J_if_eq 215 dX8_light_205 (by decide) (fun c60 => ?_) (fun c60 => ?_)
      · have h := br_p c60 h
        refine J_iconst 0 dX8_light_215 rfl ?_
        refine J_ior dX8_light_216 ?_
        obtain ⟨M56, h57, h⟩ := br_b h
        refine J_iastM (m0 := 1) rfl rfl h57 dX8_light_217 ?_
        refine J_iinc (j := 2) (v := (x6 + (1 : Int32))) (L' := [(6, .int ((x6 + (1 : Int32)))), (0, .ref (94)), (4, .int (x4))]) dX8_light_218 rfl rfl (by decide) rfl ?_
        refine J_goto 178 dX8_light_221 (by decide) ?_
        have h := Option.some.inj h
        subst h
        refine J_sub [1, 2, 0] rfl ?_
        exact ih _ _ h2 Kx
      · have h := br_n c60 h
        refine J_iconst 1 dX8_light_208 rfl ?_
        refine J_iload dX8_light_209 2 rfl ?_
        refine J_ishl dX8_light_211 ?_
        refine J_goto 216 dX8_light_212 (by decide) ?_
        refine J_ior dX8_light_216 ?_
        obtain ⟨M58, h59, h⟩ := br_b h
        refine J_iastM (m0 := 1) rfl rfl h59 dX8_light_217 ?_
        refine J_iinc (j := 2) (v := (x6 + (1 : Int32))) (L' := [(6, .int ((x6 + (1 : Int32)))), (0, .ref (94)), (4, .int (x4))]) dX8_light_218 rfl rfl (by decide) rfl ?_
        refine J_goto 178 dX8_light_221 (by decide) ?_
        have h := Option.some.inj h
        subst h
        refine J_sub [1, 2, 0] rfl ?_
        exact ih _ _ h2 Kx
def f_X8_light (x1 : Int32) (x2 : Int32) (x3 : Int32) (M : aMm) : Option (Int32 × aMm) :=
  (f_X8_within x1 (0 : Int32) (3 : Int32) M).bind fun r2 => if (r2 : Int32) = 0 then bd2 (f_X8_finding (-100001 : Int32) M) fun r4 M5 => some (r4, M5) else (f_X8_isCell x2 M).bind fun r7 => if (r7 : Int32) = 0 then bd2 (f_X8_finding (-100001 : Int32) M) fun r9 M10 => some (r9, M10) else (f_X8_within x3 (1 : Int32) (15 : Int32) M).bind fun r12 => if (r12 : Int32) = 0 then bd2 (f_X8_finding (-100001 : Int32) M) fun r79 M80 => some (r79, M80) else (m_ld M 1 (0 : Int32)).bind fun u13 => if (u13 : Int32) = (10 : Int32) then bd2 (f_X8_finding (-100005 : Int32) M) fun r75 M76 => some (r75, M76) else bd2 (f_X8_faultOf  M) fun r16 M17 => (some (m_pi M17 0 5 (0 : Int32))).bind fun M18 => if (r16 : Int32) < 0 then (f_X8_keep  M18).bind fun M21 => (lpf (fun a : Int32 × aMm => b_X8_light_83 (x1) (x2) (x3) (u13) a.1 a.2) FU ((0 : Int32), M21)).bind fun z27 => (f_X8_of u13 (0 : Int32) z27).bind fun r31 => (m_st z27 1 r31 x1).bind fun M32 => (f_X8_of u13 (1 : Int32) M32).bind fun r35 => (m_st M32 1 r35 x2).bind fun M36 => (f_X8_of u13 (2 : Int32) M36).bind fun r39 => (m_st M36 1 r39 x3).bind fun M40 => (f_X8_of u13 (3 : Int32) M40).bind fun r43 => (m_st M40 1 r43 (m_gi M40 0 13)).bind fun M44 => (f_X8_of u13 (4 : Int32) M44).bind fun r47 => (m_st M44 1 r47 (m_gi M44 0 14)).bind fun M48 => (lpf (fun a : Int32 × aMm => b_X8_light_178 (u13) a.1 a.2) FU ((0 : Int32), M48)).bind fun z62 => (f_X8_of u13 (9 : Int32) z62).bind fun r66 => (m_st z62 1 r66 (4 : Int32)).bind fun M67 => (m_ld M67 1 (0 : Int32)).bind fun u69 => (m_st M67 1 (0 : Int32) (u69 + (1 : Int32))).bind fun M71 => some (u13, M71) else some (((-1 : Int32) - r16), M18)
set_option maxRecDepth 100000 in
set_option maxHeartbeats 4000000 in
theorem jm_X8_light {x1 : Int32} {x2 : Int32} {x3 : Int32} {C : aSc} {M : aMm}  {res : aRes} {r : Int32 × aMm} (h : f_X8_light x1 x2 x3 M = some r) (Kr : ∀ (v : Int32) (S' : aMm), r = (v, S') → res = (some (.int v), (C, S'))) : J mi_X8_light res 0 0 0 [(0, .ref (94)), (1, .int (x1)), (2, .int (x2)), (3, .int (x3))] [] (C, M) := by
  rw [f_X8_light] at h
  refine J_iload_n dX8_light_0 rfl 1 rfl ?_
  refine J_iconst 0 dX8_light_1 rfl ?_
  refine J_iconst 3 dX8_light_2 rfl ?_
  obtain ⟨r2, h1, h⟩ := br_b h
  refine J_callS (mj := mi_X8_within) (as := [.int (x1), .int ((0 : Int32)), .int ((3 : Int32))]) (rest := []) (ct_X8_within (C := C)  h1) ⟨rfl, rfl⟩ rfl cg_X8_41 hd_X8_within rfl ⟨Nat.le_of_ble_eq_true rfl, Nat.le_of_ble_eq_true rfl⟩ (Nat.le_of_ble_eq_true rfl) ⟨Nat.zero_le _, Nat.zero_le _⟩ dX8_light_3 ?_
  refine J_if_eq 26 dX8_light_6 (by decide) (fun c83 => ?_) (fun c83 => ?_)
  · have h := br_p c83 h
    refine J_aload_n dX8_light_26 rfl 0 rfl ?_
    refine J_ldc (-100001) dX8_light_27 kc_X8_57 ?_
    obtain ⟨r4, M5, h3, h⟩ := br_b2 h
    refine J_callV (mj := mi_X8_finding) (as := [.int ((-100001 : Int32))]) (rest := []) (ct_X8_finding (C := C)  h3) ⟨rfl, rfl⟩ rfl rfl (by decide) rfl cg_X8_53 hd_X8_finding rfl ⟨Nat.le_of_ble_eq_true rfl, Nat.le_of_ble_eq_true rfl⟩ (Nat.le_of_ble_eq_true rfl) ⟨Nat.zero_le _, Nat.zero_le _⟩ dX8_light_29 ?_
    have h := Option.some.inj h
    subst h
    exact J_iret rfl rfl rfl (Kr _ _ rfl) dX8_light_32
  · have h := br_n c83 h
    refine J_iload_n dX8_light_9 rfl 2 rfl ?_
    obtain ⟨r7, h6, h⟩ := br_b h
    refine J_callS (mj := mi_X8_isCell) (as := [.int (x2)]) (rest := []) (ct_X8_isCell (C := C)  h6) ⟨rfl, rfl⟩ rfl cg_X8_108 hd_X8_isCell rfl ⟨Nat.le_of_ble_eq_true rfl, Nat.le_of_ble_eq_true rfl⟩ (Nat.le_of_ble_eq_true rfl) ⟨Nat.zero_le _, Nat.zero_le _⟩ dX8_light_10 ?_
    refine J_if_eq 26 dX8_light_13 (by decide) (fun c82 => ?_) (fun c82 => ?_)
    · have h := br_p c82 h
      refine J_aload_n dX8_light_26 rfl 0 rfl ?_
      refine J_ldc (-100001) dX8_light_27 kc_X8_57 ?_
      obtain ⟨r9, M10, h8, h⟩ := br_b2 h
      refine J_callV (mj := mi_X8_finding) (as := [.int ((-100001 : Int32))]) (rest := []) (ct_X8_finding (C := C)  h8) ⟨rfl, rfl⟩ rfl rfl (by decide) rfl cg_X8_53 hd_X8_finding rfl ⟨Nat.le_of_ble_eq_true rfl, Nat.le_of_ble_eq_true rfl⟩ (Nat.le_of_ble_eq_true rfl) ⟨Nat.zero_le _, Nat.zero_le _⟩ dX8_light_29 ?_
      have h := Option.some.inj h
      subst h
      exact J_iret rfl rfl rfl (Kr _ _ rfl) dX8_light_32
    · have h := br_n c82 h
      refine J_iload_n dX8_light_16 rfl 3 rfl ?_
      refine J_iconst 1 dX8_light_17 rfl ?_
      refine J_bipush 15 dX8_light_18 rfl ?_
      obtain ⟨r12, h11, h⟩ := br_b h
      refine J_callS (mj := mi_X8_within) (as := [.int (x3), .int ((1 : Int32)), .int ((15 : Int32))]) (rest := []) (ct_X8_within (C := C)  h11) ⟨rfl, rfl⟩ rfl cg_X8_41 hd_X8_within rfl ⟨Nat.le_of_ble_eq_true rfl, Nat.le_of_ble_eq_true rfl⟩ (Nat.le_of_ble_eq_true rfl) ⟨Nat.zero_le _, Nat.zero_le _⟩ dX8_light_20 ?_
      refine J_if_ne 33 dX8_light_23 (by decide) (fun c81 => ?_) (fun c81 => ?_)
      · have h := br_n c81 h
        refine J_aload_n dX8_light_33 rfl 0 rfl ?_
        refine J_getr (j := 0) (t := 103) (r := 95) rfl (by decide) (by decide) rfl (by decide) rfl rfl kf_X8_9 dX8_light_34 ?_
        refine J_iconst 0 dX8_light_37 rfl ?_
        obtain ⟨u13, h14, h⟩ := br_b h
        refine J_ialdM (m0 := 1) rfl rfl h14 dX8_light_38 ?_
        refine J_istore (L' := [(4, .int (u13)), (0, .ref (94)), (1, .int (x1)), (2, .int (x2)), (3, .int (x3))]) dX8_light_39 (by decide) rfl ?_
        refine J_iload dX8_light_41 0 rfl ?_
        refine J_bipush 10 dX8_light_43 rfl ?_
        refine J_icmp_ne 55 dX8_light_45 (by decide) (fun c77 => ?_) (fun c77 => ?_)
        · have h := br_n c77 h
          refine J_aload_n dX8_light_55 rfl 1 rfl ?_
          obtain ⟨r16, M17, h15, h⟩ := br_b2 h
          refine J_callV (mj := mi_X8_faultOf) (as := []) (rest := []) (ct_X8_faultOf (C := C)  h15) ⟨rfl, rfl⟩ rfl rfl (by decide) rfl cg_X8_111 hd_X8_faultOf rfl ⟨Nat.le_of_ble_eq_true rfl, Nat.le_of_ble_eq_true rfl⟩ (Nat.le_of_ble_eq_true rfl) ⟨Nat.zero_le _, Nat.zero_le _⟩ dX8_light_56 ?_
          refine J_istore (L' := [(5, .int (r16)), (4, .int (u13)), (0, .ref (94)), (1, .int (x1)), (2, .int (x2)), (3, .int (x3))]) dX8_light_59 (by decide) rfl ?_
          refine J_aload_n dX8_light_61 rfl 2 rfl ?_
          refine J_iconst 0 dX8_light_62 rfl ?_
          obtain ⟨M18, e19, h⟩ := br_s h
          refine J_putiM (m0 := 0) (j := 5) rfl rfl (by decide) rfl (by decide) rfl rfl rfl kf_X8_58 e19 dX8_light_63 ?_
          refine J_iload dX8_light_66 0 rfl ?_
          refine J_if_lt 76 dX8_light_68 (by decide) (fun c73 => ?_) (fun c73 => ?_)
          · have h := br_p c73 h
            refine J_aload_n dX8_light_76 rfl 2 rfl ?_
            obtain ⟨M21, h20, h⟩ := br_b h
            refine J_callV (mj := mi_X8_keep) (as := []) (rest := []) (ct_X8_keep (C := C)  h20) ⟨rfl, rfl⟩ rfl rfl (by decide) rfl cg_X8_114 hd_X8_keep rfl ⟨Nat.le_of_ble_eq_true rfl, Nat.le_of_ble_eq_true rfl⟩ (Nat.le_of_ble_eq_true rfl) ⟨Nat.zero_le _, Nat.zero_le _⟩ dX8_light_77 ?_
            refine J_iconst 0 dX8_light_80 rfl ?_
            refine J_istore (L' := [(6, .int ((0 : Int32))), (5, .int (r16)), (4, .int (u13)), (0, .ref (94)), (1, .int (x1)), (2, .int (x2)), (3, .int (x3))]) dX8_light_81 (by decide) rfl ?_
            refine J_sub [3, 4, 5, 6, 2, 0] rfl ?_
            obtain ⟨z27, h28, h⟩ := br_b h
            refine jl_X8_light_83  FU _ _ h28 ?_
            intro zz e
            subst e
            refine J_aload_n dX8_light_109 rfl 0 rfl ?_
            refine J_getr (j := 0) (t := 103) (r := 95) rfl (by decide) (by decide) rfl (by decide) rfl rfl kf_X8_9 dX8_light_110 ?_
            refine J_iload dX8_light_113 4 rfl ?_
            refine J_iconst 0 dX8_light_115 rfl ?_
            obtain ⟨r31, h30, h⟩ := br_b h
            refine J_callS (mj := mi_X8_of) (as := [.int (u13), .int ((0 : Int32))]) (rest := [.ref (95)]) (ct_X8_of (C := C)  h30) ⟨rfl, rfl⟩ rfl cg_X8_45 hd_X8_of rfl ⟨Nat.le_of_ble_eq_true rfl, Nat.le_of_ble_eq_true rfl⟩ (Nat.le_of_ble_eq_true rfl) ⟨Nat.zero_le _, Nat.zero_le _⟩ dX8_light_116 ?_
            refine J_iload_n dX8_light_119 rfl 1 rfl ?_
            obtain ⟨M32, h33, h⟩ := br_b h
            refine J_iastM (m0 := 1) rfl rfl h33 dX8_light_120 ?_
            refine J_aload_n dX8_light_121 rfl 0 rfl ?_
            refine J_getr (j := 0) (t := 103) (r := 95) rfl (by decide) (by decide) rfl (by decide) rfl rfl kf_X8_9 dX8_light_122 ?_
            refine J_iload dX8_light_125 4 rfl ?_
            refine J_iconst 1 dX8_light_127 rfl ?_
            obtain ⟨r35, h34, h⟩ := br_b h
            refine J_callS (mj := mi_X8_of) (as := [.int (u13), .int ((1 : Int32))]) (rest := [.ref (95)]) (ct_X8_of (C := C)  h34) ⟨rfl, rfl⟩ rfl cg_X8_45 hd_X8_of rfl ⟨Nat.le_of_ble_eq_true rfl, Nat.le_of_ble_eq_true rfl⟩ (Nat.le_of_ble_eq_true rfl) ⟨Nat.zero_le _, Nat.zero_le _⟩ dX8_light_128 ?_
            refine J_iload_n dX8_light_131 rfl 2 rfl ?_
            obtain ⟨M36, h37, h⟩ := br_b h
            refine J_iastM (m0 := 1) rfl rfl h37 dX8_light_132 ?_
            refine J_aload_n dX8_light_133 rfl 0 rfl ?_
            refine J_getr (j := 0) (t := 103) (r := 95) rfl (by decide) (by decide) rfl (by decide) rfl rfl kf_X8_9 dX8_light_134 ?_
            refine J_iload dX8_light_137 4 rfl ?_
            refine J_iconst 2 dX8_light_139 rfl ?_
            obtain ⟨r39, h38, h⟩ := br_b h
            refine J_callS (mj := mi_X8_of) (as := [.int (u13), .int ((2 : Int32))]) (rest := [.ref (95)]) (ct_X8_of (C := C)  h38) ⟨rfl, rfl⟩ rfl cg_X8_45 hd_X8_of rfl ⟨Nat.le_of_ble_eq_true rfl, Nat.le_of_ble_eq_true rfl⟩ (Nat.le_of_ble_eq_true rfl) ⟨Nat.zero_le _, Nat.zero_le _⟩ dX8_light_140 ?_
            refine J_iload_n dX8_light_143 rfl 3 rfl ?_
            obtain ⟨M40, h41, h⟩ := br_b h
            refine J_iastM (m0 := 1) rfl rfl h41 dX8_light_144 ?_
            refine J_aload_n dX8_light_145 rfl 0 rfl ?_
            refine J_getr (j := 0) (t := 103) (r := 95) rfl (by decide) (by decide) rfl (by decide) rfl rfl kf_X8_9 dX8_light_146 ?_
            refine J_iload dX8_light_149 4 rfl ?_
            refine J_iconst 3 dX8_light_151 rfl ?_
            obtain ⟨r43, h42, h⟩ := br_b h
            refine J_callS (mj := mi_X8_of) (as := [.int (u13), .int ((3 : Int32))]) (rest := [.ref (95)]) (ct_X8_of (C := C)  h42) ⟨rfl, rfl⟩ rfl cg_X8_45 hd_X8_of rfl ⟨Nat.le_of_ble_eq_true rfl, Nat.le_of_ble_eq_true rfl⟩ (Nat.le_of_ble_eq_true rfl) ⟨Nat.zero_le _, Nat.zero_le _⟩ dX8_light_152 ?_
            refine J_aload_n dX8_light_155 rfl 0 rfl ?_
            refine J_getiM (m0 := 0) (j := 13) rfl rfl (by decide) rfl (by decide) rfl kf_X8_99 dX8_light_156 ?_
            obtain ⟨M44, h45, h⟩ := br_b h
            refine J_iastM (m0 := 1) rfl rfl h45 dX8_light_159 ?_
            refine J_aload_n dX8_light_160 rfl 0 rfl ?_
            refine J_getr (j := 0) (t := 103) (r := 95) rfl (by decide) (by decide) rfl (by decide) rfl rfl kf_X8_9 dX8_light_161 ?_
            refine J_iload dX8_light_164 4 rfl ?_
            refine J_iconst 4 dX8_light_166 rfl ?_
            obtain ⟨r47, h46, h⟩ := br_b h
            refine J_callS (mj := mi_X8_of) (as := [.int (u13), .int ((4 : Int32))]) (rest := [.ref (95)]) (ct_X8_of (C := C)  h46) ⟨rfl, rfl⟩ rfl cg_X8_45 hd_X8_of rfl ⟨Nat.le_of_ble_eq_true rfl, Nat.le_of_ble_eq_true rfl⟩ (Nat.le_of_ble_eq_true rfl) ⟨Nat.zero_le _, Nat.zero_le _⟩ dX8_light_167 ?_
            refine J_aload_n dX8_light_170 rfl 0 rfl ?_
            refine J_getiM (m0 := 0) (j := 14) rfl rfl (by decide) rfl (by decide) rfl kf_X8_93 dX8_light_171 ?_
            obtain ⟨M48, h49, h⟩ := br_b h
            refine J_iastM (m0 := 1) rfl rfl h49 dX8_light_174 ?_
            refine J_iconst 0 dX8_light_175 rfl ?_
            refine J_istore (L' := [(6, .int ((0 : Int32))), (0, .ref (94)), (1, .int (x1)), (2, .int (x2)), (3, .int (x3)), (4, .int (u13))]) dX8_light_176 (by decide) rfl ?_
            refine J_sub [1, 5, 0] rfl ?_
            obtain ⟨z62, h63, h⟩ := br_b h
            refine jl_X8_light_178  FU _ _ h63 ?_
            intro zz e
            subst e
            refine J_aload_n dX8_light_224 rfl 0 rfl ?_
            refine J_getr (j := 0) (t := 103) (r := 95) rfl (by decide) (by decide) rfl (by decide) rfl rfl kf_X8_9 dX8_light_225 ?_
            refine J_iload dX8_light_228 1 rfl ?_
            refine J_bipush 9 dX8_light_230 rfl ?_
            obtain ⟨r66, h65, h⟩ := br_b h
            refine J_callS (mj := mi_X8_of) (as := [.int (u13), .int ((9 : Int32))]) (rest := [.ref (95)]) (ct_X8_of (C := C)  h65) ⟨rfl, rfl⟩ rfl cg_X8_45 hd_X8_of rfl ⟨Nat.le_of_ble_eq_true rfl, Nat.le_of_ble_eq_true rfl⟩ (Nat.le_of_ble_eq_true rfl) ⟨Nat.zero_le _, Nat.zero_le _⟩ dX8_light_232 ?_
            refine J_iconst 4 dX8_light_235 rfl ?_
            obtain ⟨M67, h68, h⟩ := br_b h
            refine J_iastM (m0 := 1) rfl rfl h68 dX8_light_236 ?_
            refine J_aload_n dX8_light_237 rfl 0 rfl ?_
            refine J_getr (j := 0) (t := 103) (r := 95) rfl (by decide) (by decide) rfl (by decide) rfl rfl kf_X8_9 dX8_light_238 ?_
            refine J_iconst 0 dX8_light_241 rfl ?_
            refine J_dup2 dX8_light_242 rfl rfl ?_
            obtain ⟨u69, h70, h⟩ := br_b h
            refine J_ialdM (m0 := 1) rfl rfl h70 dX8_light_243 ?_
            refine J_iconst 1 dX8_light_244 rfl ?_
            refine J_iadd dX8_light_245 ?_
            obtain ⟨M71, h72, h⟩ := br_b h
            refine J_iastM (m0 := 1) rfl rfl h72 dX8_light_246 ?_
            refine J_iload dX8_light_247 1 rfl ?_
            have h := Option.some.inj h
            subst h
            exact J_iret rfl rfl rfl (Kr _ _ rfl) dX8_light_249
          · have h := br_n c73 h
            refine J_iconst (-1) dX8_light_71 rfl ?_
            refine J_iload dX8_light_72 0 rfl ?_
            refine J_isub dX8_light_74 ?_
            have h := Option.some.inj h
            subst h
            exact J_iret rfl rfl rfl (Kr _ _ rfl) dX8_light_75
        · have h := br_p c77 h
          refine J_aload_n dX8_light_48 rfl 1 rfl ?_
          refine J_ldc (-100005) dX8_light_49 kc_X8_61 ?_
          obtain ⟨r75, M76, h74, h⟩ := br_b2 h
          refine J_callV (mj := mi_X8_finding) (as := [.int ((-100005 : Int32))]) (rest := []) (ct_X8_finding (C := C)  h74) ⟨rfl, rfl⟩ rfl rfl (by decide) rfl cg_X8_53 hd_X8_finding rfl ⟨Nat.le_of_ble_eq_true rfl, Nat.le_of_ble_eq_true rfl⟩ (Nat.le_of_ble_eq_true rfl) ⟨Nat.zero_le _, Nat.zero_le _⟩ dX8_light_51 ?_
          have h := Option.some.inj h
          subst h
          exact J_iret rfl rfl rfl (Kr _ _ rfl) dX8_light_54
      · have h := br_p c81 h
        refine J_aload_n dX8_light_26 rfl 0 rfl ?_
        refine J_ldc (-100001) dX8_light_27 kc_X8_57 ?_
        obtain ⟨r79, M80, h78, h⟩ := br_b2 h
        refine J_callV (mj := mi_X8_finding) (as := [.int ((-100001 : Int32))]) (rest := []) (ct_X8_finding (C := C)  h78) ⟨rfl, rfl⟩ rfl rfl (by decide) rfl cg_X8_53 hd_X8_finding rfl ⟨Nat.le_of_ble_eq_true rfl, Nat.le_of_ble_eq_true rfl⟩ (Nat.le_of_ble_eq_true rfl) ⟨Nat.zero_le _, Nat.zero_le _⟩ dX8_light_29 ?_
        have h := Option.some.inj h
        subst h
        exact J_iret rfl rfl rfl (Kr _ _ rfl) dX8_light_32
theorem ct_X8_light {x1 : Int32} {x2 : Int32} {x3 : Int32} {C : aSc} {M : aMm} {v : Int32} {S' : aMm}  (h : f_X8_light x1 x2 x3 M = some (v, S')) : Ct mi_X8_light yX8_light [.ref (94), .int (x1), .int (x2), .int (x3)] (C, M) (some (.int v), (C, S')) := Ct_of_J (by decide +kernel) rfl (Nat.le_of_ble_eq_true rfl) (jm_X8_light  h (fun _ _ e => by cases e; rfl))
def mi_X8_as : aMi := (cX8_as, 4, RX8, (some .int), { frames := 2, cells := 0, slots := 0, locals := 43 })
def f_X8_as (x1 : Int32) (x2 : Int32) (M : aMm) : Option (Int32 × aMm) :=
  (f_X8_isLight x1 M).bind fun r2 => if (r2 : Int32) = 0 then bd2 (f_X8_finding (-100001 : Int32) M) fun r4 M5 => some (r4, M5) else (f_X8_within x2 (0 : Int32) (3 : Int32) M).bind fun r7 => if (r7 : Int32) = 0 then bd2 (f_X8_finding (-100001 : Int32) M) fun r23 M24 => some (r23, M24) else (f_X8_of x1 (0 : Int32) M).bind fun r9 => (m_ld M 1 r9).bind fun u10 => if (x2 : Int32) = 0 then some (x1, M) else if (u10 : Int32) = x2 then some (x1, M) else if (x2 : Int32) = (1 : Int32) then if (u10 : Int32) = (3 : Int32) then some (x1, M) else bd2 (f_X8_finding (-100004 : Int32) M) fun r16 M17 => some (r16, M17) else bd2 (f_X8_finding (-100004 : Int32) M) fun r13 M14 => some (r13, M14)
set_option maxRecDepth 100000 in
set_option maxHeartbeats 4000000 in
theorem jm_X8_as {x1 : Int32} {x2 : Int32} {C : aSc} {M : aMm}  {res : aRes} {r : Int32 × aMm} (h : f_X8_as x1 x2 M = some r) (Kr : ∀ (v : Int32) (S' : aMm), r = (v, S') → res = (some (.int v), (C, S'))) : J mi_X8_as res 0 0 0 [(0, .ref (94)), (1, .int (x1)), (2, .int (x2))] [] (C, M) := by
  rw [f_X8_as] at h
  refine J_aload_n dX8_as_0 rfl 0 rfl ?_
  refine J_iload_n dX8_as_1 rfl 1 rfl ?_
  obtain ⟨r2, h1, h⟩ := br_b h
  refine J_callV (mj := mi_X8_isLight) (as := [.int (x1)]) (rest := []) (ct_X8_isLight (C := C)  h1) ⟨rfl, rfl⟩ rfl rfl (by decide) rfl cg_X8_120 hd_X8_isLight rfl ⟨Nat.le_of_ble_eq_true rfl, Nat.le_of_ble_eq_true rfl⟩ (Nat.le_of_ble_eq_true rfl) ⟨Nat.zero_le _, Nat.zero_le _⟩ dX8_as_2 ?_
  refine J_if_eq 17 dX8_as_5 (by decide) (fun c26 => ?_) (fun c26 => ?_)
  · have h := br_p c26 h
    refine J_aload_n dX8_as_17 rfl 0 rfl ?_
    refine J_ldc (-100001) dX8_as_18 kc_X8_57 ?_
    obtain ⟨r4, M5, h3, h⟩ := br_b2 h
    refine J_callV (mj := mi_X8_finding) (as := [.int ((-100001 : Int32))]) (rest := []) (ct_X8_finding (C := C)  h3) ⟨rfl, rfl⟩ rfl rfl (by decide) rfl cg_X8_53 hd_X8_finding rfl ⟨Nat.le_of_ble_eq_true rfl, Nat.le_of_ble_eq_true rfl⟩ (Nat.le_of_ble_eq_true rfl) ⟨Nat.zero_le _, Nat.zero_le _⟩ dX8_as_20 ?_
    have h := Option.some.inj h
    subst h
    exact J_iret rfl rfl rfl (Kr _ _ rfl) dX8_as_23
  · have h := br_n c26 h
    refine J_iload_n dX8_as_8 rfl 2 rfl ?_
    refine J_iconst 0 dX8_as_9 rfl ?_
    refine J_iconst 3 dX8_as_10 rfl ?_
    obtain ⟨r7, h6, h⟩ := br_b h
    refine J_callS (mj := mi_X8_within) (as := [.int (x2), .int ((0 : Int32)), .int ((3 : Int32))]) (rest := []) (ct_X8_within (C := C)  h6) ⟨rfl, rfl⟩ rfl cg_X8_41 hd_X8_within rfl ⟨Nat.le_of_ble_eq_true rfl, Nat.le_of_ble_eq_true rfl⟩ (Nat.le_of_ble_eq_true rfl) ⟨Nat.zero_le _, Nat.zero_le _⟩ dX8_as_11 ?_
    refine J_if_ne 24 dX8_as_14 (by decide) (fun c25 => ?_) (fun c25 => ?_)
    · have h := br_n c25 h
      refine J_aload_n dX8_as_24 rfl 0 rfl ?_
      refine J_getr (j := 0) (t := 103) (r := 95) rfl (by decide) (by decide) rfl (by decide) rfl rfl kf_X8_9 dX8_as_25 ?_
      refine J_iload_n dX8_as_28 rfl 1 rfl ?_
      refine J_iconst 0 dX8_as_29 rfl ?_
      obtain ⟨r9, h8, h⟩ := br_b h
      refine J_callS (mj := mi_X8_of) (as := [.int (x1), .int ((0 : Int32))]) (rest := [.ref (95)]) (ct_X8_of (C := C)  h8) ⟨rfl, rfl⟩ rfl cg_X8_45 hd_X8_of rfl ⟨Nat.le_of_ble_eq_true rfl, Nat.le_of_ble_eq_true rfl⟩ (Nat.le_of_ble_eq_true rfl) ⟨Nat.zero_le _, Nat.zero_le _⟩ dX8_as_30 ?_
      obtain ⟨u10, h11, h⟩ := br_b h
      refine J_ialdM (m0 := 1) rfl rfl h11 dX8_as_33 ?_
      refine J_istore_n (L' := [(3, .int (u10)), (0, .ref (94)), (1, .int (x1)), (2, .int (x2))]) dX8_as_34 rfl (by decide) rfl ?_
      refine J_iload_n dX8_as_35 rfl 3 rfl ?_
      refine J_if_eq 54 dX8_as_36 (by decide) (fun c21 => ?_) (fun c21 => ?_)
      · have h := br_p c21 h
        refine J_iload_n dX8_as_54 rfl 2 rfl ?_
        refine J_goto 64 dX8_as_55 (by decide) ?_
        have h := Option.some.inj h
        subst h
        exact J_iret rfl rfl rfl (Kr _ _ rfl) dX8_as_64
      · have h := br_n c21 h
        refine J_iload_n dX8_as_39 rfl 0 rfl ?_
        refine J_iload_n dX8_as_40 rfl 3 rfl ?_
        refine J_icmp_eq 54 dX8_as_41 (by decide) (fun c20 => ?_) (fun c20 => ?_)
        · have h := br_p c20 h
          refine J_iload_n dX8_as_54 rfl 2 rfl ?_
          refine J_goto 64 dX8_as_55 (by decide) ?_
          have h := Option.some.inj h
          subst h
          exact J_iret rfl rfl rfl (Kr _ _ rfl) dX8_as_64
        · have h := br_n c20 h
          refine J_iload_n dX8_as_44 rfl 3 rfl ?_
          refine J_iconst 1 dX8_as_45 rfl ?_
          refine J_icmp_ne 58 dX8_as_46 (by decide) (fun c19 => ?_) (fun c19 => ?_)
          · have h := br_n c19 h
            refine J_aload_n dX8_as_58 rfl 1 rfl ?_
            refine J_ldc (-100004) dX8_as_59 kc_X8_123 ?_
            obtain ⟨r13, M14, h12, h⟩ := br_b2 h
            refine J_callV (mj := mi_X8_finding) (as := [.int ((-100004 : Int32))]) (rest := []) (ct_X8_finding (C := C)  h12) ⟨rfl, rfl⟩ rfl rfl (by decide) rfl cg_X8_53 hd_X8_finding rfl ⟨Nat.le_of_ble_eq_true rfl, Nat.le_of_ble_eq_true rfl⟩ (Nat.le_of_ble_eq_true rfl) ⟨Nat.zero_le _, Nat.zero_le _⟩ dX8_as_61 ?_
            have h := Option.some.inj h
            subst h
            exact J_iret rfl rfl rfl (Kr _ _ rfl) dX8_as_64
          · have h := br_p c19 h
            refine J_iload_n dX8_as_49 rfl 0 rfl ?_
            refine J_iconst 3 dX8_as_50 rfl ?_
            refine J_icmp_ne 58 dX8_as_51 (by decide) (fun c18 => ?_) (fun c18 => ?_)
            · have h := br_n c18 h
              refine J_aload_n dX8_as_58 rfl 1 rfl ?_
              refine J_ldc (-100004) dX8_as_59 kc_X8_123 ?_
              obtain ⟨r16, M17, h15, h⟩ := br_b2 h
              refine J_callV (mj := mi_X8_finding) (as := [.int ((-100004 : Int32))]) (rest := []) (ct_X8_finding (C := C)  h15) ⟨rfl, rfl⟩ rfl rfl (by decide) rfl cg_X8_53 hd_X8_finding rfl ⟨Nat.le_of_ble_eq_true rfl, Nat.le_of_ble_eq_true rfl⟩ (Nat.le_of_ble_eq_true rfl) ⟨Nat.zero_le _, Nat.zero_le _⟩ dX8_as_61 ?_
              have h := Option.some.inj h
              subst h
              exact J_iret rfl rfl rfl (Kr _ _ rfl) dX8_as_64
            · have h := br_p c18 h
              refine J_iload_n dX8_as_54 rfl 2 rfl ?_
              refine J_goto 64 dX8_as_55 (by decide) ?_
              have h := Option.some.inj h
              subst h
              exact J_iret rfl rfl rfl (Kr _ _ rfl) dX8_as_64
    · have h := br_p c25 h
      refine J_aload_n dX8_as_17 rfl 0 rfl ?_
      refine J_ldc (-100001) dX8_as_18 kc_X8_57 ?_
      obtain ⟨r23, M24, h22, h⟩ := br_b2 h
      refine J_callV (mj := mi_X8_finding) (as := [.int ((-100001 : Int32))]) (rest := []) (ct_X8_finding (C := C)  h22) ⟨rfl, rfl⟩ rfl rfl (by decide) rfl cg_X8_53 hd_X8_finding rfl ⟨Nat.le_of_ble_eq_true rfl, Nat.le_of_ble_eq_true rfl⟩ (Nat.le_of_ble_eq_true rfl) ⟨Nat.zero_le _, Nat.zero_le _⟩ dX8_as_20 ?_
      have h := Option.some.inj h
      subst h
      exact J_iret rfl rfl rfl (Kr _ _ rfl) dX8_as_23
theorem ct_X8_as {x1 : Int32} {x2 : Int32} {C : aSc} {M : aMm} {v : Int32} {S' : aMm}  (h : f_X8_as x1 x2 M = some (v, S')) : Ct mi_X8_as yX8_as [.ref (94), .int (x1), .int (x2)] (C, M) (some (.int v), (C, S')) := Ct_of_J (by decide +kernel) rfl (Nat.le_of_ble_eq_true rfl) (jm_X8_as  h (fun _ _ e => by cases e; rfl))
def mi_X8_ones : aMi := (cX8_ones, 3, RX8, (some .int), { frames := 0, cells := 0, slots := 0, locals := 0 })
def b_X8_ones_4 (x0 : Int32) (x1 : Int32) (x2 : Int32) (M : aMm) : Option ((Int32 × Int32) ⊕ (Int32)) :=
  if ((30 : Int32) : Int32) ≤ x2 then some (.inr x1) else some (.inl ((x1 + ((x0 >>> (x2 &&& 31)) &&& (1 : Int32))), (x2 + (1 : Int32))))
set_option maxRecDepth 100000 in
set_option maxHeartbeats 4000000 in
theorem jl_X8_ones_4 {x0 : Int32} {M : aMm} {C : aSc}  {res : aRes} {r : Int32} : ∀ (n : Nat) (x1 : Int32) (x2 : Int32), lpf (fun a : Int32 × Int32 => b_X8_ones_4 (x0) a.1 a.2 M) n (x1, x2) = some r → (∀ (z1 : Int32), r = z1 → J mi_X8_ones res 0 0 24 [(1, .int (z1))] [] (C, M)) → J mi_X8_ones res 0 0 4 [(0, .int (x0)), (1, .int (x1)), (2, .int (x2))] [] (C, M) := by
  intro n
  induction n with
  | zero =>
    intro x1 x2 h
    cases h
  | succ n ih =>
    intro x1 x2 h Kx
    obtain ⟨r0, h, h2⟩ := br_b h
    have h : b_X8_ones_4 x0 x1 x2 M = some r0 := h
    rw [b_X8_ones_4] at h
    refine J_iload_n dX8_ones_4 rfl 2 rfl ?_
    refine J_bipush 30 dX8_ones_5 rfl ?_
    refine J_icmp_ge 24 dX8_ones_7 (by decide) (fun c1 => ?_) (fun c1 => ?_)
    · have h := br_p c1 h
      have h := Option.some.inj h
      subst h
      have h2 := Option.some.inj h2
      subst h2
      refine J_sub [1] rfl ?_
      exact Kx _ rfl
    · have h := br_n c1 h
      refine J_iload_n dX8_ones_10 rfl 1 rfl ?_
      refine J_iload_n dX8_ones_11 rfl 0 rfl ?_
      refine J_iload_n dX8_ones_12 rfl 2 rfl ?_
      refine J_ishr dX8_ones_13 ?_
      refine J_iconst 1 dX8_ones_14 rfl ?_
      refine J_iand dX8_ones_15 ?_
      refine J_iadd dX8_ones_16 ?_
      refine J_istore_n (L' := [(1, .int ((x1 + ((x0 >>> (x2 &&& 31)) &&& (1 : Int32))))), (0, .int (x0)), (2, .int (x2))]) dX8_ones_17 rfl (by decide) rfl ?_
      refine J_iinc (j := 2) (v := (x2 + (1 : Int32))) (L' := [(2, .int ((x2 + (1 : Int32)))), (1, .int ((x1 + ((x0 >>> (x2 &&& 31)) &&& (1 : Int32))))), (0, .int (x0))]) dX8_ones_18 rfl rfl (by decide) rfl ?_
      refine J_goto 4 dX8_ones_21 (by decide) ?_
      have h := Option.some.inj h
      subst h
      refine J_sub [2, 1, 0] rfl ?_
      exact ih _ _ h2 Kx
def f_X8_ones (x0 : Int32) (M : aMm) : Option (Int32) :=
  (lpf (fun a : Int32 × Int32 => b_X8_ones_4 (x0) a.1 a.2 M) FU ((0 : Int32), (0 : Int32))).bind fun z2 => some z2
set_option maxRecDepth 100000 in
set_option maxHeartbeats 4000000 in
theorem jm_X8_ones {x0 : Int32} {C : aSc} {M : aMm}  {res : aRes} {r : Int32} (h : f_X8_ones x0 M = some r) (Kr : ∀ (v : Int32), r = v → res = (some (.int v), (C, M))) : J mi_X8_ones res 0 0 0 [(0, .int (x0))] [] (C, M) := by
  rw [f_X8_ones] at h
  refine J_iconst 0 dX8_ones_0 rfl ?_
  refine J_istore_n (L' := [(1, .int ((0 : Int32))), (0, .int (x0))]) dX8_ones_1 rfl (by decide) rfl ?_
  refine J_iconst 0 dX8_ones_2 rfl ?_
  refine J_istore_n (L' := [(2, .int ((0 : Int32))), (1, .int ((0 : Int32))), (0, .int (x0))]) dX8_ones_3 rfl (by decide) rfl ?_
  refine J_sub [2, 1, 0] rfl ?_
  obtain ⟨z2, h3, h⟩ := br_b h
  refine jl_X8_ones_4  FU _ _ h3 ?_
  intro zz e
  subst e
  refine J_iload_n dX8_ones_24 rfl 0 rfl ?_
  have h := Option.some.inj h
  subst h
  exact J_iret rfl rfl rfl (Kr _ rfl) dX8_ones_25
theorem ct_X8_ones {x0 : Int32} {C : aSc} {M : aMm} {v : Int32}  (h : f_X8_ones x0 M = some v) : Ct mi_X8_ones yX8_ones [.int (x0)] (C, M) (some (.int v), (C, M)) := Ct_of_J (by decide +kernel) rfl (Nat.le_of_ble_eq_true rfl) (jm_X8_ones  h (fun _ e => by cases e; rfl))
def mi_X8_lightIs : aMi := (cX8_lightIs, 4, RX8, (some .int), { frames := 2, cells := 0, slots := 0, locals := 43 })
def f_X8_lightIs (x1 : Int32) (x2 : Int32) (M : aMm) : Option (Int32 × aMm) :=
  (f_X8_isLight x1 M).bind fun r2 => if (r2 : Int32) = 0 then bd2 (f_X8_finding (-100001 : Int32) M) fun r4 M5 => some (r4, M5) else (f_X8_within x2 (0 : Int32) (7 : Int32) M).bind fun r7 => if (r7 : Int32) = 0 then bd2 (f_X8_finding (-100001 : Int32) M) fun r16 M17 => some (r16, M17) else (f_X8_of x1 x2 M).bind fun r9 => (m_ld M 1 r9).bind fun u10 => if (x2 : Int32) = (5 : Int32) then (f_X8_ones u10 M).bind fun r13 => some (r13, M) else some (u10, M)
set_option maxRecDepth 100000 in
set_option maxHeartbeats 4000000 in
theorem jm_X8_lightIs {x1 : Int32} {x2 : Int32} {C : aSc} {M : aMm}  {res : aRes} {r : Int32 × aMm} (h : f_X8_lightIs x1 x2 M = some r) (Kr : ∀ (v : Int32) (S' : aMm), r = (v, S') → res = (some (.int v), (C, S'))) : J mi_X8_lightIs res 0 0 0 [(0, .ref (94)), (1, .int (x1)), (2, .int (x2))] [] (C, M) := by
  rw [f_X8_lightIs] at h
  refine J_aload_n dX8_lightIs_0 rfl 0 rfl ?_
  refine J_iload_n dX8_lightIs_1 rfl 1 rfl ?_
  obtain ⟨r2, h1, h⟩ := br_b h
  refine J_callV (mj := mi_X8_isLight) (as := [.int (x1)]) (rest := []) (ct_X8_isLight (C := C)  h1) ⟨rfl, rfl⟩ rfl rfl (by decide) rfl cg_X8_120 hd_X8_isLight rfl ⟨Nat.le_of_ble_eq_true rfl, Nat.le_of_ble_eq_true rfl⟩ (Nat.le_of_ble_eq_true rfl) ⟨Nat.zero_le _, Nat.zero_le _⟩ dX8_lightIs_2 ?_
  refine J_if_eq 18 dX8_lightIs_5 (by decide) (fun c19 => ?_) (fun c19 => ?_)
  · have h := br_p c19 h
    refine J_aload_n dX8_lightIs_18 rfl 0 rfl ?_
    refine J_ldc (-100001) dX8_lightIs_19 kc_X8_57 ?_
    obtain ⟨r4, M5, h3, h⟩ := br_b2 h
    refine J_callV (mj := mi_X8_finding) (as := [.int ((-100001 : Int32))]) (rest := []) (ct_X8_finding (C := C)  h3) ⟨rfl, rfl⟩ rfl rfl (by decide) rfl cg_X8_53 hd_X8_finding rfl ⟨Nat.le_of_ble_eq_true rfl, Nat.le_of_ble_eq_true rfl⟩ (Nat.le_of_ble_eq_true rfl) ⟨Nat.zero_le _, Nat.zero_le _⟩ dX8_lightIs_21 ?_
    have h := Option.some.inj h
    subst h
    exact J_iret rfl rfl rfl (Kr _ _ rfl) dX8_lightIs_24
  · have h := br_n c19 h
    refine J_iload_n dX8_lightIs_8 rfl 2 rfl ?_
    refine J_iconst 0 dX8_lightIs_9 rfl ?_
    refine J_bipush 7 dX8_lightIs_10 rfl ?_
    obtain ⟨r7, h6, h⟩ := br_b h
    refine J_callS (mj := mi_X8_within) (as := [.int (x2), .int ((0 : Int32)), .int ((7 : Int32))]) (rest := []) (ct_X8_within (C := C)  h6) ⟨rfl, rfl⟩ rfl cg_X8_41 hd_X8_within rfl ⟨Nat.le_of_ble_eq_true rfl, Nat.le_of_ble_eq_true rfl⟩ (Nat.le_of_ble_eq_true rfl) ⟨Nat.zero_le _, Nat.zero_le _⟩ dX8_lightIs_12 ?_
    refine J_if_ne 25 dX8_lightIs_15 (by decide) (fun c18 => ?_) (fun c18 => ?_)
    · have h := br_n c18 h
      refine J_aload_n dX8_lightIs_25 rfl 0 rfl ?_
      refine J_getr (j := 0) (t := 103) (r := 95) rfl (by decide) (by decide) rfl (by decide) rfl rfl kf_X8_9 dX8_lightIs_26 ?_
      refine J_iload_n dX8_lightIs_29 rfl 1 rfl ?_
      refine J_iload_n dX8_lightIs_30 rfl 2 rfl ?_
      obtain ⟨r9, h8, h⟩ := br_b h
      refine J_callS (mj := mi_X8_of) (as := [.int (x1), .int (x2)]) (rest := [.ref (95)]) (ct_X8_of (C := C)  h8) ⟨rfl, rfl⟩ rfl cg_X8_45 hd_X8_of rfl ⟨Nat.le_of_ble_eq_true rfl, Nat.le_of_ble_eq_true rfl⟩ (Nat.le_of_ble_eq_true rfl) ⟨Nat.zero_le _, Nat.zero_le _⟩ dX8_lightIs_31 ?_
      obtain ⟨u10, h11, h⟩ := br_b h
      refine J_ialdM (m0 := 1) rfl rfl h11 dX8_lightIs_34 ?_
      refine J_istore_n (L' := [(3, .int (u10)), (0, .ref (94)), (1, .int (x1)), (2, .int (x2))]) dX8_lightIs_35 rfl (by decide) rfl ?_
      refine J_iload_n dX8_lightIs_36 rfl 3 rfl ?_
      refine J_iconst 5 dX8_lightIs_37 rfl ?_
      refine J_icmp_ne 48 dX8_lightIs_38 (by decide) (fun c14 => ?_) (fun c14 => ?_)
      · have h := br_n c14 h
        refine J_iload_n dX8_lightIs_48 rfl 0 rfl ?_
        have h := Option.some.inj h
        subst h
        exact J_iret rfl rfl rfl (Kr _ _ rfl) dX8_lightIs_49
      · have h := br_p c14 h
        refine J_iload_n dX8_lightIs_41 rfl 0 rfl ?_
        obtain ⟨r13, h12, h⟩ := br_b h
        refine J_callS (mj := mi_X8_ones) (as := [.int (u10)]) (rest := []) (ct_X8_ones (C := C)  h12) ⟨rfl, rfl⟩ rfl cg_X8_124 hd_X8_ones rfl ⟨Nat.le_of_ble_eq_true rfl, Nat.le_of_ble_eq_true rfl⟩ (Nat.le_of_ble_eq_true rfl) ⟨Nat.zero_le _, Nat.zero_le _⟩ dX8_lightIs_42 ?_
        refine J_goto 49 dX8_lightIs_45 (by decide) ?_
        have h := Option.some.inj h
        subst h
        exact J_iret rfl rfl rfl (Kr _ _ rfl) dX8_lightIs_49
    · have h := br_p c18 h
      refine J_aload_n dX8_lightIs_18 rfl 0 rfl ?_
      refine J_ldc (-100001) dX8_lightIs_19 kc_X8_57 ?_
      obtain ⟨r16, M17, h15, h⟩ := br_b2 h
      refine J_callV (mj := mi_X8_finding) (as := [.int ((-100001 : Int32))]) (rest := []) (ct_X8_finding (C := C)  h15) ⟨rfl, rfl⟩ rfl rfl (by decide) rfl cg_X8_53 hd_X8_finding rfl ⟨Nat.le_of_ble_eq_true rfl, Nat.le_of_ble_eq_true rfl⟩ (Nat.le_of_ble_eq_true rfl) ⟨Nat.zero_le _, Nat.zero_le _⟩ dX8_lightIs_21 ?_
      have h := Option.some.inj h
      subst h
      exact J_iret rfl rfl rfl (Kr _ _ rfl) dX8_lightIs_24
theorem ct_X8_lightIs {x1 : Int32} {x2 : Int32} {C : aSc} {M : aMm} {v : Int32} {S' : aMm}  (h : f_X8_lightIs x1 x2 M = some (v, S')) : Ct mi_X8_lightIs yX8_lightIs [.ref (94), .int (x1), .int (x2)] (C, M) (some (.int v), (C, S')) := Ct_of_J (by decide +kernel) rfl (Nat.le_of_ble_eq_true rfl) (jm_X8_lightIs  h (fun _ _ e => by cases e; rfl))
def mi_X8_hasLight : aMi := (cX8_hasLight, 3, RX8, (some .boolean), { frames := 1, cells := 0, slots := 0, locals := 21 })
def f_X8_hasLight (x1 : Int32) (x2 : Int32) (M : aMm) : Option (Int32) :=
  (f_X8_of x1 (5 : Int32) M).bind fun r2 => (m_ld M 1 r2).bind fun u3 => (f_X8_of x1 (4 : Int32) M).bind fun r6 => (m_ld M 1 r6).bind fun u7 => if u7 = 0 then none else if (((u3 >>> ((x2 - x2 / u7 * u7) &&& 31)) &&& (1 : Int32)) : Int32) = (1 : Int32) then some (1 : Int32) else some (0 : Int32)
set_option maxRecDepth 100000 in
set_option maxHeartbeats 4000000 in
theorem jm_X8_hasLight {x1 : Int32} {x2 : Int32} {C : aSc} {M : aMm}  {res : aRes} {r : Int32} (h : f_X8_hasLight x1 x2 M = some r) (Kr : ∀ (v : Int32), r = v → res = (some (.int v), (C, M))) : J mi_X8_hasLight res 0 0 0 [(0, .ref (94)), (1, .int (x1)), (2, .int (x2))] [] (C, M) := by
  rw [f_X8_hasLight] at h
  refine J_aload_n dX8_hasLight_0 rfl 0 rfl ?_
  refine J_getr (j := 0) (t := 103) (r := 95) rfl (by decide) (by decide) rfl (by decide) rfl rfl kf_X8_9 dX8_hasLight_1 ?_
  refine J_iload_n dX8_hasLight_4 rfl 1 rfl ?_
  refine J_iconst 5 dX8_hasLight_5 rfl ?_
  obtain ⟨r2, h1, h⟩ := br_b h
  refine J_callS (mj := mi_X8_of) (as := [.int (x1), .int ((5 : Int32))]) (rest := [.ref (95)]) (ct_X8_of (C := C)  h1) ⟨rfl, rfl⟩ rfl cg_X8_45 hd_X8_of rfl ⟨Nat.le_of_ble_eq_true rfl, Nat.le_of_ble_eq_true rfl⟩ (Nat.le_of_ble_eq_true rfl) ⟨Nat.zero_le _, Nat.zero_le _⟩ dX8_hasLight_6 ?_
  obtain ⟨u3, h4, h⟩ := br_b h
  refine J_ialdM (m0 := 1) rfl rfl h4 dX8_hasLight_9 ?_
  refine J_iload_n dX8_hasLight_10 rfl 2 rfl ?_
  refine J_aload_n dX8_hasLight_11 rfl 0 rfl ?_
  refine J_getr (j := 0) (t := 103) (r := 95) rfl (by decide) (by decide) rfl (by decide) rfl rfl kf_X8_9 dX8_hasLight_12 ?_
  refine J_iload_n dX8_hasLight_15 rfl 1 rfl ?_
  refine J_iconst 4 dX8_hasLight_16 rfl ?_
  obtain ⟨r6, h5, h⟩ := br_b h
  refine J_callS (mj := mi_X8_of) (as := [.int (x1), .int ((4 : Int32))]) (rest := [.ref (95), .int (x2), .int (u3)]) (ct_X8_of (C := C)  h5) ⟨rfl, rfl⟩ rfl cg_X8_45 hd_X8_of rfl ⟨Nat.le_of_ble_eq_true rfl, Nat.le_of_ble_eq_true rfl⟩ (Nat.le_of_ble_eq_true rfl) ⟨Nat.zero_le _, Nat.zero_le _⟩ dX8_hasLight_17 ?_
  obtain ⟨u7, h8, h⟩ := br_b h
  refine J_ialdM (m0 := 1) rfl rfl h8 dX8_hasLight_20 ?_
  obtain ⟨n9, h⟩ := br_z h
  refine J_irem dX8_hasLight_21 n9 ?_
  refine J_ishr dX8_hasLight_22 ?_
  refine J_iconst 1 dX8_hasLight_23 rfl ?_
  refine J_iand dX8_hasLight_24 ?_
  refine J_iconst 1 dX8_hasLight_25 rfl ?_
  refine J_icmp_ne 33 dX8_hasLight_26 (by decide) (fun c10 => ?_) (fun c10 => ?_)
  · have h := br_n c10 h
    refine J_iconst 0 dX8_hasLight_33 rfl ?_
    have h := Option.some.inj h
    subst h
    exact J_zret (Or.inl rfl) rfl rfl rfl (Kr _ rfl) dX8_hasLight_34
  · have h := br_p c10 h
    refine J_iconst 1 dX8_hasLight_29 rfl ?_
    refine J_goto 34 dX8_hasLight_30 (by decide) ?_
    have h := Option.some.inj h
    subst h
    exact J_zret (Or.inr rfl) rfl rfl rfl (Kr _ rfl) dX8_hasLight_34
theorem ct_X8_hasLight {x1 : Int32} {x2 : Int32} {C : aSc} {M : aMm} {v : Int32}  (h : f_X8_hasLight x1 x2 M = some v) : Ct mi_X8_hasLight yX8_hasLight [.ref (94), .int (x1), .int (x2)] (C, M) (some (.int v), (C, M)) := Ct_of_J (by decide +kernel) rfl (Nat.le_of_ble_eq_true rfl) (jm_X8_hasLight  h (fun _ e => by cases e; rfl))
def mi_X8_at : aMi := (cX8_at, 3, RX8, (some .int), { frames := 2, cells := 0, slots := 0, locals := 43 })
def f_X8_at (x1 : Int32) (x2 : Int32) (M : aMm) : Option (Int32 × aMm) :=
  (f_X8_isLight x1 M).bind fun r2 => if (r2 : Int32) = 0 then bd2 (f_X8_finding (-100001 : Int32) M) fun r4 M5 => some (r4, M5) else if 0 ≤ (x2 : Int32) then (f_X8_hasLight x1 x2 M).bind fun r7 => if (r7 : Int32) = 0 then some ((0 : Int32), M) else some ((1 : Int32), M) else bd2 (f_X8_finding (-100001 : Int32) M) fun r10 M11 => some (r10, M11)
set_option maxRecDepth 100000 in
set_option maxHeartbeats 4000000 in
theorem jm_X8_at {x1 : Int32} {x2 : Int32} {C : aSc} {M : aMm}  {res : aRes} {r : Int32 × aMm} (h : f_X8_at x1 x2 M = some r) (Kr : ∀ (v : Int32) (S' : aMm), r = (v, S') → res = (some (.int v), (C, S'))) : J mi_X8_at res 0 0 0 [(0, .ref (94)), (1, .int (x1)), (2, .int (x2))] [] (C, M) := by
  rw [f_X8_at] at h
  refine J_aload_n dX8_at_0 rfl 0 rfl ?_
  refine J_iload_n dX8_at_1 rfl 1 rfl ?_
  obtain ⟨r2, h1, h⟩ := br_b h
  refine J_callV (mj := mi_X8_isLight) (as := [.int (x1)]) (rest := []) (ct_X8_isLight (C := C)  h1) ⟨rfl, rfl⟩ rfl rfl (by decide) rfl cg_X8_120 hd_X8_isLight rfl ⟨Nat.le_of_ble_eq_true rfl, Nat.le_of_ble_eq_true rfl⟩ (Nat.le_of_ble_eq_true rfl) ⟨Nat.zero_le _, Nat.zero_le _⟩ dX8_at_2 ?_
  refine J_if_eq 12 dX8_at_5 (by decide) (fun c13 => ?_) (fun c13 => ?_)
  · have h := br_p c13 h
    refine J_aload_n dX8_at_12 rfl 0 rfl ?_
    refine J_ldc (-100001) dX8_at_13 kc_X8_57 ?_
    obtain ⟨r4, M5, h3, h⟩ := br_b2 h
    refine J_callV (mj := mi_X8_finding) (as := [.int ((-100001 : Int32))]) (rest := []) (ct_X8_finding (C := C)  h3) ⟨rfl, rfl⟩ rfl rfl (by decide) rfl cg_X8_53 hd_X8_finding rfl ⟨Nat.le_of_ble_eq_true rfl, Nat.le_of_ble_eq_true rfl⟩ (Nat.le_of_ble_eq_true rfl) ⟨Nat.zero_le _, Nat.zero_le _⟩ dX8_at_15 ?_
    have h := Option.some.inj h
    subst h
    exact J_iret rfl rfl rfl (Kr _ _ rfl) dX8_at_18
  · have h := br_n c13 h
    refine J_iload_n dX8_at_8 rfl 2 rfl ?_
    refine J_if_ge 19 dX8_at_9 (by decide) (fun c12 => ?_) (fun c12 => ?_)
    · have h := br_p c12 h
      refine J_aload_n dX8_at_19 rfl 0 rfl ?_
      refine J_iload_n dX8_at_20 rfl 1 rfl ?_
      refine J_iload_n dX8_at_21 rfl 2 rfl ?_
      obtain ⟨r7, h6, h⟩ := br_b h
      refine J_callV (mj := mi_X8_hasLight) (as := [.int (x1), .int (x2)]) (rest := []) (ct_X8_hasLight (C := C)  h6) ⟨rfl, rfl⟩ rfl rfl (by decide) rfl cg_X8_127 hd_X8_hasLight rfl ⟨Nat.le_of_ble_eq_true rfl, Nat.le_of_ble_eq_true rfl⟩ (Nat.le_of_ble_eq_true rfl) ⟨Nat.zero_le _, Nat.zero_le _⟩ dX8_at_22 ?_
      refine J_if_eq 32 dX8_at_25 (by decide) (fun c8 => ?_) (fun c8 => ?_)
      · have h := br_p c8 h
        refine J_iconst 0 dX8_at_32 rfl ?_
        have h := Option.some.inj h
        subst h
        exact J_iret rfl rfl rfl (Kr _ _ rfl) dX8_at_33
      · have h := br_n c8 h
        refine J_iconst 1 dX8_at_28 rfl ?_
        refine J_goto 33 dX8_at_29 (by decide) ?_
        have h := Option.some.inj h
        subst h
        exact J_iret rfl rfl rfl (Kr _ _ rfl) dX8_at_33
    · have h := br_n c12 h
      refine J_aload_n dX8_at_12 rfl 0 rfl ?_
      refine J_ldc (-100001) dX8_at_13 kc_X8_57 ?_
      obtain ⟨r10, M11, h9, h⟩ := br_b2 h
      refine J_callV (mj := mi_X8_finding) (as := [.int ((-100001 : Int32))]) (rest := []) (ct_X8_finding (C := C)  h9) ⟨rfl, rfl⟩ rfl rfl (by decide) rfl cg_X8_53 hd_X8_finding rfl ⟨Nat.le_of_ble_eq_true rfl, Nat.le_of_ble_eq_true rfl⟩ (Nat.le_of_ble_eq_true rfl) ⟨Nat.zero_le _, Nat.zero_le _⟩ dX8_at_15 ?_
      have h := Option.some.inj h
      subst h
      exact J_iret rfl rfl rfl (Kr _ _ rfl) dX8_at_18
theorem ct_X8_at {x1 : Int32} {x2 : Int32} {C : aSc} {M : aMm} {v : Int32} {S' : aMm}  (h : f_X8_at x1 x2 M = some (v, S')) : Ct mi_X8_at yX8_at [.ref (94), .int (x1), .int (x2)] (C, M) (some (.int v), (C, S')) := Ct_of_J (by decide +kernel) rfl (Nat.le_of_ble_eq_true rfl) (jm_X8_at  h (fun _ _ e => by cases e; rfl))
def mi_X8_sector : aMi := (cX8_sector, 7, RX8, (some .int), { frames := 2, cells := 0, slots := 0, locals := 43 })
def f_X8_sector (x1 : Int32) (x2 : Int32) (x3 : Int32) (x4 : Int32) (M : aMm) : Option (Int32 × aMm) :=
  (f_X8_isLight x1 M).bind fun r2 => if (r2 : Int32) = 0 then bd2 (f_X8_finding (-100001 : Int32) M) fun r4 M5 => some (r4, M5) else (f_X8_isWay x2 M).bind fun r7 => if (r7 : Int32) = 0 then bd2 (f_X8_finding (-100001 : Int32) M) fun r9 M10 => some (r9, M10) else (f_X8_isWay x3 M).bind fun r12 => if (r12 : Int32) = 0 then bd2 (f_X8_finding (-100001 : Int32) M) fun r14 M15 => some (r14, M15) else (f_X8_within x4 (0 : Int32) (3 : Int32) M).bind fun r17 => if (r17 : Int32) = 0 then bd2 (f_X8_finding (-100001 : Int32) M) fun r43 M44 => some (r43, M44) else (f_X8_of x1 (6 : Int32) M).bind fun r19 => (m_ld M 1 r19).bind fun u20 => if (u20 : Int32) = (4 : Int32) then bd2 (f_X8_finding (-100005 : Int32) M) fun r39 M40 => some (r39, M40) else (f_X8_keep  M).bind fun M23 => (f_X8_of x1 ((10 : Int32) + ((3 : Int32) * u20)) M23).bind fun r25 => (m_st M23 1 r25 x2).bind fun M26 => (m_st M26 1 (r25 + (1 : Int32)) x3).bind fun M28 => (m_st M28 1 (r25 + (2 : Int32)) x4).bind fun M30 => (f_X8_of x1 (6 : Int32) M30).bind fun r33 => (m_ld M30 1 r33).bind fun u34 => (m_st M30 1 r33 (u34 + (1 : Int32))).bind fun M36 => some ((u20 + (1 : Int32)), M36)
set_option maxRecDepth 100000 in
set_option maxHeartbeats 4000000 in
theorem jm_X8_sector {x1 : Int32} {x2 : Int32} {x3 : Int32} {x4 : Int32} {C : aSc} {M : aMm}  {res : aRes} {r : Int32 × aMm} (h : f_X8_sector x1 x2 x3 x4 M = some r) (Kr : ∀ (v : Int32) (S' : aMm), r = (v, S') → res = (some (.int v), (C, S'))) : J mi_X8_sector res 0 0 0 [(0, .ref (94)), (1, .int (x1)), (2, .int (x2)), (3, .int (x3)), (4, .int (x4))] [] (C, M) := by
  rw [f_X8_sector] at h
  refine J_aload_n dX8_sector_0 rfl 0 rfl ?_
  refine J_iload_n dX8_sector_1 rfl 1 rfl ?_
  obtain ⟨r2, h1, h⟩ := br_b h
  refine J_callV (mj := mi_X8_isLight) (as := [.int (x1)]) (rest := []) (ct_X8_isLight (C := C)  h1) ⟨rfl, rfl⟩ rfl rfl (by decide) rfl cg_X8_120 hd_X8_isLight rfl ⟨Nat.le_of_ble_eq_true rfl, Nat.le_of_ble_eq_true rfl⟩ (Nat.le_of_ble_eq_true rfl) ⟨Nat.zero_le _, Nat.zero_le _⟩ dX8_sector_2 ?_
  refine J_if_eq 32 dX8_sector_5 (by decide) (fun c48 => ?_) (fun c48 => ?_)
  · have h := br_p c48 h
    refine J_aload_n dX8_sector_32 rfl 0 rfl ?_
    refine J_ldc (-100001) dX8_sector_33 kc_X8_57 ?_
    obtain ⟨r4, M5, h3, h⟩ := br_b2 h
    refine J_callV (mj := mi_X8_finding) (as := [.int ((-100001 : Int32))]) (rest := []) (ct_X8_finding (C := C)  h3) ⟨rfl, rfl⟩ rfl rfl (by decide) rfl cg_X8_53 hd_X8_finding rfl ⟨Nat.le_of_ble_eq_true rfl, Nat.le_of_ble_eq_true rfl⟩ (Nat.le_of_ble_eq_true rfl) ⟨Nat.zero_le _, Nat.zero_le _⟩ dX8_sector_35 ?_
    have h := Option.some.inj h
    subst h
    exact J_iret rfl rfl rfl (Kr _ _ rfl) dX8_sector_38
  · have h := br_n c48 h
    refine J_iload_n dX8_sector_8 rfl 2 rfl ?_
    obtain ⟨r7, h6, h⟩ := br_b h
    refine J_callS (mj := mi_X8_isWay) (as := [.int (x2)]) (rest := []) (ct_X8_isWay (C := C)  h6) ⟨rfl, rfl⟩ rfl cg_X8_131 hd_X8_isWay rfl ⟨Nat.le_of_ble_eq_true rfl, Nat.le_of_ble_eq_true rfl⟩ (Nat.le_of_ble_eq_true rfl) ⟨Nat.zero_le _, Nat.zero_le _⟩ dX8_sector_9 ?_
    refine J_if_eq 32 dX8_sector_12 (by decide) (fun c47 => ?_) (fun c47 => ?_)
    · have h := br_p c47 h
      refine J_aload_n dX8_sector_32 rfl 0 rfl ?_
      refine J_ldc (-100001) dX8_sector_33 kc_X8_57 ?_
      obtain ⟨r9, M10, h8, h⟩ := br_b2 h
      refine J_callV (mj := mi_X8_finding) (as := [.int ((-100001 : Int32))]) (rest := []) (ct_X8_finding (C := C)  h8) ⟨rfl, rfl⟩ rfl rfl (by decide) rfl cg_X8_53 hd_X8_finding rfl ⟨Nat.le_of_ble_eq_true rfl, Nat.le_of_ble_eq_true rfl⟩ (Nat.le_of_ble_eq_true rfl) ⟨Nat.zero_le _, Nat.zero_le _⟩ dX8_sector_35 ?_
      have h := Option.some.inj h
      subst h
      exact J_iret rfl rfl rfl (Kr _ _ rfl) dX8_sector_38
    · have h := br_n c47 h
      refine J_iload_n dX8_sector_15 rfl 3 rfl ?_
      obtain ⟨r12, h11, h⟩ := br_b h
      refine J_callS (mj := mi_X8_isWay) (as := [.int (x3)]) (rest := []) (ct_X8_isWay (C := C)  h11) ⟨rfl, rfl⟩ rfl cg_X8_131 hd_X8_isWay rfl ⟨Nat.le_of_ble_eq_true rfl, Nat.le_of_ble_eq_true rfl⟩ (Nat.le_of_ble_eq_true rfl) ⟨Nat.zero_le _, Nat.zero_le _⟩ dX8_sector_16 ?_
      refine J_if_eq 32 dX8_sector_19 (by decide) (fun c46 => ?_) (fun c46 => ?_)
      · have h := br_p c46 h
        refine J_aload_n dX8_sector_32 rfl 0 rfl ?_
        refine J_ldc (-100001) dX8_sector_33 kc_X8_57 ?_
        obtain ⟨r14, M15, h13, h⟩ := br_b2 h
        refine J_callV (mj := mi_X8_finding) (as := [.int ((-100001 : Int32))]) (rest := []) (ct_X8_finding (C := C)  h13) ⟨rfl, rfl⟩ rfl rfl (by decide) rfl cg_X8_53 hd_X8_finding rfl ⟨Nat.le_of_ble_eq_true rfl, Nat.le_of_ble_eq_true rfl⟩ (Nat.le_of_ble_eq_true rfl) ⟨Nat.zero_le _, Nat.zero_le _⟩ dX8_sector_35 ?_
        have h := Option.some.inj h
        subst h
        exact J_iret rfl rfl rfl (Kr _ _ rfl) dX8_sector_38
      · have h := br_n c46 h
        refine J_iload dX8_sector_22 4 rfl ?_
        refine J_iconst 0 dX8_sector_24 rfl ?_
        refine J_iconst 3 dX8_sector_25 rfl ?_
        obtain ⟨r17, h16, h⟩ := br_b h
        refine J_callS (mj := mi_X8_within) (as := [.int (x4), .int ((0 : Int32)), .int ((3 : Int32))]) (rest := []) (ct_X8_within (C := C)  h16) ⟨rfl, rfl⟩ rfl cg_X8_41 hd_X8_within rfl ⟨Nat.le_of_ble_eq_true rfl, Nat.le_of_ble_eq_true rfl⟩ (Nat.le_of_ble_eq_true rfl) ⟨Nat.zero_le _, Nat.zero_le _⟩ dX8_sector_26 ?_
        refine J_if_ne 39 dX8_sector_29 (by decide) (fun c45 => ?_) (fun c45 => ?_)
        · have h := br_n c45 h
          refine J_aload_n dX8_sector_39 rfl 0 rfl ?_
          refine J_getr (j := 0) (t := 103) (r := 95) rfl (by decide) (by decide) rfl (by decide) rfl rfl kf_X8_9 dX8_sector_40 ?_
          refine J_iload_n dX8_sector_43 rfl 1 rfl ?_
          refine J_bipush 6 dX8_sector_44 rfl ?_
          obtain ⟨r19, h18, h⟩ := br_b h
          refine J_callS (mj := mi_X8_of) (as := [.int (x1), .int ((6 : Int32))]) (rest := [.ref (95)]) (ct_X8_of (C := C)  h18) ⟨rfl, rfl⟩ rfl cg_X8_45 hd_X8_of rfl ⟨Nat.le_of_ble_eq_true rfl, Nat.le_of_ble_eq_true rfl⟩ (Nat.le_of_ble_eq_true rfl) ⟨Nat.zero_le _, Nat.zero_le _⟩ dX8_sector_46 ?_
          obtain ⟨u20, h21, h⟩ := br_b h
          refine J_ialdM (m0 := 1) rfl rfl h21 dX8_sector_49 ?_
          refine J_istore (L' := [(5, .int (u20)), (0, .ref (94)), (1, .int (x1)), (2, .int (x2)), (3, .int (x3)), (4, .int (x4))]) dX8_sector_50 (by decide) rfl ?_
          refine J_iload dX8_sector_52 0 rfl ?_
          refine J_iconst 4 dX8_sector_54 rfl ?_
          refine J_icmp_ne 65 dX8_sector_55 (by decide) (fun c41 => ?_) (fun c41 => ?_)
          · have h := br_n c41 h
            refine J_aload_n dX8_sector_65 rfl 1 rfl ?_
            obtain ⟨M23, h22, h⟩ := br_b h
            refine J_callV (mj := mi_X8_keep) (as := []) (rest := []) (ct_X8_keep (C := C)  h22) ⟨rfl, rfl⟩ rfl rfl (by decide) rfl cg_X8_114 hd_X8_keep rfl ⟨Nat.le_of_ble_eq_true rfl, Nat.le_of_ble_eq_true rfl⟩ (Nat.le_of_ble_eq_true rfl) ⟨Nat.zero_le _, Nat.zero_le _⟩ dX8_sector_66 ?_
            refine J_iload_n dX8_sector_69 rfl 2 rfl ?_
            refine J_bipush 10 dX8_sector_70 rfl ?_
            refine J_iconst 3 dX8_sector_72 rfl ?_
            refine J_iload dX8_sector_73 0 rfl ?_
            refine J_imul dX8_sector_75 ?_
            refine J_iadd dX8_sector_76 ?_
            obtain ⟨r25, h24, h⟩ := br_b h
            refine J_callS (mj := mi_X8_of) (as := [.int (x1), .int (((10 : Int32) + ((3 : Int32) * u20)))]) (rest := []) (ct_X8_of (C := C)  h24) ⟨rfl, rfl⟩ rfl cg_X8_45 hd_X8_of rfl ⟨Nat.le_of_ble_eq_true rfl, Nat.le_of_ble_eq_true rfl⟩ (Nat.le_of_ble_eq_true rfl) ⟨Nat.zero_le _, Nat.zero_le _⟩ dX8_sector_77 ?_
            refine J_istore (L' := [(6, .int (r25)), (5, .int (u20)), (0, .ref (94)), (1, .int (x1)), (2, .int (x2)), (3, .int (x3)), (4, .int (x4))]) dX8_sector_80 (by decide) rfl ?_
            refine J_aload_n dX8_sector_82 rfl 2 rfl ?_
            refine J_getr (j := 0) (t := 103) (r := 95) rfl (by decide) (by decide) rfl (by decide) rfl rfl kf_X8_9 dX8_sector_83 ?_
            refine J_iload dX8_sector_86 0 rfl ?_
            refine J_iload_n dX8_sector_88 rfl 4 rfl ?_
            obtain ⟨M26, h27, h⟩ := br_b h
            refine J_iastM (m0 := 1) rfl rfl h27 dX8_sector_89 ?_
            refine J_aload_n dX8_sector_90 rfl 2 rfl ?_
            refine J_getr (j := 0) (t := 103) (r := 95) rfl (by decide) (by decide) rfl (by decide) rfl rfl kf_X8_9 dX8_sector_91 ?_
            refine J_iload dX8_sector_94 0 rfl ?_
            refine J_iconst 1 dX8_sector_96 rfl ?_
            refine J_iadd dX8_sector_97 ?_
            refine J_iload_n dX8_sector_98 rfl 5 rfl ?_
            obtain ⟨M28, h29, h⟩ := br_b h
            refine J_iastM (m0 := 1) rfl rfl h29 dX8_sector_99 ?_
            refine J_aload_n dX8_sector_100 rfl 2 rfl ?_
            refine J_getr (j := 0) (t := 103) (r := 95) rfl (by decide) (by decide) rfl (by decide) rfl rfl kf_X8_9 dX8_sector_101 ?_
            refine J_iload dX8_sector_104 0 rfl ?_
            refine J_iconst 2 dX8_sector_106 rfl ?_
            refine J_iadd dX8_sector_107 ?_
            refine J_iload dX8_sector_108 6 rfl ?_
            obtain ⟨M30, h31, h⟩ := br_b h
            refine J_iastM (m0 := 1) rfl rfl h31 dX8_sector_110 ?_
            refine J_aload_n dX8_sector_111 rfl 2 rfl ?_
            refine J_getr (j := 0) (t := 103) (r := 95) rfl (by decide) (by decide) rfl (by decide) rfl rfl kf_X8_9 dX8_sector_112 ?_
            refine J_iload_n dX8_sector_115 rfl 3 rfl ?_
            refine J_bipush 6 dX8_sector_116 rfl ?_
            obtain ⟨r33, h32, h⟩ := br_b h
            refine J_callS (mj := mi_X8_of) (as := [.int (x1), .int ((6 : Int32))]) (rest := [.ref (95)]) (ct_X8_of (C := C)  h32) ⟨rfl, rfl⟩ rfl cg_X8_45 hd_X8_of rfl ⟨Nat.le_of_ble_eq_true rfl, Nat.le_of_ble_eq_true rfl⟩ (Nat.le_of_ble_eq_true rfl) ⟨Nat.zero_le _, Nat.zero_le _⟩ dX8_sector_118 ?_
            refine J_dup2 dX8_sector_121 rfl rfl ?_
            obtain ⟨u34, h35, h⟩ := br_b h
            refine J_ialdM (m0 := 1) rfl rfl h35 dX8_sector_122 ?_
            refine J_iconst 1 dX8_sector_123 rfl ?_
            refine J_iadd dX8_sector_124 ?_
            obtain ⟨M36, h37, h⟩ := br_b h
            refine J_iastM (m0 := 1) rfl rfl h37 dX8_sector_125 ?_
            refine J_iload dX8_sector_126 1 rfl ?_
            refine J_iconst 1 dX8_sector_128 rfl ?_
            refine J_iadd dX8_sector_129 ?_
            have h := Option.some.inj h
            subst h
            exact J_iret rfl rfl rfl (Kr _ _ rfl) dX8_sector_130
          · have h := br_p c41 h
            refine J_aload_n dX8_sector_58 rfl 1 rfl ?_
            refine J_ldc (-100005) dX8_sector_59 kc_X8_61 ?_
            obtain ⟨r39, M40, h38, h⟩ := br_b2 h
            refine J_callV (mj := mi_X8_finding) (as := [.int ((-100005 : Int32))]) (rest := []) (ct_X8_finding (C := C)  h38) ⟨rfl, rfl⟩ rfl rfl (by decide) rfl cg_X8_53 hd_X8_finding rfl ⟨Nat.le_of_ble_eq_true rfl, Nat.le_of_ble_eq_true rfl⟩ (Nat.le_of_ble_eq_true rfl) ⟨Nat.zero_le _, Nat.zero_le _⟩ dX8_sector_61 ?_
            have h := Option.some.inj h
            subst h
            exact J_iret rfl rfl rfl (Kr _ _ rfl) dX8_sector_64
        · have h := br_p c45 h
          refine J_aload_n dX8_sector_32 rfl 0 rfl ?_
          refine J_ldc (-100001) dX8_sector_33 kc_X8_57 ?_
          obtain ⟨r43, M44, h42, h⟩ := br_b2 h
          refine J_callV (mj := mi_X8_finding) (as := [.int ((-100001 : Int32))]) (rest := []) (ct_X8_finding (C := C)  h42) ⟨rfl, rfl⟩ rfl rfl (by decide) rfl cg_X8_53 hd_X8_finding rfl ⟨Nat.le_of_ble_eq_true rfl, Nat.le_of_ble_eq_true rfl⟩ (Nat.le_of_ble_eq_true rfl) ⟨Nat.zero_le _, Nat.zero_le _⟩ dX8_sector_35 ?_
          have h := Option.some.inj h
          subst h
          exact J_iret rfl rfl rfl (Kr _ _ rfl) dX8_sector_38
theorem ct_X8_sector {x1 : Int32} {x2 : Int32} {x3 : Int32} {x4 : Int32} {C : aSc} {M : aMm} {v : Int32} {S' : aMm}  (h : f_X8_sector x1 x2 x3 x4 M = some (v, S')) : Ct mi_X8_sector yX8_sector [.ref (94), .int (x1), .int (x2), .int (x3), .int (x4)] (C, M) (some (.int v), (C, S')) := Ct_of_J (by decide +kernel) rfl (Nat.le_of_ble_eq_true rfl) (jm_X8_sector  h (fun _ _ e => by cases e; rfl))

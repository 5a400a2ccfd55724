def mi_X0_find : aMi := (cX0_find, 7, RX0, none, { frames := 3, cells := 2, slots := 21504, locals := 70 })
def b_X0_find_24 (x4 : Int32) (x5 : Int32) (x6 : Int32) (C : aSc) : Option ((Int32 × aSc) ⊕ (aSc)) :=
  if (x6 : Int32) < x4 then some (.inr C) else (a_ld C 13 x6).bind fun u8 => (f_X0_lookAt x6 u8 C).bind fun C11 => (f_X0_workBack x6 C11).bind fun C13 => some (.inl ((x6 + (-1 : Int32)), C13))
set_option maxRecDepth 100000 in
set_option maxHeartbeats 4000000 in
theorem jl_X0_find_24 {x4 : Int32} {x5 : Int32} {M : aMm}  {res : aRes} {r : aSc} : ∀ (n : Nat) (x6 : Int32) (C : aSc), lpf (fun a : Int32 × aSc => b_X0_find_24 (x4) (x5) a.1 a.2) n (x6, C) = some r → (∀ (S2 : aSc), r = S2 → J mi_X0_find res 2 21504 54 [(0, .ref (14)), (4, .int (x4)), (5, .int (x5))] [] (S2, M)) → J mi_X0_find res 2 21504 24 [(0, .ref (14)), (1, .ref (3)), (3, .ref (13)), (4, .int (x4)), (5, .int (x5)), (6, .int (x6))] [] (C, M) := by
  intro n
  induction n with
  | zero =>
    intro x6 C h
    cases h
  | succ n ih =>
    intro x6 C h Kx
    obtain ⟨r0, h, h2⟩ := br_b h
    have h : b_X0_find_24 x4 x5 x6 C = some r0 := h
    rw [b_X0_find_24] at h
    refine J_iload dX0_find_24 5 rfl ?_
    refine J_iload dX0_find_26 3 rfl ?_
    refine J_icmp_lt 54 dX0_find_28 (by decide) (fun c14 => ?_) (fun c14 => ?_)
    · have h := br_p c14 h
      have h := Option.some.inj h
      subst h
      have h2 := Option.some.inj h2
      subst h2
      refine J_sub [0, 3, 4] rfl ?_
      exact Kx _ rfl
    · have h := br_n c14 h
      refine J_aload_n dX0_find_31 rfl 0 rfl ?_
      refine J_aload_n dX0_find_32 rfl 1 rfl ?_
      refine J_iload dX0_find_33 5 rfl ?_
      refine J_aload_n dX0_find_35 rfl 2 rfl ?_
      refine J_iload dX0_find_36 5 rfl ?_
      obtain ⟨u8, h9, h⟩ := br_b h
      refine J_iald rfl (by decide) h9 dX0_find_38 ?_
      obtain ⟨C11, h10, h⟩ := br_b h
      refine J_callV (mj := mi_X0_lookAt) (as := [.ref (3), .int (x6), .int (u8)]) (rest := []) (ct_X0_lookAt (M := M)  h10) ⟨rfl, rfl⟩ rfl rfl (by decide) rfl cg_X0_38 hd_X0_lookAt rfl ⟨Nat.le_of_ble_eq_true rfl, Nat.le_of_ble_eq_true rfl⟩ (Nat.le_of_ble_eq_true rfl) ⟨by decide, by decide⟩ dX0_find_39 ?_
      refine J_aload_n dX0_find_42 rfl 0 rfl ?_
      refine J_iload dX0_find_43 5 rfl ?_
      obtain ⟨C13, h12, h⟩ := br_b h
      refine J_callV (mj := mi_X0_workBack) (as := [.int (x6)]) (rest := []) (ct_X0_workBack (M := M)  h12) ⟨rfl, rfl⟩ rfl rfl (by decide) rfl cg_X0_42 hd_X0_workBack rfl ⟨Nat.le_of_ble_eq_true rfl, Nat.le_of_ble_eq_true rfl⟩ (Nat.le_of_ble_eq_true rfl) ⟨by decide, by decide⟩ dX0_find_45 ?_
      refine J_iinc (j := 5) (v := (x6 + (-1 : Int32))) (L' := [(6, .int ((x6 + (-1 : Int32)))), (0, .ref (14)), (1, .ref (3)), (3, .ref (13)), (4, .int (x4)), (5, .int (x5))]) dX0_find_48 rfl rfl (by decide) rfl ?_
      refine J_goto 24 dX0_find_51 (by decide) ?_
      have h := Option.some.inj h
      subst h
      refine J_sub [1, 2, 3, 4, 5, 0] rfl ?_
      exact ih _ _ h2 Kx
def f_X0_find (x2 : Int32) (x4 : Int32) (C : aSc) : Option (aSc) :=
  bd2 (f_X0_pickRocks x2 x4 C) fun r2 C3 => (f_X0_makeRoom  C3).bind fun C5 => (f_X0_endCosts  C5).bind fun C7 => (lpf (fun a : Int32 × aSc => b_X0_find_24 (x4) (r2) a.1 a.2) FU ((19 : Int32), C7)).bind fun z15 => (f_X0_follow x4 z15).bind fun C19 => (a_ld C19 18 (0 : Int32)).bind fun u20 => (some (a_pi C19 14 0 (r2 + u20))).bind fun C22 => some C22
set_option maxRecDepth 100000 in
set_option maxHeartbeats 4000000 in
theorem jm_X0_find {x2 : Int32} {x4 : Int32} {C : aSc} {M : aMm}  {res : aRes} {r : aSc} (h : f_X0_find x2 x4 C = some r) (Kr : ∀ (S' : aSc), r = S' → res = (none, (S', M))) : J mi_X0_find res 0 0 0 [(0, .ref (14)), (1, .ref (3)), (2, .int (x2)), (3, .ref (13)), (4, .int (x4))] [] (C, M) := by
  rw [f_X0_find] at h
  refine J_aload_n dX0_find_0 rfl 0 rfl ?_
  refine J_aload_n dX0_find_1 rfl 1 rfl ?_
  refine J_iload_n dX0_find_2 rfl 2 rfl ?_
  refine J_aload_n dX0_find_3 rfl 3 rfl ?_
  refine J_iload dX0_find_4 4 rfl ?_
  obtain ⟨r2, C3, h1, h⟩ := br_b2 h
  refine J_callV (mj := mi_X0_pickRocks) (as := [.ref (3), .int (x2), .ref (13), .int (x4)]) (rest := []) (ct_X0_pickRocks (M := M)  h1) ⟨rfl, rfl⟩ rfl rfl (by decide) rfl cg_X0_27 hd_X0_pickRocks rfl ⟨Nat.le_of_ble_eq_true rfl, Nat.le_of_ble_eq_true rfl⟩ (Nat.le_of_ble_eq_true rfl) ⟨Nat.zero_le _, Nat.zero_le _⟩ dX0_find_6 ?_
  refine J_istore (L' := [(5, .int (r2)), (0, .ref (14)), (1, .ref (3)), (2, .int (x2)), (3, .ref (13)), (4, .int (x4))]) dX0_find_9 (by decide) rfl ?_
  refine J_aload_n dX0_find_11 rfl 1 rfl ?_
  obtain ⟨C5, h4, h⟩ := br_b h
  refine J_callA (mj := mi_X0_makeRoom) (as := []) (ct_X0_makeRoom (M := M)  h4) ⟨rfl, rfl⟩ rfl rfl (by decide) rfl cg_X0_31 hd_X0_makeRoom rfl ⟨Nat.le_of_ble_eq_true rfl, Nat.le_of_ble_eq_true rfl⟩ rfl dX0_find_12 ⟨by decide, by decide⟩ (fun _ => by simp) ?_
  refine J_aload_n dX0_find_15 rfl 1 rfl ?_
  refine J_aload_n dX0_find_16 rfl 2 rfl ?_
  obtain ⟨C7, h6, h⟩ := br_b h
  refine J_callV (mj := mi_X0_endCosts) (as := [.ref (3)]) (rest := []) (ct_X0_endCosts (M := M)  h6) ⟨rfl, rfl⟩ rfl rfl (by decide) rfl cg_X0_34 hd_X0_endCosts rfl ⟨Nat.le_of_ble_eq_true rfl, Nat.le_of_ble_eq_true rfl⟩ (Nat.le_of_ble_eq_true rfl) ⟨by decide, by decide⟩ dX0_find_17 ?_
  refine J_bipush 19 dX0_find_20 rfl ?_
  refine J_istore (L' := [(6, .int ((19 : Int32))), (5, .int (r2)), (0, .ref (14)), (1, .ref (3)), (2, .int (x2)), (3, .ref (13)), (4, .int (x4))]) dX0_find_22 (by decide) rfl ?_
  refine J_sub [2, 3, 5, 6, 1, 0] rfl ?_
  obtain ⟨z15, h16, h⟩ := br_b h
  refine jl_X0_find_24  FU _ _ h16 ?_
  intro zz e
  subst e
  refine J_aload_n dX0_find_54 rfl 0 rfl ?_
  refine J_iload dX0_find_55 1 rfl ?_
  obtain ⟨C19, h18, h⟩ := br_b h
  refine J_callV (mj := mi_X0_follow) (as := [.int (x4)]) (rest := []) (ct_X0_follow (M := M)  h18) ⟨rfl, rfl⟩ rfl rfl (by decide) rfl cg_X0_46 hd_X0_follow rfl ⟨Nat.le_of_ble_eq_true rfl, Nat.le_of_ble_eq_true rfl⟩ (Nat.le_of_ble_eq_true rfl) ⟨by decide, by decide⟩ dX0_find_57 ?_
  refine J_aload_n dX0_find_60 rfl 0 rfl ?_
  refine J_iload dX0_find_61 2 rfl ?_
  refine J_aload_n dX0_find_63 rfl 0 rfl ?_
  refine J_getr (j := 6) (t := 26) (r := 18) rfl (by decide) (by decide) rfl (by decide) rfl rfl kf_X0_21 dX0_find_64 ?_
  refine J_iconst 0 dX0_find_67 rfl ?_
  obtain ⟨u20, h21, h⟩ := br_b h
  refine J_iald rfl (by decide) h21 dX0_find_68 ?_
  refine J_iadd dX0_find_69 ?_
  obtain ⟨C22, e23, h⟩ := br_s h
  refine J_puti (j := 0) rfl (by decide) (by decide) rfl (by decide) rfl rfl rfl kf_X0_49 e23 dX0_find_70 ?_
  have h := Option.some.inj h
  subst h
  exact J_vret rfl rfl rfl (Kr _ rfl) dX0_find_73
theorem ct_X0_find {x2 : Int32} {x4 : Int32} {C : aSc} {M : aMm} {S' : aSc}  (h : f_X0_find x2 x4 C = some S') : Ct mi_X0_find yX0_find [.ref (14), .ref (3), .int (x2), .ref (13), .int (x4)] (C, M) (none, (S', M)) := Ct_of_J (by decide +kernel) rfl (Nat.le_of_ble_eq_true rfl) (jm_X0_find  h (fun _ e => by cases e; rfl))
def mi_X7_findLandings : aMi := (cX7_findLandings, 1, RX7, none, { frames := 4, cells := 2, slots := 21504, locals := 96 })
def f_X7_findLandings  (C : aSc) : Option (aSc) :=
  if ((a_gi C 0 13) : Int32) = 0 then (f_X0_find (a_gi C 0 2) (a_gi C 0 4) C).bind fun C2 => (some (a_pi C2 0 13 (1 : Int32))).bind fun C3 => some C3 else some C
set_option maxRecDepth 100000 in
set_option maxHeartbeats 4000000 in
theorem jm_X7_findLandings  {C : aSc} {M : aMm}  {res : aRes} {r : aSc} (h : f_X7_findLandings  C = some r) (Kr : ∀ (S' : aSc), r = S' → res = (none, (S', M))) : J mi_X7_findLandings res 0 0 0 [(0, .ref (0))] [] (C, M) := by
  rw [f_X7_findLandings] at h
  refine J_aload_n dX7_findLandings_0 rfl 0 rfl ?_
  refine J_geti (j := 13) rfl (by decide) (by decide) rfl (by decide) rfl kf_X7_354 dX7_findLandings_1 ?_
  refine J_if_ne 35 dX7_findLandings_4 (by decide) (fun c5 => ?_) (fun c5 => ?_)
  · have h := br_n c5 h
    have h := Option.some.inj h
    subst h
    refine J_wide (ck' := 2) (sk' := 21504) (by decide) (by decide) ?_
    exact J_vret rfl rfl rfl (Kr _ rfl) dX7_findLandings_35
  · have h := br_p c5 h
    refine J_aload_n dX7_findLandings_7 rfl 0 rfl ?_
    refine J_getr (j := 12) (t := 22) (r := 14) rfl (by decide) (by decide) rfl (by decide) rfl rfl kf_X7_45 dX7_findLandings_8 ?_
    refine J_aload_n dX7_findLandings_11 rfl 0 rfl ?_
    refine J_getr (j := 1) (t := 11) (r := 3) rfl (by decide) (by decide) rfl (by decide) rfl rfl kf_X7_18 dX7_findLandings_12 ?_
    refine J_aload_n dX7_findLandings_15 rfl 0 rfl ?_
    refine J_geti (j := 2) rfl (by decide) (by decide) rfl (by decide) rfl kf_X7_89 dX7_findLandings_16 ?_
    refine J_aload_n dX7_findLandings_19 rfl 0 rfl ?_
    refine J_getr (j := 11) (t := 21) (r := 13) rfl (by decide) (by decide) rfl (by decide) rfl rfl kf_X7_39 dX7_findLandings_20 ?_
    refine J_aload_n dX7_findLandings_23 rfl 0 rfl ?_
    refine J_geti (j := 4) rfl (by decide) (by decide) rfl (by decide) rfl kf_X7_177 dX7_findLandings_24 ?_
    obtain ⟨C2, h1, h⟩ := br_b h
    refine J_callA (mj := mi_X0_find) (as := [.ref (3), .int ((a_gi C 0 2)), .ref (13), .int ((a_gi C 0 4))]) (ct_X0_find (M := M)  h1) ⟨rfl, rfl⟩ rfl rfl (by decide) rfl cg_X7_357 hd_X0_find rfl ⟨Nat.le_of_ble_eq_true rfl, Nat.le_of_ble_eq_true rfl⟩ rfl dX7_findLandings_27 ⟨by decide, by decide⟩ (fun _ => by simp) ?_
    refine J_aload_n dX7_findLandings_30 rfl 0 rfl ?_
    refine J_iconst 1 dX7_findLandings_31 rfl ?_
    obtain ⟨C3, e4, h⟩ := br_s h
    refine J_putz (j := 13) (Or.inr rfl) rfl (by decide) (by decide) rfl (by decide) rfl rfl rfl kf_X7_354 e4 dX7_findLandings_32 ?_
    have h := Option.some.inj h
    subst h
    exact J_vret rfl rfl rfl (Kr _ rfl) dX7_findLandings_35
theorem ct_X7_findLandings  {C : aSc} {M : aMm} {S' : aSc}  (h : f_X7_findLandings  C = some S') : Ct mi_X7_findLandings yX7_findLandings [.ref (0)] (C, M) (none, (S', M)) := Ct_of_J (by decide +kernel) rfl (Nat.le_of_ble_eq_true rfl) (jm_X7_findLandings  h (fun _ e => by cases e; rfl))
def mi_X7_overdue : aMi := (cX7_overdue, 1, RX7, (some .int), { frames := 5, cells := 2, slots := 21504, locals := 116 })
def f_X7_overdue  (C : aSc) : Option (Int32 × aSc) :=
  (f_X7_findLandings  C).bind fun C2 => some ((a_gi C2 14 0), C2)
set_option maxRecDepth 100000 in
set_option maxHeartbeats 4000000 in
theorem jm_X7_overdue  {C : aSc} {M : aMm}  {res : aRes} {r : Int32 × aSc} (h : f_X7_overdue  C = some r) (Kr : ∀ (v : Int32) (S' : aSc), r = (v, S') → res = (some (.int v), (S', M))) : J mi_X7_overdue res 0 0 0 [(0, .ref (0))] [] (C, M) := by
  rw [f_X7_overdue] at h
  refine J_aload_n dX7_overdue_0 rfl 0 rfl ?_
  obtain ⟨C2, h1, h⟩ := br_b h
  refine J_callA (mj := mi_X7_findLandings) (as := []) (ct_X7_findLandings (M := M)  h1) ⟨rfl, rfl⟩ rfl rfl (by decide) rfl cg_X7_272 hd_X7_findLandings rfl ⟨Nat.le_of_ble_eq_true rfl, Nat.le_of_ble_eq_true rfl⟩ rfl dX7_overdue_1 ⟨by decide, by decide⟩ (fun _ => by simp) ?_
  refine J_aload_n dX7_overdue_4 rfl 0 rfl ?_
  refine J_getr (j := 12) (t := 22) (r := 14) rfl (by decide) (by decide) rfl (by decide) rfl rfl kf_X7_45 dX7_overdue_5 ?_
  refine J_geti (j := 0) rfl (by decide) (by decide) rfl (by decide) rfl kf_X7_275 dX7_overdue_8 ?_
  have h := Option.some.inj h
  subst h
  exact J_iret rfl rfl rfl (Kr _ _ rfl) dX7_overdue_11
theorem ct_X7_overdue  {C : aSc} {M : aMm} {v : Int32} {S' : aSc}  (h : f_X7_overdue  C = some (v, S')) : Ct mi_X7_overdue yX7_overdue [.ref (0)] (C, M) (some (.int v), (S', M)) := Ct_of_J (by decide +kernel) rfl (Nat.le_of_ble_eq_true rfl) (jm_X7_overdue  h (fun _ _ e => by cases e; rfl))
def mi_X7_landing : aMi := (cX7_landing, 3, RX7, (some .int), { frames := 5, cells := 2, slots := 21504, locals := 116 })
def f_X7_landing (x1 : Int32) (C : aSc) : Option (Int32 × aSc) :=
  (f_X7_isDay x1 C).bind fun r2 => if (r2 : Int32) = 0 then bd2 (f_X7_refuse (-100001 : Int32) C) fun r16 C17 => some (r16, C17) else if ((a_gi C 0 4) : Int32) ≤ x1 then (f_X7_findLandings  C).bind fun C4 => (a_ld C4 15 x1).bind fun u5 => if 0 ≤ (u5 : Int32) then some (u5, C4) else bd2 (f_X7_refuse (-100006 : Int32) C4) fun r8 C9 => some (r8, C9) else bd2 (f_X7_refuse (-100006 : Int32) C) fun r12 C13 => some (r12, C13)
set_option maxRecDepth 100000 in
set_option maxHeartbeats 4000000 in
theorem jm_X7_landing {x1 : Int32} {C : aSc} {M : aMm}  {res : aRes} {r : Int32 × aSc} (h : f_X7_landing x1 C = some r) (Kr : ∀ (v : Int32) (S' : aSc), r = (v, S') → res = (some (.int v), (S', M))) : J mi_X7_landing res 0 0 0 [(0, .ref (0)), (1, .int (x1))] [] (C, M) := by
  rw [f_X7_landing] at h
  refine J_iload_n dX7_landing_0 rfl 1 rfl ?_
  obtain ⟨r2, h1, h⟩ := br_b h
  refine J_callS (mj := mi_X7_isDay) (as := [.int (x1)]) (rest := []) (ct_X7_isDay (M := M)  h1) ⟨rfl, rfl⟩ rfl cg_X7_174 hd_X7_isDay rfl ⟨Nat.le_of_ble_eq_true rfl, Nat.le_of_ble_eq_true rfl⟩ (Nat.le_of_ble_eq_true rfl) ⟨Nat.zero_le _, Nat.zero_le _⟩ dX7_landing_1 ?_
  refine J_if_ne 14 dX7_landing_4 (by decide) (fun c18 => ?_) (fun c18 => ?_)
  · have h := br_n c18 h
    refine J_iload_n dX7_landing_14 rfl 1 rfl ?_
    refine J_aload_n dX7_landing_15 rfl 0 rfl ?_
    refine J_geti (j := 4) rfl (by decide) (by decide) rfl (by decide) rfl kf_X7_177 dX7_landing_16 ?_
    refine J_icmp_ge 29 dX7_landing_19 (by decide) (fun c14 => ?_) (fun c14 => ?_)
    · have h := br_p c14 h
      refine J_aload_n dX7_landing_29 rfl 0 rfl ?_
      obtain ⟨C4, h3, h⟩ := br_b h
      refine J_callA (mj := mi_X7_findLandings) (as := []) (ct_X7_findLandings (M := M)  h3) ⟨rfl, rfl⟩ rfl rfl (by decide) rfl cg_X7_272 hd_X7_findLandings rfl ⟨Nat.le_of_ble_eq_true rfl, Nat.le_of_ble_eq_true rfl⟩ rfl dX7_landing_30 ⟨by decide, by decide⟩ (fun _ => by simp) ?_
      refine J_aload_n dX7_landing_33 rfl 0 rfl ?_
      refine J_getr (j := 12) (t := 22) (r := 14) rfl (by decide) (by decide) rfl (by decide) rfl rfl kf_X7_45 dX7_landing_34 ?_
      refine J_getr (j := 1) (t := 23) (r := 15) rfl (by decide) (by decide) rfl (by decide) rfl rfl kf_X7_278 dX7_landing_37 ?_
      refine J_iload_n dX7_landing_40 rfl 1 rfl ?_
      obtain ⟨u5, h6, h⟩ := br_b h
      refine J_iald rfl (by decide) h6 dX7_landing_41 ?_
      refine J_istore_n (L' := [(2, .int (u5)), (0, .ref (0)), (1, .int (x1))]) dX7_landing_42 rfl (by decide) rfl ?_
      refine J_iload_n dX7_landing_43 rfl 0 rfl ?_
      refine J_if_ge 56 dX7_landing_44 (by decide) (fun c10 => ?_) (fun c10 => ?_)
      · have h := br_p c10 h
        refine J_iload_n dX7_landing_56 rfl 0 rfl ?_
        have h := Option.some.inj h
        subst h
        exact J_iret rfl rfl rfl (Kr _ _ rfl) dX7_landing_57
      · have h := br_n c10 h
        refine J_aload_n dX7_landing_47 rfl 1 rfl ?_
        refine J_ldc (-100006) dX7_landing_48 kc_X7_184 ?_
        obtain ⟨r8, C9, h7, h⟩ := br_b2 h
        refine J_callV (mj := mi_X7_refuse) (as := [.int ((-100006 : Int32))]) (rest := []) (ct_X7_refuse (M := M)  h7) ⟨rfl, rfl⟩ rfl rfl (by decide) rfl cg_X7_69 hd_X7_refuse rfl ⟨Nat.le_of_ble_eq_true rfl, Nat.le_of_ble_eq_true rfl⟩ (Nat.le_of_ble_eq_true rfl) ⟨by decide, by decide⟩ dX7_landing_50 ?_
        refine J_goto 57 dX7_landing_53 (by decide) ?_
        have h := Option.some.inj h
        subst h
        exact J_iret rfl rfl rfl (Kr _ _ rfl) dX7_landing_57
    · have h := br_n c14 h
      refine J_aload_n dX7_landing_22 rfl 0 rfl ?_
      refine J_ldc (-100006) dX7_landing_23 kc_X7_184 ?_
      obtain ⟨r12, C13, h11, h⟩ := br_b2 h
      refine J_callV (mj := mi_X7_refuse) (as := [.int ((-100006 : Int32))]) (rest := []) (ct_X7_refuse (M := M)  h11) ⟨rfl, rfl⟩ rfl rfl (by decide) rfl cg_X7_69 hd_X7_refuse rfl ⟨Nat.le_of_ble_eq_true rfl, Nat.le_of_ble_eq_true rfl⟩ (Nat.le_of_ble_eq_true rfl) ⟨Nat.zero_le _, Nat.zero_le _⟩ dX7_landing_25 ?_
      have h := Option.some.inj h
      subst h
      refine J_wide (ck' := 2) (sk' := 21504) (by decide) (by decide) ?_
      exact J_iret rfl rfl rfl (Kr _ _ rfl) dX7_landing_28
  · have h := br_p c18 h
    refine J_aload_n dX7_landing_7 rfl 0 rfl ?_
    refine J_ldc (-100001) dX7_landing_8 kc_X7_68 ?_
    obtain ⟨r16, C17, h15, h⟩ := br_b2 h
    refine J_callV (mj := mi_X7_refuse) (as := [.int ((-100001 : Int32))]) (rest := []) (ct_X7_refuse (M := M)  h15) ⟨rfl, rfl⟩ rfl rfl (by decide) rfl cg_X7_69 hd_X7_refuse rfl ⟨Nat.le_of_ble_eq_true rfl, Nat.le_of_ble_eq_true rfl⟩ (Nat.le_of_ble_eq_true rfl) ⟨Nat.zero_le _, Nat.zero_le _⟩ dX7_landing_10 ?_
    have h := Option.some.inj h
    subst h
    refine J_wide (ck' := 2) (sk' := 21504) (by decide) (by decide) ?_
    exact J_iret rfl rfl rfl (Kr _ _ rfl) dX7_landing_13
theorem ct_X7_landing {x1 : Int32} {C : aSc} {M : aMm} {v : Int32} {S' : aSc}  (h : f_X7_landing x1 C = some (v, S')) : Ct mi_X7_landing yX7_landing [.ref (0), .int (x1)] (C, M) (some (.int v), (S', M)) := Ct_of_J (by decide +kernel) rfl (Nat.le_of_ble_eq_true rfl) (jm_X7_landing  h (fun _ _ e => by cases e; rfl))
def mi_X7_firstWrong : aMi := (cX7_firstWrong, 7, RX7, (some .int), { frames := 2, cells := 0, slots := 0, locals := 42 })
def g_X7_firstWrong_98 (x1 : Nat) (x2 : Int32) (x3 : Int32) (x4 : Int32) (x5 : Int32) (t0 : Int32) (C : aSc) : Option ((Int32 × Int32 × Int32) ⊕ ((Int32 × Int32) ⊕ (Int32))) :=
  if (t0 : Int32) = 0 then some (.inr (.inr x4)) else if (((x2 >>> (x5 &&& 31)) &&& (1 : Int32)) : Int32) = (1 : Int32) then some (.inr (.inr x4)) else (a_rf 24 3 10 x5).bind fun c5 => (f_X1_overdueOn c5 ((a_gi C 0 4) + x4) C).bind fun r9 => some (.inl ((x2 ||| ((1 : Int32) <<< (x5 &&& 31))), (x3 + r9), (x4 + (1 : Int32))))
set_option maxRecDepth 100000 in
set_option maxHeartbeats 4000000 in
theorem jb_X7_firstWrong_98 {x1 : Nat} {x2 : Int32} {x3 : Int32} {x4 : Int32} {x5 : Int32} {t0 : Int32} {C : aSc} {M : aMm} (qx1 : isS x1) {res : aRes} {r : (Int32 × Int32 × Int32) ⊕ ((Int32 × Int32) ⊕ (Int32))} (h : g_X7_firstWrong_98 x1 x2 x3 x4 x5 t0 C = some r) (Kn : ∀ (y2 : Int32) (y3 : Int32) (y4 : Int32), r = .inl (y2, y3, y4) → J mi_X7_firstWrong res 0 0 7 [(0, .ref (0)), (1, .ref (x1)), (2, .int (y2)), (3, .int (y3)), (4, .int (y4))] [] (C, M)) (Kx : ∀ (z2 : Int32) (z3 : Int32), r = .inr (.inl (z2, z3)) → J mi_X7_firstWrong res 0 0 151 [(0, .ref (0)), (1, .ref (x1)), (2, .int (z2)), (3, .int (z3))] [] (C, M)) (Kr : ∀ (v : Int32), r = .inr (.inr v) → res = (some (.int v), (C, M))) : J mi_X7_firstWrong res 0 0 98 [(0, .ref (0)), (1, .ref (x1)), (2, .int (x2)), (3, .int (x3)), (4, .int (x4)), (5, .int (x5))] [.int (t0)] (C, M) := by
  rw [g_X7_firstWrong_98] at h
  refine J_istore (L' := [(6, .int (t0)), (0, .ref (0)), (1, .ref (x1)), (2, .int (x2)), (3, .int (x3)), (4, .int (x4)), (5, .int (x5))]) dX7_firstWrong_98 (by decide) rfl ?_
  refine J_iload dX7_firstWrong_100 0 rfl ?_
  refine J_if_eq 115 dX7_firstWrong_102 (by decide) (fun c11 => ?_) (fun c11 => ?_)
  · have h := br_p c11 h
    refine J_iload dX7_firstWrong_115 5 rfl ?_
    have h := Option.some.inj h
    subst h
    exact J_iret rfl rfl rfl (Kr _ rfl) dX7_firstWrong_117
  · have h := br_n c11 h
    refine J_iload_n dX7_firstWrong_105 rfl 3 rfl ?_
    refine J_iload dX7_firstWrong_106 6 rfl ?_
    refine J_ishr dX7_firstWrong_108 ?_
    refine J_iconst 1 dX7_firstWrong_109 rfl ?_
    refine J_iand dX7_firstWrong_110 ?_
    refine J_iconst 1 dX7_firstWrong_111 rfl ?_
    refine J_icmp_ne 118 dX7_firstWrong_112 (by decide) (fun c10 => ?_) (fun c10 => ?_)
    · have h := br_n c10 h
      refine J_iload_n dX7_firstWrong_118 rfl 3 rfl ?_
      refine J_iconst 1 dX7_firstWrong_119 rfl ?_
      refine J_iload dX7_firstWrong_120 6 rfl ?_
      refine J_ishl dX7_firstWrong_122 ?_
      refine J_ior dX7_firstWrong_123 ?_
      refine J_istore_n (L' := [(2, .int ((x2 ||| ((1 : Int32) <<< (x5 &&& 31))))), (6, .int (t0)), (0, .ref (0)), (1, .ref (x1)), (3, .int (x3)), (4, .int (x4)), (5, .int (x5))]) dX7_firstWrong_124 rfl (by decide) rfl ?_
      refine J_iload_n dX7_firstWrong_125 rfl 4 rfl ?_
      refine J_aload_n dX7_firstWrong_126 rfl 2 rfl ?_
      refine J_getr (j := 1) (t := 11) (r := 3) rfl (by decide) (by decide) rfl (by decide) rfl rfl kf_X7_18 dX7_firstWrong_127 ?_
      refine J_iload dX7_firstWrong_130 6 rfl ?_
      obtain ⟨c5, h6, h⟩ := br_b h
      have q7 := a_rfL h6
      refine J_aaldL h6 dX7_firstWrong_132 ?_
      refine J_aload_n dX7_firstWrong_133 rfl 2 rfl ?_
      refine J_geti (j := 4) rfl (by decide) (by decide) rfl (by decide) rfl kf_X7_177 dX7_firstWrong_134 ?_
      refine J_iload dX7_firstWrong_137 5 rfl ?_
      refine J_iadd dX7_firstWrong_139 ?_
      obtain ⟨r9, h8, h⟩ := br_b h
      refine J_callV (mj := mi_X1_overdueOn) (as := [.int (((a_gi C 0 4) + x4))]) (rest := [.int (x3)]) (ct_X1_overdueOn (M := M) q7 h8) ⟨rfl, rfl⟩ rfl q7.1 (by decide) rfl cg_X7_364 hd_X1_overdueOn rfl ⟨Nat.le_of_ble_eq_true rfl, Nat.le_of_ble_eq_true rfl⟩ (Nat.le_of_ble_eq_true rfl) ⟨Nat.zero_le _, Nat.zero_le _⟩ dX7_firstWrong_140 ?_
      refine J_iadd dX7_firstWrong_143 ?_
      refine J_istore_n (L' := [(3, .int ((x3 + r9))), (2, .int ((x2 ||| ((1 : Int32) <<< (x5 &&& 31))))), (6, .int (t0)), (0, .ref (0)), (1, .ref (x1)), (4, .int (x4)), (5, .int (x5))]) dX7_firstWrong_144 rfl (by decide) rfl ?_
      refine J_iinc (j := 5) (v := (x4 + (1 : Int32))) (L' := [(4, .int ((x4 + (1 : Int32)))), (3, .int ((x3 + r9))), (2, .int ((x2 ||| ((1 : Int32) <<< (x5 &&& 31))))), (6, .int (t0)), (0, .ref (0)), (1, .ref (x1)), (5, .int (x5))]) dX7_firstWrong_145 rfl rfl (by decide) rfl ?_
      refine J_goto 7 dX7_firstWrong_148 (by decide) ?_
      have h := Option.some.inj h
      subst h
      refine J_sub [4, 5, 2, 1, 0] rfl ?_
      exact Kn _ _ _ rfl
    · have h := br_p c10 h
      refine J_iload dX7_firstWrong_115 5 rfl ?_
      have h := Option.some.inj h
      subst h
      exact J_iret rfl rfl rfl (Kr _ rfl) dX7_firstWrong_117
def g_X7_firstWrong_97 (x1 : Nat) (x2 : Int32) (x3 : Int32) (x4 : Int32) (x5 : Int32) (C : aSc) : Option ((Int32 × Int32 × Int32) ⊕ ((Int32 × Int32) ⊕ (Int32))) :=
  g_X7_firstWrong_98 (x1) (x2) (x3) (x4) (x5) ((0 : Int32)) C
set_option maxRecDepth 100000 in
set_option maxHeartbeats 4000000 in
theorem jb_X7_firstWrong_97 {x1 : Nat} {x2 : Int32} {x3 : Int32} {x4 : Int32} {x5 : Int32} {C : aSc} {M : aMm} (qx1 : isS x1) {res : aRes} {r : (Int32 × Int32 × Int32) ⊕ ((Int32 × Int32) ⊕ (Int32))} (h : g_X7_firstWrong_97 x1 x2 x3 x4 x5 C = some r) (Kn : ∀ (y2 : Int32) (y3 : Int32) (y4 : Int32), r = .inl (y2, y3, y4) → J mi_X7_firstWrong res 0 0 7 [(0, .ref (0)), (1, .ref (x1)), (2, .int (y2)), (3, .int (y3)), (4, .int (y4))] [] (C, M)) (Kx : ∀ (z2 : Int32) (z3 : Int32), r = .inr (.inl (z2, z3)) → J mi_X7_firstWrong res 0 0 151 [(0, .ref (0)), (1, .ref (x1)), (2, .int (z2)), (3, .int (z3))] [] (C, M)) (Kr : ∀ (v : Int32), r = .inr (.inr v) → res = (some (.int v), (C, M))) : J mi_X7_firstWrong res 0 0 97 [(0, .ref (0)), (1, .ref (x1)), (2, .int (x2)), (3, .int (x3)), (4, .int (x4)), (5, .int (x5))] [] (C, M) := by
  rw [g_X7_firstWrong_97] at h
  refine J_iconst 0 dX7_firstWrong_97 rfl ?_
  exact jb_X7_firstWrong_98 qx1 h Kn Kx Kr
def b_X7_firstWrong_7 (x1 : Nat) (x2 : Int32) (x3 : Int32) (x4 : Int32) (C : aSc) : Option ((Int32 × Int32 × Int32) ⊕ ((Int32 × Int32) ⊕ (Int32))) :=
  if ((a_gi C x1 1) : Int32) ≤ x4 then some (.inr (.inl (x2, x3))) else if ((20 : Int32) : Int32) ≤ ((a_gi C 0 4) + x4) then some (.inr (.inl (x2, x3))) else (a_ld C (x1 + 1) x4).bind fun u1 => if (u1 : Int32) = (-1 : Int32) then some (.inl (x2, x3, (x4 + (1 : Int32)))) else (f_X7_isLight u1 C).bind fun r4 => if (r4 : Int32) = 0 then g_X7_firstWrong_97 (x1) (x2) (x3) (x4) (u1) C else (a_rf 24 3 10 u1).bind fun c12 => (f_X1_isRock c12 C).bind fun r16 => if (r16 : Int32) = 0 then g_X7_firstWrong_97 (x1) (x2) (x3) (x4) (u1) C else (a_rf 24 3 10 u1).bind fun c17 => (a_ld C 13 ((a_gi C 0 4) + x4)).bind fun u20 => (f_X1_landsIn c17 u20 C).bind fun r23 => if (r23 : Int32) = 0 then g_X7_firstWrong_97 (x1) (x2) (x3) (x4) (u1) C else g_X7_firstWrong_98 (x1) (x2) (x3) (x4) (u1) ((1 : Int32)) C
set_option maxRecDepth 100000 in
set_option maxHeartbeats 4000000 in
theorem jl_X7_firstWrong_7 {x1 : Nat} {C : aSc} {M : aMm} (qx1 : isS x1) {res : aRes} {r : (Int32 × Int32) ⊕ (Int32)} : ∀ (n : Nat) (x2 : Int32) (x3 : Int32) (x4 : Int32), lpf (fun a : Int32 × Int32 × Int32 => b_X7_firstWrong_7 (x1) a.1 a.2.1 a.2.2 C) n (x2, x3, x4) = some r → (∀ (z2 : Int32) (z3 : Int32), r = .inl (z2, z3) → J mi_X7_firstWrong res 0 0 151 [(0, .ref (0)), (1, .ref (x1)), (2, .int (z2)), (3, .int (z3))] [] (C, M)) → (∀ (v : Int32), r = .inr v → res = (some (.int v), (C, M))) → J mi_X7_firstWrong res 0 0 7 [(0, .ref (0)), (1, .ref (x1)), (2, .int (x2)), (3, .int (x3)), (4, .int (x4))] [] (C, M) := by
  intro n
  induction n with
  | zero =>
    intro x2 x3 x4 h
    cases h
  | succ n ih =>
    intro x2 x3 x4 h Kx Kr
    obtain ⟨r0, h, h2⟩ := br_b h
    have h : b_X7_firstWrong_7 x1 x2 x3 x4 C = some r0 := h
    rw [b_X7_firstWrong_7] at h
    refine J_iload dX7_firstWrong_7 4 rfl ?_
    refine J_aload_n dX7_firstWrong_9 rfl 1 rfl ?_
    refine J_geti (j := 1) qx1.1 qx1.2.1 (by decide) rfl (by decide) rfl kf_X7_204 dX7_firstWrong_10 ?_
    refine J_icmp_ge 151 dX7_firstWrong_13 (by decide) (fun c29 => ?_) (fun c29 => ?_)
    · have h := br_p c29 h
      have h := Option.some.inj h
      subst h
      have h2 := Option.some.inj h2
      subst h2
      refine J_sub [0, 1, 2, 3] rfl ?_
      exact Kx _ _ rfl
    · have h := br_n c29 h
      refine J_aload_n dX7_firstWrong_16 rfl 0 rfl ?_
      refine J_geti (j := 4) rfl (by decide) (by decide) rfl (by decide) rfl kf_X7_177 dX7_firstWrong_17 ?_
      refine J_iload dX7_firstWrong_20 4 rfl ?_
      refine J_iadd dX7_firstWrong_22 ?_
      refine J_bipush 20 dX7_firstWrong_23 rfl ?_
      refine J_icmp_ge 151 dX7_firstWrong_25 (by decide) (fun c28 => ?_) (fun c28 => ?_)
      · have h := br_p c28 h
        have h := Option.some.inj h
        subst h
        have h2 := Option.some.inj h2
        subst h2
        refine J_sub [0, 1, 2, 3] rfl ?_
        exact Kx _ _ rfl
      · have h := br_n c28 h
        refine J_aload_n dX7_firstWrong_28 rfl 1 rfl ?_
        refine J_getr (j := 2) (t := 0) (r := x1 + 1) qx1.1 (Nat.lt_trans qx1.2.1 (by decide)) (by decide) rfl (by decide) rfl rfl kf_X7_269 dX7_firstWrong_29 ?_
        refine J_iload dX7_firstWrong_32 4 rfl ?_
        obtain ⟨u1, h2, h⟩ := br_b h
        refine J_iald qx1.2.2.1 qx1.2.2.2 h2 dX7_firstWrong_34 ?_
        refine J_istore (L' := [(5, .int (u1)), (0, .ref (0)), (1, .ref (x1)), (2, .int (x2)), (3, .int (x3)), (4, .int (x4))]) dX7_firstWrong_35 (by decide) rfl ?_
        refine J_iload dX7_firstWrong_37 0 rfl ?_
        refine J_iconst (-1) dX7_firstWrong_39 rfl ?_
        refine J_icmp_ne 46 dX7_firstWrong_40 (by decide) (fun c27 => ?_) (fun c27 => ?_)
        · have h := br_n c27 h
          refine J_aload_n dX7_firstWrong_46 rfl 1 rfl ?_
          refine J_iload dX7_firstWrong_47 0 rfl ?_
          obtain ⟨r4, h3, h⟩ := br_b h
          refine J_callV (mj := mi_X7_isLight) (as := [.int (u1)]) (rest := []) (ct_X7_isLight (M := M)  h3) ⟨rfl, rfl⟩ rfl rfl (by decide) rfl cg_X7_108 hd_X7_isLight rfl ⟨Nat.le_of_ble_eq_true rfl, Nat.le_of_ble_eq_true rfl⟩ (Nat.le_of_ble_eq_true rfl) ⟨Nat.zero_le _, Nat.zero_le _⟩ dX7_firstWrong_49 ?_
          refine J_if_eq 97 dX7_firstWrong_52 (by decide) (fun c26 => ?_) (fun c26 => ?_)
          · have h := br_p c26 h
            refine J_sub [1, 2, 3, 4, 5, 0] rfl ?_
            exact jb_X7_firstWrong_97 qx1 h (fun _ _ _ e => by subst e; exact ih _ _ _ h2 Kx Kr) (fun _ _ e => by subst e; have h2 := Option.some.inj h2; subst h2; exact Kx _ _ rfl) (fun _ e => by subst e; have h2 := Option.some.inj h2; subst h2; exact Kr _ rfl)
          · have h := br_n c26 h
            refine J_aload_n dX7_firstWrong_55 rfl 1 rfl ?_
            refine J_getr (j := 1) (t := 11) (r := 3) rfl (by decide) (by decide) rfl (by decide) rfl rfl kf_X7_18 dX7_firstWrong_56 ?_
            refine J_iload dX7_firstWrong_59 0 rfl ?_
            obtain ⟨c12, h13, h⟩ := br_b h
            have q14 := a_rfL h13
            refine J_aaldL h13 dX7_firstWrong_61 ?_
            obtain ⟨r16, h15, h⟩ := br_b h
            refine J_callV (mj := mi_X1_isRock) (as := []) (rest := []) (ct_X1_isRock (M := M) q14 h15) ⟨rfl, rfl⟩ rfl q14.1 (by decide) rfl cg_X7_259 hd_X1_isRock rfl ⟨Nat.le_of_ble_eq_true rfl, Nat.le_of_ble_eq_true rfl⟩ (Nat.le_of_ble_eq_true rfl) ⟨Nat.zero_le _, Nat.zero_le _⟩ dX7_firstWrong_62 ?_
            refine J_if_eq 97 dX7_firstWrong_65 (by decide) (fun c25 => ?_) (fun c25 => ?_)
            · have h := br_p c25 h
              refine J_sub [1, 2, 3, 4, 5, 0] rfl ?_
              exact jb_X7_firstWrong_97 qx1 h (fun _ _ _ e => by subst e; exact ih _ _ _ h2 Kx Kr) (fun _ _ e => by subst e; have h2 := Option.some.inj h2; subst h2; exact Kx _ _ rfl) (fun _ e => by subst e; have h2 := Option.some.inj h2; subst h2; exact Kr _ rfl)
            · have h := br_n c25 h
              refine J_aload_n dX7_firstWrong_68 rfl 1 rfl ?_
              refine J_getr (j := 1) (t := 11) (r := 3) rfl (by decide) (by decide) rfl (by decide) rfl rfl kf_X7_18 dX7_firstWrong_69 ?_
              refine J_iload dX7_firstWrong_72 0 rfl ?_
              obtain ⟨c17, h18, h⟩ := br_b h
              have q19 := a_rfL h18
              refine J_aaldL h18 dX7_firstWrong_74 ?_
              refine J_aload_n dX7_firstWrong_75 rfl 1 rfl ?_
              refine J_getr (j := 11) (t := 21) (r := 13) rfl (by decide) (by decide) rfl (by decide) rfl rfl kf_X7_39 dX7_firstWrong_76 ?_
              refine J_aload_n dX7_firstWrong_79 rfl 1 rfl ?_
              refine J_geti (j := 4) rfl (by decide) (by decide) rfl (by decide) rfl kf_X7_177 dX7_firstWrong_80 ?_
              refine J_iload dX7_firstWrong_83 5 rfl ?_
              refine J_iadd dX7_firstWrong_85 ?_
              obtain ⟨u20, h21, h⟩ := br_b h
              refine J_iald rfl (by decide) h21 dX7_firstWrong_86 ?_
              obtain ⟨r23, h22, h⟩ := br_b h
              refine J_callV (mj := mi_X1_landsIn) (as := [.int (u20)]) (rest := []) (ct_X1_landsIn (M := M) q19 h22) ⟨rfl, rfl⟩ rfl q19.1 (by decide) rfl cg_X7_361 hd_X1_landsIn rfl ⟨Nat.le_of_ble_eq_true rfl, Nat.le_of_ble_eq_true rfl⟩ (Nat.le_of_ble_eq_true rfl) ⟨Nat.zero_le _, Nat.zero_le _⟩ dX7_firstWrong_87 ?_
              refine J_if_eq 97 dX7_firstWrong_90 (by decide) (fun c24 => ?_) (fun c24 => ?_)
              · have h := br_p c24 h
                refine J_sub [1, 2, 3, 4, 5, 0] rfl ?_
                exact jb_X7_firstWrong_97 qx1 h (fun _ _ _ e => by subst e; exact ih _ _ _ h2 Kx Kr) (fun _ _ e => by subst e; have h2 := Option.some.inj h2; subst h2; exact Kx _ _ rfl) (fun _ e => by subst e; have h2 := Option.some.inj h2; subst h2; exact Kr _ rfl)
              · have h := br_n c24 h
                refine J_iconst 1 dX7_firstWrong_93 rfl ?_
                refine J_goto 98 dX7_firstWrong_94 (by decide) ?_
                refine J_sub [1, 2, 3, 4, 5, 0] rfl ?_
                exact jb_X7_firstWrong_98 qx1 h (fun _ _ _ e => by subst e; exact ih _ _ _ h2 Kx Kr) (fun _ _ e => by subst e; have h2 := Option.some.inj h2; subst h2; exact Kx _ _ rfl) (fun _ e => by subst e; have h2 := Option.some.inj h2; subst h2; exact Kr _ rfl)
        · have h := br_p c27 h
          refine J_goto 145 dX7_firstWrong_43 (by decide) ?_
          refine J_iinc (j := 5) (v := (x4 + (1 : Int32))) (L' := [(4, .int ((x4 + (1 : Int32)))), (5, .int (u1)), (0, .ref (0)), (1, .ref (x1)), (2, .int (x2)), (3, .int (x3))]) dX7_firstWrong_145 rfl rfl (by decide) rfl ?_
          refine J_goto 7 dX7_firstWrong_148 (by decide) ?_
          have h := Option.some.inj h
          subst h
          refine J_sub [2, 3, 4, 5, 0] rfl ?_
          exact ih _ _ _ h2 Kx Kr
def b_X7_firstWrong_154 (x1 : Nat) (x2 : Int32) (x3 : Int32) (x4 : Int32) (C : aSc) : Option ((Int32 × Int32) ⊕ (Int32)) :=
  if ((a_gi C 0 2) : Int32) ≤ x4 then some (.inr x3) else (a_rf 24 3 10 x4).bind fun c34 => (f_X1_isRock c34 C).bind fun r38 => if (r38 : Int32) = 0 then some (.inl (x3, (x4 + (1 : Int32)))) else if (((x2 >>> (x4 &&& 31)) &&& (1 : Int32)) : Int32) = 0 then (a_rf 24 3 10 x4).bind fun c39 => (f_X1_overdueOn c39 (20 : Int32) C).bind fun r43 => some (.inl ((x3 + r43), (x4 + (1 : Int32)))) else some (.inl (x3, (x4 + (1 : Int32))))
set_option maxRecDepth 100000 in
set_option maxHeartbeats 4000000 in
theorem jl_X7_firstWrong_154 {x1 : Nat} {x2 : Int32} {C : aSc} {M : aMm} (qx1 : isS x1) {res : aRes} {r : Int32} : ∀ (n : Nat) (x3 : Int32) (x4 : Int32), lpf (fun a : Int32 × Int32 => b_X7_firstWrong_154 (x1) (x2) a.1 a.2 C) n (x3, x4) = some r → (∀ (z3 : Int32), r = z3 → J mi_X7_firstWrong res 0 0 206 [(0, .ref (0)), (1, .ref (x1)), (3, .int (z3))] [] (C, M)) → J mi_X7_firstWrong res 0 0 154 [(0, .ref (0)), (1, .ref (x1)), (2, .int (x2)), (3, .int (x3)), (4, .int (x4))] [] (C, M) := by
  intro n
  induction n with
  | zero =>
    intro x3 x4 h
    cases h
  | succ n ih =>
    intro x3 x4 h Kx
    obtain ⟨r0, h, h2⟩ := br_b h
    have h : b_X7_firstWrong_154 x1 x2 x3 x4 C = some r0 := h
    rw [b_X7_firstWrong_154] at h
    refine J_iload dX7_firstWrong_154 4 rfl ?_
    refine J_aload_n dX7_firstWrong_156 rfl 0 rfl ?_
    refine J_geti (j := 2) rfl (by decide) (by decide) rfl (by decide) rfl kf_X7_89 dX7_firstWrong_157 ?_
    refine J_icmp_ge 206 dX7_firstWrong_160 (by decide) (fun c46 => ?_) (fun c46 => ?_)
    · have h := br_p c46 h
      have h := Option.some.inj h
      subst h
      have h2 := Option.some.inj h2
      subst h2
      refine J_sub [0, 1, 3] rfl ?_
      exact Kx _ rfl
    · have h := br_n c46 h
      refine J_aload_n dX7_firstWrong_163 rfl 0 rfl ?_
      refine J_getr (j := 1) (t := 11) (r := 3) rfl (by decide) (by decide) rfl (by decide) rfl rfl kf_X7_18 dX7_firstWrong_164 ?_
      refine J_iload dX7_firstWrong_167 4 rfl ?_
      obtain ⟨c34, h35, h⟩ := br_b h
      have q36 := a_rfL h35
      refine J_aaldL h35 dX7_firstWrong_169 ?_
      obtain ⟨r38, h37, h⟩ := br_b h
      refine J_callV (mj := mi_X1_isRock) (as := []) (rest := []) (ct_X1_isRock (M := M) q36 h37) ⟨rfl, rfl⟩ rfl q36.1 (by decide) rfl cg_X7_259 hd_X1_isRock rfl ⟨Nat.le_of_ble_eq_true rfl, Nat.le_of_ble_eq_true rfl⟩ (Nat.le_of_ble_eq_true rfl) ⟨Nat.zero_le _, Nat.zero_le _⟩ dX7_firstWrong_170 ?_
      refine J_if_eq 200 dX7_firstWrong_173 (by decide) (fun c45 => ?_) (fun c45 => ?_)
      · have h := br_p c45 h
        refine J_iinc (j := 4) (v := (x4 + (1 : Int32))) (L' := [(4, .int ((x4 + (1 : Int32)))), (0, .ref (0)), (1, .ref (x1)), (2, .int (x2)), (3, .int (x3))]) dX7_firstWrong_200 rfl rfl (by decide) rfl ?_
        refine J_goto 154 dX7_firstWrong_203 (by decide) ?_
        have h := Option.some.inj h
        subst h
        refine J_sub [1, 2, 3, 4, 0] rfl ?_
        exact ih _ _ h2 Kx
      · have h := br_n c45 h
        refine J_iload_n dX7_firstWrong_176 rfl 2 rfl ?_
        refine J_iload dX7_firstWrong_177 4 rfl ?_
        refine J_ishr dX7_firstWrong_179 ?_
        refine J_iconst 1 dX7_firstWrong_180 rfl ?_
        refine J_iand dX7_firstWrong_181 ?_
        refine J_if_ne 200 dX7_firstWrong_182 (by decide) (fun c44 => ?_) (fun c44 => ?_)
        · have h := br_n c44 h
          refine J_iinc (j := 4) (v := (x4 + (1 : Int32))) (L' := [(4, .int ((x4 + (1 : Int32)))), (0, .ref (0)), (1, .ref (x1)), (2, .int (x2)), (3, .int (x3))]) dX7_firstWrong_200 rfl rfl (by decide) rfl ?_
          refine J_goto 154 dX7_firstWrong_203 (by decide) ?_
          have h := Option.some.inj h
          subst h
          refine J_sub [1, 2, 3, 4, 0] rfl ?_
          exact ih _ _ h2 Kx
        · have h := br_p c44 h
          refine J_iload_n dX7_firstWrong_185 rfl 3 rfl ?_
          refine J_aload_n dX7_firstWrong_186 rfl 0 rfl ?_
          refine J_getr (j := 1) (t := 11) (r := 3) rfl (by decide) (by decide) rfl (by decide) rfl rfl kf_X7_18 dX7_firstWrong_187 ?_
          refine J_iload dX7_firstWrong_190 4 rfl ?_
          obtain ⟨c39, h40, h⟩ := br_b h
          have q41 := a_rfL h40
          refine J_aaldL h40 dX7_firstWrong_192 ?_
          refine J_bipush 20 dX7_firstWrong_193 rfl ?_
          obtain ⟨r43, h42, h⟩ := br_b h
          refine J_callV (mj := mi_X1_overdueOn) (as := [.int ((20 : Int32))]) (rest := [.int (x3)]) (ct_X1_overdueOn (M := M) q41 h42) ⟨rfl, rfl⟩ rfl q41.1 (by decide) rfl cg_X7_364 hd_X1_overdueOn rfl ⟨Nat.le_of_ble_eq_true rfl, Nat.le_of_ble_eq_true rfl⟩ (Nat.le_of_ble_eq_true rfl) ⟨Nat.zero_le _, Nat.zero_le _⟩ dX7_firstWrong_195 ?_
          refine J_iadd dX7_firstWrong_198 ?_
          refine J_istore_n (L' := [(3, .int ((x3 + r43))), (0, .ref (0)), (1, .ref (x1)), (2, .int (x2)), (4, .int (x4))]) dX7_firstWrong_199 rfl (by decide) rfl ?_
          refine J_iinc (j := 4) (v := (x4 + (1 : Int32))) (L' := [(4, .int ((x4 + (1 : Int32)))), (3, .int ((x3 + r43))), (0, .ref (0)), (1, .ref (x1)), (2, .int (x2))]) dX7_firstWrong_200 rfl rfl (by decide) rfl ?_
          refine J_goto 154 dX7_firstWrong_203 (by decide) ?_
          have h := Option.some.inj h
          subst h
          refine J_sub [2, 3, 4, 1, 0] rfl ?_
          exact ih _ _ h2 Kx
def g_X7_firstWrong_151 (x1 : Nat) (x2 : Int32) (x3 : Int32) (C : aSc) : Option (Int32) :=
  (lpf (fun a : Int32 × Int32 => b_X7_firstWrong_154 (x1) (x2) a.1 a.2 C) FU (x3, (0 : Int32))).bind fun z47 => if (z47 : Int32) ≤ (a_gi C 14 0) then some (-1 : Int32) else some (a_gi C x1 1)
set_option maxRecDepth 100000 in
set_option maxHeartbeats 4000000 in
theorem jb_X7_firstWrong_151 {x1 : Nat} {x2 : Int32} {x3 : Int32} {C : aSc} {M : aMm} (qx1 : isS x1) {res : aRes} {r : Int32} (h : g_X7_firstWrong_151 x1 x2 x3 C = some r) (Kr : ∀ (v : Int32), r = v → res = (some (.int v), (C, M))) : J mi_X7_firstWrong res 0 0 151 [(0, .ref (0)), (1, .ref (x1)), (2, .int (x2)), (3, .int (x3))] [] (C, M) := by
  rw [g_X7_firstWrong_151] at h
  refine J_iconst 0 dX7_firstWrong_151 rfl ?_
  refine J_istore (L' := [(4, .int ((0 : Int32))), (0, .ref (0)), (1, .ref (x1)), (2, .int (x2)), (3, .int (x3))]) dX7_firstWrong_152 (by decide) rfl ?_
  refine J_sub [1, 2, 3, 4, 0] rfl ?_
  obtain ⟨z47, h48, h⟩ := br_b h
  refine jl_X7_firstWrong_154 qx1 FU _ _ h48 ?_
  intro zz e
  subst e
  refine J_iload_n dX7_firstWrong_206 rfl 2 rfl ?_
  refine J_aload_n dX7_firstWrong_207 rfl 0 rfl ?_
  refine J_getr (j := 12) (t := 22) (r := 14) rfl (by decide) (by decide) rfl (by decide) rfl rfl kf_X7_45 dX7_firstWrong_208 ?_
  refine J_geti (j := 0) rfl (by decide) (by decide) rfl (by decide) rfl kf_X7_275 dX7_firstWrong_211 ?_
  refine J_icmp_le 224 dX7_firstWrong_214 (by decide) (fun c50 => ?_) (fun c50 => ?_)
  · have h := br_p c50 h
    refine J_iconst (-1) dX7_firstWrong_224 rfl ?_
    have h := Option.some.inj h
    subst h
    exact J_iret rfl rfl rfl (Kr _ rfl) dX7_firstWrong_225
  · have h := br_n c50 h
    refine J_aload_n dX7_firstWrong_217 rfl 1 rfl ?_
    refine J_geti (j := 1) qx1.1 qx1.2.1 (by decide) rfl (by decide) rfl kf_X7_204 dX7_firstWrong_218 ?_
    refine J_goto 225 dX7_firstWrong_221 (by decide) ?_
    have h := Option.some.inj h
    subst h
    exact J_iret rfl rfl rfl (Kr _ rfl) dX7_firstWrong_225
def f_X7_firstWrong (x1 : Nat) (C : aSc) : Option (Int32) :=
  (lpf (fun a : Int32 × Int32 × Int32 => b_X7_firstWrong_7 (x1) a.1 a.2.1 a.2.2 C) FU ((0 : Int32), (0 : Int32), (0 : Int32))).bind fun z30 => Sum.elim (fun z30a => g_X7_firstWrong_151 (x1) (z30a.1) (z30a.2) C) (fun z51 => some z51) z30
set_option maxRecDepth 100000 in
set_option maxHeartbeats 4000000 in
theorem jm_X7_firstWrong {x1 : Nat} {C : aSc} {M : aMm} (qx1 : isS x1) {res : aRes} {r : Int32} (h : f_X7_firstWrong x1 C = some r) (Kr : ∀ (v : Int32), r = v → res = (some (.int v), (C, M))) : J mi_X7_firstWrong res 0 0 0 [(0, .ref (0)), (1, .ref (x1))] [] (C, M) := by
  rw [f_X7_firstWrong] at h
  refine J_iconst 0 dX7_firstWrong_0 rfl ?_
  refine J_istore_n (L' := [(2, .int ((0 : Int32))), (0, .ref (0)), (1, .ref (x1))]) dX7_firstWrong_1 rfl (by decide) rfl ?_
  refine J_iconst 0 dX7_firstWrong_2 rfl ?_
  refine J_istore_n (L' := [(3, .int ((0 : Int32))), (2, .int ((0 : Int32))), (0, .ref (0)), (1, .ref (x1))]) dX7_firstWrong_3 rfl (by decide) rfl ?_
  refine J_iconst 0 dX7_firstWrong_4 rfl ?_
  refine J_istore (L' := [(4, .int ((0 : Int32))), (3, .int ((0 : Int32))), (2, .int ((0 : Int32))), (0, .ref (0)), (1, .ref (x1))]) dX7_firstWrong_5 (by decide) rfl ?_
  refine J_sub [3, 4, 2, 1, 0] rfl ?_
  obtain ⟨z30, h31, h⟩ := br_b h
  refine jl_X7_firstWrong_7 qx1 FU _ _ _ h31 ?_ ?_
  · intro v32 v33 e
    subst e
    have h := br_l h
    exact jb_X7_firstWrong_151 qx1 h Kr
  · intro v e
    subst e
    have h := br_r h
    have h := Option.some.inj h
    subst h
    exact Kr _ rfl
theorem ct_X7_firstWrong {x1 : Nat} {C : aSc} {M : aMm} {v : Int32} (qx1 : isS x1) (h : f_X7_firstWrong x1 C = some v) : Ct mi_X7_firstWrong yX7_firstWrong [.ref (0), .ref (x1)] (C, M) (some (.int v), (C, M)) := Ct_of_J (by decide +kernel) rfl (Nat.le_of_ble_eq_true rfl) (jm_X7_firstWrong qx1 h (fun _ e => by cases e; rfl))
def mi_X7_proves : aMi := (cX7_proves, 3, RX7, (some .int), { frames := 5, cells := 2, slots := 21504, locals := 116 })
def f_X7_proves (x1 : Int32) (C : aSc) : Option (Int32 × aSc) :=
  (f_X7_isSheet x1 C).bind fun r2 => if (r2 : Int32) = 0 then bd2 (f_X7_refuse (-100001 : Int32) C) fun r19 C20 => some (r19, C20) else (a_rf 54 2 4 x1).bind fun c3 => if ((a_gi C c3 0) : Int32) = 0 then bd2 (f_X7_refuse (-100002 : Int32) C) fun r15 C16 => some (r15, C16) else if ((a_gi C c3 1) : Int32) = ((20 : Int32) - (a_gi C 0 4)) then (f_X7_findLandings  C).bind fun C7 => (f_X7_firstWrong c3 C7).bind fun r9 => some (r9, C7) else bd2 (f_X7_refuse (-100003 : Int32) C) fun r11 C12 => some (r11, C12)
set_option maxRecDepth 100000 in
set_option maxHeartbeats 4000000 in
theorem jm_X7_proves {x1 : Int32} {C : aSc} {M : aMm}  {res : aRes} {r : Int32 × aSc} (h : f_X7_proves x1 C = some r) (Kr : ∀ (v : Int32) (S' : aSc), r = (v, S') → res = (some (.int v), (S', M))) : J mi_X7_proves res 0 0 0 [(0, .ref (0)), (1, .int (x1))] [] (C, M) := by
  rw [f_X7_proves] at h
  refine J_iload_n dX7_proves_0 rfl 1 rfl ?_
  obtain ⟨r2, h1, h⟩ := br_b h
  refine J_callS (mj := mi_X7_isSheet) (as := [.int (x1)]) (rest := []) (ct_X7_isSheet (M := M)  h1) ⟨rfl, rfl⟩ rfl cg_X7_193 hd_X7_isSheet rfl ⟨Nat.le_of_ble_eq_true rfl, Nat.le_of_ble_eq_true rfl⟩ (Nat.le_of_ble_eq_true rfl) ⟨Nat.zero_le _, Nat.zero_le _⟩ dX7_proves_1 ?_
  refine J_if_ne 14 dX7_proves_4 (by decide) (fun c21 => ?_) (fun c21 => ?_)
  · have h := br_n c21 h
    refine J_aload_n dX7_proves_14 rfl 0 rfl ?_
    refine J_getr (j := 16) (t := 29) (r := 21) rfl (by decide) (by decide) rfl (by decide) rfl rfl kf_X7_55 dX7_proves_15 ?_
    refine J_iload_n dX7_proves_18 rfl 1 rfl ?_
    obtain ⟨c3, h4, h⟩ := br_b h
    have q5 := a_rfS h4
    refine J_aaldS h4 dX7_proves_19 ?_
    refine J_astore_n (L' := [(2, .ref (c3)), (0, .ref (0)), (1, .int (x1))]) dX7_proves_20 rfl (by decide) rfl ?_
    refine J_aload_n dX7_proves_21 rfl 0 rfl ?_
    refine J_geti (j := 0) q5.1 q5.2.1 (by decide) rfl (by decide) rfl kf_X7_196 dX7_proves_22 ?_
    refine J_if_ne 35 dX7_proves_25 (by decide) (fun c17 => ?_) (fun c17 => ?_)
    · have h := br_n c17 h
      refine J_aload_n dX7_proves_35 rfl 0 rfl ?_
      refine J_geti (j := 1) q5.1 q5.2.1 (by decide) rfl (by decide) rfl kf_X7_204 dX7_proves_36 ?_
      refine J_bipush 20 dX7_proves_39 rfl ?_
      refine J_aload_n dX7_proves_41 rfl 1 rfl ?_
      refine J_geti (j := 4) rfl (by decide) (by decide) rfl (by decide) rfl kf_X7_177 dX7_proves_42 ?_
      refine J_isub dX7_proves_45 ?_
      refine J_icmp_eq 56 dX7_proves_46 (by decide) (fun c13 => ?_) (fun c13 => ?_)
      · have h := br_p c13 h
        refine J_aload_n dX7_proves_56 rfl 1 rfl ?_
        obtain ⟨C7, h6, h⟩ := br_b h
        refine J_callA (mj := mi_X7_findLandings) (as := []) (ct_X7_findLandings (M := M)  h6) ⟨rfl, rfl⟩ rfl rfl (by decide) rfl cg_X7_272 hd_X7_findLandings rfl ⟨Nat.le_of_ble_eq_true rfl, Nat.le_of_ble_eq_true rfl⟩ (by have hz := a_ne18 q5.1 (by decide); simp [a_stb, hz.1, hz.2]) dX7_proves_57 ⟨by decide, by decide⟩ (fun _ => by simp) ?_
        refine J_aload_n dX7_proves_60 rfl 1 rfl ?_
        refine J_aload_n dX7_proves_61 rfl 0 rfl ?_
        obtain ⟨r9, h8, h⟩ := br_b h
        refine J_callV (mj := mi_X7_firstWrong) (as := [.ref (c3)]) (rest := []) (ct_X7_firstWrong (M := M) q5 h8) ⟨rfl, rfl⟩ rfl rfl (by decide) rfl cg_X7_281 hd_X7_firstWrong rfl ⟨Nat.le_of_ble_eq_true rfl, Nat.le_of_ble_eq_true rfl⟩ (Nat.le_of_ble_eq_true rfl) ⟨by decide, by decide⟩ dX7_proves_62 ?_
        have h := Option.some.inj h
        subst h
        exact J_iret rfl rfl rfl (Kr _ _ rfl) dX7_proves_65
      · have h := br_n c13 h
        refine J_aload_n dX7_proves_49 rfl 1 rfl ?_
        refine J_ldc (-100003) dX7_proves_50 kc_X7_160 ?_
        obtain ⟨r11, C12, h10, h⟩ := br_b2 h
        refine J_callV (mj := mi_X7_refuse) (as := [.int ((-100003 : Int32))]) (rest := []) (ct_X7_refuse (M := M)  h10) ⟨rfl, rfl⟩ rfl rfl (by decide) rfl cg_X7_69 hd_X7_refuse rfl ⟨Nat.le_of_ble_eq_true rfl, Nat.le_of_ble_eq_true rfl⟩ (Nat.le_of_ble_eq_true rfl) ⟨Nat.zero_le _, Nat.zero_le _⟩ dX7_proves_52 ?_
        have h := Option.some.inj h
        subst h
        refine J_wide (ck' := 2) (sk' := 21504) (by decide) (by decide) ?_
        exact J_iret rfl rfl rfl (Kr _ _ rfl) dX7_proves_55
    · have h := br_p c17 h
      refine J_aload_n dX7_proves_28 rfl 1 rfl ?_
      refine J_ldc (-100002) dX7_proves_29 kc_X7_199 ?_
      obtain ⟨r15, C16, h14, h⟩ := br_b2 h
      refine J_callV (mj := mi_X7_refuse) (as := [.int ((-100002 : Int32))]) (rest := []) (ct_X7_refuse (M := M)  h14) ⟨rfl, rfl⟩ rfl rfl (by decide) rfl cg_X7_69 hd_X7_refuse rfl ⟨Nat.le_of_ble_eq_true rfl, Nat.le_of_ble_eq_true rfl⟩ (Nat.le_of_ble_eq_true rfl) ⟨Nat.zero_le _, Nat.zero_le _⟩ dX7_proves_31 ?_
      have h := Option.some.inj h
      subst h
      refine J_wide (ck' := 2) (sk' := 21504) (by decide) (by decide) ?_
      exact J_iret rfl rfl rfl (Kr _ _ rfl) dX7_proves_34
  · have h := br_p c21 h
    refine J_aload_n dX7_proves_7 rfl 0 rfl ?_
    refine J_ldc (-100001) dX7_proves_8 kc_X7_68 ?_
    obtain ⟨r19, C20, h18, h⟩ := br_b2 h
    refine J_callV (mj := mi_X7_refuse) (as := [.int ((-100001 : Int32))]) (rest := []) (ct_X7_refuse (M := M)  h18) ⟨rfl, rfl⟩ rfl rfl (by decide) rfl cg_X7_69 hd_X7_refuse rfl ⟨Nat.le_of_ble_eq_true rfl, Nat.le_of_ble_eq_true rfl⟩ (Nat.le_of_ble_eq_true rfl) ⟨Nat.zero_le _, Nat.zero_le _⟩ dX7_proves_10 ?_
    have h := Option.some.inj h
    subst h
    refine J_wide (ck' := 2) (sk' := 21504) (by decide) (by decide) ?_
    exact J_iret rfl rfl rfl (Kr _ _ rfl) dX7_proves_13
theorem ct_X7_proves {x1 : Int32} {C : aSc} {M : aMm} {v : Int32} {S' : aSc}  (h : f_X7_proves x1 C = some (v, S')) : Ct mi_X7_proves yX7_proves [.ref (0), .int (x1)] (C, M) (some (.int v), (S', M)) := Ct_of_J (by decide +kernel) rfl (Nat.le_of_ble_eq_true rfl) (jm_X7_proves  h (fun _ _ e => by cases e; rfl))
def mi_X3_renew : aMi := (cX3_renew, 4, RX3, none, { frames := 0, cells := 0, slots := 0, locals := 0 })
def b_X3_renew_12 (x0 : Nat) (x3 : Int32) (C : aSc) : Option ((Int32 × aSc) ⊕ (aSc)) :=
  if ((30 : Int32) : Int32) ≤ x3 then some (.inr C) else (a_st C (x0 + 1) x3 (0 : Int32)).bind fun C5 => some (.inl ((x3 + (1 : Int32)), C5))
set_option maxRecDepth 100000 in
set_option maxHeartbeats 4000000 in
theorem jl_X3_renew_12 {x0 : Nat} {M : aMm} (qx0 : isS x0) {res : aRes} {r : aSc} : ∀ (n : Nat) (x3 : Int32) (C : aSc), lpf (fun a : Int32 × aSc => b_X3_renew_12 (x0) a.1 a.2) n (x3, C) = some r → (∀ (S2 : aSc), r = S2 → J mi_X3_renew res 0 0 31 [] [] (S2, M)) → J mi_X3_renew res 0 0 12 [(0, .ref (x0)), (3, .int (x3))] [] (C, M) := by
  intro n
  induction n with
  | zero =>
    intro x3 C h
    cases h
  | succ n ih =>
    intro x3 C h Kx
    obtain ⟨r0, h, h2⟩ := br_b h
    have h : b_X3_renew_12 x0 x3 C = some r0 := h
    rw [b_X3_renew_12] at h
    refine J_iload_n dX3_renew_12 rfl 1 rfl ?_
    refine J_bipush 30 dX3_renew_13 rfl ?_
    refine J_icmp_ge 31 dX3_renew_15 (by decide) (fun c7 => ?_) (fun c7 => ?_)
    · have h := br_p c7 h
      have h := Option.some.inj h
      subst h
      have h2 := Option.some.inj h2
      subst h2
      refine J_sub [] rfl ?_
      exact Kx _ rfl
    · have h := br_n c7 h
      refine J_aload_n dX3_renew_18 rfl 0 rfl ?_
      refine J_getr (j := 2) (t := 0) (r := x0 + 1) qx0.1 (Nat.lt_trans qx0.2.1 (by decide)) (by decide) rfl (by decide) rfl rfl kf_X3_9 dX3_renew_19 ?_
      refine J_iload_n dX3_renew_22 rfl 1 rfl ?_
      refine J_iconst 0 dX3_renew_23 rfl ?_
      obtain ⟨C5, h6, h⟩ := br_b h
      refine J_iast qx0.2.2.1 qx0.2.2.2 h6 dX3_renew_24 ?_
      refine J_iinc (j := 1) (v := (x3 + (1 : Int32))) (L' := [(3, .int ((x3 + (1 : Int32)))), (0, .ref (x0))]) dX3_renew_25 rfl rfl (by decide) rfl ?_
      refine J_goto 12 dX3_renew_28 (by decide) ?_
      have h := Option.some.inj h
      subst h
      refine J_sub [1, 0] rfl ?_
      exact ih _ _ h2 Kx
def f_X3_renew (x0 : Nat) (x1 : Int32) (x2 : Int32) (C : aSc) : Option (aSc) :=
  (some (a_pi C x0 0 x1)).bind fun C1 => (some (a_pi C1 x0 1 x2)).bind fun C3 => (lpf (fun a : Int32 × aSc => b_X3_renew_12 (x0) a.1 a.2) FU ((0 : Int32), C3)).bind fun z8 => some z8
set_option maxRecDepth 100000 in
set_option maxHeartbeats 4000000 in
theorem jm_X3_renew {x0 : Nat} {x1 : Int32} {x2 : Int32} {C : aSc} {M : aMm} (qx0 : isS x0) {res : aRes} {r : aSc} (h : f_X3_renew x0 x1 x2 C = some r) (Kr : ∀ (S' : aSc), r = S' → res = (none, (S', M))) : J mi_X3_renew res 0 0 0 [(0, .ref (x0)), (1, .int (x1)), (2, .int (x2))] [] (C, M) := by
  rw [f_X3_renew] at h
  refine J_aload_n dX3_renew_0 rfl 0 rfl ?_
  refine J_iload_n dX3_renew_1 rfl 1 rfl ?_
  obtain ⟨C1, e2, h⟩ := br_s h
  refine J_puti (j := 0) qx0.1 qx0.2.1 (by decide) rfl (by decide) rfl rfl rfl kf_X3_13 e2 dX3_renew_2 ?_
  refine J_aload_n dX3_renew_5 rfl 0 rfl ?_
  refine J_iload_n dX3_renew_6 rfl 2 rfl ?_
  obtain ⟨C3, e4, h⟩ := br_s h
  refine J_puti (j := 1) qx0.1 qx0.2.1 (by decide) rfl (by decide) rfl rfl rfl kf_X3_17 e4 dX3_renew_7 ?_
  refine J_iconst 0 dX3_renew_10 rfl ?_
  refine J_istore_n (L' := [(3, .int ((0 : Int32))), (0, .ref (x0)), (1, .int (x1)), (2, .int (x2))]) dX3_renew_11 rfl (by decide) rfl ?_
  refine J_sub [1, 0] rfl ?_
  obtain ⟨z8, h9, h⟩ := br_b h
  refine jl_X3_renew_12 qx0 FU _ _ h9 ?_
  intro zz e
  subst e
  have h := Option.some.inj h
  subst h
  exact J_vret rfl rfl rfl (Kr _ rfl) dX3_renew_31
theorem ct_X3_renew {x0 : Nat} {x1 : Int32} {x2 : Int32} {C : aSc} {M : aMm} {S' : aSc} (qx0 : isS x0) (h : f_X3_renew x0 x1 x2 C = some S') : Ct mi_X3_renew yX3_renew [.ref (x0), .int (x1), .int (x2)] (C, M) (none, (S', M)) := Ct_of_J (by decide +kernel) rfl (Nat.le_of_ble_eq_true rfl) (jm_X3_renew qx0 h (fun _ e => by cases e; rfl))
def mi_X7_sheet : aMi := (cX7_sheet, 5, RX7, (some .int), { frames := 1, cells := 0, slots := 0, locals := 23 })
def g_X7_sheet_27 (x1 : Int32) (x2 : Int32) (x3 : Int32) (t0 : Int32) (C : aSc) : Option (Int32 × aSc) :=
  (f_X7_isSheet x1 C).bind fun r2 => if (r2 : Int32) = 0 then bd2 (f_X7_refuse (-100001 : Int32) C) fun r4 C5 => some (r4, C5) else if (t0 : Int32) = 0 then bd2 (f_X7_refuse (-100001 : Int32) C) fun r29 C30 => some (r29, C30) else if 0 ≤ (x3 : Int32) then if (x3 : Int32) ≤ (30 : Int32) then (a_rf 54 2 4 x1).bind fun c6 => if (x2 : Int32) = 0 then (f_X3_renew c6 x2 (0 : Int32) C).bind fun C15 => (a_rf 54 2 4 x1).bind fun c16 => some ((a_gi C15 c16 1), C15) else (f_X3_renew c6 x2 x3 C).bind fun C10 => (a_rf 54 2 4 x1).bind fun c11 => some ((a_gi C10 c11 1), C10) else bd2 (f_X7_refuse (-100001 : Int32) C) fun r21 C22 => some (r21, C22) else bd2 (f_X7_refuse (-100003 : Int32) C) fun r25 C26 => some (r25, C26)
set_option maxRecDepth 100000 in
set_option maxHeartbeats 4000000 in
theorem jb_X7_sheet_27 {x1 : Int32} {x2 : Int32} {x3 : Int32} {t0 : Int32} {C : aSc} {M : aMm}  {res : aRes} {r : Int32 × aSc} (h : g_X7_sheet_27 x1 x2 x3 t0 C = some r) (Kr : ∀ (v : Int32) (S' : aSc), r = (v, S') → res = (some (.int v), (S', M))) : J mi_X7_sheet res 0 0 27 [(0, .ref (0)), (1, .int (x1)), (2, .int (x2)), (3, .int (x3))] [.int (t0)] (C, M) := by
  rw [g_X7_sheet_27] at h
  refine J_istore (L' := [(4, .int (t0)), (0, .ref (0)), (1, .int (x1)), (2, .int (x2)), (3, .int (x3))]) dX7_sheet_27 (by decide) rfl ?_
  refine J_iload_n dX7_sheet_29 rfl 2 rfl ?_
  obtain ⟨r2, h1, h⟩ := br_b h
  refine J_callS (mj := mi_X7_isSheet) (as := [.int (x1)]) (rest := []) (ct_X7_isSheet (M := M)  h1) ⟨rfl, rfl⟩ rfl cg_X7_193 hd_X7_isSheet rfl ⟨Nat.le_of_ble_eq_true rfl, Nat.le_of_ble_eq_true rfl⟩ (Nat.le_of_ble_eq_true rfl) ⟨Nat.zero_le _, Nat.zero_le _⟩ dX7_sheet_30 ?_
  refine J_if_eq 41 dX7_sheet_33 (by decide) (fun c32 => ?_) (fun c32 => ?_)
  · have h := br_p c32 h
    refine J_aload_n dX7_sheet_41 rfl 1 rfl ?_
    refine J_ldc (-100001) dX7_sheet_42 kc_X7_68 ?_
    obtain ⟨r4, C5, h3, h⟩ := br_b2 h
    refine J_callV (mj := mi_X7_refuse) (as := [.int ((-100001 : Int32))]) (rest := []) (ct_X7_refuse (M := M)  h3) ⟨rfl, rfl⟩ rfl rfl (by decide) rfl cg_X7_69 hd_X7_refuse rfl ⟨Nat.le_of_ble_eq_true rfl, Nat.le_of_ble_eq_true rfl⟩ (Nat.le_of_ble_eq_true rfl) ⟨Nat.zero_le _, Nat.zero_le _⟩ dX7_sheet_44 ?_
    have h := Option.some.inj h
    subst h
    exact J_iret rfl rfl rfl (Kr _ _ rfl) dX7_sheet_47
  · have h := br_n c32 h
    refine J_iload dX7_sheet_36 0 rfl ?_
    refine J_if_ne 48 dX7_sheet_38 (by decide) (fun c31 => ?_) (fun c31 => ?_)
    · have h := br_n c31 h
      refine J_iload_n dX7_sheet_48 rfl 4 rfl ?_
      refine J_if_ge 59 dX7_sheet_49 (by decide) (fun c27 => ?_) (fun c27 => ?_)
      · have h := br_p c27 h
        refine J_iload_n dX7_sheet_59 rfl 4 rfl ?_
        refine J_bipush 30 dX7_sheet_60 rfl ?_
        refine J_icmp_le 72 dX7_sheet_62 (by decide) (fun c23 => ?_) (fun c23 => ?_)
        · have h := br_p c23 h
          refine J_aload_n dX7_sheet_72 rfl 1 rfl ?_
          refine J_getr (j := 16) (t := 29) (r := 21) rfl (by decide) (by decide) rfl (by decide) rfl rfl kf_X7_55 dX7_sheet_73 ?_
          refine J_iload_n dX7_sheet_76 rfl 2 rfl ?_
          obtain ⟨c6, h7, h⟩ := br_b h
          have q8 := a_rfS h7
          refine J_aaldS h7 dX7_sheet_77 ?_
          refine J_iload_n dX7_sheet_78 rfl 3 rfl ?_
          refine J_iload_n dX7_sheet_79 rfl 3 rfl ?_
          refine J_if_ne 87 dX7_sheet_80 (by decide) (fun c19 => ?_) (fun c19 => ?_)
          · have h := br_n c19 h
            refine J_iload_n dX7_sheet_87 rfl 4 rfl ?_
            obtain ⟨C10, h9, h⟩ := br_b h
            refine J_callV (mj := mi_X3_renew) (as := [.int (x2), .int (x3)]) (rest := []) (ct_X3_renew (M := M) q8 h9) ⟨rfl, rfl⟩ rfl q8.1 (by decide) rfl cg_X7_285 hd_X3_renew rfl ⟨Nat.le_of_ble_eq_true rfl, Nat.le_of_ble_eq_true rfl⟩ (Nat.le_of_ble_eq_true rfl) ⟨Nat.zero_le _, Nat.zero_le _⟩ dX7_sheet_88 ?_
            refine J_aload_n dX7_sheet_91 rfl 1 rfl ?_
            refine J_getr (j := 16) (t := 29) (r := 21) rfl (by decide) (by decide) rfl (by decide) rfl rfl kf_X7_55 dX7_sheet_92 ?_
            refine J_iload_n dX7_sheet_95 rfl 2 rfl ?_
            obtain ⟨c11, h12, h⟩ := br_b h
            have q13 := a_rfS h12
            refine J_aaldS h12 dX7_sheet_96 ?_
            refine J_geti (j := 1) q13.1 q13.2.1 (by decide) rfl (by decide) rfl kf_X7_204 dX7_sheet_97 ?_
            have h := Option.some.inj h
            subst h
            exact J_iret rfl rfl rfl (Kr _ _ rfl) dX7_sheet_100
          · have h := br_p c19 h
            refine J_iconst 0 dX7_sheet_83 rfl ?_
            refine J_goto 88 dX7_sheet_84 (by decide) ?_
            obtain ⟨C15, h14, h⟩ := br_b h
            refine J_callV (mj := mi_X3_renew) (as := [.int (x2), .int ((0 : Int32))]) (rest := []) (ct_X3_renew (M := M) q8 h14) ⟨rfl, rfl⟩ rfl q8.1 (by decide) rfl cg_X7_285 hd_X3_renew rfl ⟨Nat.le_of_ble_eq_true rfl, Nat.le_of_ble_eq_true rfl⟩ (Nat.le_of_ble_eq_true rfl) ⟨Nat.zero_le _, Nat.zero_le _⟩ dX7_sheet_88 ?_
            refine J_aload_n dX7_sheet_91 rfl 1 rfl ?_
            refine J_getr (j := 16) (t := 29) (r := 21) rfl (by decide) (by decide) rfl (by decide) rfl rfl kf_X7_55 dX7_sheet_92 ?_
            refine J_iload_n dX7_sheet_95 rfl 2 rfl ?_
            obtain ⟨c16, h17, h⟩ := br_b h
            have q18 := a_rfS h17
            refine J_aaldS h17 dX7_sheet_96 ?_
            refine J_geti (j := 1) q18.1 q18.2.1 (by decide) rfl (by decide) rfl kf_X7_204 dX7_sheet_97 ?_
            have h := Option.some.inj h
            subst h
            exact J_iret rfl rfl rfl (Kr _ _ rfl) dX7_sheet_100
        · have h := br_n c23 h
          refine J_aload_n dX7_sheet_65 rfl 1 rfl ?_
          refine J_ldc (-100001) dX7_sheet_66 kc_X7_68 ?_
          obtain ⟨r21, C22, h20, h⟩ := br_b2 h
          refine J_callV (mj := mi_X7_refuse) (as := [.int ((-100001 : Int32))]) (rest := []) (ct_X7_refuse (M := M)  h20) ⟨rfl, rfl⟩ rfl rfl (by decide) rfl cg_X7_69 hd_X7_refuse rfl ⟨Nat.le_of_ble_eq_true rfl, Nat.le_of_ble_eq_true rfl⟩ (Nat.le_of_ble_eq_true rfl) ⟨Nat.zero_le _, Nat.zero_le _⟩ dX7_sheet_68 ?_
          have h := Option.some.inj h
          subst h
          exact J_iret rfl rfl rfl (Kr _ _ rfl) dX7_sheet_71
      · have h := br_n c27 h
        refine J_aload_n dX7_sheet_52 rfl 1 rfl ?_
        refine J_ldc (-100003) dX7_sheet_53 kc_X7_160 ?_
        obtain ⟨r25, C26, h24, h⟩ := br_b2 h
        refine J_callV (mj := mi_X7_refuse) (as := [.int ((-100003 : Int32))]) (rest := []) (ct_X7_refuse (M := M)  h24) ⟨rfl, rfl⟩ rfl rfl (by decide) rfl cg_X7_69 hd_X7_refuse rfl ⟨Nat.le_of_ble_eq_true rfl, Nat.le_of_ble_eq_true rfl⟩ (Nat.le_of_ble_eq_true rfl) ⟨Nat.zero_le _, Nat.zero_le _⟩ dX7_sheet_55 ?_
        have h := Option.some.inj h
        subst h
        exact J_iret rfl rfl rfl (Kr _ _ rfl) dX7_sheet_58
    · have h := br_p c31 h
      refine J_aload_n dX7_sheet_41 rfl 1 rfl ?_
      refine J_ldc (-100001) dX7_sheet_42 kc_X7_68 ?_
      obtain ⟨r29, C30, h28, h⟩ := br_b2 h
      refine J_callV (mj := mi_X7_refuse) (as := [.int ((-100001 : Int32))]) (rest := []) (ct_X7_refuse (M := M)  h28) ⟨rfl, rfl⟩ rfl rfl (by decide) rfl cg_X7_69 hd_X7_refuse rfl ⟨Nat.le_of_ble_eq_true rfl, Nat.le_of_ble_eq_true rfl⟩ (Nat.le_of_ble_eq_true rfl) ⟨Nat.zero_le _, Nat.zero_le _⟩ dX7_sheet_44 ?_
      have h := Option.some.inj h
      subst h
      exact J_iret rfl rfl rfl (Kr _ _ rfl) dX7_sheet_47
def g_X7_sheet_22 (x1 : Int32) (x2 : Int32) (x3 : Int32) (C : aSc) : Option (Int32 × aSc) :=
  g_X7_sheet_27 (x1) (x2) (x3) ((1 : Int32)) C
set_option maxRecDepth 100000 in
set_option maxHeartbeats 4000000 in
theorem jb_X7_sheet_22 {x1 : Int32} {x2 : Int32} {x3 : Int32} {C : aSc} {M : aMm}  {res : aRes} {r : Int32 × aSc} (h : g_X7_sheet_22 x1 x2 x3 C = some r) (Kr : ∀ (v : Int32) (S' : aSc), r = (v, S') → res = (some (.int v), (S', M))) : J mi_X7_sheet res 0 0 22 [(0, .ref (0)), (1, .int (x1)), (2, .int (x2)), (3, .int (x3))] [] (C, M) := by
  rw [g_X7_sheet_22] at h
  refine J_iconst 1 dX7_sheet_22 rfl ?_
  refine J_goto 27 dX7_sheet_23 (by decide) ?_
  exact jb_X7_sheet_27  h Kr
def f_X7_sheet (x1 : Int32) (x2 : Int32) (x3 : Int32) (C : aSc) : Option (Int32 × aSc) :=
  if (x2 : Int32) = 0 then g_X7_sheet_22 (x1) (x2) (x3) C else if (x2 : Int32) = (8 : Int32) then g_X7_sheet_22 (x1) (x2) (x3) C else if (x2 : Int32) = (16 : Int32) then g_X7_sheet_22 (x1) (x2) (x3) C else if (x2 : Int32) = (32 : Int32) then g_X7_sheet_22 (x1) (x2) (x3) C else g_X7_sheet_27 (x1) (x2) (x3) ((0 : Int32)) C
set_option maxRecDepth 100000 in
set_option maxHeartbeats 4000000 in
theorem jm_X7_sheet {x1 : Int32} {x2 : Int32} {x3 : Int32} {C : aSc} {M : aMm}  {res : aRes} {r : Int32 × aSc} (h : f_X7_sheet x1 x2 x3 C = some r) (Kr : ∀ (v : Int32) (S' : aSc), r = (v, S') → res = (some (.int v), (S', M))) : J mi_X7_sheet res 0 0 0 [(0, .ref (0)), (1, .int (x1)), (2, .int (x2)), (3, .int (x3))] [] (C, M) := by
  rw [f_X7_sheet] at h
  refine J_iload_n dX7_sheet_0 rfl 2 rfl ?_
  refine J_if_eq 22 dX7_sheet_1 (by decide) (fun c36 => ?_) (fun c36 => ?_)
  · have h := br_p c36 h
    exact jb_X7_sheet_22  h Kr
  · have h := br_n c36 h
    refine J_iload_n dX7_sheet_4 rfl 2 rfl ?_
    refine J_bipush 8 dX7_sheet_5 rfl ?_
    refine J_icmp_eq 22 dX7_sheet_7 (by decide) (fun c35 => ?_) (fun c35 => ?_)
    · have h := br_p c35 h
      exact jb_X7_sheet_22  h Kr
    · have h := br_n c35 h
      refine J_iload_n dX7_sheet_10 rfl 2 rfl ?_
      refine J_bipush 16 dX7_sheet_11 rfl ?_
      refine J_icmp_eq 22 dX7_sheet_13 (by decide) (fun c34 => ?_) (fun c34 => ?_)
      · have h := br_p c34 h
        exact jb_X7_sheet_22  h Kr
      · have h := br_n c34 h
        refine J_iload_n dX7_sheet_16 rfl 2 rfl ?_
        refine J_bipush 32 dX7_sheet_17 rfl ?_
        refine J_icmp_ne 26 dX7_sheet_19 (by decide) (fun c33 => ?_) (fun c33 => ?_)
        · have h := br_n c33 h
          refine J_iconst 0 dX7_sheet_26 rfl ?_
          exact jb_X7_sheet_27  h Kr
        · have h := br_p c33 h
          exact jb_X7_sheet_22  h Kr
theorem ct_X7_sheet {x1 : Int32} {x2 : Int32} {x3 : Int32} {C : aSc} {M : aMm} {v : Int32} {S' : aSc}  (h : f_X7_sheet x1 x2 x3 C = some (v, S')) : Ct mi_X7_sheet yX7_sheet [.ref (0), .int (x1), .int (x2), .int (x3)] (C, M) (some (.int v), (S', M)) := Ct_of_J (by decide +kernel) rfl (Nat.le_of_ble_eq_true rfl) (jm_X7_sheet  h (fun _ _ e => by cases e; rfl))
def mi_X3_lowest : aMi := (cX3_lowest, 2, RX3, (some .int), { frames := 0, cells := 0, slots := 0, locals := 0 })
def f_X3_lowest (x0 : Nat) (x1 : Int32) (C : aSc) : Option (Int32) :=
  if ((a_gi C x0 0) : Int32) = (8 : Int32) then some ((x1 : Int32).toInt8.toInt32) else if ((a_gi C x0 0) : Int32) = (16 : Int32) then some ((x1 : Int32).toInt16.toInt32) else some x1
set_option maxRecDepth 100000 in
set_option maxHeartbeats 4000000 in
theorem jm_X3_lowest {x0 : Nat} {x1 : Int32} {C : aSc} {M : aMm} (qx0 : isS x0) {res : aRes} {r : Int32} (h : f_X3_lowest x0 x1 C = some r) (Kr : ∀ (v : Int32), r = v → res = (some (.int v), (C, M))) : J mi_X3_lowest res 0 0 0 [(0, .ref (x0)), (1, .int (x1))] [] (C, M) := by
  rw [f_X3_lowest] at h
  refine J_aload_n dX3_lowest_0 rfl 0 rfl ?_
  refine J_geti (j := 0) qx0.1 qx0.2.1 (by decide) rfl (by decide) rfl kf_X3_13 dX3_lowest_1 ?_
  refine J_bipush 8 dX3_lowest_4 rfl ?_
  refine J_icmp_ne 12 dX3_lowest_6 (by decide) (fun c2 => ?_) (fun c2 => ?_)
  · have h := br_n c2 h
    refine J_aload_n dX3_lowest_12 rfl 0 rfl ?_
    refine J_geti (j := 0) qx0.1 qx0.2.1 (by decide) rfl (by decide) rfl kf_X3_13 dX3_lowest_13 ?_
    refine J_bipush 16 dX3_lowest_16 rfl ?_
    refine J_icmp_ne 26 dX3_lowest_18 (by decide) (fun c1 => ?_) (fun c1 => ?_)
    · have h := br_n c1 h
      refine J_iload_n dX3_lowest_26 rfl 1 rfl ?_
      have h := Option.some.inj h
      subst h
      exact J_iret rfl rfl rfl (Kr _ rfl) dX3_lowest_27
    · have h := br_p c1 h
      refine J_iload_n dX3_lowest_21 rfl 1 rfl ?_
      refine J_i2s dX3_lowest_22 ?_
      refine J_goto 27 dX3_lowest_23 (by decide) ?_
      have h := Option.some.inj h
      subst h
      exact J_iret rfl rfl rfl (Kr _ rfl) dX3_lowest_27
  · have h := br_p c2 h
    refine J_iload_n dX3_lowest_9 rfl 1 rfl ?_
    refine J_i2b dX3_lowest_10 ?_
    have h := Option.some.inj h
    subst h
    exact J_iret rfl rfl rfl (Kr _ rfl) dX3_lowest_11
theorem ct_X3_lowest {x0 : Nat} {x1 : Int32} {C : aSc} {M : aMm} {v : Int32} (qx0 : isS x0) (h : f_X3_lowest x0 x1 C = some v) : Ct mi_X3_lowest yX3_lowest [.ref (x0), .int (x1)] (C, M) (some (.int v), (C, M)) := Ct_of_J (by decide +kernel) rfl (Nat.le_of_ble_eq_true rfl) (jm_X3_lowest qx0 h (fun _ e => by cases e; rfl))
def mi_X7_put : aMi := (cX7_put, 5, RX7, (some .int), { frames := 1, cells := 0, slots := 0, locals := 21 })
def f_X7_put (x1 : Int32) (x2 : Int32) (x3 : Int32) (C : aSc) : Option (Int32 × aSc) :=
  (f_X7_isSheet x1 C).bind fun r2 => if (r2 : Int32) = 0 then bd2 (f_X7_refuse (-100001 : Int32) C) fun r23 C24 => some (r23, C24) else (a_rf 54 2 4 x1).bind fun c3 => if ((a_gi C c3 0) : Int32) = 0 then bd2 (f_X7_refuse (-100002 : Int32) C) fun r19 C20 => some (r19, C20) else if (x2 : Int32) < 0 then bd2 (f_X7_refuse (-100001 : Int32) C) fun r7 C8 => some (r7, C8) else if (x2 : Int32) < (a_gi C c3 1) then (f_X3_lowest c3 x3 C).bind fun r10 => (a_st C (c3 + 1) x2 r10).bind fun C11 => some ((0 : Int32), C11) else bd2 (f_X7_refuse (-100001 : Int32) C) fun r14 C15 => some (r14, C15)
set_option maxRecDepth 100000 in
set_option maxHeartbeats 4000000 in
theorem jm_X7_put {x1 : Int32} {x2 : Int32} {x3 : Int32} {C : aSc} {M : aMm}  {res : aRes} {r : Int32 × aSc} (h : f_X7_put x1 x2 x3 C = some r) (Kr : ∀ (v : Int32) (S' : aSc), r = (v, S') → res = (some (.int v), (S', M))) : J mi_X7_put res 0 0 0 [(0, .ref (0)), (1, .int (x1)), (2, .int (x2)), (3, .int (x3))] [] (C, M) := by
  rw [f_X7_put] at h
  refine J_iload_n dX7_put_0 rfl 1 rfl ?_
  obtain ⟨r2, h1, h⟩ := br_b h
  refine J_callS (mj := mi_X7_isSheet) (as := [.int (x1)]) (rest := []) (ct_X7_isSheet (M := M)  h1) ⟨rfl, rfl⟩ rfl cg_X7_193 hd_X7_isSheet rfl ⟨Nat.le_of_ble_eq_true rfl, Nat.le_of_ble_eq_true rfl⟩ (Nat.le_of_ble_eq_true rfl) ⟨Nat.zero_le _, Nat.zero_le _⟩ dX7_put_1 ?_
  refine J_if_ne 14 dX7_put_4 (by decide) (fun c25 => ?_) (fun c25 => ?_)
  · have h := br_n c25 h
    refine J_aload_n dX7_put_14 rfl 0 rfl ?_
    refine J_getr (j := 16) (t := 29) (r := 21) rfl (by decide) (by decide) rfl (by decide) rfl rfl kf_X7_55 dX7_put_15 ?_
    refine J_iload_n dX7_put_18 rfl 1 rfl ?_
    obtain ⟨c3, h4, h⟩ := br_b h
    have q5 := a_rfS h4
    refine J_aaldS h4 dX7_put_19 ?_
    refine J_astore (L' := [(4, .ref (c3)), (0, .ref (0)), (1, .int (x1)), (2, .int (x2)), (3, .int (x3))]) dX7_put_20 (by decide) rfl ?_
    refine J_aload dX7_put_22 0 rfl ?_
    refine J_geti (j := 0) q5.1 q5.2.1 (by decide) rfl (by decide) rfl kf_X7_196 dX7_put_24 ?_
    refine J_if_ne 37 dX7_put_27 (by decide) (fun c21 => ?_) (fun c21 => ?_)
    · have h := br_n c21 h
      refine J_iload_n dX7_put_37 rfl 3 rfl ?_
      refine J_if_lt 50 dX7_put_38 (by decide) (fun c17 => ?_) (fun c17 => ?_)
      · have h := br_p c17 h
        refine J_aload_n dX7_put_50 rfl 1 rfl ?_
        refine J_ldc (-100001) dX7_put_51 kc_X7_68 ?_
        obtain ⟨r7, C8, h6, h⟩ := br_b2 h
        refine J_callV (mj := mi_X7_refuse) (as := [.int ((-100001 : Int32))]) (rest := []) (ct_X7_refuse (M := M)  h6) ⟨rfl, rfl⟩ rfl rfl (by decide) rfl cg_X7_69 hd_X7_refuse rfl ⟨Nat.le_of_ble_eq_true rfl, Nat.le_of_ble_eq_true rfl⟩ (Nat.le_of_ble_eq_true rfl) ⟨Nat.zero_le _, Nat.zero_le _⟩ dX7_put_53 ?_
        have h := Option.some.inj h
        subst h
        exact J_iret rfl rfl rfl (Kr _ _ rfl) dX7_put_56
      · have h := br_n c17 h
        refine J_iload_n dX7_put_41 rfl 3 rfl ?_
        refine J_aload dX7_put_42 0 rfl ?_
        refine J_geti (j := 1) q5.1 q5.2.1 (by decide) rfl (by decide) rfl kf_X7_204 dX7_put_44 ?_
        refine J_icmp_lt 57 dX7_put_47 (by decide) (fun c16 => ?_) (fun c16 => ?_)
        · have h := br_p c16 h
          refine J_aload dX7_put_57 0 rfl ?_
          refine J_getr (j := 2) (t := 0) (r := c3 + 1) q5.1 (Nat.lt_trans q5.2.1 (by decide)) (by decide) rfl (by decide) rfl rfl kf_X7_269 dX7_put_59 ?_
          refine J_iload_n dX7_put_62 rfl 3 rfl ?_
          refine J_aload dX7_put_63 0 rfl ?_
          refine J_iload_n dX7_put_65 rfl 4 rfl ?_
          obtain ⟨r10, h9, h⟩ := br_b h
          refine J_callV (mj := mi_X3_lowest) (as := [.int (x3)]) (rest := [.int (x2), .ref ((c3 + 1))]) (ct_X3_lowest (M := M) q5 h9) ⟨rfl, rfl⟩ rfl q5.1 (by decide) rfl cg_X7_289 hd_X3_lowest rfl ⟨Nat.le_of_ble_eq_true rfl, Nat.le_of_ble_eq_true rfl⟩ (Nat.le_of_ble_eq_true rfl) ⟨Nat.zero_le _, Nat.zero_le _⟩ dX7_put_66 ?_
          obtain ⟨C11, h12, h⟩ := br_b h
          refine J_iast q5.2.2.1 q5.2.2.2 h12 dX7_put_69 ?_
          refine J_iconst 0 dX7_put_70 rfl ?_
          have h := Option.some.inj h
          subst h
          exact J_iret rfl rfl rfl (Kr _ _ rfl) dX7_put_71
        · have h := br_n c16 h
          refine J_aload_n dX7_put_50 rfl 1 rfl ?_
          refine J_ldc (-100001) dX7_put_51 kc_X7_68 ?_
          obtain ⟨r14, C15, h13, h⟩ := br_b2 h
          refine J_callV (mj := mi_X7_refuse) (as := [.int ((-100001 : Int32))]) (rest := []) (ct_X7_refuse (M := M)  h13) ⟨rfl, rfl⟩ rfl rfl (by decide) rfl cg_X7_69 hd_X7_refuse rfl ⟨Nat.le_of_ble_eq_true rfl, Nat.le_of_ble_eq_true rfl⟩ (Nat.le_of_ble_eq_true rfl) ⟨Nat.zero_le _, Nat.zero_le _⟩ dX7_put_53 ?_
          have h := Option.some.inj h
          subst h
          exact J_iret rfl rfl rfl (Kr _ _ rfl) dX7_put_56
    · have h := br_p c21 h
      refine J_aload_n dX7_put_30 rfl 1 rfl ?_
      refine J_ldc (-100002) dX7_put_31 kc_X7_199 ?_
      obtain ⟨r19, C20, h18, h⟩ := br_b2 h
      refine J_callV (mj := mi_X7_refuse) (as := [.int ((-100002 : Int32))]) (rest := []) (ct_X7_refuse (M := M)  h18) ⟨rfl, rfl⟩ rfl rfl (by decide) rfl cg_X7_69 hd_X7_refuse rfl ⟨Nat.le_of_ble_eq_true rfl, Nat.le_of_ble_eq_true rfl⟩ (Nat.le_of_ble_eq_true rfl) ⟨Nat.zero_le _, Nat.zero_le _⟩ dX7_put_33 ?_
      have h := Option.some.inj h
      subst h
      exact J_iret rfl rfl rfl (Kr _ _ rfl) dX7_put_36
  · have h := br_p c25 h
    refine J_aload_n dX7_put_7 rfl 0 rfl ?_
    refine J_ldc (-100001) dX7_put_8 kc_X7_68 ?_
    obtain ⟨r23, C24, h22, h⟩ := br_b2 h
    refine J_callV (mj := mi_X7_refuse) (as := [.int ((-100001 : Int32))]) (rest := []) (ct_X7_refuse (M := M)  h22) ⟨rfl, rfl⟩ rfl rfl (by decide) rfl cg_X7_69 hd_X7_refuse rfl ⟨Nat.le_of_ble_eq_true rfl, Nat.le_of_ble_eq_true rfl⟩ (Nat.le_of_ble_eq_true rfl) ⟨Nat.zero_le _, Nat.zero_le _⟩ dX7_put_10 ?_
    have h := Option.some.inj h
    subst h
    exact J_iret rfl rfl rfl (Kr _ _ rfl) dX7_put_13
theorem ct_X7_put {x1 : Int32} {x2 : Int32} {x3 : Int32} {C : aSc} {M : aMm} {v : Int32} {S' : aSc}  (h : f_X7_put x1 x2 x3 C = some (v, S')) : Ct mi_X7_put yX7_put [.ref (0), .int (x1), .int (x2), .int (x3)] (C, M) (some (.int v), (S', M)) := Ct_of_J (by decide +kernel) rfl (Nat.le_of_ble_eq_true rfl) (jm_X7_put  h (fun _ _ e => by cases e; rfl))
def mi_X3_hasNumbers : aMi := (cX3_hasNumbers, 3, RX3, (some .boolean), { frames := 0, cells := 0, slots := 0, locals := 0 })
def f_X3_hasNumbers (x0 : Nat) (x1 : Int32) (x2 : Int32) (C : aSc) : Option (Int32) :=
  if (x1 : Int32) < 0 then some (0 : Int32) else if (x2 : Int32) < 0 then some (0 : Int32) else if ((a_gi C x0 1) : Int32) < x1 then some (0 : Int32) else if (((a_gi C x0 1) - x1) : Int32) < x2 then some (0 : Int32) else some (1 : Int32)
set_option maxRecDepth 100000 in
set_option maxHeartbeats 4000000 in
theorem jm_X3_hasNumbers {x0 : Nat} {x1 : Int32} {x2 : Int32} {C : aSc} {M : aMm} (qx0 : isS x0) {res : aRes} {r : Int32} (h : f_X3_hasNumbers x0 x1 x2 C = some r) (Kr : ∀ (v : Int32), r = v → res = (some (.int v), (C, M))) : J mi_X3_hasNumbers res 0 0 0 [(0, .ref (x0)), (1, .int (x1)), (2, .int (x2))] [] (C, M) := by
  rw [f_X3_hasNumbers] at h
  refine J_iload_n dX3_hasNumbers_0 rfl 1 rfl ?_
  refine J_if_lt 30 dX3_hasNumbers_1 (by decide) (fun c4 => ?_) (fun c4 => ?_)
  · have h := br_p c4 h
    refine J_iconst 0 dX3_hasNumbers_30 rfl ?_
    have h := Option.some.inj h
    subst h
    exact J_zret (Or.inl rfl) rfl rfl rfl (Kr _ rfl) dX3_hasNumbers_31
  · have h := br_n c4 h
    refine J_iload_n dX3_hasNumbers_4 rfl 2 rfl ?_
    refine J_if_lt 30 dX3_hasNumbers_5 (by decide) (fun c3 => ?_) (fun c3 => ?_)
    · have h := br_p c3 h
      refine J_iconst 0 dX3_hasNumbers_30 rfl ?_
      have h := Option.some.inj h
      subst h
      exact J_zret (Or.inl rfl) rfl rfl rfl (Kr _ rfl) dX3_hasNumbers_31
    · have h := br_n c3 h
      refine J_iload_n dX3_hasNumbers_8 rfl 1 rfl ?_
      refine J_aload_n dX3_hasNumbers_9 rfl 0 rfl ?_
      refine J_geti (j := 1) qx0.1 qx0.2.1 (by decide) rfl (by decide) rfl kf_X3_17 dX3_hasNumbers_10 ?_
      refine J_icmp_gt 30 dX3_hasNumbers_13 (by decide) (fun c2 => ?_) (fun c2 => ?_)
      · have h := br_p c2 h
        refine J_iconst 0 dX3_hasNumbers_30 rfl ?_
        have h := Option.some.inj h
        subst h
        exact J_zret (Or.inl rfl) rfl rfl rfl (Kr _ rfl) dX3_hasNumbers_31
      · have h := br_n c2 h
        refine J_iload_n dX3_hasNumbers_16 rfl 2 rfl ?_
        refine J_aload_n dX3_hasNumbers_17 rfl 0 rfl ?_
        refine J_geti (j := 1) qx0.1 qx0.2.1 (by decide) rfl (by decide) rfl kf_X3_17 dX3_hasNumbers_18 ?_
        refine J_iload_n dX3_hasNumbers_21 rfl 1 rfl ?_
        refine J_isub dX3_hasNumbers_22 ?_
        refine J_icmp_gt 30 dX3_hasNumbers_23 (by decide) (fun c1 => ?_) (fun c1 => ?_)
        · have h := br_p c1 h
          refine J_iconst 0 dX3_hasNumbers_30 rfl ?_
          have h := Option.some.inj h
          subst h
          exact J_zret (Or.inl rfl) rfl rfl rfl (Kr _ rfl) dX3_hasNumbers_31
        · have h := br_n c1 h
          refine J_iconst 1 dX3_hasNumbers_26 rfl ?_
          refine J_goto 31 dX3_hasNumbers_27 (by decide) ?_
          have h := Option.some.inj h
          subst h
          exact J_zret (Or.inr rfl) rfl rfl rfl (Kr _ rfl) dX3_hasNumbers_31
theorem ct_X3_hasNumbers {x0 : Nat} {x1 : Int32} {x2 : Int32} {C : aSc} {M : aMm} {v : Int32} (qx0 : isS x0) (h : f_X3_hasNumbers x0 x1 x2 C = some v) : Ct mi_X3_hasNumbers yX3_hasNumbers [.ref (x0), .int (x1), .int (x2)] (C, M) (some (.int v), (C, M)) := Ct_of_J (by decide +kernel) rfl (Nat.le_of_ble_eq_true rfl) (jm_X3_hasNumbers qx0 h (fun _ e => by cases e; rfl))
def mi_X7_copy : aMi := (cX7_copy, 8, RX7, (some .int), { frames := 1, cells := 0, slots := 0, locals := 26 })
def f_X7_copy (x1 : Int32) (x2 : Int32) (x3 : Int32) (x4 : Int32) (x5 : Int32) (C : aSc) : Option (Int32 × aSc) :=
  (f_X7_isSheet x1 C).bind fun r2 => if (r2 : Int32) = 0 then bd2 (f_X7_refuse (-100001 : Int32) C) fun r4 C5 => some (r4, C5) else (f_X7_isSheet x3 C).bind fun r7 => if (r7 : Int32) = 0 then bd2 (f_X7_refuse (-100001 : Int32) C) fun r41 C42 => some (r41, C42) else (a_rf 54 2 4 x1).bind fun c8 => (a_rf 54 2 4 x3).bind fun c11 => if ((a_gi C c8 0) : Int32) = 0 then bd2 (f_X7_refuse (-100002 : Int32) C) fun r15 C16 => some (r15, C16) else if ((a_gi C c11 0) : Int32) = 0 then bd2 (f_X7_refuse (-100002 : Int32) C) fun r36 C37 => some (r36, C37) else if ((a_gi C c8 0) : Int32) = (a_gi C c11 0) then (f_X3_hasNumbers c8 x2 x5 C).bind fun r18 => if (r18 : Int32) = 0 then bd2 (f_X7_refuse (-100001 : Int32) C) fun r20 C21 => some (r20, C21) else (f_X3_hasNumbers c11 x4 x5 C).bind fun r23 => if (r23 : Int32) = 0 then bd2 (f_X7_refuse (-100001 : Int32) C) fun r27 C28 => some (r27, C28) else (a_cpy C (c8 + 1) x2 (c11 + 1) x4 x5).bind fun C24 => some (x5, C24) else bd2 (f_X7_refuse (-100004 : Int32) C) fun r32 C33 => some (r32, C33)
set_option maxRecDepth 100000 in
set_option maxHeartbeats 4000000 in
theorem jm_X7_copy {x1 : Int32} {x2 : Int32} {x3 : Int32} {x4 : Int32} {x5 : Int32} {C : aSc} {M : aMm}  {res : aRes} {r : Int32 × aSc} (h : f_X7_copy x1 x2 x3 x4 x5 C = some r) (Kr : ∀ (v : Int32) (S' : aSc), r = (v, S') → res = (some (.int v), (S', M))) : J mi_X7_copy res 0 0 0 [(0, .ref (0)), (1, .int (x1)), (2, .int (x2)), (3, .int (x3)), (4, .int (x4)), (5, .int (x5))] [] (C, M) := by
  rw [f_X7_copy] at h
  refine J_iload_n dX7_copy_0 rfl 1 rfl ?_
  obtain ⟨r2, h1, h⟩ := br_b h
  refine J_callS (mj := mi_X7_isSheet) (as := [.int (x1)]) (rest := []) (ct_X7_isSheet (M := M)  h1) ⟨rfl, rfl⟩ rfl cg_X7_193 hd_X7_isSheet rfl ⟨Nat.le_of_ble_eq_true rfl, Nat.le_of_ble_eq_true rfl⟩ (Nat.le_of_ble_eq_true rfl) ⟨Nat.zero_le _, Nat.zero_le _⟩ dX7_copy_1 ?_
  refine J_if_eq 14 dX7_copy_4 (by decide) (fun c44 => ?_) (fun c44 => ?_)
  · have h := br_p c44 h
    refine J_aload_n dX7_copy_14 rfl 0 rfl ?_
    refine J_ldc (-100001) dX7_copy_15 kc_X7_68 ?_
    obtain ⟨r4, C5, h3, h⟩ := br_b2 h
    refine J_callV (mj := mi_X7_refuse) (as := [.int ((-100001 : Int32))]) (rest := []) (ct_X7_refuse (M := M)  h3) ⟨rfl, rfl⟩ rfl rfl (by decide) rfl cg_X7_69 hd_X7_refuse rfl ⟨Nat.le_of_ble_eq_true rfl, Nat.le_of_ble_eq_true rfl⟩ (Nat.le_of_ble_eq_true rfl) ⟨Nat.zero_le _, Nat.zero_le _⟩ dX7_copy_17 ?_
    have h := Option.some.inj h
    subst h
    exact J_iret rfl rfl rfl (Kr _ _ rfl) dX7_copy_20
  · have h := br_n c44 h
    refine J_iload_n dX7_copy_7 rfl 3 rfl ?_
    obtain ⟨r7, h6, h⟩ := br_b h
    refine J_callS (mj := mi_X7_isSheet) (as := [.int (x3)]) (rest := []) (ct_X7_isSheet (M := M)  h6) ⟨rfl, rfl⟩ rfl cg_X7_193 hd_X7_isSheet rfl ⟨Nat.le_of_ble_eq_true rfl, Nat.le_of_ble_eq_true rfl⟩ (Nat.le_of_ble_eq_true rfl) ⟨Nat.zero_le _, Nat.zero_le _⟩ dX7_copy_8 ?_
    refine J_if_ne 21 dX7_copy_11 (by decide) (fun c43 => ?_) (fun c43 => ?_)
    · have h := br_n c43 h
      refine J_aload_n dX7_copy_21 rfl 0 rfl ?_
      refine J_getr (j := 16) (t := 29) (r := 21) rfl (by decide) (by decide) rfl (by decide) rfl rfl kf_X7_55 dX7_copy_22 ?_
      refine J_iload_n dX7_copy_25 rfl 1 rfl ?_
      obtain ⟨c8, h9, h⟩ := br_b h
      have q10 := a_rfS h9
      refine J_aaldS h9 dX7_copy_26 ?_
      refine J_astore (L' := [(6, .ref (c8)), (0, .ref (0)), (1, .int (x1)), (2, .int (x2)), (3, .int (x3)), (4, .int (x4)), (5, .int (x5))]) dX7_copy_27 (by decide) rfl ?_
      refine J_aload_n dX7_copy_29 rfl 1 rfl ?_
      refine J_getr (j := 16) (t := 29) (r := 21) rfl (by decide) (by decide) rfl (by decide) rfl rfl kf_X7_55 dX7_copy_30 ?_
      refine J_iload_n dX7_copy_33 rfl 4 rfl ?_
      obtain ⟨c11, h12, h⟩ := br_b h
      have q13 := a_rfS h12
      refine J_aaldS h12 dX7_copy_34 ?_
      refine J_astore (L' := [(7, .ref (c11)), (6, .ref (c8)), (0, .ref (0)), (1, .int (x1)), (2, .int (x2)), (3, .int (x3)), (4, .int (x4)), (5, .int (x5))]) dX7_copy_35 (by decide) rfl ?_
      refine J_aload dX7_copy_37 1 rfl ?_
      refine J_geti (j := 0) q10.1 q10.2.1 (by decide) rfl (by decide) rfl kf_X7_196 dX7_copy_39 ?_
      refine J_if_eq 53 dX7_copy_42 (by decide) (fun c39 => ?_) (fun c39 => ?_)
      · have h := br_p c39 h
        refine J_aload_n dX7_copy_53 rfl 2 rfl ?_
        refine J_ldc (-100002) dX7_copy_54 kc_X7_199 ?_
        obtain ⟨r15, C16, h14, h⟩ := br_b2 h
        refine J_callV (mj := mi_X7_refuse) (as := [.int ((-100002 : Int32))]) (rest := []) (ct_X7_refuse (M := M)  h14) ⟨rfl, rfl⟩ rfl rfl (by decide) rfl cg_X7_69 hd_X7_refuse rfl ⟨Nat.le_of_ble_eq_true rfl, Nat.le_of_ble_eq_true rfl⟩ (Nat.le_of_ble_eq_true rfl) ⟨Nat.zero_le _, Nat.zero_le _⟩ dX7_copy_56 ?_
        have h := Option.some.inj h
        subst h
        exact J_iret rfl rfl rfl (Kr _ _ rfl) dX7_copy_59
      · have h := br_n c39 h
        refine J_aload dX7_copy_45 0 rfl ?_
        refine J_geti (j := 0) q13.1 q13.2.1 (by decide) rfl (by decide) rfl kf_X7_196 dX7_copy_47 ?_
        refine J_if_ne 60 dX7_copy_50 (by decide) (fun c38 => ?_) (fun c38 => ?_)
        · have h := br_n c38 h
          refine J_aload dX7_copy_60 1 rfl ?_
          refine J_geti (j := 0) q10.1 q10.2.1 (by decide) rfl (by decide) rfl kf_X7_196 dX7_copy_62 ?_
          refine J_aload dX7_copy_65 0 rfl ?_
          refine J_geti (j := 0) q13.1 q13.2.1 (by decide) rfl (by decide) rfl kf_X7_196 dX7_copy_67 ?_
          refine J_icmp_eq 80 dX7_copy_70 (by decide) (fun c34 => ?_) (fun c34 => ?_)
          · have h := br_p c34 h
            refine J_aload dX7_copy_80 1 rfl ?_
            refine J_iload_n dX7_copy_82 rfl 4 rfl ?_
            refine J_iload dX7_copy_83 7 rfl ?_
            obtain ⟨r18, h17, h⟩ := br_b h
            refine J_callV (mj := mi_X3_hasNumbers) (as := [.int (x2), .int (x5)]) (rest := []) (ct_X3_hasNumbers (M := M) q10 h17) ⟨rfl, rfl⟩ rfl q10.1 (by decide) rfl cg_X7_292 hd_X3_hasNumbers rfl ⟨Nat.le_of_ble_eq_true rfl, Nat.le_of_ble_eq_true rfl⟩ (Nat.le_of_ble_eq_true rfl) ⟨Nat.zero_le _, Nat.zero_le _⟩ dX7_copy_85 ?_
            refine J_if_eq 103 dX7_copy_88 (by decide) (fun c30 => ?_) (fun c30 => ?_)
            · have h := br_p c30 h
              refine J_aload_n dX7_copy_103 rfl 2 rfl ?_
              refine J_ldc (-100001) dX7_copy_104 kc_X7_68 ?_
              obtain ⟨r20, C21, h19, h⟩ := br_b2 h
              refine J_callV (mj := mi_X7_refuse) (as := [.int ((-100001 : Int32))]) (rest := []) (ct_X7_refuse (M := M)  h19) ⟨rfl, rfl⟩ rfl rfl (by decide) rfl cg_X7_69 hd_X7_refuse rfl ⟨Nat.le_of_ble_eq_true rfl, Nat.le_of_ble_eq_true rfl⟩ (Nat.le_of_ble_eq_true rfl) ⟨Nat.zero_le _, Nat.zero_le _⟩ dX7_copy_106 ?_
              have h := Option.some.inj h
              subst h
              exact J_iret rfl rfl rfl (Kr _ _ rfl) dX7_copy_109
            · have h := br_n c30 h
              refine J_aload dX7_copy_91 0 rfl ?_
              refine J_iload dX7_copy_93 6 rfl ?_
              refine J_iload dX7_copy_95 7 rfl ?_
              obtain ⟨r23, h22, h⟩ := br_b h
              refine J_callV (mj := mi_X3_hasNumbers) (as := [.int (x4), .int (x5)]) (rest := []) (ct_X3_hasNumbers (M := M) q13 h22) ⟨rfl, rfl⟩ rfl q13.1 (by decide) rfl cg_X7_292 hd_X3_hasNumbers rfl ⟨Nat.le_of_ble_eq_true rfl, Nat.le_of_ble_eq_true rfl⟩ (Nat.le_of_ble_eq_true rfl) ⟨Nat.zero_le _, Nat.zero_le _⟩ dX7_copy_97 ?_
              refine J_if_ne 110 dX7_copy_100 (by decide) (fun c29 => ?_) (fun c29 => ?_)
              · have h := br_n c29 h
                refine J_aload dX7_copy_110 1 rfl ?_
                refine J_getr (j := 2) (t := 0) (r := c8 + 1) q10.1 (Nat.lt_trans q10.2.1 (by decide)) (by decide) rfl (by decide) rfl rfl kf_X7_269 dX7_copy_112 ?_
                refine J_iload_n dX7_copy_115 rfl 4 rfl ?_
                refine J_aload dX7_copy_116 0 rfl ?_
                refine J_getr (j := 2) (t := 0) (r := c11 + 1) q13.1 (Nat.lt_trans q13.2.1 (by decide)) (by decide) rfl (by decide) rfl rfl kf_X7_269 dX7_copy_118 ?_
                refine J_iload dX7_copy_121 6 rfl ?_
                refine J_iload dX7_copy_123 7 rfl ?_
                obtain ⟨C24, h25, h⟩ := br_b h
                refine J_copy km_X7_219 kna_cpy kst_cpy ki_System q10.2.2.1 q10.2.2.2 q13.2.2.1 q13.2.2.2 h25 (by decide) (Nat.le_of_ble_eq_true rfl) dX7_copy_125 ?_
                refine J_iload dX7_copy_128 7 rfl ?_
                have h := Option.some.inj h
                subst h
                exact J_iret rfl rfl rfl (Kr _ _ rfl) dX7_copy_130
              · have h := br_p c29 h
                refine J_aload_n dX7_copy_103 rfl 2 rfl ?_
                refine J_ldc (-100001) dX7_copy_104 kc_X7_68 ?_
                obtain ⟨r27, C28, h26, h⟩ := br_b2 h
                refine J_callV (mj := mi_X7_refuse) (as := [.int ((-100001 : Int32))]) (rest := []) (ct_X7_refuse (M := M)  h26) ⟨rfl, rfl⟩ rfl rfl (by decide) rfl cg_X7_69 hd_X7_refuse rfl ⟨Nat.le_of_ble_eq_true rfl, Nat.le_of_ble_eq_true rfl⟩ (Nat.le_of_ble_eq_true rfl) ⟨Nat.zero_le _, Nat.zero_le _⟩ dX7_copy_106 ?_
                have h := Option.some.inj h
                subst h
                exact J_iret rfl rfl rfl (Kr _ _ rfl) dX7_copy_109
          · have h := br_n c34 h
            refine J_aload_n dX7_copy_73 rfl 2 rfl ?_
            refine J_ldc (-100004) dX7_copy_74 kc_X7_118 ?_
            obtain ⟨r32, C33, h31, h⟩ := br_b2 h
            refine J_callV (mj := mi_X7_refuse) (as := [.int ((-100004 : Int32))]) (rest := []) (ct_X7_refuse (M := M)  h31) ⟨rfl, rfl⟩ rfl rfl (by decide) rfl cg_X7_69 hd_X7_refuse rfl ⟨Nat.le_of_ble_eq_true rfl, Nat.le_of_ble_eq_true rfl⟩ (Nat.le_of_ble_eq_true rfl) ⟨Nat.zero_le _, Nat.zero_le _⟩ dX7_copy_76 ?_
            have h := Option.some.inj h
            subst h
            exact J_iret rfl rfl rfl (Kr _ _ rfl) dX7_copy_79
        · have h := br_p c38 h
          refine J_aload_n dX7_copy_53 rfl 2 rfl ?_
          refine J_ldc (-100002) dX7_copy_54 kc_X7_199 ?_
          obtain ⟨r36, C37, h35, h⟩ := br_b2 h
          refine J_callV (mj := mi_X7_refuse) (as := [.int ((-100002 : Int32))]) (rest := []) (ct_X7_refuse (M := M)  h35) ⟨rfl, rfl⟩ rfl rfl (by decide) rfl cg_X7_69 hd_X7_refuse rfl ⟨Nat.le_of_ble_eq_true rfl, Nat.le_of_ble_eq_true rfl⟩ (Nat.le_of_ble_eq_true rfl) ⟨Nat.zero_le _, Nat.zero_le _⟩ dX7_copy_56 ?_
          have h := Option.some.inj h
          subst h
          exact J_iret rfl rfl rfl (Kr _ _ rfl) dX7_copy_59
    · have h := br_p c43 h
      refine J_aload_n dX7_copy_14 rfl 0 rfl ?_
      refine J_ldc (-100001) dX7_copy_15 kc_X7_68 ?_
      obtain ⟨r41, C42, h40, h⟩ := br_b2 h
      refine J_callV (mj := mi_X7_refuse) (as := [.int ((-100001 : Int32))]) (rest := []) (ct_X7_refuse (M := M)  h40) ⟨rfl, rfl⟩ rfl rfl (by decide) rfl cg_X7_69 hd_X7_refuse rfl ⟨Nat.le_of_ble_eq_true rfl, Nat.le_of_ble_eq_true rfl⟩ (Nat.le_of_ble_eq_true rfl) ⟨Nat.zero_le _, Nat.zero_le _⟩ dX7_copy_17 ?_
      have h := Option.some.inj h
      subst h
      exact J_iret rfl rfl rfl (Kr _ _ rfl) dX7_copy_20
theorem ct_X7_copy {x1 : Int32} {x2 : Int32} {x3 : Int32} {x4 : Int32} {x5 : Int32} {C : aSc} {M : aMm} {v : Int32} {S' : aSc}  (h : f_X7_copy x1 x2 x3 x4 x5 C = some (v, S')) : Ct mi_X7_copy yX7_copy [.ref (0), .int (x1), .int (x2), .int (x3), .int (x4), .int (x5)] (C, M) (some (.int v), (S', M)) := Ct_of_J (by decide +kernel) rfl (Nat.le_of_ble_eq_true rfl) (jm_X7_copy  h (fun _ _ e => by cases e; rfl))
def mi_X2_takeLatest : aMi := (cX2_takeLatest, 1, RX2, (some (.object "CoastLights$Step")), { frames := 0, cells := 0, slots := 0, locals := 0 })
def f_X2_takeLatest  (C : aSc) : Option (Nat × aSc) :=
  if ((a_gi C 22 2) : Int32) = 0 then some (0, C) else (some (a_pi C 22 2 ((a_gi C 22 2) - (1 : Int32)))).bind fun C1 => (some (a_pi C1 22 1 ((((a_gi C1 22 1) + (16 : Int32)) - (1 : Int32)) - (((a_gi C1 22 1) + (16 : Int32)) - (1 : Int32)) / (16 : Int32) * (16 : Int32)))).bind fun C3 => (a_rf 62 2 16 (a_gi C3 22 1)).bind fun c5 => some (c5, C3)
set_option maxRecDepth 100000 in
set_option maxHeartbeats 4000000 in
theorem jm_X2_takeLatest  {C : aSc} {M : aMm}  {res : aRes} {r : Nat × aSc} (h : f_X2_takeLatest  C = some r) (Kr : ∀ (v : Nat) (S' : aSc), r = (v, S') → res = (some (a_nr v), (S', M))) : J mi_X2_takeLatest res 0 0 0 [(0, .ref (22))] [] (C, M) := by
  rw [f_X2_takeLatest] at h
  refine J_aload_n dX2_takeLatest_0 rfl 0 rfl ?_
  refine J_geti (j := 2) rfl (by decide) (by decide) rfl (by decide) rfl kf_X2_20 dX2_takeLatest_1 ?_
  refine J_if_ne 9 dX2_takeLatest_4 (by decide) (fun c8 => ?_) (fun c8 => ?_)
  · have h := br_n c8 h
    refine J_aload_n dX2_takeLatest_9 rfl 0 rfl ?_
    refine J_dup dX2_takeLatest_10 rfl ?_
    refine J_geti (j := 2) rfl (by decide) (by decide) rfl (by decide) rfl kf_X2_20 dX2_takeLatest_11 ?_
    refine J_iconst 1 dX2_takeLatest_14 rfl ?_
    refine J_isub dX2_takeLatest_15 ?_
    obtain ⟨C1, e2, h⟩ := br_s h
    refine J_puti (j := 2) rfl (by decide) (by decide) rfl (by decide) rfl rfl rfl kf_X2_20 e2 dX2_takeLatest_16 ?_
    refine J_aload_n dX2_takeLatest_19 rfl 0 rfl ?_
    refine J_aload_n dX2_takeLatest_20 rfl 0 rfl ?_
    refine J_geti (j := 1) rfl (by decide) (by decide) rfl (by decide) rfl kf_X2_16 dX2_takeLatest_21 ?_
    refine J_bipush 16 dX2_takeLatest_24 rfl ?_
    refine J_iadd dX2_takeLatest_26 ?_
    refine J_iconst 1 dX2_takeLatest_27 rfl ?_
    refine J_isub dX2_takeLatest_28 ?_
    refine J_bipush 16 dX2_takeLatest_29 rfl ?_
    refine J_irem dX2_takeLatest_31 (by decide) ?_
    obtain ⟨C3, e4, h⟩ := br_s h
    refine J_puti (j := 1) rfl (by decide) (by decide) rfl (by decide) rfl rfl rfl kf_X2_16 e4 dX2_takeLatest_32 ?_
    refine J_aload_n dX2_takeLatest_35 rfl 0 rfl ?_
    refine J_getr (j := 0) (t := 31) (r := 23) rfl (by decide) (by decide) rfl (by decide) rfl rfl kf_X2_11 dX2_takeLatest_36 ?_
    refine J_aload_n dX2_takeLatest_39 rfl 0 rfl ?_
    refine J_geti (j := 1) rfl (by decide) (by decide) rfl (by decide) rfl kf_X2_16 dX2_takeLatest_40 ?_
    obtain ⟨c5, h6, h⟩ := br_b h
    have q7 := a_rfP h6
    refine J_aaldP h6 dX2_takeLatest_43 ?_
    have h := Option.some.inj h
    subst h
    exact J_aret (Or.inl ⟨_, rfl⟩) rfl rfl rfl (a_nr_res q7 (Kr _ _ rfl)) dX2_takeLatest_44
  · have h := br_p c8 h
    refine J_null dX2_takeLatest_7 ?_
    have h := Option.some.inj h
    subst h
    exact J_aretN (Or.inl ⟨_, rfl⟩) rfl rfl rfl (Kr _ _ rfl) dX2_takeLatest_8
theorem ct_X2_takeLatest  {C : aSc} {M : aMm} {v : Nat} {S' : aSc}  (h : f_X2_takeLatest  C = some (v, S')) : Ct mi_X2_takeLatest yX2_takeLatest [.ref (22)] (C, M) (some (a_nr v), (S', M)) := Ct_of_J (by decide +kernel) rfl (Nat.le_of_ble_eq_true rfl) (jm_X2_takeLatest  h (fun _ _ e => by cases e; rfl))
def mi_X7_oneLess : aMi := (cX7_oneLess, 1, RX7, (some .int), { frames := 1, cells := 0, slots := 0, locals := 21 })
def f_X7_oneLess (x0 : Int32) (C : aSc) : Option (Int32) :=
  some (a_max (0 : Int32) (x0 - (1 : Int32)))
set_option maxRecDepth 100000 in
set_option maxHeartbeats 4000000 in
theorem jm_X7_oneLess {x0 : Int32} {C : aSc} {M : aMm}  {res : aRes} {r : Int32} (h : f_X7_oneLess x0 C = some r) (Kr : ∀ (v : Int32), r = v → res = (some (.int v), (C, M))) : J mi_X7_oneLess res 0 0 0 [(0, .int (x0))] [] (C, M) := by
  rw [f_X7_oneLess] at h
  refine J_iconst 0 dX7_oneLess_0 rfl ?_
  refine J_iload_n dX7_oneLess_1 rfl 0 rfl ?_
  refine J_iconst 1 dX7_oneLess_2 rfl ?_
  refine J_isub dX7_oneLess_3 ?_
  refine J_mmax km_X7_188 kst_Math_max ki_Math kcd_Math_max (by decide) (Nat.le_of_ble_eq_true rfl) ⟨Nat.zero_le _, Nat.zero_le _⟩ dX7_oneLess_4 ?_
  have h := Option.some.inj h
  subst h
  exact J_iret rfl rfl rfl (Kr _ rfl) dX7_oneLess_7
theorem ct_X7_oneLess {x0 : Int32} {C : aSc} {M : aMm} {v : Int32}  (h : f_X7_oneLess x0 C = some v) : Ct mi_X7_oneLess yX7_oneLess [.int (x0)] (C, M) (some (.int v), (C, M)) := Ct_of_J (by decide +kernel) rfl (Nat.le_of_ble_eq_true rfl) (jm_X7_oneLess  h (fun _ e => by cases e; rfl))
def mi_X7_takeBack : aMi := (cX7_takeBack, 2, RX7, none, { frames := 2, cells := 0, slots := 0, locals := 45 })
def f_X7_takeBack (x1 : Nat) (C : aSc) : Option (aSc) :=
  if ((a_gi C x1 0) : Int32) = 0 then (f_X7_oneLess (a_gi C 0 2) C).bind fun r3 => (some (a_pi C 0 2 r3)).bind fun C4 => some C4 else if ((a_gi C x1 0) : Int32) = 1 then (a_rf 24 3 10 (a_gi C x1 1)).bind fun c7 => (a_rf 24 3 10 (a_gi C x1 1)).bind fun c10 => (f_X7_oneLess (a_gi C c10 8) C).bind fun r14 => (some (a_pi C c7 8 r14)).bind fun C15 => some C15 else if ((a_gi C x1 0) : Int32) = 2 then (a_rf 24 3 10 (a_gi C x1 1)).bind fun c18 => (some (a_pi C c18 9 (a_gi C x1 2))).bind fun C21 => some C21 else if ((a_gi C x1 0) : Int32) = 3 then (some (a_pi C 0 3 (a_gi C x1 2))).bind fun C24 => some C24 else if ((a_gi C x1 0) : Int32) = 4 then (some (a_pi C 0 4 (a_gi C x1 2))).bind fun C27 => some C27 else if ((a_gi C x1 0) : Int32) = 5 then (f_X7_oneLess (a_gi C 0 6) C).bind fun r31 => (some (a_pi C 0 6 r31)).bind fun C32 => some C32 else if ((a_gi C x1 0) : Int32) = 6 then (some (a_pi C 0 6 (a_gi C x1 2))).bind fun C35 => (a_cpy C35 (x1 + 1) (0 : Int32) 4 (0 : Int32) (a_gi C35 0 6)).bind fun C37 => some C37 else if ((a_gi C x1 0) : Int32) = 7 then if ((a_gi C x1 2) : Int32) = (1 : Int32) then (f_X7_setFairway (a_gi C x1 1) (1 : Int32) C).bind fun C43 => some C43 else (f_X7_setFairway (a_gi C x1 1) (0 : Int32) C).bind fun C41 => some C41 else if ((a_gi C x1 0) : Int32) = 8 then (f_X7_oneLess (a_gi C 7 0) C).bind fun r47 => (some (a_pi C 7 0 r47)).bind fun C48 => some C48 else if ((a_gi C x1 0) : Int32) = 9 then (a_rf 24 3 10 (a_gi C x1 1)).bind fun c51 => (some (a_pi C c51 10 (a_gi C x1 2))).bind fun C54 => some C54 else if ((a_gi C x1 0) : Int32) = 10 then (a_rf 24 3 10 (a_gi C x1 1)).bind fun c57 => (some (a_pi C c57 11 (a_gi C x1 2))).bind fun C60 => some C60 else if ((a_gi C x1 0) : Int32) = 11 then (a_cpy C (x1 + 1) (0 : Int32) 13 (0 : Int32) (20 : Int32)).bind fun C63 => some C63 else some C
set_option maxRecDepth 100000 in
set_option maxHeartbeats 4000000 in
theorem jm_X7_takeBack {x1 : Nat} {C : aSc} {M : aMm} (qx1 : isP x1) {res : aRes} {r : aSc} (h : f_X7_takeBack x1 C = some r) (Kr : ∀ (S' : aSc), r = S' → res = (none, (S', M))) : J mi_X7_takeBack res 0 0 0 [(0, .ref (0)), (1, .ref (x1))] [] (C, M) := by
  rw [f_X7_takeBack] at h
  refine J_aload_n dX7_takeBack_0 rfl 1 rfl ?_
  refine J_geti (j := 0) qx1.1 qx1.2.1 (by decide) rfl (by decide) rfl kf_X7_370 dX7_takeBack_1 ?_
  by_cases c1 : ((a_gi C x1 0) : Int32) = 0
  · have h := br_p c1 h
    refine J_tsw 68 dX7_takeBack_4 (by decide) (by rw [c1]; decide) ?_
    refine J_aload_n dX7_takeBack_68 rfl 0 rfl ?_
    refine J_aload_n dX7_takeBack_69 rfl 0 rfl ?_
    refine J_geti (j := 2) rfl (by decide) (by decide) rfl (by decide) rfl kf_X7_89 dX7_takeBack_70 ?_
    obtain ⟨r3, h2, h⟩ := br_b h
    refine J_callS (mj := mi_X7_oneLess) (as := [.int ((a_gi C 0 2))]) (rest := [.ref (0)]) (ct_X7_oneLess (M := M)  h2) ⟨rfl, rfl⟩ rfl cg_X7_379 hd_X7_oneLess rfl ⟨Nat.le_of_ble_eq_true rfl, Nat.le_of_ble_eq_true rfl⟩ (Nat.le_of_ble_eq_true rfl) ⟨Nat.zero_le _, Nat.zero_le _⟩ dX7_takeBack_73 ?_
    obtain ⟨C4, e5, h⟩ := br_s h
    refine J_puti (j := 2) rfl (by decide) (by decide) rfl (by decide) rfl rfl rfl kf_X7_89 e5 dX7_takeBack_76 ?_
    refine J_goto 295 dX7_takeBack_79 (by decide) ?_
    have h := Option.some.inj h
    subst h
    exact J_vret rfl rfl rfl (Kr _ rfl) dX7_takeBack_295
  · have h := br_n c1 h
    by_cases c6 : ((a_gi C x1 0) : Int32) = 1
    · have h := br_p c6 h
      refine J_tsw 82 dX7_takeBack_4 (by decide) (by rw [c6]; decide) ?_
      refine J_aload_n dX7_takeBack_82 rfl 0 rfl ?_
      refine J_getr (j := 1) (t := 11) (r := 3) rfl (by decide) (by decide) rfl (by decide) rfl rfl kf_X7_18 dX7_takeBack_83 ?_
      refine J_aload_n dX7_takeBack_86 rfl 1 rfl ?_
      refine J_geti (j := 1) qx1.1 qx1.2.1 (by decide) rfl (by decide) rfl kf_X7_373 dX7_takeBack_87 ?_
      obtain ⟨c7, h8, h⟩ := br_b h
      have q9 := a_rfL h8
      refine J_aaldL h8 dX7_takeBack_90 ?_
      refine J_aload_n dX7_takeBack_91 rfl 0 rfl ?_
      refine J_getr (j := 1) (t := 11) (r := 3) rfl (by decide) (by decide) rfl (by decide) rfl rfl kf_X7_18 dX7_takeBack_92 ?_
      refine J_aload_n dX7_takeBack_95 rfl 1 rfl ?_
      refine J_geti (j := 1) qx1.1 qx1.2.1 (by decide) rfl (by decide) rfl kf_X7_373 dX7_takeBack_96 ?_
      obtain ⟨c10, h11, h⟩ := br_b h
      have q12 := a_rfL h11
      refine J_aaldL h11 dX7_takeBack_99 ?_
      refine J_geti (j := 8) q12.1 q12.2.1 (by decide) rfl (by decide) rfl kf_X7_141 dX7_takeBack_100 ?_
      obtain ⟨r14, h13, h⟩ := br_b h
      refine J_callS (mj := mi_X7_oneLess) (as := [.int ((a_gi C c10 8))]) (rest := [.ref (c7)]) (ct_X7_oneLess (M := M)  h13) ⟨rfl, rfl⟩ rfl cg_X7_379 hd_X7_oneLess rfl ⟨Nat.le_of_ble_eq_true rfl, Nat.le_of_ble_eq_true rfl⟩ (Nat.le_of_ble_eq_true rfl) ⟨Nat.zero_le _, Nat.zero_le _⟩ dX7_takeBack_103 ?_
      obtain ⟨C15, e16, h⟩ := br_s h
      refine J_puti (j := 8) q9.1 q9.2.1 (by decide) rfl (by decide) rfl rfl rfl kf_X7_141 e16 dX7_takeBack_106 ?_
      refine J_goto 295 dX7_takeBack_109 (by decide) ?_
      have h := Option.some.inj h
      subst h
      exact J_vret rfl rfl rfl (Kr _ rfl) dX7_takeBack_295
    · have h := br_n c6 h
      by_cases c17 : ((a_gi C x1 0) : Int32) = 2
      · have h := br_p c17 h
        refine J_tsw 112 dX7_takeBack_4 (by decide) (by rw [c17]; decide) ?_
        refine J_aload_n dX7_takeBack_112 rfl 0 rfl ?_
        refine J_getr (j := 1) (t := 11) (r := 3) rfl (by decide) (by decide) rfl (by decide) rfl rfl kf_X7_18 dX7_takeBack_113 ?_
        refine J_aload_n dX7_takeBack_116 rfl 1 rfl ?_
        refine J_geti (j := 1) qx1.1 qx1.2.1 (by decide) rfl (by decide) rfl kf_X7_373 dX7_takeBack_117 ?_
        obtain ⟨c18, h19, h⟩ := br_b h
        have q20 := a_rfL h19
        refine J_aaldL h19 dX7_takeBack_120 ?_
        refine J_aload_n dX7_takeBack_121 rfl 1 rfl ?_
        refine J_geti (j := 2) qx1.1 qx1.2.1 (by decide) rfl (by decide) rfl kf_X7_376 dX7_takeBack_122 ?_
        obtain ⟨C21, e22, h⟩ := br_s h
        refine J_puti (j := 9) q20.1 q20.2.1 (by decide) rfl (by decide) rfl rfl rfl kf_X7_144 e22 dX7_takeBack_125 ?_
        refine J_goto 295 dX7_takeBack_128 (by decide) ?_
        have h := Option.some.inj h
        subst h
        exact J_vret rfl rfl rfl (Kr _ rfl) dX7_takeBack_295
      · have h := br_n c17 h
        by_cases c23 : ((a_gi C x1 0) : Int32) = 3
        · have h := br_p c23 h
          refine J_tsw 131 dX7_takeBack_4 (by decide) (by rw [c23]; decide) ?_
          refine J_aload_n dX7_takeBack_131 rfl 0 rfl ?_
          refine J_aload_n dX7_takeBack_132 rfl 1 rfl ?_
          refine J_geti (j := 2) qx1.1 qx1.2.1 (by decide) rfl (by decide) rfl kf_X7_376 dX7_takeBack_133 ?_
          obtain ⟨C24, e25, h⟩ := br_s h
          refine J_puti (j := 3) rfl (by decide) (by decide) rfl (by decide) rfl rfl rfl kf_X7_171 e25 dX7_takeBack_136 ?_
          refine J_goto 295 dX7_takeBack_139 (by decide) ?_
          have h := Option.some.inj h
          subst h
          exact J_vret rfl rfl rfl (Kr _ rfl) dX7_takeBack_295
        · have h := br_n c23 h
          by_cases c26 : ((a_gi C x1 0) : Int32) = 4
          · have h := br_p c26 h
            refine J_tsw 142 dX7_takeBack_4 (by decide) (by rw [c26]; decide) ?_
            refine J_aload_n dX7_takeBack_142 rfl 0 rfl ?_
            refine J_aload_n dX7_takeBack_143 rfl 1 rfl ?_
            refine J_geti (j := 2) qx1.1 qx1.2.1 (by decide) rfl (by decide) rfl kf_X7_376 dX7_takeBack_144 ?_
            obtain ⟨C27, e28, h⟩ := br_s h
            refine J_puti (j := 4) rfl (by decide) (by decide) rfl (by decide) rfl rfl rfl kf_X7_177 e28 dX7_takeBack_147 ?_
            refine J_goto 295 dX7_takeBack_150 (by decide) ?_
            have h := Option.some.inj h
            subst h
            exact J_vret rfl rfl rfl (Kr _ rfl) dX7_takeBack_295
          · have h := br_n c26 h
            by_cases c29 : ((a_gi C x1 0) : Int32) = 5
            · have h := br_p c29 h
              refine J_tsw 153 dX7_takeBack_4 (by decide) (by rw [c29]; decide) ?_
              refine J_aload_n dX7_takeBack_153 rfl 0 rfl ?_
              refine J_aload_n dX7_takeBack_154 rfl 0 rfl ?_
              refine J_geti (j := 6) rfl (by decide) (by decide) rfl (by decide) rfl kf_X7_211 dX7_takeBack_155 ?_
              obtain ⟨r31, h30, h⟩ := br_b h
              refine J_callS (mj := mi_X7_oneLess) (as := [.int ((a_gi C 0 6))]) (rest := [.ref (0)]) (ct_X7_oneLess (M := M)  h30) ⟨rfl, rfl⟩ rfl cg_X7_379 hd_X7_oneLess rfl ⟨Nat.le_of_ble_eq_true rfl, Nat.le_of_ble_eq_true rfl⟩ (Nat.le_of_ble_eq_true rfl) ⟨Nat.zero_le _, Nat.zero_le _⟩ dX7_takeBack_158 ?_
              obtain ⟨C32, e33, h⟩ := br_s h
              refine J_puti (j := 6) rfl (by decide) (by decide) rfl (by decide) rfl rfl rfl kf_X7_211 e33 dX7_takeBack_161 ?_
              refine J_goto 295 dX7_takeBack_164 (by decide) ?_
              have h := Option.some.inj h
              subst h
              exact J_vret rfl rfl rfl (Kr _ rfl) dX7_takeBack_295
            · have h := br_n c29 h
              by_cases c34 : ((a_gi C x1 0) : Int32) = 6
              · have h := br_p c34 h
                refine J_tsw 167 dX7_takeBack_4 (by decide) (by rw [c34]; decide) ?_
                refine J_aload_n dX7_takeBack_167 rfl 0 rfl ?_
                refine J_aload_n dX7_takeBack_168 rfl 1 rfl ?_
                refine J_geti (j := 2) qx1.1 qx1.2.1 (by decide) rfl (by decide) rfl kf_X7_376 dX7_takeBack_169 ?_
                obtain ⟨C35, e36, h⟩ := br_s h
                refine J_puti (j := 6) rfl (by decide) (by decide) rfl (by decide) rfl rfl rfl kf_X7_211 e36 dX7_takeBack_172 ?_
                refine J_aload_n dX7_takeBack_175 rfl 1 rfl ?_
                refine J_getr (j := 3) (t := 0) (r := x1 + 1) qx1.1 (Nat.lt_trans qx1.2.1 (by decide)) (by decide) rfl (by decide) rfl rfl kf_X7_214 dX7_takeBack_176 ?_
                refine J_iconst 0 dX7_takeBack_179 rfl ?_
                refine J_aload_n dX7_takeBack_180 rfl 0 rfl ?_
                refine J_getr (j := 5) (t := 12) (r := 4) rfl (by decide) (by decide) rfl (by decide) rfl rfl kf_X7_22 dX7_takeBack_181 ?_
                refine J_iconst 0 dX7_takeBack_184 rfl ?_
                refine J_aload_n dX7_takeBack_185 rfl 0 rfl ?_
                refine J_geti (j := 6) rfl (by decide) (by decide) rfl (by decide) rfl kf_X7_211 dX7_takeBack_186 ?_
                obtain ⟨C37, h38, h⟩ := br_b h
                refine J_copy km_X7_219 kna_cpy kst_cpy ki_System qx1.2.2.1 qx1.2.2.2 rfl (by decide) h38 (by decide) (Nat.le_of_ble_eq_true rfl) dX7_takeBack_189 ?_
                refine J_goto 295 dX7_takeBack_192 (by decide) ?_
                have h := Option.some.inj h
                subst h
                exact J_vret rfl rfl rfl (Kr _ rfl) dX7_takeBack_295
              · have h := br_n c34 h
                by_cases c39 : ((a_gi C x1 0) : Int32) = 7
                · have h := br_p c39 h
                  refine J_tsw 195 dX7_takeBack_4 (by decide) (by rw [c39]; decide) ?_
                  refine J_aload_n dX7_takeBack_195 rfl 0 rfl ?_
                  refine J_aload_n dX7_takeBack_196 rfl 1 rfl ?_
                  refine J_geti (j := 1) qx1.1 qx1.2.1 (by decide) rfl (by decide) rfl kf_X7_373 dX7_takeBack_197 ?_
                  refine J_aload_n dX7_takeBack_200 rfl 1 rfl ?_
                  refine J_geti (j := 2) qx1.1 qx1.2.1 (by decide) rfl (by decide) rfl kf_X7_376 dX7_takeBack_201 ?_
                  refine J_iconst 1 dX7_takeBack_204 rfl ?_
                  refine J_icmp_ne 212 dX7_takeBack_205 (by decide) (fun c44 => ?_) (fun c44 => ?_)
                  · have h := br_n c44 h
                    refine J_iconst 0 dX7_takeBack_212 rfl ?_
                    obtain ⟨C41, h40, h⟩ := br_b h
                    refine J_callV (mj := mi_X7_setFairway) (as := [.int ((a_gi C x1 1)), .int ((0 : Int32))]) (rest := []) (ct_X7_setFairway (M := M)  h40) ⟨rfl, rfl⟩ rfl rfl (by decide) rfl cg_X7_234 hd_X7_setFairway rfl ⟨Nat.le_of_ble_eq_true rfl, Nat.le_of_ble_eq_true rfl⟩ (Nat.le_of_ble_eq_true rfl) ⟨Nat.zero_le _, Nat.zero_le _⟩ dX7_takeBack_213 ?_
                    refine J_goto 295 dX7_takeBack_216 (by decide) ?_
                    have h := Option.some.inj h
                    subst h
                    exact J_vret rfl rfl rfl (Kr _ rfl) dX7_takeBack_295
                  · have h := br_p c44 h
                    refine J_iconst 1 dX7_takeBack_208 rfl ?_
                    refine J_goto 213 dX7_takeBack_209 (by decide) ?_
                    obtain ⟨C43, h42, h⟩ := br_b h
                    refine J_callV (mj := mi_X7_setFairway) (as := [.int ((a_gi C x1 1)), .int ((1 : Int32))]) (rest := []) (ct_X7_setFairway (M := M)  h42) ⟨rfl, rfl⟩ rfl rfl (by decide) rfl cg_X7_234 hd_X7_setFairway rfl ⟨Nat.le_of_ble_eq_true rfl, Nat.le_of_ble_eq_true rfl⟩ (Nat.le_of_ble_eq_true rfl) ⟨Nat.zero_le _, Nat.zero_le _⟩ dX7_takeBack_213 ?_
                    refine J_goto 295 dX7_takeBack_216 (by decide) ?_
                    have h := Option.some.inj h
                    subst h
                    exact J_vret rfl rfl rfl (Kr _ rfl) dX7_takeBack_295
                · have h := br_n c39 h
                  by_cases c45 : ((a_gi C x1 0) : Int32) = 8
                  · have h := br_p c45 h
                    refine J_tsw 219 dX7_takeBack_4 (by decide) (by rw [c45]; decide) ?_
                    refine J_aload_n dX7_takeBack_219 rfl 0 rfl ?_
                    refine J_getr (j := 10) (t := 15) (r := 7) rfl (by decide) (by decide) rfl (by decide) rfl rfl kf_X7_35 dX7_takeBack_220 ?_
                    refine J_aload_n dX7_takeBack_223 rfl 0 rfl ?_
                    refine J_getr (j := 10) (t := 15) (r := 7) rfl (by decide) (by decide) rfl (by decide) rfl rfl kf_X7_35 dX7_takeBack_224 ?_
                    refine J_geti (j := 0) rfl (by decide) (by decide) rfl (by decide) rfl kf_X7_251 dX7_takeBack_227 ?_
                    obtain ⟨r47, h46, h⟩ := br_b h
                    refine J_callS (mj := mi_X7_oneLess) (as := [.int ((a_gi C 7 0))]) (rest := [.ref (7)]) (ct_X7_oneLess (M := M)  h46) ⟨rfl, rfl⟩ rfl cg_X7_379 hd_X7_oneLess rfl ⟨Nat.le_of_ble_eq_true rfl, Nat.le_of_ble_eq_true rfl⟩ (Nat.le_of_ble_eq_true rfl) ⟨Nat.zero_le _, Nat.zero_le _⟩ dX7_takeBack_230 ?_
                    obtain ⟨C48, e49, h⟩ := br_s h
                    refine J_puti (j := 0) rfl (by decide) (by decide) rfl (by decide) rfl rfl rfl kf_X7_251 e49 dX7_takeBack_233 ?_
                    refine J_goto 295 dX7_takeBack_236 (by decide) ?_
                    have h := Option.some.inj h
                    subst h
                    exact J_vret rfl rfl rfl (Kr _ rfl) dX7_takeBack_295
                  · have h := br_n c45 h
                    by_cases c50 : ((a_gi C x1 0) : Int32) = 9
                    · have h := br_p c50 h
                      refine J_tsw 239 dX7_takeBack_4 (by decide) (by rw [c50]; decide) ?_
                      refine J_aload_n dX7_takeBack_239 rfl 0 rfl ?_
                      refine J_getr (j := 1) (t := 11) (r := 3) rfl (by decide) (by decide) rfl (by decide) rfl rfl kf_X7_18 dX7_takeBack_240 ?_
                      refine J_aload_n dX7_takeBack_243 rfl 1 rfl ?_
                      refine J_geti (j := 1) qx1.1 qx1.2.1 (by decide) rfl (by decide) rfl kf_X7_373 dX7_takeBack_244 ?_
                      obtain ⟨c51, h52, h⟩ := br_b h
                      have q53 := a_rfL h52
                      refine J_aaldL h52 dX7_takeBack_247 ?_
                      refine J_aload_n dX7_takeBack_248 rfl 1 rfl ?_
                      refine J_geti (j := 2) qx1.1 qx1.2.1 (by decide) rfl (by decide) rfl kf_X7_376 dX7_takeBack_249 ?_
                      obtain ⟨C54, e55, h⟩ := br_s h
                      refine J_puti (j := 10) q53.1 q53.2.1 (by decide) rfl (by decide) rfl rfl rfl kf_X7_263 e55 dX7_takeBack_252 ?_
                      refine J_goto 295 dX7_takeBack_255 (by decide) ?_
                      have h := Option.some.inj h
                      subst h
                      exact J_vret rfl rfl rfl (Kr _ rfl) dX7_takeBack_295
                    · have h := br_n c50 h
                      by_cases c56 : ((a_gi C x1 0) : Int32) = 10
                      · have h := br_p c56 h
                        refine J_tsw 258 dX7_takeBack_4 (by decide) (by rw [c56]; decide) ?_
                        refine J_aload_n dX7_takeBack_258 rfl 0 rfl ?_
                        refine J_getr (j := 1) (t := 11) (r := 3) rfl (by decide) (by decide) rfl (by decide) rfl rfl kf_X7_18 dX7_takeBack_259 ?_
                        refine J_aload_n dX7_takeBack_262 rfl 1 rfl ?_
                        refine J_geti (j := 1) qx1.1 qx1.2.1 (by decide) rfl (by decide) rfl kf_X7_373 dX7_takeBack_263 ?_
                        obtain ⟨c57, h58, h⟩ := br_b h
                        have q59 := a_rfL h58
                        refine J_aaldL h58 dX7_takeBack_266 ?_
                        refine J_aload_n dX7_takeBack_267 rfl 1 rfl ?_
                        refine J_geti (j := 2) qx1.1 qx1.2.1 (by decide) rfl (by decide) rfl kf_X7_376 dX7_takeBack_268 ?_
                        obtain ⟨C60, e61, h⟩ := br_s h
                        refine J_puti (j := 11) q59.1 q59.2.1 (by decide) rfl (by decide) rfl rfl rfl kf_X7_266 e61 dX7_takeBack_271 ?_
                        refine J_goto 295 dX7_takeBack_274 (by decide) ?_
                        have h := Option.some.inj h
                        subst h
                        exact J_vret rfl rfl rfl (Kr _ rfl) dX7_takeBack_295
                      · have h := br_n c56 h
                        by_cases c62 : ((a_gi C x1 0) : Int32) = 11
                        · have h := br_p c62 h
                          refine J_tsw 277 dX7_takeBack_4 (by decide) (by rw [c62]; decide) ?_
                          refine J_aload_n dX7_takeBack_277 rfl 1 rfl ?_
                          refine J_getr (j := 3) (t := 0) (r := x1 + 1) qx1.1 (Nat.lt_trans qx1.2.1 (by decide)) (by decide) rfl (by decide) rfl rfl kf_X7_214 dX7_takeBack_278 ?_
                          refine J_iconst 0 dX7_takeBack_281 rfl ?_
                          refine J_aload_n dX7_takeBack_282 rfl 0 rfl ?_
                          refine J_getr (j := 11) (t := 21) (r := 13) rfl (by decide) (by decide) rfl (by decide) rfl rfl kf_X7_39 dX7_takeBack_283 ?_
                          refine J_iconst 0 dX7_takeBack_286 rfl ?_
                          refine J_bipush 20 dX7_takeBack_287 rfl ?_
                          obtain ⟨C63, h64, h⟩ := br_b h
                          refine J_copy km_X7_219 kna_cpy kst_cpy ki_System qx1.2.2.1 qx1.2.2.2 rfl (by decide) h64 (by decide) (Nat.le_of_ble_eq_true rfl) dX7_takeBack_289 ?_
                          refine J_goto 295 dX7_takeBack_292 (by decide) ?_
                          have h := Option.some.inj h
                          subst h
                          exact J_vret rfl rfl rfl (Kr _ rfl) dX7_takeBack_295
                        · have h := br_n c62 h
                          refine J_tsw 295 dX7_takeBack_4 (by decide) (by have e0 := lv_neT (a := 0) c1 rfl; have e1 := lv_neT (a := 1) c6 rfl; have e2 := lv_neT (a := 2) c17 rfl; have e3 := lv_neT (a := 3) c23 rfl; have e4 := lv_neT (a := 4) c26 rfl; have e5 := lv_neT (a := 5) c29 rfl; have e6 := lv_neT (a := 6) c34 rfl; have e7 := lv_neT (a := 7) c39 rfl; have e8 := lv_neT (a := 8) c45 rfl; have e9 := lv_neT (a := 9) c50 rfl; have e10 := lv_neT (a := 10) c56 rfl; have e11 := lv_neT (a := 11) c62 rfl; unfold a_tsw; rw [if_pos (by omega)]; rfl) ?_
                          have h := Option.some.inj h
                          subst h
                          exact J_vret rfl rfl rfl (Kr _ rfl) dX7_takeBack_295
theorem ct_X7_takeBack {x1 : Nat} {C : aSc} {M : aMm} {S' : aSc} (qx1 : isP x1) (h : f_X7_takeBack x1 C = some S') : Ct mi_X7_takeBack yX7_takeBack [.ref (0), .ref (x1)] (C, M) (none, (S', M)) := Ct_of_J (by decide +kernel) rfl (Nat.le_of_ble_eq_true rfl) (jm_X7_takeBack qx1 h (fun _ e => by cases e; rfl))
def mi_X7_undo : aMi := (cX7_undo, 2, RX7, (some .int), { frames := 3, cells := 0, slots := 0, locals := 66 })
def f_X7_undo  (C : aSc) : Option (Int32 × aSc) :=
  bd2 (f_X2_takeLatest  C) fun r2 C3 => if r2 = 0 then bd2 (f_X7_refuse (-100006 : Int32) C3) fun r7 C8 => some (r7, C8) else if 62 ≤ r2 ∧ r2 < 94 ∧ r2 % 2 = 0 then (f_X7_takeBack r2 C3).bind fun C10 => (f_X7_forgetFound  C10).bind fun C12 => some ((a_gi C12 22 2), C12) else none
set_option maxRecDepth 100000 in
set_option maxHeartbeats 4000000 in
theorem jm_X7_undo  {C : aSc} {M : aMm}  {res : aRes} {r : Int32 × aSc} (h : f_X7_undo  C = some r) (Kr : ∀ (v : Int32) (S' : aSc), r = (v, S') → res = (some (.int v), (S', M))) : J mi_X7_undo res 0 0 0 [(0, .ref (0))] [] (C, M) := by
  rw [f_X7_undo] at h
  refine J_aload_n dX7_undo_0 rfl 0 rfl ?_
  refine J_getr (j := 17) (t := 30) (r := 22) rfl (by decide) (by decide) rfl (by decide) rfl rfl kf_X7_62 dX7_undo_1 ?_
  obtain ⟨r2, C3, h1, h⟩ := br_b2 h
  refine J_callV (mj := mi_X2_takeLatest) (as := []) (v := some (a_nr r2)) (rest := []) (ct_X2_takeLatest (M := M)  h1) ⟨rfl, rfl⟩ rfl rfl (by decide) rfl cg_X7_295 hd_X2_takeLatest rfl ⟨Nat.le_of_ble_eq_true rfl, Nat.le_of_ble_eq_true rfl⟩ (Nat.le_of_ble_eq_true rfl) ⟨Nat.zero_le _, Nat.zero_le _⟩ dX7_undo_4 ?_
  by_cases c13 : r2 = 0
  · have h := br_p c13 h
    refine J_nrN c13 ?_
    refine J_astoreN_n (L' := [(1, .null), (0, .ref (0))]) dX7_undo_7 rfl (by decide) rfl ?_
    refine J_aloadN_n dX7_undo_8 rfl 0 rfl ?_
    refine J_ifnonnullN dX7_undo_9 ?_
    refine J_aload_n dX7_undo_12 rfl 1 rfl ?_
    refine J_ldc (-100006) dX7_undo_13 kc_X7_184 ?_
    obtain ⟨r7, C8, h6, h⟩ := br_b2 h
    refine J_callV (mj := mi_X7_refuse) (as := [.int ((-100006 : Int32))]) (rest := []) (ct_X7_refuse (M := M)  h6) ⟨rfl, rfl⟩ rfl rfl (by decide) rfl cg_X7_69 hd_X7_refuse rfl ⟨Nat.le_of_ble_eq_true rfl, Nat.le_of_ble_eq_true rfl⟩ (Nat.le_of_ble_eq_true rfl) ⟨Nat.zero_le _, Nat.zero_le _⟩ dX7_undo_15 ?_
    have h := Option.some.inj h
    subst h
    exact J_iret rfl rfl rfl (Kr _ _ rfl) dX7_undo_18
  · have h := br_n c13 h
    obtain ⟨h5, h⟩ := br_g h
    have q4 := a_ckP_is h5
    refine J_nrR c13 ?_
    refine J_astore_n (L' := [(1, .ref (r2)), (0, .ref (0))]) dX7_undo_7 rfl (by decide) rfl ?_
    refine J_aload_n dX7_undo_8 rfl 0 rfl ?_
    refine J_ifnonnull 19 dX7_undo_9 (by decide) ?_
    refine J_aload_n dX7_undo_19 rfl 1 rfl ?_
    refine J_aload_n dX7_undo_20 rfl 0 rfl ?_
    obtain ⟨C10, h9, h⟩ := br_b h
    refine J_callV (mj := mi_X7_takeBack) (as := [.ref (r2)]) (rest := []) (ct_X7_takeBack (M := M) q4 h9) ⟨rfl, rfl⟩ rfl rfl (by decide) rfl cg_X7_299 hd_X7_takeBack rfl ⟨Nat.le_of_ble_eq_true rfl, Nat.le_of_ble_eq_true rfl⟩ (Nat.le_of_ble_eq_true rfl) ⟨Nat.zero_le _, Nat.zero_le _⟩ dX7_undo_21 ?_
    refine J_aload_n dX7_undo_24 rfl 1 rfl ?_
    obtain ⟨C12, h11, h⟩ := br_b h
    refine J_callV (mj := mi_X7_forgetFound) (as := []) (rest := []) (ct_X7_forgetFound (M := M)  h11) ⟨rfl, rfl⟩ rfl rfl (by decide) rfl cg_X7_303 hd_X7_forgetFound rfl ⟨Nat.le_of_ble_eq_true rfl, Nat.le_of_ble_eq_true rfl⟩ (Nat.le_of_ble_eq_true rfl) ⟨Nat.zero_le _, Nat.zero_le _⟩ dX7_undo_25 ?_
    refine J_aload_n dX7_undo_28 rfl 1 rfl ?_
    refine J_getr (j := 17) (t := 30) (r := 22) rfl (by decide) (by decide) rfl (by decide) rfl rfl kf_X7_62 dX7_undo_29 ?_
    refine J_geti (j := 2) rfl (by decide) (by decide) rfl (by decide) rfl kf_X7_306 dX7_undo_32 ?_
    have h := Option.some.inj h
    subst h
    exact J_iret rfl rfl rfl (Kr _ _ rfl) dX7_undo_35
theorem ct_X7_undo  {C : aSc} {M : aMm} {v : Int32} {S' : aSc}  (h : f_X7_undo  C = some (v, S')) : Ct mi_X7_undo yX7_undo [.ref (0)] (C, M) (some (.int v), (S', M)) := Ct_of_J (by decide +kernel) rfl (Nat.le_of_ble_eq_true rfl) (jm_X7_undo  h (fun _ _ e => by cases e; rfl))
def mi_X7_countRocks : aMi := (cX7_countRocks, 3, RX7, (some .int), { frames := 1, cells := 0, slots := 0, locals := 20 })
def b_X7_countRocks_4  (x1 : Int32) (x2 : Int32) (C : aSc) : Option ((Int32 × Int32) ⊕ (Int32)) :=
  if ((a_gi C 0 2) : Int32) ≤ x2 then some (.inr x1) else (a_rf 24 3 10 x2).bind fun c1 => (f_X1_isRock c1 C).bind fun r5 => if (r5 : Int32) = 0 then some (.inl (x1, (x2 + (1 : Int32)))) else some (.inl ((x1 + (1 : Int32)), (x2 + (1 : Int32))))
set_option maxRecDepth 100000 in
set_option maxHeartbeats 4000000 in
theorem jl_X7_countRocks_4  {C : aSc} {M : aMm}  {res : aRes} {r : Int32} : ∀ (n : Nat) (x1 : Int32) (x2 : Int32), lpf (fun a : Int32 × Int32 => b_X7_countRocks_4  a.1 a.2 C) n (x1, x2) = some r → (∀ (z1 : Int32), r = z1 → J mi_X7_countRocks res 0 0 33 [(1, .int (z1))] [] (C, M)) → J mi_X7_countRocks res 0 0 4 [(0, .ref (0)), (1, .int (x1)), (2, .int (x2))] [] (C, M) := by
  intro n
  induction n with
  | zero =>
    intro x1 x2 h
    cases h
  | succ n ih =>
    intro x1 x2 h Kx
    obtain ⟨r0, h, h2⟩ := br_b h
    have h : b_X7_countRocks_4  x1 x2 C = some r0 := h
    rw [b_X7_countRocks_4] at h
    refine J_iload_n dX7_countRocks_4 rfl 2 rfl ?_
    refine J_aload_n dX7_countRocks_5 rfl 0 rfl ?_
    refine J_geti (j := 2) rfl (by decide) (by decide) rfl (by decide) rfl kf_X7_89 dX7_countRocks_6 ?_
    refine J_icmp_ge 33 dX7_countRocks_9 (by decide) (fun c7 => ?_) (fun c7 => ?_)
    · have h := br_p c7 h
      have h := Option.some.inj h
      subst h
      have h2 := Option.some.inj h2
      subst h2
      refine J_sub [1] rfl ?_
      exact Kx _ rfl
    · have h := br_n c7 h
      refine J_aload_n dX7_countRocks_12 rfl 0 rfl ?_
      refine J_getr (j := 1) (t := 11) (r := 3) rfl (by decide) (by decide) rfl (by decide) rfl rfl kf_X7_18 dX7_countRocks_13 ?_
      refine J_iload_n dX7_countRocks_16 rfl 2 rfl ?_
      obtain ⟨c1, h2, h⟩ := br_b h
      have q3 := a_rfL h2
      refine J_aaldL h2 dX7_countRocks_17 ?_
      obtain ⟨r5, h4, h⟩ := br_b h
      refine J_callV (mj := mi_X1_isRock) (as := []) (rest := []) (ct_X1_isRock (M := M) q3 h4) ⟨rfl, rfl⟩ rfl q3.1 (by decide) rfl cg_X7_259 hd_X1_isRock rfl ⟨Nat.le_of_ble_eq_true rfl, Nat.le_of_ble_eq_true rfl⟩ (Nat.le_of_ble_eq_true rfl) ⟨Nat.zero_le _, Nat.zero_le _⟩ dX7_countRocks_18 ?_
      refine J_if_eq 27 dX7_countRocks_21 (by decide) (fun c6 => ?_) (fun c6 => ?_)
      · have h := br_p c6 h
        refine J_iinc (j := 2) (v := (x2 + (1 : Int32))) (L' := [(2, .int ((x2 + (1 : Int32)))), (0, .ref (0)), (1, .int (x1))]) dX7_countRocks_27 rfl rfl (by decide) rfl ?_
        refine J_goto 4 dX7_countRocks_30 (by decide) ?_
        have h := Option.some.inj h
        subst h
        refine J_sub [1, 2, 0] rfl ?_
        exact ih _ _ h2 Kx
      · have h := br_n c6 h
        refine J_iinc (j := 1) (v := (x1 + (1 : Int32))) (L' := [(1, .int ((x1 + (1 : Int32)))), (0, .ref (0)), (2, .int (x2))]) dX7_countRocks_24 rfl rfl (by decide) rfl ?_
        refine J_iinc (j := 2) (v := (x2 + (1 : Int32))) (L' := [(2, .int ((x2 + (1 : Int32)))), (1, .int ((x1 + (1 : Int32)))), (0, .ref (0))]) dX7_countRocks_27 rfl rfl (by decide) rfl ?_
        refine J_goto 4 dX7_countRocks_30 (by decide) ?_
        have h := Option.some.inj h
        subst h
        refine J_sub [2, 1, 0] rfl ?_
        exact ih _ _ h2 Kx
def f_X7_countRocks  (C : aSc) : Option (Int32) :=
  (lpf (fun a : Int32 × Int32 => b_X7_countRocks_4  a.1 a.2 C) FU ((0 : Int32), (0 : Int32))).bind fun z8 => some z8
set_option maxRecDepth 100000 in
set_option maxHeartbeats 4000000 in
theorem jm_X7_countRocks  {C : aSc} {M : aMm}  {res : aRes} {r : Int32} (h : f_X7_countRocks  C = some r) (Kr : ∀ (v : Int32), r = v → res = (some (.int v), (C, M))) : J mi_X7_countRocks res 0 0 0 [(0, .ref (0))] [] (C, M) := by
  rw [f_X7_countRocks] at h
  refine J_iconst 0 dX7_countRocks_0 rfl ?_
  refine J_istore_n (L' := [(1, .int ((0 : Int32))), (0, .ref (0))]) dX7_countRocks_1 rfl (by decide) rfl ?_
  refine J_iconst 0 dX7_countRocks_2 rfl ?_
  refine J_istore_n (L' := [(2, .int ((0 : Int32))), (1, .int ((0 : Int32))), (0, .ref (0))]) dX7_countRocks_3 rfl (by decide) rfl ?_
  refine J_sub [2, 1, 0] rfl ?_
  obtain ⟨z8, h9, h⟩ := br_b h
  refine jl_X7_countRocks_4  FU _ _ h9 ?_
  intro zz e
  subst e
  refine J_iload_n dX7_countRocks_33 rfl 0 rfl ?_
  have h := Option.some.inj h
  subst h
  exact J_iret rfl rfl rfl (Kr _ rfl) dX7_countRocks_34
theorem ct_X7_countRocks  {C : aSc} {M : aMm} {v : Int32}  (h : f_X7_countRocks  C = some v) : Ct mi_X7_countRocks yX7_countRocks [.ref (0)] (C, M) (some (.int v), (C, M)) := Ct_of_J (by decide +kernel) rfl (Nat.le_of_ble_eq_true rfl) (jm_X7_countRocks  h (fun _ e => by cases e; rfl))
def mi_X7_all : aMi := (cX7_all, 2, RX7, (some .int), { frames := 2, cells := 0, slots := 0, locals := 42 })
def f_X7_all (x1 : Int32) (C : aSc) : Option (Int32 × aSc) :=
  if (x1 : Int32) = 0 then some ((a_gi C 0 2), C) else if (x1 : Int32) = 1 then (f_X7_countRocks  C).bind fun r4 => some (r4, C) else if (x1 : Int32) = 2 then some ((a_gi C 0 6), C) else if (x1 : Int32) = 3 then some ((a_gi C 0 8), C) else if (x1 : Int32) = 4 then some ((a_gi C 7 0), C) else if (x1 : Int32) = 5 then some ((a_gi C 1 1), C) else if (x1 : Int32) = 6 then some ((a_gi C 0 18), C) else bd2 (f_X7_refuse (-100001 : Int32) C) fun r11 C12 => some (r11, C12)
set_option maxRecDepth 100000 in
set_option maxHeartbeats 4000000 in
theorem jm_X7_all {x1 : Int32} {C : aSc} {M : aMm}  {res : aRes} {r : Int32 × aSc} (h : f_X7_all x1 C = some r) (Kr : ∀ (v : Int32) (S' : aSc), r = (v, S') → res = (some (.int v), (S', M))) : J mi_X7_all res 0 0 0 [(0, .ref (0)), (1, .int (x1))] [] (C, M) := by
  rw [f_X7_all] at h
  refine J_iload_n dX7_all_0 rfl 1 rfl ?_
  by_cases c1 : (x1 : Int32) = 0
  · have h := br_p c1 h
    refine J_tsw 44 dX7_all_1 (by decide) (by rw [c1]; decide) ?_
    refine J_aload_n dX7_all_44 rfl 0 rfl ?_
    refine J_geti (j := 2) rfl (by decide) (by decide) rfl (by decide) rfl kf_X7_89 dX7_all_45 ?_
    have h := Option.some.inj h
    subst h
    exact J_iret rfl rfl rfl (Kr _ _ rfl) dX7_all_48
  · have h := br_n c1 h
    by_cases c2 : (x1 : Int32) = 1
    · have h := br_p c2 h
      refine J_tsw 49 dX7_all_1 (by decide) (by rw [c2]; decide) ?_
      refine J_aload_n dX7_all_49 rfl 0 rfl ?_
      obtain ⟨r4, h3, h⟩ := br_b h
      refine J_callV (mj := mi_X7_countRocks) (as := []) (rest := []) (ct_X7_countRocks (M := M)  h3) ⟨rfl, rfl⟩ rfl rfl (by decide) rfl cg_X7_307 hd_X7_countRocks rfl ⟨Nat.le_of_ble_eq_true rfl, Nat.le_of_ble_eq_true rfl⟩ (Nat.le_of_ble_eq_true rfl) ⟨Nat.zero_le _, Nat.zero_le _⟩ dX7_all_50 ?_
      have h := Option.some.inj h
      subst h
      exact J_iret rfl rfl rfl (Kr _ _ rfl) dX7_all_53
    · have h := br_n c2 h
      by_cases c5 : (x1 : Int32) = 2
      · have h := br_p c5 h
        refine J_tsw 54 dX7_all_1 (by decide) (by rw [c5]; decide) ?_
        refine J_aload_n dX7_all_54 rfl 0 rfl ?_
        refine J_geti (j := 6) rfl (by decide) (by decide) rfl (by decide) rfl kf_X7_211 dX7_all_55 ?_
        have h := Option.some.inj h
        subst h
        exact J_iret rfl rfl rfl (Kr _ _ rfl) dX7_all_58
      · have h := br_n c5 h
        by_cases c6 : (x1 : Int32) = 3
        · have h := br_p c6 h
          refine J_tsw 59 dX7_all_1 (by decide) (by rw [c6]; decide) ?_
          refine J_aload_n dX7_all_59 rfl 0 rfl ?_
          refine J_geti (j := 8) rfl (by decide) (by decide) rfl (by decide) rfl kf_X7_231 dX7_all_60 ?_
          have h := Option.some.inj h
          subst h
          exact J_iret rfl rfl rfl (Kr _ _ rfl) dX7_all_63
        · have h := br_n c6 h
          by_cases c7 : (x1 : Int32) = 4
          · have h := br_p c7 h
            refine J_tsw 64 dX7_all_1 (by decide) (by rw [c7]; decide) ?_
            refine J_aload_n dX7_all_64 rfl 0 rfl ?_
            refine J_getr (j := 10) (t := 15) (r := 7) rfl (by decide) (by decide) rfl (by decide) rfl rfl kf_X7_35 dX7_all_65 ?_
            refine J_geti (j := 0) rfl (by decide) (by decide) rfl (by decide) rfl kf_X7_251 dX7_all_68 ?_
            have h := Option.some.inj h
            subst h
            exact J_iret rfl rfl rfl (Kr _ _ rfl) dX7_all_71
          · have h := br_n c7 h
            by_cases c8 : (x1 : Int32) = 5
            · have h := br_p c8 h
              refine J_tsw 72 dX7_all_1 (by decide) (by rw [c8]; decide) ?_
              refine J_aload_n dX7_all_72 rfl 0 rfl ?_
              refine J_getr (j := 0) (t := 9) (r := 1) rfl (by decide) (by decide) rfl (by decide) rfl rfl kf_X7_10 dX7_all_73 ?_
              refine J_geti (j := 1) rfl (by decide) (by decide) rfl (by decide) rfl kf_X7_73 dX7_all_76 ?_
              have h := Option.some.inj h
              subst h
              exact J_iret rfl rfl rfl (Kr _ _ rfl) dX7_all_79
            · have h := br_n c8 h
              by_cases c9 : (x1 : Int32) = 6
              · have h := br_p c9 h
                refine J_tsw 80 dX7_all_1 (by decide) (by rw [c9]; decide) ?_
                refine J_aload_n dX7_all_80 rfl 0 rfl ?_
                refine J_geti (j := 18) rfl (by decide) (by decide) rfl (by decide) rfl kf_X7_310 dX7_all_81 ?_
                have h := Option.some.inj h
                subst h
                exact J_iret rfl rfl rfl (Kr _ _ rfl) dX7_all_84
              · have h := br_n c9 h
                refine J_tsw 85 dX7_all_1 (by decide) (by have e0 := lv_neT (a := 0) c1 rfl; have e1 := lv_neT (a := 1) c2 rfl; have e2 := lv_neT (a := 2) c5 rfl; have e3 := lv_neT (a := 3) c6 rfl; have e4 := lv_neT (a := 4) c7 rfl; have e5 := lv_neT (a := 5) c8 rfl; have e6 := lv_neT (a := 6) c9 rfl; unfold a_tsw; rw [if_pos (by omega)]; rfl) ?_
                refine J_aload_n dX7_all_85 rfl 0 rfl ?_
                refine J_ldc (-100001) dX7_all_86 kc_X7_68 ?_
                obtain ⟨r11, C12, h10, h⟩ := br_b2 h
                refine J_callV (mj := mi_X7_refuse) (as := [.int ((-100001 : Int32))]) (rest := []) (ct_X7_refuse (M := M)  h10) ⟨rfl, rfl⟩ rfl rfl (by decide) rfl cg_X7_69 hd_X7_refuse rfl ⟨Nat.le_of_ble_eq_true rfl, Nat.le_of_ble_eq_true rfl⟩ (Nat.le_of_ble_eq_true rfl) ⟨Nat.zero_le _, Nat.zero_le _⟩ dX7_all_88 ?_
                have h := Option.some.inj h
                subst h
                exact J_iret rfl rfl rfl (Kr _ _ rfl) dX7_all_91
theorem ct_X7_all {x1 : Int32} {C : aSc} {M : aMm} {v : Int32} {S' : aSc}  (h : f_X7_all x1 C = some (v, S')) : Ct mi_X7_all yX7_all [.ref (0), .int (x1)] (C, M) (some (.int v), (S', M)) := Ct_of_J (by decide +kernel) rfl (Nat.le_of_ble_eq_true rfl) (jm_X7_all  h (fun _ _ e => by cases e; rfl))

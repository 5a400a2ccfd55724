def mi_X7_findFix : aMi := (cX7_findFix, 2, RX7, none, { frames := 4, cells := 0, slots := 0, locals := 101 })
def b_X7_findFix_10  (x1 : Int32) (C : aSc) : Option ((Int32 × aSc) ⊕ (aSc)) :=
  if ((256 : Int32) : Int32) ≤ x1 then some (.inr C) else (f_X7_holdsForAll x1 C).bind fun r2 => (a_st C 20 x1 (vp_nar .boolean r2)).bind fun C3 => some (.inl ((x1 + (1 : Int32)), C3))
set_option maxRecDepth 100000 in
set_option maxHeartbeats 4000000 in
theorem jl_X7_findFix_10  {M : aMm}  {res : aRes} {r : aSc} : ∀ (n : Nat) (x1 : Int32) (C : aSc), lpf (fun a : Int32 × aSc => b_X7_findFix_10  a.1 a.2) n (x1, C) = some r → (∀ (S2 : aSc), r = S2 → J mi_X7_findFix res 0 0 34 [(0, .ref (0))] [] (S2, M)) → J mi_X7_findFix res 0 0 10 [(0, .ref (0)), (1, .int (x1))] [] (C, M) := by
  intro n
  induction n with
  | zero =>
    intro x1 C h
    cases h
  | succ n ih =>
    intro x1 C h Kx
    obtain ⟨r0, h, h2⟩ := br_b h
    have h : b_X7_findFix_10  x1 C = some r0 := h
    rw [b_X7_findFix_10] at h
    refine J_iload_n dX7_findFix_10 rfl 1 rfl ?_
    refine J_sipush 256 dX7_findFix_11 rfl ?_
    refine J_icmp_ge 34 dX7_findFix_14 (by decide) (fun c5 => ?_) (fun c5 => ?_)
    · have h := br_p c5 h
      have h := Option.some.inj h
      subst h
      have h2 := Option.some.inj h2
      subst h2
      refine J_sub [0] rfl ?_
      exact Kx _ rfl
    · have h := br_n c5 h
      refine J_aload_n dX7_findFix_17 rfl 0 rfl ?_
      refine J_getr (j := 14) (t := 28) (r := 20) rfl (by decide) (by decide) rfl (by decide) rfl rfl kf_X7_49 dX7_findFix_18 ?_
      refine J_iload_n dX7_findFix_21 rfl 1 rfl ?_
      refine J_aload_n dX7_findFix_22 rfl 0 rfl ?_
      refine J_iload_n dX7_findFix_23 rfl 1 rfl ?_
      obtain ⟨r2, h1, h⟩ := br_b h
      refine J_callV (mj := mi_X7_holdsForAll) (as := [.int (x1)]) (rest := [.int (x1), .ref (20)]) (ct_X7_holdsForAll (M := M)  h1) ⟨rfl, rfl⟩ rfl rfl (by decide) rfl cg_X7_340 hd_X7_holdsForAll rfl ⟨Nat.le_of_ble_eq_true rfl, Nat.le_of_ble_eq_true rfl⟩ (Nat.le_of_ble_eq_true rfl) ⟨Nat.zero_le _, Nat.zero_le _⟩ dX7_findFix_24 ?_
      obtain ⟨C3, h4, h⟩ := br_b h
      refine J_zast rfl (by decide) h4 dX7_findFix_27 ?_
      refine J_iinc (j := 1) (v := (x1 + (1 : Int32))) (L' := [(1, .int ((x1 + (1 : Int32)))), (0, .ref (0))]) dX7_findFix_28 rfl rfl (by decide) rfl ?_
      refine J_goto 10 dX7_findFix_31 (by decide) ?_
      have h := Option.some.inj h
      subst h
      refine J_sub [1, 0] rfl ?_
      exact ih _ _ h2 Kx
def f_X7_findFix  (C : aSc) : Option (aSc) :=
  if ((a_gi C 0 15) : Int32) = 0 then (lpf (fun a : Int32 × aSc => b_X7_findFix_10  a.1 a.2) FU ((0 : Int32), C)).bind fun z6 => (some (a_pi z6 0 15 (1 : Int32))).bind fun C9 => some C9 else some C
set_option maxRecDepth 100000 in
set_option maxHeartbeats 4000000 in
theorem jm_X7_findFix  {C : aSc} {M : aMm}  {res : aRes} {r : aSc} (h : f_X7_findFix  C = some r) (Kr : ∀ (S' : aSc), r = S' → res = (none, (S', M))) : J mi_X7_findFix res 0 0 0 [(0, .ref (0))] [] (C, M) := by
  rw [f_X7_findFix] at h
  refine J_aload_n dX7_findFix_0 rfl 0 rfl ?_
  refine J_geti (j := 15) rfl (by decide) (by decide) rfl (by decide) rfl kf_X7_336 dX7_findFix_1 ?_
  refine J_if_eq 8 dX7_findFix_4 (by decide) (fun c11 => ?_) (fun c11 => ?_)
  · have h := br_p c11 h
    refine J_iconst 0 dX7_findFix_8 rfl ?_
    refine J_istore_n (L' := [(1, .int ((0 : Int32))), (0, .ref (0))]) dX7_findFix_9 rfl (by decide) rfl ?_
    refine J_sub [1, 0] rfl ?_
    obtain ⟨z6, h7, h⟩ := br_b h
    refine jl_X7_findFix_10  FU _ _ h7 ?_
    intro zz e
    subst e
    refine J_aload_n dX7_findFix_34 rfl 0 rfl ?_
    refine J_iconst 1 dX7_findFix_35 rfl ?_
    obtain ⟨C9, e10, h⟩ := br_s h
    refine J_putz (j := 15) (Or.inr rfl) rfl (by decide) (by decide) rfl (by decide) rfl rfl rfl kf_X7_336 e10 dX7_findFix_36 ?_
    have h := Option.some.inj h
    subst h
    exact J_vret rfl rfl rfl (Kr _ rfl) dX7_findFix_39
  · have h := br_n c11 h
    have h := Option.some.inj h
    subst h
    exact J_vret rfl rfl rfl (Kr _ rfl) dX7_findFix_7
theorem ct_X7_findFix  {C : aSc} {M : aMm} {S' : aSc}  (h : f_X7_findFix  C = some S') : Ct mi_X7_findFix yX7_findFix [.ref (0)] (C, M) (none, (S', M)) := Ct_of_J (by decide +kernel) rfl (Nat.le_of_ble_eq_true rfl) (jm_X7_findFix  h (fun _ e => by cases e; rfl))
def mi_X7_fix : aMi := (cX7_fix, 4, RX7, (some .int), { frames := 5, cells := 0, slots := 0, locals := 122 })
def b_X7_fix_8 (x1 : Int32) (x2 : Int32) (x3 : Int32) (C : aSc) : Option ((Int32 × Int32) ⊕ ((Int32) ⊕ (Int32 × aSc))) :=
  if ((256 : Int32) : Int32) ≤ x3 then some (.inr (.inl x2)) else (a_ld C 20 x3).bind fun u3 => if (u3 : Int32) = 0 then some (.inl (x2, (x3 + (1 : Int32)))) else if (x1 : Int32) = 0 then some (.inl ((x2 + (1 : Int32)), (x3 + (1 : Int32)))) else some (.inr (.inr (x3, C)))
set_option maxRecDepth 100000 in
set_option maxHeartbeats 4000000 in
theorem jl_X7_fix_8 {x1 : Int32} {C : aSc} {M : aMm}  {res : aRes} {r : (Int32) ⊕ (Int32 × aSc)} : ∀ (n : Nat) (x2 : Int32) (x3 : Int32), lpf (fun a : Int32 × Int32 => b_X7_fix_8 (x1) a.1 a.2 C) n (x2, x3) = some r → (∀ (z2 : Int32), r = .inl z2 → J mi_X7_fix res 0 0 39 [(0, .ref (0)), (1, .int (x1)), (2, .int (z2))] [] (C, M)) → (∀ (v : Int32) (S' : aSc), r = .inr (v, S') → res = (some (.int v), (S', M))) → J mi_X7_fix res 0 0 8 [(0, .ref (0)), (1, .int (x1)), (2, .int (x2)), (3, .int (x3))] [] (C, M) := by
  intro n
  induction n with
  | zero =>
    intro x2 x3 h
    cases h
  | succ n ih =>
    intro x2 x3 h Kx Kr
    obtain ⟨r0, h, h2⟩ := br_b h
    have h : b_X7_fix_8 x1 x2 x3 C = some r0 := h
    rw [b_X7_fix_8] at h
    refine J_iload_n dX7_fix_8 rfl 3 rfl ?_
    refine J_sipush 256 dX7_fix_9 rfl ?_
    refine J_icmp_ge 39 dX7_fix_12 (by decide) (fun c7 => ?_) (fun c7 => ?_)
    · have h := br_p c7 h
      have h := Option.some.inj h
      subst h
      have h2 := Option.some.inj h2
      subst h2
      refine J_sub [0, 1, 2] rfl ?_
      exact Kx _ rfl
    · have h := br_n c7 h
      refine J_aload_n dX7_fix_15 rfl 0 rfl ?_
      refine J_getr (j := 14) (t := 28) (r := 20) rfl (by decide) (by decide) rfl (by decide) rfl rfl kf_X7_49 dX7_fix_16 ?_
      refine J_iload_n dX7_fix_19 rfl 3 rfl ?_
      obtain ⟨u3, h4, h⟩ := br_b h
      refine J_zald rfl (by decide) h4 dX7_fix_20 ?_
      refine J_if_eq 33 dX7_fix_21 (by decide) (fun c6 => ?_) (fun c6 => ?_)
      · have h := br_p c6 h
        refine J_iinc (j := 3) (v := (x3 + (1 : Int32))) (L' := [(3, .int ((x3 + (1 : Int32)))), (0, .ref (0)), (1, .int (x1)), (2, .int (x2))]) dX7_fix_33 rfl rfl (by decide) rfl ?_
        refine J_goto 8 dX7_fix_36 (by decide) ?_
        have h := Option.some.inj h
        subst h
        refine J_sub [1, 2, 3, 0] rfl ?_
        exact ih _ _ h2 Kx Kr
      · have h := br_n c6 h
        refine J_iload_n dX7_fix_24 rfl 1 rfl ?_
        refine J_if_eq 30 dX7_fix_25 (by decide) (fun c5 => ?_) (fun c5 => ?_)
        · have h := br_p c5 h
          refine J_iinc (j := 2) (v := (x2 + (1 : Int32))) (L' := [(2, .int ((x2 + (1 : Int32)))), (0, .ref (0)), (1, .int (x1)), (3, .int (x3))]) dX7_fix_30 rfl rfl (by decide) rfl ?_
          refine J_iinc (j := 3) (v := (x3 + (1 : Int32))) (L' := [(3, .int ((x3 + (1 : Int32)))), (2, .int ((x2 + (1 : Int32)))), (0, .ref (0)), (1, .int (x1))]) dX7_fix_33 rfl rfl (by decide) rfl ?_
          refine J_goto 8 dX7_fix_36 (by decide) ?_
          have h := Option.some.inj h
          subst h
          refine J_sub [2, 3, 1, 0] rfl ?_
          exact ih _ _ h2 Kx Kr
        · have h := br_n c5 h
          refine J_iload_n dX7_fix_28 rfl 3 rfl ?_
          have h := Option.some.inj h
          subst h
          have h2 := Option.some.inj h2
          subst h2
          exact J_iret rfl rfl rfl (Kr _ _ rfl) dX7_fix_29
def f_X7_fix (x1 : Int32) (C : aSc) : Option (Int32 × aSc) :=
  (f_X7_findFix  C).bind fun C2 => (lpf (fun a : Int32 × Int32 => b_X7_fix_8 (x1) a.1 a.2 C2) FU ((0 : Int32), (0 : Int32))).bind fun z8 => Sum.elim (fun z8a => if (x1 : Int32) = 0 then some (z8a, C2) else bd2 (f_X7_refuse (-100006 : Int32) C2) fun r12 C13 => some (r12, C13)) (fun z15 => some z15) z8
set_option maxRecDepth 100000 in
set_option maxHeartbeats 4000000 in
theorem jm_X7_fix {x1 : Int32} {C : aSc} {M : aMm}  {res : aRes} {r : Int32 × aSc} (h : f_X7_fix x1 C = some r) (Kr : ∀ (v : Int32) (S' : aSc), r = (v, S') → res = (some (.int v), (S', M))) : J mi_X7_fix res 0 0 0 [(0, .ref (0)), (1, .int (x1))] [] (C, M) := by
  rw [f_X7_fix] at h
  refine J_aload_n dX7_fix_0 rfl 0 rfl ?_
  obtain ⟨C2, h1, h⟩ := br_b h
  refine J_callV (mj := mi_X7_findFix) (as := []) (rest := []) (ct_X7_findFix (M := M)  h1) ⟨rfl, rfl⟩ rfl rfl (by decide) rfl cg_X7_225 hd_X7_findFix rfl ⟨Nat.le_of_ble_eq_true rfl, Nat.le_of_ble_eq_true rfl⟩ (Nat.le_of_ble_eq_true rfl) ⟨Nat.zero_le _, Nat.zero_le _⟩ dX7_fix_1 ?_
  refine J_iconst 0 dX7_fix_4 rfl ?_
  refine J_istore_n (L' := [(2, .int ((0 : Int32))), (0, .ref (0)), (1, .int (x1))]) dX7_fix_5 rfl (by decide) rfl ?_
  refine J_iconst 0 dX7_fix_6 rfl ?_
  refine J_istore_n (L' := [(3, .int ((0 : Int32))), (2, .int ((0 : Int32))), (0, .ref (0)), (1, .int (x1))]) dX7_fix_7 rfl (by decide) rfl ?_
  refine J_sub [2, 3, 1, 0] rfl ?_
  obtain ⟨z8, h9, h⟩ := br_b h
  refine jl_X7_fix_8  FU _ _ h9 ?_ ?_
  · intro v10 e
    subst e
    have h := br_l h
    refine J_iload_n dX7_fix_39 rfl 1 rfl ?_
    refine J_if_eq 52 dX7_fix_40 (by decide) (fun c14 => ?_) (fun c14 => ?_)
    · have h := br_p c14 h
      refine J_iload_n dX7_fix_52 rfl 2 rfl ?_
      have h := Option.some.inj h
      subst h
      exact J_iret rfl rfl rfl (Kr _ _ rfl) dX7_fix_53
    · have h := br_n c14 h
      refine J_aload_n dX7_fix_43 rfl 0 rfl ?_
      refine J_ldc (-100006) dX7_fix_44 kc_X7_184 ?_
      obtain ⟨r12, C13, h11, h⟩ := br_b2 h
      refine J_callV (mj := mi_X7_refuse) (as := [.int ((-100006 : Int32))]) (rest := []) (ct_X7_refuse (M := M)  h11) ⟨rfl, rfl⟩ rfl rfl (by decide) rfl cg_X7_69 hd_X7_refuse rfl ⟨Nat.le_of_ble_eq_true rfl, Nat.le_of_ble_eq_true rfl⟩ (Nat.le_of_ble_eq_true rfl) ⟨Nat.zero_le _, Nat.zero_le _⟩ dX7_fix_46 ?_
      refine J_goto 53 dX7_fix_49 (by decide) ?_
      have h := Option.some.inj h
      subst h
      exact J_iret rfl rfl rfl (Kr _ _ rfl) dX7_fix_53
  · intro v S' e
    subst e
    have h := br_r h
    have h := Option.some.inj h
    subst h
    exact Kr _ _ rfl
theorem ct_X7_fix {x1 : Int32} {C : aSc} {M : aMm} {v : Int32} {S' : aSc}  (h : f_X7_fix x1 C = some (v, S')) : Ct mi_X7_fix yX7_fix [.ref (0), .int (x1)] (C, M) (some (.int v), (S', M)) := Ct_of_J (by decide +kernel) rfl (Nat.le_of_ble_eq_true rfl) (jm_X7_fix  h (fun _ _ e => by cases e; rfl))
def mi_X7_may : aMi := (cX7_may, 2, RX7, (some .int), { frames := 5, cells := 0, slots := 0, locals := 122 })
def f_X7_may (x1 : Int32) (C : aSc) : Option (Int32 × aSc) :=
  (f_X7_isCell x1 C).bind fun r2 => if (r2 : Int32) = 0 then bd2 (f_X7_refuse (-100001 : Int32) C) fun r9 C10 => some (r9, C10) else (f_X7_findFix  C).bind fun C4 => (a_ld C4 20 x1).bind fun u5 => if (u5 : Int32) = 0 then some ((0 : Int32), C4) else some ((1 : Int32), C4)
set_option maxRecDepth 100000 in
set_option maxHeartbeats 4000000 in
theorem jm_X7_may {x1 : Int32} {C : aSc} {M : aMm}  {res : aRes} {r : Int32 × aSc} (h : f_X7_may x1 C = some r) (Kr : ∀ (v : Int32) (S' : aSc), r = (v, S') → res = (some (.int v), (S', M))) : J mi_X7_may res 0 0 0 [(0, .ref (0)), (1, .int (x1))] [] (C, M) := by
  rw [f_X7_may] at h
  refine J_iload_n dX7_may_0 rfl 1 rfl ?_
  obtain ⟨r2, h1, h⟩ := br_b h
  refine J_callS (mj := mi_X7_isCell) (as := [.int (x1)]) (rest := []) (ct_X7_isCell (M := M)  h1) ⟨rfl, rfl⟩ rfl cg_X7_86 hd_X7_isCell rfl ⟨Nat.le_of_ble_eq_true rfl, Nat.le_of_ble_eq_true rfl⟩ (Nat.le_of_ble_eq_true rfl) ⟨Nat.zero_le _, Nat.zero_le _⟩ dX7_may_1 ?_
  refine J_if_ne 14 dX7_may_4 (by decide) (fun c11 => ?_) (fun c11 => ?_)
  · have h := br_n c11 h
    refine J_aload_n dX7_may_14 rfl 0 rfl ?_
    obtain ⟨C4, h3, h⟩ := br_b h
    refine J_callV (mj := mi_X7_findFix) (as := []) (rest := []) (ct_X7_findFix (M := M)  h3) ⟨rfl, rfl⟩ rfl rfl (by decide) rfl cg_X7_225 hd_X7_findFix rfl ⟨Nat.le_of_ble_eq_true rfl, Nat.le_of_ble_eq_true rfl⟩ (Nat.le_of_ble_eq_true rfl) ⟨Nat.zero_le _, Nat.zero_le _⟩ dX7_may_15 ?_
    refine J_aload_n dX7_may_18 rfl 0 rfl ?_
    refine J_getr (j := 14) (t := 28) (r := 20) rfl (by decide) (by decide) rfl (by decide) rfl rfl kf_X7_49 dX7_may_19 ?_
    refine J_iload_n dX7_may_22 rfl 1 rfl ?_
    obtain ⟨u5, h6, h⟩ := br_b h
    refine J_zald rfl (by decide) h6 dX7_may_23 ?_
    refine J_if_eq 31 dX7_may_24 (by decide) (fun c7 => ?_) (fun c7 => ?_)
    · have h := br_p c7 h
      refine J_iconst 0 dX7_may_31 rfl ?_
      have h := Option.some.inj h
      subst h
      exact J_iret rfl rfl rfl (Kr _ _ rfl) dX7_may_32
    · have h := br_n c7 h
      refine J_iconst 1 dX7_may_27 rfl ?_
      refine J_goto 32 dX7_may_28 (by decide) ?_
      have h := Option.some.inj h
      subst h
      exact J_iret rfl rfl rfl (Kr _ _ rfl) dX7_may_32
  · have h := br_p c11 h
    refine J_aload_n dX7_may_7 rfl 0 rfl ?_
    refine J_ldc (-100001) dX7_may_8 kc_X7_68 ?_
    obtain ⟨r9, C10, h8, h⟩ := br_b2 h
    refine J_callV (mj := mi_X7_refuse) (as := [.int ((-100001 : Int32))]) (rest := []) (ct_X7_refuse (M := M)  h8) ⟨rfl, rfl⟩ rfl rfl (by decide) rfl cg_X7_69 hd_X7_refuse rfl ⟨Nat.le_of_ble_eq_true rfl, Nat.le_of_ble_eq_true rfl⟩ (Nat.le_of_ble_eq_true rfl) ⟨Nat.zero_le _, Nat.zero_le _⟩ dX7_may_10 ?_
    have h := Option.some.inj h
    subst h
    exact J_iret rfl rfl rfl (Kr _ _ rfl) dX7_may_13
theorem ct_X7_may {x1 : Int32} {C : aSc} {M : aMm} {v : Int32} {S' : aSc}  (h : f_X7_may x1 C = some (v, S')) : Ct mi_X7_may yX7_may [.ref (0), .int (x1)] (C, M) (some (.int v), (S', M)) := Ct_of_J (by decide +kernel) rfl (Nat.le_of_ble_eq_true rfl) (jm_X7_may  h (fun _ _ e => by cases e; rfl))
def mi_X7_placeInFairway : aMi := (cX7_placeInFairway, 3, RX7, (some .int), { frames := 0, cells := 0, slots := 0, locals := 0 })
def b_X7_placeInFairway_2 (x1 : Int32) (x2 : Int32) (C : aSc) : Option ((Int32) ⊕ ((Unit) ⊕ (Int32))) :=
  if ((a_gi C 0 8) : Int32) ≤ x2 then some (.inr (.inl ())) else (a_ld C 5 x2).bind fun u1 => if (u1 : Int32) = x1 then some (.inr (.inr x2)) else some (.inl (x2 + (1 : Int32)))
set_option maxRecDepth 100000 in
set_option maxHeartbeats 4000000 in
theorem jl_X7_placeInFairway_2 {x1 : Int32} {C : aSc} {M : aMm}  {res : aRes} {r : (Unit) ⊕ (Int32)} : ∀ (n : Nat) (x2 : Int32), lpf (fun a : Int32 => b_X7_placeInFairway_2 (x1) a C) n x2 = some r → (r = .inl () → J mi_X7_placeInFairway res 0 0 28 [] [] (C, M)) → (∀ (v : Int32), r = .inr v → res = (some (.int v), (C, M))) → J mi_X7_placeInFairway res 0 0 2 [(0, .ref (0)), (1, .int (x1)), (2, .int (x2))] [] (C, M) := by
  intro n
  induction n with
  | zero =>
    intro x2 h
    cases h
  | succ n ih =>
    intro x2 h Kx Kr
    obtain ⟨r0, h, h2⟩ := br_b h
    have h : b_X7_placeInFairway_2 x1 x2 C = some r0 := h
    rw [b_X7_placeInFairway_2] at h
    refine J_iload_n dX7_placeInFairway_2 rfl 2 rfl ?_
    refine J_aload_n dX7_placeInFairway_3 rfl 0 rfl ?_
    refine J_geti (j := 8) rfl (by decide) (by decide) rfl (by decide) rfl kf_X7_231 dX7_placeInFairway_4 ?_
    refine J_icmp_ge 28 dX7_placeInFairway_7 (by decide) (fun c4 => ?_) (fun c4 => ?_)
    · have h := br_p c4 h
      have h := Option.some.inj h
      subst h
      have h2 := Option.some.inj h2
      subst h2
      refine J_sub [] rfl ?_
      exact Kx  rfl
    · have h := br_n c4 h
      refine J_aload_n dX7_placeInFairway_10 rfl 0 rfl ?_
      refine J_getr (j := 7) (t := 13) (r := 5) rfl (by decide) (by decide) rfl (by decide) rfl rfl kf_X7_26 dX7_placeInFairway_11 ?_
      refine J_iload_n dX7_placeInFairway_14 rfl 2 rfl ?_
      obtain ⟨u1, h2, h⟩ := br_b h
      refine J_iald rfl (by decide) h2 dX7_placeInFairway_15 ?_
      refine J_iload_n dX7_placeInFairway_16 rfl 1 rfl ?_
      refine J_icmp_ne 22 dX7_placeInFairway_17 (by decide) (fun c3 => ?_) (fun c3 => ?_)
      · have h := br_n c3 h
        refine J_iinc (j := 2) (v := (x2 + (1 : Int32))) (L' := [(2, .int ((x2 + (1 : Int32)))), (0, .ref (0)), (1, .int (x1))]) dX7_placeInFairway_22 rfl rfl (by decide) rfl ?_
        refine J_goto 2 dX7_placeInFairway_25 (by decide) ?_
        have h := Option.some.inj h
        subst h
        refine J_sub [1, 2, 0] rfl ?_
        exact ih _ h2 Kx Kr
      · have h := br_p c3 h
        refine J_iload_n dX7_placeInFairway_20 rfl 2 rfl ?_
        have h := Option.some.inj h
        subst h
        have h2 := Option.some.inj h2
        subst h2
        exact J_iret rfl rfl rfl (Kr _ rfl) dX7_placeInFairway_21
def f_X7_placeInFairway (x1 : Int32) (C : aSc) : Option (Int32) :=
  (lpf (fun a : Int32 => b_X7_placeInFairway_2 (x1) a C) FU (0 : Int32)).bind fun z5 => Sum.elim (fun z5a => some (-1 : Int32)) (fun z7 => some z7) z5
set_option maxRecDepth 100000 in
set_option maxHeartbeats 4000000 in
theorem jm_X7_placeInFairway {x1 : Int32} {C : aSc} {M : aMm}  {res : aRes} {r : Int32} (h : f_X7_placeInFairway x1 C = some r) (Kr : ∀ (v : Int32), r = v → res = (some (.int v), (C, M))) : J mi_X7_placeInFairway res 0 0 0 [(0, .ref (0)), (1, .int (x1))] [] (C, M) := by
  rw [f_X7_placeInFairway] at h
  refine J_iconst 0 dX7_placeInFairway_0 rfl ?_
  refine J_istore_n (L' := [(2, .int ((0 : Int32))), (0, .ref (0)), (1, .int (x1))]) dX7_placeInFairway_1 rfl (by decide) rfl ?_
  refine J_sub [1, 2, 0] rfl ?_
  obtain ⟨z5, h6, h⟩ := br_b h
  refine jl_X7_placeInFairway_2  FU _ h6 ?_ ?_
  · intro e
    subst e
    have h := br_l h
    refine J_iconst (-1) dX7_placeInFairway_28 rfl ?_
    have h := Option.some.inj h
    subst h
    exact J_iret rfl rfl rfl (Kr _ rfl) dX7_placeInFairway_29
  · intro v e
    subst e
    have h := br_r h
    have h := Option.some.inj h
    subst h
    exact Kr _ rfl
theorem ct_X7_placeInFairway {x1 : Int32} {C : aSc} {M : aMm} {v : Int32}  (h : f_X7_placeInFairway x1 C = some v) : Ct mi_X7_placeInFairway yX7_placeInFairway [.ref (0), .int (x1)] (C, M) (some (.int v), (C, M)) := Ct_of_J (by decide +kernel) rfl (Nat.le_of_ble_eq_true rfl) (jm_X7_placeInFairway  h (fun _ e => by cases e; rfl))
def mi_X7_setFairway : aMi := (cX7_setFairway, 4, RX7, none, { frames := 1, cells := 0, slots := 0, locals := 22 })
def g_X7_setFairway_43 (x2 : Int32) (x3 : Int32) (C : aSc) : Option (aSc) :=
  if (x2 : Int32) = 0 then if (x3 : Int32) < 0 then some C else (some (a_pi C 0 8 ((a_gi C 0 8) - (1 : Int32)))).bind fun C3 => (a_ld C3 5 (a_gi C3 0 8)).bind fun u5 => (a_st C3 5 x3 u5).bind fun C7 => some C7 else some C
set_option maxRecDepth 100000 in
set_option maxHeartbeats 4000000 in
theorem jb_X7_setFairway_43 {x2 : Int32} {x3 : Int32} {C : aSc} {M : aMm}  {res : aRes} {r : aSc} (h : g_X7_setFairway_43 x2 x3 C = some r) (Kr : ∀ (S' : aSc), r = S' → res = (none, (S', M))) : J mi_X7_setFairway res 0 0 43 [(0, .ref (0)), (2, .int (x2)), (3, .int (x3))] [] (C, M) := by
  rw [g_X7_setFairway_43] at h
  refine J_iload_n dX7_setFairway_43 rfl 1 rfl ?_
  refine J_if_ne 76 dX7_setFairway_44 (by decide) (fun c10 => ?_) (fun c10 => ?_)
  · have h := br_n c10 h
    have h := Option.some.inj h
    subst h
    exact J_vret rfl rfl rfl (Kr _ rfl) dX7_setFairway_76
  · have h := br_p c10 h
    refine J_iload_n dX7_setFairway_47 rfl 2 rfl ?_
    refine J_if_lt 76 dX7_setFairway_48 (by decide) (fun c9 => ?_) (fun c9 => ?_)
    · have h := br_p c9 h
      have h := Option.some.inj h
      subst h
      exact J_vret rfl rfl rfl (Kr _ rfl) dX7_setFairway_76
    · have h := br_n c9 h
      refine J_aload_n dX7_setFairway_51 rfl 0 rfl ?_
      refine J_dup dX7_setFairway_52 rfl ?_
      refine J_geti (j := 8) rfl (by decide) (by decide) rfl (by decide) rfl kf_X7_231 dX7_setFairway_53 ?_
      refine J_iconst 1 dX7_setFairway_56 rfl ?_
      refine J_isub dX7_setFairway_57 ?_
      obtain ⟨C3, e4, h⟩ := br_s h
      refine J_puti (j := 8) rfl (by decide) (by decide) rfl (by decide) rfl rfl rfl kf_X7_231 e4 dX7_setFairway_58 ?_
      refine J_aload_n dX7_setFairway_61 rfl 0 rfl ?_
      refine J_getr (j := 7) (t := 13) (r := 5) rfl (by decide) (by decide) rfl (by decide) rfl rfl kf_X7_26 dX7_setFairway_62 ?_
      refine J_iload_n dX7_setFairway_65 rfl 2 rfl ?_
      refine J_aload_n dX7_setFairway_66 rfl 0 rfl ?_
      refine J_getr (j := 7) (t := 13) (r := 5) rfl (by decide) (by decide) rfl (by decide) rfl rfl kf_X7_26 dX7_setFairway_67 ?_
      refine J_aload_n dX7_setFairway_70 rfl 0 rfl ?_
      refine J_geti (j := 8) rfl (by decide) (by decide) rfl (by decide) rfl kf_X7_231 dX7_setFairway_71 ?_
      obtain ⟨u5, h6, h⟩ := br_b h
      refine J_iald rfl (by decide) h6 dX7_setFairway_74 ?_
      obtain ⟨C7, h8, h⟩ := br_b h
      refine J_iast rfl (by decide) h8 dX7_setFairway_75 ?_
      have h := Option.some.inj h
      subst h
      exact J_vret rfl rfl rfl (Kr _ rfl) dX7_setFairway_76
def f_X7_setFairway (x1 : Int32) (x2 : Int32) (C : aSc) : Option (aSc) :=
  (f_X7_placeInFairway x1 C).bind fun r2 => if (x2 : Int32) = 0 then g_X7_setFairway_43 (x2) (r2) C else if 0 ≤ (r2 : Int32) then g_X7_setFairway_43 (x2) (r2) C else if ((12 : Int32) : Int32) ≤ (a_gi C 0 8) then g_X7_setFairway_43 (x2) (r2) C else (a_st C 5 (a_gi C 0 8) x1).bind fun C11 => (some (a_pi C11 0 8 ((a_gi C11 0 8) + (1 : Int32)))).bind fun C13 => g_X7_setFairway_43 (x2) (r2) C13
set_option maxRecDepth 100000 in
set_option maxHeartbeats 4000000 in
theorem jm_X7_setFairway {x1 : Int32} {x2 : Int32} {C : aSc} {M : aMm}  {res : aRes} {r : aSc} (h : f_X7_setFairway x1 x2 C = some r) (Kr : ∀ (S' : aSc), r = S' → res = (none, (S', M))) : J mi_X7_setFairway res 0 0 0 [(0, .ref (0)), (1, .int (x1)), (2, .int (x2))] [] (C, M) := by
  rw [f_X7_setFairway] at h
  refine J_aload_n dX7_setFairway_0 rfl 0 rfl ?_
  refine J_iload_n dX7_setFairway_1 rfl 1 rfl ?_
  obtain ⟨r2, h1, h⟩ := br_b h
  refine J_callV (mj := mi_X7_placeInFairway) (as := [.int (x1)]) (rest := []) (ct_X7_placeInFairway (M := M)  h1) ⟨rfl, rfl⟩ rfl rfl (by decide) rfl cg_X7_228 hd_X7_placeInFairway rfl ⟨Nat.le_of_ble_eq_true rfl, Nat.le_of_ble_eq_true rfl⟩ (Nat.le_of_ble_eq_true rfl) ⟨Nat.zero_le _, Nat.zero_le _⟩ dX7_setFairway_2 ?_
  refine J_istore_n (L' := [(3, .int (r2)), (0, .ref (0)), (1, .int (x1)), (2, .int (x2))]) dX7_setFairway_5 rfl (by decide) rfl ?_
  refine J_iload_n dX7_setFairway_6 rfl 3 rfl ?_
  refine J_if_eq 43 dX7_setFairway_7 (by decide) (fun c17 => ?_) (fun c17 => ?_)
  · have h := br_p c17 h
    refine J_sub [1, 3, 0] rfl ?_
    exact jb_X7_setFairway_43  h Kr
  · have h := br_n c17 h
    refine J_iload_n dX7_setFairway_10 rfl 0 rfl ?_
    refine J_if_ge 43 dX7_setFairway_11 (by decide) (fun c16 => ?_) (fun c16 => ?_)
    · have h := br_p c16 h
      refine J_sub [1, 3, 0] rfl ?_
      exact jb_X7_setFairway_43  h Kr
    · have h := br_n c16 h
      refine J_aload_n dX7_setFairway_14 rfl 1 rfl ?_
      refine J_geti (j := 8) rfl (by decide) (by decide) rfl (by decide) rfl kf_X7_231 dX7_setFairway_15 ?_
      refine J_bipush 12 dX7_setFairway_18 rfl ?_
      refine J_icmp_ge 43 dX7_setFairway_20 (by decide) (fun c15 => ?_) (fun c15 => ?_)
      · have h := br_p c15 h
        refine J_sub [1, 3, 0] rfl ?_
        exact jb_X7_setFairway_43  h Kr
      · have h := br_n c15 h
        refine J_aload_n dX7_setFairway_23 rfl 1 rfl ?_
        refine J_getr (j := 7) (t := 13) (r := 5) rfl (by decide) (by decide) rfl (by decide) rfl rfl kf_X7_26 dX7_setFairway_24 ?_
        refine J_aload_n dX7_setFairway_27 rfl 1 rfl ?_
        refine J_geti (j := 8) rfl (by decide) (by decide) rfl (by decide) rfl kf_X7_231 dX7_setFairway_28 ?_
        refine J_iload_n dX7_setFairway_31 rfl 2 rfl ?_
        obtain ⟨C11, h12, h⟩ := br_b h
        refine J_iast rfl (by decide) h12 dX7_setFairway_32 ?_
        refine J_aload_n dX7_setFairway_33 rfl 1 rfl ?_
        refine J_dup dX7_setFairway_34 rfl ?_
        refine J_geti (j := 8) rfl (by decide) (by decide) rfl (by decide) rfl kf_X7_231 dX7_setFairway_35 ?_
        refine J_iconst 1 dX7_setFairway_38 rfl ?_
        refine J_iadd dX7_setFairway_39 ?_
        obtain ⟨C13, e14, h⟩ := br_s h
        refine J_puti (j := 8) rfl (by decide) (by decide) rfl (by decide) rfl rfl rfl kf_X7_231 e14 dX7_setFairway_40 ?_
        refine J_sub [1, 3, 0] rfl ?_
        exact jb_X7_setFairway_43  h Kr
theorem ct_X7_setFairway {x1 : Int32} {x2 : Int32} {C : aSc} {M : aMm} {S' : aSc}  (h : f_X7_setFairway x1 x2 C = some S') : Ct mi_X7_setFairway yX7_setFairway [.ref (0), .int (x1), .int (x2)] (C, M) (none, (S', M)) := Ct_of_J (by decide +kernel) rfl (Nat.le_of_ble_eq_true rfl) (jm_X7_setFairway  h (fun _ e => by cases e; rfl))
def mi_X7_fairway : aMi := (cX7_fairway, 4, RX7, (some .int), { frames := 3, cells := 0, slots := 0, locals := 66 })
def g_X7_fairway_52 (x1 : Int32) (x2 : Int32) (x3 : Int32) (C : aSc) : Option (Int32 × aSc) :=
  if (x3 : Int32) = 0 then bd2 (f_X7_remember (7 : Int32) x1 (0 : Int32) C) fun r6 C7 => if 62 ≤ r6 ∧ r6 < 94 ∧ r6 % 2 = 0 then (f_X7_setFairway x1 x2 C7).bind fun C11 => some ((a_gi C11 0 8), C11) else none else bd2 (f_X7_remember (7 : Int32) x1 (1 : Int32) C) fun r13 C14 => if 62 ≤ r13 ∧ r13 < 94 ∧ r13 % 2 = 0 then (f_X7_setFairway x1 x2 C14).bind fun C18 => some ((a_gi C18 0 8), C18) else none
set_option maxRecDepth 100000 in
set_option maxHeartbeats 4000000 in
theorem jb_X7_fairway_52 {x1 : Int32} {x2 : Int32} {x3 : Int32} {C : aSc} {M : aMm}  {res : aRes} {r : Int32 × aSc} (h : g_X7_fairway_52 x1 x2 x3 C = some r) (Kr : ∀ (v : Int32) (S' : aSc), r = (v, S') → res = (some (.int v), (S', M))) : J mi_X7_fairway res 0 0 52 [(0, .ref (0)), (1, .int (x1)), (2, .int (x2)), (3, .int (x3))] [] (C, M) := by
  rw [g_X7_fairway_52] at h
  refine J_aload_n dX7_fairway_52 rfl 0 rfl ?_
  refine J_bipush 7 dX7_fairway_53 rfl ?_
  refine J_iload_n dX7_fairway_55 rfl 1 rfl ?_
  refine J_iload_n dX7_fairway_56 rfl 3 rfl ?_
  refine J_if_eq 64 dX7_fairway_57 (by decide) (fun c19 => ?_) (fun c19 => ?_)
  · have h := br_p c19 h
    refine J_iconst 0 dX7_fairway_64 rfl ?_
    obtain ⟨r6, C7, h5, h⟩ := br_b2 h
    obtain ⟨h9, h⟩ := br_g h
    have q8 := a_ckP_is h9
    refine J_callV (mj := mi_X7_remember) (as := [.int ((7 : Int32)), .int (x1), .int ((0 : Int32))]) (rest := []) (ct_X7_remember (M := M)  h5) ⟨rfl, rfl⟩ rfl rfl (by decide) rfl cg_X7_96 hd_X7_remember rfl ⟨Nat.le_of_ble_eq_true rfl, Nat.le_of_ble_eq_true rfl⟩ (Nat.le_of_ble_eq_true rfl) ⟨Nat.zero_le _, Nat.zero_le _⟩ dX7_fairway_65 ?_
    refine J_pop dX7_fairway_68 rfl ?_
    refine J_aload_n dX7_fairway_69 rfl 0 rfl ?_
    refine J_iload_n dX7_fairway_70 rfl 1 rfl ?_
    refine J_iload_n dX7_fairway_71 rfl 2 rfl ?_
    obtain ⟨C11, h10, h⟩ := br_b h
    refine J_callV (mj := mi_X7_setFairway) (as := [.int (x1), .int (x2)]) (rest := []) (ct_X7_setFairway (M := M)  h10) ⟨rfl, rfl⟩ rfl rfl (by decide) rfl cg_X7_234 hd_X7_setFairway rfl ⟨Nat.le_of_ble_eq_true rfl, Nat.le_of_ble_eq_true rfl⟩ (Nat.le_of_ble_eq_true rfl) ⟨Nat.zero_le _, Nat.zero_le _⟩ dX7_fairway_72 ?_
    refine J_aload_n dX7_fairway_75 rfl 0 rfl ?_
    refine J_geti (j := 8) rfl (by decide) (by decide) rfl (by decide) rfl kf_X7_231 dX7_fairway_76 ?_
    have h := Option.some.inj h
    subst h
    exact J_iret rfl rfl rfl (Kr _ _ rfl) dX7_fairway_79
  · have h := br_n c19 h
    refine J_iconst 1 dX7_fairway_60 rfl ?_
    refine J_goto 65 dX7_fairway_61 (by decide) ?_
    obtain ⟨r13, C14, h12, h⟩ := br_b2 h
    obtain ⟨h16, h⟩ := br_g h
    have q15 := a_ckP_is h16
    refine J_callV (mj := mi_X7_remember) (as := [.int ((7 : Int32)), .int (x1), .int ((1 : Int32))]) (rest := []) (ct_X7_remember (M := M)  h12) ⟨rfl, rfl⟩ rfl rfl (by decide) rfl cg_X7_96 hd_X7_remember rfl ⟨Nat.le_of_ble_eq_true rfl, Nat.le_of_ble_eq_true rfl⟩ (Nat.le_of_ble_eq_true rfl) ⟨Nat.zero_le _, Nat.zero_le _⟩ dX7_fairway_65 ?_
    refine J_pop dX7_fairway_68 rfl ?_
    refine J_aload_n dX7_fairway_69 rfl 0 rfl ?_
    refine J_iload_n dX7_fairway_70 rfl 1 rfl ?_
    refine J_iload_n dX7_fairway_71 rfl 2 rfl ?_
    obtain ⟨C18, h17, h⟩ := br_b h
    refine J_callV (mj := mi_X7_setFairway) (as := [.int (x1), .int (x2)]) (rest := []) (ct_X7_setFairway (M := M)  h17) ⟨rfl, rfl⟩ rfl rfl (by decide) rfl cg_X7_234 hd_X7_setFairway rfl ⟨Nat.le_of_ble_eq_true rfl, Nat.le_of_ble_eq_true rfl⟩ (Nat.le_of_ble_eq_true rfl) ⟨Nat.zero_le _, Nat.zero_le _⟩ dX7_fairway_72 ?_
    refine J_aload_n dX7_fairway_75 rfl 0 rfl ?_
    refine J_geti (j := 8) rfl (by decide) (by decide) rfl (by decide) rfl kf_X7_231 dX7_fairway_76 ?_
    have h := Option.some.inj h
    subst h
    exact J_iret rfl rfl rfl (Kr _ _ rfl) dX7_fairway_79
def g_X7_fairway_27 (x1 : Int32) (x2 : Int32) (t0 : Int32) (C : aSc) : Option (Int32 × aSc) :=
  if (x2 : Int32) = 0 then g_X7_fairway_52 (x1) (x2) (t0) C else if (t0 : Int32) = 0 then if ((a_gi C 0 8) : Int32) < (12 : Int32) then g_X7_fairway_52 (x1) (x2) (t0) C else bd2 (f_X7_refuse (-100005 : Int32) C) fun r21 C22 => some (r21, C22) else g_X7_fairway_52 (x1) (x2) (t0) C
set_option maxRecDepth 100000 in
set_option maxHeartbeats 4000000 in
theorem jb_X7_fairway_27 {x1 : Int32} {x2 : Int32} {t0 : Int32} {C : aSc} {M : aMm}  {res : aRes} {r : Int32 × aSc} (h : g_X7_fairway_27 x1 x2 t0 C = some r) (Kr : ∀ (v : Int32) (S' : aSc), r = (v, S') → res = (some (.int v), (S', M))) : J mi_X7_fairway res 0 0 27 [(0, .ref (0)), (1, .int (x1)), (2, .int (x2))] [.int (t0)] (C, M) := by
  rw [g_X7_fairway_27] at h
  refine J_istore_n (L' := [(3, .int (t0)), (0, .ref (0)), (1, .int (x1)), (2, .int (x2))]) dX7_fairway_27 rfl (by decide) rfl ?_
  refine J_iload_n dX7_fairway_28 rfl 3 rfl ?_
  refine J_if_eq 52 dX7_fairway_29 (by decide) (fun c25 => ?_) (fun c25 => ?_)
  · have h := br_p c25 h
    refine J_sub [1, 2, 3, 0] rfl ?_
    exact jb_X7_fairway_52  h Kr
  · have h := br_n c25 h
    refine J_iload_n dX7_fairway_32 rfl 0 rfl ?_
    refine J_if_ne 52 dX7_fairway_33 (by decide) (fun c24 => ?_) (fun c24 => ?_)
    · have h := br_n c24 h
      refine J_sub [1, 2, 3, 0] rfl ?_
      exact jb_X7_fairway_52  h Kr
    · have h := br_p c24 h
      refine J_aload_n dX7_fairway_36 rfl 1 rfl ?_
      refine J_geti (j := 8) rfl (by decide) (by decide) rfl (by decide) rfl kf_X7_231 dX7_fairway_37 ?_
      refine J_bipush 12 dX7_fairway_40 rfl ?_
      refine J_icmp_lt 52 dX7_fairway_42 (by decide) (fun c23 => ?_) (fun c23 => ?_)
      · have h := br_p c23 h
        refine J_sub [1, 2, 3, 0] rfl ?_
        exact jb_X7_fairway_52  h Kr
      · have h := br_n c23 h
        refine J_aload_n dX7_fairway_45 rfl 1 rfl ?_
        refine J_ldc (-100005) dX7_fairway_46 kc_X7_77 ?_
        obtain ⟨r21, C22, h20, h⟩ := br_b2 h
        refine J_callV (mj := mi_X7_refuse) (as := [.int ((-100005 : Int32))]) (rest := []) (ct_X7_refuse (M := M)  h20) ⟨rfl, rfl⟩ rfl rfl (by decide) rfl cg_X7_69 hd_X7_refuse rfl ⟨Nat.le_of_ble_eq_true rfl, Nat.le_of_ble_eq_true rfl⟩ (Nat.le_of_ble_eq_true rfl) ⟨Nat.zero_le _, Nat.zero_le _⟩ dX7_fairway_48 ?_
        have h := Option.some.inj h
        subst h
        exact J_iret rfl rfl rfl (Kr _ _ rfl) dX7_fairway_51
def f_X7_fairway (x1 : Int32) (x2 : Int32) (C : aSc) : Option (Int32 × aSc) :=
  (f_X7_isCell x1 C).bind fun r2 => if (r2 : Int32) = 0 then bd2 (f_X7_refuse (-100001 : Int32) C) fun r28 C29 => some (r28, C29) else (f_X7_placeInFairway x1 C).bind fun r4 => if (r4 : Int32) < 0 then g_X7_fairway_27 (x1) (x2) ((0 : Int32)) C else g_X7_fairway_27 (x1) (x2) ((1 : Int32)) C
set_option maxRecDepth 100000 in
set_option maxHeartbeats 4000000 in
theorem jm_X7_fairway {x1 : Int32} {x2 : Int32} {C : aSc} {M : aMm}  {res : aRes} {r : Int32 × aSc} (h : f_X7_fairway x1 x2 C = some r) (Kr : ∀ (v : Int32) (S' : aSc), r = (v, S') → res = (some (.int v), (S', M))) : J mi_X7_fairway res 0 0 0 [(0, .ref (0)), (1, .int (x1)), (2, .int (x2))] [] (C, M) := by
  rw [f_X7_fairway] at h
  refine J_iload_n dX7_fairway_0 rfl 1 rfl ?_
  obtain ⟨r2, h1, h⟩ := br_b h
  refine J_callS (mj := mi_X7_isCell) (as := [.int (x1)]) (rest := []) (ct_X7_isCell (M := M)  h1) ⟨rfl, rfl⟩ rfl cg_X7_86 hd_X7_isCell rfl ⟨Nat.le_of_ble_eq_true rfl, Nat.le_of_ble_eq_true rfl⟩ (Nat.le_of_ble_eq_true rfl) ⟨Nat.zero_le _, Nat.zero_le _⟩ dX7_fairway_1 ?_
  refine J_if_ne 14 dX7_fairway_4 (by decide) (fun c30 => ?_) (fun c30 => ?_)
  · have h := br_n c30 h
    refine J_aload_n dX7_fairway_14 rfl 0 rfl ?_
    refine J_iload_n dX7_fairway_15 rfl 1 rfl ?_
    obtain ⟨r4, h3, h⟩ := br_b h
    refine J_callV (mj := mi_X7_placeInFairway) (as := [.int (x1)]) (rest := []) (ct_X7_placeInFairway (M := M)  h3) ⟨rfl, rfl⟩ rfl rfl (by decide) rfl cg_X7_228 hd_X7_placeInFairway rfl ⟨Nat.le_of_ble_eq_true rfl, Nat.le_of_ble_eq_true rfl⟩ (Nat.le_of_ble_eq_true rfl) ⟨Nat.zero_le _, Nat.zero_le _⟩ dX7_fairway_16 ?_
    refine J_if_lt 26 dX7_fairway_19 (by decide) (fun c26 => ?_) (fun c26 => ?_)
    · have h := br_p c26 h
      refine J_iconst 0 dX7_fairway_26 rfl ?_
      exact jb_X7_fairway_27  h Kr
    · have h := br_n c26 h
      refine J_iconst 1 dX7_fairway_22 rfl ?_
      refine J_goto 27 dX7_fairway_23 (by decide) ?_
      exact jb_X7_fairway_27  h Kr
  · have h := br_p c30 h
    refine J_aload_n dX7_fairway_7 rfl 0 rfl ?_
    refine J_ldc (-100001) dX7_fairway_8 kc_X7_68 ?_
    obtain ⟨r28, C29, h27, h⟩ := br_b2 h
    refine J_callV (mj := mi_X7_refuse) (as := [.int ((-100001 : Int32))]) (rest := []) (ct_X7_refuse (M := M)  h27) ⟨rfl, rfl⟩ rfl rfl (by decide) rfl cg_X7_69 hd_X7_refuse rfl ⟨Nat.le_of_ble_eq_true rfl, Nat.le_of_ble_eq_true rfl⟩ (Nat.le_of_ble_eq_true rfl) ⟨Nat.zero_le _, Nat.zero_le _⟩ dX7_fairway_10 ?_
    have h := Option.some.inj h
    subst h
    exact J_iret rfl rfl rfl (Kr _ _ rfl) dX7_fairway_13
theorem ct_X7_fairway {x1 : Int32} {x2 : Int32} {C : aSc} {M : aMm} {v : Int32} {S' : aSc}  (h : f_X7_fairway x1 x2 C = some (v, S')) : Ct mi_X7_fairway yX7_fairway [.ref (0), .int (x1), .int (x2)] (C, M) (some (.int v), (S', M)) := Ct_of_J (by decide +kernel) rfl (Nat.le_of_ble_eq_true rfl) (jm_X7_fairway  h (fun _ _ e => by cases e; rfl))
def mi_X7_lightsFairway : aMi := (cX7_lightsFairway, 3, RX7, (some .boolean), { frames := 1, cells := 0, slots := 0, locals := 20 })
def b_X7_lightsFairway_2 (x1 : Int32) (x2 : Int32) (C : aSc) : Option ((Int32) ⊕ ((Unit) ⊕ (Int32))) :=
  if ((a_gi C 0 8) : Int32) ≤ x2 then some (.inr (.inl ())) else (a_ld C 6 x2).bind fun u1 => (f_J6_bitCount_0f7a4 (x1 &&& u1)).bind fun r4 => if ((2 : Int32) : Int32) ≤ r4 then some (.inl (x2 + (1 : Int32))) else some (.inr (.inr (0 : Int32)))
set_option maxRecDepth 100000 in
set_option maxHeartbeats 4000000 in
theorem jl_X7_lightsFairway_2 {x1 : Int32} {C : aSc} {M : aMm}  {res : aRes} {r : (Unit) ⊕ (Int32)} : ∀ (n : Nat) (x2 : Int32), lpf (fun a : Int32 => b_X7_lightsFairway_2 (x1) a C) n x2 = some r → (r = .inl () → J mi_X7_lightsFairway res 0 0 33 [] [] (C, M)) → (∀ (v : Int32), r = .inr v → res = (some (.int v), (C, M))) → J mi_X7_lightsFairway res 0 0 2 [(0, .ref (0)), (1, .int (x1)), (2, .int (x2))] [] (C, M) := by
  intro n
  induction n with
  | zero =>
    intro x2 h
    cases h
  | succ n ih =>
    intro x2 h Kx Kr
    obtain ⟨r0, h, h2⟩ := br_b h
    have h : b_X7_lightsFairway_2 x1 x2 C = some r0 := h
    rw [b_X7_lightsFairway_2] at h
    refine J_iload_n dX7_lightsFairway_2 rfl 2 rfl ?_
    refine J_aload_n dX7_lightsFairway_3 rfl 0 rfl ?_
    refine J_geti (j := 8) rfl (by decide) (by decide) rfl (by decide) rfl kf_X7_231 dX7_lightsFairway_4 ?_
    refine J_icmp_ge 33 dX7_lightsFairway_7 (by decide) (fun c6 => ?_) (fun c6 => ?_)
    · have h := br_p c6 h
      have h := Option.some.inj h
      subst h
      have h2 := Option.some.inj h2
      subst h2
      refine J_sub [] rfl ?_
      exact Kx  rfl
    · have h := br_n c6 h
      refine J_iload_n dX7_lightsFairway_10 rfl 1 rfl ?_
      refine J_aload_n dX7_lightsFairway_11 rfl 0 rfl ?_
      refine J_getr (j := 9) (t := 14) (r := 6) rfl (by decide) (by decide) rfl (by decide) rfl rfl kf_X7_29 dX7_lightsFairway_12 ?_
      refine J_iload_n dX7_lightsFairway_15 rfl 2 rfl ?_
      obtain ⟨u1, h2, h⟩ := br_b h
      refine J_iald rfl (by decide) h2 dX7_lightsFairway_16 ?_
      refine J_iand dX7_lightsFairway_17 ?_
      obtain ⟨r4, h3, h⟩ := br_b h
      refine J_callS (mj := mi_J6_bitCount_0f7a4) (as := [.int ((x1 &&& u1))]) (rest := []) (ct_J6_bitCount_0f7a4 (S := (C, M))  h3) ⟨rfl, rfl⟩ rfl cg_X7_238 hd_J6_bitCount_0f7a4 rfl ⟨Nat.le_of_ble_eq_true rfl, Nat.le_of_ble_eq_true rfl⟩ (Nat.le_of_ble_eq_true rfl) ⟨Nat.zero_le _, Nat.zero_le _⟩ dX7_lightsFairway_18 ?_
      refine J_iconst 2 dX7_lightsFairway_21 rfl ?_
      refine J_icmp_ge 27 dX7_lightsFairway_22 (by decide) (fun c5 => ?_) (fun c5 => ?_)
      · have h := br_p c5 h
        refine J_iinc (j := 2) (v := (x2 + (1 : Int32))) (L' := [(2, .int ((x2 + (1 : Int32)))), (0, .ref (0)), (1, .int (x1))]) dX7_lightsFairway_27 rfl rfl (by decide) rfl ?_
        refine J_goto 2 dX7_lightsFairway_30 (by decide) ?_
        have h := Option.some.inj h
        subst h
        refine J_sub [1, 2, 0] rfl ?_
        exact ih _ h2 Kx Kr
      · have h := br_n c5 h
        refine J_iconst 0 dX7_lightsFairway_25 rfl ?_
        have h := Option.some.inj h
        subst h
        have h2 := Option.some.inj h2
        subst h2
        exact J_zret (Or.inl rfl) rfl rfl rfl (Kr _ rfl) dX7_lightsFairway_26
def f_X7_lightsFairway (x1 : Int32) (C : aSc) : Option (Int32) :=
  (lpf (fun a : Int32 => b_X7_lightsFairway_2 (x1) a C) FU (0 : Int32)).bind fun z7 => Sum.elim (fun z7a => some (1 : Int32)) (fun z9 => some z9) z7
set_option maxRecDepth 100000 in
set_option maxHeartbeats 4000000 in
theorem jm_X7_lightsFairway {x1 : Int32} {C : aSc} {M : aMm}  {res : aRes} {r : Int32} (h : f_X7_lightsFairway x1 C = some r) (Kr : ∀ (v : Int32), r = v → res = (some (.int v), (C, M))) : J mi_X7_lightsFairway res 0 0 0 [(0, .ref (0)), (1, .int (x1))] [] (C, M) := by
  rw [f_X7_lightsFairway] at h
  refine J_iconst 0 dX7_lightsFairway_0 rfl ?_
  refine J_istore_n (L' := [(2, .int ((0 : Int32))), (0, .ref (0)), (1, .int (x1))]) dX7_lightsFairway_1 rfl (by decide) rfl ?_
  refine J_sub [1, 2, 0] rfl ?_
  obtain ⟨z7, h8, h⟩ := br_b h
  refine jl_X7_lightsFairway_2  FU _ h8 ?_ ?_
  · intro e
    subst e
    have h := br_l h
    refine J_iconst 1 dX7_lightsFairway_33 rfl ?_
    have h := Option.some.inj h
    subst h
    exact J_zret (Or.inr rfl) rfl rfl rfl (Kr _ rfl) dX7_lightsFairway_34
  · intro v e
    subst e
    have h := br_r h
    have h := Option.some.inj h
    subst h
    exact Kr _ rfl
theorem ct_X7_lightsFairway {x1 : Int32} {C : aSc} {M : aMm} {v : Int32}  (h : f_X7_lightsFairway x1 C = some v) : Ct mi_X7_lightsFairway yX7_lightsFairway [.ref (0), .int (x1)] (C, M) (some (.int v), (C, M)) := Ct_of_J (by decide +kernel) rfl (Nat.le_of_ble_eq_true rfl) (jm_X7_lightsFairway  h (fun _ e => by cases e; rfl))
def mi_X7_kept : aMi := (cX7_kept, 5, RX7, (some .int), { frames := 3, cells := 0, slots := 0, locals := 71 })
def b_X7_kept_2  (x1 : Int32) (C : aSc) : Option ((Int32 × aSc) ⊕ (aSc)) :=
  if ((a_gi C 0 8) : Int32) ≤ x1 then some (.inr C) else (a_ld C 5 x1).bind fun u1 => (f_X7_seenFrom u1 C).bind fun r4 => (a_st C 6 x1 r4).bind fun C5 => some (.inl ((x1 + (1 : Int32)), C5))
set_option maxRecDepth 100000 in
set_option maxHeartbeats 4000000 in
theorem jl_X7_kept_2  {M : aMm}  {res : aRes} {r : aSc} : ∀ (n : Nat) (x1 : Int32) (C : aSc), lpf (fun a : Int32 × aSc => b_X7_kept_2  a.1 a.2) n (x1, C) = some r → (∀ (S2 : aSc), r = S2 → J mi_X7_kept res 0 0 32 [(0, .ref (0))] [] (S2, M)) → J mi_X7_kept res 0 0 2 [(0, .ref (0)), (1, .int (x1))] [] (C, M) := by
  intro n
  induction n with
  | zero =>
    intro x1 C h
    cases h
  | succ n ih =>
    intro x1 C h Kx
    obtain ⟨r0, h, h2⟩ := br_b h
    have h : b_X7_kept_2  x1 C = some r0 := h
    rw [b_X7_kept_2] at h
    refine J_iload_n dX7_kept_2 rfl 1 rfl ?_
    refine J_aload_n dX7_kept_3 rfl 0 rfl ?_
    refine J_geti (j := 8) rfl (by decide) (by decide) rfl (by decide) rfl kf_X7_231 dX7_kept_4 ?_
    refine J_icmp_ge 32 dX7_kept_7 (by decide) (fun c7 => ?_) (fun c7 => ?_)
    · have h := br_p c7 h
      have h := Option.some.inj h
      subst h
      have h2 := Option.some.inj h2
      subst h2
      refine J_sub [0] rfl ?_
      exact Kx _ rfl
    · have h := br_n c7 h
      refine J_aload_n dX7_kept_10 rfl 0 rfl ?_
      refine J_getr (j := 9) (t := 14) (r := 6) rfl (by decide) (by decide) rfl (by decide) rfl rfl kf_X7_29 dX7_kept_11 ?_
      refine J_iload_n dX7_kept_14 rfl 1 rfl ?_
      refine J_aload_n dX7_kept_15 rfl 0 rfl ?_
      refine J_aload_n dX7_kept_16 rfl 0 rfl ?_
      refine J_getr (j := 7) (t := 13) (r := 5) rfl (by decide) (by decide) rfl (by decide) rfl rfl kf_X7_26 dX7_kept_17 ?_
      refine J_iload_n dX7_kept_20 rfl 1 rfl ?_
      obtain ⟨u1, h2, h⟩ := br_b h
      refine J_iald rfl (by decide) h2 dX7_kept_21 ?_
      obtain ⟨r4, h3, h⟩ := br_b h
      refine J_callV (mj := mi_X7_seenFrom) (as := [.int (u1)]) (rest := [.int (x1), .ref (6)]) (ct_X7_seenFrom (M := M)  h3) ⟨rfl, rfl⟩ rfl rfl (by decide) rfl cg_X7_168 hd_X7_seenFrom rfl ⟨Nat.le_of_ble_eq_true rfl, Nat.le_of_ble_eq_true rfl⟩ (Nat.le_of_ble_eq_true rfl) ⟨Nat.zero_le _, Nat.zero_le _⟩ dX7_kept_22 ?_
      obtain ⟨C5, h6, h⟩ := br_b h
      refine J_iast rfl (by decide) h6 dX7_kept_25 ?_
      refine J_iinc (j := 1) (v := (x1 + (1 : Int32))) (L' := [(1, .int ((x1 + (1 : Int32)))), (0, .ref (0))]) dX7_kept_26 rfl rfl (by decide) rfl ?_
      refine J_goto 2 dX7_kept_29 (by decide) ?_
      have h := Option.some.inj h
      subst h
      refine J_sub [1, 0] rfl ?_
      exact ih _ _ h2 Kx
def g_X7_kept_68 (x1 : Int32) (x2 : Int32) (x3 : Int32) (t0 : Int32) (C : aSc) : Option ((Int32 × Int32) ⊕ (Int32)) :=
  if (t0 : Int32) = 0 then some (.inl (x1, (x3 + (1 : Int32)))) else (f_X7_lightsFairway x3 C).bind fun r12 => if (r12 : Int32) = 0 then some (.inl (x1, (x3 + (1 : Int32)))) else some (.inl (x3, (x3 + (1 : Int32))))
set_option maxRecDepth 100000 in
set_option maxHeartbeats 4000000 in
theorem jb_X7_kept_68 {x1 : Int32} {x2 : Int32} {x3 : Int32} {t0 : Int32} {C : aSc} {M : aMm}  {res : aRes} {r : (Int32 × Int32) ⊕ (Int32)} (h : g_X7_kept_68 x1 x2 x3 t0 C = some r) (Kn : ∀ (y1 : Int32) (y3 : Int32), r = .inl (y1, y3) → J mi_X7_kept res 0 0 43 [(0, .ref (0)), (1, .int (y1)), (2, .int (x2)), (3, .int (y3))] [] (C, M)) (Kx : ∀ (z1 : Int32), r = .inr z1 → J mi_X7_kept res 0 0 91 [(0, .ref (0)), (1, .int (z1))] [] (C, M)) : J mi_X7_kept res 0 0 68 [(0, .ref (0)), (1, .int (x1)), (2, .int (x2)), (3, .int (x3))] [.int (t0)] (C, M) := by
  rw [g_X7_kept_68] at h
  refine J_istore (L' := [(4, .int (t0)), (0, .ref (0)), (1, .int (x1)), (2, .int (x2)), (3, .int (x3))]) dX7_kept_68 (by decide) rfl ?_
  refine J_iload dX7_kept_70 0 rfl ?_
  refine J_if_eq 85 dX7_kept_72 (by decide) (fun c14 => ?_) (fun c14 => ?_)
  · have h := br_p c14 h
    refine J_iinc (j := 4) (v := (x3 + (1 : Int32))) (L' := [(3, .int ((x3 + (1 : Int32)))), (4, .int (t0)), (0, .ref (0)), (1, .int (x1)), (2, .int (x2))]) dX7_kept_85 rfl rfl (by decide) rfl ?_
    refine J_goto 43 dX7_kept_88 (by decide) ?_
    have h := Option.some.inj h
    subst h
    refine J_sub [2, 3, 4, 0] rfl ?_
    exact Kn _ _ rfl
  · have h := br_n c14 h
    refine J_aload_n dX7_kept_75 rfl 1 rfl ?_
    refine J_iload_n dX7_kept_76 rfl 4 rfl ?_
    obtain ⟨r12, h11, h⟩ := br_b h
    refine J_callV (mj := mi_X7_lightsFairway) (as := [.int (x3)]) (rest := []) (ct_X7_lightsFairway (M := M)  h11) ⟨rfl, rfl⟩ rfl rfl (by decide) rfl cg_X7_242 hd_X7_lightsFairway rfl ⟨Nat.le_of_ble_eq_true rfl, Nat.le_of_ble_eq_true rfl⟩ (Nat.le_of_ble_eq_true rfl) ⟨Nat.zero_le _, Nat.zero_le _⟩ dX7_kept_77 ?_
    refine J_if_eq 85 dX7_kept_80 (by decide) (fun c13 => ?_) (fun c13 => ?_)
    · have h := br_p c13 h
      refine J_iinc (j := 4) (v := (x3 + (1 : Int32))) (L' := [(3, .int ((x3 + (1 : Int32)))), (4, .int (t0)), (0, .ref (0)), (1, .int (x1)), (2, .int (x2))]) dX7_kept_85 rfl rfl (by decide) rfl ?_
      refine J_goto 43 dX7_kept_88 (by decide) ?_
      have h := Option.some.inj h
      subst h
      refine J_sub [2, 3, 4, 0] rfl ?_
      exact Kn _ _ rfl
    · have h := br_n c13 h
      refine J_iload_n dX7_kept_83 rfl 4 rfl ?_
      refine J_istore_n (L' := [(1, .int (x3)), (4, .int (t0)), (0, .ref (0)), (2, .int (x2)), (3, .int (x3))]) dX7_kept_84 rfl (by decide) rfl ?_
      refine J_iinc (j := 4) (v := (x3 + (1 : Int32))) (L' := [(3, .int ((x3 + (1 : Int32)))), (1, .int (x3)), (4, .int (t0)), (0, .ref (0)), (2, .int (x2))]) dX7_kept_85 rfl rfl (by decide) rfl ?_
      refine J_goto 43 dX7_kept_88 (by decide) ?_
      have h := Option.some.inj h
      subst h
      refine J_sub [3, 1, 4, 0] rfl ?_
      exact Kn _ _ rfl
def g_X7_kept_63 (x1 : Int32) (x2 : Int32) (x3 : Int32) (C : aSc) : Option ((Int32 × Int32) ⊕ (Int32)) :=
  g_X7_kept_68 (x1) (x2) (x3) ((1 : Int32)) C
set_option maxRecDepth 100000 in
set_option maxHeartbeats 4000000 in
theorem jb_X7_kept_63 {x1 : Int32} {x2 : Int32} {x3 : Int32} {C : aSc} {M : aMm}  {res : aRes} {r : (Int32 × Int32) ⊕ (Int32)} (h : g_X7_kept_63 x1 x2 x3 C = some r) (Kn : ∀ (y1 : Int32) (y3 : Int32), r = .inl (y1, y3) → J mi_X7_kept res 0 0 43 [(0, .ref (0)), (1, .int (y1)), (2, .int (x2)), (3, .int (y3))] [] (C, M)) (Kx : ∀ (z1 : Int32), r = .inr z1 → J mi_X7_kept res 0 0 91 [(0, .ref (0)), (1, .int (z1))] [] (C, M)) : J mi_X7_kept res 0 0 63 [(0, .ref (0)), (1, .int (x1)), (2, .int (x2)), (3, .int (x3))] [] (C, M) := by
  rw [g_X7_kept_63] at h
  refine J_iconst 1 dX7_kept_63 rfl ?_
  refine J_goto 68 dX7_kept_64 (by decide) ?_
  exact jb_X7_kept_68  h Kn Kx
def b_X7_kept_43 (x2 : Int32) (x1 : Int32) (x3 : Int32) (C : aSc) : Option ((Int32 × Int32) ⊕ (Int32)) :=
  if (x2 : Int32) ≤ x3 then some (.inr x1) else if (x1 : Int32) < 0 then g_X7_kept_63 (x1) (x2) (x3) C else (f_J6_bitCount_0f7a4 x3).bind fun r16 => (f_J6_bitCount_0f7a4 x1).bind fun r18 => if (r18 : Int32) ≤ r16 then g_X7_kept_68 (x1) (x2) (x3) ((0 : Int32)) C else g_X7_kept_63 (x1) (x2) (x3) C
set_option maxRecDepth 100000 in
set_option maxHeartbeats 4000000 in
theorem jl_X7_kept_43 {x2 : Int32} {C : aSc} {M : aMm}  {res : aRes} {r : Int32} : ∀ (n : Nat) (x1 : Int32) (x3 : Int32), lpf (fun a : Int32 × Int32 => b_X7_kept_43 (x2) a.1 a.2 C) n (x1, x3) = some r → (∀ (z1 : Int32), r = z1 → J mi_X7_kept res 0 0 91 [(0, .ref (0)), (1, .int (z1))] [] (C, M)) → J mi_X7_kept res 0 0 43 [(0, .ref (0)), (1, .int (x1)), (2, .int (x2)), (3, .int (x3))] [] (C, M) := by
  intro n
  induction n with
  | zero =>
    intro x1 x3 h
    cases h
  | succ n ih =>
    intro x1 x3 h Kx
    obtain ⟨r0, h, h2⟩ := br_b h
    have h : b_X7_kept_43 x2 x1 x3 C = some r0 := h
    rw [b_X7_kept_43] at h
    refine J_iload_n dX7_kept_43 rfl 3 rfl ?_
    refine J_iload_n dX7_kept_44 rfl 2 rfl ?_
    refine J_icmp_ge 91 dX7_kept_45 (by decide) (fun c21 => ?_) (fun c21 => ?_)
    · have h := br_p c21 h
      have h := Option.some.inj h
      subst h
      have h2 := Option.some.inj h2
      subst h2
      refine J_sub [0, 1] rfl ?_
      exact Kx _ rfl
    · have h := br_n c21 h
      refine J_iload_n dX7_kept_48 rfl 1 rfl ?_
      refine J_if_lt 63 dX7_kept_49 (by decide) (fun c20 => ?_) (fun c20 => ?_)
      · have h := br_p c20 h
        exact jb_X7_kept_63  h (fun _ _ e => by subst e; exact ih _ _ h2 Kx) (fun _ e => by subst e; have h2 := Option.some.inj h2; subst h2; exact Kx _ rfl)
      · have h := br_n c20 h
        refine J_iload_n dX7_kept_52 rfl 3 rfl ?_
        obtain ⟨r16, h15, h⟩ := br_b h
        refine J_callS (mj := mi_J6_bitCount_0f7a4) (as := [.int (x3)]) (rest := []) (ct_J6_bitCount_0f7a4 (S := (C, M))  h15) ⟨rfl, rfl⟩ rfl cg_X7_238 hd_J6_bitCount_0f7a4 rfl ⟨Nat.le_of_ble_eq_true rfl, Nat.le_of_ble_eq_true rfl⟩ (Nat.le_of_ble_eq_true rfl) ⟨Nat.zero_le _, Nat.zero_le _⟩ dX7_kept_53 ?_
        refine J_iload_n dX7_kept_56 rfl 1 rfl ?_
        obtain ⟨r18, h17, h⟩ := br_b h
        refine J_callS (mj := mi_J6_bitCount_0f7a4) (as := [.int (x1)]) (rest := [.int (r16)]) (ct_J6_bitCount_0f7a4 (S := (C, M))  h17) ⟨rfl, rfl⟩ rfl cg_X7_238 hd_J6_bitCount_0f7a4 rfl ⟨Nat.le_of_ble_eq_true rfl, Nat.le_of_ble_eq_true rfl⟩ (Nat.le_of_ble_eq_true rfl) ⟨Nat.zero_le _, Nat.zero_le _⟩ dX7_kept_57 ?_
        refine J_icmp_ge 67 dX7_kept_60 (by decide) (fun c19 => ?_) (fun c19 => ?_)
        · have h := br_p c19 h
          refine J_iconst 0 dX7_kept_67 rfl ?_
          exact jb_X7_kept_68  h (fun _ _ e => by subst e; exact ih _ _ h2 Kx) (fun _ e => by subst e; have h2 := Option.some.inj h2; subst h2; exact Kx _ rfl)
        · have h := br_n c19 h
          exact jb_X7_kept_63  h (fun _ _ e => by subst e; exact ih _ _ h2 Kx) (fun _ e => by subst e; have h2 := Option.some.inj h2; subst h2; exact Kx _ rfl)
def f_X7_kept  (C : aSc) : Option (Int32 × aSc) :=
  (lpf (fun a : Int32 × aSc => b_X7_kept_2  a.1 a.2) FU ((0 : Int32), C)).bind fun z8 => (lpf (fun a : Int32 × Int32 => b_X7_kept_43 (((1 : Int32) <<< ((a_gi z8 0 2) &&& 31))) a.1 a.2 z8) FU ((-1 : Int32), (0 : Int32))).bind fun z22 => if 0 ≤ (z22 : Int32) then some (z22, z8) else bd2 (f_X7_refuse (-100006 : Int32) z8) fun r26 C27 => some (r26, C27)
set_option maxRecDepth 100000 in
set_option maxHeartbeats 4000000 in
theorem jm_X7_kept  {C : aSc} {M : aMm}  {res : aRes} {r : Int32 × aSc} (h : f_X7_kept  C = some r) (Kr : ∀ (v : Int32) (S' : aSc), r = (v, S') → res = (some (.int v), (S', M))) : J mi_X7_kept res 0 0 0 [(0, .ref (0))] [] (C, M) := by
  rw [f_X7_kept] at h
  refine J_iconst 0 dX7_kept_0 rfl ?_
  refine J_istore_n (L' := [(1, .int ((0 : Int32))), (0, .ref (0))]) dX7_kept_1 rfl (by decide) rfl ?_
  refine J_sub [1, 0] rfl ?_
  obtain ⟨z8, h9, h⟩ := br_b h
  refine jl_X7_kept_2  FU _ _ h9 ?_
  intro zz e
  subst e
  refine J_iconst (-1) dX7_kept_32 rfl ?_
  refine J_istore_n (L' := [(1, .int ((-1 : Int32))), (0, .ref (0))]) dX7_kept_33 rfl (by decide) rfl ?_
  refine J_iconst 1 dX7_kept_34 rfl ?_
  refine J_aload_n dX7_kept_35 rfl 1 rfl ?_
  refine J_geti (j := 2) rfl (by decide) (by decide) rfl (by decide) rfl kf_X7_89 dX7_kept_36 ?_
  refine J_ishl dX7_kept_39 ?_
  refine J_istore_n (L' := [(2, .int (((1 : Int32) <<< ((a_gi z8 0 2) &&& 31)))), (1, .int ((-1 : Int32))), (0, .ref (0))]) dX7_kept_40 rfl (by decide) rfl ?_
  refine J_iconst 0 dX7_kept_41 rfl ?_
  refine J_istore_n (L' := [(3, .int ((0 : Int32))), (2, .int (((1 : Int32) <<< ((a_gi z8 0 2) &&& 31)))), (1, .int ((-1 : Int32))), (0, .ref (0))]) dX7_kept_42 rfl (by decide) rfl ?_
  refine J_sub [3, 2, 1, 0] rfl ?_
  obtain ⟨z22, h23, h⟩ := br_b h
  refine jl_X7_kept_43  FU _ _ h23 ?_
  intro zz e
  subst e
  refine J_iload_n dX7_kept_91 rfl 1 rfl ?_
  refine J_if_ge 104 dX7_kept_92 (by decide) (fun c28 => ?_) (fun c28 => ?_)
  · have h := br_p c28 h
    refine J_iload_n dX7_kept_104 rfl 1 rfl ?_
    have h := Option.some.inj h
    subst h
    exact J_iret rfl rfl rfl (Kr _ _ rfl) dX7_kept_105
  · have h := br_n c28 h
    refine J_aload_n dX7_kept_95 rfl 0 rfl ?_
    refine J_ldc (-100006) dX7_kept_96 kc_X7_184 ?_
    obtain ⟨r26, C27, h25, h⟩ := br_b2 h
    refine J_callV (mj := mi_X7_refuse) (as := [.int ((-100006 : Int32))]) (rest := []) (ct_X7_refuse (M := M)  h25) ⟨rfl, rfl⟩ rfl rfl (by decide) rfl cg_X7_69 hd_X7_refuse rfl ⟨Nat.le_of_ble_eq_true rfl, Nat.le_of_ble_eq_true rfl⟩ (Nat.le_of_ble_eq_true rfl) ⟨Nat.zero_le _, Nat.zero_le _⟩ dX7_kept_98 ?_
    refine J_goto 105 dX7_kept_101 (by decide) ?_
    have h := Option.some.inj h
    subst h
    exact J_iret rfl rfl rfl (Kr _ _ rfl) dX7_kept_105
theorem ct_X7_kept  {C : aSc} {M : aMm} {v : Int32} {S' : aSc}  (h : f_X7_kept  C = some (v, S')) : Ct mi_X7_kept yX7_kept [.ref (0)] (C, M) (some (.int v), (S', M)) := Ct_of_J (by decide +kernel) rfl (Nat.le_of_ble_eq_true rfl) (jm_X7_kept  h (fun _ _ e => by cases e; rfl))
def mi_X7_isHour : aMi := (cX7_isHour, 1, RX7, (some .boolean), { frames := 0, cells := 0, slots := 0, locals := 0 })
def f_X7_isHour (x0 : Int32) (C : aSc) : Option (Int32) :=
  if (x0 : Int32) < 0 then some (0 : Int32) else if ((999 : Int32) : Int32) < x0 then some (0 : Int32) else some (1 : Int32)
set_option maxRecDepth 100000 in
set_option maxHeartbeats 4000000 in
theorem jm_X7_isHour {x0 : Int32} {C : aSc} {M : aMm}  {res : aRes} {r : Int32} (h : f_X7_isHour x0 C = some r) (Kr : ∀ (v : Int32), r = v → res = (some (.int v), (C, M))) : J mi_X7_isHour res 0 0 0 [(0, .int (x0))] [] (C, M) := by
  rw [f_X7_isHour] at h
  refine J_iload_n dX7_isHour_0 rfl 0 rfl ?_
  refine J_if_lt 15 dX7_isHour_1 (by decide) (fun c2 => ?_) (fun c2 => ?_)
  · have h := br_p c2 h
    refine J_iconst 0 dX7_isHour_15 rfl ?_
    have h := Option.some.inj h
    subst h
    exact J_zret (Or.inl rfl) rfl rfl rfl (Kr _ rfl) dX7_isHour_16
  · have h := br_n c2 h
    refine J_iload_n dX7_isHour_4 rfl 0 rfl ?_
    refine J_sipush 999 dX7_isHour_5 rfl ?_
    refine J_icmp_gt 15 dX7_isHour_8 (by decide) (fun c1 => ?_) (fun c1 => ?_)
    · have h := br_p c1 h
      refine J_iconst 0 dX7_isHour_15 rfl ?_
      have h := Option.some.inj h
      subst h
      exact J_zret (Or.inl rfl) rfl rfl rfl (Kr _ rfl) dX7_isHour_16
    · have h := br_n c1 h
      refine J_iconst 1 dX7_isHour_11 rfl ?_
      refine J_goto 16 dX7_isHour_12 (by decide) ?_
      have h := Option.some.inj h
      subst h
      exact J_zret (Or.inr rfl) rfl rfl rfl (Kr _ rfl) dX7_isHour_16
theorem ct_X7_isHour {x0 : Int32} {C : aSc} {M : aMm} {v : Int32}  (h : f_X7_isHour x0 C = some v) : Ct mi_X7_isHour yX7_isHour [.int (x0)] (C, M) (some (.int v), (C, M)) := Ct_of_J (by decide +kernel) rfl (Nat.le_of_ble_eq_true rfl) (jm_X7_isHour  h (fun _ e => by cases e; rfl))
def mi_X6_latestHour : aMi := (cX6_latestHour, 1, RX6, (some .int), { frames := 0, cells := 0, slots := 0, locals := 0 })
def f_X6_latestHour  (C : aSc) : Option (Int32) :=
  if ((a_gi C 7 0) : Int32) = 0 then some (0 : Int32) else (a_ld C 11 ((a_gi C 7 0) - (1 : Int32))).bind fun u1 => some u1
set_option maxRecDepth 100000 in
set_option maxHeartbeats 4000000 in
theorem jm_X6_latestHour  {C : aSc} {M : aMm}  {res : aRes} {r : Int32} (h : f_X6_latestHour  C = some r) (Kr : ∀ (v : Int32), r = v → res = (some (.int v), (C, M))) : J mi_X6_latestHour res 0 0 0 [(0, .ref (7))] [] (C, M) := by
  rw [f_X6_latestHour] at h
  refine J_aload_n dX6_latestHour_0 rfl 0 rfl ?_
  refine J_geti (j := 0) rfl (by decide) (by decide) rfl (by decide) rfl kf_X6_26 dX6_latestHour_1 ?_
  refine J_if_ne 11 dX6_latestHour_4 (by decide) (fun c3 => ?_) (fun c3 => ?_)
  · have h := br_n c3 h
    refine J_aload_n dX6_latestHour_11 rfl 0 rfl ?_
    refine J_getr (j := 4) (t := 19) (r := 11) rfl (by decide) (by decide) rfl (by decide) rfl rfl kf_X6_19 dX6_latestHour_12 ?_
    refine J_aload_n dX6_latestHour_15 rfl 0 rfl ?_
    refine J_geti (j := 0) rfl (by decide) (by decide) rfl (by decide) rfl kf_X6_26 dX6_latestHour_16 ?_
    refine J_iconst 1 dX6_latestHour_19 rfl ?_
    refine J_isub dX6_latestHour_20 ?_
    obtain ⟨u1, h2, h⟩ := br_b h
    refine J_iald rfl (by decide) h2 dX6_latestHour_21 ?_
    have h := Option.some.inj h
    subst h
    exact J_iret rfl rfl rfl (Kr _ rfl) dX6_latestHour_22
  · have h := br_p c3 h
    refine J_iconst 0 dX6_latestHour_7 rfl ?_
    refine J_goto 22 dX6_latestHour_8 (by decide) ?_
    have h := Option.some.inj h
    subst h
    exact J_iret rfl rfl rfl (Kr _ rfl) dX6_latestHour_22
theorem ct_X6_latestHour  {C : aSc} {M : aMm} {v : Int32}  (h : f_X6_latestHour  C = some v) : Ct mi_X6_latestHour yX6_latestHour [.ref (7)] (C, M) (some (.int v), (C, M)) := Ct_of_J (by decide +kernel) rfl (Nat.le_of_ble_eq_true rfl) (jm_X6_latestHour  h (fun _ e => by cases e; rfl))
def mi_X6_append : aMi := (cX6_append, 6, RX6, none, { frames := 0, cells := 0, slots := 0, locals := 0 })
def f_X6_append (x1 : Int32) (x2 : Int32) (x3 : Int32) (x4 : Int32) (x5 : Int32) (C : aSc) : Option (aSc) :=
  (a_st C 8 (a_gi C 7 0) x1).bind fun C1 => (a_st C1 9 (a_gi C1 7 0) x2).bind fun C3 => (a_st C3 10 (a_gi C3 7 0) x3).bind fun C5 => (a_st C5 11 (a_gi C5 7 0) x4).bind fun C7 => (a_st C7 12 (a_gi C7 7 0) (vp_nar .boolean x5)).bind fun C9 => (some (a_pi C9 7 0 ((a_gi C9 7 0) + (1 : Int32)))).bind fun C11 => some C11
set_option maxRecDepth 100000 in
set_option maxHeartbeats 4000000 in
theorem jm_X6_append {x1 : Int32} {x2 : Int32} {x3 : Int32} {x4 : Int32} {x5 : Int32} {C : aSc} {M : aMm}  {res : aRes} {r : aSc} (h : f_X6_append x1 x2 x3 x4 x5 C = some r) (Kr : ∀ (S' : aSc), r = S' → res = (none, (S', M))) : J mi_X6_append res 0 0 0 [(0, .ref (7)), (1, .int (x1)), (2, .int (x2)), (3, .int (x3)), (4, .int (x4)), (5, .int (x5))] [] (C, M) := by
  rw [f_X6_append] at h
  refine J_aload_n dX6_append_0 rfl 0 rfl ?_
  refine J_getr (j := 1) (t := 16) (r := 8) rfl (by decide) (by decide) rfl (by decide) rfl rfl kf_X6_9 dX6_append_1 ?_
  refine J_aload_n dX6_append_4 rfl 0 rfl ?_
  refine J_geti (j := 0) rfl (by decide) (by decide) rfl (by decide) rfl kf_X6_26 dX6_append_5 ?_
  refine J_iload_n dX6_append_8 rfl 1 rfl ?_
  obtain ⟨C1, h2, h⟩ := br_b h
  refine J_iast rfl (by decide) h2 dX6_append_9 ?_
  refine J_aload_n dX6_append_10 rfl 0 rfl ?_
  refine J_getr (j := 2) (t := 17) (r := 9) rfl (by decide) (by decide) rfl (by decide) rfl rfl kf_X6_13 dX6_append_11 ?_
  refine J_aload_n dX6_append_14 rfl 0 rfl ?_
  refine J_geti (j := 0) rfl (by decide) (by decide) rfl (by decide) rfl kf_X6_26 dX6_append_15 ?_
  refine J_iload_n dX6_append_18 rfl 2 rfl ?_
  obtain ⟨C3, h4, h⟩ := br_b h
  refine J_iast rfl (by decide) h4 dX6_append_19 ?_
  refine J_aload_n dX6_append_20 rfl 0 rfl ?_
  refine J_getr (j := 3) (t := 18) (r := 10) rfl (by decide) (by decide) rfl (by decide) rfl rfl kf_X6_16 dX6_append_21 ?_
  refine J_aload_n dX6_append_24 rfl 0 rfl ?_
  refine J_geti (j := 0) rfl (by decide) (by decide) rfl (by decide) rfl kf_X6_26 dX6_append_25 ?_
  refine J_iload_n dX6_append_28 rfl 3 rfl ?_
  obtain ⟨C5, h6, h⟩ := br_b h
  refine J_iast rfl (by decide) h6 dX6_append_29 ?_
  refine J_aload_n dX6_append_30 rfl 0 rfl ?_
  refine J_getr (j := 4) (t := 19) (r := 11) rfl (by decide) (by decide) rfl (by decide) rfl rfl kf_X6_19 dX6_append_31 ?_
  refine J_aload_n dX6_append_34 rfl 0 rfl ?_
  refine J_geti (j := 0) rfl (by decide) (by decide) rfl (by decide) rfl kf_X6_26 dX6_append_35 ?_
  refine J_iload dX6_append_38 4 rfl ?_
  obtain ⟨C7, h8, h⟩ := br_b h
  refine J_iast rfl (by decide) h8 dX6_append_40 ?_
  refine J_aload_n dX6_append_41 rfl 0 rfl ?_
  refine J_getr (j := 5) (t := 20) (r := 12) rfl (by decide) (by decide) rfl (by decide) rfl rfl kf_X6_22 dX6_append_42 ?_
  refine J_aload_n dX6_append_45 rfl 0 rfl ?_
  refine J_geti (j := 0) rfl (by decide) (by decide) rfl (by decide) rfl kf_X6_26 dX6_append_46 ?_
  refine J_iload dX6_append_49 5 rfl ?_
  obtain ⟨C9, h10, h⟩ := br_b h
  refine J_zast rfl (by decide) h10 dX6_append_51 ?_
  refine J_aload_n dX6_append_52 rfl 0 rfl ?_
  refine J_dup dX6_append_53 rfl ?_
  refine J_geti (j := 0) rfl (by decide) (by decide) rfl (by decide) rfl kf_X6_26 dX6_append_54 ?_
  refine J_iconst 1 dX6_append_57 rfl ?_
  refine J_iadd dX6_append_58 ?_
  obtain ⟨C11, e12, h⟩ := br_s h
  refine J_puti (j := 0) rfl (by decide) (by decide) rfl (by decide) rfl rfl rfl kf_X6_26 e12 dX6_append_59 ?_
  have h := Option.some.inj h
  subst h
  exact J_vret rfl rfl rfl (Kr _ rfl) dX6_append_62
theorem ct_X6_append {x1 : Int32} {x2 : Int32} {x3 : Int32} {x4 : Int32} {x5 : Int32} {C : aSc} {M : aMm} {S' : aSc}  (h : f_X6_append x1 x2 x3 x4 x5 C = some S') : Ct mi_X6_append yX6_append [.ref (7), .int (x1), .int (x2), .int (x3), .int (x4), .int (x5)] (C, M) (none, (S', M)) := Ct_of_J (by decide +kernel) rfl (Nat.le_of_ble_eq_true rfl) (jm_X6_append  h (fun _ e => by cases e; rfl))
def mi_X7_word : aMi := (cX7_word, 7, RX7, (some .int), { frames := 3, cells := 0, slots := 0, locals := 66 })
def f_X7_word (x1 : Int32) (x2 : Int32) (x3 : Int32) (x4 : Int32) (C : aSc) : Option (Int32 × aSc) :=
  (f_X7_isLight x1 C).bind fun r2 => if (r2 : Int32) = 0 then bd2 (f_X7_refuse (-100001 : Int32) C) fun r4 C5 => some (r4, C5) else if (x2 : Int32) < 0 then bd2 (f_X7_refuse (-100001 : Int32) C) fun r7 C8 => some (r7, C8) else if ((9999 : Int32) : Int32) < x2 then bd2 (f_X7_refuse (-100001 : Int32) C) fun r10 C11 => some (r10, C11) else (f_X7_isHour x3 C).bind fun r13 => if (r13 : Int32) = 0 then bd2 (f_X7_refuse (-100001 : Int32) C) fun r36 C37 => some (r36, C37) else if ((x2 - x2 / (100 : Int32) * (100 : Int32)) : Int32) < (x2 / (100 : Int32)) then bd2 (f_X7_refuse (-100003 : Int32) C) fun r15 C16 => some (r15, C16) else (f_X6_latestHour  C).bind fun r18 => if (r18 : Int32) ≤ x3 then if ((a_gi C 7 0) : Int32) < (20 : Int32) then bd2 (f_X7_remember (8 : Int32) (0 : Int32) (0 : Int32) C) fun r20 C21 => if 62 ≤ r20 ∧ r20 < 94 ∧ r20 % 2 = 0 then (f_X6_append x1 (x2 / (100 : Int32)) (x2 - x2 / (100 : Int32) * (100 : Int32)) x3 x4 C21).bind fun C25 => some ((a_gi C25 7 0), C25) else none else bd2 (f_X7_refuse (-100005 : Int32) C) fun r27 C28 => some (r27, C28) else bd2 (f_X7_refuse (-100003 : Int32) C) fun r31 C32 => some (r31, C32)
set_option maxRecDepth 100000 in
set_option maxHeartbeats 4000000 in
theorem jm_X7_word {x1 : Int32} {x2 : Int32} {x3 : Int32} {x4 : Int32} {C : aSc} {M : aMm}  {res : aRes} {r : Int32 × aSc} (h : f_X7_word x1 x2 x3 x4 C = some r) (Kr : ∀ (v : Int32) (S' : aSc), r = (v, S') → res = (some (.int v), (S', M))) : J mi_X7_word res 0 0 0 [(0, .ref (0)), (1, .int (x1)), (2, .int (x2)), (3, .int (x3)), (4, .int (x4))] [] (C, M) := by
  rw [f_X7_word] at h
  refine J_aload_n dX7_word_0 rfl 0 rfl ?_
  refine J_iload_n dX7_word_1 rfl 1 rfl ?_
  obtain ⟨r2, h1, h⟩ := br_b h
  refine J_callV (mj := mi_X7_isLight) (as := [.int (x1)]) (rest := []) (ct_X7_isLight (M := M)  h1) ⟨rfl, rfl⟩ rfl rfl (by decide) rfl cg_X7_108 hd_X7_isLight rfl ⟨Nat.le_of_ble_eq_true rfl, Nat.le_of_ble_eq_true rfl⟩ (Nat.le_of_ble_eq_true rfl) ⟨Nat.zero_le _, Nat.zero_le _⟩ dX7_word_2 ?_
  refine J_if_eq 26 dX7_word_5 (by decide) (fun c41 => ?_) (fun c41 => ?_)
  · have h := br_p c41 h
    refine J_aload_n dX7_word_26 rfl 0 rfl ?_
    refine J_ldc (-100001) dX7_word_27 kc_X7_68 ?_
    obtain ⟨r4, C5, h3, h⟩ := br_b2 h
    refine J_callV (mj := mi_X7_refuse) (as := [.int ((-100001 : Int32))]) (rest := []) (ct_X7_refuse (M := M)  h3) ⟨rfl, rfl⟩ rfl rfl (by decide) rfl cg_X7_69 hd_X7_refuse rfl ⟨Nat.le_of_ble_eq_true rfl, Nat.le_of_ble_eq_true rfl⟩ (Nat.le_of_ble_eq_true rfl) ⟨Nat.zero_le _, Nat.zero_le _⟩ dX7_word_29 ?_
    have h := Option.some.inj h
    subst h
    exact J_iret rfl rfl rfl (Kr _ _ rfl) dX7_word_32
  · have h := br_n c41 h
    refine J_iload_n dX7_word_8 rfl 2 rfl ?_
    refine J_if_lt 26 dX7_word_9 (by decide) (fun c40 => ?_) (fun c40 => ?_)
    · have h := br_p c40 h
      refine J_aload_n dX7_word_26 rfl 0 rfl ?_
      refine J_ldc (-100001) dX7_word_27 kc_X7_68 ?_
      obtain ⟨r7, C8, h6, h⟩ := br_b2 h
      refine J_callV (mj := mi_X7_refuse) (as := [.int ((-100001 : Int32))]) (rest := []) (ct_X7_refuse (M := M)  h6) ⟨rfl, rfl⟩ rfl rfl (by decide) rfl cg_X7_69 hd_X7_refuse rfl ⟨Nat.le_of_ble_eq_true rfl, Nat.le_of_ble_eq_true rfl⟩ (Nat.le_of_ble_eq_true rfl) ⟨Nat.zero_le _, Nat.zero_le _⟩ dX7_word_29 ?_
      have h := Option.some.inj h
      subst h
      exact J_iret rfl rfl rfl (Kr _ _ rfl) dX7_word_32
    · have h := br_n c40 h
      refine J_iload_n dX7_word_12 rfl 2 rfl ?_
      refine J_sipush 9999 dX7_word_13 rfl ?_
      refine J_icmp_gt 26 dX7_word_16 (by decide) (fun c39 => ?_) (fun c39 => ?_)
      · have h := br_p c39 h
        refine J_aload_n dX7_word_26 rfl 0 rfl ?_
        refine J_ldc (-100001) dX7_word_27 kc_X7_68 ?_
        obtain ⟨r10, C11, h9, h⟩ := br_b2 h
        refine J_callV (mj := mi_X7_refuse) (as := [.int ((-100001 : Int32))]) (rest := []) (ct_X7_refuse (M := M)  h9) ⟨rfl, rfl⟩ rfl rfl (by decide) rfl cg_X7_69 hd_X7_refuse rfl ⟨Nat.le_of_ble_eq_true rfl, Nat.le_of_ble_eq_true rfl⟩ (Nat.le_of_ble_eq_true rfl) ⟨Nat.zero_le _, Nat.zero_le _⟩ dX7_word_29 ?_
        have h := Option.some.inj h
        subst h
        exact J_iret rfl rfl rfl (Kr _ _ rfl) dX7_word_32
      · have h := br_n c39 h
        refine J_iload_n dX7_word_19 rfl 3 rfl ?_
        obtain ⟨r13, h12, h⟩ := br_b h
        refine J_callS (mj := mi_X7_isHour) (as := [.int (x3)]) (rest := []) (ct_X7_isHour (M := M)  h12) ⟨rfl, rfl⟩ rfl cg_X7_245 hd_X7_isHour rfl ⟨Nat.le_of_ble_eq_true rfl, Nat.le_of_ble_eq_true rfl⟩ (Nat.le_of_ble_eq_true rfl) ⟨Nat.zero_le _, Nat.zero_le _⟩ dX7_word_20 ?_
        refine J_if_ne 33 dX7_word_23 (by decide) (fun c38 => ?_) (fun c38 => ?_)
        · have h := br_n c38 h
          refine J_iload_n dX7_word_33 rfl 2 rfl ?_
          refine J_bipush 100 dX7_word_34 rfl ?_
          refine J_idiv dX7_word_36 (by decide) ?_
          refine J_istore (L' := [(5, .int ((x2 / (100 : Int32)))), (0, .ref (0)), (1, .int (x1)), (2, .int (x2)), (3, .int (x3)), (4, .int (x4))]) dX7_word_37 (by decide) rfl ?_
          refine J_iload_n dX7_word_39 rfl 3 rfl ?_
          refine J_bipush 100 dX7_word_40 rfl ?_
          refine J_irem dX7_word_42 (by decide) ?_
          refine J_istore (L' := [(6, .int ((x2 - x2 / (100 : Int32) * (100 : Int32)))), (5, .int ((x2 / (100 : Int32)))), (0, .ref (0)), (1, .int (x1)), (2, .int (x2)), (3, .int (x3)), (4, .int (x4))]) dX7_word_43 (by decide) rfl ?_
          refine J_iload dX7_word_45 1 rfl ?_
          refine J_iload dX7_word_47 0 rfl ?_
          refine J_icmp_gt 63 dX7_word_49 (by decide) (fun c34 => ?_) (fun c34 => ?_)
          · have h := br_p c34 h
            refine J_aload_n dX7_word_63 rfl 2 rfl ?_
            refine J_ldc (-100003) dX7_word_64 kc_X7_160 ?_
            obtain ⟨r15, C16, h14, h⟩ := br_b2 h
            refine J_callV (mj := mi_X7_refuse) (as := [.int ((-100003 : Int32))]) (rest := []) (ct_X7_refuse (M := M)  h14) ⟨rfl, rfl⟩ rfl rfl (by decide) rfl cg_X7_69 hd_X7_refuse rfl ⟨Nat.le_of_ble_eq_true rfl, Nat.le_of_ble_eq_true rfl⟩ (Nat.le_of_ble_eq_true rfl) ⟨Nat.zero_le _, Nat.zero_le _⟩ dX7_word_66 ?_
            have h := Option.some.inj h
            subst h
            exact J_iret rfl rfl rfl (Kr _ _ rfl) dX7_word_69
          · have h := br_n c34 h
            refine J_iload_n dX7_word_52 rfl 5 rfl ?_
            refine J_aload_n dX7_word_53 rfl 2 rfl ?_
            refine J_getr (j := 10) (t := 15) (r := 7) rfl (by decide) (by decide) rfl (by decide) rfl rfl kf_X7_35 dX7_word_54 ?_
            obtain ⟨r18, h17, h⟩ := br_b h
            refine J_callV (mj := mi_X6_latestHour) (as := []) (rest := [.int (x3)]) (ct_X6_latestHour (M := M)  h17) ⟨rfl, rfl⟩ rfl rfl (by decide) rfl cg_X7_248 hd_X6_latestHour rfl ⟨Nat.le_of_ble_eq_true rfl, Nat.le_of_ble_eq_true rfl⟩ (Nat.le_of_ble_eq_true rfl) ⟨Nat.zero_le _, Nat.zero_le _⟩ dX7_word_57 ?_
            refine J_icmp_ge 70 dX7_word_60 (by decide) (fun c33 => ?_) (fun c33 => ?_)
            · have h := br_p c33 h
              refine J_aload_n dX7_word_70 rfl 2 rfl ?_
              refine J_getr (j := 10) (t := 15) (r := 7) rfl (by decide) (by decide) rfl (by decide) rfl rfl kf_X7_35 dX7_word_71 ?_
              refine J_geti (j := 0) rfl (by decide) (by decide) rfl (by decide) rfl kf_X7_251 dX7_word_74 ?_
              refine J_bipush 20 dX7_word_77 rfl ?_
              refine J_icmp_lt 89 dX7_word_79 (by decide) (fun c29 => ?_) (fun c29 => ?_)
              · have h := br_p c29 h
                refine J_aload_n dX7_word_89 rfl 2 rfl ?_
                refine J_bipush 8 dX7_word_90 rfl ?_
                refine J_iconst 0 dX7_word_92 rfl ?_
                refine J_iconst 0 dX7_word_93 rfl ?_
                obtain ⟨r20, C21, h19, h⟩ := br_b2 h
                obtain ⟨h23, h⟩ := br_g h
                have q22 := a_ckP_is h23
                refine J_callV (mj := mi_X7_remember) (as := [.int ((8 : Int32)), .int ((0 : Int32)), .int ((0 : Int32))]) (rest := []) (ct_X7_remember (M := M)  h19) ⟨rfl, rfl⟩ rfl rfl (by decide) rfl cg_X7_96 hd_X7_remember rfl ⟨Nat.le_of_ble_eq_true rfl, Nat.le_of_ble_eq_true rfl⟩ (Nat.le_of_ble_eq_true rfl) ⟨Nat.zero_le _, Nat.zero_le _⟩ dX7_word_94 ?_
                refine J_pop dX7_word_97 rfl ?_
                refine J_aload_n dX7_word_98 rfl 2 rfl ?_
                refine J_getr (j := 10) (t := 15) (r := 7) rfl (by decide) (by decide) rfl (by decide) rfl rfl kf_X7_35 dX7_word_99 ?_
                refine J_iload_n dX7_word_102 rfl 3 rfl ?_
                refine J_iload dX7_word_103 1 rfl ?_
                refine J_iload dX7_word_105 0 rfl ?_
                refine J_iload_n dX7_word_107 rfl 5 rfl ?_
                refine J_iload dX7_word_108 6 rfl ?_
                obtain ⟨C25, h24, h⟩ := br_b h
                refine J_callV (mj := mi_X6_append) (as := [.int (x1), .int ((x2 / (100 : Int32))), .int ((x2 - x2 / (100 : Int32) * (100 : Int32))), .int (x3), .int (x4)]) (rest := []) (ct_X6_append (M := M)  h24) ⟨rfl, rfl⟩ rfl rfl (by decide) rfl cg_X7_252 hd_X6_append rfl ⟨Nat.le_of_ble_eq_true rfl, Nat.le_of_ble_eq_true rfl⟩ (Nat.le_of_ble_eq_true rfl) ⟨Nat.zero_le _, Nat.zero_le _⟩ dX7_word_110 ?_
                refine J_aload_n dX7_word_113 rfl 2 rfl ?_
                refine J_getr (j := 10) (t := 15) (r := 7) rfl (by decide) (by decide) rfl (by decide) rfl rfl kf_X7_35 dX7_word_114 ?_
                refine J_geti (j := 0) rfl (by decide) (by decide) rfl (by decide) rfl kf_X7_251 dX7_word_117 ?_
                have h := Option.some.inj h
                subst h
                exact J_iret rfl rfl rfl (Kr _ _ rfl) dX7_word_120
              · have h := br_n c29 h
                refine J_aload_n dX7_word_82 rfl 2 rfl ?_
                refine J_ldc (-100005) dX7_word_83 kc_X7_77 ?_
                obtain ⟨r27, C28, h26, h⟩ := br_b2 h
                refine J_callV (mj := mi_X7_refuse) (as := [.int ((-100005 : Int32))]) (rest := []) (ct_X7_refuse (M := M)  h26) ⟨rfl, rfl⟩ rfl rfl (by decide) rfl cg_X7_69 hd_X7_refuse rfl ⟨Nat.le_of_ble_eq_true rfl, Nat.le_of_ble_eq_true rfl⟩ (Nat.le_of_ble_eq_true rfl) ⟨Nat.zero_le _, Nat.zero_le _⟩ dX7_word_85 ?_
                have h := Option.some.inj h
                subst h
                exact J_iret rfl rfl rfl (Kr _ _ rfl) dX7_word_88
            · have h := br_n c33 h
              refine J_aload_n dX7_word_63 rfl 2 rfl ?_
              refine J_ldc (-100003) dX7_word_64 kc_X7_160 ?_
              obtain ⟨r31, C32, h30, h⟩ := br_b2 h
              refine J_callV (mj := mi_X7_refuse) (as := [.int ((-100003 : Int32))]) (rest := []) (ct_X7_refuse (M := M)  h30) ⟨rfl, rfl⟩ rfl rfl (by decide) rfl cg_X7_69 hd_X7_refuse rfl ⟨Nat.le_of_ble_eq_true rfl, Nat.le_of_ble_eq_true rfl⟩ (Nat.le_of_ble_eq_true rfl) ⟨Nat.zero_le _, Nat.zero_le _⟩ dX7_word_66 ?_
              have h := Option.some.inj h
              subst h
              exact J_iret rfl rfl rfl (Kr _ _ rfl) dX7_word_69
        · have h := br_p c38 h
          refine J_aload_n dX7_word_26 rfl 0 rfl ?_
          refine J_ldc (-100001) dX7_word_27 kc_X7_68 ?_
          obtain ⟨r36, C37, h35, h⟩ := br_b2 h
          refine J_callV (mj := mi_X7_refuse) (as := [.int ((-100001 : Int32))]) (rest := []) (ct_X7_refuse (M := M)  h35) ⟨rfl, rfl⟩ rfl rfl (by decide) rfl cg_X7_69 hd_X7_refuse rfl ⟨Nat.le_of_ble_eq_true rfl, Nat.le_of_ble_eq_true rfl⟩ (Nat.le_of_ble_eq_true rfl) ⟨Nat.zero_le _, Nat.zero_le _⟩ dX7_word_29 ?_
          have h := Option.some.inj h
          subst h
          exact J_iret rfl rfl rfl (Kr _ _ rfl) dX7_word_32
theorem ct_X7_word {x1 : Int32} {x2 : Int32} {x3 : Int32} {x4 : Int32} {C : aSc} {M : aMm} {v : Int32} {S' : aSc}  (h : f_X7_word x1 x2 x3 x4 C = some (v, S')) : Ct mi_X7_word yX7_word [.ref (0), .int (x1), .int (x2), .int (x3), .int (x4)] (C, M) (some (.int v), (S', M)) := Ct_of_J (by decide +kernel) rfl (Nat.le_of_ble_eq_true rfl) (jm_X7_word  h (fun _ _ e => by cases e; rfl))
def mi_X7_out : aMi := (cX7_out, 4, RX7, (some .int), { frames := 1, cells := 0, slots := 0, locals := 24 })
def f_X7_out (x1 : Int32) (x2 : Int32) (x3 : Int32) (C : aSc) : Option (Int32 × aSc) :=
  (f_X7_isLight x1 C).bind fun r2 => if (r2 : Int32) = 0 then bd2 (f_X7_refuse (-100001 : Int32) C) fun r4 C5 => some (r4, C5) else if (x2 : Int32) < 0 then bd2 (f_X7_refuse (-100001 : Int32) C) fun r7 C8 => some (r7, C8) else if ((99 : Int32) : Int32) < x2 then bd2 (f_X7_refuse (-100001 : Int32) C) fun r10 C11 => some (r10, C11) else (f_X7_isHour x3 C).bind fun r13 => if (r13 : Int32) = 0 then bd2 (f_X7_refuse (-100001 : Int32) C) fun r18 C19 => some (r18, C19) else (f_X6_tellOut x1 x2 x3 C).bind fun r15 => if (r15 : Int32) = 0 then some ((0 : Int32), C) else some ((1 : Int32), C)
set_option maxRecDepth 100000 in
set_option maxHeartbeats 4000000 in
theorem jm_X7_out {x1 : Int32} {x2 : Int32} {x3 : Int32} {C : aSc} {M : aMm}  {res : aRes} {r : Int32 × aSc} (h : f_X7_out x1 x2 x3 C = some r) (Kr : ∀ (v : Int32) (S' : aSc), r = (v, S') → res = (some (.int v), (S', M))) : J mi_X7_out res 0 0 0 [(0, .ref (0)), (1, .int (x1)), (2, .int (x2)), (3, .int (x3))] [] (C, M) := by
  rw [f_X7_out] at h
  refine J_aload_n dX7_out_0 rfl 0 rfl ?_
  refine J_iload_n dX7_out_1 rfl 1 rfl ?_
  obtain ⟨r2, h1, h⟩ := br_b h
  refine J_callV (mj := mi_X7_isLight) (as := [.int (x1)]) (rest := []) (ct_X7_isLight (M := M)  h1) ⟨rfl, rfl⟩ rfl rfl (by decide) rfl cg_X7_108 hd_X7_isLight rfl ⟨Nat.le_of_ble_eq_true rfl, Nat.le_of_ble_eq_true rfl⟩ (Nat.le_of_ble_eq_true rfl) ⟨Nat.zero_le _, Nat.zero_le _⟩ dX7_out_2 ?_
  refine J_if_eq 25 dX7_out_5 (by decide) (fun c23 => ?_) (fun c23 => ?_)
  · have h := br_p c23 h
    refine J_aload_n dX7_out_25 rfl 0 rfl ?_
    refine J_ldc (-100001) dX7_out_26 kc_X7_68 ?_
    obtain ⟨r4, C5, h3, h⟩ := br_b2 h
    refine J_callV (mj := mi_X7_refuse) (as := [.int ((-100001 : Int32))]) (rest := []) (ct_X7_refuse (M := M)  h3) ⟨rfl, rfl⟩ rfl rfl (by decide) rfl cg_X7_69 hd_X7_refuse rfl ⟨Nat.le_of_ble_eq_true rfl, Nat.le_of_ble_eq_true rfl⟩ (Nat.le_of_ble_eq_true rfl) ⟨Nat.zero_le _, Nat.zero_le _⟩ dX7_out_28 ?_
    have h := Option.some.inj h
    subst h
    exact J_iret rfl rfl rfl (Kr _ _ rfl) dX7_out_31
  · have h := br_n c23 h
    refine J_iload_n dX7_out_8 rfl 2 rfl ?_
    refine J_if_lt 25 dX7_out_9 (by decide) (fun c22 => ?_) (fun c22 => ?_)
    · have h := br_p c22 h
      refine J_aload_n dX7_out_25 rfl 0 rfl ?_
      refine J_ldc (-100001) dX7_out_26 kc_X7_68 ?_
      obtain ⟨r7, C8, h6, h⟩ := br_b2 h
      refine J_callV (mj := mi_X7_refuse) (as := [.int ((-100001 : Int32))]) (rest := []) (ct_X7_refuse (M := M)  h6) ⟨rfl, rfl⟩ rfl rfl (by decide) rfl cg_X7_69 hd_X7_refuse rfl ⟨Nat.le_of_ble_eq_true rfl, Nat.le_of_ble_eq_true rfl⟩ (Nat.le_of_ble_eq_true rfl) ⟨Nat.zero_le _, Nat.zero_le _⟩ dX7_out_28 ?_
      have h := Option.some.inj h
      subst h
      exact J_iret rfl rfl rfl (Kr _ _ rfl) dX7_out_31
    · have h := br_n c22 h
      refine J_iload_n dX7_out_12 rfl 2 rfl ?_
      refine J_bipush 99 dX7_out_13 rfl ?_
      refine J_icmp_gt 25 dX7_out_15 (by decide) (fun c21 => ?_) (fun c21 => ?_)
      · have h := br_p c21 h
        refine J_aload_n dX7_out_25 rfl 0 rfl ?_
        refine J_ldc (-100001) dX7_out_26 kc_X7_68 ?_
        obtain ⟨r10, C11, h9, h⟩ := br_b2 h
        refine J_callV (mj := mi_X7_refuse) (as := [.int ((-100001 : Int32))]) (rest := []) (ct_X7_refuse (M := M)  h9) ⟨rfl, rfl⟩ rfl rfl (by decide) rfl cg_X7_69 hd_X7_refuse rfl ⟨Nat.le_of_ble_eq_true rfl, Nat.le_of_ble_eq_true rfl⟩ (Nat.le_of_ble_eq_true rfl) ⟨Nat.zero_le _, Nat.zero_le _⟩ dX7_out_28 ?_
        have h := Option.some.inj h
        subst h
        exact J_iret rfl rfl rfl (Kr _ _ rfl) dX7_out_31
      · have h := br_n c21 h
        refine J_iload_n dX7_out_18 rfl 3 rfl ?_
        obtain ⟨r13, h12, h⟩ := br_b h
        refine J_callS (mj := mi_X7_isHour) (as := [.int (x3)]) (rest := []) (ct_X7_isHour (M := M)  h12) ⟨rfl, rfl⟩ rfl cg_X7_245 hd_X7_isHour rfl ⟨Nat.le_of_ble_eq_true rfl, Nat.le_of_ble_eq_true rfl⟩ (Nat.le_of_ble_eq_true rfl) ⟨Nat.zero_le _, Nat.zero_le _⟩ dX7_out_19 ?_
        refine J_if_ne 32 dX7_out_22 (by decide) (fun c20 => ?_) (fun c20 => ?_)
        · have h := br_n c20 h
          refine J_aload_n dX7_out_32 rfl 0 rfl ?_
          refine J_getr (j := 10) (t := 15) (r := 7) rfl (by decide) (by decide) rfl (by decide) rfl rfl kf_X7_35 dX7_out_33 ?_
          refine J_iload_n dX7_out_36 rfl 1 rfl ?_
          refine J_iload_n dX7_out_37 rfl 2 rfl ?_
          refine J_iload_n dX7_out_38 rfl 3 rfl ?_
          obtain ⟨r15, h14, h⟩ := br_b h
          refine J_callV (mj := mi_X6_tellOut) (as := [.int (x1), .int (x2), .int (x3)]) (rest := []) (ct_X6_tellOut (M := M)  h14) ⟨rfl, rfl⟩ rfl rfl (by decide) rfl cg_X7_255 hd_X6_tellOut rfl ⟨Nat.le_of_ble_eq_true rfl, Nat.le_of_ble_eq_true rfl⟩ (Nat.le_of_ble_eq_true rfl) ⟨Nat.zero_le _, Nat.zero_le _⟩ dX7_out_39 ?_
          refine J_if_eq 49 dX7_out_42 (by decide) (fun c16 => ?_) (fun c16 => ?_)
          · have h := br_p c16 h
            refine J_iconst 0 dX7_out_49 rfl ?_
            have h := Option.some.inj h
            subst h
            exact J_iret rfl rfl rfl (Kr _ _ rfl) dX7_out_50
          · have h := br_n c16 h
            refine J_iconst 1 dX7_out_45 rfl ?_
            refine J_goto 50 dX7_out_46 (by decide) ?_
            have h := Option.some.inj h
            subst h
            exact J_iret rfl rfl rfl (Kr _ _ rfl) dX7_out_50
        · have h := br_p c20 h
          refine J_aload_n dX7_out_25 rfl 0 rfl ?_
          refine J_ldc (-100001) dX7_out_26 kc_X7_68 ?_
          obtain ⟨r18, C19, h17, h⟩ := br_b2 h
          refine J_callV (mj := mi_X7_refuse) (as := [.int ((-100001 : Int32))]) (rest := []) (ct_X7_refuse (M := M)  h17) ⟨rfl, rfl⟩ rfl rfl (by decide) rfl cg_X7_69 hd_X7_refuse rfl ⟨Nat.le_of_ble_eq_true rfl, Nat.le_of_ble_eq_true rfl⟩ (Nat.le_of_ble_eq_true rfl) ⟨Nat.zero_le _, Nat.zero_le _⟩ dX7_out_28 ?_
          have h := Option.some.inj h
          subst h
          exact J_iret rfl rfl rfl (Kr _ _ rfl) dX7_out_31
theorem ct_X7_out {x1 : Int32} {x2 : Int32} {x3 : Int32} {C : aSc} {M : aMm} {v : Int32} {S' : aSc}  (h : f_X7_out x1 x2 x3 C = some (v, S')) : Ct mi_X7_out yX7_out [.ref (0), .int (x1), .int (x2), .int (x3)] (C, M) (some (.int v), (S', M)) := Ct_of_J (by decide +kernel) rfl (Nat.le_of_ble_eq_true rfl) (jm_X7_out  h (fun _ _ e => by cases e; rfl))
def mi_X1_isRock : aMi := (cX1_isRock, 1, RX1, (some .boolean), { frames := 0, cells := 0, slots := 0, locals := 0 })
def f_X1_isRock (x0 : Nat) (C : aSc) : Option (Int32) :=
  if ((a_gi C x0 0) : Int32) = (1 : Int32) then some (1 : Int32) else if ((a_gi C x0 0) : Int32) = (3 : Int32) then some (1 : Int32) else some (0 : Int32)
set_option maxRecDepth 100000 in
set_option maxHeartbeats 4000000 in
theorem jm_X1_isRock {x0 : Nat} {C : aSc} {M : aMm} (qx0 : isL x0) {res : aRes} {r : Int32} (h : f_X1_isRock x0 C = some r) (Kr : ∀ (v : Int32), r = v → res = (some (.int v), (C, M))) : J mi_X1_isRock res 0 0 0 [(0, .ref (x0))] [] (C, M) := by
  rw [f_X1_isRock] at h
  refine J_aload_n dX1_isRock_0 rfl 0 rfl ?_
  refine J_geti (j := 0) qx0.1 qx0.2.1 (by decide) rfl (by decide) rfl kf_X1_19 dX1_isRock_1 ?_
  refine J_iconst 1 dX1_isRock_4 rfl ?_
  refine J_icmp_eq 16 dX1_isRock_5 (by decide) (fun c2 => ?_) (fun c2 => ?_)
  · have h := br_p c2 h
    refine J_iconst 1 dX1_isRock_16 rfl ?_
    refine J_goto 21 dX1_isRock_17 (by decide) ?_
    have h := Option.some.inj h
    subst h
    exact J_zret (Or.inr rfl) rfl rfl rfl (Kr _ rfl) dX1_isRock_21
  · have h := br_n c2 h
    refine J_aload_n dX1_isRock_8 rfl 0 rfl ?_
    refine J_geti (j := 0) qx0.1 qx0.2.1 (by decide) rfl (by decide) rfl kf_X1_19 dX1_isRock_9 ?_
    refine J_iconst 3 dX1_isRock_12 rfl ?_
    refine J_icmp_ne 20 dX1_isRock_13 (by decide) (fun c1 => ?_) (fun c1 => ?_)
    · have h := br_n c1 h
      refine J_iconst 0 dX1_isRock_20 rfl ?_
      have h := Option.some.inj h
      subst h
      exact J_zret (Or.inl rfl) rfl rfl rfl (Kr _ rfl) dX1_isRock_21
    · have h := br_p c1 h
      refine J_iconst 1 dX1_isRock_16 rfl ?_
      refine J_goto 21 dX1_isRock_17 (by decide) ?_
      have h := Option.some.inj h
      subst h
      exact J_zret (Or.inr rfl) rfl rfl rfl (Kr _ rfl) dX1_isRock_21
theorem ct_X1_isRock {x0 : Nat} {C : aSc} {M : aMm} {v : Int32} (qx0 : isL x0) (h : f_X1_isRock x0 C = some v) : Ct mi_X1_isRock yX1_isRock [.ref (x0)] (C, M) (some (.int v), (C, M)) := Ct_of_J (by decide +kernel) rfl (Nat.le_of_ble_eq_true rfl) (jm_X1_isRock qx0 h (fun _ e => by cases e; rfl))
def mi_X7_keeper : aMi := (cX7_keeper, 5, RX7, (some .int), { frames := 3, cells := 0, slots := 0, locals := 66 })
def f_X7_keeper (x1 : Int32) (x2 : Int32) (C : aSc) : Option (Int32 × aSc) :=
  (f_X7_isLight x1 C).bind fun r2 => if (r2 : Int32) = 0 then bd2 (f_X7_refuse (-100001 : Int32) C) fun r4 C5 => some (r4, C5) else (f_X7_isDay x2 C).bind fun r7 => if (r7 : Int32) = 0 then bd2 (f_X7_refuse (-100001 : Int32) C) fun r25 C26 => some (r25, C26) else (a_rf 24 3 10 x1).bind fun c8 => (f_X1_isRock c8 C).bind fun r12 => if (r12 : Int32) = 0 then bd2 (f_X7_refuse (-100004 : Int32) C) fun r21 C22 => some (r21, C22) else bd2 (f_X7_remember (9 : Int32) x1 (a_gi C c8 10) C) fun r14 C15 => if 62 ≤ r14 ∧ r14 < 94 ∧ r14 % 2 = 0 then (some (a_pi C15 c8 10 x2)).bind fun C18 => some ((a_gi C c8 10), C18) else none
set_option maxRecDepth 100000 in
set_option maxHeartbeats 4000000 in
theorem jm_X7_keeper {x1 : Int32} {x2 : Int32} {C : aSc} {M : aMm}  {res : aRes} {r : Int32 × aSc} (h : f_X7_keeper x1 x2 C = some r) (Kr : ∀ (v : Int32) (S' : aSc), r = (v, S') → res = (some (.int v), (S', M))) : J mi_X7_keeper res 0 0 0 [(0, .ref (0)), (1, .int (x1)), (2, .int (x2))] [] (C, M) := by
  rw [f_X7_keeper] at h
  refine J_aload_n dX7_keeper_0 rfl 0 rfl ?_
  refine J_iload_n dX7_keeper_1 rfl 1 rfl ?_
  obtain ⟨r2, h1, h⟩ := br_b h
  refine J_callV (mj := mi_X7_isLight) (as := [.int (x1)]) (rest := []) (ct_X7_isLight (M := M)  h1) ⟨rfl, rfl⟩ rfl rfl (by decide) rfl cg_X7_108 hd_X7_isLight rfl ⟨Nat.le_of_ble_eq_true rfl, Nat.le_of_ble_eq_true rfl⟩ (Nat.le_of_ble_eq_true rfl) ⟨Nat.zero_le _, Nat.zero_le _⟩ dX7_keeper_2 ?_
  refine J_if_eq 15 dX7_keeper_5 (by decide) (fun c28 => ?_) (fun c28 => ?_)
  · have h := br_p c28 h
    refine J_aload_n dX7_keeper_15 rfl 0 rfl ?_
    refine J_ldc (-100001) dX7_keeper_16 kc_X7_68 ?_
    obtain ⟨r4, C5, h3, h⟩ := br_b2 h
    refine J_callV (mj := mi_X7_refuse) (as := [.int ((-100001 : Int32))]) (rest := []) (ct_X7_refuse (M := M)  h3) ⟨rfl, rfl⟩ rfl rfl (by decide) rfl cg_X7_69 hd_X7_refuse rfl ⟨Nat.le_of_ble_eq_true rfl, Nat.le_of_ble_eq_true rfl⟩ (Nat.le_of_ble_eq_true rfl) ⟨Nat.zero_le _, Nat.zero_le _⟩ dX7_keeper_18 ?_
    have h := Option.some.inj h
    subst h
    exact J_iret rfl rfl rfl (Kr _ _ rfl) dX7_keeper_21
  · have h := br_n c28 h
    refine J_iload_n dX7_keeper_8 rfl 2 rfl ?_
    obtain ⟨r7, h6, h⟩ := br_b h
    refine J_callS (mj := mi_X7_isDay) (as := [.int (x2)]) (rest := []) (ct_X7_isDay (M := M)  h6) ⟨rfl, rfl⟩ rfl cg_X7_174 hd_X7_isDay rfl ⟨Nat.le_of_ble_eq_true rfl, Nat.le_of_ble_eq_true rfl⟩ (Nat.le_of_ble_eq_true rfl) ⟨Nat.zero_le _, Nat.zero_le _⟩ dX7_keeper_9 ?_
    refine J_if_ne 22 dX7_keeper_12 (by decide) (fun c27 => ?_) (fun c27 => ?_)
    · have h := br_n c27 h
      refine J_aload_n dX7_keeper_22 rfl 0 rfl ?_
      refine J_getr (j := 1) (t := 11) (r := 3) rfl (by decide) (by decide) rfl (by decide) rfl rfl kf_X7_18 dX7_keeper_23 ?_
      refine J_iload_n dX7_keeper_26 rfl 1 rfl ?_
      obtain ⟨c8, h9, h⟩ := br_b h
      have q10 := a_rfL h9
      refine J_aaldL h9 dX7_keeper_27 ?_
      refine J_astore_n (L' := [(3, .ref (c8)), (0, .ref (0)), (1, .int (x1)), (2, .int (x2))]) dX7_keeper_28 rfl (by decide) rfl ?_
      refine J_aload_n dX7_keeper_29 rfl 0 rfl ?_
      obtain ⟨r12, h11, h⟩ := br_b h
      refine J_callV (mj := mi_X1_isRock) (as := []) (rest := []) (ct_X1_isRock (M := M) q10 h11) ⟨rfl, rfl⟩ rfl q10.1 (by decide) rfl cg_X7_259 hd_X1_isRock rfl ⟨Nat.le_of_ble_eq_true rfl, Nat.le_of_ble_eq_true rfl⟩ (Nat.le_of_ble_eq_true rfl) ⟨Nat.zero_le _, Nat.zero_le _⟩ dX7_keeper_30 ?_
      refine J_if_ne 43 dX7_keeper_33 (by decide) (fun c23 => ?_) (fun c23 => ?_)
      · have h := br_n c23 h
        refine J_aload_n dX7_keeper_43 rfl 0 rfl ?_
        refine J_geti (j := 10) q10.1 q10.2.1 (by decide) rfl (by decide) rfl kf_X7_263 dX7_keeper_44 ?_
        refine J_istore (L' := [(4, .int ((a_gi C c8 10))), (3, .ref (c8)), (0, .ref (0)), (1, .int (x1)), (2, .int (x2))]) dX7_keeper_47 (by decide) rfl ?_
        refine J_aload_n dX7_keeper_49 rfl 2 rfl ?_
        refine J_bipush 9 dX7_keeper_50 rfl ?_
        refine J_iload_n dX7_keeper_52 rfl 3 rfl ?_
        refine J_iload dX7_keeper_53 0 rfl ?_
        obtain ⟨r14, C15, h13, h⟩ := br_b2 h
        obtain ⟨h17, h⟩ := br_g h
        have q16 := a_ckP_is h17
        refine J_callV (mj := mi_X7_remember) (as := [.int ((9 : Int32)), .int (x1), .int ((a_gi C c8 10))]) (rest := []) (ct_X7_remember (M := M)  h13) ⟨rfl, rfl⟩ rfl rfl (by decide) rfl cg_X7_96 hd_X7_remember rfl ⟨Nat.le_of_ble_eq_true rfl, Nat.le_of_ble_eq_true rfl⟩ (Nat.le_of_ble_eq_true rfl) ⟨Nat.zero_le _, Nat.zero_le _⟩ dX7_keeper_55 ?_
        refine J_pop dX7_keeper_58 rfl ?_
        refine J_aload_n dX7_keeper_59 rfl 1 rfl ?_
        refine J_iload_n dX7_keeper_60 rfl 4 rfl ?_
        obtain ⟨C18, e19, h⟩ := br_s h
        refine J_puti (j := 10) q10.1 q10.2.1 (by decide) rfl (by decide) rfl rfl rfl kf_X7_263 e19 dX7_keeper_61 ?_
        refine J_iload dX7_keeper_64 0 rfl ?_
        have h := Option.some.inj h
        subst h
        exact J_iret rfl rfl rfl (Kr _ _ rfl) dX7_keeper_66
      · have h := br_p c23 h
        refine J_aload_n dX7_keeper_36 rfl 1 rfl ?_
        refine J_ldc (-100004) dX7_keeper_37 kc_X7_118 ?_
        obtain ⟨r21, C22, h20, h⟩ := br_b2 h
        refine J_callV (mj := mi_X7_refuse) (as := [.int ((-100004 : Int32))]) (rest := []) (ct_X7_refuse (M := M)  h20) ⟨rfl, rfl⟩ rfl rfl (by decide) rfl cg_X7_69 hd_X7_refuse rfl ⟨Nat.le_of_ble_eq_true rfl, Nat.le_of_ble_eq_true rfl⟩ (Nat.le_of_ble_eq_true rfl) ⟨Nat.zero_le _, Nat.zero_le _⟩ dX7_keeper_39 ?_
        have h := Option.some.inj h
        subst h
        exact J_iret rfl rfl rfl (Kr _ _ rfl) dX7_keeper_42
    · have h := br_p c27 h
      refine J_aload_n dX7_keeper_15 rfl 0 rfl ?_
      refine J_ldc (-100001) dX7_keeper_16 kc_X7_68 ?_
      obtain ⟨r25, C26, h24, h⟩ := br_b2 h
      refine J_callV (mj := mi_X7_refuse) (as := [.int ((-100001 : Int32))]) (rest := []) (ct_X7_refuse (M := M)  h24) ⟨rfl, rfl⟩ rfl rfl (by decide) rfl cg_X7_69 hd_X7_refuse rfl ⟨Nat.le_of_ble_eq_true rfl, Nat.le_of_ble_eq_true rfl⟩ (Nat.le_of_ble_eq_true rfl) ⟨Nat.zero_le _, Nat.zero_le _⟩ dX7_keeper_18 ?_
      have h := Option.some.inj h
      subst h
      exact J_iret rfl rfl rfl (Kr _ _ rfl) dX7_keeper_21
theorem ct_X7_keeper {x1 : Int32} {x2 : Int32} {C : aSc} {M : aMm} {v : Int32} {S' : aSc}  (h : f_X7_keeper x1 x2 C = some (v, S')) : Ct mi_X7_keeper yX7_keeper [.ref (0), .int (x1), .int (x2)] (C, M) (some (.int v), (S', M)) := Ct_of_J (by decide +kernel) rfl (Nat.le_of_ble_eq_true rfl) (jm_X7_keeper  h (fun _ _ e => by cases e; rfl))
def mi_X7_limit : aMi := (cX7_limit, 5, RX7, (some .int), { frames := 3, cells := 0, slots := 0, locals := 66 })
def f_X7_limit (x1 : Int32) (x2 : Int32) (C : aSc) : Option (Int32 × aSc) :=
  (f_X7_isLight x1 C).bind fun r2 => if (r2 : Int32) = 0 then bd2 (f_X7_refuse (-100001 : Int32) C) fun r4 C5 => some (r4, C5) else if (x2 : Int32) < 0 then bd2 (f_X7_refuse (-100001 : Int32) C) fun r7 C8 => some (r7, C8) else if (x2 : Int32) ≤ (9 : Int32) then (a_rf 24 3 10 x1).bind fun c9 => (f_X1_isRock c9 C).bind fun r13 => if (r13 : Int32) = 0 then bd2 (f_X7_refuse (-100004 : Int32) C) fun r22 C23 => some (r22, C23) else bd2 (f_X7_remember (10 : Int32) x1 (a_gi C c9 11) C) fun r15 C16 => if 62 ≤ r15 ∧ r15 < 94 ∧ r15 % 2 = 0 then (some (a_pi C16 c9 11 x2)).bind fun C19 => some ((a_gi C c9 11), C19) else none else bd2 (f_X7_refuse (-100001 : Int32) C) fun r26 C27 => some (r26, C27)
set_option maxRecDepth 100000 in
set_option maxHeartbeats 4000000 in
theorem jm_X7_limit {x1 : Int32} {x2 : Int32} {C : aSc} {M : aMm}  {res : aRes} {r : Int32 × aSc} (h : f_X7_limit x1 x2 C = some r) (Kr : ∀ (v : Int32) (S' : aSc), r = (v, S') → res = (some (.int v), (S', M))) : J mi_X7_limit res 0 0 0 [(0, .ref (0)), (1, .int (x1)), (2, .int (x2))] [] (C, M) := by
  rw [f_X7_limit] at h
  refine J_aload_n dX7_limit_0 rfl 0 rfl ?_
  refine J_iload_n dX7_limit_1 rfl 1 rfl ?_
  obtain ⟨r2, h1, h⟩ := br_b h
  refine J_callV (mj := mi_X7_isLight) (as := [.int (x1)]) (rest := []) (ct_X7_isLight (M := M)  h1) ⟨rfl, rfl⟩ rfl rfl (by decide) rfl cg_X7_108 hd_X7_isLight rfl ⟨Nat.le_of_ble_eq_true rfl, Nat.le_of_ble_eq_true rfl⟩ (Nat.le_of_ble_eq_true rfl) ⟨Nat.zero_le _, Nat.zero_le _⟩ dX7_limit_2 ?_
  refine J_if_eq 18 dX7_limit_5 (by decide) (fun c30 => ?_) (fun c30 => ?_)
  · have h := br_p c30 h
    refine J_aload_n dX7_limit_18 rfl 0 rfl ?_
    refine J_ldc (-100001) dX7_limit_19 kc_X7_68 ?_
    obtain ⟨r4, C5, h3, h⟩ := br_b2 h
    refine J_callV (mj := mi_X7_refuse) (as := [.int ((-100001 : Int32))]) (rest := []) (ct_X7_refuse (M := M)  h3) ⟨rfl, rfl⟩ rfl rfl (by decide) rfl cg_X7_69 hd_X7_refuse rfl ⟨Nat.le_of_ble_eq_true rfl, Nat.le_of_ble_eq_true rfl⟩ (Nat.le_of_ble_eq_true rfl) ⟨Nat.zero_le _, Nat.zero_le _⟩ dX7_limit_21 ?_
    have h := Option.some.inj h
    subst h
    exact J_iret rfl rfl rfl (Kr _ _ rfl) dX7_limit_24
  · have h := br_n c30 h
    refine J_iload_n dX7_limit_8 rfl 2 rfl ?_
    refine J_if_lt 18 dX7_limit_9 (by decide) (fun c29 => ?_) (fun c29 => ?_)
    · have h := br_p c29 h
      refine J_aload_n dX7_limit_18 rfl 0 rfl ?_
      refine J_ldc (-100001) dX7_limit_19 kc_X7_68 ?_
      obtain ⟨r7, C8, h6, h⟩ := br_b2 h
      refine J_callV (mj := mi_X7_refuse) (as := [.int ((-100001 : Int32))]) (rest := []) (ct_X7_refuse (M := M)  h6) ⟨rfl, rfl⟩ rfl rfl (by decide) rfl cg_X7_69 hd_X7_refuse rfl ⟨Nat.le_of_ble_eq_true rfl, Nat.le_of_ble_eq_true rfl⟩ (Nat.le_of_ble_eq_true rfl) ⟨Nat.zero_le _, Nat.zero_le _⟩ dX7_limit_21 ?_
      have h := Option.some.inj h
      subst h
      exact J_iret rfl rfl rfl (Kr _ _ rfl) dX7_limit_24
    · have h := br_n c29 h
      refine J_iload_n dX7_limit_12 rfl 2 rfl ?_
      refine J_bipush 9 dX7_limit_13 rfl ?_
      refine J_icmp_le 25 dX7_limit_15 (by decide) (fun c28 => ?_) (fun c28 => ?_)
      · have h := br_p c28 h
        refine J_aload_n dX7_limit_25 rfl 0 rfl ?_
        refine J_getr (j := 1) (t := 11) (r := 3) rfl (by decide) (by decide) rfl (by decide) rfl rfl kf_X7_18 dX7_limit_26 ?_
        refine J_iload_n dX7_limit_29 rfl 1 rfl ?_
        obtain ⟨c9, h10, h⟩ := br_b h
        have q11 := a_rfL h10
        refine J_aaldL h10 dX7_limit_30 ?_
        refine J_astore_n (L' := [(3, .ref (c9)), (0, .ref (0)), (1, .int (x1)), (2, .int (x2))]) dX7_limit_31 rfl (by decide) rfl ?_
        refine J_aload_n dX7_limit_32 rfl 0 rfl ?_
        obtain ⟨r13, h12, h⟩ := br_b h
        refine J_callV (mj := mi_X1_isRock) (as := []) (rest := []) (ct_X1_isRock (M := M) q11 h12) ⟨rfl, rfl⟩ rfl q11.1 (by decide) rfl cg_X7_259 hd_X1_isRock rfl ⟨Nat.le_of_ble_eq_true rfl, Nat.le_of_ble_eq_true rfl⟩ (Nat.le_of_ble_eq_true rfl) ⟨Nat.zero_le _, Nat.zero_le _⟩ dX7_limit_33 ?_
        refine J_if_ne 46 dX7_limit_36 (by decide) (fun c24 => ?_) (fun c24 => ?_)
        · have h := br_n c24 h
          refine J_aload_n dX7_limit_46 rfl 0 rfl ?_
          refine J_geti (j := 11) q11.1 q11.2.1 (by decide) rfl (by decide) rfl kf_X7_266 dX7_limit_47 ?_
          refine J_istore (L' := [(4, .int ((a_gi C c9 11))), (3, .ref (c9)), (0, .ref (0)), (1, .int (x1)), (2, .int (x2))]) dX7_limit_50 (by decide) rfl ?_
          refine J_aload_n dX7_limit_52 rfl 2 rfl ?_
          refine J_bipush 10 dX7_limit_53 rfl ?_
          refine J_iload_n dX7_limit_55 rfl 3 rfl ?_
          refine J_iload dX7_limit_56 0 rfl ?_
          obtain ⟨r15, C16, h14, h⟩ := br_b2 h
          obtain ⟨h18, h⟩ := br_g h
          have q17 := a_ckP_is h18
          refine J_callV (mj := mi_X7_remember) (as := [.int ((10 : Int32)), .int (x1), .int ((a_gi C c9 11))]) (rest := []) (ct_X7_remember (M := M)  h14) ⟨rfl, rfl⟩ rfl rfl (by decide) rfl cg_X7_96 hd_X7_remember rfl ⟨Nat.le_of_ble_eq_true rfl, Nat.le_of_ble_eq_true rfl⟩ (Nat.le_of_ble_eq_true rfl) ⟨Nat.zero_le _, Nat.zero_le _⟩ dX7_limit_58 ?_
          refine J_pop dX7_limit_61 rfl ?_
          refine J_aload_n dX7_limit_62 rfl 1 rfl ?_
          refine J_iload_n dX7_limit_63 rfl 4 rfl ?_
          obtain ⟨C19, e20, h⟩ := br_s h
          refine J_puti (j := 11) q11.1 q11.2.1 (by decide) rfl (by decide) rfl rfl rfl kf_X7_266 e20 dX7_limit_64 ?_
          refine J_iload dX7_limit_67 0 rfl ?_
          have h := Option.some.inj h
          subst h
          exact J_iret rfl rfl rfl (Kr _ _ rfl) dX7_limit_69
        · have h := br_p c24 h
          refine J_aload_n dX7_limit_39 rfl 1 rfl ?_
          refine J_ldc (-100004) dX7_limit_40 kc_X7_118 ?_
          obtain ⟨r22, C23, h21, h⟩ := br_b2 h
          refine J_callV (mj := mi_X7_refuse) (as := [.int ((-100004 : Int32))]) (rest := []) (ct_X7_refuse (M := M)  h21) ⟨rfl, rfl⟩ rfl rfl (by decide) rfl cg_X7_69 hd_X7_refuse rfl ⟨Nat.le_of_ble_eq_true rfl, Nat.le_of_ble_eq_true rfl⟩ (Nat.le_of_ble_eq_true rfl) ⟨Nat.zero_le _, Nat.zero_le _⟩ dX7_limit_42 ?_
          have h := Option.some.inj h
          subst h
          exact J_iret rfl rfl rfl (Kr _ _ rfl) dX7_limit_45
      · have h := br_n c28 h
        refine J_aload_n dX7_limit_18 rfl 0 rfl ?_
        refine J_ldc (-100001) dX7_limit_19 kc_X7_68 ?_
        obtain ⟨r26, C27, h25, h⟩ := br_b2 h
        refine J_callV (mj := mi_X7_refuse) (as := [.int ((-100001 : Int32))]) (rest := []) (ct_X7_refuse (M := M)  h25) ⟨rfl, rfl⟩ rfl rfl (by decide) rfl cg_X7_69 hd_X7_refuse rfl ⟨Nat.le_of_ble_eq_true rfl, Nat.le_of_ble_eq_true rfl⟩ (Nat.le_of_ble_eq_true rfl) ⟨Nat.zero_le _, Nat.zero_le _⟩ dX7_limit_21 ?_
        have h := Option.some.inj h
        subst h
        exact J_iret rfl rfl rfl (Kr _ _ rfl) dX7_limit_24
theorem ct_X7_limit {x1 : Int32} {x2 : Int32} {C : aSc} {M : aMm} {v : Int32} {S' : aSc}  (h : f_X7_limit x1 x2 C = some (v, S')) : Ct mi_X7_limit yX7_limit [.ref (0), .int (x1), .int (x2)] (C, M) (some (.int v), (S', M)) := Ct_of_J (by decide +kernel) rfl (Nat.le_of_ble_eq_true rfl) (jm_X7_limit  h (fun _ _ e => by cases e; rfl))
def mi_X7_seas : aMi := (cX7_seas, 7, RX7, (some .int), { frames := 3, cells := 0, slots := 0, locals := 66 })
def b_X7_seas_65 (x2 : Nat) (x4 : Int32) (x5 : Int32) (C : aSc) : Option ((Int32 × Int32 × aSc) ⊕ (Int32 × aSc)) :=
  if ((a_gi C x2 1) : Int32) ≤ x5 then some (.inr (x4, C)) else if ((20 : Int32) : Int32) ≤ x5 then some (.inr (x4, C)) else (a_ld C (x2 + 1) x5).bind fun u13 => if (u13 : Int32) < 0 then some (.inl (x4, (x5 + (1 : Int32)), C)) else if ((9 : Int32) : Int32) < u13 then some (.inl (x4, (x5 + (1 : Int32)), C)) else (a_st C 13 x5 u13).bind fun C15 => some (.inl ((x4 + (1 : Int32)), (x5 + (1 : Int32)), C15))
set_option maxRecDepth 100000 in
set_option maxHeartbeats 4000000 in
theorem jl_X7_seas_65 {x2 : Nat} {M : aMm} (qx2 : isS x2) {res : aRes} {r : Int32 × aSc} : ∀ (n : Nat) (x4 : Int32) (x5 : Int32) (C : aSc), lpf (fun a : Int32 × Int32 × aSc => b_X7_seas_65 (x2) a.1 a.2.1 a.2.2) n (x4, x5, C) = some r → (∀ (z4 : Int32) (S2 : aSc), r = (z4, S2) → J mi_X7_seas res 0 0 120 [(4, .int (z4))] [] (S2, M)) → J mi_X7_seas res 0 0 65 [(0, .ref (0)), (2, .ref (x2)), (4, .int (x4)), (5, .int (x5))] [] (C, M) := by
  intro n
  induction n with
  | zero =>
    intro x4 x5 C h
    cases h
  | succ n ih =>
    intro x4 x5 C h Kx
    obtain ⟨r0, h, h2⟩ := br_b h
    have h : b_X7_seas_65 x2 x4 x5 C = some r0 := h
    rw [b_X7_seas_65] at h
    refine J_iload dX7_seas_65 3 rfl ?_
    refine J_aload_n dX7_seas_67 rfl 1 rfl ?_
    refine J_geti (j := 1) qx2.1 qx2.2.1 (by decide) rfl (by decide) rfl kf_X7_204 dX7_seas_68 ?_
    refine J_icmp_ge 120 dX7_seas_71 (by decide) (fun c20 => ?_) (fun c20 => ?_)
    · have h := br_p c20 h
      have h := Option.some.inj h
      subst h
      have h2 := Option.some.inj h2
      subst h2
      refine J_sub [2] rfl ?_
      exact Kx _ _ rfl
    · have h := br_n c20 h
      refine J_iload dX7_seas_74 3 rfl ?_
      refine J_bipush 20 dX7_seas_76 rfl ?_
      refine J_icmp_ge 120 dX7_seas_78 (by decide) (fun c19 => ?_) (fun c19 => ?_)
      · have h := br_p c19 h
        have h := Option.some.inj h
        subst h
        have h2 := Option.some.inj h2
        subst h2
        refine J_sub [2] rfl ?_
        exact Kx _ _ rfl
      · have h := br_n c19 h
        refine J_aload_n dX7_seas_81 rfl 1 rfl ?_
        refine J_getr (j := 2) (t := 0) (r := x2 + 1) qx2.1 (Nat.lt_trans qx2.2.1 (by decide)) (by decide) rfl (by decide) rfl rfl kf_X7_269 dX7_seas_82 ?_
        refine J_iload dX7_seas_85 3 rfl ?_
        obtain ⟨u13, h14, h⟩ := br_b h
        refine J_iald qx2.2.2.1 qx2.2.2.2 h14 dX7_seas_87 ?_
        refine J_istore (L' := [(6, .int (u13)), (0, .ref (0)), (2, .ref (x2)), (4, .int (x4)), (5, .int (x5))]) dX7_seas_88 (by decide) rfl ?_
        refine J_iload dX7_seas_90 0 rfl ?_
        refine J_if_lt 114 dX7_seas_92 (by decide) (fun c18 => ?_) (fun c18 => ?_)
        · have h := br_p c18 h
          refine J_iinc (j := 4) (v := (x5 + (1 : Int32))) (L' := [(5, .int ((x5 + (1 : Int32)))), (6, .int (u13)), (0, .ref (0)), (2, .ref (x2)), (4, .int (x4))]) dX7_seas_114 rfl rfl (by decide) rfl ?_
          refine J_goto 65 dX7_seas_117 (by decide) ?_
          have h := Option.some.inj h
          subst h
          refine J_sub [2, 3, 4, 0] rfl ?_
          exact ih _ _ _ h2 Kx
        · have h := br_n c18 h
          refine J_iload dX7_seas_95 0 rfl ?_
          refine J_bipush 9 dX7_seas_97 rfl ?_
          refine J_icmp_gt 114 dX7_seas_99 (by decide) (fun c17 => ?_) (fun c17 => ?_)
          · have h := br_p c17 h
            refine J_iinc (j := 4) (v := (x5 + (1 : Int32))) (L' := [(5, .int ((x5 + (1 : Int32)))), (6, .int (u13)), (0, .ref (0)), (2, .ref (x2)), (4, .int (x4))]) dX7_seas_114 rfl rfl (by decide) rfl ?_
            refine J_goto 65 dX7_seas_117 (by decide) ?_
            have h := Option.some.inj h
            subst h
            refine J_sub [2, 3, 4, 0] rfl ?_
            exact ih _ _ _ h2 Kx
          · have h := br_n c17 h
            refine J_aload_n dX7_seas_102 rfl 1 rfl ?_
            refine J_getr (j := 11) (t := 21) (r := 13) rfl (by decide) (by decide) rfl (by decide) rfl rfl kf_X7_39 dX7_seas_103 ?_
            refine J_iload dX7_seas_106 4 rfl ?_
            refine J_iload dX7_seas_108 0 rfl ?_
            obtain ⟨C15, h16, h⟩ := br_b h
            refine J_iast rfl (by decide) h16 dX7_seas_110 ?_
            refine J_iinc (j := 3) (v := (x4 + (1 : Int32))) (L' := [(4, .int ((x4 + (1 : Int32)))), (6, .int (u13)), (0, .ref (0)), (2, .ref (x2)), (5, .int (x5))]) dX7_seas_111 rfl rfl (by decide) rfl ?_
            refine J_iinc (j := 4) (v := (x5 + (1 : Int32))) (L' := [(5, .int ((x5 + (1 : Int32)))), (4, .int ((x4 + (1 : Int32)))), (6, .int (u13)), (0, .ref (0)), (2, .ref (x2))]) dX7_seas_114 rfl rfl (by decide) rfl ?_
            refine J_goto 65 dX7_seas_117 (by decide) ?_
            have h := Option.some.inj h
            subst h
            refine J_sub [3, 4, 1, 0] rfl ?_
            exact ih _ _ _ h2 Kx
def f_X7_seas (x1 : Int32) (C : aSc) : Option (Int32 × aSc) :=
  (f_X7_isSheet x1 C).bind fun r2 => if (r2 : Int32) = 0 then bd2 (f_X7_refuse (-100001 : Int32) C) fun r30 C31 => some (r30, C31) else (a_rf 54 2 4 x1).bind fun c3 => if ((a_gi C c3 0) : Int32) = 0 then bd2 (f_X7_refuse (-100002 : Int32) C) fun r26 C27 => some (r26, C27) else bd2 (f_X7_remember (11 : Int32) (0 : Int32) (0 : Int32) C) fun r7 C8 => if 62 ≤ r7 ∧ r7 < 94 ∧ r7 % 2 = 0 then (a_cpy C8 13 (0 : Int32) (r7 + 1) (0 : Int32) (20 : Int32)).bind fun C11 => (lpf (fun a : Int32 × Int32 × aSc => b_X7_seas_65 (c3) a.1 a.2.1 a.2.2) FU ((0 : Int32), (0 : Int32), C11)).bind fun z21 => some (z21.1, z21.2) else none
set_option maxRecDepth 100000 in
set_option maxHeartbeats 4000000 in
theorem jm_X7_seas {x1 : Int32} {C : aSc} {M : aMm}  {res : aRes} {r : Int32 × aSc} (h : f_X7_seas x1 C = some r) (Kr : ∀ (v : Int32) (S' : aSc), r = (v, S') → res = (some (.int v), (S', M))) : J mi_X7_seas res 0 0 0 [(0, .ref (0)), (1, .int (x1))] [] (C, M) := by
  rw [f_X7_seas] at h
  refine J_iload_n dX7_seas_0 rfl 1 rfl ?_
  obtain ⟨r2, h1, h⟩ := br_b h
  refine J_callS (mj := mi_X7_isSheet) (as := [.int (x1)]) (rest := []) (ct_X7_isSheet (M := M)  h1) ⟨rfl, rfl⟩ rfl cg_X7_193 hd_X7_isSheet rfl ⟨Nat.le_of_ble_eq_true rfl, Nat.le_of_ble_eq_true rfl⟩ (Nat.le_of_ble_eq_true rfl) ⟨Nat.zero_le _, Nat.zero_le _⟩ dX7_seas_1 ?_
  refine J_if_ne 14 dX7_seas_4 (by decide) (fun c32 => ?_) (fun c32 => ?_)
  · have h := br_n c32 h
    refine J_aload_n dX7_seas_14 rfl 0 rfl ?_
    refine J_getr (j := 16) (t := 29) (r := 21) rfl (by decide) (by decide) rfl (by decide) rfl rfl kf_X7_55 dX7_seas_15 ?_
    refine J_iload_n dX7_seas_18 rfl 1 rfl ?_
    obtain ⟨c3, h4, h⟩ := br_b h
    have q5 := a_rfS h4
    refine J_aaldS h4 dX7_seas_19 ?_
    refine J_astore_n (L' := [(2, .ref (c3)), (0, .ref (0)), (1, .int (x1))]) dX7_seas_20 rfl (by decide) rfl ?_
    refine J_aload_n dX7_seas_21 rfl 0 rfl ?_
    refine J_geti (j := 0) q5.1 q5.2.1 (by decide) rfl (by decide) rfl kf_X7_196 dX7_seas_22 ?_
    refine J_if_ne 35 dX7_seas_25 (by decide) (fun c28 => ?_) (fun c28 => ?_)
    · have h := br_n c28 h
      refine J_aload_n dX7_seas_35 rfl 1 rfl ?_
      refine J_bipush 11 dX7_seas_36 rfl ?_
      refine J_iconst 0 dX7_seas_38 rfl ?_
      refine J_iconst 0 dX7_seas_39 rfl ?_
      obtain ⟨r7, C8, h6, h⟩ := br_b2 h
      obtain ⟨h10, h⟩ := br_g h
      have q9 := a_ckP_is h10
      refine J_callV (mj := mi_X7_remember) (as := [.int ((11 : Int32)), .int ((0 : Int32)), .int ((0 : Int32))]) (rest := []) (ct_X7_remember (M := M)  h6) ⟨rfl, rfl⟩ rfl rfl (by decide) rfl cg_X7_96 hd_X7_remember rfl ⟨Nat.le_of_ble_eq_true rfl, Nat.le_of_ble_eq_true rfl⟩ (Nat.le_of_ble_eq_true rfl) ⟨Nat.zero_le _, Nat.zero_le _⟩ dX7_seas_40 ?_
      refine J_astore_n (L' := [(3, .ref (r7)), (2, .ref (c3)), (0, .ref (0)), (1, .int (x1))]) dX7_seas_43 rfl (by decide) rfl ?_
      refine J_aload_n dX7_seas_44 rfl 2 rfl ?_
      refine J_getr (j := 11) (t := 21) (r := 13) rfl (by decide) (by decide) rfl (by decide) rfl rfl kf_X7_39 dX7_seas_45 ?_
      refine J_iconst 0 dX7_seas_48 rfl ?_
      refine J_aload_n dX7_seas_49 rfl 0 rfl ?_
      refine J_getr (j := 3) (t := 0) (r := r7 + 1) q9.1 (Nat.lt_trans q9.2.1 (by decide)) (by decide) rfl (by decide) rfl rfl kf_X7_214 dX7_seas_50 ?_
      refine J_iconst 0 dX7_seas_53 rfl ?_
      refine J_bipush 20 dX7_seas_54 rfl ?_
      obtain ⟨C11, h12, h⟩ := br_b h
      refine J_copy km_X7_219 kna_cpy kst_cpy ki_System rfl (by decide) q9.2.2.1 q9.2.2.2 h12 (by decide) (Nat.le_of_ble_eq_true rfl) dX7_seas_56 ?_
      refine J_iconst 0 dX7_seas_59 rfl ?_
      refine J_istore (L' := [(4, .int ((0 : Int32))), (3, .ref (r7)), (2, .ref (c3)), (0, .ref (0)), (1, .int (x1))]) dX7_seas_60 (by decide) rfl ?_
      refine J_iconst 0 dX7_seas_62 rfl ?_
      refine J_istore (L' := [(5, .int ((0 : Int32))), (4, .int ((0 : Int32))), (3, .ref (r7)), (2, .ref (c3)), (0, .ref (0)), (1, .int (x1))]) dX7_seas_63 (by decide) rfl ?_
      refine J_sub [4, 3, 1, 0] rfl ?_
      obtain ⟨z21, h22, h⟩ := br_b h
      refine jl_X7_seas_65 q5 FU _ _ _ h22 ?_
      intro v23 C24 e
      subst e
      refine J_iload dX7_seas_120 0 rfl ?_
      have h := Option.some.inj h
      subst h
      exact J_iret rfl rfl rfl (Kr _ _ rfl) dX7_seas_122
    · have h := br_p c28 h
      refine J_aload_n dX7_seas_28 rfl 1 rfl ?_
      refine J_ldc (-100002) dX7_seas_29 kc_X7_199 ?_
      obtain ⟨r26, C27, h25, h⟩ := br_b2 h
      refine J_callV (mj := mi_X7_refuse) (as := [.int ((-100002 : Int32))]) (rest := []) (ct_X7_refuse (M := M)  h25) ⟨rfl, rfl⟩ rfl rfl (by decide) rfl cg_X7_69 hd_X7_refuse rfl ⟨Nat.le_of_ble_eq_true rfl, Nat.le_of_ble_eq_true rfl⟩ (Nat.le_of_ble_eq_true rfl) ⟨Nat.zero_le _, Nat.zero_le _⟩ dX7_seas_31 ?_
      have h := Option.some.inj h
      subst h
      exact J_iret rfl rfl rfl (Kr _ _ rfl) dX7_seas_34
  · have h := br_p c32 h
    refine J_aload_n dX7_seas_7 rfl 0 rfl ?_
    refine J_ldc (-100001) dX7_seas_8 kc_X7_68 ?_
    obtain ⟨r30, C31, h29, h⟩ := br_b2 h
    refine J_callV (mj := mi_X7_refuse) (as := [.int ((-100001 : Int32))]) (rest := []) (ct_X7_refuse (M := M)  h29) ⟨rfl, rfl⟩ rfl rfl (by decide) rfl cg_X7_69 hd_X7_refuse rfl ⟨Nat.le_of_ble_eq_true rfl, Nat.le_of_ble_eq_true rfl⟩ (Nat.le_of_ble_eq_true rfl) ⟨Nat.zero_le _, Nat.zero_le _⟩ dX7_seas_10 ?_
    have h := Option.some.inj h
    subst h
    exact J_iret rfl rfl rfl (Kr _ _ rfl) dX7_seas_13
theorem ct_X7_seas {x1 : Int32} {C : aSc} {M : aMm} {v : Int32} {S' : aSc}  (h : f_X7_seas x1 C = some (v, S')) : Ct mi_X7_seas yX7_seas [.ref (0), .int (x1)] (C, M) (some (.int v), (S', M)) := Ct_of_J (by decide +kernel) rfl (Nat.le_of_ble_eq_true rfl) (jm_X7_seas  h (fun _ _ e => by cases e; rfl))
def mi_X1_overdueOn : aMi := (cX1_overdueOn, 2, RX1, (some .int), { frames := 1, cells := 0, slots := 0, locals := 21 })
def f_X1_overdueOn (x0 : Nat) (x1 : Int32) (C : aSc) : Option (Int32) :=
  some (a_max (0 : Int32) ((x1 - (a_gi C x0 10)) - (10 : Int32)))
set_option maxRecDepth 100000 in
set_option maxHeartbeats 4000000 in
theorem jm_X1_overdueOn {x0 : Nat} {x1 : Int32} {C : aSc} {M : aMm} (qx0 : isL x0) {res : aRes} {r : Int32} (h : f_X1_overdueOn x0 x1 C = some r) (Kr : ∀ (v : Int32), r = v → res = (some (.int v), (C, M))) : J mi_X1_overdueOn res 0 0 0 [(0, .ref (x0)), (1, .int (x1))] [] (C, M) := by
  rw [f_X1_overdueOn] at h
  refine J_iconst 0 dX1_overdueOn_0 rfl ?_
  refine J_iload_n dX1_overdueOn_1 rfl 1 rfl ?_
  refine J_aload_n dX1_overdueOn_2 rfl 0 rfl ?_
  refine J_geti (j := 10) qx0.1 qx0.2.1 (by decide) rfl (by decide) rfl kf_X1_35 dX1_overdueOn_3 ?_
  refine J_isub dX1_overdueOn_6 ?_
  refine J_bipush 10 dX1_overdueOn_7 rfl ?_
  refine J_isub dX1_overdueOn_9 ?_
  refine J_mmax km_X1_56 kst_Math_max ki_Math kcd_Math_max (by decide) (Nat.le_of_ble_eq_true rfl) ⟨Nat.zero_le _, Nat.zero_le _⟩ dX1_overdueOn_10 ?_
  have h := Option.some.inj h
  subst h
  exact J_iret rfl rfl rfl (Kr _ rfl) dX1_overdueOn_13
theorem ct_X1_overdueOn {x0 : Nat} {x1 : Int32} {C : aSc} {M : aMm} {v : Int32} (qx0 : isL x0) (h : f_X1_overdueOn x0 x1 C = some v) : Ct mi_X1_overdueOn yX1_overdueOn [.ref (x0), .int (x1)] (C, M) (some (.int v), (C, M)) := Ct_of_J (by decide +kernel) rfl (Nat.le_of_ble_eq_true rfl) (jm_X1_overdueOn qx0 h (fun _ e => by cases e; rfl))
def mi_X1_landsIn : aMi := (cX1_landsIn, 2, RX1, (some .boolean), { frames := 0, cells := 0, slots := 0, locals := 0 })
def f_X1_landsIn (x0 : Nat) (x1 : Int32) (C : aSc) : Option (Int32) :=
  if ((a_gi C x0 11) : Int32) < x1 then some (0 : Int32) else some (1 : Int32)
set_option maxRecDepth 100000 in
set_option maxHeartbeats 4000000 in
theorem jm_X1_landsIn {x0 : Nat} {x1 : Int32} {C : aSc} {M : aMm} (qx0 : isL x0) {res : aRes} {r : Int32} (h : f_X1_landsIn x0 x1 C = some r) (Kr : ∀ (v : Int32), r = v → res = (some (.int v), (C, M))) : J mi_X1_landsIn res 0 0 0 [(0, .ref (x0)), (1, .int (x1))] [] (C, M) := by
  rw [f_X1_landsIn] at h
  refine J_iload_n dX1_landsIn_0 rfl 1 rfl ?_
  refine J_aload_n dX1_landsIn_1 rfl 0 rfl ?_
  refine J_geti (j := 11) qx0.1 qx0.2.1 (by decide) rfl (by decide) rfl kf_X1_38 dX1_landsIn_2 ?_
  refine J_icmp_gt 12 dX1_landsIn_5 (by decide) (fun c1 => ?_) (fun c1 => ?_)
  · have h := br_p c1 h
    refine J_iconst 0 dX1_landsIn_12 rfl ?_
    have h := Option.some.inj h
    subst h
    exact J_zret (Or.inl rfl) rfl rfl rfl (Kr _ rfl) dX1_landsIn_13
  · have h := br_n c1 h
    refine J_iconst 1 dX1_landsIn_8 rfl ?_
    refine J_goto 13 dX1_landsIn_9 (by decide) ?_
    have h := Option.some.inj h
    subst h
    exact J_zret (Or.inr rfl) rfl rfl rfl (Kr _ rfl) dX1_landsIn_13
theorem ct_X1_landsIn {x0 : Nat} {x1 : Int32} {C : aSc} {M : aMm} {v : Int32} (qx0 : isL x0) (h : f_X1_landsIn x0 x1 C = some v) : Ct mi_X1_landsIn yX1_landsIn [.ref (x0), .int (x1)] (C, M) (some (.int v), (C, M)) := Ct_of_J (by decide +kernel) rfl (Nat.le_of_ble_eq_true rfl) (jm_X1_landsIn qx0 h (fun _ e => by cases e; rfl))
def mi_X0_landsFrom : aMi := (cX0_landsFrom, 4, RX0, (some .boolean), { frames := 1, cells := 0, slots := 0, locals := 21 })
def b_X0_landsFrom_2 (x0 : Nat) (x3 : Int32) (C : aSc) : Option ((Int32) ⊕ ((Unit) ⊕ (Int32))) :=
  if ((20 : Int32) : Int32) ≤ x3 then some (.inr (.inl ())) else (a_ld C 13 x3).bind fun u1 => (f_X1_landsIn x0 u1 C).bind fun r4 => if (r4 : Int32) = 0 then some (.inl (x3 + (1 : Int32))) else some (.inr (.inr (1 : Int32)))
set_option maxRecDepth 100000 in
set_option maxHeartbeats 4000000 in
theorem jl_X0_landsFrom_2 {x0 : Nat} {C : aSc} {M : aMm} (qx0 : isL x0) {res : aRes} {r : (Unit) ⊕ (Int32)} : ∀ (n : Nat) (x3 : Int32), lpf (fun a : Int32 => b_X0_landsFrom_2 (x0) a C) n x3 = some r → (r = .inl () → J mi_X0_landsFrom res 0 0 26 [] [] (C, M)) → (∀ (v : Int32), r = .inr v → res = (some (.int v), (C, M))) → J mi_X0_landsFrom res 0 0 2 [(0, .ref (x0)), (1, .ref (13)), (3, .int (x3))] [] (C, M) := by
  intro n
  induction n with
  | zero =>
    intro x3 h
    cases h
  | succ n ih =>
    intro x3 h Kx Kr
    obtain ⟨r0, h, h2⟩ := br_b h
    have h : b_X0_landsFrom_2 x0 x3 C = some r0 := h
    rw [b_X0_landsFrom_2] at h
    refine J_iload_n dX0_landsFrom_2 rfl 2 rfl ?_
    refine J_bipush 20 dX0_landsFrom_3 rfl ?_
    refine J_icmp_ge 26 dX0_landsFrom_5 (by decide) (fun c6 => ?_) (fun c6 => ?_)
    · have h := br_p c6 h
      have h := Option.some.inj h
      subst h
      have h2 := Option.some.inj h2
      subst h2
      refine J_sub [] rfl ?_
      exact Kx  rfl
    · have h := br_n c6 h
      refine J_aload_n dX0_landsFrom_8 rfl 0 rfl ?_
      refine J_aload_n dX0_landsFrom_9 rfl 1 rfl ?_
      refine J_iload_n dX0_landsFrom_10 rfl 2 rfl ?_
      obtain ⟨u1, h2, h⟩ := br_b h
      refine J_iald rfl (by decide) h2 dX0_landsFrom_11 ?_
      obtain ⟨r4, h3, h⟩ := br_b h
      refine J_callV (mj := mi_X1_landsIn) (as := [.int (u1)]) (rest := []) (ct_X1_landsIn (M := M) qx0 h3) ⟨rfl, rfl⟩ rfl qx0.1 (by decide) rfl cg_X0_70 hd_X1_landsIn rfl ⟨Nat.le_of_ble_eq_true rfl, Nat.le_of_ble_eq_true rfl⟩ (Nat.le_of_ble_eq_true rfl) ⟨Nat.zero_le _, Nat.zero_le _⟩ dX0_landsFrom_12 ?_
      refine J_if_eq 20 dX0_landsFrom_15 (by decide) (fun c5 => ?_) (fun c5 => ?_)
      · have h := br_p c5 h
        refine J_iinc (j := 2) (v := (x3 + (1 : Int32))) (L' := [(3, .int ((x3 + (1 : Int32)))), (0, .ref (x0)), (1, .ref (13))]) dX0_landsFrom_20 rfl rfl (by decide) rfl ?_
        refine J_goto 2 dX0_landsFrom_23 (by decide) ?_
        have h := Option.some.inj h
        subst h
        refine J_sub [1, 2, 0] rfl ?_
        exact ih _ h2 Kx Kr
      · have h := br_n c5 h
        refine J_iconst 1 dX0_landsFrom_18 rfl ?_
        have h := Option.some.inj h
        subst h
        have h2 := Option.some.inj h2
        subst h2
        exact J_zret (Or.inr rfl) rfl rfl rfl (Kr _ rfl) dX0_landsFrom_19
def f_X0_landsFrom (x0 : Nat) (x2 : Int32) (C : aSc) : Option (Int32) :=
  (lpf (fun a : Int32 => b_X0_landsFrom_2 (x0) a C) FU x2).bind fun z7 => Sum.elim (fun z7a => some (0 : Int32)) (fun z9 => some z9) z7
set_option maxRecDepth 100000 in
set_option maxHeartbeats 4000000 in
theorem jm_X0_landsFrom {x0 : Nat} {x2 : Int32} {C : aSc} {M : aMm} (qx0 : isL x0) {res : aRes} {r : Int32} (h : f_X0_landsFrom x0 x2 C = some r) (Kr : ∀ (v : Int32), r = v → res = (some (.int v), (C, M))) : J mi_X0_landsFrom res 0 0 0 [(0, .ref (x0)), (1, .ref (13)), (2, .int (x2))] [] (C, M) := by
  rw [f_X0_landsFrom] at h
  refine J_iload_n dX0_landsFrom_0 rfl 2 rfl ?_
  refine J_istore_n (L' := [(3, .int (x2)), (0, .ref (x0)), (1, .ref (13)), (2, .int (x2))]) dX0_landsFrom_1 rfl (by decide) rfl ?_
  refine J_sub [1, 2, 0] rfl ?_
  obtain ⟨z7, h8, h⟩ := br_b h
  refine jl_X0_landsFrom_2 qx0 FU _ h8 ?_ ?_
  · intro e
    subst e
    have h := br_l h
    refine J_iconst 0 dX0_landsFrom_26 rfl ?_
    have h := Option.some.inj h
    subst h
    exact J_zret (Or.inl rfl) rfl rfl rfl (Kr _ rfl) dX0_landsFrom_27
  · intro v e
    subst e
    have h := br_r h
    have h := Option.some.inj h
    subst h
    exact Kr _ rfl
theorem ct_X0_landsFrom {x0 : Nat} {x2 : Int32} {C : aSc} {M : aMm} {v : Int32} (qx0 : isL x0) (h : f_X0_landsFrom x0 x2 C = some v) : Ct mi_X0_landsFrom yX0_landsFrom [.ref (x0), .ref (13), .int (x2)] (C, M) (some (.int v), (C, M)) := Ct_of_J (by decide +kernel) rfl (Nat.le_of_ble_eq_true rfl) (jm_X0_landsFrom qx0 h (fun _ e => by cases e; rfl))
def mi_X0_pickRocks : aMi := (cX0_pickRocks, 7, RX0, (some .int), { frames := 2, cells := 0, slots := 0, locals := 44 })
def b_X0_pickRocks_11 (x2 : Int32) (x4 : Int32) (x5 : Int32) (x6 : Int32) (C : aSc) : Option ((Int32 × Int32 × aSc) ⊕ (Int32 × aSc)) :=
  if (x2 : Int32) ≤ x6 then some (.inr (x5, C)) else (a_rf 24 3 10 x6).bind fun c3 => (f_X1_isRock c3 C).bind fun r7 => if (r7 : Int32) = 0 then some (.inl (x5, (x6 + (1 : Int32)), C)) else (a_rf 24 3 10 x6).bind fun c8 => (f_X1_overdueOn c8 (20 : Int32) C).bind fun r12 => if (r12 : Int32) = 0 then some (.inl (x5, (x6 + (1 : Int32)), C)) else (a_rf 24 3 10 x6).bind fun c13 => (f_X0_landsFrom c13 x4 C).bind fun r17 => if (r17 : Int32) = 0 then (a_rf 24 3 10 x6).bind fun c18 => (f_X1_overdueOn c18 (20 : Int32) C).bind fun r22 => some (.inl ((x5 + r22), (x6 + (1 : Int32)), C)) else (a_st C 16 (a_gi C 14 3) x6).bind fun C23 => (some (a_pi C23 14 3 ((a_gi C23 14 3) + (1 : Int32)))).bind fun C25 => some (.inl (x5, (x6 + (1 : Int32)), C25))
set_option maxRecDepth 100000 in
set_option maxHeartbeats 4000000 in
theorem jl_X0_pickRocks_11 {x2 : Int32} {x4 : Int32} {M : aMm}  {res : aRes} {r : Int32 × aSc} : ∀ (n : Nat) (x5 : Int32) (x6 : Int32) (C : aSc), lpf (fun a : Int32 × Int32 × aSc => b_X0_pickRocks_11 (x2) (x4) a.1 a.2.1 a.2.2) n (x5, x6, C) = some r → (∀ (z5 : Int32) (S2 : aSc), r = (z5, S2) → J mi_X0_pickRocks res 0 0 99 [(5, .int (z5))] [] (S2, M)) → J mi_X0_pickRocks res 0 0 11 [(0, .ref (14)), (1, .ref (3)), (2, .int (x2)), (3, .ref (13)), (4, .int (x4)), (5, .int (x5)), (6, .int (x6))] [] (C, M) := by
  intro n
  induction n with
  | zero =>
    intro x5 x6 C h
    cases h
  | succ n ih =>
    intro x5 x6 C h Kx
    obtain ⟨r0, h, h2⟩ := br_b h
    have h : b_X0_pickRocks_11 x2 x4 x5 x6 C = some r0 := h
    rw [b_X0_pickRocks_11] at h
    refine J_iload dX0_pickRocks_11 6 rfl ?_
    refine J_iload_n dX0_pickRocks_13 rfl 2 rfl ?_
    refine J_icmp_ge 99 dX0_pickRocks_14 (by decide) (fun c30 => ?_) (fun c30 => ?_)
    · have h := br_p c30 h
      have h := Option.some.inj h
      subst h
      have h2 := Option.some.inj h2
      subst h2
      refine J_sub [5] rfl ?_
      exact Kx _ _ rfl
    · have h := br_n c30 h
      refine J_aload_n dX0_pickRocks_17 rfl 1 rfl ?_
      refine J_iload dX0_pickRocks_18 6 rfl ?_
      obtain ⟨c3, h4, h⟩ := br_b h
      have q5 := a_rfL h4
      refine J_aaldL h4 dX0_pickRocks_20 ?_
      obtain ⟨r7, h6, h⟩ := br_b h
      refine J_callV (mj := mi_X1_isRock) (as := []) (rest := []) (ct_X1_isRock (M := M) q5 h6) ⟨rfl, rfl⟩ rfl q5.1 (by decide) rfl cg_X0_56 hd_X1_isRock rfl ⟨Nat.le_of_ble_eq_true rfl, Nat.le_of_ble_eq_true rfl⟩ (Nat.le_of_ble_eq_true rfl) ⟨Nat.zero_le _, Nat.zero_le _⟩ dX0_pickRocks_21 ?_
      refine J_if_eq 93 dX0_pickRocks_24 (by decide) (fun c29 => ?_) (fun c29 => ?_)
      · have h := br_p c29 h
        refine J_iinc (j := 6) (v := (x6 + (1 : Int32))) (L' := [(6, .int ((x6 + (1 : Int32)))), (0, .ref (14)), (1, .ref (3)), (2, .int (x2)), (3, .ref (13)), (4, .int (x4)), (5, .int (x5))]) dX0_pickRocks_93 rfl rfl (by decide) rfl ?_
        refine J_goto 11 dX0_pickRocks_96 (by decide) ?_
        have h := Option.some.inj h
        subst h
        refine J_sub [1, 2, 3, 4, 5, 6, 0] rfl ?_
        exact ih _ _ _ h2 Kx
      · have h := br_n c29 h
        refine J_aload_n dX0_pickRocks_27 rfl 1 rfl ?_
        refine J_iload dX0_pickRocks_28 6 rfl ?_
        obtain ⟨c8, h9, h⟩ := br_b h
        have q10 := a_rfL h9
        refine J_aaldL h9 dX0_pickRocks_30 ?_
        refine J_bipush 20 dX0_pickRocks_31 rfl ?_
        obtain ⟨r12, h11, h⟩ := br_b h
        refine J_callV (mj := mi_X1_overdueOn) (as := [.int ((20 : Int32))]) (rest := []) (ct_X1_overdueOn (M := M) q10 h11) ⟨rfl, rfl⟩ rfl q10.1 (by decide) rfl cg_X0_62 hd_X1_overdueOn rfl ⟨Nat.le_of_ble_eq_true rfl, Nat.le_of_ble_eq_true rfl⟩ (Nat.le_of_ble_eq_true rfl) ⟨Nat.zero_le _, Nat.zero_le _⟩ dX0_pickRocks_33 ?_
        refine J_if_ne 42 dX0_pickRocks_36 (by decide) (fun c28 => ?_) (fun c28 => ?_)
        · have h := br_n c28 h
          refine J_aload_n dX0_pickRocks_42 rfl 1 rfl ?_
          refine J_iload dX0_pickRocks_43 6 rfl ?_
          obtain ⟨c13, h14, h⟩ := br_b h
          have q15 := a_rfL h14
          refine J_aaldL h14 dX0_pickRocks_45 ?_
          refine J_aload_n dX0_pickRocks_46 rfl 3 rfl ?_
          refine J_iload dX0_pickRocks_47 4 rfl ?_
          obtain ⟨r17, h16, h⟩ := br_b h
          refine J_callS (mj := mi_X0_landsFrom) (as := [.ref (c13), .ref (13), .int (x4)]) (rest := []) (ct_X0_landsFrom (M := M) q15 h16) ⟨rfl, rfl⟩ rfl cg_X0_66 hd_X0_landsFrom rfl ⟨Nat.le_of_ble_eq_true rfl, Nat.le_of_ble_eq_true rfl⟩ (Nat.le_of_ble_eq_true rfl) ⟨Nat.zero_le _, Nat.zero_le _⟩ dX0_pickRocks_49 ?_
          refine J_if_eq 79 dX0_pickRocks_52 (by decide) (fun c27 => ?_) (fun c27 => ?_)
          · have h := br_p c27 h
            refine J_iload dX0_pickRocks_79 5 rfl ?_
            refine J_aload_n dX0_pickRocks_81 rfl 1 rfl ?_
            refine J_iload dX0_pickRocks_82 6 rfl ?_
            obtain ⟨c18, h19, h⟩ := br_b h
            have q20 := a_rfL h19
            refine J_aaldL h19 dX0_pickRocks_84 ?_
            refine J_bipush 20 dX0_pickRocks_85 rfl ?_
            obtain ⟨r22, h21, h⟩ := br_b h
            refine J_callV (mj := mi_X1_overdueOn) (as := [.int ((20 : Int32))]) (rest := [.int (x5)]) (ct_X1_overdueOn (M := M) q20 h21) ⟨rfl, rfl⟩ rfl q20.1 (by decide) rfl cg_X0_62 hd_X1_overdueOn rfl ⟨Nat.le_of_ble_eq_true rfl, Nat.le_of_ble_eq_true rfl⟩ (Nat.le_of_ble_eq_true rfl) ⟨Nat.zero_le _, Nat.zero_le _⟩ dX0_pickRocks_87 ?_
            refine J_iadd dX0_pickRocks_90 ?_
            refine J_istore (L' := [(5, .int ((x5 + r22))), (0, .ref (14)), (1, .ref (3)), (2, .int (x2)), (3, .ref (13)), (4, .int (x4)), (6, .int (x6))]) dX0_pickRocks_91 (by decide) rfl ?_
            refine J_iinc (j := 6) (v := (x6 + (1 : Int32))) (L' := [(6, .int ((x6 + (1 : Int32)))), (5, .int ((x5 + r22))), (0, .ref (14)), (1, .ref (3)), (2, .int (x2)), (3, .ref (13)), (4, .int (x4))]) dX0_pickRocks_93 rfl rfl (by decide) rfl ?_
            refine J_goto 11 dX0_pickRocks_96 (by decide) ?_
            have h := Option.some.inj h
            subst h
            refine J_sub [2, 3, 4, 5, 6, 1, 0] rfl ?_
            exact ih _ _ _ h2 Kx
          · have h := br_n c27 h
            refine J_aload_n dX0_pickRocks_55 rfl 0 rfl ?_
            refine J_getr (j := 2) (t := 24) (r := 16) rfl (by decide) (by decide) rfl (by decide) rfl rfl kf_X0_15 dX0_pickRocks_56 ?_
            refine J_aload_n dX0_pickRocks_59 rfl 0 rfl ?_
            refine J_geti (j := 3) rfl (by decide) (by decide) rfl (by decide) rfl kf_X0_53 dX0_pickRocks_60 ?_
            refine J_iload dX0_pickRocks_63 6 rfl ?_
            obtain ⟨C23, h24, h⟩ := br_b h
            refine J_iast rfl (by decide) h24 dX0_pickRocks_65 ?_
            refine J_aload_n dX0_pickRocks_66 rfl 0 rfl ?_
            refine J_dup dX0_pickRocks_67 rfl ?_
            refine J_geti (j := 3) rfl (by decide) (by decide) rfl (by decide) rfl kf_X0_53 dX0_pickRocks_68 ?_
            refine J_iconst 1 dX0_pickRocks_71 rfl ?_
            refine J_iadd dX0_pickRocks_72 ?_
            obtain ⟨C25, e26, h⟩ := br_s h
            refine J_puti (j := 3) rfl (by decide) (by decide) rfl (by decide) rfl rfl rfl kf_X0_53 e26 dX0_pickRocks_73 ?_
            refine J_goto 93 dX0_pickRocks_76 (by decide) ?_
            refine J_iinc (j := 6) (v := (x6 + (1 : Int32))) (L' := [(6, .int ((x6 + (1 : Int32)))), (0, .ref (14)), (1, .ref (3)), (2, .int (x2)), (3, .ref (13)), (4, .int (x4)), (5, .int (x5))]) dX0_pickRocks_93 rfl rfl (by decide) rfl ?_
            refine J_goto 11 dX0_pickRocks_96 (by decide) ?_
            have h := Option.some.inj h
            subst h
            refine J_sub [1, 2, 3, 4, 5, 6, 0] rfl ?_
            exact ih _ _ _ h2 Kx
        · have h := br_p c28 h
          refine J_goto 93 dX0_pickRocks_39 (by decide) ?_
          refine J_iinc (j := 6) (v := (x6 + (1 : Int32))) (L' := [(6, .int ((x6 + (1 : Int32)))), (0, .ref (14)), (1, .ref (3)), (2, .int (x2)), (3, .ref (13)), (4, .int (x4)), (5, .int (x5))]) dX0_pickRocks_93 rfl rfl (by decide) rfl ?_
          refine J_goto 11 dX0_pickRocks_96 (by decide) ?_
          have h := Option.some.inj h
          subst h
          refine J_sub [1, 2, 3, 4, 5, 6, 0] rfl ?_
          exact ih _ _ _ h2 Kx
def f_X0_pickRocks (x2 : Int32) (x4 : Int32) (C : aSc) : Option (Int32 × aSc) :=
  (some (a_pi C 14 3 (0 : Int32))).bind fun C1 => (lpf (fun a : Int32 × Int32 × aSc => b_X0_pickRocks_11 (x2) (x4) a.1 a.2.1 a.2.2) FU ((0 : Int32), (0 : Int32), C1)).bind fun z31 => some (z31.1, z31.2)
set_option maxRecDepth 100000 in
set_option maxHeartbeats 4000000 in
theorem jm_X0_pickRocks {x2 : Int32} {x4 : Int32} {C : aSc} {M : aMm}  {res : aRes} {r : Int32 × aSc} (h : f_X0_pickRocks x2 x4 C = some r) (Kr : ∀ (v : Int32) (S' : aSc), r = (v, S') → res = (some (.int v), (S', M))) : J mi_X0_pickRocks res 0 0 0 [(0, .ref (14)), (1, .ref (3)), (2, .int (x2)), (3, .ref (13)), (4, .int (x4))] [] (C, M) := by
  rw [f_X0_pickRocks] at h
  refine J_aload_n dX0_pickRocks_0 rfl 0 rfl ?_
  refine J_iconst 0 dX0_pickRocks_1 rfl ?_
  obtain ⟨C1, e2, h⟩ := br_s h
  refine J_puti (j := 3) rfl (by decide) (by decide) rfl (by decide) rfl rfl rfl kf_X0_53 e2 dX0_pickRocks_2 ?_
  refine J_iconst 0 dX0_pickRocks_5 rfl ?_
  refine J_istore (L' := [(5, .int ((0 : Int32))), (0, .ref (14)), (1, .ref (3)), (2, .int (x2)), (3, .ref (13)), (4, .int (x4))]) dX0_pickRocks_6 (by decide) rfl ?_
  refine J_iconst 0 dX0_pickRocks_8 rfl ?_
  refine J_istore (L' := [(6, .int ((0 : Int32))), (5, .int ((0 : Int32))), (0, .ref (14)), (1, .ref (3)), (2, .int (x2)), (3, .ref (13)), (4, .int (x4))]) dX0_pickRocks_9 (by decide) rfl ?_
  refine J_sub [2, 3, 4, 5, 6, 1, 0] rfl ?_
  obtain ⟨z31, h32, h⟩ := br_b h
  refine jl_X0_pickRocks_11  FU _ _ _ h32 ?_
  intro v33 C34 e
  subst e
  refine J_iload dX0_pickRocks_99 0 rfl ?_
  have h := Option.some.inj h
  subst h
  exact J_iret rfl rfl rfl (Kr _ _ rfl) dX0_pickRocks_101
theorem ct_X0_pickRocks {x2 : Int32} {x4 : Int32} {C : aSc} {M : aMm} {v : Int32} {S' : aSc}  (h : f_X0_pickRocks x2 x4 C = some (v, S')) : Ct mi_X0_pickRocks yX0_pickRocks [.ref (14), .ref (3), .int (x2), .ref (13), .int (x4)] (C, M) (some (.int v), (S', M)) := Ct_of_J (by decide +kernel) rfl (Nat.le_of_ble_eq_true rfl) (jm_X0_pickRocks  h (fun _ _ e => by cases e; rfl))
def mi_X0_endCosts : aMi := (cX0_endCosts, 5, RX0, none, { frames := 2, cells := 0, slots := 0, locals := 42 })
def b_X0_endCosts_15 (x2 : Int32) (x3 : Int32) (x4 : Int32) (C : aSc) : Option ((Int32 × Int32) ⊕ (Int32)) :=
  if ((a_gi C 14 3) : Int32) ≤ x4 then some (.inr x3) else if (((x2 >>> (x4 &&& 31)) &&& (1 : Int32)) : Int32) = 0 then (a_ld C 16 x4).bind fun u1 => (a_rf 24 3 10 u1).bind fun c3 => (f_X1_overdueOn c3 (20 : Int32) C).bind fun r7 => some (.inl ((x3 + r7), (x4 + (1 : Int32)))) else some (.inl (x3, (x4 + (1 : Int32))))
set_option maxRecDepth 100000 in
set_option maxHeartbeats 4000000 in
theorem jl_X0_endCosts_15 {x2 : Int32} {C : aSc} {M : aMm}  {res : aRes} {r : Int32} : ∀ (n : Nat) (x3 : Int32) (x4 : Int32), lpf (fun a : Int32 × Int32 => b_X0_endCosts_15 (x2) a.1 a.2 C) n (x3, x4) = some r → (∀ (z3 : Int32), r = z3 → J mi_X0_endCosts res 0 0 56 [(0, .ref (14)), (1, .ref (3)), (2, .int (x2)), (3, .int (z3))] [] (C, M)) → J mi_X0_endCosts res 0 0 15 [(0, .ref (14)), (1, .ref (3)), (2, .int (x2)), (3, .int (x3)), (4, .int (x4))] [] (C, M) := by
  intro n
  induction n with
  | zero =>
    intro x3 x4 h
    cases h
  | succ n ih =>
    intro x3 x4 h Kx
    obtain ⟨r0, h, h2⟩ := br_b h
    have h : b_X0_endCosts_15 x2 x3 x4 C = some r0 := h
    rw [b_X0_endCosts_15] at h
    refine J_iload dX0_endCosts_15 4 rfl ?_
    refine J_aload_n dX0_endCosts_17 rfl 0 rfl ?_
    refine J_geti (j := 3) rfl (by decide) (by decide) rfl (by decide) rfl kf_X0_53 dX0_endCosts_18 ?_
    refine J_icmp_ge 56 dX0_endCosts_21 (by decide) (fun c9 => ?_) (fun c9 => ?_)
    · have h := br_p c9 h
      have h := Option.some.inj h
      subst h
      have h2 := Option.some.inj h2
      subst h2
      refine J_sub [0, 1, 2, 3] rfl ?_
      exact Kx _ rfl
    · have h := br_n c9 h
      refine J_iload_n dX0_endCosts_24 rfl 2 rfl ?_
      refine J_iload dX0_endCosts_25 4 rfl ?_
      refine J_ishr dX0_endCosts_27 ?_
      refine J_iconst 1 dX0_endCosts_28 rfl ?_
      refine J_iand dX0_endCosts_29 ?_
      refine J_if_ne 50 dX0_endCosts_30 (by decide) (fun c8 => ?_) (fun c8 => ?_)
      · have h := br_n c8 h
        refine J_iinc (j := 4) (v := (x4 + (1 : Int32))) (L' := [(4, .int ((x4 + (1 : Int32)))), (0, .ref (14)), (1, .ref (3)), (2, .int (x2)), (3, .int (x3))]) dX0_endCosts_50 rfl rfl (by decide) rfl ?_
        refine J_goto 15 dX0_endCosts_53 (by decide) ?_
        have h := Option.some.inj h
        subst h
        refine J_sub [1, 2, 3, 4, 0] rfl ?_
        exact ih _ _ h2 Kx
      · have h := br_p c8 h
        refine J_iload_n dX0_endCosts_33 rfl 3 rfl ?_
        refine J_aload_n dX0_endCosts_34 rfl 1 rfl ?_
        refine J_aload_n dX0_endCosts_35 rfl 0 rfl ?_
        refine J_getr (j := 2) (t := 24) (r := 16) rfl (by decide) (by decide) rfl (by decide) rfl rfl kf_X0_15 dX0_endCosts_36 ?_
        refine J_iload dX0_endCosts_39 4 rfl ?_
        obtain ⟨u1, h2, h⟩ := br_b h
        refine J_iald rfl (by decide) h2 dX0_endCosts_41 ?_
        obtain ⟨c3, h4, h⟩ := br_b h
        have q5 := a_rfL h4
        refine J_aaldL h4 dX0_endCosts_42 ?_
        refine J_bipush 20 dX0_endCosts_43 rfl ?_
        obtain ⟨r7, h6, h⟩ := br_b h
        refine J_callV (mj := mi_X1_overdueOn) (as := [.int ((20 : Int32))]) (rest := [.int (x3)]) (ct_X1_overdueOn (M := M) q5 h6) ⟨rfl, rfl⟩ rfl q5.1 (by decide) rfl cg_X0_62 hd_X1_overdueOn rfl ⟨Nat.le_of_ble_eq_true rfl, Nat.le_of_ble_eq_true rfl⟩ (Nat.le_of_ble_eq_true rfl) ⟨Nat.zero_le _, Nat.zero_le _⟩ dX0_endCosts_45 ?_
        refine J_iadd dX0_endCosts_48 ?_
        refine J_istore_n (L' := [(3, .int ((x3 + r7))), (0, .ref (14)), (1, .ref (3)), (2, .int (x2)), (4, .int (x4))]) dX0_endCosts_49 rfl (by decide) rfl ?_
        refine J_iinc (j := 4) (v := (x4 + (1 : Int32))) (L' := [(4, .int ((x4 + (1 : Int32)))), (3, .int ((x3 + r7))), (0, .ref (14)), (1, .ref (3)), (2, .int (x2))]) dX0_endCosts_50 rfl rfl (by decide) rfl ?_
        refine J_goto 15 dX0_endCosts_53 (by decide) ?_
        have h := Option.some.inj h
        subst h
        refine J_sub [2, 3, 4, 1, 0] rfl ?_
        exact ih _ _ h2 Kx
def b_X0_endCosts_2  (x2 : Int32) (C : aSc) : Option ((Int32 × aSc) ⊕ (aSc)) :=
  if ((a_gi C 14 5) : Int32) ≤ x2 then some (.inr C) else (lpf (fun a : Int32 × Int32 => b_X0_endCosts_15 (x2) a.1 a.2 C) FU ((0 : Int32), (0 : Int32))).bind fun z10 => (a_st C 18 x2 z10).bind fun C13 => some (.inl ((x2 + (1 : Int32)), C13))
set_option maxRecDepth 100000 in
set_option maxHeartbeats 4000000 in
theorem jl_X0_endCosts_2  {M : aMm}  {res : aRes} {r : aSc} : ∀ (n : Nat) (x2 : Int32) (C : aSc), lpf (fun a : Int32 × aSc => b_X0_endCosts_2  a.1 a.2) n (x2, C) = some r → (∀ (S2 : aSc), r = S2 → J mi_X0_endCosts res 0 0 69 [] [] (S2, M)) → J mi_X0_endCosts res 0 0 2 [(0, .ref (14)), (1, .ref (3)), (2, .int (x2))] [] (C, M) := by
  intro n
  induction n with
  | zero =>
    intro x2 C h
    cases h
  | succ n ih =>
    intro x2 C h Kx
    obtain ⟨r0, h, h2⟩ := br_b h
    have h : b_X0_endCosts_2  x2 C = some r0 := h
    rw [b_X0_endCosts_2] at h
    refine J_iload_n dX0_endCosts_2 rfl 2 rfl ?_
    refine J_aload_n dX0_endCosts_3 rfl 0 rfl ?_
    refine J_geti (j := 5) rfl (by decide) (by decide) rfl (by decide) rfl kf_X0_74 dX0_endCosts_4 ?_
    refine J_icmp_ge 69 dX0_endCosts_7 (by decide) (fun c15 => ?_) (fun c15 => ?_)
    · have h := br_p c15 h
      have h := Option.some.inj h
      subst h
      have h2 := Option.some.inj h2
      subst h2
      refine J_sub [] rfl ?_
      exact Kx _ rfl
    · have h := br_n c15 h
      refine J_iconst 0 dX0_endCosts_10 rfl ?_
      refine J_istore_n (L' := [(3, .int ((0 : Int32))), (0, .ref (14)), (1, .ref (3)), (2, .int (x2))]) dX0_endCosts_11 rfl (by decide) rfl ?_
      refine J_iconst 0 dX0_endCosts_12 rfl ?_
      refine J_istore (L' := [(4, .int ((0 : Int32))), (3, .int ((0 : Int32))), (0, .ref (14)), (1, .ref (3)), (2, .int (x2))]) dX0_endCosts_13 (by decide) rfl ?_
      refine J_sub [2, 3, 4, 1, 0] rfl ?_
      obtain ⟨z10, h11, h⟩ := br_b h
      refine jl_X0_endCosts_15  FU _ _ h11 ?_
      intro zz e
      subst e
      refine J_aload_n dX0_endCosts_56 rfl 0 rfl ?_
      refine J_getr (j := 6) (t := 26) (r := 18) rfl (by decide) (by decide) rfl (by decide) rfl rfl kf_X0_21 dX0_endCosts_57 ?_
      refine J_iload_n dX0_endCosts_60 rfl 2 rfl ?_
      refine J_iload_n dX0_endCosts_61 rfl 3 rfl ?_
      obtain ⟨C13, h14, h⟩ := br_b h
      refine J_iast rfl (by decide) h14 dX0_endCosts_62 ?_
      refine J_iinc (j := 2) (v := (x2 + (1 : Int32))) (L' := [(2, .int ((x2 + (1 : Int32)))), (0, .ref (14)), (1, .ref (3)), (3, .int (z10))]) dX0_endCosts_63 rfl rfl (by decide) rfl ?_
      refine J_goto 2 dX0_endCosts_66 (by decide) ?_
      have h := Option.some.inj h
      subst h
      refine J_sub [1, 2, 0] rfl ?_
      exact ih _ _ h2 Kx
def f_X0_endCosts  (C : aSc) : Option (aSc) :=
  (lpf (fun a : Int32 × aSc => b_X0_endCosts_2  a.1 a.2) FU ((0 : Int32), C)).bind fun z16 => some z16
set_option maxRecDepth 100000 in
set_option maxHeartbeats 4000000 in
theorem jm_X0_endCosts  {C : aSc} {M : aMm}  {res : aRes} {r : aSc} (h : f_X0_endCosts  C = some r) (Kr : ∀ (S' : aSc), r = S' → res = (none, (S', M))) : J mi_X0_endCosts res 0 0 0 [(0, .ref (14)), (1, .ref (3))] [] (C, M) := by
  rw [f_X0_endCosts] at h
  refine J_iconst 0 dX0_endCosts_0 rfl ?_
  refine J_istore_n (L' := [(2, .int ((0 : Int32))), (0, .ref (14)), (1, .ref (3))]) dX0_endCosts_1 rfl (by decide) rfl ?_
  refine J_sub [1, 2, 0] rfl ?_
  obtain ⟨z16, h17, h⟩ := br_b h
  refine jl_X0_endCosts_2  FU _ _ h17 ?_
  intro zz e
  subst e
  have h := Option.some.inj h
  subst h
  exact J_vret rfl rfl rfl (Kr _ rfl) dX0_endCosts_69
theorem ct_X0_endCosts  {C : aSc} {M : aMm} {S' : aSc}  (h : f_X0_endCosts  C = some S') : Ct mi_X0_endCosts yX0_endCosts [.ref (14), .ref (3)] (C, M) (none, (S', M)) := Ct_of_J (by decide +kernel) rfl (Nat.le_of_ble_eq_true rfl) (jm_X0_endCosts  h (fun _ e => by cases e; rfl))
def mi_X0_lookAt : aMi := (cX0_lookAt, 6, RX0, none, { frames := 2, cells := 0, slots := 0, locals := 42 })
def b_X0_lookAt_3 (x2 : Int32) (x3 : Int32) (x4 : Int32) (C : aSc) : Option ((Int32 × aSc) ⊕ (aSc)) :=
  if ((a_gi C 14 3) : Int32) ≤ x4 then some (.inr C) else (a_ld C 16 x4).bind fun u1 => (a_rf 24 3 10 u1).bind fun c3 => (f_X1_landsIn c3 x3 C).bind fun r7 => if (r7 : Int32) = 0 then (a_st C 17 x4 (-1 : Int32)).bind fun C8 => some (.inl ((x4 + (1 : Int32)), C8)) else (f_X1_overdueOn c3 x2 C).bind fun r11 => (a_st C 17 x4 r11).bind fun C12 => some (.inl ((x4 + (1 : Int32)), C12))
set_option maxRecDepth 100000 in
set_option maxHeartbeats 4000000 in
theorem jl_X0_lookAt_3 {x2 : Int32} {x3 : Int32} {M : aMm}  {res : aRes} {r : aSc} : ∀ (n : Nat) (x4 : Int32) (C : aSc), lpf (fun a : Int32 × aSc => b_X0_lookAt_3 (x2) (x3) a.1 a.2) n (x4, C) = some r → (∀ (S2 : aSc), r = S2 → J mi_X0_lookAt res 0 0 55 [] [] (S2, M)) → J mi_X0_lookAt res 0 0 3 [(0, .ref (14)), (1, .ref (3)), (2, .int (x2)), (3, .int (x3)), (4, .int (x4))] [] (C, M) := by
  intro n
  induction n with
  | zero =>
    intro x4 C h
    cases h
  | succ n ih =>
    intro x4 C h Kx
    obtain ⟨r0, h, h2⟩ := br_b h
    have h : b_X0_lookAt_3 x2 x3 x4 C = some r0 := h
    rw [b_X0_lookAt_3] at h
    refine J_iload dX0_lookAt_3 4 rfl ?_
    refine J_aload_n dX0_lookAt_5 rfl 0 rfl ?_
    refine J_geti (j := 3) rfl (by decide) (by decide) rfl (by decide) rfl kf_X0_53 dX0_lookAt_6 ?_
    refine J_icmp_ge 55 dX0_lookAt_9 (by decide) (fun c15 => ?_) (fun c15 => ?_)
    · have h := br_p c15 h
      have h := Option.some.inj h
      subst h
      have h2 := Option.some.inj h2
      subst h2
      refine J_sub [] rfl ?_
      exact Kx _ rfl
    · have h := br_n c15 h
      refine J_aload_n dX0_lookAt_12 rfl 1 rfl ?_
      refine J_aload_n dX0_lookAt_13 rfl 0 rfl ?_
      refine J_getr (j := 2) (t := 24) (r := 16) rfl (by decide) (by decide) rfl (by decide) rfl rfl kf_X0_15 dX0_lookAt_14 ?_
      refine J_iload dX0_lookAt_17 4 rfl ?_
      obtain ⟨u1, h2, h⟩ := br_b h
      refine J_iald rfl (by decide) h2 dX0_lookAt_19 ?_
      obtain ⟨c3, h4, h⟩ := br_b h
      have q5 := a_rfL h4
      refine J_aaldL h4 dX0_lookAt_20 ?_
      refine J_astore (L' := [(5, .ref (c3)), (0, .ref (14)), (1, .ref (3)), (2, .int (x2)), (3, .int (x3)), (4, .int (x4))]) dX0_lookAt_21 (by decide) rfl ?_
      refine J_aload_n dX0_lookAt_23 rfl 1 rfl ?_
      refine J_getr (j := 4) (t := 25) (r := 17) rfl (by decide) (by decide) rfl (by decide) rfl rfl kf_X0_18 dX0_lookAt_24 ?_
      refine J_iload dX0_lookAt_27 5 rfl ?_
      refine J_aload dX0_lookAt_29 0 rfl ?_
      refine J_iload_n dX0_lookAt_31 rfl 4 rfl ?_
      obtain ⟨r7, h6, h⟩ := br_b h
      refine J_callV (mj := mi_X1_landsIn) (as := [.int (x3)]) (rest := [.int (x4), .ref (17)]) (ct_X1_landsIn (M := M) q5 h6) ⟨rfl, rfl⟩ rfl q5.1 (by decide) rfl cg_X0_70 hd_X1_landsIn rfl ⟨Nat.le_of_ble_eq_true rfl, Nat.le_of_ble_eq_true rfl⟩ (Nat.le_of_ble_eq_true rfl) ⟨Nat.zero_le _, Nat.zero_le _⟩ dX0_lookAt_32 ?_
      refine J_if_eq 47 dX0_lookAt_35 (by decide) (fun c14 => ?_) (fun c14 => ?_)
      · have h := br_p c14 h
        refine J_iconst (-1) dX0_lookAt_47 rfl ?_
        obtain ⟨C8, h9, h⟩ := br_b h
        refine J_iast rfl (by decide) h9 dX0_lookAt_48 ?_
        refine J_iinc (j := 5) (v := (x4 + (1 : Int32))) (L' := [(4, .int ((x4 + (1 : Int32)))), (5, .ref (c3)), (0, .ref (14)), (1, .ref (3)), (2, .int (x2)), (3, .int (x3))]) dX0_lookAt_49 rfl rfl (by decide) rfl ?_
        refine J_goto 3 dX0_lookAt_52 (by decide) ?_
        have h := Option.some.inj h
        subst h
        refine J_sub [2, 3, 4, 5, 0] rfl ?_
        exact ih _ _ h2 Kx
      · have h := br_n c14 h
        refine J_aload dX0_lookAt_38 0 rfl ?_
        refine J_iload_n dX0_lookAt_40 rfl 3 rfl ?_
        obtain ⟨r11, h10, h⟩ := br_b h
        refine J_callV (mj := mi_X1_overdueOn) (as := [.int (x2)]) (rest := [.int (x4), .ref (17)]) (ct_X1_overdueOn (M := M) q5 h10) ⟨rfl, rfl⟩ rfl q5.1 (by decide) rfl cg_X0_62 hd_X1_overdueOn rfl ⟨Nat.le_of_ble_eq_true rfl, Nat.le_of_ble_eq_true rfl⟩ (Nat.le_of_ble_eq_true rfl) ⟨Nat.zero_le _, Nat.zero_le _⟩ dX0_lookAt_41 ?_
        refine J_goto 48 dX0_lookAt_44 (by decide) ?_
        obtain ⟨C12, h13, h⟩ := br_b h
        refine J_iast rfl (by decide) h13 dX0_lookAt_48 ?_
        refine J_iinc (j := 5) (v := (x4 + (1 : Int32))) (L' := [(4, .int ((x4 + (1 : Int32)))), (5, .ref (c3)), (0, .ref (14)), (1, .ref (3)), (2, .int (x2)), (3, .int (x3))]) dX0_lookAt_49 rfl rfl (by decide) rfl ?_
        refine J_goto 3 dX0_lookAt_52 (by decide) ?_
        have h := Option.some.inj h
        subst h
        refine J_sub [2, 3, 4, 5, 0] rfl ?_
        exact ih _ _ h2 Kx
def f_X0_lookAt (x2 : Int32) (x3 : Int32) (C : aSc) : Option (aSc) :=
  (lpf (fun a : Int32 × aSc => b_X0_lookAt_3 (x2) (x3) a.1 a.2) FU ((0 : Int32), C)).bind fun z16 => some z16
set_option maxRecDepth 100000 in
set_option maxHeartbeats 4000000 in
theorem jm_X0_lookAt {x2 : Int32} {x3 : Int32} {C : aSc} {M : aMm}  {res : aRes} {r : aSc} (h : f_X0_lookAt x2 x3 C = some r) (Kr : ∀ (S' : aSc), r = S' → res = (none, (S', M))) : J mi_X0_lookAt res 0 0 0 [(0, .ref (14)), (1, .ref (3)), (2, .int (x2)), (3, .int (x3))] [] (C, M) := by
  rw [f_X0_lookAt] at h
  refine J_iconst 0 dX0_lookAt_0 rfl ?_
  refine J_istore (L' := [(4, .int ((0 : Int32))), (0, .ref (14)), (1, .ref (3)), (2, .int (x2)), (3, .int (x3))]) dX0_lookAt_1 (by decide) rfl ?_
  refine J_sub [1, 2, 3, 4, 0] rfl ?_
  obtain ⟨z16, h17, h⟩ := br_b h
  refine jl_X0_lookAt_3  FU _ _ h17 ?_
  intro zz e
  subst e
  have h := Option.some.inj h
  subst h
  exact J_vret rfl rfl rfl (Kr _ rfl) dX0_lookAt_55
theorem ct_X0_lookAt {x2 : Int32} {x3 : Int32} {C : aSc} {M : aMm} {S' : aSc}  (h : f_X0_lookAt x2 x3 C = some S') : Ct mi_X0_lookAt yX0_lookAt [.ref (14), .ref (3), .int (x2), .int (x3)] (C, M) (none, (S', M)) := Ct_of_J (by decide +kernel) rfl (Nat.le_of_ble_eq_true rfl) (jm_X0_lookAt  h (fun _ e => by cases e; rfl))
def mi_X0_workBack : aMi := (cX0_workBack, 7, RX0, none, { frames := 0, cells := 0, slots := 0, locals := 0 })
def b_X0_workBack_23 (x1 : Int32) (x2 : Int32) (x3 : Int32) (x4 : Int32) (x5 : Int32) (C : aSc) : Option ((Int32 × Int32 × Int32) ⊕ (Int32 × Int32)) :=
  if ((a_gi C 14 3) : Int32) ≤ x5 then some (.inr (x3, x4)) else (a_ld C 17 x5).bind fun u3 => if (u3 : Int32) < 0 then some (.inl (x3, x4, (x5 + (1 : Int32)))) else if (((x2 >>> (x5 &&& 31)) &&& (1 : Int32)) : Int32) = (1 : Int32) then some (.inl (x3, x4, (x5 + (1 : Int32)))) else (a_ld C 17 x5).bind fun u5 => (a_ld C 18 (x2 ||| ((1 : Int32) <<< (x5 &&& 31)))).bind fun u7 => if (x3 : Int32) ≤ (u5 + u7) then some (.inl (x3, x4, (x5 + (1 : Int32)))) else some (.inl ((u5 + u7), x5, (x5 + (1 : Int32))))
set_option maxRecDepth 100000 in
set_option maxHeartbeats 4000000 in
theorem jl_X0_workBack_23 {x1 : Int32} {x2 : Int32} {C : aSc} {M : aMm}  {res : aRes} {r : Int32 × Int32} : ∀ (n : Nat) (x3 : Int32) (x4 : Int32) (x5 : Int32), lpf (fun a : Int32 × Int32 × Int32 => b_X0_workBack_23 (x1) (x2) a.1 a.2.1 a.2.2 C) n (x3, x4, x5) = some r → (∀ (z3 : Int32) (z4 : Int32), r = (z3, z4) → J mi_X0_workBack res 0 0 95 [(0, .ref (14)), (1, .int (x1)), (2, .int (x2)), (3, .int (z3)), (4, .int (z4))] [] (C, M)) → J mi_X0_workBack res 0 0 23 [(0, .ref (14)), (1, .int (x1)), (2, .int (x2)), (3, .int (x3)), (4, .int (x4)), (5, .int (x5))] [] (C, M) := by
  intro n
  induction n with
  | zero =>
    intro x3 x4 x5 h
    cases h
  | succ n ih =>
    intro x3 x4 x5 h Kx
    obtain ⟨r0, h, h2⟩ := br_b h
    have h : b_X0_workBack_23 x1 x2 x3 x4 x5 C = some r0 := h
    rw [b_X0_workBack_23] at h
    refine J_iload dX0_workBack_23 5 rfl ?_
    refine J_aload_n dX0_workBack_25 rfl 0 rfl ?_
    refine J_geti (j := 3) rfl (by decide) (by decide) rfl (by decide) rfl kf_X0_53 dX0_workBack_26 ?_
    refine J_icmp_ge 95 dX0_workBack_29 (by decide) (fun c12 => ?_) (fun c12 => ?_)
    · have h := br_p c12 h
      have h := Option.some.inj h
      subst h
      have h2 := Option.some.inj h2
      subst h2
      refine J_sub [0, 1, 2, 3, 4] rfl ?_
      exact Kx _ _ rfl
    · have h := br_n c12 h
      refine J_aload_n dX0_workBack_32 rfl 0 rfl ?_
      refine J_getr (j := 4) (t := 25) (r := 17) rfl (by decide) (by decide) rfl (by decide) rfl rfl kf_X0_18 dX0_workBack_33 ?_
      refine J_iload dX0_workBack_36 5 rfl ?_
      obtain ⟨u3, h4, h⟩ := br_b h
      refine J_iald rfl (by decide) h4 dX0_workBack_38 ?_
      refine J_if_lt 89 dX0_workBack_39 (by decide) (fun c11 => ?_) (fun c11 => ?_)
      · have h := br_p c11 h
        refine J_iinc (j := 5) (v := (x5 + (1 : Int32))) (L' := [(5, .int ((x5 + (1 : Int32)))), (0, .ref (14)), (1, .int (x1)), (2, .int (x2)), (3, .int (x3)), (4, .int (x4))]) dX0_workBack_89 rfl rfl (by decide) rfl ?_
        refine J_goto 23 dX0_workBack_92 (by decide) ?_
        have h := Option.some.inj h
        subst h
        refine J_sub [1, 2, 3, 4, 5, 0] rfl ?_
        exact ih _ _ _ h2 Kx
      · have h := br_n c11 h
        refine J_iload_n dX0_workBack_42 rfl 2 rfl ?_
        refine J_iload dX0_workBack_43 5 rfl ?_
        refine J_ishr dX0_workBack_45 ?_
        refine J_iconst 1 dX0_workBack_46 rfl ?_
        refine J_iand dX0_workBack_47 ?_
        refine J_iconst 1 dX0_workBack_48 rfl ?_
        refine J_icmp_ne 55 dX0_workBack_49 (by decide) (fun c10 => ?_) (fun c10 => ?_)
        · have h := br_n c10 h
          refine J_aload_n dX0_workBack_55 rfl 0 rfl ?_
          refine J_getr (j := 4) (t := 25) (r := 17) rfl (by decide) (by decide) rfl (by decide) rfl rfl kf_X0_18 dX0_workBack_56 ?_
          refine J_iload dX0_workBack_59 5 rfl ?_
          obtain ⟨u5, h6, h⟩ := br_b h
          refine J_iald rfl (by decide) h6 dX0_workBack_61 ?_
          refine J_aload_n dX0_workBack_62 rfl 0 rfl ?_
          refine J_getr (j := 6) (t := 26) (r := 18) rfl (by decide) (by decide) rfl (by decide) rfl rfl kf_X0_21 dX0_workBack_63 ?_
          refine J_iload_n dX0_workBack_66 rfl 2 rfl ?_
          refine J_iconst 1 dX0_workBack_67 rfl ?_
          refine J_iload dX0_workBack_68 5 rfl ?_
          refine J_ishl dX0_workBack_70 ?_
          refine J_ior dX0_workBack_71 ?_
          obtain ⟨u7, h8, h⟩ := br_b h
          refine J_iald rfl (by decide) h8 dX0_workBack_72 ?_
          refine J_iadd dX0_workBack_73 ?_
          refine J_istore (L' := [(6, .int ((u5 + u7))), (0, .ref (14)), (1, .int (x1)), (2, .int (x2)), (3, .int (x3)), (4, .int (x4)), (5, .int (x5))]) dX0_workBack_74 (by decide) rfl ?_
          refine J_iload dX0_workBack_76 0 rfl ?_
          refine J_iload_n dX0_workBack_78 rfl 4 rfl ?_
          refine J_icmp_ge 89 dX0_workBack_79 (by decide) (fun c9 => ?_) (fun c9 => ?_)
          · have h := br_p c9 h
            refine J_iinc (j := 6) (v := (x5 + (1 : Int32))) (L' := [(5, .int ((x5 + (1 : Int32)))), (6, .int ((u5 + u7))), (0, .ref (14)), (1, .int (x1)), (2, .int (x2)), (3, .int (x3)), (4, .int (x4))]) dX0_workBack_89 rfl rfl (by decide) rfl ?_
            refine J_goto 23 dX0_workBack_92 (by decide) ?_
            have h := Option.some.inj h
            subst h
            refine J_sub [2, 3, 4, 5, 6, 0] rfl ?_
            exact ih _ _ _ h2 Kx
          · have h := br_n c9 h
            refine J_iload dX0_workBack_82 0 rfl ?_
            refine J_istore_n (L' := [(3, .int ((u5 + u7))), (6, .int ((u5 + u7))), (0, .ref (14)), (1, .int (x1)), (2, .int (x2)), (4, .int (x4)), (5, .int (x5))]) dX0_workBack_84 rfl (by decide) rfl ?_
            refine J_iload dX0_workBack_85 6 rfl ?_
            refine J_istore (L' := [(4, .int (x5)), (3, .int ((u5 + u7))), (6, .int ((u5 + u7))), (0, .ref (14)), (1, .int (x1)), (2, .int (x2)), (5, .int (x5))]) dX0_workBack_87 (by decide) rfl ?_
            refine J_iinc (j := 6) (v := (x5 + (1 : Int32))) (L' := [(5, .int ((x5 + (1 : Int32)))), (4, .int (x5)), (3, .int ((u5 + u7))), (6, .int ((u5 + u7))), (0, .ref (14)), (1, .int (x1)), (2, .int (x2))]) dX0_workBack_89 rfl rfl (by decide) rfl ?_
            refine J_goto 23 dX0_workBack_92 (by decide) ?_
            have h := Option.some.inj h
            subst h
            refine J_sub [4, 5, 6, 2, 1, 0] rfl ?_
            exact ih _ _ _ h2 Kx
        · have h := br_p c10 h
          refine J_goto 89 dX0_workBack_52 (by decide) ?_
          refine J_iinc (j := 5) (v := (x5 + (1 : Int32))) (L' := [(5, .int ((x5 + (1 : Int32)))), (0, .ref (14)), (1, .int (x1)), (2, .int (x2)), (3, .int (x3)), (4, .int (x4))]) dX0_workBack_89 rfl rfl (by decide) rfl ?_
          refine J_goto 23 dX0_workBack_92 (by decide) ?_
          have h := Option.some.inj h
          subst h
          refine J_sub [1, 2, 3, 4, 5, 0] rfl ?_
          exact ih _ _ _ h2 Kx
def b_X0_workBack_2 (x1 : Int32) (x2 : Int32) (C : aSc) : Option ((Int32 × aSc) ⊕ (aSc)) :=
  if ((a_gi C 14 5) : Int32) ≤ x2 then some (.inr C) else (a_ld C 18 x2).bind fun u1 => (lpf (fun a : Int32 × Int32 × Int32 => b_X0_workBack_23 (x1) (x2) a.1 a.2.1 a.2.2 C) FU (u1, (-1 : Int32), (0 : Int32))).bind fun z13 => (a_st C 18 x2 z13.1).bind fun C17 => (a_st C17 19 ((x1 * (a_gi C17 14 5)) + x2) z13.2).bind fun C19 => some (.inl ((x2 + (1 : Int32)), C19))
set_option maxRecDepth 100000 in
set_option maxHeartbeats 4000000 in
theorem jl_X0_workBack_2 {x1 : Int32} {M : aMm}  {res : aRes} {r : aSc} : ∀ (n : Nat) (x2 : Int32) (C : aSc), lpf (fun a : Int32 × aSc => b_X0_workBack_2 (x1) a.1 a.2) n (x2, C) = some r → (∀ (S2 : aSc), r = S2 → J mi_X0_workBack res 0 0 123 [] [] (S2, M)) → J mi_X0_workBack res 0 0 2 [(0, .ref (14)), (1, .int (x1)), (2, .int (x2))] [] (C, M) := by
  intro n
  induction n with
  | zero =>
    intro x2 C h
    cases h
  | succ n ih =>
    intro x2 C h Kx
    obtain ⟨r0, h, h2⟩ := br_b h
    have h : b_X0_workBack_2 x1 x2 C = some r0 := h
    rw [b_X0_workBack_2] at h
    refine J_iload_n dX0_workBack_2 rfl 2 rfl ?_
    refine J_aload_n dX0_workBack_3 rfl 0 rfl ?_
    refine J_geti (j := 5) rfl (by decide) (by decide) rfl (by decide) rfl kf_X0_74 dX0_workBack_4 ?_
    refine J_icmp_ge 123 dX0_workBack_7 (by decide) (fun c21 => ?_) (fun c21 => ?_)
    · have h := br_p c21 h
      have h := Option.some.inj h
      subst h
      have h2 := Option.some.inj h2
      subst h2
      refine J_sub [] rfl ?_
      exact Kx _ rfl
    · have h := br_n c21 h
      refine J_aload_n dX0_workBack_10 rfl 0 rfl ?_
      refine J_getr (j := 6) (t := 26) (r := 18) rfl (by decide) (by decide) rfl (by decide) rfl rfl kf_X0_21 dX0_workBack_11 ?_
      refine J_iload_n dX0_workBack_14 rfl 2 rfl ?_
      obtain ⟨u1, h2, h⟩ := br_b h
      refine J_iald rfl (by decide) h2 dX0_workBack_15 ?_
      refine J_istore_n (L' := [(3, .int (u1)), (0, .ref (14)), (1, .int (x1)), (2, .int (x2))]) dX0_workBack_16 rfl (by decide) rfl ?_
      refine J_iconst (-1) dX0_workBack_17 rfl ?_
      refine J_istore (L' := [(4, .int ((-1 : Int32))), (3, .int (u1)), (0, .ref (14)), (1, .int (x1)), (2, .int (x2))]) dX0_workBack_18 (by decide) rfl ?_
      refine J_iconst 0 dX0_workBack_20 rfl ?_
      refine J_istore (L' := [(5, .int ((0 : Int32))), (4, .int ((-1 : Int32))), (3, .int (u1)), (0, .ref (14)), (1, .int (x1)), (2, .int (x2))]) dX0_workBack_21 (by decide) rfl ?_
      refine J_sub [3, 4, 5, 2, 1, 0] rfl ?_
      obtain ⟨z13, h14, h⟩ := br_b h
      refine jl_X0_workBack_23  FU _ _ _ h14 ?_
      intro v15 v16 e
      subst e
      refine J_aload_n dX0_workBack_95 rfl 0 rfl ?_
      refine J_getr (j := 6) (t := 26) (r := 18) rfl (by decide) (by decide) rfl (by decide) rfl rfl kf_X0_21 dX0_workBack_96 ?_
      refine J_iload_n dX0_workBack_99 rfl 2 rfl ?_
      refine J_iload_n dX0_workBack_100 rfl 3 rfl ?_
      obtain ⟨C17, h18, h⟩ := br_b h
      refine J_iast rfl (by decide) h18 dX0_workBack_101 ?_
      refine J_aload_n dX0_workBack_102 rfl 0 rfl ?_
      refine J_getr (j := 7) (t := 27) (r := 19) rfl (by decide) (by decide) rfl (by decide) rfl rfl kf_X0_24 dX0_workBack_103 ?_
      refine J_iload_n dX0_workBack_106 rfl 1 rfl ?_
      refine J_aload_n dX0_workBack_107 rfl 0 rfl ?_
      refine J_geti (j := 5) rfl (by decide) (by decide) rfl (by decide) rfl kf_X0_74 dX0_workBack_108 ?_
      refine J_imul dX0_workBack_111 ?_
      refine J_iload_n dX0_workBack_112 rfl 2 rfl ?_
      refine J_iadd dX0_workBack_113 ?_
      refine J_iload dX0_workBack_114 4 rfl ?_
      obtain ⟨C19, h20, h⟩ := br_b h
      refine J_iast rfl (by decide) h20 dX0_workBack_116 ?_
      refine J_iinc (j := 2) (v := (x2 + (1 : Int32))) (L' := [(2, .int ((x2 + (1 : Int32)))), (0, .ref (14)), (1, .int (x1)), (3, .int (v15)), (4, .int (v16))]) dX0_workBack_117 rfl rfl (by decide) rfl ?_
      refine J_goto 2 dX0_workBack_120 (by decide) ?_
      have h := Option.some.inj h
      subst h
      refine J_sub [1, 2, 0] rfl ?_
      exact ih _ _ h2 Kx
def f_X0_workBack (x1 : Int32) (C : aSc) : Option (aSc) :=
  (lpf (fun a : Int32 × aSc => b_X0_workBack_2 (x1) a.1 a.2) FU ((0 : Int32), C)).bind fun z22 => some z22
set_option maxRecDepth 100000 in
set_option maxHeartbeats 4000000 in
theorem jm_X0_workBack {x1 : Int32} {C : aSc} {M : aMm}  {res : aRes} {r : aSc} (h : f_X0_workBack x1 C = some r) (Kr : ∀ (S' : aSc), r = S' → res = (none, (S', M))) : J mi_X0_workBack res 0 0 0 [(0, .ref (14)), (1, .int (x1))] [] (C, M) := by
  rw [f_X0_workBack] at h
  refine J_iconst 0 dX0_workBack_0 rfl ?_
  refine J_istore_n (L' := [(2, .int ((0 : Int32))), (0, .ref (14)), (1, .int (x1))]) dX0_workBack_1 rfl (by decide) rfl ?_
  refine J_sub [1, 2, 0] rfl ?_
  obtain ⟨z22, h23, h⟩ := br_b h
  refine jl_X0_workBack_2  FU _ _ h23 ?_
  intro zz e
  subst e
  have h := Option.some.inj h
  subst h
  exact J_vret rfl rfl rfl (Kr _ rfl) dX0_workBack_123
theorem ct_X0_workBack {x1 : Int32} {C : aSc} {M : aMm} {S' : aSc}  (h : f_X0_workBack x1 C = some S') : Ct mi_X0_workBack yX0_workBack [.ref (14), .int (x1)] (C, M) (none, (S', M)) := Ct_of_J (by decide +kernel) rfl (Nat.le_of_ble_eq_true rfl) (jm_X0_workBack  h (fun _ e => by cases e; rfl))
def mi_X0_follow : aMi := (cX0_follow, 5, RX0, none, { frames := 0, cells := 0, slots := 0, locals := 0 })
def g_X0_follow_46 (x2 : Int32) (x3 : Int32) (x4 : Int32) (t0 : Int32) (t1 : Int32) (C : aSc) : Option ((Int32 × Int32 × aSc) ⊕ (aSc)) :=
  (a_st C 15 t1 t0).bind fun C5 => if 0 ≤ (x4 : Int32) then some (.inl ((x2 ||| ((1 : Int32) <<< (x4 &&& 31))), (x3 + (1 : Int32)), C5)) else some (.inl (x2, (x3 + (1 : Int32)), C5))
set_option maxRecDepth 100000 in
set_option maxHeartbeats 4000000 in
theorem jb_X0_follow_46 {x2 : Int32} {x3 : Int32} {x4 : Int32} {t0 : Int32} {t1 : Int32} {C : aSc} {M : aMm}  {res : aRes} {r : (Int32 × Int32 × aSc) ⊕ (aSc)} (h : g_X0_follow_46 x2 x3 x4 t0 t1 C = some r) (Kn : ∀ (y2 : Int32) (y3 : Int32) (S2 : aSc), r = .inl (y2, y3, S2) → J mi_X0_follow res 0 0 4 [(0, .ref (14)), (2, .int (y2)), (3, .int (y3))] [] (S2, M)) (Kx : ∀ (S2 : aSc), r = .inr S2 → J mi_X0_follow res 0 0 69 [] [] (S2, M)) : J mi_X0_follow res 0 0 46 [(0, .ref (14)), (2, .int (x2)), (3, .int (x3)), (4, .int (x4))] [.int (t0), .int (t1), .ref (15)] (C, M) := by
  rw [g_X0_follow_46] at h
  obtain ⟨C5, h6, h⟩ := br_b h
  refine J_iast rfl (by decide) h6 dX0_follow_46 ?_
  refine J_iload dX0_follow_47 3 rfl ?_
  refine J_if_ge 56 dX0_follow_49 (by decide) (fun c7 => ?_) (fun c7 => ?_)
  · have h := br_p c7 h
    refine J_iload_n dX0_follow_56 rfl 1 rfl ?_
    refine J_iconst 1 dX0_follow_57 rfl ?_
    refine J_iload dX0_follow_58 3 rfl ?_
    refine J_ishl dX0_follow_60 ?_
    refine J_ior dX0_follow_61 ?_
    refine J_istore_n (L' := [(2, .int ((x2 ||| ((1 : Int32) <<< (x4 &&& 31))))), (0, .ref (14)), (3, .int (x3)), (4, .int (x4))]) dX0_follow_62 rfl (by decide) rfl ?_
    refine J_iinc (j := 2) (v := (x3 + (1 : Int32))) (L' := [(3, .int ((x3 + (1 : Int32)))), (2, .int ((x2 ||| ((1 : Int32) <<< (x4 &&& 31))))), (0, .ref (14)), (4, .int (x4))]) dX0_follow_63 rfl rfl (by decide) rfl ?_
    refine J_goto 4 dX0_follow_66 (by decide) ?_
    have h := Option.some.inj h
    subst h
    refine J_sub [2, 1, 0] rfl ?_
    exact Kn _ _ _ rfl
  · have h := br_n c7 h
    refine J_iload_n dX0_follow_52 rfl 1 rfl ?_
    refine J_goto 62 dX0_follow_53 (by decide) ?_
    refine J_istore_n (L' := [(2, .int (x2)), (0, .ref (14)), (3, .int (x3)), (4, .int (x4))]) dX0_follow_62 rfl (by decide) rfl ?_
    refine J_iinc (j := 2) (v := (x3 + (1 : Int32))) (L' := [(3, .int ((x3 + (1 : Int32)))), (2, .int (x2)), (0, .ref (14)), (4, .int (x4))]) dX0_follow_63 rfl rfl (by decide) rfl ?_
    refine J_goto 4 dX0_follow_66 (by decide) ?_
    have h := Option.some.inj h
    subst h
    refine J_sub [2, 1, 0] rfl ?_
    exact Kn _ _ _ rfl
def b_X0_follow_4  (x2 : Int32) (x3 : Int32) (C : aSc) : Option ((Int32 × Int32 × aSc) ⊕ (aSc)) :=
  if ((20 : Int32) : Int32) ≤ x3 then some (.inr C) else (a_ld C 19 ((x3 * (a_gi C 14 5)) + x2)).bind fun u1 => if 0 ≤ (u1 : Int32) then (a_ld C 16 u1).bind fun u3 => g_X0_follow_46 (x2) (x3) (u1) (u3) (x3) C else g_X0_follow_46 (x2) (x3) (u1) ((-1 : Int32)) (x3) C
set_option maxRecDepth 100000 in
set_option maxHeartbeats 4000000 in
theorem jl_X0_follow_4  {M : aMm}  {res : aRes} {r : aSc} : ∀ (n : Nat) (x2 : Int32) (x3 : Int32) (C : aSc), lpf (fun a : Int32 × Int32 × aSc => b_X0_follow_4  a.1 a.2.1 a.2.2) n (x2, x3, C) = some r → (∀ (S2 : aSc), r = S2 → J mi_X0_follow res 0 0 69 [] [] (S2, M)) → J mi_X0_follow res 0 0 4 [(0, .ref (14)), (2, .int (x2)), (3, .int (x3))] [] (C, M) := by
  intro n
  induction n with
  | zero =>
    intro x2 x3 C h
    cases h
  | succ n ih =>
    intro x2 x3 C h Kx
    obtain ⟨r0, h, h2⟩ := br_b h
    have h : b_X0_follow_4  x2 x3 C = some r0 := h
    rw [b_X0_follow_4] at h
    refine J_iload_n dX0_follow_4 rfl 2 rfl ?_
    refine J_bipush 20 dX0_follow_5 rfl ?_
    refine J_icmp_ge 69 dX0_follow_7 (by decide) (fun c9 => ?_) (fun c9 => ?_)
    · have h := br_p c9 h
      have h := Option.some.inj h
      subst h
      have h2 := Option.some.inj h2
      subst h2
      refine J_sub [] rfl ?_
      exact Kx _ rfl
    · have h := br_n c9 h
      refine J_aload_n dX0_follow_10 rfl 0 rfl ?_
      refine J_getr (j := 7) (t := 27) (r := 19) rfl (by decide) (by decide) rfl (by decide) rfl rfl kf_X0_24 dX0_follow_11 ?_
      refine J_iload_n dX0_follow_14 rfl 2 rfl ?_
      refine J_aload_n dX0_follow_15 rfl 0 rfl ?_
      refine J_geti (j := 5) rfl (by decide) (by decide) rfl (by decide) rfl kf_X0_74 dX0_follow_16 ?_
      refine J_imul dX0_follow_19 ?_
      refine J_iload_n dX0_follow_20 rfl 1 rfl ?_
      refine J_iadd dX0_follow_21 ?_
      obtain ⟨u1, h2, h⟩ := br_b h
      refine J_iald rfl (by decide) h2 dX0_follow_22 ?_
      refine J_istore (L' := [(4, .int (u1)), (0, .ref (14)), (2, .int (x2)), (3, .int (x3))]) dX0_follow_23 (by decide) rfl ?_
      refine J_aload_n dX0_follow_25 rfl 1 rfl ?_
      refine J_getr (j := 1) (t := 23) (r := 15) rfl (by decide) (by decide) rfl (by decide) rfl rfl kf_X0_9 dX0_follow_26 ?_
      refine J_iload_n dX0_follow_29 rfl 3 rfl ?_
      refine J_iload dX0_follow_30 0 rfl ?_
      refine J_if_ge 39 dX0_follow_32 (by decide) (fun c8 => ?_) (fun c8 => ?_)
      · have h := br_p c8 h
        refine J_aload_n dX0_follow_39 rfl 1 rfl ?_
        refine J_getr (j := 2) (t := 24) (r := 16) rfl (by decide) (by decide) rfl (by decide) rfl rfl kf_X0_15 dX0_follow_40 ?_
        refine J_iload dX0_follow_43 0 rfl ?_
        obtain ⟨u3, h4, h⟩ := br_b h
        refine J_iald rfl (by decide) h4 dX0_follow_45 ?_
        refine J_sub [1, 2, 3, 0] rfl ?_
        exact jb_X0_follow_46  h (fun _ _ _ e => by subst e; exact ih _ _ _ h2 Kx) (fun _ e => by subst e; have h2 := Option.some.inj h2; subst h2; exact Kx _ rfl)
      · have h := br_n c8 h
        refine J_iconst (-1) dX0_follow_35 rfl ?_
        refine J_goto 46 dX0_follow_36 (by decide) ?_
        refine J_sub [1, 2, 3, 0] rfl ?_
        exact jb_X0_follow_46  h (fun _ _ _ e => by subst e; exact ih _ _ _ h2 Kx) (fun _ e => by subst e; have h2 := Option.some.inj h2; subst h2; exact Kx _ rfl)
def f_X0_follow (x1 : Int32) (C : aSc) : Option (aSc) :=
  (lpf (fun a : Int32 × Int32 × aSc => b_X0_follow_4  a.1 a.2.1 a.2.2) FU ((0 : Int32), x1, C)).bind fun z10 => some z10
set_option maxRecDepth 100000 in
set_option maxHeartbeats 4000000 in
theorem jm_X0_follow {x1 : Int32} {C : aSc} {M : aMm}  {res : aRes} {r : aSc} (h : f_X0_follow x1 C = some r) (Kr : ∀ (S' : aSc), r = S' → res = (none, (S', M))) : J mi_X0_follow res 0 0 0 [(0, .ref (14)), (1, .int (x1))] [] (C, M) := by
  rw [f_X0_follow] at h
  refine J_iconst 0 dX0_follow_0 rfl ?_
  refine J_istore_n (L' := [(2, .int ((0 : Int32))), (0, .ref (14)), (1, .int (x1))]) dX0_follow_1 rfl (by decide) rfl ?_
  refine J_iload_n dX0_follow_2 rfl 2 rfl ?_
  refine J_istore_n (L' := [(3, .int (x1)), (2, .int ((0 : Int32))), (0, .ref (14)), (1, .int (x1))]) dX0_follow_3 rfl (by decide) rfl ?_
  refine J_sub [2, 1, 0] rfl ?_
  obtain ⟨z10, h11, h⟩ := br_b h
  refine jl_X0_follow_4  FU _ _ _ h11 ?_
  intro zz e
  subst e
  have h := Option.some.inj h
  subst h
  exact J_vret rfl rfl rfl (Kr _ rfl) dX0_follow_69
theorem ct_X0_follow {x1 : Int32} {C : aSc} {M : aMm} {S' : aSc}  (h : f_X0_follow x1 C = some S') : Ct mi_X0_follow yX0_follow [.ref (14), .int (x1)] (C, M) (none, (S', M)) := Ct_of_J (by decide +kernel) rfl (Nat.le_of_ble_eq_true rfl) (jm_X0_follow  h (fun _ e => by cases e; rfl))

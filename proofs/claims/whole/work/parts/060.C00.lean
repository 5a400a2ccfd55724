def mi_X7_refuse : aMi := (cX7_refuse, 2, RX7, (some .int), { frames := 0, cells := 0, slots := 0, locals := 0 })
def f_X7_refuse (x1 : Int32) (C : aSc) : Option (Int32 × aSc) :=
  (some (a_pi C 0 18 ((a_gi C 0 18) + (1 : Int32)))).bind fun C1 => some (x1, C1)
set_option maxRecDepth 100000 in
set_option maxHeartbeats 4000000 in
theorem jm_X7_refuse {x1 : Int32} {C : aSc} {M : aMm}  {res : aRes} {r : Int32 × aSc} (h : f_X7_refuse x1 C = some r) (Kr : ∀ (v : Int32) (S' : aSc), r = (v, S') → res = (some (.int v), (S', M))) : J mi_X7_refuse res 0 0 0 [(0, .ref (0)), (1, .int (x1))] [] (C, M) := by
  rw [f_X7_refuse] at h
  refine J_aload_n dX7_refuse_0 rfl 0 rfl ?_
  refine J_dup dX7_refuse_1 rfl ?_
  refine J_geti (j := 18) rfl (by decide) (by decide) rfl (by decide) rfl kf_X7_310 dX7_refuse_2 ?_
  refine J_iconst 1 dX7_refuse_5 rfl ?_
  refine J_iadd dX7_refuse_6 ?_
  obtain ⟨C1, e2, h⟩ := br_s h
  refine J_puti (j := 18) rfl (by decide) (by decide) rfl (by decide) rfl rfl rfl kf_X7_310 e2 dX7_refuse_7 ?_
  refine J_iload_n dX7_refuse_10 rfl 1 rfl ?_
  have h := Option.some.inj h
  subst h
  exact J_iret rfl rfl rfl (Kr _ _ rfl) dX7_refuse_11
theorem ct_X7_refuse {x1 : Int32} {C : aSc} {M : aMm} {v : Int32} {S' : aSc}  (h : f_X7_refuse x1 C = some (v, S')) : Ct mi_X7_refuse yX7_refuse [.ref (0), .int (x1)] (C, M) (some (.int v), (S', M)) := Ct_of_J (by decide +kernel) rfl (Nat.le_of_ble_eq_true rfl) (jm_X7_refuse  h (fun _ _ e => by cases e; rfl))
def mi_X5_append : aMi := (cX5_append, 5, RX5, none, { frames := 0, cells := 0, slots := 0, locals := 0 })
def b_X5_append_3 (x1 : Int32) (x2 : Int64) (x4 : Int32) (C : aSc) : Option ((Int32 × aSc) ⊕ (aSc)) :=
  if (x1 : Int32) ≤ x4 then some (.inr C) else if ((40 : Int32) : Int32) ≤ (a_gi C 1 1) then some (.inr C) else (a_st C 2 (a_gi C 1 1) ((((x2 >>> ((((8 : Int32) * x4) : Int32).toInt64 &&& 63)) &&& (255 : Int64)) : Int64).toInt32)).bind fun C1 => (some (a_pi C1 1 1 ((a_gi C1 1 1) + (1 : Int32)))).bind fun C3 => some (.inl ((x4 + (1 : Int32)), C3))
set_option maxRecDepth 100000 in
set_option maxHeartbeats 4000000 in
theorem jl_X5_append_3 {x1 : Int32} {x2 : Int64} {M : aMm}  {res : aRes} {r : aSc} : ∀ (n : Nat) (x4 : Int32) (C : aSc), lpf (fun a : Int32 × aSc => b_X5_append_3 (x1) (x2) a.1 a.2) n (x4, C) = some r → (∀ (S2 : aSc), r = S2 → J mi_X5_append res 0 0 55 [] [] (S2, M)) → J mi_X5_append res 0 0 3 [(0, .ref (1)), (1, .int (x1)), (2, .long (x2)), (4, .int (x4))] [] (C, M) := by
  intro n
  induction n with
  | zero =>
    intro x4 C h
    cases h
  | succ n ih =>
    intro x4 C h Kx
    obtain ⟨r0, h, h2⟩ := br_b h
    have h : b_X5_append_3 x1 x2 x4 C = some r0 := h
    rw [b_X5_append_3] at h
    refine J_iload dX5_append_3 3 rfl ?_
    refine J_iload_n dX5_append_5 rfl 1 rfl ?_
    refine J_icmp_ge 55 dX5_append_6 (by decide) (fun c6 => ?_) (fun c6 => ?_)
    · have h := br_p c6 h
      have h := Option.some.inj h
      subst h
      have h2 := Option.some.inj h2
      subst h2
      refine J_sub [] rfl ?_
      exact Kx _ rfl
    · have h := br_n c6 h
      refine J_aload_n dX5_append_9 rfl 0 rfl ?_
      refine J_geti (j := 1) rfl (by decide) (by decide) rfl (by decide) rfl kf_X5_13 dX5_append_10 ?_
      refine J_bipush 40 dX5_append_13 rfl ?_
      refine J_icmp_ge 55 dX5_append_15 (by decide) (fun c5 => ?_) (fun c5 => ?_)
      · have h := br_p c5 h
        have h := Option.some.inj h
        subst h
        have h2 := Option.some.inj h2
        subst h2
        refine J_sub [] rfl ?_
        exact Kx _ rfl
      · have h := br_n c5 h
        refine J_aload_n dX5_append_18 rfl 0 rfl ?_
        refine J_getr (j := 0) (t := 10) (r := 2) rfl (by decide) (by decide) rfl (by decide) rfl rfl kf_X5_9 dX5_append_19 ?_
        refine J_aload_n dX5_append_22 rfl 0 rfl ?_
        refine J_geti (j := 1) rfl (by decide) (by decide) rfl (by decide) rfl kf_X5_13 dX5_append_23 ?_
        refine J_lload_n dX5_append_26 rfl 2 rfl ?_
        refine J_bipush 8 dX5_append_27 rfl ?_
        refine J_iload dX5_append_29 3 rfl ?_
        refine J_imul dX5_append_31 ?_
        refine J_lshr dX5_append_32 ?_
        refine J_ldc2 255 dX5_append_33 kl_X5_17 ?_
        refine J_land dX5_append_36 ?_
        refine J_l2i dX5_append_37 ?_
        obtain ⟨C1, h2, h⟩ := br_b h
        refine J_iast rfl (by decide) h2 dX5_append_38 ?_
        refine J_aload_n dX5_append_39 rfl 0 rfl ?_
        refine J_dup dX5_append_40 rfl ?_
        refine J_geti (j := 1) rfl (by decide) (by decide) rfl (by decide) rfl kf_X5_13 dX5_append_41 ?_
        refine J_iconst 1 dX5_append_44 rfl ?_
        refine J_iadd dX5_append_45 ?_
        obtain ⟨C3, e4, h⟩ := br_s h
        refine J_puti (j := 1) rfl (by decide) (by decide) rfl (by decide) rfl rfl rfl kf_X5_13 e4 dX5_append_46 ?_
        refine J_iinc (j := 3) (v := (x4 + (1 : Int32))) (L' := [(4, .int ((x4 + (1 : Int32)))), (0, .ref (1)), (1, .int (x1)), (2, .long (x2))]) dX5_append_49 rfl rfl (by decide) rfl ?_
        refine J_goto 3 dX5_append_52 (by decide) ?_
        have h := Option.some.inj h
        subst h
        refine J_sub [1, 2, 3, 0] rfl ?_
        exact ih _ _ h2 Kx
def f_X5_append (x1 : Int32) (x2 : Int64) (C : aSc) : Option (aSc) :=
  (lpf (fun a : Int32 × aSc => b_X5_append_3 (x1) (x2) a.1 a.2) FU ((0 : Int32), C)).bind fun z7 => some z7
set_option maxRecDepth 100000 in
set_option maxHeartbeats 4000000 in
theorem jm_X5_append {x1 : Int32} {x2 : Int64} {C : aSc} {M : aMm}  {res : aRes} {r : aSc} (h : f_X5_append x1 x2 C = some r) (Kr : ∀ (S' : aSc), r = S' → res = (none, (S', M))) : J mi_X5_append res 0 0 0 [(0, .ref (1)), (1, .int (x1)), (2, .long (x2))] [] (C, M) := by
  rw [f_X5_append] at h
  refine J_iconst 0 dX5_append_0 rfl ?_
  refine J_istore (L' := [(4, .int ((0 : Int32))), (0, .ref (1)), (1, .int (x1)), (2, .long (x2))]) dX5_append_1 (by decide) rfl ?_
  refine J_sub [1, 2, 3, 0] rfl ?_
  obtain ⟨z7, h8, h⟩ := br_b h
  refine jl_X5_append_3  FU _ _ h8 ?_
  intro zz e
  subst e
  have h := Option.some.inj h
  subst h
  exact J_vret rfl rfl rfl (Kr _ rfl) dX5_append_55
theorem ct_X5_append {x1 : Int32} {x2 : Int64} {C : aSc} {M : aMm} {S' : aSc}  (h : f_X5_append x1 x2 C = some S') : Ct mi_X5_append yX5_append [.ref (1), .int (x1), .long (x2)] (C, M) (none, (S', M)) := Ct_of_J (by decide +kernel) rfl (Nat.le_of_ble_eq_true rfl) (jm_X5_append  h (fun _ e => by cases e; rfl))
def mi_X7_feed : aMi := (cX7_feed, 4, RX7, (some .int), { frames := 1, cells := 0, slots := 0, locals := 24 })
def f_X7_feed (x1 : Int32) (x2 : Int64) (C : aSc) : Option (Int32 × aSc) :=
  if (x1 : Int32) < (1 : Int32) then bd2 (f_X7_refuse (-100001 : Int32) C) fun r2 C3 => some (r2, C3) else if (x1 : Int32) ≤ (8 : Int32) then if (((a_gi C 1 1) + x1) : Int32) ≤ (40 : Int32) then (f_X5_append x1 x2 C).bind fun C5 => some ((a_gi C5 1 1), C5) else bd2 (f_X7_refuse (-100005 : Int32) C) fun r7 C8 => some (r7, C8) else bd2 (f_X7_refuse (-100001 : Int32) C) fun r11 C12 => some (r11, C12)
set_option maxRecDepth 100000 in
set_option maxHeartbeats 4000000 in
theorem jm_X7_feed {x1 : Int32} {x2 : Int64} {C : aSc} {M : aMm}  {res : aRes} {r : Int32 × aSc} (h : f_X7_feed x1 x2 C = some r) (Kr : ∀ (v : Int32) (S' : aSc), r = (v, S') → res = (some (.int v), (S', M))) : J mi_X7_feed res 0 0 0 [(0, .ref (0)), (1, .int (x1)), (2, .long (x2))] [] (C, M) := by
  rw [f_X7_feed] at h
  refine J_iload_n dX7_feed_0 rfl 1 rfl ?_
  refine J_iconst 1 dX7_feed_1 rfl ?_
  refine J_icmp_lt 11 dX7_feed_2 (by decide) (fun c14 => ?_) (fun c14 => ?_)
  · have h := br_p c14 h
    refine J_aload_n dX7_feed_11 rfl 0 rfl ?_
    refine J_ldc (-100001) dX7_feed_12 kc_X7_68 ?_
    obtain ⟨r2, C3, h1, h⟩ := br_b2 h
    refine J_callV (mj := mi_X7_refuse) (as := [.int ((-100001 : Int32))]) (rest := []) (ct_X7_refuse (M := M)  h1) ⟨rfl, rfl⟩ rfl rfl (by decide) rfl cg_X7_69 hd_X7_refuse rfl ⟨Nat.le_of_ble_eq_true rfl, Nat.le_of_ble_eq_true rfl⟩ (Nat.le_of_ble_eq_true rfl) ⟨Nat.zero_le _, Nat.zero_le _⟩ dX7_feed_14 ?_
    have h := Option.some.inj h
    subst h
    exact J_iret rfl rfl rfl (Kr _ _ rfl) dX7_feed_17
  · have h := br_n c14 h
    refine J_iload_n dX7_feed_5 rfl 1 rfl ?_
    refine J_bipush 8 dX7_feed_6 rfl ?_
    refine J_icmp_le 18 dX7_feed_8 (by decide) (fun c13 => ?_) (fun c13 => ?_)
    · have h := br_p c13 h
      refine J_aload_n dX7_feed_18 rfl 0 rfl ?_
      refine J_getr (j := 0) (t := 9) (r := 1) rfl (by decide) (by decide) rfl (by decide) rfl rfl kf_X7_10 dX7_feed_19 ?_
      refine J_geti (j := 1) rfl (by decide) (by decide) rfl (by decide) rfl kf_X7_73 dX7_feed_22 ?_
      refine J_iload_n dX7_feed_25 rfl 1 rfl ?_
      refine J_iadd dX7_feed_26 ?_
      refine J_bipush 40 dX7_feed_27 rfl ?_
      refine J_icmp_le 39 dX7_feed_29 (by decide) (fun c9 => ?_) (fun c9 => ?_)
      · have h := br_p c9 h
        refine J_aload_n dX7_feed_39 rfl 0 rfl ?_
        refine J_getr (j := 0) (t := 9) (r := 1) rfl (by decide) (by decide) rfl (by decide) rfl rfl kf_X7_10 dX7_feed_40 ?_
        refine J_iload_n dX7_feed_43 rfl 1 rfl ?_
        refine J_lload_n dX7_feed_44 rfl 2 rfl ?_
        obtain ⟨C5, h4, h⟩ := br_b h
        refine J_callV (mj := mi_X5_append) (as := [.int (x1), .long (x2)]) (rest := []) (ct_X5_append (M := M)  h4) ⟨rfl, rfl⟩ rfl rfl (by decide) rfl cg_X7_78 hd_X5_append rfl ⟨Nat.le_of_ble_eq_true rfl, Nat.le_of_ble_eq_true rfl⟩ (Nat.le_of_ble_eq_true rfl) ⟨Nat.zero_le _, Nat.zero_le _⟩ dX7_feed_45 ?_
        refine J_aload_n dX7_feed_48 rfl 0 rfl ?_
        refine J_getr (j := 0) (t := 9) (r := 1) rfl (by decide) (by decide) rfl (by decide) rfl rfl kf_X7_10 dX7_feed_49 ?_
        refine J_geti (j := 1) rfl (by decide) (by decide) rfl (by decide) rfl kf_X7_73 dX7_feed_52 ?_
        have h := Option.some.inj h
        subst h
        exact J_iret rfl rfl rfl (Kr _ _ rfl) dX7_feed_55
      · have h := br_n c9 h
        refine J_aload_n dX7_feed_32 rfl 0 rfl ?_
        refine J_ldc (-100005) dX7_feed_33 kc_X7_77 ?_
        obtain ⟨r7, C8, h6, h⟩ := br_b2 h
        refine J_callV (mj := mi_X7_refuse) (as := [.int ((-100005 : Int32))]) (rest := []) (ct_X7_refuse (M := M)  h6) ⟨rfl, rfl⟩ rfl rfl (by decide) rfl cg_X7_69 hd_X7_refuse rfl ⟨Nat.le_of_ble_eq_true rfl, Nat.le_of_ble_eq_true rfl⟩ (Nat.le_of_ble_eq_true rfl) ⟨Nat.zero_le _, Nat.zero_le _⟩ dX7_feed_35 ?_
        have h := Option.some.inj h
        subst h
        exact J_iret rfl rfl rfl (Kr _ _ rfl) dX7_feed_38
    · have h := br_n c13 h
      refine J_aload_n dX7_feed_11 rfl 0 rfl ?_
      refine J_ldc (-100001) dX7_feed_12 kc_X7_68 ?_
      obtain ⟨r11, C12, h10, h⟩ := br_b2 h
      refine J_callV (mj := mi_X7_refuse) (as := [.int ((-100001 : Int32))]) (rest := []) (ct_X7_refuse (M := M)  h10) ⟨rfl, rfl⟩ rfl rfl (by decide) rfl cg_X7_69 hd_X7_refuse rfl ⟨Nat.le_of_ble_eq_true rfl, Nat.le_of_ble_eq_true rfl⟩ (Nat.le_of_ble_eq_true rfl) ⟨Nat.zero_le _, Nat.zero_le _⟩ dX7_feed_14 ?_
      have h := Option.some.inj h
      subst h
      exact J_iret rfl rfl rfl (Kr _ _ rfl) dX7_feed_17
theorem ct_X7_feed {x1 : Int32} {x2 : Int64} {C : aSc} {M : aMm} {v : Int32} {S' : aSc}  (h : f_X7_feed x1 x2 C = some (v, S')) : Ct mi_X7_feed yX7_feed [.ref (0), .int (x1), .long (x2)] (C, M) (some (.int v), (S', M)) := Ct_of_J (by decide +kernel) rfl (Nat.le_of_ble_eq_true rfl) (jm_X7_feed  h (fun _ _ e => by cases e; rfl))
def mi_X7_isKind : aMi := (cX7_isKind, 1, RX7, (some .boolean), { frames := 0, cells := 0, slots := 0, locals := 0 })
def f_X7_isKind (x0 : Int32) (C : aSc) : Option (Int32) :=
  if (x0 : Int32) < 0 then some (0 : Int32) else if ((3 : Int32) : Int32) < x0 then some (0 : Int32) else some (1 : Int32)
set_option maxRecDepth 100000 in
set_option maxHeartbeats 4000000 in
theorem jm_X7_isKind {x0 : Int32} {C : aSc} {M : aMm}  {res : aRes} {r : Int32} (h : f_X7_isKind x0 C = some r) (Kr : ∀ (v : Int32), r = v → res = (some (.int v), (C, M))) : J mi_X7_isKind res 0 0 0 [(0, .int (x0))] [] (C, M) := by
  rw [f_X7_isKind] at h
  refine J_iload_n dX7_isKind_0 rfl 0 rfl ?_
  refine J_if_lt 13 dX7_isKind_1 (by decide) (fun c2 => ?_) (fun c2 => ?_)
  · have h := br_p c2 h
    refine J_iconst 0 dX7_isKind_13 rfl ?_
    have h := Option.some.inj h
    subst h
    exact J_zret (Or.inl rfl) rfl rfl rfl (Kr _ rfl) dX7_isKind_14
  · have h := br_n c2 h
    refine J_iload_n dX7_isKind_4 rfl 0 rfl ?_
    refine J_iconst 3 dX7_isKind_5 rfl ?_
    refine J_icmp_gt 13 dX7_isKind_6 (by decide) (fun c1 => ?_) (fun c1 => ?_)
    · have h := br_p c1 h
      refine J_iconst 0 dX7_isKind_13 rfl ?_
      have h := Option.some.inj h
      subst h
      exact J_zret (Or.inl rfl) rfl rfl rfl (Kr _ rfl) dX7_isKind_14
    · have h := br_n c1 h
      refine J_iconst 1 dX7_isKind_9 rfl ?_
      refine J_goto 14 dX7_isKind_10 (by decide) ?_
      have h := Option.some.inj h
      subst h
      exact J_zret (Or.inr rfl) rfl rfl rfl (Kr _ rfl) dX7_isKind_14
theorem ct_X7_isKind {x0 : Int32} {C : aSc} {M : aMm} {v : Int32}  (h : f_X7_isKind x0 C = some v) : Ct mi_X7_isKind yX7_isKind [.int (x0)] (C, M) (some (.int v), (C, M)) := Ct_of_J (by decide +kernel) rfl (Nat.le_of_ble_eq_true rfl) (jm_X7_isKind  h (fun _ e => by cases e; rfl))
def mi_X7_isCell : aMi := (cX7_isCell, 1, RX7, (some .boolean), { frames := 0, cells := 0, slots := 0, locals := 0 })
def f_X7_isCell (x0 : Int32) (C : aSc) : Option (Int32) :=
  if (x0 : Int32) < 0 then some (0 : Int32) else if ((256 : Int32) : Int32) ≤ x0 then some (0 : Int32) else some (1 : Int32)
set_option maxRecDepth 100000 in
set_option maxHeartbeats 4000000 in
theorem jm_X7_isCell {x0 : Int32} {C : aSc} {M : aMm}  {res : aRes} {r : Int32} (h : f_X7_isCell x0 C = some r) (Kr : ∀ (v : Int32), r = v → res = (some (.int v), (C, M))) : J mi_X7_isCell res 0 0 0 [(0, .int (x0))] [] (C, M) := by
  rw [f_X7_isCell] at h
  refine J_iload_n dX7_isCell_0 rfl 0 rfl ?_
  refine J_if_lt 15 dX7_isCell_1 (by decide) (fun c2 => ?_) (fun c2 => ?_)
  · have h := br_p c2 h
    refine J_iconst 0 dX7_isCell_15 rfl ?_
    have h := Option.some.inj h
    subst h
    exact J_zret (Or.inl rfl) rfl rfl rfl (Kr _ rfl) dX7_isCell_16
  · have h := br_n c2 h
    refine J_iload_n dX7_isCell_4 rfl 0 rfl ?_
    refine J_sipush 256 dX7_isCell_5 rfl ?_
    refine J_icmp_ge 15 dX7_isCell_8 (by decide) (fun c1 => ?_) (fun c1 => ?_)
    · have h := br_p c1 h
      refine J_iconst 0 dX7_isCell_15 rfl ?_
      have h := Option.some.inj h
      subst h
      exact J_zret (Or.inl rfl) rfl rfl rfl (Kr _ rfl) dX7_isCell_16
    · have h := br_n c1 h
      refine J_iconst 1 dX7_isCell_11 rfl ?_
      refine J_goto 16 dX7_isCell_12 (by decide) ?_
      have h := Option.some.inj h
      subst h
      exact J_zret (Or.inr rfl) rfl rfl rfl (Kr _ rfl) dX7_isCell_16
theorem ct_X7_isCell {x0 : Int32} {C : aSc} {M : aMm} {v : Int32}  (h : f_X7_isCell x0 C = some v) : Ct mi_X7_isCell yX7_isCell [.int (x0)] (C, M) (some (.int v), (C, M)) := Ct_of_J (by decide +kernel) rfl (Nat.le_of_ble_eq_true rfl) (jm_X7_isCell  h (fun _ e => by cases e; rfl))
def mi_X5_takes : aMi := (cX5_takes, 2, RX5, (some .boolean), { frames := 0, cells := 0, slots := 0, locals := 0 })
def f_X5_takes (x1 : Int32) (C : aSc) : Option (Int32 × aSc) :=
  if ((a_gi C 1 1) : Int32) ≤ (a_gi C 1 2) then some ((0 : Int32), C) else (a_ld C 2 (a_gi C 1 2)).bind fun u1 => if (u1 : Int32) = x1 then (some (a_pi C 1 2 ((a_gi C 1 2) + (1 : Int32)))).bind fun C3 => some ((1 : Int32), C3) else some ((0 : Int32), C)
set_option maxRecDepth 100000 in
set_option maxHeartbeats 4000000 in
theorem jm_X5_takes {x1 : Int32} {C : aSc} {M : aMm}  {res : aRes} {r : Int32 × aSc} (h : f_X5_takes x1 C = some r) (Kr : ∀ (v : Int32) (S' : aSc), r = (v, S') → res = (some (.int v), (S', M))) : J mi_X5_takes res 0 0 0 [(0, .ref (1)), (1, .int (x1))] [] (C, M) := by
  rw [f_X5_takes] at h
  refine J_aload_n dX5_takes_0 rfl 0 rfl ?_
  refine J_geti (j := 2) rfl (by decide) (by decide) rfl (by decide) rfl kf_X5_19 dX5_takes_1 ?_
  refine J_aload_n dX5_takes_4 rfl 0 rfl ?_
  refine J_geti (j := 1) rfl (by decide) (by decide) rfl (by decide) rfl kf_X5_13 dX5_takes_5 ?_
  refine J_icmp_ge 24 dX5_takes_8 (by decide) (fun c6 => ?_) (fun c6 => ?_)
  · have h := br_p c6 h
    refine J_iconst 0 dX5_takes_24 rfl ?_
    have h := Option.some.inj h
    subst h
    exact J_zret (Or.inl rfl) rfl rfl rfl (Kr _ _ rfl) dX5_takes_25
  · have h := br_n c6 h
    refine J_aload_n dX5_takes_11 rfl 0 rfl ?_
    refine J_getr (j := 0) (t := 10) (r := 2) rfl (by decide) (by decide) rfl (by decide) rfl rfl kf_X5_9 dX5_takes_12 ?_
    refine J_aload_n dX5_takes_15 rfl 0 rfl ?_
    refine J_geti (j := 2) rfl (by decide) (by decide) rfl (by decide) rfl kf_X5_19 dX5_takes_16 ?_
    obtain ⟨u1, h2, h⟩ := br_b h
    refine J_iald rfl (by decide) h2 dX5_takes_19 ?_
    refine J_iload_n dX5_takes_20 rfl 1 rfl ?_
    refine J_icmp_eq 26 dX5_takes_21 (by decide) (fun c5 => ?_) (fun c5 => ?_)
    · have h := br_p c5 h
      refine J_aload_n dX5_takes_26 rfl 0 rfl ?_
      refine J_dup dX5_takes_27 rfl ?_
      refine J_geti (j := 2) rfl (by decide) (by decide) rfl (by decide) rfl kf_X5_19 dX5_takes_28 ?_
      refine J_iconst 1 dX5_takes_31 rfl ?_
      refine J_iadd dX5_takes_32 ?_
      obtain ⟨C3, e4, h⟩ := br_s h
      refine J_puti (j := 2) rfl (by decide) (by decide) rfl (by decide) rfl rfl rfl kf_X5_19 e4 dX5_takes_33 ?_
      refine J_iconst 1 dX5_takes_36 rfl ?_
      have h := Option.some.inj h
      subst h
      exact J_zret (Or.inr rfl) rfl rfl rfl (Kr _ _ rfl) dX5_takes_37
    · have h := br_n c5 h
      refine J_iconst 0 dX5_takes_24 rfl ?_
      have h := Option.some.inj h
      subst h
      exact J_zret (Or.inl rfl) rfl rfl rfl (Kr _ _ rfl) dX5_takes_25
theorem ct_X5_takes {x1 : Int32} {C : aSc} {M : aMm} {v : Int32} {S' : aSc}  (h : f_X5_takes x1 C = some (v, S')) : Ct mi_X5_takes yX5_takes [.ref (1), .int (x1)] (C, M) (some (.int v), (S', M)) := Ct_of_J (by decide +kernel) rfl (Nat.le_of_ble_eq_true rfl) (jm_X5_takes  h (fun _ _ e => by cases e; rfl))
def mi_X5_isDigit : aMi := (cX5_isDigit, 1, RX5, (some .boolean), { frames := 0, cells := 0, slots := 0, locals := 0 })
def f_X5_isDigit  (C : aSc) : Option (Int32) :=
  if ((a_gi C 1 1) : Int32) ≤ (a_gi C 1 2) then some (0 : Int32) else (a_ld C 2 (a_gi C 1 2)).bind fun u1 => if (u1 : Int32) < (48 : Int32) then some (0 : Int32) else (a_ld C 2 (a_gi C 1 2)).bind fun u3 => if ((57 : Int32) : Int32) < u3 then some (0 : Int32) else some (1 : Int32)
set_option maxRecDepth 100000 in
set_option maxHeartbeats 4000000 in
theorem jm_X5_isDigit  {C : aSc} {M : aMm}  {res : aRes} {r : Int32} (h : f_X5_isDigit  C = some r) (Kr : ∀ (v : Int32), r = v → res = (some (.int v), (C, M))) : J mi_X5_isDigit res 0 0 0 [(0, .ref (1))] [] (C, M) := by
  rw [f_X5_isDigit] at h
  refine J_aload_n dX5_isDigit_0 rfl 0 rfl ?_
  refine J_geti (j := 2) rfl (by decide) (by decide) rfl (by decide) rfl kf_X5_19 dX5_isDigit_1 ?_
  refine J_aload_n dX5_isDigit_4 rfl 0 rfl ?_
  refine J_geti (j := 1) rfl (by decide) (by decide) rfl (by decide) rfl kf_X5_13 dX5_isDigit_5 ?_
  refine J_icmp_ge 43 dX5_isDigit_8 (by decide) (fun c7 => ?_) (fun c7 => ?_)
  · have h := br_p c7 h
    refine J_iconst 0 dX5_isDigit_43 rfl ?_
    have h := Option.some.inj h
    subst h
    exact J_zret (Or.inl rfl) rfl rfl rfl (Kr _ rfl) dX5_isDigit_44
  · have h := br_n c7 h
    refine J_aload_n dX5_isDigit_11 rfl 0 rfl ?_
    refine J_getr (j := 0) (t := 10) (r := 2) rfl (by decide) (by decide) rfl (by decide) rfl rfl kf_X5_9 dX5_isDigit_12 ?_
    refine J_aload_n dX5_isDigit_15 rfl 0 rfl ?_
    refine J_geti (j := 2) rfl (by decide) (by decide) rfl (by decide) rfl kf_X5_19 dX5_isDigit_16 ?_
    obtain ⟨u1, h2, h⟩ := br_b h
    refine J_iald rfl (by decide) h2 dX5_isDigit_19 ?_
    refine J_bipush 48 dX5_isDigit_20 rfl ?_
    refine J_icmp_lt 43 dX5_isDigit_22 (by decide) (fun c6 => ?_) (fun c6 => ?_)
    · have h := br_p c6 h
      refine J_iconst 0 dX5_isDigit_43 rfl ?_
      have h := Option.some.inj h
      subst h
      exact J_zret (Or.inl rfl) rfl rfl rfl (Kr _ rfl) dX5_isDigit_44
    · have h := br_n c6 h
      refine J_aload_n dX5_isDigit_25 rfl 0 rfl ?_
      refine J_getr (j := 0) (t := 10) (r := 2) rfl (by decide) (by decide) rfl (by decide) rfl rfl kf_X5_9 dX5_isDigit_26 ?_
      refine J_aload_n dX5_isDigit_29 rfl 0 rfl ?_
      refine J_geti (j := 2) rfl (by decide) (by decide) rfl (by decide) rfl kf_X5_19 dX5_isDigit_30 ?_
      obtain ⟨u3, h4, h⟩ := br_b h
      refine J_iald rfl (by decide) h4 dX5_isDigit_33 ?_
      refine J_bipush 57 dX5_isDigit_34 rfl ?_
      refine J_icmp_gt 43 dX5_isDigit_36 (by decide) (fun c5 => ?_) (fun c5 => ?_)
      · have h := br_p c5 h
        refine J_iconst 0 dX5_isDigit_43 rfl ?_
        have h := Option.some.inj h
        subst h
        exact J_zret (Or.inl rfl) rfl rfl rfl (Kr _ rfl) dX5_isDigit_44
      · have h := br_n c5 h
        refine J_iconst 1 dX5_isDigit_39 rfl ?_
        refine J_goto 44 dX5_isDigit_40 (by decide) ?_
        have h := Option.some.inj h
        subst h
        exact J_zret (Or.inr rfl) rfl rfl rfl (Kr _ rfl) dX5_isDigit_44
theorem ct_X5_isDigit  {C : aSc} {M : aMm} {v : Int32}  (h : f_X5_isDigit  C = some v) : Ct mi_X5_isDigit yX5_isDigit [.ref (1)] (C, M) (some (.int v), (C, M)) := Ct_of_J (by decide +kernel) rfl (Nat.le_of_ble_eq_true rfl) (jm_X5_isDigit  h (fun _ e => by cases e; rfl))
def mi_X5_readNumber : aMi := (cX5_readNumber, 2, RX5, (some .boolean), { frames := 1, cells := 0, slots := 0, locals := 20 })
def b_X5_readNumber_7  (x1 : Int32) (C : aSc) : Option ((Int32 × aSc) ⊕ (Int32 × aSc)) :=
  if ((2 : Int32) : Int32) ≤ x1 then some (.inr (x1, C)) else (f_X5_isDigit  C).bind fun r4 => if (r4 : Int32) = 0 then some (.inr (x1, C)) else (a_ld C 2 (a_gi C 1 2)).bind fun u5 => (some (a_pi C 1 3 ((((a_gi C 1 3) * (10 : Int32)) + u5) - (48 : Int32)))).bind fun C7 => (some (a_pi C7 1 2 ((a_gi C7 1 2) + (1 : Int32)))).bind fun C9 => some (.inl ((x1 + (1 : Int32)), C9))
set_option maxRecDepth 100000 in
set_option maxHeartbeats 4000000 in
theorem jl_X5_readNumber_7  {M : aMm}  {res : aRes} {r : Int32 × aSc} : ∀ (n : Nat) (x1 : Int32) (C : aSc), lpf (fun a : Int32 × aSc => b_X5_readNumber_7  a.1 a.2) n (x1, C) = some r → (∀ (z1 : Int32) (S2 : aSc), r = (z1, S2) → J mi_X5_readNumber res 0 0 59 [(1, .int (z1))] [] (S2, M)) → J mi_X5_readNumber res 0 0 7 [(0, .ref (1)), (1, .int (x1))] [] (C, M) := by
  intro n
  induction n with
  | zero =>
    intro x1 C h
    cases h
  | succ n ih =>
    intro x1 C h Kx
    obtain ⟨r0, h, h2⟩ := br_b h
    have h : b_X5_readNumber_7  x1 C = some r0 := h
    rw [b_X5_readNumber_7] at h
    refine J_iload_n dX5_readNumber_7 rfl 1 rfl ?_
    refine J_iconst 2 dX5_readNumber_8 rfl ?_
    refine J_icmp_ge 59 dX5_readNumber_9 (by decide) (fun c12 => ?_) (fun c12 => ?_)
    · have h := br_p c12 h
      have h := Option.some.inj h
      subst h
      have h2 := Option.some.inj h2
      subst h2
      refine J_sub [1] rfl ?_
      exact Kx _ _ rfl
    · have h := br_n c12 h
      refine J_aload_n dX5_readNumber_12 rfl 0 rfl ?_
      obtain ⟨r4, h3, h⟩ := br_b h
      refine J_callV (mj := mi_X5_isDigit) (as := []) (rest := []) (ct_X5_isDigit (M := M)  h3) ⟨rfl, rfl⟩ rfl rfl (by decide) rfl cg_X5_63 hd_X5_isDigit rfl ⟨Nat.le_of_ble_eq_true rfl, Nat.le_of_ble_eq_true rfl⟩ (Nat.le_of_ble_eq_true rfl) ⟨Nat.zero_le _, Nat.zero_le _⟩ dX5_readNumber_13 ?_
      refine J_if_eq 59 dX5_readNumber_16 (by decide) (fun c11 => ?_) (fun c11 => ?_)
      · have h := br_p c11 h
        have h := Option.some.inj h
        subst h
        have h2 := Option.some.inj h2
        subst h2
        refine J_sub [1] rfl ?_
        exact Kx _ _ rfl
      · have h := br_n c11 h
        refine J_aload_n dX5_readNumber_19 rfl 0 rfl ?_
        refine J_aload_n dX5_readNumber_20 rfl 0 rfl ?_
        refine J_geti (j := 3) rfl (by decide) (by decide) rfl (by decide) rfl kf_X5_57 dX5_readNumber_21 ?_
        refine J_bipush 10 dX5_readNumber_24 rfl ?_
        refine J_imul dX5_readNumber_26 ?_
        refine J_aload_n dX5_readNumber_27 rfl 0 rfl ?_
        refine J_getr (j := 0) (t := 10) (r := 2) rfl (by decide) (by decide) rfl (by decide) rfl rfl kf_X5_9 dX5_readNumber_28 ?_
        refine J_aload_n dX5_readNumber_31 rfl 0 rfl ?_
        refine J_geti (j := 2) rfl (by decide) (by decide) rfl (by decide) rfl kf_X5_19 dX5_readNumber_32 ?_
        obtain ⟨u5, h6, h⟩ := br_b h
        refine J_iald rfl (by decide) h6 dX5_readNumber_35 ?_
        refine J_iadd dX5_readNumber_36 ?_
        refine J_bipush 48 dX5_readNumber_37 rfl ?_
        refine J_isub dX5_readNumber_39 ?_
        obtain ⟨C7, e8, h⟩ := br_s h
        refine J_puti (j := 3) rfl (by decide) (by decide) rfl (by decide) rfl rfl rfl kf_X5_57 e8 dX5_readNumber_40 ?_
        refine J_aload_n dX5_readNumber_43 rfl 0 rfl ?_
        refine J_dup dX5_readNumber_44 rfl ?_
        refine J_geti (j := 2) rfl (by decide) (by decide) rfl (by decide) rfl kf_X5_19 dX5_readNumber_45 ?_
        refine J_iconst 1 dX5_readNumber_48 rfl ?_
        refine J_iadd dX5_readNumber_49 ?_
        obtain ⟨C9, e10, h⟩ := br_s h
        refine J_puti (j := 2) rfl (by decide) (by decide) rfl (by decide) rfl rfl rfl kf_X5_19 e10 dX5_readNumber_50 ?_
        refine J_iinc (j := 1) (v := (x1 + (1 : Int32))) (L' := [(1, .int ((x1 + (1 : Int32)))), (0, .ref (1))]) dX5_readNumber_53 rfl rfl (by decide) rfl ?_
        refine J_goto 7 dX5_readNumber_56 (by decide) ?_
        have h := Option.some.inj h
        subst h
        refine J_sub [1, 0] rfl ?_
        exact ih _ _ h2 Kx
def f_X5_readNumber  (C : aSc) : Option (Int32 × aSc) :=
  (some (a_pi C 1 3 (0 : Int32))).bind fun C1 => (lpf (fun a : Int32 × aSc => b_X5_readNumber_7  a.1 a.2) FU ((0 : Int32), C1)).bind fun z13 => if (z13.1 : Int32) ≤ 0 then some ((0 : Int32), z13.2) else some ((1 : Int32), z13.2)
set_option maxRecDepth 100000 in
set_option maxHeartbeats 4000000 in
theorem jm_X5_readNumber  {C : aSc} {M : aMm}  {res : aRes} {r : Int32 × aSc} (h : f_X5_readNumber  C = some r) (Kr : ∀ (v : Int32) (S' : aSc), r = (v, S') → res = (some (.int v), (S', M))) : J mi_X5_readNumber res 0 0 0 [(0, .ref (1))] [] (C, M) := by
  rw [f_X5_readNumber] at h
  refine J_aload_n dX5_readNumber_0 rfl 0 rfl ?_
  refine J_iconst 0 dX5_readNumber_1 rfl ?_
  obtain ⟨C1, e2, h⟩ := br_s h
  refine J_puti (j := 3) rfl (by decide) (by decide) rfl (by decide) rfl rfl rfl kf_X5_57 e2 dX5_readNumber_2 ?_
  refine J_iconst 0 dX5_readNumber_5 rfl ?_
  refine J_istore_n (L' := [(1, .int ((0 : Int32))), (0, .ref (1))]) dX5_readNumber_6 rfl (by decide) rfl ?_
  refine J_sub [1, 0] rfl ?_
  obtain ⟨z13, h14, h⟩ := br_b h
  refine jl_X5_readNumber_7  FU _ _ h14 ?_
  intro v15 C16 e
  subst e
  refine J_iload_n dX5_readNumber_59 rfl 0 rfl ?_
  refine J_if_le 67 dX5_readNumber_60 (by decide) (fun c17 => ?_) (fun c17 => ?_)
  · have h := br_p c17 h
    refine J_iconst 0 dX5_readNumber_67 rfl ?_
    have h := Option.some.inj h
    subst h
    exact J_zret (Or.inl rfl) rfl rfl rfl (Kr _ _ rfl) dX5_readNumber_68
  · have h := br_n c17 h
    refine J_iconst 1 dX5_readNumber_63 rfl ?_
    refine J_goto 68 dX5_readNumber_64 (by decide) ?_
    have h := Option.some.inj h
    subst h
    exact J_zret (Or.inr rfl) rfl rfl rfl (Kr _ _ rfl) dX5_readNumber_68
theorem ct_X5_readNumber  {C : aSc} {M : aMm} {v : Int32} {S' : aSc}  (h : f_X5_readNumber  C = some (v, S')) : Ct mi_X5_readNumber yX5_readNumber [.ref (1)] (C, M) (some (.int v), (S', M)) := Ct_of_J (by decide +kernel) rfl (Nat.le_of_ble_eq_true rfl) (jm_X5_readNumber  h (fun _ _ e => by cases e; rfl))
def mi_X5_readTimes : aMi := (cX5_readTimes, 1, RX5, (some .boolean), { frames := 2, cells := 0, slots := 0, locals := 41 })
def f_X5_readTimes  (C : aSc) : Option (Int32 × aSc) :=
  bd2 (f_X5_takes (40 : Int32) C) fun r2 C3 => if (r2 : Int32) = 0 then some ((1 : Int32), C3) else bd2 (f_X5_readNumber  C3) fun r5 C6 => if (r5 : Int32) = 0 then some ((0 : Int32), C6) else (some (a_pi C6 1 5 (a_gi C6 1 3))).bind fun C7 => bd2 (f_X5_takes (41 : Int32) C7) fun r10 C11 => if r10 = 0 ∨ r10 = 1 then some (r10, C11) else none
set_option maxRecDepth 100000 in
set_option maxHeartbeats 4000000 in
theorem jm_X5_readTimes  {C : aSc} {M : aMm}  {res : aRes} {r : Int32 × aSc} (h : f_X5_readTimes  C = some r) (Kr : ∀ (v : Int32) (S' : aSc), r = (v, S') → res = (some (.int v), (S', M))) : J mi_X5_readTimes res 0 0 0 [(0, .ref (1))] [] (C, M) := by
  rw [f_X5_readTimes] at h
  refine J_aload_n dX5_readTimes_0 rfl 0 rfl ?_
  refine J_bipush 40 dX5_readTimes_1 rfl ?_
  obtain ⟨r2, C3, h1, h⟩ := br_b2 h
  refine J_callV (mj := mi_X5_takes) (as := [.int ((40 : Int32))]) (rest := []) (ct_X5_takes (M := M)  h1) ⟨rfl, rfl⟩ rfl rfl (by decide) rfl cg_X5_47 hd_X5_takes rfl ⟨Nat.le_of_ble_eq_true rfl, Nat.le_of_ble_eq_true rfl⟩ (Nat.le_of_ble_eq_true rfl) ⟨Nat.zero_le _, Nat.zero_le _⟩ dX5_readTimes_3 ?_
  refine J_if_ne 11 dX5_readTimes_6 (by decide) (fun c14 => ?_) (fun c14 => ?_)
  · have h := br_n c14 h
    refine J_aload_n dX5_readTimes_11 rfl 0 rfl ?_
    obtain ⟨r5, C6, h4, h⟩ := br_b2 h
    refine J_callV (mj := mi_X5_readNumber) (as := []) (rest := []) (ct_X5_readNumber (M := M)  h4) ⟨rfl, rfl⟩ rfl rfl (by decide) rfl cg_X5_54 hd_X5_readNumber rfl ⟨Nat.le_of_ble_eq_true rfl, Nat.le_of_ble_eq_true rfl⟩ (Nat.le_of_ble_eq_true rfl) ⟨Nat.zero_le _, Nat.zero_le _⟩ dX5_readTimes_12 ?_
    refine J_if_ne 20 dX5_readTimes_15 (by decide) (fun c13 => ?_) (fun c13 => ?_)
    · have h := br_n c13 h
      refine J_aload_n dX5_readTimes_20 rfl 0 rfl ?_
      refine J_aload_n dX5_readTimes_21 rfl 0 rfl ?_
      refine J_geti (j := 3) rfl (by decide) (by decide) rfl (by decide) rfl kf_X5_57 dX5_readTimes_22 ?_
      obtain ⟨C7, e8, h⟩ := br_s h
      refine J_puti (j := 5) rfl (by decide) (by decide) rfl (by decide) rfl rfl rfl kf_X5_22 e8 dX5_readTimes_25 ?_
      refine J_aload_n dX5_readTimes_28 rfl 0 rfl ?_
      refine J_bipush 41 dX5_readTimes_29 rfl ?_
      obtain ⟨r10, C11, h9, h⟩ := br_b2 h
      refine J_callV (mj := mi_X5_takes) (as := [.int ((41 : Int32))]) (rest := []) (ct_X5_takes (M := M)  h9) ⟨rfl, rfl⟩ rfl rfl (by decide) rfl cg_X5_47 hd_X5_takes rfl ⟨Nat.le_of_ble_eq_true rfl, Nat.le_of_ble_eq_true rfl⟩ (Nat.le_of_ble_eq_true rfl) ⟨Nat.zero_le _, Nat.zero_le _⟩ dX5_readTimes_31 ?_
      obtain ⟨n12, h⟩ := br_g h
      have h := Option.some.inj h
      subst h
      exact J_zret n12 rfl rfl rfl (Kr _ _ rfl) dX5_readTimes_34
    · have h := br_p c13 h
      refine J_iconst 0 dX5_readTimes_18 rfl ?_
      have h := Option.some.inj h
      subst h
      exact J_zret (Or.inl rfl) rfl rfl rfl (Kr _ _ rfl) dX5_readTimes_19
  · have h := br_p c14 h
    refine J_iconst 1 dX5_readTimes_9 rfl ?_
    have h := Option.some.inj h
    subst h
    exact J_zret (Or.inr rfl) rfl rfl rfl (Kr _ _ rfl) dX5_readTimes_10
theorem ct_X5_readTimes  {C : aSc} {M : aMm} {v : Int32} {S' : aSc}  (h : f_X5_readTimes  C = some (v, S')) : Ct mi_X5_readTimes yX5_readTimes [.ref (1)] (C, M) (some (.int v), (S', M)) := Ct_of_J (by decide +kernel) rfl (Nat.le_of_ble_eq_true rfl) (jm_X5_readTimes  h (fun _ _ e => by cases e; rfl))
def mi_X5_readRhythm : aMi := (cX5_readRhythm, 1, RX5, (some .boolean), { frames := 3, cells := 0, slots := 0, locals := 61 })
def g_X5_readRhythm_62 (t0 : Int32) (C : aSc) : Option (Int32 × aSc) :=
  (some (a_pi C 1 4 t0)).bind fun C34 => if ((a_gi C34 1 4) : Int32) = 0 then some ((1 : Int32), C34) else bd2 (f_X5_readTimes  C34) fun r37 C38 => if (r37 : Int32) = 0 then some ((0 : Int32), C38) else some ((1 : Int32), C38)
set_option maxRecDepth 100000 in
set_option maxHeartbeats 4000000 in
theorem jb_X5_readRhythm_62 {t0 : Int32} {C : aSc} {M : aMm}  {res : aRes} {r : Int32 × aSc} (h : g_X5_readRhythm_62 t0 C = some r) (Kr : ∀ (v : Int32) (S' : aSc), r = (v, S') → res = (some (.int v), (S', M))) : J mi_X5_readRhythm res 0 0 62 [(0, .ref (1))] [.int (t0), .ref (1)] (C, M) := by
  rw [g_X5_readRhythm_62] at h
  obtain ⟨C34, e35, h⟩ := br_s h
  refine J_puti (j := 4) rfl (by decide) (by decide) rfl (by decide) rfl rfl rfl kf_X5_35 e35 dX5_readRhythm_62 ?_
  refine J_aload_n dX5_readRhythm_65 rfl 0 rfl ?_
  refine J_geti (j := 4) rfl (by decide) (by decide) rfl (by decide) rfl kf_X5_35 dX5_readRhythm_66 ?_
  refine J_if_eq 79 dX5_readRhythm_69 (by decide) (fun c40 => ?_) (fun c40 => ?_)
  · have h := br_p c40 h
    refine J_iconst 1 dX5_readRhythm_79 rfl ?_
    refine J_goto 84 dX5_readRhythm_80 (by decide) ?_
    have h := Option.some.inj h
    subst h
    exact J_zret (Or.inr rfl) rfl rfl rfl (Kr _ _ rfl) dX5_readRhythm_84
  · have h := br_n c40 h
    refine J_aload_n dX5_readRhythm_72 rfl 0 rfl ?_
    obtain ⟨r37, C38, h36, h⟩ := br_b2 h
    refine J_callV (mj := mi_X5_readTimes) (as := []) (rest := []) (ct_X5_readTimes (M := M)  h36) ⟨rfl, rfl⟩ rfl rfl (by decide) rfl cg_X5_51 hd_X5_readTimes rfl ⟨Nat.le_of_ble_eq_true rfl, Nat.le_of_ble_eq_true rfl⟩ (Nat.le_of_ble_eq_true rfl) ⟨Nat.zero_le _, Nat.zero_le _⟩ dX5_readRhythm_73 ?_
    refine J_if_eq 83 dX5_readRhythm_76 (by decide) (fun c39 => ?_) (fun c39 => ?_)
    · have h := br_p c39 h
      refine J_iconst 0 dX5_readRhythm_83 rfl ?_
      have h := Option.some.inj h
      subst h
      exact J_zret (Or.inl rfl) rfl rfl rfl (Kr _ _ rfl) dX5_readRhythm_84
    · have h := br_n c39 h
      refine J_iconst 1 dX5_readRhythm_79 rfl ?_
      refine J_goto 84 dX5_readRhythm_80 (by decide) ?_
      have h := Option.some.inj h
      subst h
      exact J_zret (Or.inr rfl) rfl rfl rfl (Kr _ _ rfl) dX5_readRhythm_84
def f_X5_readRhythm  (C : aSc) : Option (Int32 × aSc) :=
  bd2 (f_X5_takes (73 : Int32) C) fun r2 C3 => if (r2 : Int32) = 0 then bd2 (f_X5_takes (70 : Int32) C3) fun r5 C6 => if (r5 : Int32) = 0 then bd2 (f_X5_takes (79 : Int32) C6) fun r8 C9 => if (r8 : Int32) = 0 then (some (a_pi C9 1 4 (3 : Int32))).bind fun C10 => bd2 (f_X5_takes (81 : Int32) C10) fun r13 C14 => if (r13 : Int32) = 0 then some ((0 : Int32), C14) else bd2 (f_X5_readTimes  C14) fun r16 C17 => if (r16 : Int32) = 0 then some ((0 : Int32), C17) else some ((1 : Int32), C17) else (some (a_pi C9 1 4 (2 : Int32))).bind fun C20 => bd2 (f_X5_takes (99 : Int32) C20) fun r23 C24 => if (r23 : Int32) = 0 then some ((0 : Int32), C24) else bd2 (f_X5_readTimes  C24) fun r26 C27 => if (r26 : Int32) = 0 then some ((0 : Int32), C27) else some ((1 : Int32), C27) else bd2 (f_X5_takes (108 : Int32) C6) fun r32 C33 => if (r32 : Int32) = 0 then g_X5_readRhythm_62 ((0 : Int32)) C33 else g_X5_readRhythm_62 ((1 : Int32)) C33 else (some (a_pi C3 1 4 (4 : Int32))).bind fun C43 => bd2 (f_X5_takes (115 : Int32) C43) fun r46 C47 => if (r46 : Int32) = 0 then some ((0 : Int32), C47) else bd2 (f_X5_takes (111 : Int32) C47) fun r49 C50 => if (r49 : Int32) = 0 then some ((0 : Int32), C50) else some ((1 : Int32), C50)
set_option maxRecDepth 100000 in
set_option maxHeartbeats 4000000 in
theorem jm_X5_readRhythm  {C : aSc} {M : aMm}  {res : aRes} {r : Int32 × aSc} (h : f_X5_readRhythm  C = some r) (Kr : ∀ (v : Int32) (S' : aSc), r = (v, S') → res = (some (.int v), (S', M))) : J mi_X5_readRhythm res 0 0 0 [(0, .ref (1))] [] (C, M) := by
  rw [f_X5_readRhythm] at h
  refine J_aload_n dX5_readRhythm_0 rfl 0 rfl ?_
  refine J_bipush 73 dX5_readRhythm_1 rfl ?_
  obtain ⟨r2, C3, h1, h⟩ := br_b2 h
  refine J_callV (mj := mi_X5_takes) (as := [.int ((73 : Int32))]) (rest := []) (ct_X5_takes (M := M)  h1) ⟨rfl, rfl⟩ rfl rfl (by decide) rfl cg_X5_47 hd_X5_takes rfl ⟨Nat.le_of_ble_eq_true rfl, Nat.le_of_ble_eq_true rfl⟩ (Nat.le_of_ble_eq_true rfl) ⟨Nat.zero_le _, Nat.zero_le _⟩ dX5_readRhythm_3 ?_
  refine J_if_eq 38 dX5_readRhythm_6 (by decide) (fun c53 => ?_) (fun c53 => ?_)
  · have h := br_p c53 h
    refine J_aload_n dX5_readRhythm_38 rfl 0 rfl ?_
    refine J_bipush 70 dX5_readRhythm_39 rfl ?_
    obtain ⟨r5, C6, h4, h⟩ := br_b2 h
    refine J_callV (mj := mi_X5_takes) (as := [.int ((70 : Int32))]) (rest := []) (ct_X5_takes (M := M)  h4) ⟨rfl, rfl⟩ rfl rfl (by decide) rfl cg_X5_47 hd_X5_takes rfl ⟨Nat.le_of_ble_eq_true rfl, Nat.le_of_ble_eq_true rfl⟩ (Nat.le_of_ble_eq_true rfl) ⟨Nat.zero_le _, Nat.zero_le _⟩ dX5_readRhythm_41 ?_
    refine J_if_eq 85 dX5_readRhythm_44 (by decide) (fun c42 => ?_) (fun c42 => ?_)
    · have h := br_p c42 h
      refine J_aload_n dX5_readRhythm_85 rfl 0 rfl ?_
      refine J_bipush 79 dX5_readRhythm_86 rfl ?_
      obtain ⟨r8, C9, h7, h⟩ := br_b2 h
      refine J_callV (mj := mi_X5_takes) (as := [.int ((79 : Int32))]) (rest := []) (ct_X5_takes (M := M)  h7) ⟨rfl, rfl⟩ rfl rfl (by decide) rfl cg_X5_47 hd_X5_takes rfl ⟨Nat.le_of_ble_eq_true rfl, Nat.le_of_ble_eq_true rfl⟩ (Nat.le_of_ble_eq_true rfl) ⟨Nat.zero_le _, Nat.zero_le _⟩ dX5_readRhythm_88 ?_
      refine J_if_eq 121 dX5_readRhythm_91 (by decide) (fun c30 => ?_) (fun c30 => ?_)
      · have h := br_p c30 h
        refine J_aload_n dX5_readRhythm_121 rfl 0 rfl ?_
        refine J_iconst 3 dX5_readRhythm_122 rfl ?_
        obtain ⟨C10, e11, h⟩ := br_s h
        refine J_puti (j := 4) rfl (by decide) (by decide) rfl (by decide) rfl rfl rfl kf_X5_35 e11 dX5_readRhythm_123 ?_
        refine J_aload_n dX5_readRhythm_126 rfl 0 rfl ?_
        refine J_bipush 81 dX5_readRhythm_127 rfl ?_
        obtain ⟨r13, C14, h12, h⟩ := br_b2 h
        refine J_callV (mj := mi_X5_takes) (as := [.int ((81 : Int32))]) (rest := []) (ct_X5_takes (M := M)  h12) ⟨rfl, rfl⟩ rfl rfl (by decide) rfl cg_X5_47 hd_X5_takes rfl ⟨Nat.le_of_ble_eq_true rfl, Nat.le_of_ble_eq_true rfl⟩ (Nat.le_of_ble_eq_true rfl) ⟨Nat.zero_le _, Nat.zero_le _⟩ dX5_readRhythm_129 ?_
        refine J_if_eq 146 dX5_readRhythm_132 (by decide) (fun c19 => ?_) (fun c19 => ?_)
        · have h := br_p c19 h
          refine J_iconst 0 dX5_readRhythm_146 rfl ?_
          have h := Option.some.inj h
          subst h
          exact J_zret (Or.inl rfl) rfl rfl rfl (Kr _ _ rfl) dX5_readRhythm_147
        · have h := br_n c19 h
          refine J_aload_n dX5_readRhythm_135 rfl 0 rfl ?_
          obtain ⟨r16, C17, h15, h⟩ := br_b2 h
          refine J_callV (mj := mi_X5_readTimes) (as := []) (rest := []) (ct_X5_readTimes (M := M)  h15) ⟨rfl, rfl⟩ rfl rfl (by decide) rfl cg_X5_51 hd_X5_readTimes rfl ⟨Nat.le_of_ble_eq_true rfl, Nat.le_of_ble_eq_true rfl⟩ (Nat.le_of_ble_eq_true rfl) ⟨Nat.zero_le _, Nat.zero_le _⟩ dX5_readRhythm_136 ?_
          refine J_if_eq 146 dX5_readRhythm_139 (by decide) (fun c18 => ?_) (fun c18 => ?_)
          · have h := br_p c18 h
            refine J_iconst 0 dX5_readRhythm_146 rfl ?_
            have h := Option.some.inj h
            subst h
            exact J_zret (Or.inl rfl) rfl rfl rfl (Kr _ _ rfl) dX5_readRhythm_147
          · have h := br_n c18 h
            refine J_iconst 1 dX5_readRhythm_142 rfl ?_
            refine J_goto 147 dX5_readRhythm_143 (by decide) ?_
            have h := Option.some.inj h
            subst h
            exact J_zret (Or.inr rfl) rfl rfl rfl (Kr _ _ rfl) dX5_readRhythm_147
      · have h := br_n c30 h
        refine J_aload_n dX5_readRhythm_94 rfl 0 rfl ?_
        refine J_iconst 2 dX5_readRhythm_95 rfl ?_
        obtain ⟨C20, e21, h⟩ := br_s h
        refine J_puti (j := 4) rfl (by decide) (by decide) rfl (by decide) rfl rfl rfl kf_X5_35 e21 dX5_readRhythm_96 ?_
        refine J_aload_n dX5_readRhythm_99 rfl 0 rfl ?_
        refine J_bipush 99 dX5_readRhythm_100 rfl ?_
        obtain ⟨r23, C24, h22, h⟩ := br_b2 h
        refine J_callV (mj := mi_X5_takes) (as := [.int ((99 : Int32))]) (rest := []) (ct_X5_takes (M := M)  h22) ⟨rfl, rfl⟩ rfl rfl (by decide) rfl cg_X5_47 hd_X5_takes rfl ⟨Nat.le_of_ble_eq_true rfl, Nat.le_of_ble_eq_true rfl⟩ (Nat.le_of_ble_eq_true rfl) ⟨Nat.zero_le _, Nat.zero_le _⟩ dX5_readRhythm_102 ?_
        refine J_if_eq 119 dX5_readRhythm_105 (by decide) (fun c29 => ?_) (fun c29 => ?_)
        · have h := br_p c29 h
          refine J_iconst 0 dX5_readRhythm_119 rfl ?_
          have h := Option.some.inj h
          subst h
          exact J_zret (Or.inl rfl) rfl rfl rfl (Kr _ _ rfl) dX5_readRhythm_120
        · have h := br_n c29 h
          refine J_aload_n dX5_readRhythm_108 rfl 0 rfl ?_
          obtain ⟨r26, C27, h25, h⟩ := br_b2 h
          refine J_callV (mj := mi_X5_readTimes) (as := []) (rest := []) (ct_X5_readTimes (M := M)  h25) ⟨rfl, rfl⟩ rfl rfl (by decide) rfl cg_X5_51 hd_X5_readTimes rfl ⟨Nat.le_of_ble_eq_true rfl, Nat.le_of_ble_eq_true rfl⟩ (Nat.le_of_ble_eq_true rfl) ⟨Nat.zero_le _, Nat.zero_le _⟩ dX5_readRhythm_109 ?_
          refine J_if_eq 119 dX5_readRhythm_112 (by decide) (fun c28 => ?_) (fun c28 => ?_)
          · have h := br_p c28 h
            refine J_iconst 0 dX5_readRhythm_119 rfl ?_
            have h := Option.some.inj h
            subst h
            exact J_zret (Or.inl rfl) rfl rfl rfl (Kr _ _ rfl) dX5_readRhythm_120
          · have h := br_n c28 h
            refine J_iconst 1 dX5_readRhythm_115 rfl ?_
            refine J_goto 120 dX5_readRhythm_116 (by decide) ?_
            have h := Option.some.inj h
            subst h
            exact J_zret (Or.inr rfl) rfl rfl rfl (Kr _ _ rfl) dX5_readRhythm_120
    · have h := br_n c42 h
      refine J_aload_n dX5_readRhythm_47 rfl 0 rfl ?_
      refine J_aload_n dX5_readRhythm_48 rfl 0 rfl ?_
      refine J_bipush 108 dX5_readRhythm_49 rfl ?_
      obtain ⟨r32, C33, h31, h⟩ := br_b2 h
      refine J_callV (mj := mi_X5_takes) (as := [.int ((108 : Int32))]) (rest := [.ref (1)]) (ct_X5_takes (M := M)  h31) ⟨rfl, rfl⟩ rfl rfl (by decide) rfl cg_X5_47 hd_X5_takes rfl ⟨Nat.le_of_ble_eq_true rfl, Nat.le_of_ble_eq_true rfl⟩ (Nat.le_of_ble_eq_true rfl) ⟨Nat.zero_le _, Nat.zero_le _⟩ dX5_readRhythm_51 ?_
      refine J_if_eq 61 dX5_readRhythm_54 (by decide) (fun c41 => ?_) (fun c41 => ?_)
      · have h := br_p c41 h
        refine J_iconst 0 dX5_readRhythm_61 rfl ?_
        exact jb_X5_readRhythm_62  h Kr
      · have h := br_n c41 h
        refine J_iconst 1 dX5_readRhythm_57 rfl ?_
        refine J_goto 62 dX5_readRhythm_58 (by decide) ?_
        exact jb_X5_readRhythm_62  h Kr
  · have h := br_n c53 h
    refine J_aload_n dX5_readRhythm_9 rfl 0 rfl ?_
    refine J_iconst 4 dX5_readRhythm_10 rfl ?_
    obtain ⟨C43, e44, h⟩ := br_s h
    refine J_puti (j := 4) rfl (by decide) (by decide) rfl (by decide) rfl rfl rfl kf_X5_35 e44 dX5_readRhythm_11 ?_
    refine J_aload_n dX5_readRhythm_14 rfl 0 rfl ?_
    refine J_bipush 115 dX5_readRhythm_15 rfl ?_
    obtain ⟨r46, C47, h45, h⟩ := br_b2 h
    refine J_callV (mj := mi_X5_takes) (as := [.int ((115 : Int32))]) (rest := []) (ct_X5_takes (M := M)  h45) ⟨rfl, rfl⟩ rfl rfl (by decide) rfl cg_X5_47 hd_X5_takes rfl ⟨Nat.le_of_ble_eq_true rfl, Nat.le_of_ble_eq_true rfl⟩ (Nat.le_of_ble_eq_true rfl) ⟨Nat.zero_le _, Nat.zero_le _⟩ dX5_readRhythm_17 ?_
    refine J_if_eq 36 dX5_readRhythm_20 (by decide) (fun c52 => ?_) (fun c52 => ?_)
    · have h := br_p c52 h
      refine J_iconst 0 dX5_readRhythm_36 rfl ?_
      have h := Option.some.inj h
      subst h
      exact J_zret (Or.inl rfl) rfl rfl rfl (Kr _ _ rfl) dX5_readRhythm_37
    · have h := br_n c52 h
      refine J_aload_n dX5_readRhythm_23 rfl 0 rfl ?_
      refine J_bipush 111 dX5_readRhythm_24 rfl ?_
      obtain ⟨r49, C50, h48, h⟩ := br_b2 h
      refine J_callV (mj := mi_X5_takes) (as := [.int ((111 : Int32))]) (rest := []) (ct_X5_takes (M := M)  h48) ⟨rfl, rfl⟩ rfl rfl (by decide) rfl cg_X5_47 hd_X5_takes rfl ⟨Nat.le_of_ble_eq_true rfl, Nat.le_of_ble_eq_true rfl⟩ (Nat.le_of_ble_eq_true rfl) ⟨Nat.zero_le _, Nat.zero_le _⟩ dX5_readRhythm_26 ?_
      refine J_if_eq 36 dX5_readRhythm_29 (by decide) (fun c51 => ?_) (fun c51 => ?_)
      · have h := br_p c51 h
        refine J_iconst 0 dX5_readRhythm_36 rfl ?_
        have h := Option.some.inj h
        subst h
        exact J_zret (Or.inl rfl) rfl rfl rfl (Kr _ _ rfl) dX5_readRhythm_37
      · have h := br_n c51 h
        refine J_iconst 1 dX5_readRhythm_32 rfl ?_
        refine J_goto 37 dX5_readRhythm_33 (by decide) ?_
        have h := Option.some.inj h
        subst h
        exact J_zret (Or.inr rfl) rfl rfl rfl (Kr _ _ rfl) dX5_readRhythm_37
theorem ct_X5_readRhythm  {C : aSc} {M : aMm} {v : Int32} {S' : aSc}  (h : f_X5_readRhythm  C = some (v, S')) : Ct mi_X5_readRhythm yX5_readRhythm [.ref (1)] (C, M) (some (.int v), (S', M)) := Ct_of_J (by decide +kernel) rfl (Nat.le_of_ble_eq_true rfl) (jm_X5_readRhythm  h (fun _ _ e => by cases e; rfl))
def mi_X5_readColour : aMi := (cX5_readColour, 1, RX5, (some .boolean), { frames := 1, cells := 0, slots := 0, locals := 21 })
def f_X5_readColour  (C : aSc) : Option (Int32 × aSc) :=
  bd2 (f_X5_takes (87 : Int32) C) fun r2 C3 => if (r2 : Int32) = 0 then bd2 (f_X5_takes (82 : Int32) C3) fun r5 C6 => if (r5 : Int32) = 0 then (some (a_pi C6 1 6 (2 : Int32))).bind fun C7 => bd2 (f_X5_takes (71 : Int32) C7) fun r10 C11 => if r10 = 0 ∨ r10 = 1 then some (r10, C11) else none else (some (a_pi C6 1 6 (1 : Int32))).bind fun C13 => some ((1 : Int32), C13) else (some (a_pi C3 1 6 (0 : Int32))).bind fun C16 => some ((1 : Int32), C16)
set_option maxRecDepth 100000 in
set_option maxHeartbeats 4000000 in
theorem jm_X5_readColour  {C : aSc} {M : aMm}  {res : aRes} {r : Int32 × aSc} (h : f_X5_readColour  C = some r) (Kr : ∀ (v : Int32) (S' : aSc), r = (v, S') → res = (some (.int v), (S', M))) : J mi_X5_readColour res 0 0 0 [(0, .ref (1))] [] (C, M) := by
  rw [f_X5_readColour] at h
  refine J_aload_n dX5_readColour_0 rfl 0 rfl ?_
  refine J_bipush 87 dX5_readColour_1 rfl ?_
  obtain ⟨r2, C3, h1, h⟩ := br_b2 h
  refine J_callV (mj := mi_X5_takes) (as := [.int ((87 : Int32))]) (rest := []) (ct_X5_takes (M := M)  h1) ⟨rfl, rfl⟩ rfl rfl (by decide) rfl cg_X5_47 hd_X5_takes rfl ⟨Nat.le_of_ble_eq_true rfl, Nat.le_of_ble_eq_true rfl⟩ (Nat.le_of_ble_eq_true rfl) ⟨Nat.zero_le _, Nat.zero_le _⟩ dX5_readColour_3 ?_
  refine J_if_eq 16 dX5_readColour_6 (by decide) (fun c18 => ?_) (fun c18 => ?_)
  · have h := br_p c18 h
    refine J_aload_n dX5_readColour_16 rfl 0 rfl ?_
    refine J_bipush 82 dX5_readColour_17 rfl ?_
    obtain ⟨r5, C6, h4, h⟩ := br_b2 h
    refine J_callV (mj := mi_X5_takes) (as := [.int ((82 : Int32))]) (rest := []) (ct_X5_takes (M := M)  h4) ⟨rfl, rfl⟩ rfl rfl (by decide) rfl cg_X5_47 hd_X5_takes rfl ⟨Nat.le_of_ble_eq_true rfl, Nat.le_of_ble_eq_true rfl⟩ (Nat.le_of_ble_eq_true rfl) ⟨Nat.zero_le _, Nat.zero_le _⟩ dX5_readColour_19 ?_
    refine J_if_eq 32 dX5_readColour_22 (by decide) (fun c15 => ?_) (fun c15 => ?_)
    · have h := br_p c15 h
      refine J_aload_n dX5_readColour_32 rfl 0 rfl ?_
      refine J_iconst 2 dX5_readColour_33 rfl ?_
      obtain ⟨C7, e8, h⟩ := br_s h
      refine J_puti (j := 6) rfl (by decide) (by decide) rfl (by decide) rfl rfl rfl kf_X5_60 e8 dX5_readColour_34 ?_
      refine J_aload_n dX5_readColour_37 rfl 0 rfl ?_
      refine J_bipush 71 dX5_readColour_38 rfl ?_
      obtain ⟨r10, C11, h9, h⟩ := br_b2 h
      refine J_callV (mj := mi_X5_takes) (as := [.int ((71 : Int32))]) (rest := []) (ct_X5_takes (M := M)  h9) ⟨rfl, rfl⟩ rfl rfl (by decide) rfl cg_X5_47 hd_X5_takes rfl ⟨Nat.le_of_ble_eq_true rfl, Nat.le_of_ble_eq_true rfl⟩ (Nat.le_of_ble_eq_true rfl) ⟨Nat.zero_le _, Nat.zero_le _⟩ dX5_readColour_40 ?_
      obtain ⟨n12, h⟩ := br_g h
      have h := Option.some.inj h
      subst h
      exact J_zret n12 rfl rfl rfl (Kr _ _ rfl) dX5_readColour_43
    · have h := br_n c15 h
      refine J_aload_n dX5_readColour_25 rfl 0 rfl ?_
      refine J_iconst 1 dX5_readColour_26 rfl ?_
      obtain ⟨C13, e14, h⟩ := br_s h
      refine J_puti (j := 6) rfl (by decide) (by decide) rfl (by decide) rfl rfl rfl kf_X5_60 e14 dX5_readColour_27 ?_
      refine J_iconst 1 dX5_readColour_30 rfl ?_
      have h := Option.some.inj h
      subst h
      exact J_zret (Or.inr rfl) rfl rfl rfl (Kr _ _ rfl) dX5_readColour_31
  · have h := br_n c18 h
    refine J_aload_n dX5_readColour_9 rfl 0 rfl ?_
    refine J_iconst 0 dX5_readColour_10 rfl ?_
    obtain ⟨C16, e17, h⟩ := br_s h
    refine J_puti (j := 6) rfl (by decide) (by decide) rfl (by decide) rfl rfl rfl kf_X5_60 e17 dX5_readColour_11 ?_
    refine J_iconst 1 dX5_readColour_14 rfl ?_
    have h := Option.some.inj h
    subst h
    exact J_zret (Or.inr rfl) rfl rfl rfl (Kr _ _ rfl) dX5_readColour_15
theorem ct_X5_readColour  {C : aSc} {M : aMm} {v : Int32} {S' : aSc}  (h : f_X5_readColour  C = some (v, S')) : Ct mi_X5_readColour yX5_readColour [.ref (1)] (C, M) (some (.int v), (S', M)) := Ct_of_J (by decide +kernel) rfl (Nat.le_of_ble_eq_true rfl) (jm_X5_readColour  h (fun _ _ e => by cases e; rfl))
def mi_X5_readPeriod : aMi := (cX5_readPeriod, 1, RX5, (some .boolean), { frames := 2, cells := 0, slots := 0, locals := 41 })
def f_X5_readPeriod  (C : aSc) : Option (Int32 × aSc) :=
  (some (a_pi C 1 8 (a_gi C 1 2))).bind fun C1 => bd2 (f_X5_readNumber  C1) fun r4 C5 => if (r4 : Int32) = 0 then some ((0 : Int32), C5) else (some (a_pi C5 1 7 (a_gi C5 1 3))).bind fun C6 => bd2 (f_X5_takes (115 : Int32) C6) fun r9 C10 => if r9 = 0 ∨ r9 = 1 then some (r9, C10) else none
set_option maxRecDepth 100000 in
set_option maxHeartbeats 4000000 in
theorem jm_X5_readPeriod  {C : aSc} {M : aMm}  {res : aRes} {r : Int32 × aSc} (h : f_X5_readPeriod  C = some r) (Kr : ∀ (v : Int32) (S' : aSc), r = (v, S') → res = (some (.int v), (S', M))) : J mi_X5_readPeriod res 0 0 0 [(0, .ref (1))] [] (C, M) := by
  rw [f_X5_readPeriod] at h
  refine J_aload_n dX5_readPeriod_0 rfl 0 rfl ?_
  refine J_aload_n dX5_readPeriod_1 rfl 0 rfl ?_
  refine J_geti (j := 2) rfl (by decide) (by decide) rfl (by decide) rfl kf_X5_19 dX5_readPeriod_2 ?_
  obtain ⟨C1, e2, h⟩ := br_s h
  refine J_puti (j := 8) rfl (by decide) (by decide) rfl (by decide) rfl rfl rfl kf_X5_44 e2 dX5_readPeriod_5 ?_
  refine J_aload_n dX5_readPeriod_8 rfl 0 rfl ?_
  obtain ⟨r4, C5, h3, h⟩ := br_b2 h
  refine J_callV (mj := mi_X5_readNumber) (as := []) (rest := []) (ct_X5_readNumber (M := M)  h3) ⟨rfl, rfl⟩ rfl rfl (by decide) rfl cg_X5_54 hd_X5_readNumber rfl ⟨Nat.le_of_ble_eq_true rfl, Nat.le_of_ble_eq_true rfl⟩ (Nat.le_of_ble_eq_true rfl) ⟨Nat.zero_le _, Nat.zero_le _⟩ dX5_readPeriod_9 ?_
  refine J_if_ne 17 dX5_readPeriod_12 (by decide) (fun c12 => ?_) (fun c12 => ?_)
  · have h := br_n c12 h
    refine J_aload_n dX5_readPeriod_17 rfl 0 rfl ?_
    refine J_aload_n dX5_readPeriod_18 rfl 0 rfl ?_
    refine J_geti (j := 3) rfl (by decide) (by decide) rfl (by decide) rfl kf_X5_57 dX5_readPeriod_19 ?_
    obtain ⟨C6, e7, h⟩ := br_s h
    refine J_puti (j := 7) rfl (by decide) (by decide) rfl (by decide) rfl rfl rfl kf_X5_25 e7 dX5_readPeriod_22 ?_
    refine J_aload_n dX5_readPeriod_25 rfl 0 rfl ?_
    refine J_bipush 115 dX5_readPeriod_26 rfl ?_
    obtain ⟨r9, C10, h8, h⟩ := br_b2 h
    refine J_callV (mj := mi_X5_takes) (as := [.int ((115 : Int32))]) (rest := []) (ct_X5_takes (M := M)  h8) ⟨rfl, rfl⟩ rfl rfl (by decide) rfl cg_X5_47 hd_X5_takes rfl ⟨Nat.le_of_ble_eq_true rfl, Nat.le_of_ble_eq_true rfl⟩ (Nat.le_of_ble_eq_true rfl) ⟨Nat.zero_le _, Nat.zero_le _⟩ dX5_readPeriod_28 ?_
    obtain ⟨n11, h⟩ := br_g h
    have h := Option.some.inj h
    subst h
    exact J_zret n11 rfl rfl rfl (Kr _ _ rfl) dX5_readPeriod_31
  · have h := br_p c12 h
    refine J_iconst 0 dX5_readPeriod_15 rfl ?_
    have h := Option.some.inj h
    subst h
    exact J_zret (Or.inl rfl) rfl rfl rfl (Kr _ _ rfl) dX5_readPeriod_16
theorem ct_X5_readPeriod  {C : aSc} {M : aMm} {v : Int32} {S' : aSc}  (h : f_X5_readPeriod  C = some (v, S')) : Ct mi_X5_readPeriod yX5_readPeriod [.ref (1)] (C, M) (some (.int v), (S', M)) := Ct_of_J (by decide +kernel) rfl (Nat.le_of_ble_eq_true rfl) (jm_X5_readPeriod  h (fun _ _ e => by cases e; rfl))
def mi_X5_goesIn : aMi := (cX5_goesIn, 1, RX5, (some .boolean), { frames := 0, cells := 0, slots := 0, locals := 0 })
def f_X5_goesIn  (C : aSc) : Option (Int32) :=
  if ((a_gi C 1 7) : Int32) < (1 : Int32) then some (0 : Int32) else if ((30 : Int32) : Int32) < (a_gi C 1 7) then some (0 : Int32) else if ((a_gi C 1 5) : Int32) < (1 : Int32) then some (0 : Int32) else if ((a_gi C 1 5) : Int32) ≤ (15 : Int32) then if ((a_gi C 1 4) : Int32) = (4 : Int32) then if (((a_gi C 1 7) - (a_gi C 1 7) / (2 : Int32) * (2 : Int32)) : Int32) = 0 then some (1 : Int32) else some (0 : Int32) else if ((a_gi C 1 4) : Int32) = (3 : Int32) then if ((a_gi C 1 7) : Int32) < (((2 : Int32) * (a_gi C 1 5)) + (1 : Int32)) then some (0 : Int32) else some (1 : Int32) else if ((a_gi C 1 7) : Int32) < (((2 : Int32) * (a_gi C 1 5)) + (0 : Int32)) then some (0 : Int32) else some (1 : Int32) else some (0 : Int32)
set_option maxRecDepth 100000 in
set_option maxHeartbeats 4000000 in
theorem jm_X5_goesIn  {C : aSc} {M : aMm}  {res : aRes} {r : Int32} (h : f_X5_goesIn  C = some r) (Kr : ∀ (v : Int32), r = v → res = (some (.int v), (C, M))) : J mi_X5_goesIn res 0 0 0 [(0, .ref (1))] [] (C, M) := by
  rw [f_X5_goesIn] at h
  refine J_aload_n dX5_goesIn_0 rfl 0 rfl ?_
  refine J_geti (j := 7) rfl (by decide) (by decide) rfl (by decide) rfl kf_X5_25 dX5_goesIn_1 ?_
  refine J_iconst 1 dX5_goesIn_4 rfl ?_
  refine J_icmp_lt 34 dX5_goesIn_5 (by decide) (fun c9 => ?_) (fun c9 => ?_)
  · have h := br_p c9 h
    refine J_iconst 0 dX5_goesIn_34 rfl ?_
    have h := Option.some.inj h
    subst h
    exact J_zret (Or.inl rfl) rfl rfl rfl (Kr _ rfl) dX5_goesIn_35
  · have h := br_n c9 h
    refine J_aload_n dX5_goesIn_8 rfl 0 rfl ?_
    refine J_geti (j := 7) rfl (by decide) (by decide) rfl (by decide) rfl kf_X5_25 dX5_goesIn_9 ?_
    refine J_bipush 30 dX5_goesIn_12 rfl ?_
    refine J_icmp_gt 34 dX5_goesIn_14 (by decide) (fun c8 => ?_) (fun c8 => ?_)
    · have h := br_p c8 h
      refine J_iconst 0 dX5_goesIn_34 rfl ?_
      have h := Option.some.inj h
      subst h
      exact J_zret (Or.inl rfl) rfl rfl rfl (Kr _ rfl) dX5_goesIn_35
    · have h := br_n c8 h
      refine J_aload_n dX5_goesIn_17 rfl 0 rfl ?_
      refine J_geti (j := 5) rfl (by decide) (by decide) rfl (by decide) rfl kf_X5_22 dX5_goesIn_18 ?_
      refine J_iconst 1 dX5_goesIn_21 rfl ?_
      refine J_icmp_lt 34 dX5_goesIn_22 (by decide) (fun c7 => ?_) (fun c7 => ?_)
      · have h := br_p c7 h
        refine J_iconst 0 dX5_goesIn_34 rfl ?_
        have h := Option.some.inj h
        subst h
        exact J_zret (Or.inl rfl) rfl rfl rfl (Kr _ rfl) dX5_goesIn_35
      · have h := br_n c7 h
        refine J_aload_n dX5_goesIn_25 rfl 0 rfl ?_
        refine J_geti (j := 5) rfl (by decide) (by decide) rfl (by decide) rfl kf_X5_22 dX5_goesIn_26 ?_
        refine J_bipush 15 dX5_goesIn_29 rfl ?_
        refine J_icmp_le 36 dX5_goesIn_31 (by decide) (fun c6 => ?_) (fun c6 => ?_)
        · have h := br_p c6 h
          refine J_aload_n dX5_goesIn_36 rfl 0 rfl ?_
          refine J_geti (j := 4) rfl (by decide) (by decide) rfl (by decide) rfl kf_X5_35 dX5_goesIn_37 ?_
          refine J_iconst 4 dX5_goesIn_40 rfl ?_
          refine J_icmp_ne 59 dX5_goesIn_41 (by decide) (fun c5 => ?_) (fun c5 => ?_)
          · have h := br_n c5 h
            refine J_iconst 2 dX5_goesIn_59 rfl ?_
            refine J_aload_n dX5_goesIn_60 rfl 0 rfl ?_
            refine J_geti (j := 5) rfl (by decide) (by decide) rfl (by decide) rfl kf_X5_22 dX5_goesIn_61 ?_
            refine J_imul dX5_goesIn_64 ?_
            refine J_aload_n dX5_goesIn_65 rfl 0 rfl ?_
            refine J_geti (j := 4) rfl (by decide) (by decide) rfl (by decide) rfl kf_X5_35 dX5_goesIn_66 ?_
            refine J_iconst 3 dX5_goesIn_69 rfl ?_
            refine J_icmp_ne 77 dX5_goesIn_70 (by decide) (fun c3 => ?_) (fun c3 => ?_)
            · have h := br_n c3 h
              refine J_iconst 0 dX5_goesIn_77 rfl ?_
              refine J_iadd dX5_goesIn_78 ?_
              refine J_aload_n dX5_goesIn_79 rfl 0 rfl ?_
              refine J_geti (j := 7) rfl (by decide) (by decide) rfl (by decide) rfl kf_X5_25 dX5_goesIn_80 ?_
              refine J_icmp_gt 90 dX5_goesIn_83 (by decide) (fun c1 => ?_) (fun c1 => ?_)
              · have h := br_p c1 h
                refine J_iconst 0 dX5_goesIn_90 rfl ?_
                have h := Option.some.inj h
                subst h
                exact J_zret (Or.inl rfl) rfl rfl rfl (Kr _ rfl) dX5_goesIn_91
              · have h := br_n c1 h
                refine J_iconst 1 dX5_goesIn_86 rfl ?_
                refine J_goto 91 dX5_goesIn_87 (by decide) ?_
                have h := Option.some.inj h
                subst h
                exact J_zret (Or.inr rfl) rfl rfl rfl (Kr _ rfl) dX5_goesIn_91
            · have h := br_p c3 h
              refine J_iconst 1 dX5_goesIn_73 rfl ?_
              refine J_goto 78 dX5_goesIn_74 (by decide) ?_
              refine J_iadd dX5_goesIn_78 ?_
              refine J_aload_n dX5_goesIn_79 rfl 0 rfl ?_
              refine J_geti (j := 7) rfl (by decide) (by decide) rfl (by decide) rfl kf_X5_25 dX5_goesIn_80 ?_
              refine J_icmp_gt 90 dX5_goesIn_83 (by decide) (fun c2 => ?_) (fun c2 => ?_)
              · have h := br_p c2 h
                refine J_iconst 0 dX5_goesIn_90 rfl ?_
                have h := Option.some.inj h
                subst h
                exact J_zret (Or.inl rfl) rfl rfl rfl (Kr _ rfl) dX5_goesIn_91
              · have h := br_n c2 h
                refine J_iconst 1 dX5_goesIn_86 rfl ?_
                refine J_goto 91 dX5_goesIn_87 (by decide) ?_
                have h := Option.some.inj h
                subst h
                exact J_zret (Or.inr rfl) rfl rfl rfl (Kr _ rfl) dX5_goesIn_91
          · have h := br_p c5 h
            refine J_aload_n dX5_goesIn_44 rfl 0 rfl ?_
            refine J_geti (j := 7) rfl (by decide) (by decide) rfl (by decide) rfl kf_X5_25 dX5_goesIn_45 ?_
            refine J_iconst 2 dX5_goesIn_48 rfl ?_
            refine J_irem dX5_goesIn_49 (by decide) ?_
            refine J_if_ne 57 dX5_goesIn_50 (by decide) (fun c4 => ?_) (fun c4 => ?_)
            · have h := br_n c4 h
              refine J_iconst 0 dX5_goesIn_57 rfl ?_
              have h := Option.some.inj h
              subst h
              exact J_zret (Or.inl rfl) rfl rfl rfl (Kr _ rfl) dX5_goesIn_58
            · have h := br_p c4 h
              refine J_iconst 1 dX5_goesIn_53 rfl ?_
              refine J_goto 58 dX5_goesIn_54 (by decide) ?_
              have h := Option.some.inj h
              subst h
              exact J_zret (Or.inr rfl) rfl rfl rfl (Kr _ rfl) dX5_goesIn_58
        · have h := br_n c6 h
          refine J_iconst 0 dX5_goesIn_34 rfl ?_
          have h := Option.some.inj h
          subst h
          exact J_zret (Or.inl rfl) rfl rfl rfl (Kr _ rfl) dX5_goesIn_35
theorem ct_X5_goesIn  {C : aSc} {M : aMm} {v : Int32}  (h : f_X5_goesIn  C = some v) : Ct mi_X5_goesIn yX5_goesIn [.ref (1)] (C, M) (some (.int v), (C, M)) := Ct_of_J (by decide +kernel) rfl (Nat.le_of_ble_eq_true rfl) (jm_X5_goesIn  h (fun _ e => by cases e; rfl))
def mi_X5_findFault : aMi := (cX5_findFault, 1, RX5, (some .int), { frames := 4, cells := 0, slots := 0, locals := 81 })
def g_X5_findFault_53  (C : aSc) : Option (Int32 × aSc) :=
  if ((a_gi C 1 1) : Int32) ≤ (a_gi C 1 2) then if ((a_gi C 1 4) : Int32) = 0 then some ((-1 : Int32), C) else (f_X5_goesIn  C).bind fun r14 => if (r14 : Int32) = 0 then some ((a_gi C 1 8), C) else some ((-1 : Int32), C) else some ((a_gi C 1 2), C)
set_option maxRecDepth 100000 in
set_option maxHeartbeats 4000000 in
theorem jb_X5_findFault_53  {C : aSc} {M : aMm}  {res : aRes} {r : Int32 × aSc} (h : g_X5_findFault_53  C = some r) (Kr : ∀ (v : Int32) (S' : aSc), r = (v, S') → res = (some (.int v), (S', M))) : J mi_X5_findFault res 0 0 53 [(0, .ref (1))] [] (C, M) := by
  rw [g_X5_findFault_53] at h
  refine J_aload_n dX5_findFault_53 rfl 0 rfl ?_
  refine J_geti (j := 2) rfl (by decide) (by decide) rfl (by decide) rfl kf_X5_19 dX5_findFault_54 ?_
  refine J_aload_n dX5_findFault_57 rfl 0 rfl ?_
  refine J_geti (j := 1) rfl (by decide) (by decide) rfl (by decide) rfl kf_X5_13 dX5_findFault_58 ?_
  refine J_icmp_ge 69 dX5_findFault_61 (by decide) (fun c17 => ?_) (fun c17 => ?_)
  · have h := br_p c17 h
    refine J_aload_n dX5_findFault_69 rfl 0 rfl ?_
    refine J_geti (j := 4) rfl (by decide) (by decide) rfl (by decide) rfl kf_X5_35 dX5_findFault_70 ?_
    refine J_if_eq 83 dX5_findFault_73 (by decide) (fun c16 => ?_) (fun c16 => ?_)
    · have h := br_p c16 h
      refine J_iconst (-1) dX5_findFault_83 rfl ?_
      refine J_goto 91 dX5_findFault_84 (by decide) ?_
      have h := Option.some.inj h
      subst h
      exact J_iret rfl rfl rfl (Kr _ _ rfl) dX5_findFault_91
    · have h := br_n c16 h
      refine J_aload_n dX5_findFault_76 rfl 0 rfl ?_
      obtain ⟨r14, h13, h⟩ := br_b h
      refine J_callV (mj := mi_X5_goesIn) (as := []) (rest := []) (ct_X5_goesIn (M := M)  h13) ⟨rfl, rfl⟩ rfl rfl (by decide) rfl cg_X5_41 hd_X5_goesIn rfl ⟨Nat.le_of_ble_eq_true rfl, Nat.le_of_ble_eq_true rfl⟩ (Nat.le_of_ble_eq_true rfl) ⟨Nat.zero_le _, Nat.zero_le _⟩ dX5_findFault_77 ?_
      refine J_if_eq 87 dX5_findFault_80 (by decide) (fun c15 => ?_) (fun c15 => ?_)
      · have h := br_p c15 h
        refine J_aload_n dX5_findFault_87 rfl 0 rfl ?_
        refine J_geti (j := 8) rfl (by decide) (by decide) rfl (by decide) rfl kf_X5_44 dX5_findFault_88 ?_
        have h := Option.some.inj h
        subst h
        exact J_iret rfl rfl rfl (Kr _ _ rfl) dX5_findFault_91
      · have h := br_n c15 h
        refine J_iconst (-1) dX5_findFault_83 rfl ?_
        refine J_goto 91 dX5_findFault_84 (by decide) ?_
        have h := Option.some.inj h
        subst h
        exact J_iret rfl rfl rfl (Kr _ _ rfl) dX5_findFault_91
  · have h := br_n c17 h
    refine J_aload_n dX5_findFault_64 rfl 0 rfl ?_
    refine J_geti (j := 2) rfl (by decide) (by decide) rfl (by decide) rfl kf_X5_19 dX5_findFault_65 ?_
    have h := Option.some.inj h
    subst h
    exact J_iret rfl rfl rfl (Kr _ _ rfl) dX5_findFault_68
def f_X5_findFault  (C : aSc) : Option (Int32 × aSc) :=
  (some (a_pi C 1 2 (0 : Int32))).bind fun C1 => (some (a_pi C1 1 5 (1 : Int32))).bind fun C3 => (some (a_pi C3 1 7 (1 : Int32))).bind fun C5 => bd2 (f_X5_readRhythm  C5) fun r8 C9 => if (r8 : Int32) = 0 then some ((a_gi C9 1 2), C9) else bd2 (f_X5_readColour  C9) fun r11 C12 => if (r11 : Int32) = 0 then some ((a_gi C12 1 2), C12) else if ((a_gi C12 1 4) : Int32) = 0 then g_X5_findFault_53  C12 else bd2 (f_X5_readPeriod  C12) fun r19 C20 => if (r19 : Int32) = 0 then some ((a_gi C20 1 2), C20) else g_X5_findFault_53  C20
set_option maxRecDepth 100000 in
set_option maxHeartbeats 4000000 in
theorem jm_X5_findFault  {C : aSc} {M : aMm}  {res : aRes} {r : Int32 × aSc} (h : f_X5_findFault  C = some r) (Kr : ∀ (v : Int32) (S' : aSc), r = (v, S') → res = (some (.int v), (S', M))) : J mi_X5_findFault res 0 0 0 [(0, .ref (1))] [] (C, M) := by
  rw [f_X5_findFault] at h
  refine J_aload_n dX5_findFault_0 rfl 0 rfl ?_
  refine J_iconst 0 dX5_findFault_1 rfl ?_
  obtain ⟨C1, e2, h⟩ := br_s h
  refine J_puti (j := 2) rfl (by decide) (by decide) rfl (by decide) rfl rfl rfl kf_X5_19 e2 dX5_findFault_2 ?_
  refine J_aload_n dX5_findFault_5 rfl 0 rfl ?_
  refine J_iconst 1 dX5_findFault_6 rfl ?_
  obtain ⟨C3, e4, h⟩ := br_s h
  refine J_puti (j := 5) rfl (by decide) (by decide) rfl (by decide) rfl rfl rfl kf_X5_22 e4 dX5_findFault_7 ?_
  refine J_aload_n dX5_findFault_10 rfl 0 rfl ?_
  refine J_iconst 1 dX5_findFault_11 rfl ?_
  obtain ⟨C5, e6, h⟩ := br_s h
  refine J_puti (j := 7) rfl (by decide) (by decide) rfl (by decide) rfl rfl rfl kf_X5_25 e6 dX5_findFault_12 ?_
  refine J_aload_n dX5_findFault_15 rfl 0 rfl ?_
  obtain ⟨r8, C9, h7, h⟩ := br_b2 h
  refine J_callV (mj := mi_X5_readRhythm) (as := []) (rest := []) (ct_X5_readRhythm (M := M)  h7) ⟨rfl, rfl⟩ rfl rfl (by decide) rfl cg_X5_28 hd_X5_readRhythm rfl ⟨Nat.le_of_ble_eq_true rfl, Nat.le_of_ble_eq_true rfl⟩ (Nat.le_of_ble_eq_true rfl) ⟨Nat.zero_le _, Nat.zero_le _⟩ dX5_findFault_16 ?_
  refine J_if_eq 29 dX5_findFault_19 (by decide) (fun c24 => ?_) (fun c24 => ?_)
  · have h := br_p c24 h
    refine J_aload_n dX5_findFault_29 rfl 0 rfl ?_
    refine J_geti (j := 2) rfl (by decide) (by decide) rfl (by decide) rfl kf_X5_19 dX5_findFault_30 ?_
    have h := Option.some.inj h
    subst h
    exact J_iret rfl rfl rfl (Kr _ _ rfl) dX5_findFault_33
  · have h := br_n c24 h
    refine J_aload_n dX5_findFault_22 rfl 0 rfl ?_
    obtain ⟨r11, C12, h10, h⟩ := br_b2 h
    refine J_callV (mj := mi_X5_readColour) (as := []) (rest := []) (ct_X5_readColour (M := M)  h10) ⟨rfl, rfl⟩ rfl rfl (by decide) rfl cg_X5_32 hd_X5_readColour rfl ⟨Nat.le_of_ble_eq_true rfl, Nat.le_of_ble_eq_true rfl⟩ (Nat.le_of_ble_eq_true rfl) ⟨Nat.zero_le _, Nat.zero_le _⟩ dX5_findFault_23 ?_
    refine J_if_ne 34 dX5_findFault_26 (by decide) (fun c23 => ?_) (fun c23 => ?_)
    · have h := br_n c23 h
      refine J_aload_n dX5_findFault_34 rfl 0 rfl ?_
      refine J_geti (j := 4) rfl (by decide) (by decide) rfl (by decide) rfl kf_X5_35 dX5_findFault_35 ?_
      refine J_if_eq 53 dX5_findFault_38 (by decide) (fun c22 => ?_) (fun c22 => ?_)
      · have h := br_p c22 h
        exact jb_X5_findFault_53  h Kr
      · have h := br_n c22 h
        refine J_aload_n dX5_findFault_41 rfl 0 rfl ?_
        obtain ⟨r19, C20, h18, h⟩ := br_b2 h
        refine J_callV (mj := mi_X5_readPeriod) (as := []) (rest := []) (ct_X5_readPeriod (M := M)  h18) ⟨rfl, rfl⟩ rfl rfl (by decide) rfl cg_X5_38 hd_X5_readPeriod rfl ⟨Nat.le_of_ble_eq_true rfl, Nat.le_of_ble_eq_true rfl⟩ (Nat.le_of_ble_eq_true rfl) ⟨Nat.zero_le _, Nat.zero_le _⟩ dX5_findFault_42 ?_
        refine J_if_ne 53 dX5_findFault_45 (by decide) (fun c21 => ?_) (fun c21 => ?_)
        · have h := br_n c21 h
          exact jb_X5_findFault_53  h Kr
        · have h := br_p c21 h
          refine J_aload_n dX5_findFault_48 rfl 0 rfl ?_
          refine J_geti (j := 2) rfl (by decide) (by decide) rfl (by decide) rfl kf_X5_19 dX5_findFault_49 ?_
          have h := Option.some.inj h
          subst h
          exact J_iret rfl rfl rfl (Kr _ _ rfl) dX5_findFault_52
    · have h := br_p c23 h
      refine J_aload_n dX5_findFault_29 rfl 0 rfl ?_
      refine J_geti (j := 2) rfl (by decide) (by decide) rfl (by decide) rfl kf_X5_19 dX5_findFault_30 ?_
      have h := Option.some.inj h
      subst h
      exact J_iret rfl rfl rfl (Kr _ _ rfl) dX5_findFault_33
theorem ct_X5_findFault  {C : aSc} {M : aMm} {v : Int32} {S' : aSc}  (h : f_X5_findFault  C = some (v, S')) : Ct mi_X5_findFault yX5_findFault [.ref (1)] (C, M) (some (.int v), (S', M)) := Ct_of_J (by decide +kernel) rfl (Nat.le_of_ble_eq_true rfl) (jm_X5_findFault  h (fun _ _ e => by cases e; rfl))
def mi_X7_forgetFound : aMi := (cX7_forgetFound, 1, RX7, none, { frames := 0, cells := 0, slots := 0, locals := 0 })
def f_X7_forgetFound  (C : aSc) : Option (aSc) :=
  (some (a_pi C 0 15 (0 : Int32))).bind fun C1 => (some (a_pi C1 0 13 (0 : Int32))).bind fun C3 => some C3
set_option maxRecDepth 100000 in
set_option maxHeartbeats 4000000 in
theorem jm_X7_forgetFound  {C : aSc} {M : aMm}  {res : aRes} {r : aSc} (h : f_X7_forgetFound  C = some r) (Kr : ∀ (S' : aSc), r = S' → res = (none, (S', M))) : J mi_X7_forgetFound res 0 0 0 [(0, .ref (0))] [] (C, M) := by
  rw [f_X7_forgetFound] at h
  refine J_aload_n dX7_forgetFound_0 rfl 0 rfl ?_
  refine J_iconst 0 dX7_forgetFound_1 rfl ?_
  obtain ⟨C1, e2, h⟩ := br_s h
  refine J_putz (j := 15) (Or.inl rfl) rfl (by decide) (by decide) rfl (by decide) rfl rfl rfl kf_X7_336 e2 dX7_forgetFound_2 ?_
  refine J_aload_n dX7_forgetFound_5 rfl 0 rfl ?_
  refine J_iconst 0 dX7_forgetFound_6 rfl ?_
  obtain ⟨C3, e4, h⟩ := br_s h
  refine J_putz (j := 13) (Or.inl rfl) rfl (by decide) (by decide) rfl (by decide) rfl rfl rfl kf_X7_354 e4 dX7_forgetFound_7 ?_
  have h := Option.some.inj h
  subst h
  exact J_vret rfl rfl rfl (Kr _ rfl) dX7_forgetFound_10
theorem ct_X7_forgetFound  {C : aSc} {M : aMm} {S' : aSc}  (h : f_X7_forgetFound  C = some S') : Ct mi_X7_forgetFound yX7_forgetFound [.ref (0)] (C, M) (none, (S', M)) := Ct_of_J (by decide +kernel) rfl (Nat.le_of_ble_eq_true rfl) (jm_X7_forgetFound  h (fun _ e => by cases e; rfl))
def mi_X2_next : aMi := (cX2_next, 2, RX2, (some (.object "CoastLights$Step")), { frames := 1, cells := 0, slots := 0, locals := 21 })
def f_X2_next  (C : aSc) : Option (Nat × aSc) :=
  (a_rf 62 2 16 (a_gi C 22 1)).bind fun c1 => (some (a_pi C 22 1 (((a_gi C 22 1) + (1 : Int32)) - ((a_gi C 22 1) + (1 : Int32)) / (16 : Int32) * (16 : Int32)))).bind fun C4 => (some (a_pi C4 22 2 (a_min (16 : Int32) ((a_gi C4 22 2) + (1 : Int32))))).bind fun C6 => some (c1, C6)
set_option maxRecDepth 100000 in
set_option maxHeartbeats 4000000 in
theorem jm_X2_next  {C : aSc} {M : aMm}  {res : aRes} {r : Nat × aSc} (h : f_X2_next  C = some r) (Kr : ∀ (v : Nat) (S' : aSc), r = (v, S') → res = (some (.ref v), (S', M))) : J mi_X2_next res 0 0 0 [(0, .ref (22))] [] (C, M) := by
  rw [f_X2_next] at h
  refine J_aload_n dX2_next_0 rfl 0 rfl ?_
  refine J_getr (j := 0) (t := 31) (r := 23) rfl (by decide) (by decide) rfl (by decide) rfl rfl kf_X2_11 dX2_next_1 ?_
  refine J_aload_n dX2_next_4 rfl 0 rfl ?_
  refine J_geti (j := 1) rfl (by decide) (by decide) rfl (by decide) rfl kf_X2_16 dX2_next_5 ?_
  obtain ⟨c1, h2, h⟩ := br_b h
  have q3 := a_rfP h2
  refine J_aaldP h2 dX2_next_8 ?_
  refine J_astore_n (L' := [(1, .ref (c1)), (0, .ref (22))]) dX2_next_9 rfl (by decide) rfl ?_
  refine J_aload_n dX2_next_10 rfl 1 rfl ?_
  refine J_aload_n dX2_next_11 rfl 1 rfl ?_
  refine J_geti (j := 1) rfl (by decide) (by decide) rfl (by decide) rfl kf_X2_16 dX2_next_12 ?_
  refine J_iconst 1 dX2_next_15 rfl ?_
  refine J_iadd dX2_next_16 ?_
  refine J_bipush 16 dX2_next_17 rfl ?_
  refine J_irem dX2_next_19 (by decide) ?_
  obtain ⟨C4, e5, h⟩ := br_s h
  refine J_puti (j := 1) rfl (by decide) (by decide) rfl (by decide) rfl rfl rfl kf_X2_16 e5 dX2_next_20 ?_
  refine J_aload_n dX2_next_23 rfl 1 rfl ?_
  refine J_bipush 16 dX2_next_24 rfl ?_
  refine J_aload_n dX2_next_26 rfl 1 rfl ?_
  refine J_geti (j := 2) rfl (by decide) (by decide) rfl (by decide) rfl kf_X2_20 dX2_next_27 ?_
  refine J_iconst 1 dX2_next_30 rfl ?_
  refine J_iadd dX2_next_31 ?_
  refine J_mmin km_X2_23 kst_Math_min ki_Math kcd_Math_min (by decide) (Nat.le_of_ble_eq_true rfl) ⟨Nat.zero_le _, Nat.zero_le _⟩ dX2_next_32 ?_
  obtain ⟨C6, e7, h⟩ := br_s h
  refine J_puti (j := 2) rfl (by decide) (by decide) rfl (by decide) rfl rfl rfl kf_X2_20 e7 dX2_next_35 ?_
  refine J_aload_n dX2_next_38 rfl 0 rfl ?_
  have h := Option.some.inj h
  subst h
  exact J_aret (Or.inl ⟨_, rfl⟩) rfl rfl rfl (Kr _ _ rfl) dX2_next_39
theorem ct_X2_next  {C : aSc} {M : aMm} {v : Nat} {S' : aSc}  (h : f_X2_next  C = some (v, S')) : Ct mi_X2_next yX2_next [.ref (22)] (C, M) (some (.ref v), (S', M)) := Ct_of_J (by decide +kernel) rfl (Nat.le_of_ble_eq_true rfl) (jm_X2_next  h (fun _ _ e => by cases e; rfl))
def mi_X7_remember : aMi := (cX7_remember, 5, RX7, (some (.object "CoastLights$Step")), { frames := 2, cells := 0, slots := 0, locals := 42 })
def f_X7_remember (x1 : Int32) (x2 : Int32) (x3 : Int32) (C : aSc) : Option (Nat × aSc) :=
  (f_X7_forgetFound  C).bind fun C2 => bd2 (f_X2_next  C2) fun r4 C5 => if 62 ≤ r4 ∧ r4 < 94 ∧ r4 % 2 = 0 then (some (a_pi C5 r4 0 x1)).bind fun C8 => (some (a_pi C8 r4 1 x2)).bind fun C10 => (some (a_pi C10 r4 2 x3)).bind fun C12 => some (r4, C12) else none
set_option maxRecDepth 100000 in
set_option maxHeartbeats 4000000 in
theorem jm_X7_remember {x1 : Int32} {x2 : Int32} {x3 : Int32} {C : aSc} {M : aMm}  {res : aRes} {r : Nat × aSc} (h : f_X7_remember x1 x2 x3 C = some r) (Kr : ∀ (v : Nat) (S' : aSc), r = (v, S') → res = (some (.ref v), (S', M))) : J mi_X7_remember res 0 0 0 [(0, .ref (0)), (1, .int (x1)), (2, .int (x2)), (3, .int (x3))] [] (C, M) := by
  rw [f_X7_remember] at h
  refine J_aload_n dX7_remember_0 rfl 0 rfl ?_
  obtain ⟨C2, h1, h⟩ := br_b h
  refine J_callV (mj := mi_X7_forgetFound) (as := []) (rest := []) (ct_X7_forgetFound (M := M)  h1) ⟨rfl, rfl⟩ rfl rfl (by decide) rfl cg_X7_303 hd_X7_forgetFound rfl ⟨Nat.le_of_ble_eq_true rfl, Nat.le_of_ble_eq_true rfl⟩ (Nat.le_of_ble_eq_true rfl) ⟨Nat.zero_le _, Nat.zero_le _⟩ dX7_remember_1 ?_
  refine J_aload_n dX7_remember_4 rfl 0 rfl ?_
  refine J_getr (j := 17) (t := 30) (r := 22) rfl (by decide) (by decide) rfl (by decide) rfl rfl kf_X7_62 dX7_remember_5 ?_
  obtain ⟨r4, C5, h3, h⟩ := br_b2 h
  obtain ⟨h7, h⟩ := br_g h
  have q6 := a_ckP_is h7
  refine J_callV (mj := mi_X2_next) (as := []) (rest := []) (ct_X2_next (M := M)  h3) ⟨rfl, rfl⟩ rfl rfl (by decide) rfl cg_X7_367 hd_X2_next rfl ⟨Nat.le_of_ble_eq_true rfl, Nat.le_of_ble_eq_true rfl⟩ (Nat.le_of_ble_eq_true rfl) ⟨Nat.zero_le _, Nat.zero_le _⟩ dX7_remember_8 ?_
  refine J_astore (L' := [(4, .ref (r4)), (0, .ref (0)), (1, .int (x1)), (2, .int (x2)), (3, .int (x3))]) dX7_remember_11 (by decide) rfl ?_
  refine J_aload dX7_remember_13 0 rfl ?_
  refine J_iload_n dX7_remember_15 rfl 2 rfl ?_
  obtain ⟨C8, e9, h⟩ := br_s h
  refine J_puti (j := 0) q6.1 q6.2.1 (by decide) rfl (by decide) rfl rfl rfl kf_X7_370 e9 dX7_remember_16 ?_
  refine J_aload dX7_remember_19 0 rfl ?_
  refine J_iload_n dX7_remember_21 rfl 3 rfl ?_
  obtain ⟨C10, e11, h⟩ := br_s h
  refine J_puti (j := 1) q6.1 q6.2.1 (by decide) rfl (by decide) rfl rfl rfl kf_X7_373 e11 dX7_remember_22 ?_
  refine J_aload dX7_remember_25 0 rfl ?_
  refine J_iload_n dX7_remember_27 rfl 4 rfl ?_
  obtain ⟨C12, e13, h⟩ := br_s h
  refine J_puti (j := 2) q6.1 q6.2.1 (by decide) rfl (by decide) rfl rfl rfl kf_X7_376 e13 dX7_remember_28 ?_
  refine J_aload dX7_remember_31 0 rfl ?_
  have h := Option.some.inj h
  subst h
  exact J_aret (Or.inl ⟨_, rfl⟩) rfl rfl rfl (Kr _ _ rfl) dX7_remember_33
theorem ct_X7_remember {x1 : Int32} {x2 : Int32} {x3 : Int32} {C : aSc} {M : aMm} {v : Nat} {S' : aSc}  (h : f_X7_remember x1 x2 x3 C = some (v, S')) : Ct mi_X7_remember yX7_remember [.ref (0), .int (x1), .int (x2), .int (x3)] (C, M) (some (.ref v), (S', M)) := Ct_of_J (by decide +kernel) rfl (Nat.le_of_ble_eq_true rfl) (jm_X7_remember  h (fun _ _ e => by cases e; rfl))
def mi_X1_become : aMi := (cX1_become, 4, RX1, none, { frames := 0, cells := 0, slots := 0, locals := 0 })
def f_X1_become (x0 : Nat) (x1 : Int32) (x2 : Int32) (x3 : Int32) (C : aSc) : Option (aSc) :=
  (some (a_pi C x0 0 x1)).bind fun C1 => (some (a_pi C1 x0 1 x2)).bind fun C3 => (some (a_pi C3 x0 2 x3)).bind fun C5 => (some (a_pi C5 x0 8 (0 : Int32))).bind fun C7 => (some (a_pi C7 x0 9 (0 : Int32))).bind fun C9 => (some (a_pi C9 x0 10 (0 : Int32))).bind fun C11 => (some (a_pi C11 x0 11 (4 : Int32))).bind fun C13 => some C13
set_option maxRecDepth 100000 in
set_option maxHeartbeats 4000000 in
theorem jm_X1_become {x0 : Nat} {x1 : Int32} {x2 : Int32} {x3 : Int32} {C : aSc} {M : aMm} (qx0 : isL x0) {res : aRes} {r : aSc} (h : f_X1_become x0 x1 x2 x3 C = some r) (Kr : ∀ (S' : aSc), r = S' → res = (none, (S', M))) : J mi_X1_become res 0 0 0 [(0, .ref (x0)), (1, .int (x1)), (2, .int (x2)), (3, .int (x3))] [] (C, M) := by
  rw [f_X1_become] at h
  refine J_aload_n dX1_become_0 rfl 0 rfl ?_
  refine J_iload_n dX1_become_1 rfl 1 rfl ?_
  obtain ⟨C1, e2, h⟩ := br_s h
  refine J_puti (j := 0) qx0.1 qx0.2.1 (by decide) rfl (by decide) rfl rfl rfl kf_X1_19 e2 dX1_become_2 ?_
  refine J_aload_n dX1_become_5 rfl 0 rfl ?_
  refine J_iload_n dX1_become_6 rfl 2 rfl ?_
  obtain ⟨C3, e4, h⟩ := br_s h
  refine J_puti (j := 1) qx0.1 qx0.2.1 (by decide) rfl (by decide) rfl rfl rfl kf_X1_23 e4 dX1_become_7 ?_
  refine J_aload_n dX1_become_10 rfl 0 rfl ?_
  refine J_iload_n dX1_become_11 rfl 3 rfl ?_
  obtain ⟨C5, e6, h⟩ := br_s h
  refine J_puti (j := 2) qx0.1 qx0.2.1 (by decide) rfl (by decide) rfl rfl rfl kf_X1_26 e6 dX1_become_12 ?_
  refine J_aload_n dX1_become_15 rfl 0 rfl ?_
  refine J_iconst 0 dX1_become_16 rfl ?_
  obtain ⟨C7, e8, h⟩ := br_s h
  refine J_puti (j := 8) qx0.1 qx0.2.1 (by decide) rfl (by decide) rfl rfl rfl kf_X1_29 e8 dX1_become_17 ?_
  refine J_aload_n dX1_become_20 rfl 0 rfl ?_
  refine J_iconst 0 dX1_become_21 rfl ?_
  obtain ⟨C9, e10, h⟩ := br_s h
  refine J_puti (j := 9) qx0.1 qx0.2.1 (by decide) rfl (by decide) rfl rfl rfl kf_X1_32 e10 dX1_become_22 ?_
  refine J_aload_n dX1_become_25 rfl 0 rfl ?_
  refine J_iconst 0 dX1_become_26 rfl ?_
  obtain ⟨C11, e12, h⟩ := br_s h
  refine J_puti (j := 10) qx0.1 qx0.2.1 (by decide) rfl (by decide) rfl rfl rfl kf_X1_35 e12 dX1_become_27 ?_
  refine J_aload_n dX1_become_30 rfl 0 rfl ?_
  refine J_iconst 4 dX1_become_31 rfl ?_
  obtain ⟨C13, e14, h⟩ := br_s h
  refine J_puti (j := 11) qx0.1 qx0.2.1 (by decide) rfl (by decide) rfl rfl rfl kf_X1_38 e14 dX1_become_32 ?_
  have h := Option.some.inj h
  subst h
  exact J_vret rfl rfl rfl (Kr _ rfl) dX1_become_35
theorem ct_X1_become {x0 : Nat} {x1 : Int32} {x2 : Int32} {x3 : Int32} {C : aSc} {M : aMm} {S' : aSc} (qx0 : isL x0) (h : f_X1_become x0 x1 x2 x3 C = some S') : Ct mi_X1_become yX1_become [.ref (x0), .int (x1), .int (x2), .int (x3)] (C, M) (none, (S', M)) := Ct_of_J (by decide +kernel) rfl (Nat.le_of_ble_eq_true rfl) (jm_X1_become qx0 h (fun _ e => by cases e; rfl))
def mi_X5_litSeconds : aMi := (cX5_litSeconds, 6, RX5, (some .long), { frames := 0, cells := 0, slots := 0, locals := 0 })
def b_X5_litSeconds_42 (x1 : Int64) (x3 : Int64) (x5 : Int32) (C : aSc) : Option ((Int64 × Int32) ⊕ (Int64)) :=
  if ((a_gi C 1 5) : Int32) ≤ x5 then some (.inr x3) else some (.inl ((x3 ||| ((1 : Int64) <<< ((((2 : Int32) * x5) : Int32).toInt64 &&& 63))), (x5 + (1 : Int32))))
set_option maxRecDepth 100000 in
set_option maxHeartbeats 4000000 in
theorem jl_X5_litSeconds_42 {x1 : Int64} {C : aSc} {M : aMm}  {res : aRes} {r : Int64} : ∀ (n : Nat) (x3 : Int64) (x5 : Int32), lpf (fun a : Int64 × Int32 => b_X5_litSeconds_42 (x1) a.1 a.2 C) n (x3, x5) = some r → (∀ (z3 : Int64), r = z3 → J mi_X5_litSeconds res 0 0 66 [(0, .ref (1)), (1, .long (x1)), (3, .long (z3))] [] (C, M)) → J mi_X5_litSeconds res 0 0 42 [(0, .ref (1)), (1, .long (x1)), (3, .long (x3)), (5, .int (x5))] [] (C, M) := by
  intro n
  induction n with
  | zero =>
    intro x3 x5 h
    cases h
  | succ n ih =>
    intro x3 x5 h Kx
    obtain ⟨r0, h, h2⟩ := br_b h
    have h : b_X5_litSeconds_42 x1 x3 x5 C = some r0 := h
    rw [b_X5_litSeconds_42] at h
    refine J_iload dX5_litSeconds_42 3 rfl ?_
    refine J_aload_n dX5_litSeconds_44 rfl 0 rfl ?_
    refine J_geti (j := 5) rfl (by decide) (by decide) rfl (by decide) rfl kf_X5_22 dX5_litSeconds_45 ?_
    refine J_icmp_ge 66 dX5_litSeconds_48 (by decide) (fun c1 => ?_) (fun c1 => ?_)
    · have h := br_p c1 h
      have h := Option.some.inj h
      subst h
      have h2 := Option.some.inj h2
      subst h2
      refine J_sub [0, 1, 2] rfl ?_
      exact Kx _ rfl
    · have h := br_n c1 h
      refine J_lload_n dX5_litSeconds_51 rfl 2 rfl ?_
      refine J_lconst 1 dX5_litSeconds_52 rfl ?_
      refine J_iconst 2 dX5_litSeconds_53 rfl ?_
      refine J_iload dX5_litSeconds_54 3 rfl ?_
      refine J_imul dX5_litSeconds_56 ?_
      refine J_lshl dX5_litSeconds_57 ?_
      refine J_lor dX5_litSeconds_58 ?_
      refine J_lstore_n (L' := [(3, .long ((x3 ||| ((1 : Int64) <<< ((((2 : Int32) * x5) : Int32).toInt64 &&& 63))))), (0, .ref (1)), (1, .long (x1)), (5, .int (x5))]) dX5_litSeconds_59 rfl (by decide) rfl ?_
      refine J_iinc (j := 3) (v := (x5 + (1 : Int32))) (L' := [(5, .int ((x5 + (1 : Int32)))), (3, .long ((x3 ||| ((1 : Int64) <<< ((((2 : Int32) * x5) : Int32).toInt64 &&& 63))))), (0, .ref (1)), (1, .long (x1))]) dX5_litSeconds_60 rfl rfl (by decide) rfl ?_
      refine J_goto 42 dX5_litSeconds_63 (by decide) ?_
      have h := Option.some.inj h
      subst h
      refine J_sub [2, 3, 1, 0] rfl ?_
      exact ih _ _ h2 Kx
def f_X5_litSeconds  (C : aSc) : Option (Int64) :=
  if ((a_gi C 1 4) : Int32) = 0 then some (((1 : Int64) <<< (((a_gi C 1 7) : Int32).toInt64 &&& 63)) - (1 : Int64)) else if ((a_gi C 1 4) : Int32) = (4 : Int32) then some (((1 : Int64) <<< ((((a_gi C 1 7) / (2 : Int32)) : Int32).toInt64 &&& 63)) - (1 : Int64)) else (lpf (fun a : Int64 × Int32 => b_X5_litSeconds_42 ((((1 : Int64) <<< (((a_gi C 1 7) : Int32).toInt64 &&& 63)) - (1 : Int64))) a.1 a.2 C) FU ((0 : Int64), (0 : Int32))).bind fun z2 => if ((a_gi C 1 4) : Int32) = (2 : Int32) then some ((((1 : Int64) <<< (((a_gi C 1 7) : Int32).toInt64 &&& 63)) - (1 : Int64)) &&& (z2 ^^^ (-1 : Int64))) else some z2
set_option maxRecDepth 100000 in
set_option maxHeartbeats 4000000 in
theorem jm_X5_litSeconds  {C : aSc} {M : aMm}  {res : aRes} {r : Int64} (h : f_X5_litSeconds  C = some r) (Kr : ∀ (v : Int64), r = v → res = (some (.long v), (C, M))) : J mi_X5_litSeconds res 0 0 0 [(0, .ref (1))] [] (C, M) := by
  rw [f_X5_litSeconds] at h
  refine J_lconst 1 dX5_litSeconds_0 rfl ?_
  refine J_aload_n dX5_litSeconds_1 rfl 0 rfl ?_
  refine J_geti (j := 7) rfl (by decide) (by decide) rfl (by decide) rfl kf_X5_25 dX5_litSeconds_2 ?_
  refine J_lshl dX5_litSeconds_5 ?_
  refine J_lconst 1 dX5_litSeconds_6 rfl ?_
  refine J_lsub dX5_litSeconds_7 ?_
  refine J_lstore_n (L' := [(1, .long ((((1 : Int64) <<< (((a_gi C 1 7) : Int32).toInt64 &&& 63)) - (1 : Int64)))), (0, .ref (1))]) dX5_litSeconds_8 rfl (by decide) rfl ?_
  refine J_aload_n dX5_litSeconds_9 rfl 1 rfl ?_
  refine J_geti (j := 4) rfl (by decide) (by decide) rfl (by decide) rfl kf_X5_35 dX5_litSeconds_10 ?_
  refine J_if_ne 18 dX5_litSeconds_13 (by decide) (fun c7 => ?_) (fun c7 => ?_)
  · have h := br_n c7 h
    refine J_aload_n dX5_litSeconds_18 rfl 1 rfl ?_
    refine J_geti (j := 4) rfl (by decide) (by decide) rfl (by decide) rfl kf_X5_35 dX5_litSeconds_19 ?_
    refine J_iconst 4 dX5_litSeconds_22 rfl ?_
    refine J_icmp_ne 37 dX5_litSeconds_23 (by decide) (fun c6 => ?_) (fun c6 => ?_)
    · have h := br_n c6 h
      refine J_lconst 0 dX5_litSeconds_37 rfl ?_
      refine J_lstore_n (L' := [(3, .long ((0 : Int64))), (1, .long ((((1 : Int64) <<< (((a_gi C 1 7) : Int32).toInt64 &&& 63)) - (1 : Int64)))), (0, .ref (1))]) dX5_litSeconds_38 rfl (by decide) rfl ?_
      refine J_iconst 0 dX5_litSeconds_39 rfl ?_
      refine J_istore (L' := [(5, .int ((0 : Int32))), (3, .long ((0 : Int64))), (1, .long ((((1 : Int64) <<< (((a_gi C 1 7) : Int32).toInt64 &&& 63)) - (1 : Int64)))), (0, .ref (1))]) dX5_litSeconds_40 (by decide) rfl ?_
      refine J_sub [3, 2, 1, 0] rfl ?_
      obtain ⟨z2, h3, h⟩ := br_b h
      refine jl_X5_litSeconds_42  FU _ _ h3 ?_
      intro zz e
      subst e
      refine J_aload_n dX5_litSeconds_66 rfl 0 rfl ?_
      refine J_geti (j := 4) rfl (by decide) (by decide) rfl (by decide) rfl kf_X5_35 dX5_litSeconds_67 ?_
      refine J_iconst 2 dX5_litSeconds_70 rfl ?_
      refine J_icmp_ne 84 dX5_litSeconds_71 (by decide) (fun c5 => ?_) (fun c5 => ?_)
      · have h := br_n c5 h
        refine J_lload_n dX5_litSeconds_84 rfl 2 rfl ?_
        have h := Option.some.inj h
        subst h
        exact J_lret rfl rfl rfl (Kr _ rfl) dX5_litSeconds_85
      · have h := br_p c5 h
        refine J_lload_n dX5_litSeconds_74 rfl 1 rfl ?_
        refine J_lload_n dX5_litSeconds_75 rfl 2 rfl ?_
        refine J_ldc2 (-1) dX5_litSeconds_76 kl_X5_68 ?_
        refine J_lxor dX5_litSeconds_79 ?_
        refine J_land dX5_litSeconds_80 ?_
        refine J_goto 85 dX5_litSeconds_81 (by decide) ?_
        have h := Option.some.inj h
        subst h
        exact J_lret rfl rfl rfl (Kr _ rfl) dX5_litSeconds_85
    · have h := br_p c6 h
      refine J_lconst 1 dX5_litSeconds_26 rfl ?_
      refine J_aload_n dX5_litSeconds_27 rfl 1 rfl ?_
      refine J_geti (j := 7) rfl (by decide) (by decide) rfl (by decide) rfl kf_X5_25 dX5_litSeconds_28 ?_
      refine J_iconst 2 dX5_litSeconds_31 rfl ?_
      refine J_idiv dX5_litSeconds_32 (by decide) ?_
      refine J_lshl dX5_litSeconds_33 ?_
      refine J_lconst 1 dX5_litSeconds_34 rfl ?_
      refine J_lsub dX5_litSeconds_35 ?_
      have h := Option.some.inj h
      subst h
      exact J_lret rfl rfl rfl (Kr _ rfl) dX5_litSeconds_36
  · have h := br_p c7 h
    refine J_lload_n dX5_litSeconds_16 rfl 0 rfl ?_
    have h := Option.some.inj h
    subst h
    exact J_lret rfl rfl rfl (Kr _ rfl) dX5_litSeconds_17
theorem ct_X5_litSeconds  {C : aSc} {M : aMm} {v : Int64}  (h : f_X5_litSeconds  C = some v) : Ct mi_X5_litSeconds yX5_litSeconds [.ref (1)] (C, M) (some (.long v), (C, M)) := Ct_of_J (by decide +kernel) rfl (Nat.le_of_ble_eq_true rfl) (jm_X5_litSeconds  h (fun _ e => by cases e; rfl))
def mi_X1_take : aMi := (cX1_take, 6, RX1, none, { frames := 1, cells := 0, slots := 0, locals := 25 })
def b_X1_take_68 (x0 : Nat) (x2 : Int32) (x3 : Int64) (x5 : Int32) (C : aSc) : Option ((Int64 × Int32) ⊕ (Int64)) :=
  if ((64 : Int32) : Int32) ≤ x5 then some (.inr x3) else some (.inl ((x3 ||| (((x3 >>> (((x5 - (a_gi C x0 4)) : Int32).toInt64 &&& 63)) &&& (1 : Int64)) <<< ((x5 : Int32).toInt64 &&& 63))), (x5 + (1 : Int32))))
set_option maxRecDepth 100000 in
set_option maxHeartbeats 4000000 in
theorem jl_X1_take_68 {x0 : Nat} {x2 : Int32} {C : aSc} {M : aMm} (qx0 : isL x0) {res : aRes} {r : Int64} : ∀ (n : Nat) (x3 : Int64) (x5 : Int32), lpf (fun a : Int64 × Int32 => b_X1_take_68 (x0) (x2) a.1 a.2 C) n (x3, x5) = some r → (∀ (z3 : Int64), r = z3 → J mi_X1_take res 0 0 98 [(0, .ref (x0)), (2, .int (x2)), (3, .long (z3))] [] (C, M)) → J mi_X1_take res 0 0 68 [(0, .ref (x0)), (2, .int (x2)), (3, .long (x3)), (5, .int (x5))] [] (C, M) := by
  intro n
  induction n with
  | zero =>
    intro x3 x5 h
    cases h
  | succ n ih =>
    intro x3 x5 h Kx
    obtain ⟨r0, h, h2⟩ := br_b h
    have h : b_X1_take_68 x0 x2 x3 x5 C = some r0 := h
    rw [b_X1_take_68] at h
    refine J_iload dX1_take_68 3 rfl ?_
    refine J_bipush 64 dX1_take_70 rfl ?_
    refine J_icmp_ge 98 dX1_take_72 (by decide) (fun c9 => ?_) (fun c9 => ?_)
    · have h := br_p c9 h
      have h := Option.some.inj h
      subst h
      have h2 := Option.some.inj h2
      subst h2
      refine J_sub [0, 1, 2] rfl ?_
      exact Kx _ rfl
    · have h := br_n c9 h
      refine J_lload_n dX1_take_75 rfl 2 rfl ?_
      refine J_lload_n dX1_take_76 rfl 2 rfl ?_
      refine J_iload dX1_take_77 3 rfl ?_
      refine J_aload_n dX1_take_79 rfl 0 rfl ?_
      refine J_geti (j := 4) qx0.1 qx0.2.1 (by decide) rfl (by decide) rfl kf_X1_59 dX1_take_80 ?_
      refine J_isub dX1_take_83 ?_
      refine J_lshr dX1_take_84 ?_
      refine J_lconst 1 dX1_take_85 rfl ?_
      refine J_land dX1_take_86 ?_
      refine J_iload dX1_take_87 3 rfl ?_
      refine J_lshl dX1_take_89 ?_
      refine J_lor dX1_take_90 ?_
      refine J_lstore_n (L' := [(3, .long ((x3 ||| (((x3 >>> (((x5 - (a_gi C x0 4)) : Int32).toInt64 &&& 63)) &&& (1 : Int64)) <<< ((x5 : Int32).toInt64 &&& 63))))), (0, .ref (x0)), (2, .int (x2)), (5, .int (x5))]) dX1_take_91 rfl (by decide) rfl ?_
      refine J_iinc (j := 3) (v := (x5 + (1 : Int32))) (L' := [(5, .int ((x5 + (1 : Int32)))), (3, .long ((x3 ||| (((x3 >>> (((x5 - (a_gi C x0 4)) : Int32).toInt64 &&& 63)) &&& (1 : Int64)) <<< ((x5 : Int32).toInt64 &&& 63))))), (0, .ref (x0)), (2, .int (x2))]) dX1_take_92 rfl rfl (by decide) rfl ?_
      refine J_goto 68 dX1_take_95 (by decide) ?_
      have h := Option.some.inj h
      subst h
      refine J_sub [2, 3, 1, 0] rfl ?_
      exact ih _ _ h2 Kx
def b_X1_take_35 (x0 : Nat) (x2 : Int32) (C : aSc) : Option ((Int32 × aSc) ⊕ (aSc)) :=
  if ((a_gi C x0 4) : Int32) ≤ x2 then some (.inr C) else (lpf (fun a : Int64 × Int32 => b_X1_take_68 (x0) (x2) a.1 a.2 C) FU ((((a_gl C x0 5) >>> ((x2 : Int32).toInt64 &&& 63)) ||| ((a_gl C x0 5) <<< ((((a_gi C x0 4) - x2) : Int32).toInt64 &&& 63))), (a_gi C x0 4))).bind fun z10 => (a_stl C (x0 + 1) x2 z10).bind fun C13 => some (.inl ((x2 + (1 : Int32)), C13))
set_option maxRecDepth 100000 in
set_option maxHeartbeats 4000000 in
theorem jl_X1_take_35 {x0 : Nat} {M : aMm} (qx0 : isL x0) {res : aRes} {r : aSc} : ∀ (n : Nat) (x2 : Int32) (C : aSc), lpf (fun a : Int32 × aSc => b_X1_take_35 (x0) a.1 a.2) n (x2, C) = some r → (∀ (S2 : aSc), r = S2 → J mi_X1_take res 0 0 111 [] [] (S2, M)) → J mi_X1_take res 0 0 35 [(0, .ref (x0)), (2, .int (x2))] [] (C, M) := by
  intro n
  induction n with
  | zero =>
    intro x2 C h
    cases h
  | succ n ih =>
    intro x2 C h Kx
    obtain ⟨r0, h, h2⟩ := br_b h
    have h : b_X1_take_35 x0 x2 C = some r0 := h
    rw [b_X1_take_35] at h
    refine J_iload_n dX1_take_35 rfl 1 rfl ?_
    refine J_aload_n dX1_take_36 rfl 0 rfl ?_
    refine J_geti (j := 4) qx0.1 qx0.2.1 (by decide) rfl (by decide) rfl kf_X1_59 dX1_take_37 ?_
    refine J_icmp_ge 111 dX1_take_40 (by decide) (fun c15 => ?_) (fun c15 => ?_)
    · have h := br_p c15 h
      have h := Option.some.inj h
      subst h
      have h2 := Option.some.inj h2
      subst h2
      refine J_sub [] rfl ?_
      exact Kx _ rfl
    · have h := br_n c15 h
      refine J_aload_n dX1_take_43 rfl 0 rfl ?_
      refine J_getl (j := 5) qx0.1 qx0.2.1 (by decide) rfl (by decide) rfl kf_X1_66 dX1_take_44 ?_
      refine J_iload_n dX1_take_47 rfl 1 rfl ?_
      refine J_lshr dX1_take_48 ?_
      refine J_aload_n dX1_take_49 rfl 0 rfl ?_
      refine J_getl (j := 5) qx0.1 qx0.2.1 (by decide) rfl (by decide) rfl kf_X1_66 dX1_take_50 ?_
      refine J_aload_n dX1_take_53 rfl 0 rfl ?_
      refine J_geti (j := 4) qx0.1 qx0.2.1 (by decide) rfl (by decide) rfl kf_X1_59 dX1_take_54 ?_
      refine J_iload_n dX1_take_57 rfl 1 rfl ?_
      refine J_isub dX1_take_58 ?_
      refine J_lshl dX1_take_59 ?_
      refine J_lor dX1_take_60 ?_
      refine J_lstore_n (L' := [(3, .long ((((a_gl C x0 5) >>> ((x2 : Int32).toInt64 &&& 63)) ||| ((a_gl C x0 5) <<< ((((a_gi C x0 4) - x2) : Int32).toInt64 &&& 63))))), (0, .ref (x0)), (2, .int (x2))]) dX1_take_61 rfl (by decide) rfl ?_
      refine J_aload_n dX1_take_62 rfl 1 rfl ?_
      refine J_geti (j := 4) qx0.1 qx0.2.1 (by decide) rfl (by decide) rfl kf_X1_59 dX1_take_63 ?_
      refine J_istore (L' := [(5, .int ((a_gi C x0 4))), (3, .long ((((a_gl C x0 5) >>> ((x2 : Int32).toInt64 &&& 63)) ||| ((a_gl C x0 5) <<< ((((a_gi C x0 4) - x2) : Int32).toInt64 &&& 63))))), (0, .ref (x0)), (2, .int (x2))]) dX1_take_66 (by decide) rfl ?_
      refine J_sub [2, 3, 1, 0] rfl ?_
      obtain ⟨z10, h11, h⟩ := br_b h
      refine jl_X1_take_68 qx0 FU _ _ h11 ?_
      intro zz e
      subst e
      refine J_aload_n dX1_take_98 rfl 0 rfl ?_
      refine J_getr (j := 6) (t := 0) (r := x0 + 1) qx0.1 (Nat.lt_trans qx0.2.1 (by decide)) (by decide) rfl (by decide) rfl rfl kf_X1_11 dX1_take_99 ?_
      refine J_iload_n dX1_take_102 rfl 1 rfl ?_
      refine J_lload_n dX1_take_103 rfl 2 rfl ?_
      obtain ⟨C13, h14, h⟩ := br_b h
      refine J_last qx0.2.2.1 qx0.2.2.2.1 h14 dX1_take_104 ?_
      refine J_iinc (j := 1) (v := (x2 + (1 : Int32))) (L' := [(2, .int ((x2 + (1 : Int32)))), (0, .ref (x0)), (3, .long (z10))]) dX1_take_105 rfl rfl (by decide) rfl ?_
      refine J_goto 35 dX1_take_108 (by decide) ?_
      have h := Option.some.inj h
      subst h
      refine J_sub [1, 0] rfl ?_
      exact ih _ _ h2 Kx
def f_X1_take (x0 : Nat) (C : aSc) : Option (aSc) :=
  (some (a_pi C x0 3 (a_gi C 1 6))).bind fun C1 => (some (a_pi C1 x0 4 (a_max (1 : Int32) (a_min (30 : Int32) (a_gi C1 1 7))))).bind fun C3 => (f_X5_litSeconds  C3).bind fun r6 => (some (a_pl C3 x0 5 r6)).bind fun C7 => (lpf (fun a : Int32 × aSc => b_X1_take_35 (x0) a.1 a.2) FU ((0 : Int32), C7)).bind fun z16 => some z16
set_option maxRecDepth 100000 in
set_option maxHeartbeats 4000000 in
theorem jm_X1_take {x0 : Nat} {C : aSc} {M : aMm} (qx0 : isL x0) {res : aRes} {r : aSc} (h : f_X1_take x0 C = some r) (Kr : ∀ (S' : aSc), r = S' → res = (none, (S', M))) : J mi_X1_take res 0 0 0 [(0, .ref (x0)), (1, .ref (1))] [] (C, M) := by
  rw [f_X1_take] at h
  refine J_aload_n dX1_take_0 rfl 0 rfl ?_
  refine J_aload_n dX1_take_1 rfl 1 rfl ?_
  refine J_geti (j := 6) rfl (by decide) (by decide) rfl (by decide) rfl kf_X1_41 dX1_take_2 ?_
  obtain ⟨C1, e2, h⟩ := br_s h
  refine J_puti (j := 3) qx0.1 qx0.2.1 (by decide) rfl (by decide) rfl rfl rfl kf_X1_46 e2 dX1_take_5 ?_
  refine J_aload_n dX1_take_8 rfl 0 rfl ?_
  refine J_iconst 1 dX1_take_9 rfl ?_
  refine J_bipush 30 dX1_take_10 rfl ?_
  refine J_aload_n dX1_take_12 rfl 1 rfl ?_
  refine J_geti (j := 7) rfl (by decide) (by decide) rfl (by decide) rfl kf_X1_47 dX1_take_13 ?_
  refine J_mmin km_X1_50 kst_Math_min ki_Math kcd_Math_min (by decide) (Nat.le_of_ble_eq_true rfl) ⟨Nat.zero_le _, Nat.zero_le _⟩ dX1_take_16 ?_
  refine J_mmax km_X1_56 kst_Math_max ki_Math kcd_Math_max (by decide) (Nat.le_of_ble_eq_true rfl) ⟨Nat.zero_le _, Nat.zero_le _⟩ dX1_take_19 ?_
  obtain ⟨C3, e4, h⟩ := br_s h
  refine J_puti (j := 4) qx0.1 qx0.2.1 (by decide) rfl (by decide) rfl rfl rfl kf_X1_59 e4 dX1_take_22 ?_
  refine J_aload_n dX1_take_25 rfl 0 rfl ?_
  refine J_aload_n dX1_take_26 rfl 1 rfl ?_
  obtain ⟨r6, h5, h⟩ := br_b h
  refine J_callV (mj := mi_X5_litSeconds) (as := []) (rest := [.ref (x0)]) (ct_X5_litSeconds (M := M)  h5) ⟨rfl, rfl⟩ rfl rfl (by decide) rfl cg_X1_62 hd_X5_litSeconds rfl ⟨Nat.le_of_ble_eq_true rfl, Nat.le_of_ble_eq_true rfl⟩ (Nat.le_of_ble_eq_true rfl) ⟨Nat.zero_le _, Nat.zero_le _⟩ dX1_take_27 ?_
  obtain ⟨C7, e8, h⟩ := br_s h
  refine J_putl (j := 5) qx0.1 qx0.2.1 (by decide) rfl (by decide) rfl rfl rfl kf_X1_66 e8 dX1_take_30 ?_
  refine J_iconst 0 dX1_take_33 rfl ?_
  refine J_istore_n (L' := [(2, .int ((0 : Int32))), (0, .ref (x0)), (1, .ref (1))]) dX1_take_34 rfl (by decide) rfl ?_
  refine J_sub [1, 0] rfl ?_
  obtain ⟨z16, h17, h⟩ := br_b h
  refine jl_X1_take_35 qx0 FU _ _ h17 ?_
  intro zz e
  subst e
  have h := Option.some.inj h
  subst h
  exact J_vret rfl rfl rfl (Kr _ rfl) dX1_take_111
theorem ct_X1_take {x0 : Nat} {C : aSc} {M : aMm} {S' : aSc} (qx0 : isL x0) (h : f_X1_take x0 C = some S') : Ct mi_X1_take yX1_take [.ref (x0), .ref (1)] (C, M) (none, (S', M)) := Ct_of_J (by decide +kernel) rfl (Nat.le_of_ble_eq_true rfl) (jm_X1_take qx0 h (fun _ e => by cases e; rfl))
def mi_X7_light : aMi := (cX7_light, 5, RX7, (some .int), { frames := 5, cells := 0, slots := 0, locals := 101 })
def f_X7_light (x1 : Int32) (x2 : Int32) (x3 : Int32) (C : aSc) : Option (Int32 × aSc) :=
  (f_X7_isKind x1 C).bind fun r2 => if (r2 : Int32) = 0 then bd2 (f_X7_refuse (-100001 : Int32) C) fun r4 C5 => some (r4, C5) else (f_X7_isCell x2 C).bind fun r7 => if (r7 : Int32) = 0 then bd2 (f_X7_refuse (-100001 : Int32) C) fun r9 C10 => some (r9, C10) else if (x3 : Int32) < (1 : Int32) then bd2 (f_X7_refuse (-100001 : Int32) C) fun r12 C13 => some (r12, C13) else if (x3 : Int32) ≤ (15 : Int32) then if ((a_gi C 0 2) : Int32) < (10 : Int32) then bd2 (f_X5_findFault  C) fun r15 C16 => (some (a_pi C16 1 1 (0 : Int32))).bind fun C17 => if (r15 : Int32) < 0 then bd2 (f_X7_remember (0 : Int32) (a_gi C17 0 2) (0 : Int32) C17) fun r20 C21 => if 62 ≤ r20 ∧ r20 < 94 ∧ r20 % 2 = 0 then (a_rf 24 3 10 (a_gi C21 0 2)).bind fun c24 => (f_X1_become c24 x1 x2 x3 C21).bind fun C28 => (a_rf 24 3 10 (a_gi C28 0 2)).bind fun c29 => (f_X1_take c29 C28).bind fun C33 => (some (a_pi C33 0 2 ((a_gi C33 0 2) + (1 : Int32)))).bind fun C34 => some (((a_gi C34 0 2) - (1 : Int32)), C34) else none else some (((-1 : Int32) - r15), C17) else bd2 (f_X7_refuse (-100005 : Int32) C) fun r38 C39 => some (r38, C39) else bd2 (f_X7_refuse (-100001 : Int32) C) fun r42 C43 => some (r42, C43)
set_option maxRecDepth 100000 in
set_option maxHeartbeats 4000000 in
theorem jm_X7_light {x1 : Int32} {x2 : Int32} {x3 : Int32} {C : aSc} {M : aMm}  {res : aRes} {r : Int32 × aSc} (h : f_X7_light x1 x2 x3 C = some r) (Kr : ∀ (v : Int32) (S' : aSc), r = (v, S') → res = (some (.int v), (S', M))) : J mi_X7_light res 0 0 0 [(0, .ref (0)), (1, .int (x1)), (2, .int (x2)), (3, .int (x3))] [] (C, M) := by
  rw [f_X7_light] at h
  refine J_iload_n dX7_light_0 rfl 1 rfl ?_
  obtain ⟨r2, h1, h⟩ := br_b h
  refine J_callS (mj := mi_X7_isKind) (as := [.int (x1)]) (rest := []) (ct_X7_isKind (M := M)  h1) ⟨rfl, rfl⟩ rfl cg_X7_82 hd_X7_isKind rfl ⟨Nat.le_of_ble_eq_true rfl, Nat.le_of_ble_eq_true rfl⟩ (Nat.le_of_ble_eq_true rfl) ⟨Nat.zero_le _, Nat.zero_le _⟩ dX7_light_1 ?_
  refine J_if_eq 25 dX7_light_4 (by decide) (fun c47 => ?_) (fun c47 => ?_)
  · have h := br_p c47 h
    refine J_aload_n dX7_light_25 rfl 0 rfl ?_
    refine J_ldc (-100001) dX7_light_26 kc_X7_68 ?_
    obtain ⟨r4, C5, h3, h⟩ := br_b2 h
    refine J_callV (mj := mi_X7_refuse) (as := [.int ((-100001 : Int32))]) (rest := []) (ct_X7_refuse (M := M)  h3) ⟨rfl, rfl⟩ rfl rfl (by decide) rfl cg_X7_69 hd_X7_refuse rfl ⟨Nat.le_of_ble_eq_true rfl, Nat.le_of_ble_eq_true rfl⟩ (Nat.le_of_ble_eq_true rfl) ⟨Nat.zero_le _, Nat.zero_le _⟩ dX7_light_28 ?_
    have h := Option.some.inj h
    subst h
    exact J_iret rfl rfl rfl (Kr _ _ rfl) dX7_light_31
  · have h := br_n c47 h
    refine J_iload_n dX7_light_7 rfl 2 rfl ?_
    obtain ⟨r7, h6, h⟩ := br_b h
    refine J_callS (mj := mi_X7_isCell) (as := [.int (x2)]) (rest := []) (ct_X7_isCell (M := M)  h6) ⟨rfl, rfl⟩ rfl cg_X7_86 hd_X7_isCell rfl ⟨Nat.le_of_ble_eq_true rfl, Nat.le_of_ble_eq_true rfl⟩ (Nat.le_of_ble_eq_true rfl) ⟨Nat.zero_le _, Nat.zero_le _⟩ dX7_light_8 ?_
    refine J_if_eq 25 dX7_light_11 (by decide) (fun c46 => ?_) (fun c46 => ?_)
    · have h := br_p c46 h
      refine J_aload_n dX7_light_25 rfl 0 rfl ?_
      refine J_ldc (-100001) dX7_light_26 kc_X7_68 ?_
      obtain ⟨r9, C10, h8, h⟩ := br_b2 h
      refine J_callV (mj := mi_X7_refuse) (as := [.int ((-100001 : Int32))]) (rest := []) (ct_X7_refuse (M := M)  h8) ⟨rfl, rfl⟩ rfl rfl (by decide) rfl cg_X7_69 hd_X7_refuse rfl ⟨Nat.le_of_ble_eq_true rfl, Nat.le_of_ble_eq_true rfl⟩ (Nat.le_of_ble_eq_true rfl) ⟨Nat.zero_le _, Nat.zero_le _⟩ dX7_light_28 ?_
      have h := Option.some.inj h
      subst h
      exact J_iret rfl rfl rfl (Kr _ _ rfl) dX7_light_31
    · have h := br_n c46 h
      refine J_iload_n dX7_light_14 rfl 3 rfl ?_
      refine J_iconst 1 dX7_light_15 rfl ?_
      refine J_icmp_lt 25 dX7_light_16 (by decide) (fun c45 => ?_) (fun c45 => ?_)
      · have h := br_p c45 h
        refine J_aload_n dX7_light_25 rfl 0 rfl ?_
        refine J_ldc (-100001) dX7_light_26 kc_X7_68 ?_
        obtain ⟨r12, C13, h11, h⟩ := br_b2 h
        refine J_callV (mj := mi_X7_refuse) (as := [.int ((-100001 : Int32))]) (rest := []) (ct_X7_refuse (M := M)  h11) ⟨rfl, rfl⟩ rfl rfl (by decide) rfl cg_X7_69 hd_X7_refuse rfl ⟨Nat.le_of_ble_eq_true rfl, Nat.le_of_ble_eq_true rfl⟩ (Nat.le_of_ble_eq_true rfl) ⟨Nat.zero_le _, Nat.zero_le _⟩ dX7_light_28 ?_
        have h := Option.some.inj h
        subst h
        exact J_iret rfl rfl rfl (Kr _ _ rfl) dX7_light_31
      · have h := br_n c45 h
        refine J_iload_n dX7_light_19 rfl 3 rfl ?_
        refine J_bipush 15 dX7_light_20 rfl ?_
        refine J_icmp_le 32 dX7_light_22 (by decide) (fun c44 => ?_) (fun c44 => ?_)
        · have h := br_p c44 h
          refine J_aload_n dX7_light_32 rfl 0 rfl ?_
          refine J_geti (j := 2) rfl (by decide) (by decide) rfl (by decide) rfl kf_X7_89 dX7_light_33 ?_
          refine J_bipush 10 dX7_light_36 rfl ?_
          refine J_icmp_lt 48 dX7_light_38 (by decide) (fun c40 => ?_) (fun c40 => ?_)
          · have h := br_p c40 h
            refine J_aload_n dX7_light_48 rfl 0 rfl ?_
            refine J_getr (j := 0) (t := 9) (r := 1) rfl (by decide) (by decide) rfl (by decide) rfl rfl kf_X7_10 dX7_light_49 ?_
            obtain ⟨r15, C16, h14, h⟩ := br_b2 h
            refine J_callV (mj := mi_X5_findFault) (as := []) (rest := []) (ct_X5_findFault (M := M)  h14) ⟨rfl, rfl⟩ rfl rfl (by decide) rfl cg_X7_92 hd_X5_findFault rfl ⟨Nat.le_of_ble_eq_true rfl, Nat.le_of_ble_eq_true rfl⟩ (Nat.le_of_ble_eq_true rfl) ⟨Nat.zero_le _, Nat.zero_le _⟩ dX7_light_52 ?_
            refine J_istore (L' := [(4, .int (r15)), (0, .ref (0)), (1, .int (x1)), (2, .int (x2)), (3, .int (x3))]) dX7_light_55 (by decide) rfl ?_
            refine J_aload_n dX7_light_57 rfl 1 rfl ?_
            refine J_getr (j := 0) (t := 9) (r := 1) rfl (by decide) (by decide) rfl (by decide) rfl rfl kf_X7_10 dX7_light_58 ?_
            refine J_iconst 0 dX7_light_61 rfl ?_
            obtain ⟨C17, e18, h⟩ := br_s h
            refine J_puti (j := 1) rfl (by decide) (by decide) rfl (by decide) rfl rfl rfl kf_X7_73 e18 dX7_light_62 ?_
            refine J_iload dX7_light_65 0 rfl ?_
            refine J_if_lt 75 dX7_light_67 (by decide) (fun c36 => ?_) (fun c36 => ?_)
            · have h := br_p c36 h
              refine J_aload_n dX7_light_75 rfl 1 rfl ?_
              refine J_iconst 0 dX7_light_76 rfl ?_
              refine J_aload_n dX7_light_77 rfl 1 rfl ?_
              refine J_geti (j := 2) rfl (by decide) (by decide) rfl (by decide) rfl kf_X7_89 dX7_light_78 ?_
              refine J_iconst 0 dX7_light_81 rfl ?_
              obtain ⟨r20, C21, h19, h⟩ := br_b2 h
              obtain ⟨h23, h⟩ := br_g h
              have q22 := a_ckP_is h23
              refine J_callV (mj := mi_X7_remember) (as := [.int ((0 : Int32)), .int ((a_gi C17 0 2)), .int ((0 : Int32))]) (rest := []) (ct_X7_remember (M := M)  h19) ⟨rfl, rfl⟩ rfl rfl (by decide) rfl cg_X7_96 hd_X7_remember rfl ⟨Nat.le_of_ble_eq_true rfl, Nat.le_of_ble_eq_true rfl⟩ (Nat.le_of_ble_eq_true rfl) ⟨Nat.zero_le _, Nat.zero_le _⟩ dX7_light_82 ?_
              refine J_pop dX7_light_85 rfl ?_
              refine J_aload_n dX7_light_86 rfl 1 rfl ?_
              refine J_getr (j := 1) (t := 11) (r := 3) rfl (by decide) (by decide) rfl (by decide) rfl rfl kf_X7_18 dX7_light_87 ?_
              refine J_aload_n dX7_light_90 rfl 1 rfl ?_
              refine J_geti (j := 2) rfl (by decide) (by decide) rfl (by decide) rfl kf_X7_89 dX7_light_91 ?_
              obtain ⟨c24, h25, h⟩ := br_b h
              have q26 := a_rfL h25
              refine J_aaldL h25 dX7_light_94 ?_
              refine J_iload_n dX7_light_95 rfl 2 rfl ?_
              refine J_iload_n dX7_light_96 rfl 3 rfl ?_
              refine J_iload_n dX7_light_97 rfl 4 rfl ?_
              obtain ⟨C28, h27, h⟩ := br_b h
              refine J_callV (mj := mi_X1_become) (as := [.int (x1), .int (x2), .int (x3)]) (rest := []) (ct_X1_become (M := M) q26 h27) ⟨rfl, rfl⟩ rfl q26.1 (by decide) rfl cg_X7_100 hd_X1_become rfl ⟨Nat.le_of_ble_eq_true rfl, Nat.le_of_ble_eq_true rfl⟩ (Nat.le_of_ble_eq_true rfl) ⟨Nat.zero_le _, Nat.zero_le _⟩ dX7_light_98 ?_
              refine J_aload_n dX7_light_101 rfl 1 rfl ?_
              refine J_getr (j := 1) (t := 11) (r := 3) rfl (by decide) (by decide) rfl (by decide) rfl rfl kf_X7_18 dX7_light_102 ?_
              refine J_aload_n dX7_light_105 rfl 1 rfl ?_
              refine J_geti (j := 2) rfl (by decide) (by decide) rfl (by decide) rfl kf_X7_89 dX7_light_106 ?_
              obtain ⟨c29, h30, h⟩ := br_b h
              have q31 := a_rfL h30
              refine J_aaldL h30 dX7_light_109 ?_
              refine J_aload_n dX7_light_110 rfl 1 rfl ?_
              refine J_getr (j := 0) (t := 9) (r := 1) rfl (by decide) (by decide) rfl (by decide) rfl rfl kf_X7_10 dX7_light_111 ?_
              obtain ⟨C33, h32, h⟩ := br_b h
              refine J_callV (mj := mi_X1_take) (as := [.ref (1)]) (rest := []) (ct_X1_take (M := M) q31 h32) ⟨rfl, rfl⟩ rfl q31.1 (by decide) rfl cg_X7_104 hd_X1_take rfl ⟨Nat.le_of_ble_eq_true rfl, Nat.le_of_ble_eq_true rfl⟩ (Nat.le_of_ble_eq_true rfl) ⟨Nat.zero_le _, Nat.zero_le _⟩ dX7_light_114 ?_
              refine J_aload_n dX7_light_117 rfl 1 rfl ?_
              refine J_dup dX7_light_118 rfl ?_
              refine J_geti (j := 2) rfl (by decide) (by decide) rfl (by decide) rfl kf_X7_89 dX7_light_119 ?_
              refine J_iconst 1 dX7_light_122 rfl ?_
              refine J_iadd dX7_light_123 ?_
              obtain ⟨C34, e35, h⟩ := br_s h
              refine J_puti (j := 2) rfl (by decide) (by decide) rfl (by decide) rfl rfl rfl kf_X7_89 e35 dX7_light_124 ?_
              refine J_aload_n dX7_light_127 rfl 1 rfl ?_
              refine J_geti (j := 2) rfl (by decide) (by decide) rfl (by decide) rfl kf_X7_89 dX7_light_128 ?_
              refine J_iconst 1 dX7_light_131 rfl ?_
              refine J_isub dX7_light_132 ?_
              have h := Option.some.inj h
              subst h
              exact J_iret rfl rfl rfl (Kr _ _ rfl) dX7_light_133
            · have h := br_n c36 h
              refine J_iconst (-1) dX7_light_70 rfl ?_
              refine J_iload dX7_light_71 0 rfl ?_
              refine J_isub dX7_light_73 ?_
              have h := Option.some.inj h
              subst h
              exact J_iret rfl rfl rfl (Kr _ _ rfl) dX7_light_74
          · have h := br_n c40 h
            refine J_aload_n dX7_light_41 rfl 0 rfl ?_
            refine J_ldc (-100005) dX7_light_42 kc_X7_77 ?_
            obtain ⟨r38, C39, h37, h⟩ := br_b2 h
            refine J_callV (mj := mi_X7_refuse) (as := [.int ((-100005 : Int32))]) (rest := []) (ct_X7_refuse (M := M)  h37) ⟨rfl, rfl⟩ rfl rfl (by decide) rfl cg_X7_69 hd_X7_refuse rfl ⟨Nat.le_of_ble_eq_true rfl, Nat.le_of_ble_eq_true rfl⟩ (Nat.le_of_ble_eq_true rfl) ⟨Nat.zero_le _, Nat.zero_le _⟩ dX7_light_44 ?_
            have h := Option.some.inj h
            subst h
            exact J_iret rfl rfl rfl (Kr _ _ rfl) dX7_light_47
        · have h := br_n c44 h
          refine J_aload_n dX7_light_25 rfl 0 rfl ?_
          refine J_ldc (-100001) dX7_light_26 kc_X7_68 ?_
          obtain ⟨r42, C43, h41, h⟩ := br_b2 h
          refine J_callV (mj := mi_X7_refuse) (as := [.int ((-100001 : Int32))]) (rest := []) (ct_X7_refuse (M := M)  h41) ⟨rfl, rfl⟩ rfl rfl (by decide) rfl cg_X7_69 hd_X7_refuse rfl ⟨Nat.le_of_ble_eq_true rfl, Nat.le_of_ble_eq_true rfl⟩ (Nat.le_of_ble_eq_true rfl) ⟨Nat.zero_le _, Nat.zero_le _⟩ dX7_light_28 ?_
          have h := Option.some.inj h
          subst h
          exact J_iret rfl rfl rfl (Kr _ _ rfl) dX7_light_31
theorem ct_X7_light {x1 : Int32} {x2 : Int32} {x3 : Int32} {C : aSc} {M : aMm} {v : Int32} {S' : aSc}  (h : f_X7_light x1 x2 x3 C = some (v, S')) : Ct mi_X7_light yX7_light [.ref (0), .int (x1), .int (x2), .int (x3)] (C, M) (some (.int v), (S', M)) := Ct_of_J (by decide +kernel) rfl (Nat.le_of_ble_eq_true rfl) (jm_X7_light  h (fun _ _ e => by cases e; rfl))
def mi_X7_isLight : aMi := (cX7_isLight, 2, RX7, (some .boolean), { frames := 0, cells := 0, slots := 0, locals := 0 })
def f_X7_isLight (x1 : Int32) (C : aSc) : Option (Int32) :=
  if (x1 : Int32) < 0 then some (0 : Int32) else if ((a_gi C 0 2) : Int32) ≤ x1 then some (0 : Int32) else some (1 : Int32)
set_option maxRecDepth 100000 in
set_option maxHeartbeats 4000000 in
theorem jm_X7_isLight {x1 : Int32} {C : aSc} {M : aMm}  {res : aRes} {r : Int32} (h : f_X7_isLight x1 C = some r) (Kr : ∀ (v : Int32), r = v → res = (some (.int v), (C, M))) : J mi_X7_isLight res 0 0 0 [(0, .ref (0)), (1, .int (x1))] [] (C, M) := by
  rw [f_X7_isLight] at h
  refine J_iload_n dX7_isLight_0 rfl 1 rfl ?_
  refine J_if_lt 16 dX7_isLight_1 (by decide) (fun c2 => ?_) (fun c2 => ?_)
  · have h := br_p c2 h
    refine J_iconst 0 dX7_isLight_16 rfl ?_
    have h := Option.some.inj h
    subst h
    exact J_zret (Or.inl rfl) rfl rfl rfl (Kr _ rfl) dX7_isLight_17
  · have h := br_n c2 h
    refine J_iload_n dX7_isLight_4 rfl 1 rfl ?_
    refine J_aload_n dX7_isLight_5 rfl 0 rfl ?_
    refine J_geti (j := 2) rfl (by decide) (by decide) rfl (by decide) rfl kf_X7_89 dX7_isLight_6 ?_
    refine J_icmp_ge 16 dX7_isLight_9 (by decide) (fun c1 => ?_) (fun c1 => ?_)
    · have h := br_p c1 h
      refine J_iconst 0 dX7_isLight_16 rfl ?_
      have h := Option.some.inj h
      subst h
      exact J_zret (Or.inl rfl) rfl rfl rfl (Kr _ rfl) dX7_isLight_17
    · have h := br_n c1 h
      refine J_iconst 1 dX7_isLight_12 rfl ?_
      refine J_goto 17 dX7_isLight_13 (by decide) ?_
      have h := Option.some.inj h
      subst h
      exact J_zret (Or.inr rfl) rfl rfl rfl (Kr _ rfl) dX7_isLight_17
theorem ct_X7_isLight {x1 : Int32} {C : aSc} {M : aMm} {v : Int32}  (h : f_X7_isLight x1 C = some v) : Ct mi_X7_isLight yX7_isLight [.ref (0), .int (x1)] (C, M) (some (.int v), (C, M)) := Ct_of_J (by decide +kernel) rfl (Nat.le_of_ble_eq_true rfl) (jm_X7_isLight  h (fun _ e => by cases e; rfl))
def mi_X7_isUnder : aMi := (cX7_isUnder, 4, RX7, (some .boolean), { frames := 0, cells := 0, slots := 0, locals := 0 })
def b_X7_isUnder_4 (x1 : Int32) (x2 : Int32) (x3 : Int32) (C : aSc) : Option ((Int32 × Int32) ⊕ ((Unit) ⊕ (Int32))) :=
  if ((4 : Int32) : Int32) ≤ x3 then some (.inr (.inl ())) else if (x2 : Int32) < 0 then some (.inr (.inl ())) else if (x2 : Int32) = x1 then some (.inr (.inr (1 : Int32))) else (a_tb 200 x2).bind fun u1 => some (.inl (u1, (x3 + (1 : Int32))))
set_option maxRecDepth 100000 in
set_option maxHeartbeats 4000000 in
theorem jl_X7_isUnder_4 {x1 : Int32} {C : aSc} {M : aMm}  {res : aRes} {r : (Unit) ⊕ (Int32)} : ∀ (n : Nat) (x2 : Int32) (x3 : Int32), lpf (fun a : Int32 × Int32 => b_X7_isUnder_4 (x1) a.1 a.2 C) n (x2, x3) = some r → (r = .inl () → J mi_X7_isUnder res 0 0 35 [] [] (C, M)) → (∀ (v : Int32), r = .inr v → res = (some (.int v), (C, M))) → J mi_X7_isUnder res 0 0 4 [(1, .int (x1)), (2, .int (x2)), (3, .int (x3))] [] (C, M) := by
  intro n
  induction n with
  | zero =>
    intro x2 x3 h
    cases h
  | succ n ih =>
    intro x2 x3 h Kx Kr
    obtain ⟨r0, h, h2⟩ := br_b h
    have h : b_X7_isUnder_4 x1 x2 x3 C = some r0 := h
    rw [b_X7_isUnder_4] at h
    refine J_iload_n dX7_isUnder_4 rfl 2 rfl ?_
    refine J_gets (c := 200) (by decide) (by decide) kf_X7_313 dX7_isUnder_5 ?_
    refine J_tlen (v := 4) (by decide) (by decide) rfl dX7_isUnder_8 ?_
    refine J_icmp_ge 35 dX7_isUnder_9 (by decide) (fun c5 => ?_) (fun c5 => ?_)
    · have h := br_p c5 h
      have h := Option.some.inj h
      subst h
      have h2 := Option.some.inj h2
      subst h2
      refine J_sub [] rfl ?_
      exact Kx  rfl
    · have h := br_n c5 h
      refine J_iload_n dX7_isUnder_12 rfl 1 rfl ?_
      refine J_if_lt 35 dX7_isUnder_13 (by decide) (fun c4 => ?_) (fun c4 => ?_)
      · have h := br_p c4 h
        have h := Option.some.inj h
        subst h
        have h2 := Option.some.inj h2
        subst h2
        refine J_sub [] rfl ?_
        exact Kx  rfl
      · have h := br_n c4 h
        refine J_iload_n dX7_isUnder_16 rfl 1 rfl ?_
        refine J_iload_n dX7_isUnder_17 rfl 0 rfl ?_
        refine J_icmp_ne 23 dX7_isUnder_18 (by decide) (fun c3 => ?_) (fun c3 => ?_)
        · have h := br_n c3 h
          refine J_gets (c := 200) (by decide) (by decide) kf_X7_313 dX7_isUnder_23 ?_
          refine J_iload_n dX7_isUnder_26 rfl 1 rfl ?_
          obtain ⟨u1, h2, h⟩ := br_b h
          refine J_tld (by decide) (by decide) h2 dX7_isUnder_27 ?_
          refine J_istore_n (L' := [(2, .int (u1)), (1, .int (x1)), (3, .int (x3))]) dX7_isUnder_28 rfl (by decide) rfl ?_
          refine J_iinc (j := 2) (v := (x3 + (1 : Int32))) (L' := [(3, .int ((x3 + (1 : Int32)))), (2, .int (u1)), (1, .int (x1))]) dX7_isUnder_29 rfl rfl (by decide) rfl ?_
          refine J_goto 4 dX7_isUnder_32 (by decide) ?_
          have h := Option.some.inj h
          subst h
          refine J_sub [2, 1, 0] rfl ?_
          exact ih _ _ h2 Kx Kr
        · have h := br_p c3 h
          refine J_iconst 1 dX7_isUnder_21 rfl ?_
          have h := Option.some.inj h
          subst h
          have h2 := Option.some.inj h2
          subst h2
          exact J_zret (Or.inr rfl) rfl rfl rfl (Kr _ rfl) dX7_isUnder_22
def f_X7_isUnder (x0 : Int32) (x1 : Int32) (C : aSc) : Option (Int32) :=
  (lpf (fun a : Int32 × Int32 => b_X7_isUnder_4 (x1) a.1 a.2 C) FU (x0, (0 : Int32))).bind fun z6 => Sum.elim (fun z6a => some (0 : Int32)) (fun z8 => some z8) z6
set_option maxRecDepth 100000 in
set_option maxHeartbeats 4000000 in
theorem jm_X7_isUnder {x0 : Int32} {x1 : Int32} {C : aSc} {M : aMm}  {res : aRes} {r : Int32} (h : f_X7_isUnder x0 x1 C = some r) (Kr : ∀ (v : Int32), r = v → res = (some (.int v), (C, M))) : J mi_X7_isUnder res 0 0 0 [(0, .int (x0)), (1, .int (x1))] [] (C, M) := by
  rw [f_X7_isUnder] at h
  refine J_iload_n dX7_isUnder_0 rfl 0 rfl ?_
  refine J_istore_n (L' := [(2, .int (x0)), (0, .int (x0)), (1, .int (x1))]) dX7_isUnder_1 rfl (by decide) rfl ?_
  refine J_iconst 0 dX7_isUnder_2 rfl ?_
  refine J_istore_n (L' := [(3, .int ((0 : Int32))), (2, .int (x0)), (0, .int (x0)), (1, .int (x1))]) dX7_isUnder_3 rfl (by decide) rfl ?_
  refine J_sub [3, 1, 0] rfl ?_
  obtain ⟨z6, h7, h⟩ := br_b h
  refine jl_X7_isUnder_4  FU _ _ h7 ?_ ?_
  · intro e
    subst e
    have h := br_l h
    refine J_iconst 0 dX7_isUnder_35 rfl ?_
    have h := Option.some.inj h
    subst h
    exact J_zret (Or.inl rfl) rfl rfl rfl (Kr _ rfl) dX7_isUnder_36
  · intro v e
    subst e
    have h := br_r h
    have h := Option.some.inj h
    subst h
    exact Kr _ rfl
theorem ct_X7_isUnder {x0 : Int32} {x1 : Int32} {C : aSc} {M : aMm} {v : Int32}  (h : f_X7_isUnder x0 x1 C = some v) : Ct mi_X7_isUnder yX7_isUnder [.int (x0), .int (x1)] (C, M) (some (.int v), (C, M)) := Ct_of_J (by decide +kernel) rfl (Nat.le_of_ble_eq_true rfl) (jm_X7_isUnder  h (fun _ e => by cases e; rfl))
def mi_X7_as : aMi := (cX7_as, 3, RX7, (some .int), { frames := 1, cells := 0, slots := 0, locals := 23 })
def f_X7_as (x1 : Int32) (x2 : Int32) (C : aSc) : Option (Int32 × aSc) :=
  (f_X7_isLight x1 C).bind fun r2 => if (r2 : Int32) = 0 then bd2 (f_X7_refuse (-100001 : Int32) C) fun r4 C5 => some (r4, C5) else (f_X7_isKind x2 C).bind fun r7 => if (r7 : Int32) = 0 then bd2 (f_X7_refuse (-100001 : Int32) C) fun r18 C19 => some (r18, C19) else (a_rf 24 3 10 x1).bind fun c8 => (f_X7_isUnder (a_gi C c8 0) x2 C).bind fun r12 => if (r12 : Int32) = 0 then bd2 (f_X7_refuse (-100004 : Int32) C) fun r14 C15 => some (r14, C15) else some (x1, C)
set_option maxRecDepth 100000 in
set_option maxHeartbeats 4000000 in
theorem jm_X7_as {x1 : Int32} {x2 : Int32} {C : aSc} {M : aMm}  {res : aRes} {r : Int32 × aSc} (h : f_X7_as x1 x2 C = some r) (Kr : ∀ (v : Int32) (S' : aSc), r = (v, S') → res = (some (.int v), (S', M))) : J mi_X7_as res 0 0 0 [(0, .ref (0)), (1, .int (x1)), (2, .int (x2))] [] (C, M) := by
  rw [f_X7_as] at h
  refine J_aload_n dX7_as_0 rfl 0 rfl ?_
  refine J_iload_n dX7_as_1 rfl 1 rfl ?_
  obtain ⟨r2, h1, h⟩ := br_b h
  refine J_callV (mj := mi_X7_isLight) (as := [.int (x1)]) (rest := []) (ct_X7_isLight (M := M)  h1) ⟨rfl, rfl⟩ rfl rfl (by decide) rfl cg_X7_108 hd_X7_isLight rfl ⟨Nat.le_of_ble_eq_true rfl, Nat.le_of_ble_eq_true rfl⟩ (Nat.le_of_ble_eq_true rfl) ⟨Nat.zero_le _, Nat.zero_le _⟩ dX7_as_2 ?_
  refine J_if_eq 15 dX7_as_5 (by decide) (fun c21 => ?_) (fun c21 => ?_)
  · have h := br_p c21 h
    refine J_aload_n dX7_as_15 rfl 0 rfl ?_
    refine J_ldc (-100001) dX7_as_16 kc_X7_68 ?_
    obtain ⟨r4, C5, h3, h⟩ := br_b2 h
    refine J_callV (mj := mi_X7_refuse) (as := [.int ((-100001 : Int32))]) (rest := []) (ct_X7_refuse (M := M)  h3) ⟨rfl, rfl⟩ rfl rfl (by decide) rfl cg_X7_69 hd_X7_refuse rfl ⟨Nat.le_of_ble_eq_true rfl, Nat.le_of_ble_eq_true rfl⟩ (Nat.le_of_ble_eq_true rfl) ⟨Nat.zero_le _, Nat.zero_le _⟩ dX7_as_18 ?_
    have h := Option.some.inj h
    subst h
    exact J_iret rfl rfl rfl (Kr _ _ rfl) dX7_as_21
  · have h := br_n c21 h
    refine J_iload_n dX7_as_8 rfl 2 rfl ?_
    obtain ⟨r7, h6, h⟩ := br_b h
    refine J_callS (mj := mi_X7_isKind) (as := [.int (x2)]) (rest := []) (ct_X7_isKind (M := M)  h6) ⟨rfl, rfl⟩ rfl cg_X7_82 hd_X7_isKind rfl ⟨Nat.le_of_ble_eq_true rfl, Nat.le_of_ble_eq_true rfl⟩ (Nat.le_of_ble_eq_true rfl) ⟨Nat.zero_le _, Nat.zero_le _⟩ dX7_as_9 ?_
    refine J_if_ne 22 dX7_as_12 (by decide) (fun c20 => ?_) (fun c20 => ?_)
    · have h := br_n c20 h
      refine J_aload_n dX7_as_22 rfl 0 rfl ?_
      refine J_getr (j := 1) (t := 11) (r := 3) rfl (by decide) (by decide) rfl (by decide) rfl rfl kf_X7_18 dX7_as_23 ?_
      refine J_iload_n dX7_as_26 rfl 1 rfl ?_
      obtain ⟨c8, h9, h⟩ := br_b h
      have q10 := a_rfL h9
      refine J_aaldL h9 dX7_as_27 ?_
      refine J_geti (j := 0) q10.1 q10.2.1 (by decide) rfl (by decide) rfl kf_X7_111 dX7_as_28 ?_
      refine J_iload_n dX7_as_31 rfl 2 rfl ?_
      obtain ⟨r12, h11, h⟩ := br_b h
      refine J_callS (mj := mi_X7_isUnder) (as := [.int ((a_gi C c8 0)), .int (x2)]) (rest := []) (ct_X7_isUnder (M := M)  h11) ⟨rfl, rfl⟩ rfl cg_X7_114 hd_X7_isUnder rfl ⟨Nat.le_of_ble_eq_true rfl, Nat.le_of_ble_eq_true rfl⟩ (Nat.le_of_ble_eq_true rfl) ⟨Nat.zero_le _, Nat.zero_le _⟩ dX7_as_32 ?_
      refine J_if_eq 42 dX7_as_35 (by decide) (fun c16 => ?_) (fun c16 => ?_)
      · have h := br_p c16 h
        refine J_aload_n dX7_as_42 rfl 0 rfl ?_
        refine J_ldc (-100004) dX7_as_43 kc_X7_118 ?_
        obtain ⟨r14, C15, h13, h⟩ := br_b2 h
        refine J_callV (mj := mi_X7_refuse) (as := [.int ((-100004 : Int32))]) (rest := []) (ct_X7_refuse (M := M)  h13) ⟨rfl, rfl⟩ rfl rfl (by decide) rfl cg_X7_69 hd_X7_refuse rfl ⟨Nat.le_of_ble_eq_true rfl, Nat.le_of_ble_eq_true rfl⟩ (Nat.le_of_ble_eq_true rfl) ⟨Nat.zero_le _, Nat.zero_le _⟩ dX7_as_45 ?_
        have h := Option.some.inj h
        subst h
        exact J_iret rfl rfl rfl (Kr _ _ rfl) dX7_as_48
      · have h := br_n c16 h
        refine J_iload_n dX7_as_38 rfl 1 rfl ?_
        refine J_goto 48 dX7_as_39 (by decide) ?_
        have h := Option.some.inj h
        subst h
        exact J_iret rfl rfl rfl (Kr _ _ rfl) dX7_as_48
    · have h := br_p c20 h
      refine J_aload_n dX7_as_15 rfl 0 rfl ?_
      refine J_ldc (-100001) dX7_as_16 kc_X7_68 ?_
      obtain ⟨r18, C19, h17, h⟩ := br_b2 h
      refine J_callV (mj := mi_X7_refuse) (as := [.int ((-100001 : Int32))]) (rest := []) (ct_X7_refuse (M := M)  h17) ⟨rfl, rfl⟩ rfl rfl (by decide) rfl cg_X7_69 hd_X7_refuse rfl ⟨Nat.le_of_ble_eq_true rfl, Nat.le_of_ble_eq_true rfl⟩ (Nat.le_of_ble_eq_true rfl) ⟨Nat.zero_le _, Nat.zero_le _⟩ dX7_as_18 ?_
      have h := Option.some.inj h
      subst h
      exact J_iret rfl rfl rfl (Kr _ _ rfl) dX7_as_21
theorem ct_X7_as {x1 : Int32} {x2 : Int32} {C : aSc} {M : aMm} {v : Int32} {S' : aSc}  (h : f_X7_as x1 x2 C = some (v, S')) : Ct mi_X7_as yX7_as [.ref (0), .int (x1), .int (x2)] (C, M) (some (.int v), (S', M)) := Ct_of_J (by decide +kernel) rfl (Nat.le_of_ble_eq_true rfl) (jm_X7_as  h (fun _ _ e => by cases e; rfl))
def mi_X7_lightIs : aMi := (cX7_lightIs, 4, RX7, (some .int), { frames := 1, cells := 0, slots := 0, locals := 21 })
def f_X7_lightIs (x1 : Int32) (x2 : Int32) (C : aSc) : Option (Int32 × aSc) :=
  (f_X7_isLight x1 C).bind fun r2 => if (r2 : Int32) = 0 then bd2 (f_X7_refuse (-100001 : Int32) C) fun r20 C21 => some (r20, C21) else (a_rf 24 3 10 x1).bind fun c3 => if (x2 : Int32) = 0 then some ((a_gi C c3 0), C) else if (x2 : Int32) = 1 then some ((a_gi C c3 1), C) else if (x2 : Int32) = 2 then some ((a_gi C c3 2), C) else if (x2 : Int32) = 3 then some ((a_gi C c3 3), C) else if (x2 : Int32) = 4 then some ((a_gi C c3 4), C) else if (x2 : Int32) = 5 then (f_J13_bitCount_95d88 (a_gl C c3 5)).bind fun r13 => some (r13, C) else if (x2 : Int32) = 6 then some ((a_gi C c3 8), C) else if (x2 : Int32) = 7 then some ((a_gi C c3 9), C) else bd2 (f_X7_refuse (-100001 : Int32) C) fun r17 C18 => some (r17, C18)
set_option maxRecDepth 100000 in
set_option maxHeartbeats 4000000 in
theorem jm_X7_lightIs {x1 : Int32} {x2 : Int32} {C : aSc} {M : aMm}  {res : aRes} {r : Int32 × aSc} (h : f_X7_lightIs x1 x2 C = some r) (Kr : ∀ (v : Int32) (S' : aSc), r = (v, S') → res = (some (.int v), (S', M))) : J mi_X7_lightIs res 0 0 0 [(0, .ref (0)), (1, .int (x1)), (2, .int (x2))] [] (C, M) := by
  rw [f_X7_lightIs] at h
  refine J_aload_n dX7_lightIs_0 rfl 0 rfl ?_
  refine J_iload_n dX7_lightIs_1 rfl 1 rfl ?_
  obtain ⟨r2, h1, h⟩ := br_b h
  refine J_callV (mj := mi_X7_isLight) (as := [.int (x1)]) (rest := []) (ct_X7_isLight (M := M)  h1) ⟨rfl, rfl⟩ rfl rfl (by decide) rfl cg_X7_108 hd_X7_isLight rfl ⟨Nat.le_of_ble_eq_true rfl, Nat.le_of_ble_eq_true rfl⟩ (Nat.le_of_ble_eq_true rfl) ⟨Nat.zero_le _, Nat.zero_le _⟩ dX7_lightIs_2 ?_
  refine J_if_ne 15 dX7_lightIs_5 (by decide) (fun c22 => ?_) (fun c22 => ?_)
  · have h := br_n c22 h
    refine J_aload_n dX7_lightIs_15 rfl 0 rfl ?_
    refine J_getr (j := 1) (t := 11) (r := 3) rfl (by decide) (by decide) rfl (by decide) rfl rfl kf_X7_18 dX7_lightIs_16 ?_
    refine J_iload_n dX7_lightIs_19 rfl 1 rfl ?_
    obtain ⟨c3, h4, h⟩ := br_b h
    have q5 := a_rfL h4
    refine J_aaldL h4 dX7_lightIs_20 ?_
    refine J_astore_n (L' := [(3, .ref (c3)), (0, .ref (0)), (1, .int (x1)), (2, .int (x2))]) dX7_lightIs_21 rfl (by decide) rfl ?_
    refine J_iload_n dX7_lightIs_22 rfl 3 rfl ?_
    by_cases c6 : (x2 : Int32) = 0
    · have h := br_p c6 h
      refine J_tsw 68 dX7_lightIs_23 (by decide) (by rw [c6]; decide) ?_
      refine J_aload_n dX7_lightIs_68 rfl 0 rfl ?_
      refine J_geti (j := 0) q5.1 q5.2.1 (by decide) rfl (by decide) rfl kf_X7_111 dX7_lightIs_69 ?_
      have h := Option.some.inj h
      subst h
      exact J_iret rfl rfl rfl (Kr _ _ rfl) dX7_lightIs_72
    · have h := br_n c6 h
      by_cases c7 : (x2 : Int32) = 1
      · have h := br_p c7 h
        refine J_tsw 73 dX7_lightIs_23 (by decide) (by rw [c7]; decide) ?_
        refine J_aload_n dX7_lightIs_73 rfl 0 rfl ?_
        refine J_geti (j := 1) q5.1 q5.2.1 (by decide) rfl (by decide) rfl kf_X7_119 dX7_lightIs_74 ?_
        have h := Option.some.inj h
        subst h
        exact J_iret rfl rfl rfl (Kr _ _ rfl) dX7_lightIs_77
      · have h := br_n c7 h
        by_cases c8 : (x2 : Int32) = 2
        · have h := br_p c8 h
          refine J_tsw 78 dX7_lightIs_23 (by decide) (by rw [c8]; decide) ?_
          refine J_aload_n dX7_lightIs_78 rfl 0 rfl ?_
          refine J_geti (j := 2) q5.1 q5.2.1 (by decide) rfl (by decide) rfl kf_X7_122 dX7_lightIs_79 ?_
          have h := Option.some.inj h
          subst h
          exact J_iret rfl rfl rfl (Kr _ _ rfl) dX7_lightIs_82
        · have h := br_n c8 h
          by_cases c9 : (x2 : Int32) = 3
          · have h := br_p c9 h
            refine J_tsw 83 dX7_lightIs_23 (by decide) (by rw [c9]; decide) ?_
            refine J_aload_n dX7_lightIs_83 rfl 0 rfl ?_
            refine J_geti (j := 3) q5.1 q5.2.1 (by decide) rfl (by decide) rfl kf_X7_125 dX7_lightIs_84 ?_
            have h := Option.some.inj h
            subst h
            exact J_iret rfl rfl rfl (Kr _ _ rfl) dX7_lightIs_87
          · have h := br_n c9 h
            by_cases c10 : (x2 : Int32) = 4
            · have h := br_p c10 h
              refine J_tsw 88 dX7_lightIs_23 (by decide) (by rw [c10]; decide) ?_
              refine J_aload_n dX7_lightIs_88 rfl 0 rfl ?_
              refine J_geti (j := 4) q5.1 q5.2.1 (by decide) rfl (by decide) rfl kf_X7_128 dX7_lightIs_89 ?_
              have h := Option.some.inj h
              subst h
              exact J_iret rfl rfl rfl (Kr _ _ rfl) dX7_lightIs_92
            · have h := br_n c10 h
              by_cases c11 : (x2 : Int32) = 5
              · have h := br_p c11 h
                refine J_tsw 93 dX7_lightIs_23 (by decide) (by rw [c11]; decide) ?_
                refine J_aload_n dX7_lightIs_93 rfl 0 rfl ?_
                refine J_getl (j := 5) q5.1 q5.2.1 (by decide) rfl (by decide) rfl kf_X7_131 dX7_lightIs_94 ?_
                obtain ⟨r13, h12, h⟩ := br_b h
                refine J_callS (mj := mi_J13_bitCount_95d88) (as := [.long ((a_gl C c3 5))]) (rest := []) (ct_J13_bitCount_95d88 (S := (C, M))  h12) ⟨rfl, rfl⟩ rfl cg_X7_135 hd_J13_bitCount_95d88 rfl ⟨Nat.le_of_ble_eq_true rfl, Nat.le_of_ble_eq_true rfl⟩ (Nat.le_of_ble_eq_true rfl) ⟨Nat.zero_le _, Nat.zero_le _⟩ dX7_lightIs_97 ?_
                have h := Option.some.inj h
                subst h
                exact J_iret rfl rfl rfl (Kr _ _ rfl) dX7_lightIs_100
              · have h := br_n c11 h
                by_cases c14 : (x2 : Int32) = 6
                · have h := br_p c14 h
                  refine J_tsw 101 dX7_lightIs_23 (by decide) (by rw [c14]; decide) ?_
                  refine J_aload_n dX7_lightIs_101 rfl 0 rfl ?_
                  refine J_geti (j := 8) q5.1 q5.2.1 (by decide) rfl (by decide) rfl kf_X7_141 dX7_lightIs_102 ?_
                  have h := Option.some.inj h
                  subst h
                  exact J_iret rfl rfl rfl (Kr _ _ rfl) dX7_lightIs_105
                · have h := br_n c14 h
                  by_cases c15 : (x2 : Int32) = 7
                  · have h := br_p c15 h
                    refine J_tsw 106 dX7_lightIs_23 (by decide) (by rw [c15]; decide) ?_
                    refine J_aload_n dX7_lightIs_106 rfl 0 rfl ?_
                    refine J_geti (j := 9) q5.1 q5.2.1 (by decide) rfl (by decide) rfl kf_X7_144 dX7_lightIs_107 ?_
                    have h := Option.some.inj h
                    subst h
                    exact J_iret rfl rfl rfl (Kr _ _ rfl) dX7_lightIs_110
                  · have h := br_n c15 h
                    refine J_tsw 111 dX7_lightIs_23 (by decide) (by have e0 := lv_neT (a := 0) c6 rfl; have e1 := lv_neT (a := 1) c7 rfl; have e2 := lv_neT (a := 2) c8 rfl; have e3 := lv_neT (a := 3) c9 rfl; have e4 := lv_neT (a := 4) c10 rfl; have e5 := lv_neT (a := 5) c11 rfl; have e6 := lv_neT (a := 6) c14 rfl; have e7 := lv_neT (a := 7) c15 rfl; unfold a_tsw; rw [if_pos (by omega)]; rfl) ?_
                    refine J_aload_n dX7_lightIs_111 rfl 1 rfl ?_
                    refine J_ldc (-100001) dX7_lightIs_112 kc_X7_68 ?_
                    obtain ⟨r17, C18, h16, h⟩ := br_b2 h
                    refine J_callV (mj := mi_X7_refuse) (as := [.int ((-100001 : Int32))]) (rest := []) (ct_X7_refuse (M := M)  h16) ⟨rfl, rfl⟩ rfl rfl (by decide) rfl cg_X7_69 hd_X7_refuse rfl ⟨Nat.le_of_ble_eq_true rfl, Nat.le_of_ble_eq_true rfl⟩ (Nat.le_of_ble_eq_true rfl) ⟨Nat.zero_le _, Nat.zero_le _⟩ dX7_lightIs_114 ?_
                    have h := Option.some.inj h
                    subst h
                    exact J_iret rfl rfl rfl (Kr _ _ rfl) dX7_lightIs_117
  · have h := br_p c22 h
    refine J_aload_n dX7_lightIs_8 rfl 0 rfl ?_
    refine J_ldc (-100001) dX7_lightIs_9 kc_X7_68 ?_
    obtain ⟨r20, C21, h19, h⟩ := br_b2 h
    refine J_callV (mj := mi_X7_refuse) (as := [.int ((-100001 : Int32))]) (rest := []) (ct_X7_refuse (M := M)  h19) ⟨rfl, rfl⟩ rfl rfl (by decide) rfl cg_X7_69 hd_X7_refuse rfl ⟨Nat.le_of_ble_eq_true rfl, Nat.le_of_ble_eq_true rfl⟩ (Nat.le_of_ble_eq_true rfl) ⟨Nat.zero_le _, Nat.zero_le _⟩ dX7_lightIs_11 ?_
    have h := Option.some.inj h
    subst h
    exact J_iret rfl rfl rfl (Kr _ _ rfl) dX7_lightIs_14
theorem ct_X7_lightIs {x1 : Int32} {x2 : Int32} {C : aSc} {M : aMm} {v : Int32} {S' : aSc}  (h : f_X7_lightIs x1 x2 C = some (v, S')) : Ct mi_X7_lightIs yX7_lightIs [.ref (0), .int (x1), .int (x2)] (C, M) (some (.int v), (S', M)) := Ct_of_J (by decide +kernel) rfl (Nat.le_of_ble_eq_true rfl) (jm_X7_lightIs  h (fun _ _ e => by cases e; rfl))
def mi_X1_isLitAt : aMi := (cX1_isLitAt, 2, RX1, (some .boolean), { frames := 0, cells := 0, slots := 0, locals := 0 })
def f_X1_isLitAt (x0 : Nat) (x1 : Int32) (C : aSc) : Option (Int32) :=
  if ((a_gi C x0 4) : Int32) ≤ 0 then some (0 : Int32) else if (a_gi C x0 4) = 0 then none else if ((lg_cmp (((a_gl C x0 5) >>> (((x1 - x1 / (a_gi C x0 4) * (a_gi C x0 4)) : Int32).toInt64 &&& 63)) &&& (1 : Int64)) (1 : Int64)) : Int32) = 0 then some (1 : Int32) else some (0 : Int32)
set_option maxRecDepth 100000 in
set_option maxHeartbeats 4000000 in
theorem jm_X1_isLitAt {x0 : Nat} {x1 : Int32} {C : aSc} {M : aMm} (qx0 : isL x0) {res : aRes} {r : Int32} (h : f_X1_isLitAt x0 x1 C = some r) (Kr : ∀ (v : Int32), r = v → res = (some (.int v), (C, M))) : J mi_X1_isLitAt res 0 0 0 [(0, .ref (x0)), (1, .int (x1))] [] (C, M) := by
  rw [f_X1_isLitAt] at h
  refine J_aload_n dX1_isLitAt_0 rfl 0 rfl ?_
  refine J_geti (j := 4) qx0.1 qx0.2.1 (by decide) rfl (by decide) rfl kf_X1_59 dX1_isLitAt_1 ?_
  refine J_if_le 29 dX1_isLitAt_4 (by decide) (fun c3 => ?_) (fun c3 => ?_)
  · have h := br_p c3 h
    refine J_iconst 0 dX1_isLitAt_29 rfl ?_
    have h := Option.some.inj h
    subst h
    exact J_zret (Or.inl rfl) rfl rfl rfl (Kr _ rfl) dX1_isLitAt_30
  · have h := br_n c3 h
    refine J_aload_n dX1_isLitAt_7 rfl 0 rfl ?_
    refine J_getl (j := 5) qx0.1 qx0.2.1 (by decide) rfl (by decide) rfl kf_X1_66 dX1_isLitAt_8 ?_
    refine J_iload_n dX1_isLitAt_11 rfl 1 rfl ?_
    refine J_aload_n dX1_isLitAt_12 rfl 0 rfl ?_
    refine J_geti (j := 4) qx0.1 qx0.2.1 (by decide) rfl (by decide) rfl kf_X1_59 dX1_isLitAt_13 ?_
    obtain ⟨n1, h⟩ := br_z h
    refine J_irem dX1_isLitAt_16 n1 ?_
    refine J_lshr dX1_isLitAt_17 ?_
    refine J_lconst 1 dX1_isLitAt_18 rfl ?_
    refine J_land dX1_isLitAt_19 ?_
    refine J_lconst 1 dX1_isLitAt_20 rfl ?_
    refine J_lcmp dX1_isLitAt_21 ?_
    refine J_if_ne 29 dX1_isLitAt_22 (by decide) (fun c2 => ?_) (fun c2 => ?_)
    · have h := br_n c2 h
      refine J_iconst 0 dX1_isLitAt_29 rfl ?_
      have h := Option.some.inj h
      subst h
      exact J_zret (Or.inl rfl) rfl rfl rfl (Kr _ rfl) dX1_isLitAt_30
    · have h := br_p c2 h
      refine J_iconst 1 dX1_isLitAt_25 rfl ?_
      refine J_goto 30 dX1_isLitAt_26 (by decide) ?_
      have h := Option.some.inj h
      subst h
      exact J_zret (Or.inr rfl) rfl rfl rfl (Kr _ rfl) dX1_isLitAt_30
theorem ct_X1_isLitAt {x0 : Nat} {x1 : Int32} {C : aSc} {M : aMm} {v : Int32} (qx0 : isL x0) (h : f_X1_isLitAt x0 x1 C = some v) : Ct mi_X1_isLitAt yX1_isLitAt [.ref (x0), .int (x1)] (C, M) (some (.int v), (C, M)) := Ct_of_J (by decide +kernel) rfl (Nat.le_of_ble_eq_true rfl) (jm_X1_isLitAt qx0 h (fun _ e => by cases e; rfl))
def mi_X7_at : aMi := (cX7_at, 3, RX7, (some .int), { frames := 1, cells := 0, slots := 0, locals := 21 })
def f_X7_at (x1 : Int32) (x2 : Int32) (C : aSc) : Option (Int32 × aSc) :=
  (f_X7_isLight x1 C).bind fun r2 => if (r2 : Int32) = 0 then bd2 (f_X7_refuse (-100001 : Int32) C) fun r4 C5 => some (r4, C5) else if 0 ≤ (x2 : Int32) then (a_rf 24 3 10 x1).bind fun c6 => (f_X1_isLitAt c6 x2 C).bind fun r10 => if (r10 : Int32) = 0 then some ((0 : Int32), C) else some ((1 : Int32), C) else bd2 (f_X7_refuse (-100001 : Int32) C) fun r13 C14 => some (r13, C14)
set_option maxRecDepth 100000 in
set_option maxHeartbeats 4000000 in
theorem jm_X7_at {x1 : Int32} {x2 : Int32} {C : aSc} {M : aMm}  {res : aRes} {r : Int32 × aSc} (h : f_X7_at x1 x2 C = some r) (Kr : ∀ (v : Int32) (S' : aSc), r = (v, S') → res = (some (.int v), (S', M))) : J mi_X7_at res 0 0 0 [(0, .ref (0)), (1, .int (x1)), (2, .int (x2))] [] (C, M) := by
  rw [f_X7_at] at h
  refine J_aload_n dX7_at_0 rfl 0 rfl ?_
  refine J_iload_n dX7_at_1 rfl 1 rfl ?_
  obtain ⟨r2, h1, h⟩ := br_b h
  refine J_callV (mj := mi_X7_isLight) (as := [.int (x1)]) (rest := []) (ct_X7_isLight (M := M)  h1) ⟨rfl, rfl⟩ rfl rfl (by decide) rfl cg_X7_108 hd_X7_isLight rfl ⟨Nat.le_of_ble_eq_true rfl, Nat.le_of_ble_eq_true rfl⟩ (Nat.le_of_ble_eq_true rfl) ⟨Nat.zero_le _, Nat.zero_le _⟩ dX7_at_2 ?_
  refine J_if_eq 12 dX7_at_5 (by decide) (fun c16 => ?_) (fun c16 => ?_)
  · have h := br_p c16 h
    refine J_aload_n dX7_at_12 rfl 0 rfl ?_
    refine J_ldc (-100001) dX7_at_13 kc_X7_68 ?_
    obtain ⟨r4, C5, h3, h⟩ := br_b2 h
    refine J_callV (mj := mi_X7_refuse) (as := [.int ((-100001 : Int32))]) (rest := []) (ct_X7_refuse (M := M)  h3) ⟨rfl, rfl⟩ rfl rfl (by decide) rfl cg_X7_69 hd_X7_refuse rfl ⟨Nat.le_of_ble_eq_true rfl, Nat.le_of_ble_eq_true rfl⟩ (Nat.le_of_ble_eq_true rfl) ⟨Nat.zero_le _, Nat.zero_le _⟩ dX7_at_15 ?_
    have h := Option.some.inj h
    subst h
    exact J_iret rfl rfl rfl (Kr _ _ rfl) dX7_at_18
  · have h := br_n c16 h
    refine J_iload_n dX7_at_8 rfl 2 rfl ?_
    refine J_if_ge 19 dX7_at_9 (by decide) (fun c15 => ?_) (fun c15 => ?_)
    · have h := br_p c15 h
      refine J_aload_n dX7_at_19 rfl 0 rfl ?_
      refine J_getr (j := 1) (t := 11) (r := 3) rfl (by decide) (by decide) rfl (by decide) rfl rfl kf_X7_18 dX7_at_20 ?_
      refine J_iload_n dX7_at_23 rfl 1 rfl ?_
      obtain ⟨c6, h7, h⟩ := br_b h
      have q8 := a_rfL h7
      refine J_aaldL h7 dX7_at_24 ?_
      refine J_iload_n dX7_at_25 rfl 2 rfl ?_
      obtain ⟨r10, h9, h⟩ := br_b h
      refine J_callV (mj := mi_X1_isLitAt) (as := [.int (x2)]) (rest := []) (ct_X1_isLitAt (M := M) q8 h9) ⟨rfl, rfl⟩ rfl q8.1 (by decide) rfl cg_X7_147 hd_X1_isLitAt rfl ⟨Nat.le_of_ble_eq_true rfl, Nat.le_of_ble_eq_true rfl⟩ (Nat.le_of_ble_eq_true rfl) ⟨Nat.zero_le _, Nat.zero_le _⟩ dX7_at_26 ?_
      refine J_if_eq 36 dX7_at_29 (by decide) (fun c11 => ?_) (fun c11 => ?_)
      · have h := br_p c11 h
        refine J_iconst 0 dX7_at_36 rfl ?_
        have h := Option.some.inj h
        subst h
        exact J_iret rfl rfl rfl (Kr _ _ rfl) dX7_at_37
      · have h := br_n c11 h
        refine J_iconst 1 dX7_at_32 rfl ?_
        refine J_goto 37 dX7_at_33 (by decide) ?_
        have h := Option.some.inj h
        subst h
        exact J_iret rfl rfl rfl (Kr _ _ rfl) dX7_at_37
    · have h := br_n c15 h
      refine J_aload_n dX7_at_12 rfl 0 rfl ?_
      refine J_ldc (-100001) dX7_at_13 kc_X7_68 ?_
      obtain ⟨r13, C14, h12, h⟩ := br_b2 h
      refine J_callV (mj := mi_X7_refuse) (as := [.int ((-100001 : Int32))]) (rest := []) (ct_X7_refuse (M := M)  h12) ⟨rfl, rfl⟩ rfl rfl (by decide) rfl cg_X7_69 hd_X7_refuse rfl ⟨Nat.le_of_ble_eq_true rfl, Nat.le_of_ble_eq_true rfl⟩ (Nat.le_of_ble_eq_true rfl) ⟨Nat.zero_le _, Nat.zero_le _⟩ dX7_at_15 ?_
      have h := Option.some.inj h
      subst h
      exact J_iret rfl rfl rfl (Kr _ _ rfl) dX7_at_18
theorem ct_X7_at {x1 : Int32} {x2 : Int32} {C : aSc} {M : aMm} {v : Int32} {S' : aSc}  (h : f_X7_at x1 x2 C = some (v, S')) : Ct mi_X7_at yX7_at [.ref (0), .int (x1), .int (x2)] (C, M) (some (.int v), (S', M)) := Ct_of_J (by decide +kernel) rfl (Nat.le_of_ble_eq_true rfl) (jm_X7_at  h (fun _ _ e => by cases e; rfl))
def mi_X7_isDirection : aMi := (cX7_isDirection, 1, RX7, (some .boolean), { frames := 0, cells := 0, slots := 0, locals := 0 })
def f_X7_isDirection (x0 : Int32) (C : aSc) : Option (Int32) :=
  if (x0 : Int32) < 0 then some (0 : Int32) else if ((15 : Int32) : Int32) < x0 then some (0 : Int32) else some (1 : Int32)
set_option maxRecDepth 100000 in
set_option maxHeartbeats 4000000 in
theorem jm_X7_isDirection {x0 : Int32} {C : aSc} {M : aMm}  {res : aRes} {r : Int32} (h : f_X7_isDirection x0 C = some r) (Kr : ∀ (v : Int32), r = v → res = (some (.int v), (C, M))) : J mi_X7_isDirection res 0 0 0 [(0, .int (x0))] [] (C, M) := by
  rw [f_X7_isDirection] at h
  refine J_iload_n dX7_isDirection_0 rfl 0 rfl ?_
  refine J_if_lt 14 dX7_isDirection_1 (by decide) (fun c2 => ?_) (fun c2 => ?_)
  · have h := br_p c2 h
    refine J_iconst 0 dX7_isDirection_14 rfl ?_
    have h := Option.some.inj h
    subst h
    exact J_zret (Or.inl rfl) rfl rfl rfl (Kr _ rfl) dX7_isDirection_15
  · have h := br_n c2 h
    refine J_iload_n dX7_isDirection_4 rfl 0 rfl ?_
    refine J_bipush 15 dX7_isDirection_5 rfl ?_
    refine J_icmp_gt 14 dX7_isDirection_7 (by decide) (fun c1 => ?_) (fun c1 => ?_)
    · have h := br_p c1 h
      refine J_iconst 0 dX7_isDirection_14 rfl ?_
      have h := Option.some.inj h
      subst h
      exact J_zret (Or.inl rfl) rfl rfl rfl (Kr _ rfl) dX7_isDirection_15
    · have h := br_n c1 h
      refine J_iconst 1 dX7_isDirection_10 rfl ?_
      refine J_goto 15 dX7_isDirection_11 (by decide) ?_
      have h := Option.some.inj h
      subst h
      exact J_zret (Or.inr rfl) rfl rfl rfl (Kr _ rfl) dX7_isDirection_15
theorem ct_X7_isDirection {x0 : Int32} {C : aSc} {M : aMm} {v : Int32}  (h : f_X7_isDirection x0 C = some v) : Ct mi_X7_isDirection yX7_isDirection [.int (x0)] (C, M) (some (.int v), (C, M)) := Ct_of_J (by decide +kernel) rfl (Nat.le_of_ble_eq_true rfl) (jm_X7_isDirection  h (fun _ e => by cases e; rfl))
def mi_X7_turnedOver : aMi := (cX7_turnedOver, 5, RX7, (some .int), { frames := 0, cells := 0, slots := 0, locals := 0 })
def b_X7_turnedOver_12 (x0 : Int32) (x2 : Int32) (x3 : Int32) (x4 : Int32) (C : aSc) : Option ((Int32 × Int32) ⊕ (Int32)) :=
  if (x2 : Int32) < x4 then some (.inr x3) else some (.inl ((x3 ||| ((1 : Int32) <<< (((x0 + x4) &&& (15 : Int32)) &&& 31))), (x4 + (1 : Int32))))
set_option maxRecDepth 100000 in
set_option maxHeartbeats 4000000 in
theorem jl_X7_turnedOver_12 {x0 : Int32} {x2 : Int32} {C : aSc} {M : aMm}  {res : aRes} {r : Int32} : ∀ (n : Nat) (x3 : Int32) (x4 : Int32), lpf (fun a : Int32 × Int32 => b_X7_turnedOver_12 (x0) (x2) a.1 a.2 C) n (x3, x4) = some r → (∀ (z3 : Int32), r = z3 → J mi_X7_turnedOver res 0 0 36 [(3, .int (z3))] [] (C, M)) → J mi_X7_turnedOver res 0 0 12 [(0, .int (x0)), (2, .int (x2)), (3, .int (x3)), (4, .int (x4))] [] (C, M) := by
  intro n
  induction n with
  | zero =>
    intro x3 x4 h
    cases h
  | succ n ih =>
    intro x3 x4 h Kx
    obtain ⟨r0, h, h2⟩ := br_b h
    have h : b_X7_turnedOver_12 x0 x2 x3 x4 C = some r0 := h
    rw [b_X7_turnedOver_12] at h
    refine J_iload dX7_turnedOver_12 3 rfl ?_
    refine J_iload_n dX7_turnedOver_14 rfl 1 rfl ?_
    refine J_icmp_gt 36 dX7_turnedOver_15 (by decide) (fun c1 => ?_) (fun c1 => ?_)
    · have h := br_p c1 h
      have h := Option.some.inj h
      subst h
      have h2 := Option.some.inj h2
      subst h2
      refine J_sub [2] rfl ?_
      exact Kx _ rfl
    · have h := br_n c1 h
      refine J_iload_n dX7_turnedOver_18 rfl 2 rfl ?_
      refine J_iconst 1 dX7_turnedOver_19 rfl ?_
      refine J_iload_n dX7_turnedOver_20 rfl 0 rfl ?_
      refine J_iload dX7_turnedOver_21 3 rfl ?_
      refine J_iadd dX7_turnedOver_23 ?_
      refine J_bipush 15 dX7_turnedOver_24 rfl ?_
      refine J_iand dX7_turnedOver_26 ?_
      refine J_ishl dX7_turnedOver_27 ?_
      refine J_ior dX7_turnedOver_28 ?_
      refine J_istore_n (L' := [(3, .int ((x3 ||| ((1 : Int32) <<< (((x0 + x4) &&& (15 : Int32)) &&& 31))))), (0, .int (x0)), (2, .int (x2)), (4, .int (x4))]) dX7_turnedOver_29 rfl (by decide) rfl ?_
      refine J_iinc (j := 3) (v := (x4 + (1 : Int32))) (L' := [(4, .int ((x4 + (1 : Int32)))), (3, .int ((x3 ||| ((1 : Int32) <<< (((x0 + x4) &&& (15 : Int32)) &&& 31))))), (0, .int (x0)), (2, .int (x2))]) dX7_turnedOver_30 rfl rfl (by decide) rfl ?_
      refine J_goto 12 dX7_turnedOver_33 (by decide) ?_
      have h := Option.some.inj h
      subst h
      refine J_sub [2, 3, 1, 0] rfl ?_
      exact ih _ _ h2 Kx
def f_X7_turnedOver (x0 : Int32) (x1 : Int32) (C : aSc) : Option (Int32) :=
  (lpf (fun a : Int32 × Int32 => b_X7_turnedOver_12 (x0) (((x1 - x0) &&& (15 : Int32))) a.1 a.2 C) FU ((0 : Int32), (0 : Int32))).bind fun z2 => some z2
set_option maxRecDepth 100000 in
set_option maxHeartbeats 4000000 in
theorem jm_X7_turnedOver {x0 : Int32} {x1 : Int32} {C : aSc} {M : aMm}  {res : aRes} {r : Int32} (h : f_X7_turnedOver x0 x1 C = some r) (Kr : ∀ (v : Int32), r = v → res = (some (.int v), (C, M))) : J mi_X7_turnedOver res 0 0 0 [(0, .int (x0)), (1, .int (x1))] [] (C, M) := by
  rw [f_X7_turnedOver] at h
  refine J_iload_n dX7_turnedOver_0 rfl 1 rfl ?_
  refine J_iload_n dX7_turnedOver_1 rfl 0 rfl ?_
  refine J_isub dX7_turnedOver_2 ?_
  refine J_bipush 15 dX7_turnedOver_3 rfl ?_
  refine J_iand dX7_turnedOver_5 ?_
  refine J_istore_n (L' := [(2, .int (((x1 - x0) &&& (15 : Int32)))), (0, .int (x0)), (1, .int (x1))]) dX7_turnedOver_6 rfl (by decide) rfl ?_
  refine J_iconst 0 dX7_turnedOver_7 rfl ?_
  refine J_istore_n (L' := [(3, .int ((0 : Int32))), (2, .int (((x1 - x0) &&& (15 : Int32)))), (0, .int (x0)), (1, .int (x1))]) dX7_turnedOver_8 rfl (by decide) rfl ?_
  refine J_iconst 0 dX7_turnedOver_9 rfl ?_
  refine J_istore (L' := [(4, .int ((0 : Int32))), (3, .int ((0 : Int32))), (2, .int (((x1 - x0) &&& (15 : Int32)))), (0, .int (x0)), (1, .int (x1))]) dX7_turnedOver_10 (by decide) rfl ?_
  refine J_sub [3, 2, 1, 0] rfl ?_
  obtain ⟨z2, h3, h⟩ := br_b h
  refine jl_X7_turnedOver_12  FU _ _ h3 ?_
  intro zz e
  subst e
  refine J_iload_n dX7_turnedOver_36 rfl 0 rfl ?_
  have h := Option.some.inj h
  subst h
  exact J_iret rfl rfl rfl (Kr _ rfl) dX7_turnedOver_37
theorem ct_X7_turnedOver {x0 : Int32} {x1 : Int32} {C : aSc} {M : aMm} {v : Int32}  (h : f_X7_turnedOver x0 x1 C = some v) : Ct mi_X7_turnedOver yX7_turnedOver [.int (x0), .int (x1)] (C, M) (some (.int v), (C, M)) := Ct_of_J (by decide +kernel) rfl (Nat.le_of_ble_eq_true rfl) (jm_X7_turnedOver  h (fun _ e => by cases e; rfl))
def mi_X7_sector : aMi := (cX7_sector, 6, RX7, (some .int), { frames := 3, cells := 0, slots := 0, locals := 66 })
def f_X7_sector (x1 : Int32) (x2 : Int32) (x3 : Int32) (x4 : Int32) (C : aSc) : Option (Int32 × aSc) :=
  (f_X7_isLight x1 C).bind fun r2 => if (r2 : Int32) = 0 then bd2 (f_X7_refuse (-100001 : Int32) C) fun r4 C5 => some (r4, C5) else (f_X7_isDirection x2 C).bind fun r7 => if (r7 : Int32) = 0 then bd2 (f_X7_refuse (-100001 : Int32) C) fun r9 C10 => some (r9, C10) else (f_X7_isDirection x3 C).bind fun r12 => if (r12 : Int32) = 0 then bd2 (f_X7_refuse (-100001 : Int32) C) fun r14 C15 => some (r14, C15) else if (x4 : Int32) < 0 then bd2 (f_X7_refuse (-100001 : Int32) C) fun r17 C18 => some (r17, C18) else if (x4 : Int32) ≤ (3 : Int32) then (a_rf 24 3 10 x1).bind fun c19 => if ((a_gi C c19 8) : Int32) < (4 : Int32) then bd2 (f_X7_remember (1 : Int32) x1 (0 : Int32) C) fun r23 C24 => if 62 ≤ r23 ∧ r23 < 94 ∧ r23 % 2 = 0 then (f_X7_turnedOver x2 x3 C24).bind fun r28 => (a_st C24 (c19 + 2) (a_gi C24 c19 8) ((x4 <<< ((16 : Int32) &&& 31)) ||| r28)).bind fun C29 => (some (a_pi C29 c19 8 ((a_gi C29 c19 8) + (1 : Int32)))).bind fun C31 => some ((a_gi C31 c19 8), C31) else none else bd2 (f_X7_refuse (-100005 : Int32) C) fun r34 C35 => some (r34, C35) else bd2 (f_X7_refuse (-100001 : Int32) C) fun r38 C39 => some (r38, C39)
set_option maxRecDepth 100000 in
set_option maxHeartbeats 4000000 in
theorem jm_X7_sector {x1 : Int32} {x2 : Int32} {x3 : Int32} {x4 : Int32} {C : aSc} {M : aMm}  {res : aRes} {r : Int32 × aSc} (h : f_X7_sector x1 x2 x3 x4 C = some r) (Kr : ∀ (v : Int32) (S' : aSc), r = (v, S') → res = (some (.int v), (S', M))) : J mi_X7_sector res 0 0 0 [(0, .ref (0)), (1, .int (x1)), (2, .int (x2)), (3, .int (x3)), (4, .int (x4))] [] (C, M) := by
  rw [f_X7_sector] at h
  refine J_aload_n dX7_sector_0 rfl 0 rfl ?_
  refine J_iload_n dX7_sector_1 rfl 1 rfl ?_
  obtain ⟨r2, h1, h⟩ := br_b h
  refine J_callV (mj := mi_X7_isLight) (as := [.int (x1)]) (rest := []) (ct_X7_isLight (M := M)  h1) ⟨rfl, rfl⟩ rfl rfl (by decide) rfl cg_X7_108 hd_X7_isLight rfl ⟨Nat.le_of_ble_eq_true rfl, Nat.le_of_ble_eq_true rfl⟩ (Nat.le_of_ble_eq_true rfl) ⟨Nat.zero_le _, Nat.zero_le _⟩ dX7_sector_2 ?_
  refine J_if_eq 33 dX7_sector_5 (by decide) (fun c44 => ?_) (fun c44 => ?_)
  · have h := br_p c44 h
    refine J_aload_n dX7_sector_33 rfl 0 rfl ?_
    refine J_ldc (-100001) dX7_sector_34 kc_X7_68 ?_
    obtain ⟨r4, C5, h3, h⟩ := br_b2 h
    refine J_callV (mj := mi_X7_refuse) (as := [.int ((-100001 : Int32))]) (rest := []) (ct_X7_refuse (M := M)  h3) ⟨rfl, rfl⟩ rfl rfl (by decide) rfl cg_X7_69 hd_X7_refuse rfl ⟨Nat.le_of_ble_eq_true rfl, Nat.le_of_ble_eq_true rfl⟩ (Nat.le_of_ble_eq_true rfl) ⟨Nat.zero_le _, Nat.zero_le _⟩ dX7_sector_36 ?_
    have h := Option.some.inj h
    subst h
    exact J_iret rfl rfl rfl (Kr _ _ rfl) dX7_sector_39
  · have h := br_n c44 h
    refine J_iload_n dX7_sector_8 rfl 2 rfl ?_
    obtain ⟨r7, h6, h⟩ := br_b h
    refine J_callS (mj := mi_X7_isDirection) (as := [.int (x2)]) (rest := []) (ct_X7_isDirection (M := M)  h6) ⟨rfl, rfl⟩ rfl cg_X7_150 hd_X7_isDirection rfl ⟨Nat.le_of_ble_eq_true rfl, Nat.le_of_ble_eq_true rfl⟩ (Nat.le_of_ble_eq_true rfl) ⟨Nat.zero_le _, Nat.zero_le _⟩ dX7_sector_9 ?_
    refine J_if_eq 33 dX7_sector_12 (by decide) (fun c43 => ?_) (fun c43 => ?_)
    · have h := br_p c43 h
      refine J_aload_n dX7_sector_33 rfl 0 rfl ?_
      refine J_ldc (-100001) dX7_sector_34 kc_X7_68 ?_
      obtain ⟨r9, C10, h8, h⟩ := br_b2 h
      refine J_callV (mj := mi_X7_refuse) (as := [.int ((-100001 : Int32))]) (rest := []) (ct_X7_refuse (M := M)  h8) ⟨rfl, rfl⟩ rfl rfl (by decide) rfl cg_X7_69 hd_X7_refuse rfl ⟨Nat.le_of_ble_eq_true rfl, Nat.le_of_ble_eq_true rfl⟩ (Nat.le_of_ble_eq_true rfl) ⟨Nat.zero_le _, Nat.zero_le _⟩ dX7_sector_36 ?_
      have h := Option.some.inj h
      subst h
      exact J_iret rfl rfl rfl (Kr _ _ rfl) dX7_sector_39
    · have h := br_n c43 h
      refine J_iload_n dX7_sector_15 rfl 3 rfl ?_
      obtain ⟨r12, h11, h⟩ := br_b h
      refine J_callS (mj := mi_X7_isDirection) (as := [.int (x3)]) (rest := []) (ct_X7_isDirection (M := M)  h11) ⟨rfl, rfl⟩ rfl cg_X7_150 hd_X7_isDirection rfl ⟨Nat.le_of_ble_eq_true rfl, Nat.le_of_ble_eq_true rfl⟩ (Nat.le_of_ble_eq_true rfl) ⟨Nat.zero_le _, Nat.zero_le _⟩ dX7_sector_16 ?_
      refine J_if_eq 33 dX7_sector_19 (by decide) (fun c42 => ?_) (fun c42 => ?_)
      · have h := br_p c42 h
        refine J_aload_n dX7_sector_33 rfl 0 rfl ?_
        refine J_ldc (-100001) dX7_sector_34 kc_X7_68 ?_
        obtain ⟨r14, C15, h13, h⟩ := br_b2 h
        refine J_callV (mj := mi_X7_refuse) (as := [.int ((-100001 : Int32))]) (rest := []) (ct_X7_refuse (M := M)  h13) ⟨rfl, rfl⟩ rfl rfl (by decide) rfl cg_X7_69 hd_X7_refuse rfl ⟨Nat.le_of_ble_eq_true rfl, Nat.le_of_ble_eq_true rfl⟩ (Nat.le_of_ble_eq_true rfl) ⟨Nat.zero_le _, Nat.zero_le _⟩ dX7_sector_36 ?_
        have h := Option.some.inj h
        subst h
        exact J_iret rfl rfl rfl (Kr _ _ rfl) dX7_sector_39
      · have h := br_n c42 h
        refine J_iload dX7_sector_22 4 rfl ?_
        refine J_if_lt 33 dX7_sector_24 (by decide) (fun c41 => ?_) (fun c41 => ?_)
        · have h := br_p c41 h
          refine J_aload_n dX7_sector_33 rfl 0 rfl ?_
          refine J_ldc (-100001) dX7_sector_34 kc_X7_68 ?_
          obtain ⟨r17, C18, h16, h⟩ := br_b2 h
          refine J_callV (mj := mi_X7_refuse) (as := [.int ((-100001 : Int32))]) (rest := []) (ct_X7_refuse (M := M)  h16) ⟨rfl, rfl⟩ rfl rfl (by decide) rfl cg_X7_69 hd_X7_refuse rfl ⟨Nat.le_of_ble_eq_true rfl, Nat.le_of_ble_eq_true rfl⟩ (Nat.le_of_ble_eq_true rfl) ⟨Nat.zero_le _, Nat.zero_le _⟩ dX7_sector_36 ?_
          have h := Option.some.inj h
          subst h
          exact J_iret rfl rfl rfl (Kr _ _ rfl) dX7_sector_39
        · have h := br_n c41 h
          refine J_iload dX7_sector_27 4 rfl ?_
          refine J_iconst 3 dX7_sector_29 rfl ?_
          refine J_icmp_le 40 dX7_sector_30 (by decide) (fun c40 => ?_) (fun c40 => ?_)
          · have h := br_p c40 h
            refine J_aload_n dX7_sector_40 rfl 0 rfl ?_
            refine J_getr (j := 1) (t := 11) (r := 3) rfl (by decide) (by decide) rfl (by decide) rfl rfl kf_X7_18 dX7_sector_41 ?_
            refine J_iload_n dX7_sector_44 rfl 1 rfl ?_
            obtain ⟨c19, h20, h⟩ := br_b h
            have q21 := a_rfL h20
            refine J_aaldL h20 dX7_sector_45 ?_
            refine J_astore (L' := [(5, .ref (c19)), (0, .ref (0)), (1, .int (x1)), (2, .int (x2)), (3, .int (x3)), (4, .int (x4))]) dX7_sector_46 (by decide) rfl ?_
            refine J_aload dX7_sector_48 0 rfl ?_
            refine J_geti (j := 8) q21.1 q21.2.1 (by decide) rfl (by decide) rfl kf_X7_141 dX7_sector_50 ?_
            refine J_iconst 4 dX7_sector_53 rfl ?_
            refine J_icmp_lt 64 dX7_sector_54 (by decide) (fun c36 => ?_) (fun c36 => ?_)
            · have h := br_p c36 h
              refine J_aload_n dX7_sector_64 rfl 1 rfl ?_
              refine J_iconst 1 dX7_sector_65 rfl ?_
              refine J_iload_n dX7_sector_66 rfl 2 rfl ?_
              refine J_iconst 0 dX7_sector_67 rfl ?_
              obtain ⟨r23, C24, h22, h⟩ := br_b2 h
              obtain ⟨h26, h⟩ := br_g h
              have q25 := a_ckP_is h26
              refine J_callV (mj := mi_X7_remember) (as := [.int ((1 : Int32)), .int (x1), .int ((0 : Int32))]) (rest := []) (ct_X7_remember (M := M)  h22) ⟨rfl, rfl⟩ rfl rfl (by decide) rfl cg_X7_96 hd_X7_remember rfl ⟨Nat.le_of_ble_eq_true rfl, Nat.le_of_ble_eq_true rfl⟩ (Nat.le_of_ble_eq_true rfl) ⟨Nat.zero_le _, Nat.zero_le _⟩ dX7_sector_68 ?_
              refine J_pop dX7_sector_71 rfl ?_
              refine J_aload dX7_sector_72 0 rfl ?_
              refine J_getr (j := 7) (t := 1) (r := c19 + 2) q21.1 (Nat.lt_trans q21.2.1 (by decide)) (by decide) rfl (by decide) rfl rfl kf_X7_153 dX7_sector_74 ?_
              refine J_aload dX7_sector_77 0 rfl ?_
              refine J_geti (j := 8) q21.1 q21.2.1 (by decide) rfl (by decide) rfl kf_X7_141 dX7_sector_79 ?_
              refine J_iload dX7_sector_82 5 rfl ?_
              refine J_bipush 16 dX7_sector_84 rfl ?_
              refine J_ishl dX7_sector_86 ?_
              refine J_iload_n dX7_sector_87 rfl 3 rfl ?_
              refine J_iload_n dX7_sector_88 rfl 4 rfl ?_
              obtain ⟨r28, h27, h⟩ := br_b h
              refine J_callS (mj := mi_X7_turnedOver) (as := [.int (x2), .int (x3)]) (rest := [.int ((x4 <<< ((16 : Int32) &&& 31))), .int ((a_gi C24 c19 8)), .ref ((c19 + 2))]) (ct_X7_turnedOver (M := M)  h27) ⟨rfl, rfl⟩ rfl cg_X7_156 hd_X7_turnedOver rfl ⟨Nat.le_of_ble_eq_true rfl, Nat.le_of_ble_eq_true rfl⟩ (Nat.le_of_ble_eq_true rfl) ⟨Nat.zero_le _, Nat.zero_le _⟩ dX7_sector_89 ?_
              refine J_ior dX7_sector_92 ?_
              obtain ⟨C29, h30, h⟩ := br_b h
              refine J_iast q21.2.2.2.2.1 q21.2.2.2.2.2 h30 dX7_sector_93 ?_
              refine J_aload dX7_sector_94 0 rfl ?_
              refine J_dup dX7_sector_96 rfl ?_
              refine J_geti (j := 8) q21.1 q21.2.1 (by decide) rfl (by decide) rfl kf_X7_141 dX7_sector_97 ?_
              refine J_iconst 1 dX7_sector_100 rfl ?_
              refine J_iadd dX7_sector_101 ?_
              obtain ⟨C31, e32, h⟩ := br_s h
              refine J_puti (j := 8) q21.1 q21.2.1 (by decide) rfl (by decide) rfl rfl rfl kf_X7_141 e32 dX7_sector_102 ?_
              refine J_aload dX7_sector_105 0 rfl ?_
              refine J_geti (j := 8) q21.1 q21.2.1 (by decide) rfl (by decide) rfl kf_X7_141 dX7_sector_107 ?_
              have h := Option.some.inj h
              subst h
              exact J_iret rfl rfl rfl (Kr _ _ rfl) dX7_sector_110
            · have h := br_n c36 h
              refine J_aload_n dX7_sector_57 rfl 1 rfl ?_
              refine J_ldc (-100005) dX7_sector_58 kc_X7_77 ?_
              obtain ⟨r34, C35, h33, h⟩ := br_b2 h
              refine J_callV (mj := mi_X7_refuse) (as := [.int ((-100005 : Int32))]) (rest := []) (ct_X7_refuse (M := M)  h33) ⟨rfl, rfl⟩ rfl rfl (by decide) rfl cg_X7_69 hd_X7_refuse rfl ⟨Nat.le_of_ble_eq_true rfl, Nat.le_of_ble_eq_true rfl⟩ (Nat.le_of_ble_eq_true rfl) ⟨Nat.zero_le _, Nat.zero_le _⟩ dX7_sector_60 ?_
              have h := Option.some.inj h
              subst h
              exact J_iret rfl rfl rfl (Kr _ _ rfl) dX7_sector_63
          · have h := br_n c40 h
            refine J_aload_n dX7_sector_33 rfl 0 rfl ?_
            refine J_ldc (-100001) dX7_sector_34 kc_X7_68 ?_
            obtain ⟨r38, C39, h37, h⟩ := br_b2 h
            refine J_callV (mj := mi_X7_refuse) (as := [.int ((-100001 : Int32))]) (rest := []) (ct_X7_refuse (M := M)  h37) ⟨rfl, rfl⟩ rfl rfl (by decide) rfl cg_X7_69 hd_X7_refuse rfl ⟨Nat.le_of_ble_eq_true rfl, Nat.le_of_ble_eq_true rfl⟩ (Nat.le_of_ble_eq_true rfl) ⟨Nat.zero_le _, Nat.zero_le _⟩ dX7_sector_36 ?_
            have h := Option.some.inj h
            subst h
            exact J_iret rfl rfl rfl (Kr _ _ rfl) dX7_sector_39
theorem ct_X7_sector {x1 : Int32} {x2 : Int32} {x3 : Int32} {x4 : Int32} {C : aSc} {M : aMm} {v : Int32} {S' : aSc}  (h : f_X7_sector x1 x2 x3 x4 C = some (v, S')) : Ct mi_X7_sector yX7_sector [.ref (0), .int (x1), .int (x2), .int (x3), .int (x4)] (C, M) (some (.int v), (S', M)) := Ct_of_J (by decide +kernel) rfl (Nat.le_of_ble_eq_true rfl) (jm_X7_sector  h (fun _ _ e => by cases e; rfl))

def mi_X7_doubt : aMi := (cX7_doubt, 5, RX7, (some .int), { frames := 3, cells := 0, slots := 0, locals := 66 })
def f_X7_doubt (x1 : Int32) (x2 : Int32) (C : aSc) : Option (Int32 × aSc) :=
  (f_X7_isLight x1 C).bind fun r2 => if (r2 : Int32) = 0 then bd2 (f_X7_refuse (-100001 : Int32) C) fun r4 C5 => some (r4, C5) else if (x2 : Int32) < 0 then bd2 (f_X7_refuse (-100001 : Int32) C) fun r7 C8 => some (r7, C8) else if (x2 : Int32) ≤ (3 : Int32) then (a_rf 24 3 10 x1).bind fun c9 => if ((a_gi C c9 0) : Int32) = (2 : Int32) then bd2 (f_X7_remember (2 : Int32) x1 (a_gi C c9 9) C) fun r13 C14 => if 62 ≤ r13 ∧ r13 < 94 ∧ r13 % 2 = 0 then (some (a_pi C14 c9 9 x2)).bind fun C17 => some ((a_gi C c9 9), C17) else none else bd2 (f_X7_refuse (-100004 : Int32) C) fun r20 C21 => some (r20, C21) else bd2 (f_X7_refuse (-100001 : Int32) C) fun r24 C25 => some (r24, C25)
set_option maxRecDepth 100000 in
set_option maxHeartbeats 4000000 in
theorem jm_X7_doubt {x1 : Int32} {x2 : Int32} {C : aSc} {M : aMm}  {res : aRes} {r : Int32 × aSc} (h : f_X7_doubt x1 x2 C = some r) (Kr : ∀ (v : Int32) (S' : aSc), r = (v, S') → res = (some (.int v), (S', M))) : J mi_X7_doubt res 0 0 0 [(0, .ref (0)), (1, .int (x1)), (2, .int (x2))] [] (C, M) := by
  rw [f_X7_doubt] at h
  refine J_aload_n dX7_doubt_0 rfl 0 rfl ?_
  refine J_iload_n dX7_doubt_1 rfl 1 rfl ?_
  obtain ⟨r2, h1, h⟩ := br_b h
  refine J_callV (mj := mi_X7_isLight) (as := [.int (x1)]) (rest := []) (ct_X7_isLight (M := M)  h1) ⟨rfl, rfl⟩ rfl rfl (by decide) rfl cg_X7_108 hd_X7_isLight rfl ⟨Nat.le_of_ble_eq_true rfl, Nat.le_of_ble_eq_true rfl⟩ (Nat.le_of_ble_eq_true rfl) ⟨Nat.zero_le _, Nat.zero_le _⟩ dX7_doubt_2 ?_
  refine J_if_eq 17 dX7_doubt_5 (by decide) (fun c28 => ?_) (fun c28 => ?_)
  · have h := br_p c28 h
    refine J_aload_n dX7_doubt_17 rfl 0 rfl ?_
    refine J_ldc (-100001) dX7_doubt_18 kc_X7_68 ?_
    obtain ⟨r4, C5, h3, h⟩ := br_b2 h
    refine J_callV (mj := mi_X7_refuse) (as := [.int ((-100001 : Int32))]) (rest := []) (ct_X7_refuse (M := M)  h3) ⟨rfl, rfl⟩ rfl rfl (by decide) rfl cg_X7_69 hd_X7_refuse rfl ⟨Nat.le_of_ble_eq_true rfl, Nat.le_of_ble_eq_true rfl⟩ (Nat.le_of_ble_eq_true rfl) ⟨Nat.zero_le _, Nat.zero_le _⟩ dX7_doubt_20 ?_
    have h := Option.some.inj h
    subst h
    exact J_iret rfl rfl rfl (Kr _ _ rfl) dX7_doubt_23
  · have h := br_n c28 h
    refine J_iload_n dX7_doubt_8 rfl 2 rfl ?_
    refine J_if_lt 17 dX7_doubt_9 (by decide) (fun c27 => ?_) (fun c27 => ?_)
    · have h := br_p c27 h
      refine J_aload_n dX7_doubt_17 rfl 0 rfl ?_
      refine J_ldc (-100001) dX7_doubt_18 kc_X7_68 ?_
      obtain ⟨r7, C8, h6, h⟩ := br_b2 h
      refine J_callV (mj := mi_X7_refuse) (as := [.int ((-100001 : Int32))]) (rest := []) (ct_X7_refuse (M := M)  h6) ⟨rfl, rfl⟩ rfl rfl (by decide) rfl cg_X7_69 hd_X7_refuse rfl ⟨Nat.le_of_ble_eq_true rfl, Nat.le_of_ble_eq_true rfl⟩ (Nat.le_of_ble_eq_true rfl) ⟨Nat.zero_le _, Nat.zero_le _⟩ dX7_doubt_20 ?_
      have h := Option.some.inj h
      subst h
      exact J_iret rfl rfl rfl (Kr _ _ rfl) dX7_doubt_23
    · have h := br_n c27 h
      refine J_iload_n dX7_doubt_12 rfl 2 rfl ?_
      refine J_iconst 3 dX7_doubt_13 rfl ?_
      refine J_icmp_le 24 dX7_doubt_14 (by decide) (fun c26 => ?_) (fun c26 => ?_)
      · have h := br_p c26 h
        refine J_aload_n dX7_doubt_24 rfl 0 rfl ?_
        refine J_getr (j := 1) (t := 11) (r := 3) rfl (by decide) (by decide) rfl (by decide) rfl rfl kf_X7_18 dX7_doubt_25 ?_
        refine J_iload_n dX7_doubt_28 rfl 1 rfl ?_
        obtain ⟨c9, h10, h⟩ := br_b h
        have q11 := a_rfL h10
        refine J_aaldL h10 dX7_doubt_29 ?_
        refine J_astore_n (L' := [(3, .ref (c9)), (0, .ref (0)), (1, .int (x1)), (2, .int (x2))]) dX7_doubt_30 rfl (by decide) rfl ?_
        refine J_aload_n dX7_doubt_31 rfl 0 rfl ?_
        refine J_geti (j := 0) q11.1 q11.2.1 (by decide) rfl (by decide) rfl kf_X7_111 dX7_doubt_32 ?_
        refine J_iconst 2 dX7_doubt_35 rfl ?_
        refine J_icmp_eq 46 dX7_doubt_36 (by decide) (fun c22 => ?_) (fun c22 => ?_)
        · have h := br_p c22 h
          refine J_aload_n dX7_doubt_46 rfl 0 rfl ?_
          refine J_geti (j := 9) q11.1 q11.2.1 (by decide) rfl (by decide) rfl kf_X7_144 dX7_doubt_47 ?_
          refine J_istore (L' := [(4, .int ((a_gi C c9 9))), (3, .ref (c9)), (0, .ref (0)), (1, .int (x1)), (2, .int (x2))]) dX7_doubt_50 (by decide) rfl ?_
          refine J_aload_n dX7_doubt_52 rfl 2 rfl ?_
          refine J_iconst 2 dX7_doubt_53 rfl ?_
          refine J_iload_n dX7_doubt_54 rfl 3 rfl ?_
          refine J_iload dX7_doubt_55 0 rfl ?_
          obtain ⟨r13, C14, h12, h⟩ := br_b2 h
          obtain ⟨h16, h⟩ := br_g h
          have q15 := a_ckP_is h16
          refine J_callV (mj := mi_X7_remember) (as := [.int ((2 : Int32)), .int (x1), .int ((a_gi C c9 9))]) (rest := []) (ct_X7_remember (M := M)  h12) ⟨rfl, rfl⟩ rfl rfl (by decide) rfl cg_X7_96 hd_X7_remember rfl ⟨Nat.le_of_ble_eq_true rfl, Nat.le_of_ble_eq_true rfl⟩ (Nat.le_of_ble_eq_true rfl) ⟨Nat.zero_le _, Nat.zero_le _⟩ dX7_doubt_57 ?_
          refine J_pop dX7_doubt_60 rfl ?_
          refine J_aload_n dX7_doubt_61 rfl 1 rfl ?_
          refine J_iload_n dX7_doubt_62 rfl 4 rfl ?_
          obtain ⟨C17, e18, h⟩ := br_s h
          refine J_puti (j := 9) q11.1 q11.2.1 (by decide) rfl (by decide) rfl rfl rfl kf_X7_144 e18 dX7_doubt_63 ?_
          refine J_iload dX7_doubt_66 0 rfl ?_
          have h := Option.some.inj h
          subst h
          exact J_iret rfl rfl rfl (Kr _ _ rfl) dX7_doubt_68
        · have h := br_n c22 h
          refine J_aload_n dX7_doubt_39 rfl 1 rfl ?_
          refine J_ldc (-100004) dX7_doubt_40 kc_X7_118 ?_
          obtain ⟨r20, C21, h19, h⟩ := br_b2 h
          refine J_callV (mj := mi_X7_refuse) (as := [.int ((-100004 : Int32))]) (rest := []) (ct_X7_refuse (M := M)  h19) ⟨rfl, rfl⟩ rfl rfl (by decide) rfl cg_X7_69 hd_X7_refuse rfl ⟨Nat.le_of_ble_eq_true rfl, Nat.le_of_ble_eq_true rfl⟩ (Nat.le_of_ble_eq_true rfl) ⟨Nat.zero_le _, Nat.zero_le _⟩ dX7_doubt_42 ?_
          have h := Option.some.inj h
          subst h
          exact J_iret rfl rfl rfl (Kr _ _ rfl) dX7_doubt_45
      · have h := br_n c26 h
        refine J_aload_n dX7_doubt_17 rfl 0 rfl ?_
        refine J_ldc (-100001) dX7_doubt_18 kc_X7_68 ?_
        obtain ⟨r24, C25, h23, h⟩ := br_b2 h
        refine J_callV (mj := mi_X7_refuse) (as := [.int ((-100001 : Int32))]) (rest := []) (ct_X7_refuse (M := M)  h23) ⟨rfl, rfl⟩ rfl rfl (by decide) rfl cg_X7_69 hd_X7_refuse rfl ⟨Nat.le_of_ble_eq_true rfl, Nat.le_of_ble_eq_true rfl⟩ (Nat.le_of_ble_eq_true rfl) ⟨Nat.zero_le _, Nat.zero_le _⟩ dX7_doubt_20 ?_
        have h := Option.some.inj h
        subst h
        exact J_iret rfl rfl rfl (Kr _ _ rfl) dX7_doubt_23
theorem ct_X7_doubt {x1 : Int32} {x2 : Int32} {C : aSc} {M : aMm} {v : Int32} {S' : aSc}  (h : f_X7_doubt x1 x2 C = some (v, S')) : Ct mi_X7_doubt yX7_doubt [.ref (0), .int (x1), .int (x2)] (C, M) (some (.int v), (S', M)) := Ct_of_J (by decide +kernel) rfl (Nat.le_of_ble_eq_true rfl) (jm_X7_doubt  h (fun _ _ e => by cases e; rfl))
def mi_X7_directionOf : aMi := (cX7_directionOf, 7, RX7, (some .int), { frames := 0, cells := 0, slots := 0, locals := 0 })
def b_X7_directionOf_54 (x2 : Int32) (x3 : Int32) (x4 : Int32) (x5 : Int32) (x6 : Int32) (C : aSc) : Option ((Int32 × Int32) ⊕ (Int32)) :=
  if ((8 : Int32) : Int32) ≤ x6 then some (.inr x5) else (a_tb 201 x6).bind fun u1 => (a_tb 202 x6).bind fun u3 => if ((u3 * x2) : Int32) < (u1 * x3) then some (.inl (x5, (x6 + (1 : Int32)))) else some (.inl (x6, (x6 + (1 : Int32))))
set_option maxRecDepth 100000 in
set_option maxHeartbeats 4000000 in
theorem jl_X7_directionOf_54 {x2 : Int32} {x3 : Int32} {x4 : Int32} {C : aSc} {M : aMm}  {res : aRes} {r : Int32} : ∀ (n : Nat) (x5 : Int32) (x6 : Int32), lpf (fun a : Int32 × Int32 => b_X7_directionOf_54 (x2) (x3) (x4) a.1 a.2 C) n (x5, x6) = some r → (∀ (z5 : Int32), r = z5 → J mi_X7_directionOf res 0 0 92 [(4, .int (x4)), (5, .int (z5))] [] (C, M)) → J mi_X7_directionOf res 0 0 54 [(2, .int (x2)), (3, .int (x3)), (4, .int (x4)), (5, .int (x5)), (6, .int (x6))] [] (C, M) := by
  intro n
  induction n with
  | zero =>
    intro x5 x6 h
    cases h
  | succ n ih =>
    intro x5 x6 h Kx
    obtain ⟨r0, h, h2⟩ := br_b h
    have h : b_X7_directionOf_54 x2 x3 x4 x5 x6 C = some r0 := h
    rw [b_X7_directionOf_54] at h
    refine J_iload dX7_directionOf_54 4 rfl ?_
    refine J_gets (c := 201) (by decide) (by decide) kf_X7_316 dX7_directionOf_56 ?_
    refine J_tlen (v := 8) (by decide) (by decide) rfl dX7_directionOf_59 ?_
    refine J_icmp_ge 92 dX7_directionOf_60 (by decide) (fun c6 => ?_) (fun c6 => ?_)
    · have h := br_p c6 h
      have h := Option.some.inj h
      subst h
      have h2 := Option.some.inj h2
      subst h2
      refine J_sub [2, 3] rfl ?_
      exact Kx _ rfl
    · have h := br_n c6 h
      refine J_gets (c := 201) (by decide) (by decide) kf_X7_316 dX7_directionOf_63 ?_
      refine J_iload dX7_directionOf_66 4 rfl ?_
      obtain ⟨u1, h2, h⟩ := br_b h
      refine J_tld (by decide) (by decide) h2 dX7_directionOf_68 ?_
      refine J_iload_n dX7_directionOf_69 rfl 1 rfl ?_
      refine J_imul dX7_directionOf_70 ?_
      refine J_gets (c := 202) (by decide) (by decide) kf_X7_319 dX7_directionOf_71 ?_
      refine J_iload dX7_directionOf_74 4 rfl ?_
      obtain ⟨u3, h4, h⟩ := br_b h
      refine J_tld (by decide) (by decide) h4 dX7_directionOf_76 ?_
      refine J_iload_n dX7_directionOf_77 rfl 0 rfl ?_
      refine J_imul dX7_directionOf_78 ?_
      refine J_icmp_gt 86 dX7_directionOf_79 (by decide) (fun c5 => ?_) (fun c5 => ?_)
      · have h := br_p c5 h
        refine J_iinc (j := 4) (v := (x6 + (1 : Int32))) (L' := [(6, .int ((x6 + (1 : Int32)))), (2, .int (x2)), (3, .int (x3)), (4, .int (x4)), (5, .int (x5))]) dX7_directionOf_86 rfl rfl (by decide) rfl ?_
        refine J_goto 54 dX7_directionOf_89 (by decide) ?_
        have h := Option.some.inj h
        subst h
        refine J_sub [1, 2, 3, 4, 0] rfl ?_
        exact ih _ _ h2 Kx
      · have h := br_n c5 h
        refine J_iload dX7_directionOf_82 4 rfl ?_
        refine J_istore (L' := [(5, .int (x6)), (2, .int (x2)), (3, .int (x3)), (4, .int (x4)), (6, .int (x6))]) dX7_directionOf_84 (by decide) rfl ?_
        refine J_iinc (j := 4) (v := (x6 + (1 : Int32))) (L' := [(6, .int ((x6 + (1 : Int32)))), (5, .int (x6)), (2, .int (x2)), (3, .int (x3)), (4, .int (x4))]) dX7_directionOf_86 rfl rfl (by decide) rfl ?_
        refine J_goto 54 dX7_directionOf_89 (by decide) ?_
        have h := Option.some.inj h
        subst h
        refine J_sub [2, 3, 4, 1, 0] rfl ?_
        exact ih _ _ h2 Kx
def g_X7_directionOf_48 (x2 : Int32) (x3 : Int32) (x4 : Int32) (C : aSc) : Option (Int32) :=
  (lpf (fun a : Int32 × Int32 => b_X7_directionOf_54 (x2) (x3) (x4) a.1 a.2 C) FU ((0 : Int32), (1 : Int32))).bind fun z7 => if (x4 : Int32) = 0 then some (z7 + (8 : Int32)) else some z7
set_option maxRecDepth 100000 in
set_option maxHeartbeats 4000000 in
theorem jb_X7_directionOf_48 {x2 : Int32} {x3 : Int32} {x4 : Int32} {C : aSc} {M : aMm}  {res : aRes} {r : Int32} (h : g_X7_directionOf_48 x2 x3 x4 C = some r) (Kr : ∀ (v : Int32), r = v → res = (some (.int v), (C, M))) : J mi_X7_directionOf res 0 0 48 [(2, .int (x2)), (3, .int (x3)), (4, .int (x4))] [] (C, M) := by
  rw [g_X7_directionOf_48] at h
  refine J_iconst 0 dX7_directionOf_48 rfl ?_
  refine J_istore (L' := [(5, .int ((0 : Int32))), (2, .int (x2)), (3, .int (x3)), (4, .int (x4))]) dX7_directionOf_49 (by decide) rfl ?_
  refine J_iconst 1 dX7_directionOf_51 rfl ?_
  refine J_istore (L' := [(6, .int ((1 : Int32))), (5, .int ((0 : Int32))), (2, .int (x2)), (3, .int (x3)), (4, .int (x4))]) dX7_directionOf_52 (by decide) rfl ?_
  refine J_sub [2, 3, 4, 1, 0] rfl ?_
  obtain ⟨z7, h8, h⟩ := br_b h
  refine jl_X7_directionOf_54  FU _ _ h8 ?_
  intro zz e
  subst e
  refine J_iload dX7_directionOf_92 0 rfl ?_
  refine J_if_eq 102 dX7_directionOf_94 (by decide) (fun c10 => ?_) (fun c10 => ?_)
  · have h := br_p c10 h
    refine J_iload dX7_directionOf_102 1 rfl ?_
    refine J_bipush 8 dX7_directionOf_104 rfl ?_
    refine J_iadd dX7_directionOf_106 ?_
    have h := Option.some.inj h
    subst h
    exact J_iret rfl rfl rfl (Kr _ rfl) dX7_directionOf_107
  · have h := br_n c10 h
    refine J_iload dX7_directionOf_97 1 rfl ?_
    refine J_goto 107 dX7_directionOf_99 (by decide) ?_
    have h := Option.some.inj h
    subst h
    exact J_iret rfl rfl rfl (Kr _ rfl) dX7_directionOf_107
def g_X7_directionOf_35 (x2 : Int32) (x3 : Int32) (t0 : Int32) (C : aSc) : Option (Int32) :=
  if (t0 : Int32) = 0 then g_X7_directionOf_48 ((-x2)) ((-x3)) (t0) C else g_X7_directionOf_48 (x2) (x3) (t0) C
set_option maxRecDepth 100000 in
set_option maxHeartbeats 4000000 in
theorem jb_X7_directionOf_35 {x2 : Int32} {x3 : Int32} {t0 : Int32} {C : aSc} {M : aMm}  {res : aRes} {r : Int32} (h : g_X7_directionOf_35 x2 x3 t0 C = some r) (Kr : ∀ (v : Int32), r = v → res = (some (.int v), (C, M))) : J mi_X7_directionOf res 0 0 35 [(2, .int (x2)), (3, .int (x3))] [.int (t0)] (C, M) := by
  rw [g_X7_directionOf_35] at h
  refine J_istore (L' := [(4, .int (t0)), (2, .int (x2)), (3, .int (x3))]) dX7_directionOf_35 (by decide) rfl ?_
  refine J_iload dX7_directionOf_37 0 rfl ?_
  refine J_if_ne 48 dX7_directionOf_39 (by decide) (fun c11 => ?_) (fun c11 => ?_)
  · have h := br_n c11 h
    refine J_sub [1, 2, 0] rfl ?_
    exact jb_X7_directionOf_48  h Kr
  · have h := br_p c11 h
    refine J_iload_n dX7_directionOf_42 rfl 1 rfl ?_
    refine J_ineg dX7_directionOf_43 ?_
    refine J_istore_n (L' := [(2, .int ((-x2))), (4, .int (t0)), (3, .int (x3))]) dX7_directionOf_44 rfl (by decide) rfl ?_
    refine J_iload_n dX7_directionOf_45 rfl 2 rfl ?_
    refine J_ineg dX7_directionOf_46 ?_
    refine J_istore_n (L' := [(3, .int ((-x3))), (2, .int ((-x2))), (4, .int (t0))]) dX7_directionOf_47 rfl (by decide) rfl ?_
    refine J_sub [1, 0, 2] rfl ?_
    exact jb_X7_directionOf_48  h Kr
def g_X7_directionOf_30 (x2 : Int32) (x3 : Int32) (C : aSc) : Option (Int32) :=
  g_X7_directionOf_35 (x2) (x3) ((1 : Int32)) C
set_option maxRecDepth 100000 in
set_option maxHeartbeats 4000000 in
theorem jb_X7_directionOf_30 {x2 : Int32} {x3 : Int32} {C : aSc} {M : aMm}  {res : aRes} {r : Int32} (h : g_X7_directionOf_30 x2 x3 C = some r) (Kr : ∀ (v : Int32), r = v → res = (some (.int v), (C, M))) : J mi_X7_directionOf res 0 0 30 [(2, .int (x2)), (3, .int (x3))] [] (C, M) := by
  rw [g_X7_directionOf_30] at h
  refine J_iconst 1 dX7_directionOf_30 rfl ?_
  refine J_goto 35 dX7_directionOf_31 (by decide) ?_
  exact jb_X7_directionOf_35  h Kr
def g_X7_directionOf_34 (x2 : Int32) (x3 : Int32) (C : aSc) : Option (Int32) :=
  g_X7_directionOf_35 (x2) (x3) ((0 : Int32)) C
set_option maxRecDepth 100000 in
set_option maxHeartbeats 4000000 in
theorem jb_X7_directionOf_34 {x2 : Int32} {x3 : Int32} {C : aSc} {M : aMm}  {res : aRes} {r : Int32} (h : g_X7_directionOf_34 x2 x3 C = some r) (Kr : ∀ (v : Int32), r = v → res = (some (.int v), (C, M))) : J mi_X7_directionOf res 0 0 34 [(2, .int (x2)), (3, .int (x3))] [] (C, M) := by
  rw [g_X7_directionOf_34] at h
  refine J_iconst 0 dX7_directionOf_34 rfl ?_
  exact jb_X7_directionOf_35  h Kr
def f_X7_directionOf (x0 : Int32) (x1 : Int32) (C : aSc) : Option (Int32) :=
  if 0 < (((x1 &&& (15 : Int32)) - (x0 &&& (15 : Int32))) : Int32) then g_X7_directionOf_30 (((x1 &&& (15 : Int32)) - (x0 &&& (15 : Int32)))) (((x1 >>> ((4 : Int32) &&& 31)) - (x0 >>> ((4 : Int32) &&& 31)))) C else if (((x1 &&& (15 : Int32)) - (x0 &&& (15 : Int32))) : Int32) = 0 then if (((x1 >>> ((4 : Int32) &&& 31)) - (x0 >>> ((4 : Int32) &&& 31))) : Int32) ≤ 0 then g_X7_directionOf_34 (((x1 &&& (15 : Int32)) - (x0 &&& (15 : Int32)))) (((x1 >>> ((4 : Int32) &&& 31)) - (x0 >>> ((4 : Int32) &&& 31)))) C else g_X7_directionOf_30 (((x1 &&& (15 : Int32)) - (x0 &&& (15 : Int32)))) (((x1 >>> ((4 : Int32) &&& 31)) - (x0 >>> ((4 : Int32) &&& 31)))) C else g_X7_directionOf_34 (((x1 &&& (15 : Int32)) - (x0 &&& (15 : Int32)))) (((x1 >>> ((4 : Int32) &&& 31)) - (x0 >>> ((4 : Int32) &&& 31)))) C
set_option maxRecDepth 100000 in
set_option maxHeartbeats 4000000 in
theorem jm_X7_directionOf {x0 : Int32} {x1 : Int32} {C : aSc} {M : aMm}  {res : aRes} {r : Int32} (h : f_X7_directionOf x0 x1 C = some r) (Kr : ∀ (v : Int32), r = v → res = (some (.int v), (C, M))) : J mi_X7_directionOf res 0 0 0 [(0, .int (x0)), (1, .int (x1))] [] (C, M) := by
  rw [f_X7_directionOf] at h
  refine J_iload_n dX7_directionOf_0 rfl 1 rfl ?_
  refine J_bipush 15 dX7_directionOf_1 rfl ?_
  refine J_iand dX7_directionOf_3 ?_
  refine J_iload_n dX7_directionOf_4 rfl 0 rfl ?_
  refine J_bipush 15 dX7_directionOf_5 rfl ?_
  refine J_iand dX7_directionOf_7 ?_
  refine J_isub dX7_directionOf_8 ?_
  refine J_istore_n (L' := [(2, .int (((x1 &&& (15 : Int32)) - (x0 &&& (15 : Int32))))), (0, .int (x0)), (1, .int (x1))]) dX7_directionOf_9 rfl (by decide) rfl ?_
  refine J_iload_n dX7_directionOf_10 rfl 2 rfl ?_
  refine J_iconst 4 dX7_directionOf_11 rfl ?_
  refine J_ishr dX7_directionOf_12 ?_
  refine J_iload_n dX7_directionOf_13 rfl 1 rfl ?_
  refine J_iconst 4 dX7_directionOf_14 rfl ?_
  refine J_ishr dX7_directionOf_15 ?_
  refine J_isub dX7_directionOf_16 ?_
  refine J_istore_n (L' := [(3, .int (((x1 >>> ((4 : Int32) &&& 31)) - (x0 >>> ((4 : Int32) &&& 31))))), (2, .int (((x1 &&& (15 : Int32)) - (x0 &&& (15 : Int32))))), (0, .int (x0)), (1, .int (x1))]) dX7_directionOf_17 rfl (by decide) rfl ?_
  refine J_iload_n dX7_directionOf_18 rfl 1 rfl ?_
  refine J_if_gt 30 dX7_directionOf_19 (by decide) (fun c14 => ?_) (fun c14 => ?_)
  · have h := br_p c14 h
    refine J_sub [1, 0] rfl ?_
    exact jb_X7_directionOf_30  h Kr
  · have h := br_n c14 h
    refine J_iload_n dX7_directionOf_22 rfl 1 rfl ?_
    refine J_if_ne 34 dX7_directionOf_23 (by decide) (fun c13 => ?_) (fun c13 => ?_)
    · have h := br_n c13 h
      refine J_sub [1, 0] rfl ?_
      exact jb_X7_directionOf_34  h Kr
    · have h := br_p c13 h
      refine J_iload_n dX7_directionOf_26 rfl 0 rfl ?_
      refine J_if_le 34 dX7_directionOf_27 (by decide) (fun c12 => ?_) (fun c12 => ?_)
      · have h := br_p c12 h
        refine J_sub [1, 0] rfl ?_
        exact jb_X7_directionOf_34  h Kr
      · have h := br_n c12 h
        refine J_sub [1, 0] rfl ?_
        exact jb_X7_directionOf_30  h Kr
theorem ct_X7_directionOf {x0 : Int32} {x1 : Int32} {C : aSc} {M : aMm} {v : Int32}  (h : f_X7_directionOf x0 x1 C = some v) : Ct mi_X7_directionOf yX7_directionOf [.int (x0), .int (x1)] (C, M) (some (.int v), (C, M)) := Ct_of_J (by decide +kernel) rfl (Nat.le_of_ble_eq_true rfl) (jm_X7_directionOf  h (fun _ e => by cases e; rfl))
def mi_X7_direction : aMi := (cX7_direction, 3, RX7, (some .int), { frames := 1, cells := 0, slots := 0, locals := 26 })
def f_X7_direction (x1 : Int32) (x2 : Int32) (C : aSc) : Option (Int32 × aSc) :=
  (f_X7_isCell x1 C).bind fun r2 => if (r2 : Int32) = 0 then bd2 (f_X7_refuse (-100001 : Int32) C) fun r4 C5 => some (r4, C5) else (f_X7_isCell x2 C).bind fun r7 => if (r7 : Int32) = 0 then bd2 (f_X7_refuse (-100001 : Int32) C) fun r15 C16 => some (r15, C16) else if (x1 : Int32) = x2 then bd2 (f_X7_refuse (-100003 : Int32) C) fun r11 C12 => some (r11, C12) else (f_X7_directionOf x1 x2 C).bind fun r9 => some (r9, C)
set_option maxRecDepth 100000 in
set_option maxHeartbeats 4000000 in
theorem jm_X7_direction {x1 : Int32} {x2 : Int32} {C : aSc} {M : aMm}  {res : aRes} {r : Int32 × aSc} (h : f_X7_direction x1 x2 C = some r) (Kr : ∀ (v : Int32) (S' : aSc), r = (v, S') → res = (some (.int v), (S', M))) : J mi_X7_direction res 0 0 0 [(0, .ref (0)), (1, .int (x1)), (2, .int (x2))] [] (C, M) := by
  rw [f_X7_direction] at h
  refine J_iload_n dX7_direction_0 rfl 1 rfl ?_
  obtain ⟨r2, h1, h⟩ := br_b h
  refine J_callS (mj := mi_X7_isCell) (as := [.int (x1)]) (rest := []) (ct_X7_isCell (M := M)  h1) ⟨rfl, rfl⟩ rfl cg_X7_86 hd_X7_isCell rfl ⟨Nat.le_of_ble_eq_true rfl, Nat.le_of_ble_eq_true rfl⟩ (Nat.le_of_ble_eq_true rfl) ⟨Nat.zero_le _, Nat.zero_le _⟩ dX7_direction_1 ?_
  refine J_if_eq 14 dX7_direction_4 (by decide) (fun c18 => ?_) (fun c18 => ?_)
  · have h := br_p c18 h
    refine J_aload_n dX7_direction_14 rfl 0 rfl ?_
    refine J_ldc (-100001) dX7_direction_15 kc_X7_68 ?_
    obtain ⟨r4, C5, h3, h⟩ := br_b2 h
    refine J_callV (mj := mi_X7_refuse) (as := [.int ((-100001 : Int32))]) (rest := []) (ct_X7_refuse (M := M)  h3) ⟨rfl, rfl⟩ rfl rfl (by decide) rfl cg_X7_69 hd_X7_refuse rfl ⟨Nat.le_of_ble_eq_true rfl, Nat.le_of_ble_eq_true rfl⟩ (Nat.le_of_ble_eq_true rfl) ⟨Nat.zero_le _, Nat.zero_le _⟩ dX7_direction_17 ?_
    have h := Option.some.inj h
    subst h
    exact J_iret rfl rfl rfl (Kr _ _ rfl) dX7_direction_20
  · have h := br_n c18 h
    refine J_iload_n dX7_direction_7 rfl 2 rfl ?_
    obtain ⟨r7, h6, h⟩ := br_b h
    refine J_callS (mj := mi_X7_isCell) (as := [.int (x2)]) (rest := []) (ct_X7_isCell (M := M)  h6) ⟨rfl, rfl⟩ rfl cg_X7_86 hd_X7_isCell rfl ⟨Nat.le_of_ble_eq_true rfl, Nat.le_of_ble_eq_true rfl⟩ (Nat.le_of_ble_eq_true rfl) ⟨Nat.zero_le _, Nat.zero_le _⟩ dX7_direction_8 ?_
    refine J_if_ne 21 dX7_direction_11 (by decide) (fun c17 => ?_) (fun c17 => ?_)
    · have h := br_n c17 h
      refine J_iload_n dX7_direction_21 rfl 1 rfl ?_
      refine J_iload_n dX7_direction_22 rfl 2 rfl ?_
      refine J_icmp_ne 35 dX7_direction_23 (by decide) (fun c13 => ?_) (fun c13 => ?_)
      · have h := br_n c13 h
        refine J_iload_n dX7_direction_35 rfl 1 rfl ?_
        refine J_iload_n dX7_direction_36 rfl 2 rfl ?_
        obtain ⟨r9, h8, h⟩ := br_b h
        refine J_callS (mj := mi_X7_directionOf) (as := [.int (x1), .int (x2)]) (rest := []) (ct_X7_directionOf (M := M)  h8) ⟨rfl, rfl⟩ rfl cg_X7_161 hd_X7_directionOf rfl ⟨Nat.le_of_ble_eq_true rfl, Nat.le_of_ble_eq_true rfl⟩ (Nat.le_of_ble_eq_true rfl) ⟨Nat.zero_le _, Nat.zero_le _⟩ dX7_direction_37 ?_
        have h := Option.some.inj h
        subst h
        exact J_iret rfl rfl rfl (Kr _ _ rfl) dX7_direction_40
      · have h := br_p c13 h
        refine J_aload_n dX7_direction_26 rfl 0 rfl ?_
        refine J_ldc (-100003) dX7_direction_27 kc_X7_160 ?_
        obtain ⟨r11, C12, h10, h⟩ := br_b2 h
        refine J_callV (mj := mi_X7_refuse) (as := [.int ((-100003 : Int32))]) (rest := []) (ct_X7_refuse (M := M)  h10) ⟨rfl, rfl⟩ rfl rfl (by decide) rfl cg_X7_69 hd_X7_refuse rfl ⟨Nat.le_of_ble_eq_true rfl, Nat.le_of_ble_eq_true rfl⟩ (Nat.le_of_ble_eq_true rfl) ⟨Nat.zero_le _, Nat.zero_le _⟩ dX7_direction_29 ?_
        refine J_goto 40 dX7_direction_32 (by decide) ?_
        have h := Option.some.inj h
        subst h
        exact J_iret rfl rfl rfl (Kr _ _ rfl) dX7_direction_40
    · have h := br_p c17 h
      refine J_aload_n dX7_direction_14 rfl 0 rfl ?_
      refine J_ldc (-100001) dX7_direction_15 kc_X7_68 ?_
      obtain ⟨r15, C16, h14, h⟩ := br_b2 h
      refine J_callV (mj := mi_X7_refuse) (as := [.int ((-100001 : Int32))]) (rest := []) (ct_X7_refuse (M := M)  h14) ⟨rfl, rfl⟩ rfl rfl (by decide) rfl cg_X7_69 hd_X7_refuse rfl ⟨Nat.le_of_ble_eq_true rfl, Nat.le_of_ble_eq_true rfl⟩ (Nat.le_of_ble_eq_true rfl) ⟨Nat.zero_le _, Nat.zero_le _⟩ dX7_direction_17 ?_
      have h := Option.some.inj h
      subst h
      exact J_iret rfl rfl rfl (Kr _ _ rfl) dX7_direction_20
theorem ct_X7_direction {x1 : Int32} {x2 : Int32} {C : aSc} {M : aMm} {v : Int32} {S' : aSc}  (h : f_X7_direction x1 x2 C = some (v, S')) : Ct mi_X7_direction yX7_direction [.ref (0), .int (x1), .int (x2)] (C, M) (some (.int v), (S', M)) := Ct_of_J (by decide +kernel) rfl (Nat.le_of_ble_eq_true rfl) (jm_X7_direction  h (fun _ _ e => by cases e; rfl))
def mi_X1_colourTowards : aMi := (cX1_colourTowards, 3, RX1, (some .int), { frames := 0, cells := 0, slots := 0, locals := 0 })
def b_X1_colourTowards_7 (x0 : Nat) (x1 : Int32) (x2 : Int32) (C : aSc) : Option ((Int32) ⊕ ((Unit) ⊕ (Int32))) :=
  if (x2 : Int32) < 0 then some (.inr (.inl ())) else (a_ld C (x0 + 2) x2).bind fun u1 => if (((u1 >>> (x1 &&& 31)) &&& (1 : Int32)) : Int32) = (1 : Int32) then (a_ld C (x0 + 2) x2).bind fun u3 => some (.inr (.inr (u3 >>> ((16 : Int32) &&& 31)))) else some (.inl (x2 + (-1 : Int32)))
set_option maxRecDepth 100000 in
set_option maxHeartbeats 4000000 in
theorem jl_X1_colourTowards_7 {x0 : Nat} {x1 : Int32} {C : aSc} {M : aMm} (qx0 : isL x0) {res : aRes} {r : (Unit) ⊕ (Int32)} : ∀ (n : Nat) (x2 : Int32), lpf (fun a : Int32 => b_X1_colourTowards_7 (x0) (x1) a C) n x2 = some r → (r = .inl () → J mi_X1_colourTowards res 0 0 41 [(0, .ref (x0))] [] (C, M)) → (∀ (v : Int32), r = .inr v → res = (some (.int v), (C, M))) → J mi_X1_colourTowards res 0 0 7 [(0, .ref (x0)), (1, .int (x1)), (2, .int (x2))] [] (C, M) := by
  intro n
  induction n with
  | zero =>
    intro x2 h
    cases h
  | succ n ih =>
    intro x2 h Kx Kr
    obtain ⟨r0, h, h2⟩ := br_b h
    have h : b_X1_colourTowards_7 x0 x1 x2 C = some r0 := h
    rw [b_X1_colourTowards_7] at h
    refine J_iload_n dX1_colourTowards_7 rfl 2 rfl ?_
    refine J_if_lt 41 dX1_colourTowards_8 (by decide) (fun c6 => ?_) (fun c6 => ?_)
    · have h := br_p c6 h
      have h := Option.some.inj h
      subst h
      have h2 := Option.some.inj h2
      subst h2
      refine J_sub [0] rfl ?_
      exact Kx  rfl
    · have h := br_n c6 h
      refine J_aload_n dX1_colourTowards_11 rfl 0 rfl ?_
      refine J_getr (j := 7) (t := 1) (r := x0 + 2) qx0.1 (Nat.lt_trans qx0.2.1 (by decide)) (by decide) rfl (by decide) rfl rfl kf_X1_15 dX1_colourTowards_12 ?_
      refine J_iload_n dX1_colourTowards_15 rfl 2 rfl ?_
      obtain ⟨u1, h2, h⟩ := br_b h
      refine J_iald qx0.2.2.2.2.1 qx0.2.2.2.2.2 h2 dX1_colourTowards_16 ?_
      refine J_iload_n dX1_colourTowards_17 rfl 1 rfl ?_
      refine J_ishr dX1_colourTowards_18 ?_
      refine J_iconst 1 dX1_colourTowards_19 rfl ?_
      refine J_iand dX1_colourTowards_20 ?_
      refine J_iconst 1 dX1_colourTowards_21 rfl ?_
      refine J_icmp_ne 35 dX1_colourTowards_22 (by decide) (fun c5 => ?_) (fun c5 => ?_)
      · have h := br_n c5 h
        refine J_iinc (j := 2) (v := (x2 + (-1 : Int32))) (L' := [(2, .int ((x2 + (-1 : Int32)))), (0, .ref (x0)), (1, .int (x1))]) dX1_colourTowards_35 rfl rfl (by decide) rfl ?_
        refine J_goto 7 dX1_colourTowards_38 (by decide) ?_
        have h := Option.some.inj h
        subst h
        refine J_sub [1, 2, 0] rfl ?_
        exact ih _ h2 Kx Kr
      · have h := br_p c5 h
        refine J_aload_n dX1_colourTowards_25 rfl 0 rfl ?_
        refine J_getr (j := 7) (t := 1) (r := x0 + 2) qx0.1 (Nat.lt_trans qx0.2.1 (by decide)) (by decide) rfl (by decide) rfl rfl kf_X1_15 dX1_colourTowards_26 ?_
        refine J_iload_n dX1_colourTowards_29 rfl 2 rfl ?_
        obtain ⟨u3, h4, h⟩ := br_b h
        refine J_iald qx0.2.2.2.2.1 qx0.2.2.2.2.2 h4 dX1_colourTowards_30 ?_
        refine J_bipush 16 dX1_colourTowards_31 rfl ?_
        refine J_ishr dX1_colourTowards_33 ?_
        have h := Option.some.inj h
        subst h
        have h2 := Option.some.inj h2
        subst h2
        exact J_iret rfl rfl rfl (Kr _ rfl) dX1_colourTowards_34
def f_X1_colourTowards (x0 : Nat) (x1 : Int32) (C : aSc) : Option (Int32) :=
  (lpf (fun a : Int32 => b_X1_colourTowards_7 (x0) (x1) a C) FU ((a_gi C x0 8) - (1 : Int32))).bind fun z7 => Sum.elim (fun z7a => if ((a_gi C x0 0) : Int32) = (3 : Int32) then some (3 : Int32) else some (a_gi C x0 3)) (fun z10 => some z10) z7
set_option maxRecDepth 100000 in
set_option maxHeartbeats 4000000 in
theorem jm_X1_colourTowards {x0 : Nat} {x1 : Int32} {C : aSc} {M : aMm} (qx0 : isL x0) {res : aRes} {r : Int32} (h : f_X1_colourTowards x0 x1 C = some r) (Kr : ∀ (v : Int32), r = v → res = (some (.int v), (C, M))) : J mi_X1_colourTowards res 0 0 0 [(0, .ref (x0)), (1, .int (x1))] [] (C, M) := by
  rw [f_X1_colourTowards] at h
  refine J_aload_n dX1_colourTowards_0 rfl 0 rfl ?_
  refine J_geti (j := 8) qx0.1 qx0.2.1 (by decide) rfl (by decide) rfl kf_X1_29 dX1_colourTowards_1 ?_
  refine J_iconst 1 dX1_colourTowards_4 rfl ?_
  refine J_isub dX1_colourTowards_5 ?_
  refine J_istore_n (L' := [(2, .int (((a_gi C x0 8) - (1 : Int32)))), (0, .ref (x0)), (1, .int (x1))]) dX1_colourTowards_6 rfl (by decide) rfl ?_
  refine J_sub [1, 2, 0] rfl ?_
  obtain ⟨z7, h8, h⟩ := br_b h
  refine jl_X1_colourTowards_7 qx0 FU _ h8 ?_ ?_
  · intro e
    subst e
    have h := br_l h
    refine J_aload_n dX1_colourTowards_41 rfl 0 rfl ?_
    refine J_geti (j := 0) qx0.1 qx0.2.1 (by decide) rfl (by decide) rfl kf_X1_19 dX1_colourTowards_42 ?_
    refine J_iconst 3 dX1_colourTowards_45 rfl ?_
    refine J_icmp_ne 53 dX1_colourTowards_46 (by decide) (fun c9 => ?_) (fun c9 => ?_)
    · have h := br_n c9 h
      refine J_aload_n dX1_colourTowards_53 rfl 0 rfl ?_
      refine J_geti (j := 3) qx0.1 qx0.2.1 (by decide) rfl (by decide) rfl kf_X1_46 dX1_colourTowards_54 ?_
      have h := Option.some.inj h
      subst h
      exact J_iret rfl rfl rfl (Kr _ rfl) dX1_colourTowards_57
    · have h := br_p c9 h
      refine J_iconst 3 dX1_colourTowards_49 rfl ?_
      refine J_goto 57 dX1_colourTowards_50 (by decide) ?_
      have h := Option.some.inj h
      subst h
      exact J_iret rfl rfl rfl (Kr _ rfl) dX1_colourTowards_57
  · intro v e
    subst e
    have h := br_r h
    have h := Option.some.inj h
    subst h
    exact Kr _ rfl
theorem ct_X1_colourTowards {x0 : Nat} {x1 : Int32} {C : aSc} {M : aMm} {v : Int32} (qx0 : isL x0) (h : f_X1_colourTowards x0 x1 C = some v) : Ct mi_X1_colourTowards yX1_colourTowards [.ref (x0), .int (x1)] (C, M) (some (.int v), (C, M)) := Ct_of_J (by decide +kernel) rfl (Nat.le_of_ble_eq_true rfl) (jm_X1_colourTowards qx0 h (fun _ e => by cases e; rfl))
def mi_X7_colourIn : aMi := (cX7_colourIn, 2, RX7, (some .int), { frames := 1, cells := 0, slots := 0, locals := 26 })
def f_X7_colourIn (x0 : Nat) (x1 : Int32) (C : aSc) : Option (Int32) :=
  if (x1 : Int32) = (a_gi C x0 1) then some (a_gi C x0 3) else (f_X7_directionOf (a_gi C x0 1) x1 C).bind fun r2 => (f_X1_colourTowards x0 r2 C).bind fun r4 => some r4
set_option maxRecDepth 100000 in
set_option maxHeartbeats 4000000 in
theorem jm_X7_colourIn {x0 : Nat} {x1 : Int32} {C : aSc} {M : aMm} (qx0 : isL x0) {res : aRes} {r : Int32} (h : f_X7_colourIn x0 x1 C = some r) (Kr : ∀ (v : Int32), r = v → res = (some (.int v), (C, M))) : J mi_X7_colourIn res 0 0 0 [(0, .ref (x0)), (1, .int (x1))] [] (C, M) := by
  rw [f_X7_colourIn] at h
  refine J_iload_n dX7_colourIn_0 rfl 1 rfl ?_
  refine J_aload_n dX7_colourIn_1 rfl 0 rfl ?_
  refine J_geti (j := 1) qx0.1 qx0.2.1 (by decide) rfl (by decide) rfl kf_X7_119 dX7_colourIn_2 ?_
  refine J_icmp_ne 13 dX7_colourIn_5 (by decide) (fun c5 => ?_) (fun c5 => ?_)
  · have h := br_n c5 h
    refine J_aload_n dX7_colourIn_13 rfl 0 rfl ?_
    refine J_aload_n dX7_colourIn_14 rfl 0 rfl ?_
    refine J_geti (j := 1) qx0.1 qx0.2.1 (by decide) rfl (by decide) rfl kf_X7_119 dX7_colourIn_15 ?_
    refine J_iload_n dX7_colourIn_18 rfl 1 rfl ?_
    obtain ⟨r2, h1, h⟩ := br_b h
    refine J_callS (mj := mi_X7_directionOf) (as := [.int ((a_gi C x0 1)), .int (x1)]) (rest := [.ref (x0)]) (ct_X7_directionOf (M := M)  h1) ⟨rfl, rfl⟩ rfl cg_X7_161 hd_X7_directionOf rfl ⟨Nat.le_of_ble_eq_true rfl, Nat.le_of_ble_eq_true rfl⟩ (Nat.le_of_ble_eq_true rfl) ⟨Nat.zero_le _, Nat.zero_le _⟩ dX7_colourIn_19 ?_
    obtain ⟨r4, h3, h⟩ := br_b h
    refine J_callV (mj := mi_X1_colourTowards) (as := [.int (r2)]) (rest := []) (ct_X1_colourTowards (M := M) qx0 h3) ⟨rfl, rfl⟩ rfl qx0.1 (by decide) rfl cg_X7_322 hd_X1_colourTowards rfl ⟨Nat.le_of_ble_eq_true rfl, Nat.le_of_ble_eq_true rfl⟩ (Nat.le_of_ble_eq_true rfl) ⟨Nat.zero_le _, Nat.zero_le _⟩ dX7_colourIn_22 ?_
    have h := Option.some.inj h
    subst h
    exact J_iret rfl rfl rfl (Kr _ rfl) dX7_colourIn_25
  · have h := br_p c5 h
    refine J_aload_n dX7_colourIn_8 rfl 0 rfl ?_
    refine J_geti (j := 3) qx0.1 qx0.2.1 (by decide) rfl (by decide) rfl kf_X7_125 dX7_colourIn_9 ?_
    have h := Option.some.inj h
    subst h
    exact J_iret rfl rfl rfl (Kr _ rfl) dX7_colourIn_12
theorem ct_X7_colourIn {x0 : Nat} {x1 : Int32} {C : aSc} {M : aMm} {v : Int32} (qx0 : isL x0) (h : f_X7_colourIn x0 x1 C = some v) : Ct mi_X7_colourIn yX7_colourIn [.ref (x0), .int (x1)] (C, M) (some (.int v), (C, M)) := Ct_of_J (by decide +kernel) rfl (Nat.le_of_ble_eq_true rfl) (jm_X7_colourIn qx0 h (fun _ e => by cases e; rfl))
def mi_X7_colour : aMi := (cX7_colour, 3, RX7, (some .int), { frames := 2, cells := 0, slots := 0, locals := 47 })
def f_X7_colour (x1 : Int32) (x2 : Int32) (C : aSc) : Option (Int32 × aSc) :=
  (f_X7_isLight x1 C).bind fun r2 => if (r2 : Int32) = 0 then bd2 (f_X7_refuse (-100001 : Int32) C) fun r4 C5 => some (r4, C5) else (f_X7_isCell x2 C).bind fun r7 => if (r7 : Int32) = 0 then bd2 (f_X7_refuse (-100001 : Int32) C) fun r14 C15 => some (r14, C15) else (a_rf 24 3 10 x1).bind fun c8 => (f_X7_colourIn c8 x2 C).bind fun r12 => some (r12, C)
set_option maxRecDepth 100000 in
set_option maxHeartbeats 4000000 in
theorem jm_X7_colour {x1 : Int32} {x2 : Int32} {C : aSc} {M : aMm}  {res : aRes} {r : Int32 × aSc} (h : f_X7_colour x1 x2 C = some r) (Kr : ∀ (v : Int32) (S' : aSc), r = (v, S') → res = (some (.int v), (S', M))) : J mi_X7_colour res 0 0 0 [(0, .ref (0)), (1, .int (x1)), (2, .int (x2))] [] (C, M) := by
  rw [f_X7_colour] at h
  refine J_aload_n dX7_colour_0 rfl 0 rfl ?_
  refine J_iload_n dX7_colour_1 rfl 1 rfl ?_
  obtain ⟨r2, h1, h⟩ := br_b h
  refine J_callV (mj := mi_X7_isLight) (as := [.int (x1)]) (rest := []) (ct_X7_isLight (M := M)  h1) ⟨rfl, rfl⟩ rfl rfl (by decide) rfl cg_X7_108 hd_X7_isLight rfl ⟨Nat.le_of_ble_eq_true rfl, Nat.le_of_ble_eq_true rfl⟩ (Nat.le_of_ble_eq_true rfl) ⟨Nat.zero_le _, Nat.zero_le _⟩ dX7_colour_2 ?_
  refine J_if_eq 15 dX7_colour_5 (by decide) (fun c17 => ?_) (fun c17 => ?_)
  · have h := br_p c17 h
    refine J_aload_n dX7_colour_15 rfl 0 rfl ?_
    refine J_ldc (-100001) dX7_colour_16 kc_X7_68 ?_
    obtain ⟨r4, C5, h3, h⟩ := br_b2 h
    refine J_callV (mj := mi_X7_refuse) (as := [.int ((-100001 : Int32))]) (rest := []) (ct_X7_refuse (M := M)  h3) ⟨rfl, rfl⟩ rfl rfl (by decide) rfl cg_X7_69 hd_X7_refuse rfl ⟨Nat.le_of_ble_eq_true rfl, Nat.le_of_ble_eq_true rfl⟩ (Nat.le_of_ble_eq_true rfl) ⟨Nat.zero_le _, Nat.zero_le _⟩ dX7_colour_18 ?_
    have h := Option.some.inj h
    subst h
    exact J_iret rfl rfl rfl (Kr _ _ rfl) dX7_colour_21
  · have h := br_n c17 h
    refine J_iload_n dX7_colour_8 rfl 2 rfl ?_
    obtain ⟨r7, h6, h⟩ := br_b h
    refine J_callS (mj := mi_X7_isCell) (as := [.int (x2)]) (rest := []) (ct_X7_isCell (M := M)  h6) ⟨rfl, rfl⟩ rfl cg_X7_86 hd_X7_isCell rfl ⟨Nat.le_of_ble_eq_true rfl, Nat.le_of_ble_eq_true rfl⟩ (Nat.le_of_ble_eq_true rfl) ⟨Nat.zero_le _, Nat.zero_le _⟩ dX7_colour_9 ?_
    refine J_if_ne 22 dX7_colour_12 (by decide) (fun c16 => ?_) (fun c16 => ?_)
    · have h := br_n c16 h
      refine J_aload_n dX7_colour_22 rfl 0 rfl ?_
      refine J_getr (j := 1) (t := 11) (r := 3) rfl (by decide) (by decide) rfl (by decide) rfl rfl kf_X7_18 dX7_colour_23 ?_
      refine J_iload_n dX7_colour_26 rfl 1 rfl ?_
      obtain ⟨c8, h9, h⟩ := br_b h
      have q10 := a_rfL h9
      refine J_aaldL h9 dX7_colour_27 ?_
      refine J_iload_n dX7_colour_28 rfl 2 rfl ?_
      obtain ⟨r12, h11, h⟩ := br_b h
      refine J_callS (mj := mi_X7_colourIn) (as := [.ref (c8), .int (x2)]) (rest := []) (ct_X7_colourIn (M := M) q10 h11) ⟨rfl, rfl⟩ rfl cg_X7_164 hd_X7_colourIn rfl ⟨Nat.le_of_ble_eq_true rfl, Nat.le_of_ble_eq_true rfl⟩ (Nat.le_of_ble_eq_true rfl) ⟨Nat.zero_le _, Nat.zero_le _⟩ dX7_colour_29 ?_
      have h := Option.some.inj h
      subst h
      exact J_iret rfl rfl rfl (Kr _ _ rfl) dX7_colour_32
    · have h := br_p c16 h
      refine J_aload_n dX7_colour_15 rfl 0 rfl ?_
      refine J_ldc (-100001) dX7_colour_16 kc_X7_68 ?_
      obtain ⟨r14, C15, h13, h⟩ := br_b2 h
      refine J_callV (mj := mi_X7_refuse) (as := [.int ((-100001 : Int32))]) (rest := []) (ct_X7_refuse (M := M)  h13) ⟨rfl, rfl⟩ rfl rfl (by decide) rfl cg_X7_69 hd_X7_refuse rfl ⟨Nat.le_of_ble_eq_true rfl, Nat.le_of_ble_eq_true rfl⟩ (Nat.le_of_ble_eq_true rfl) ⟨Nat.zero_le _, Nat.zero_le _⟩ dX7_colour_18 ?_
      have h := Option.some.inj h
      subst h
      exact J_iret rfl rfl rfl (Kr _ _ rfl) dX7_colour_21
theorem ct_X7_colour {x1 : Int32} {x2 : Int32} {C : aSc} {M : aMm} {v : Int32} {S' : aSc}  (h : f_X7_colour x1 x2 C = some (v, S')) : Ct mi_X7_colour yX7_colour [.ref (0), .int (x1), .int (x2)] (C, M) (some (.int v), (S', M)) := Ct_of_J (by decide +kernel) rfl (Nat.le_of_ble_eq_true rfl) (jm_X7_colour  h (fun _ _ e => by cases e; rfl))
def mi_X7_reachOf : aMi := (cX7_reachOf, 2, RX7, (some .int), { frames := 1, cells := 0, slots := 0, locals := 21 })
def f_X7_reachOf (x1 : Nat) (C : aSc) : Option (Int32) :=
  some (a_max (0 : Int32) ((a_gi C x1 2) - (a_gi C 0 3)))
set_option maxRecDepth 100000 in
set_option maxHeartbeats 4000000 in
theorem jm_X7_reachOf {x1 : Nat} {C : aSc} {M : aMm} (qx1 : isL x1) {res : aRes} {r : Int32} (h : f_X7_reachOf x1 C = some r) (Kr : ∀ (v : Int32), r = v → res = (some (.int v), (C, M))) : J mi_X7_reachOf res 0 0 0 [(0, .ref (0)), (1, .ref (x1))] [] (C, M) := by
  rw [f_X7_reachOf] at h
  refine J_iconst 0 dX7_reachOf_0 rfl ?_
  refine J_aload_n dX7_reachOf_1 rfl 1 rfl ?_
  refine J_geti (j := 2) qx1.1 qx1.2.1 (by decide) rfl (by decide) rfl kf_X7_122 dX7_reachOf_2 ?_
  refine J_aload_n dX7_reachOf_5 rfl 0 rfl ?_
  refine J_geti (j := 3) rfl (by decide) (by decide) rfl (by decide) rfl kf_X7_171 dX7_reachOf_6 ?_
  refine J_isub dX7_reachOf_9 ?_
  refine J_mmax km_X7_188 kst_Math_max ki_Math kcd_Math_max (by decide) (Nat.le_of_ble_eq_true rfl) ⟨Nat.zero_le _, Nat.zero_le _⟩ dX7_reachOf_10 ?_
  have h := Option.some.inj h
  subst h
  exact J_iret rfl rfl rfl (Kr _ rfl) dX7_reachOf_13
theorem ct_X7_reachOf {x1 : Nat} {C : aSc} {M : aMm} {v : Int32} (qx1 : isL x1) (h : f_X7_reachOf x1 C = some v) : Ct mi_X7_reachOf yX7_reachOf [.ref (0), .ref (x1)] (C, M) (some (.int v), (C, M)) := Ct_of_J (by decide +kernel) rfl (Nat.le_of_ble_eq_true rfl) (jm_X7_reachOf qx1 h (fun _ e => by cases e; rfl))
def mi_X7_isWithin : aMi := (cX7_isWithin, 5, RX7, (some .boolean), { frames := 0, cells := 0, slots := 0, locals := 0 })
def f_X7_isWithin (x0 : Int32) (x1 : Int32) (x2 : Int32) (C : aSc) : Option (Int32) :=
  if ((x0 * x0) : Int32) < ((((x1 &&& (15 : Int32)) - (x2 &&& (15 : Int32))) * ((x1 &&& (15 : Int32)) - (x2 &&& (15 : Int32)))) + (((x1 >>> ((4 : Int32) &&& 31)) - (x2 >>> ((4 : Int32) &&& 31))) * ((x1 >>> ((4 : Int32) &&& 31)) - (x2 >>> ((4 : Int32) &&& 31))))) then some (0 : Int32) else some (1 : Int32)
set_option maxRecDepth 100000 in
set_option maxHeartbeats 4000000 in
theorem jm_X7_isWithin {x0 : Int32} {x1 : Int32} {x2 : Int32} {C : aSc} {M : aMm}  {res : aRes} {r : Int32} (h : f_X7_isWithin x0 x1 x2 C = some r) (Kr : ∀ (v : Int32), r = v → res = (some (.int v), (C, M))) : J mi_X7_isWithin res 0 0 0 [(0, .int (x0)), (1, .int (x1)), (2, .int (x2))] [] (C, M) := by
  rw [f_X7_isWithin] at h
  refine J_iload_n dX7_isWithin_0 rfl 1 rfl ?_
  refine J_bipush 15 dX7_isWithin_1 rfl ?_
  refine J_iand dX7_isWithin_3 ?_
  refine J_iload_n dX7_isWithin_4 rfl 2 rfl ?_
  refine J_bipush 15 dX7_isWithin_5 rfl ?_
  refine J_iand dX7_isWithin_7 ?_
  refine J_isub dX7_isWithin_8 ?_
  refine J_istore_n (L' := [(3, .int (((x1 &&& (15 : Int32)) - (x2 &&& (15 : Int32))))), (0, .int (x0)), (1, .int (x1)), (2, .int (x2))]) dX7_isWithin_9 rfl (by decide) rfl ?_
  refine J_iload_n dX7_isWithin_10 rfl 2 rfl ?_
  refine J_iconst 4 dX7_isWithin_11 rfl ?_
  refine J_ishr dX7_isWithin_12 ?_
  refine J_iload_n dX7_isWithin_13 rfl 3 rfl ?_
  refine J_iconst 4 dX7_isWithin_14 rfl ?_
  refine J_ishr dX7_isWithin_15 ?_
  refine J_isub dX7_isWithin_16 ?_
  refine J_istore (L' := [(4, .int (((x1 >>> ((4 : Int32) &&& 31)) - (x2 >>> ((4 : Int32) &&& 31))))), (3, .int (((x1 &&& (15 : Int32)) - (x2 &&& (15 : Int32))))), (0, .int (x0)), (1, .int (x1)), (2, .int (x2))]) dX7_isWithin_17 (by decide) rfl ?_
  refine J_iload_n dX7_isWithin_19 rfl 1 rfl ?_
  refine J_iload_n dX7_isWithin_20 rfl 1 rfl ?_
  refine J_imul dX7_isWithin_21 ?_
  refine J_iload dX7_isWithin_22 0 rfl ?_
  refine J_iload dX7_isWithin_24 0 rfl ?_
  refine J_imul dX7_isWithin_26 ?_
  refine J_iadd dX7_isWithin_27 ?_
  refine J_iload_n dX7_isWithin_28 rfl 2 rfl ?_
  refine J_iload_n dX7_isWithin_29 rfl 2 rfl ?_
  refine J_imul dX7_isWithin_30 ?_
  refine J_icmp_gt 38 dX7_isWithin_31 (by decide) (fun c1 => ?_) (fun c1 => ?_)
  · have h := br_p c1 h
    refine J_iconst 0 dX7_isWithin_38 rfl ?_
    have h := Option.some.inj h
    subst h
    exact J_zret (Or.inl rfl) rfl rfl rfl (Kr _ rfl) dX7_isWithin_39
  · have h := br_n c1 h
    refine J_iconst 1 dX7_isWithin_34 rfl ?_
    refine J_goto 39 dX7_isWithin_35 (by decide) ?_
    have h := Option.some.inj h
    subst h
    exact J_zret (Or.inr rfl) rfl rfl rfl (Kr _ rfl) dX7_isWithin_39
theorem ct_X7_isWithin {x0 : Int32} {x1 : Int32} {x2 : Int32} {C : aSc} {M : aMm} {v : Int32}  (h : f_X7_isWithin x0 x1 x2 C = some v) : Ct mi_X7_isWithin yX7_isWithin [.int (x0), .int (x1), .int (x2)] (C, M) (some (.int v), (C, M)) := Ct_of_J (by decide +kernel) rfl (Nat.le_of_ble_eq_true rfl) (jm_X7_isWithin  h (fun _ e => by cases e; rfl))
def mi_X6_tellOut : aMi := (cX6_tellOut, 5, RX6, (some .boolean), { frames := 0, cells := 0, slots := 0, locals := 0 })
def b_X6_tellOut_8 (x1 : Int32) (x2 : Int32) (x3 : Int32) (x4 : Int32) (C : aSc) : Option ((Int32) ⊕ ((Unit) ⊕ (Int32))) :=
  if (x4 : Int32) < 0 then some (.inr (.inl ())) else (a_ld C 8 x4).bind fun u1 => if (u1 : Int32) = x1 then (a_ld C 11 x4).bind fun u3 => if (x3 : Int32) < u3 then some (.inl (x4 + (-1 : Int32))) else (a_ld C 9 x4).bind fun u5 => if (x2 : Int32) < u5 then some (.inl (x4 + (-1 : Int32))) else (a_ld C 10 x4).bind fun u7 => if (u7 : Int32) < x2 then some (.inl (x4 + (-1 : Int32))) else (a_ld C 12 x4).bind fun u9 => if u9 = 0 ∨ u9 = 1 then some (.inr (.inr u9)) else none else some (.inl (x4 + (-1 : Int32)))
set_option maxRecDepth 100000 in
set_option maxHeartbeats 4000000 in
theorem jl_X6_tellOut_8 {x1 : Int32} {x2 : Int32} {x3 : Int32} {C : aSc} {M : aMm}  {res : aRes} {r : (Unit) ⊕ (Int32)} : ∀ (n : Nat) (x4 : Int32), lpf (fun a : Int32 => b_X6_tellOut_8 (x1) (x2) (x3) a C) n x4 = some r → (r = .inl () → J mi_X6_tellOut res 0 0 71 [] [] (C, M)) → (∀ (v : Int32), r = .inr v → res = (some (.int v), (C, M))) → J mi_X6_tellOut res 0 0 8 [(0, .ref (7)), (1, .int (x1)), (2, .int (x2)), (3, .int (x3)), (4, .int (x4))] [] (C, M) := by
  intro n
  induction n with
  | zero =>
    intro x4 h
    cases h
  | succ n ih =>
    intro x4 h Kx Kr
    obtain ⟨r0, h, h2⟩ := br_b h
    have h : b_X6_tellOut_8 x1 x2 x3 x4 C = some r0 := h
    rw [b_X6_tellOut_8] at h
    refine J_iload dX6_tellOut_8 4 rfl ?_
    refine J_if_lt 71 dX6_tellOut_10 (by decide) (fun c16 => ?_) (fun c16 => ?_)
    · have h := br_p c16 h
      have h := Option.some.inj h
      subst h
      have h2 := Option.some.inj h2
      subst h2
      refine J_sub [] rfl ?_
      exact Kx  rfl
    · have h := br_n c16 h
      refine J_aload_n dX6_tellOut_13 rfl 0 rfl ?_
      refine J_getr (j := 1) (t := 16) (r := 8) rfl (by decide) (by decide) rfl (by decide) rfl rfl kf_X6_9 dX6_tellOut_14 ?_
      refine J_iload dX6_tellOut_17 4 rfl ?_
      obtain ⟨u1, h2, h⟩ := br_b h
      refine J_iald rfl (by decide) h2 dX6_tellOut_19 ?_
      refine J_iload_n dX6_tellOut_20 rfl 1 rfl ?_
      refine J_icmp_ne 65 dX6_tellOut_21 (by decide) (fun c15 => ?_) (fun c15 => ?_)
      · have h := br_n c15 h
        refine J_iinc (j := 4) (v := (x4 + (-1 : Int32))) (L' := [(4, .int ((x4 + (-1 : Int32)))), (0, .ref (7)), (1, .int (x1)), (2, .int (x2)), (3, .int (x3))]) dX6_tellOut_65 rfl rfl (by decide) rfl ?_
        refine J_goto 8 dX6_tellOut_68 (by decide) ?_
        have h := Option.some.inj h
        subst h
        refine J_sub [1, 2, 3, 4, 0] rfl ?_
        exact ih _ h2 Kx Kr
      · have h := br_p c15 h
        refine J_aload_n dX6_tellOut_24 rfl 0 rfl ?_
        refine J_getr (j := 4) (t := 19) (r := 11) rfl (by decide) (by decide) rfl (by decide) rfl rfl kf_X6_19 dX6_tellOut_25 ?_
        refine J_iload dX6_tellOut_28 4 rfl ?_
        obtain ⟨u3, h4, h⟩ := br_b h
        refine J_iald rfl (by decide) h4 dX6_tellOut_30 ?_
        refine J_iload_n dX6_tellOut_31 rfl 3 rfl ?_
        refine J_icmp_gt 65 dX6_tellOut_32 (by decide) (fun c14 => ?_) (fun c14 => ?_)
        · have h := br_p c14 h
          refine J_iinc (j := 4) (v := (x4 + (-1 : Int32))) (L' := [(4, .int ((x4 + (-1 : Int32)))), (0, .ref (7)), (1, .int (x1)), (2, .int (x2)), (3, .int (x3))]) dX6_tellOut_65 rfl rfl (by decide) rfl ?_
          refine J_goto 8 dX6_tellOut_68 (by decide) ?_
          have h := Option.some.inj h
          subst h
          refine J_sub [1, 2, 3, 4, 0] rfl ?_
          exact ih _ h2 Kx Kr
        · have h := br_n c14 h
          refine J_aload_n dX6_tellOut_35 rfl 0 rfl ?_
          refine J_getr (j := 2) (t := 17) (r := 9) rfl (by decide) (by decide) rfl (by decide) rfl rfl kf_X6_13 dX6_tellOut_36 ?_
          refine J_iload dX6_tellOut_39 4 rfl ?_
          obtain ⟨u5, h6, h⟩ := br_b h
          refine J_iald rfl (by decide) h6 dX6_tellOut_41 ?_
          refine J_iload_n dX6_tellOut_42 rfl 2 rfl ?_
          refine J_icmp_gt 65 dX6_tellOut_43 (by decide) (fun c13 => ?_) (fun c13 => ?_)
          · have h := br_p c13 h
            refine J_iinc (j := 4) (v := (x4 + (-1 : Int32))) (L' := [(4, .int ((x4 + (-1 : Int32)))), (0, .ref (7)), (1, .int (x1)), (2, .int (x2)), (3, .int (x3))]) dX6_tellOut_65 rfl rfl (by decide) rfl ?_
            refine J_goto 8 dX6_tellOut_68 (by decide) ?_
            have h := Option.some.inj h
            subst h
            refine J_sub [1, 2, 3, 4, 0] rfl ?_
            exact ih _ h2 Kx Kr
          · have h := br_n c13 h
            refine J_iload_n dX6_tellOut_46 rfl 2 rfl ?_
            refine J_aload_n dX6_tellOut_47 rfl 0 rfl ?_
            refine J_getr (j := 3) (t := 18) (r := 10) rfl (by decide) (by decide) rfl (by decide) rfl rfl kf_X6_16 dX6_tellOut_48 ?_
            refine J_iload dX6_tellOut_51 4 rfl ?_
            obtain ⟨u7, h8, h⟩ := br_b h
            refine J_iald rfl (by decide) h8 dX6_tellOut_53 ?_
            refine J_icmp_gt 65 dX6_tellOut_54 (by decide) (fun c12 => ?_) (fun c12 => ?_)
            · have h := br_p c12 h
              refine J_iinc (j := 4) (v := (x4 + (-1 : Int32))) (L' := [(4, .int ((x4 + (-1 : Int32)))), (0, .ref (7)), (1, .int (x1)), (2, .int (x2)), (3, .int (x3))]) dX6_tellOut_65 rfl rfl (by decide) rfl ?_
              refine J_goto 8 dX6_tellOut_68 (by decide) ?_
              have h := Option.some.inj h
              subst h
              refine J_sub [1, 2, 3, 4, 0] rfl ?_
              exact ih _ h2 Kx Kr
            · have h := br_n c12 h
              refine J_aload_n dX6_tellOut_57 rfl 0 rfl ?_
              refine J_getr (j := 5) (t := 20) (r := 12) rfl (by decide) (by decide) rfl (by decide) rfl rfl kf_X6_22 dX6_tellOut_58 ?_
              refine J_iload dX6_tellOut_61 4 rfl ?_
              obtain ⟨u9, h10, h⟩ := br_b h
              refine J_zald rfl (by decide) h10 dX6_tellOut_63 ?_
              obtain ⟨n11, h⟩ := br_g h
              have h := Option.some.inj h
              subst h
              have h2 := Option.some.inj h2
              subst h2
              exact J_zret n11 rfl rfl rfl (Kr _ rfl) dX6_tellOut_64
def f_X6_tellOut (x1 : Int32) (x2 : Int32) (x3 : Int32) (C : aSc) : Option (Int32) :=
  (lpf (fun a : Int32 => b_X6_tellOut_8 (x1) (x2) (x3) a C) FU ((a_gi C 7 0) - (1 : Int32))).bind fun z17 => Sum.elim (fun z17a => some (0 : Int32)) (fun z19 => some z19) z17
set_option maxRecDepth 100000 in
set_option maxHeartbeats 4000000 in
theorem jm_X6_tellOut {x1 : Int32} {x2 : Int32} {x3 : Int32} {C : aSc} {M : aMm}  {res : aRes} {r : Int32} (h : f_X6_tellOut x1 x2 x3 C = some r) (Kr : ∀ (v : Int32), r = v → res = (some (.int v), (C, M))) : J mi_X6_tellOut res 0 0 0 [(0, .ref (7)), (1, .int (x1)), (2, .int (x2)), (3, .int (x3))] [] (C, M) := by
  rw [f_X6_tellOut] at h
  refine J_aload_n dX6_tellOut_0 rfl 0 rfl ?_
  refine J_geti (j := 0) rfl (by decide) (by decide) rfl (by decide) rfl kf_X6_26 dX6_tellOut_1 ?_
  refine J_iconst 1 dX6_tellOut_4 rfl ?_
  refine J_isub dX6_tellOut_5 ?_
  refine J_istore (L' := [(4, .int (((a_gi C 7 0) - (1 : Int32)))), (0, .ref (7)), (1, .int (x1)), (2, .int (x2)), (3, .int (x3))]) dX6_tellOut_6 (by decide) rfl ?_
  refine J_sub [1, 2, 3, 4, 0] rfl ?_
  obtain ⟨z17, h18, h⟩ := br_b h
  refine jl_X6_tellOut_8  FU _ h18 ?_ ?_
  · intro e
    subst e
    have h := br_l h
    refine J_iconst 0 dX6_tellOut_71 rfl ?_
    have h := Option.some.inj h
    subst h
    exact J_zret (Or.inl rfl) rfl rfl rfl (Kr _ rfl) dX6_tellOut_72
  · intro v e
    subst e
    have h := br_r h
    have h := Option.some.inj h
    subst h
    exact Kr _ rfl
theorem ct_X6_tellOut {x1 : Int32} {x2 : Int32} {x3 : Int32} {C : aSc} {M : aMm} {v : Int32}  (h : f_X6_tellOut x1 x2 x3 C = some v) : Ct mi_X6_tellOut yX6_tellOut [.ref (7), .int (x1), .int (x2), .int (x3)] (C, M) (some (.int v), (C, M)) := Ct_of_J (by decide +kernel) rfl (Nat.le_of_ble_eq_true rfl) (jm_X6_tellOut  h (fun _ e => by cases e; rfl))
def mi_X7_seenFrom : aMi := (cX7_seenFrom, 5, RX7, (some .int), { frames := 2, cells := 0, slots := 0, locals := 47 })
def b_X7_seenFrom_4 (x1 : Int32) (x2 : Int32) (x3 : Int32) (C : aSc) : Option ((Int32 × Int32) ⊕ (Int32)) :=
  if ((a_gi C 0 2) : Int32) ≤ x3 then some (.inr x2) else (a_rf 24 3 10 x3).bind fun c1 => (f_X7_reachOf c1 C).bind fun r5 => (f_X7_isWithin r5 x1 (a_gi C c1 1) C).bind fun r7 => if (r7 : Int32) = 0 then some (.inl (x2, (x3 + (1 : Int32)))) else (f_X7_colourIn c1 x1 C).bind fun r9 => if (r9 : Int32) = (3 : Int32) then some (.inl (x2, (x3 + (1 : Int32)))) else (f_X6_tellOut x3 (a_gi C 0 4) (999 : Int32) C).bind fun r11 => if (r11 : Int32) = 0 then some (.inl ((x2 ||| ((1 : Int32) <<< (x3 &&& 31))), (x3 + (1 : Int32)))) else some (.inl (x2, (x3 + (1 : Int32))))
set_option maxRecDepth 100000 in
set_option maxHeartbeats 4000000 in
theorem jl_X7_seenFrom_4 {x1 : Int32} {C : aSc} {M : aMm}  {res : aRes} {r : Int32} : ∀ (n : Nat) (x2 : Int32) (x3 : Int32), lpf (fun a : Int32 × Int32 => b_X7_seenFrom_4 (x1) a.1 a.2 C) n (x2, x3) = some r → (∀ (z2 : Int32), r = z2 → J mi_X7_seenFrom res 0 0 78 [(2, .int (z2))] [] (C, M)) → J mi_X7_seenFrom res 0 0 4 [(0, .ref (0)), (1, .int (x1)), (2, .int (x2)), (3, .int (x3))] [] (C, M) := by
  intro n
  induction n with
  | zero =>
    intro x2 x3 h
    cases h
  | succ n ih =>
    intro x2 x3 h Kx
    obtain ⟨r0, h, h2⟩ := br_b h
    have h : b_X7_seenFrom_4 x1 x2 x3 C = some r0 := h
    rw [b_X7_seenFrom_4] at h
    refine J_iload_n dX7_seenFrom_4 rfl 3 rfl ?_
    refine J_aload_n dX7_seenFrom_5 rfl 0 rfl ?_
    refine J_geti (j := 2) rfl (by decide) (by decide) rfl (by decide) rfl kf_X7_89 dX7_seenFrom_6 ?_
    refine J_icmp_ge 78 dX7_seenFrom_9 (by decide) (fun c15 => ?_) (fun c15 => ?_)
    · have h := br_p c15 h
      have h := Option.some.inj h
      subst h
      have h2 := Option.some.inj h2
      subst h2
      refine J_sub [2] rfl ?_
      exact Kx _ rfl
    · have h := br_n c15 h
      refine J_aload_n dX7_seenFrom_12 rfl 0 rfl ?_
      refine J_getr (j := 1) (t := 11) (r := 3) rfl (by decide) (by decide) rfl (by decide) rfl rfl kf_X7_18 dX7_seenFrom_13 ?_
      refine J_iload_n dX7_seenFrom_16 rfl 3 rfl ?_
      obtain ⟨c1, h2, h⟩ := br_b h
      have q3 := a_rfL h2
      refine J_aaldL h2 dX7_seenFrom_17 ?_
      refine J_astore (L' := [(4, .ref (c1)), (0, .ref (0)), (1, .int (x1)), (2, .int (x2)), (3, .int (x3))]) dX7_seenFrom_18 (by decide) rfl ?_
      refine J_aload_n dX7_seenFrom_20 rfl 1 rfl ?_
      refine J_aload dX7_seenFrom_21 0 rfl ?_
      obtain ⟨r5, h4, h⟩ := br_b h
      refine J_callV (mj := mi_X7_reachOf) (as := [.ref (c1)]) (rest := []) (ct_X7_reachOf (M := M) q3 h4) ⟨rfl, rfl⟩ rfl rfl (by decide) rfl cg_X7_325 hd_X7_reachOf rfl ⟨Nat.le_of_ble_eq_true rfl, Nat.le_of_ble_eq_true rfl⟩ (Nat.le_of_ble_eq_true rfl) ⟨Nat.zero_le _, Nat.zero_le _⟩ dX7_seenFrom_23 ?_
      refine J_iload_n dX7_seenFrom_26 rfl 2 rfl ?_
      refine J_aload dX7_seenFrom_27 0 rfl ?_
      refine J_geti (j := 1) q3.1 q3.2.1 (by decide) rfl (by decide) rfl kf_X7_119 dX7_seenFrom_29 ?_
      obtain ⟨r7, h6, h⟩ := br_b h
      refine J_callS (mj := mi_X7_isWithin) (as := [.int (r5), .int (x1), .int ((a_gi C c1 1))]) (rest := []) (ct_X7_isWithin (M := M)  h6) ⟨rfl, rfl⟩ rfl cg_X7_329 hd_X7_isWithin rfl ⟨Nat.le_of_ble_eq_true rfl, Nat.le_of_ble_eq_true rfl⟩ (Nat.le_of_ble_eq_true rfl) ⟨Nat.zero_le _, Nat.zero_le _⟩ dX7_seenFrom_32 ?_
      refine J_if_eq 72 dX7_seenFrom_35 (by decide) (fun c14 => ?_) (fun c14 => ?_)
      · have h := br_p c14 h
        refine J_iinc (j := 4) (v := (x3 + (1 : Int32))) (L' := [(3, .int ((x3 + (1 : Int32)))), (4, .ref (c1)), (0, .ref (0)), (1, .int (x1)), (2, .int (x2))]) dX7_seenFrom_72 rfl rfl (by decide) rfl ?_
        refine J_goto 4 dX7_seenFrom_75 (by decide) ?_
        have h := Option.some.inj h
        subst h
        refine J_sub [2, 3, 4, 0] rfl ?_
        exact ih _ _ h2 Kx
      · have h := br_n c14 h
        refine J_aload dX7_seenFrom_38 0 rfl ?_
        refine J_iload_n dX7_seenFrom_40 rfl 2 rfl ?_
        obtain ⟨r9, h8, h⟩ := br_b h
        refine J_callS (mj := mi_X7_colourIn) (as := [.ref (c1), .int (x1)]) (rest := []) (ct_X7_colourIn (M := M) q3 h8) ⟨rfl, rfl⟩ rfl cg_X7_164 hd_X7_colourIn rfl ⟨Nat.le_of_ble_eq_true rfl, Nat.le_of_ble_eq_true rfl⟩ (Nat.le_of_ble_eq_true rfl) ⟨Nat.zero_le _, Nat.zero_le _⟩ dX7_seenFrom_41 ?_
        refine J_iconst 3 dX7_seenFrom_44 rfl ?_
        refine J_icmp_eq 72 dX7_seenFrom_45 (by decide) (fun c13 => ?_) (fun c13 => ?_)
        · have h := br_p c13 h
          refine J_iinc (j := 4) (v := (x3 + (1 : Int32))) (L' := [(3, .int ((x3 + (1 : Int32)))), (4, .ref (c1)), (0, .ref (0)), (1, .int (x1)), (2, .int (x2))]) dX7_seenFrom_72 rfl rfl (by decide) rfl ?_
          refine J_goto 4 dX7_seenFrom_75 (by decide) ?_
          have h := Option.some.inj h
          subst h
          refine J_sub [2, 3, 4, 0] rfl ?_
          exact ih _ _ h2 Kx
        · have h := br_n c13 h
          refine J_aload_n dX7_seenFrom_48 rfl 1 rfl ?_
          refine J_getr (j := 10) (t := 15) (r := 7) rfl (by decide) (by decide) rfl (by decide) rfl rfl kf_X7_35 dX7_seenFrom_49 ?_
          refine J_iload_n dX7_seenFrom_52 rfl 4 rfl ?_
          refine J_aload_n dX7_seenFrom_53 rfl 1 rfl ?_
          refine J_geti (j := 4) rfl (by decide) (by decide) rfl (by decide) rfl kf_X7_177 dX7_seenFrom_54 ?_
          refine J_sipush 999 dX7_seenFrom_57 rfl ?_
          obtain ⟨r11, h10, h⟩ := br_b h
          refine J_callV (mj := mi_X6_tellOut) (as := [.int (x3), .int ((a_gi C 0 4)), .int ((999 : Int32))]) (rest := []) (ct_X6_tellOut (M := M)  h10) ⟨rfl, rfl⟩ rfl rfl (by decide) rfl cg_X7_255 hd_X6_tellOut rfl ⟨Nat.le_of_ble_eq_true rfl, Nat.le_of_ble_eq_true rfl⟩ (Nat.le_of_ble_eq_true rfl) ⟨Nat.zero_le _, Nat.zero_le _⟩ dX7_seenFrom_60 ?_
          refine J_if_ne 72 dX7_seenFrom_63 (by decide) (fun c12 => ?_) (fun c12 => ?_)
          · have h := br_n c12 h
            refine J_iinc (j := 4) (v := (x3 + (1 : Int32))) (L' := [(3, .int ((x3 + (1 : Int32)))), (4, .ref (c1)), (0, .ref (0)), (1, .int (x1)), (2, .int (x2))]) dX7_seenFrom_72 rfl rfl (by decide) rfl ?_
            refine J_goto 4 dX7_seenFrom_75 (by decide) ?_
            have h := Option.some.inj h
            subst h
            refine J_sub [2, 3, 4, 0] rfl ?_
            exact ih _ _ h2 Kx
          · have h := br_p c12 h
            refine J_iload_n dX7_seenFrom_66 rfl 3 rfl ?_
            refine J_iconst 1 dX7_seenFrom_67 rfl ?_
            refine J_iload_n dX7_seenFrom_68 rfl 4 rfl ?_
            refine J_ishl dX7_seenFrom_69 ?_
            refine J_ior dX7_seenFrom_70 ?_
            refine J_istore_n (L' := [(2, .int ((x2 ||| ((1 : Int32) <<< (x3 &&& 31))))), (4, .ref (c1)), (0, .ref (0)), (1, .int (x1)), (3, .int (x3))]) dX7_seenFrom_71 rfl (by decide) rfl ?_
            refine J_iinc (j := 4) (v := (x3 + (1 : Int32))) (L' := [(3, .int ((x3 + (1 : Int32)))), (2, .int ((x2 ||| ((1 : Int32) <<< (x3 &&& 31))))), (4, .ref (c1)), (0, .ref (0)), (1, .int (x1))]) dX7_seenFrom_72 rfl rfl (by decide) rfl ?_
            refine J_goto 4 dX7_seenFrom_75 (by decide) ?_
            have h := Option.some.inj h
            subst h
            refine J_sub [3, 4, 1, 0] rfl ?_
            exact ih _ _ h2 Kx
def f_X7_seenFrom (x1 : Int32) (C : aSc) : Option (Int32) :=
  (lpf (fun a : Int32 × Int32 => b_X7_seenFrom_4 (x1) a.1 a.2 C) FU ((0 : Int32), (0 : Int32))).bind fun z16 => some z16
set_option maxRecDepth 100000 in
set_option maxHeartbeats 4000000 in
theorem jm_X7_seenFrom {x1 : Int32} {C : aSc} {M : aMm}  {res : aRes} {r : Int32} (h : f_X7_seenFrom x1 C = some r) (Kr : ∀ (v : Int32), r = v → res = (some (.int v), (C, M))) : J mi_X7_seenFrom res 0 0 0 [(0, .ref (0)), (1, .int (x1))] [] (C, M) := by
  rw [f_X7_seenFrom] at h
  refine J_iconst 0 dX7_seenFrom_0 rfl ?_
  refine J_istore_n (L' := [(2, .int ((0 : Int32))), (0, .ref (0)), (1, .int (x1))]) dX7_seenFrom_1 rfl (by decide) rfl ?_
  refine J_iconst 0 dX7_seenFrom_2 rfl ?_
  refine J_istore_n (L' := [(3, .int ((0 : Int32))), (2, .int ((0 : Int32))), (0, .ref (0)), (1, .int (x1))]) dX7_seenFrom_3 rfl (by decide) rfl ?_
  refine J_sub [2, 3, 1, 0] rfl ?_
  obtain ⟨z16, h17, h⟩ := br_b h
  refine jl_X7_seenFrom_4  FU _ _ h17 ?_
  intro zz e
  subst e
  refine J_iload_n dX7_seenFrom_78 rfl 0 rfl ?_
  have h := Option.some.inj h
  subst h
  exact J_iret rfl rfl rfl (Kr _ rfl) dX7_seenFrom_79
theorem ct_X7_seenFrom {x1 : Int32} {C : aSc} {M : aMm} {v : Int32}  (h : f_X7_seenFrom x1 C = some v) : Ct mi_X7_seenFrom yX7_seenFrom [.ref (0), .int (x1)] (C, M) (some (.int v), (C, M)) := Ct_of_J (by decide +kernel) rfl (Nat.le_of_ble_eq_true rfl) (jm_X7_seenFrom  h (fun _ e => by cases e; rfl))
def mi_X7_seen : aMi := (cX7_seen, 2, RX7, (some .int), { frames := 3, cells := 0, slots := 0, locals := 71 })
def f_X7_seen (x1 : Int32) (C : aSc) : Option (Int32 × aSc) :=
  (f_X7_isCell x1 C).bind fun r2 => if (r2 : Int32) = 0 then bd2 (f_X7_refuse (-100001 : Int32) C) fun r4 C5 => some (r4, C5) else (f_X7_seenFrom x1 C).bind fun r7 => some (r7, C)
set_option maxRecDepth 100000 in
set_option maxHeartbeats 4000000 in
theorem jm_X7_seen {x1 : Int32} {C : aSc} {M : aMm}  {res : aRes} {r : Int32 × aSc} (h : f_X7_seen x1 C = some r) (Kr : ∀ (v : Int32) (S' : aSc), r = (v, S') → res = (some (.int v), (S', M))) : J mi_X7_seen res 0 0 0 [(0, .ref (0)), (1, .int (x1))] [] (C, M) := by
  rw [f_X7_seen] at h
  refine J_iload_n dX7_seen_0 rfl 1 rfl ?_
  obtain ⟨r2, h1, h⟩ := br_b h
  refine J_callS (mj := mi_X7_isCell) (as := [.int (x1)]) (rest := []) (ct_X7_isCell (M := M)  h1) ⟨rfl, rfl⟩ rfl cg_X7_86 hd_X7_isCell rfl ⟨Nat.le_of_ble_eq_true rfl, Nat.le_of_ble_eq_true rfl⟩ (Nat.le_of_ble_eq_true rfl) ⟨Nat.zero_le _, Nat.zero_le _⟩ dX7_seen_1 ?_
  refine J_if_eq 15 dX7_seen_4 (by decide) (fun c8 => ?_) (fun c8 => ?_)
  · have h := br_p c8 h
    refine J_aload_n dX7_seen_15 rfl 0 rfl ?_
    refine J_ldc (-100001) dX7_seen_16 kc_X7_68 ?_
    obtain ⟨r4, C5, h3, h⟩ := br_b2 h
    refine J_callV (mj := mi_X7_refuse) (as := [.int ((-100001 : Int32))]) (rest := []) (ct_X7_refuse (M := M)  h3) ⟨rfl, rfl⟩ rfl rfl (by decide) rfl cg_X7_69 hd_X7_refuse rfl ⟨Nat.le_of_ble_eq_true rfl, Nat.le_of_ble_eq_true rfl⟩ (Nat.le_of_ble_eq_true rfl) ⟨Nat.zero_le _, Nat.zero_le _⟩ dX7_seen_18 ?_
    have h := Option.some.inj h
    subst h
    exact J_iret rfl rfl rfl (Kr _ _ rfl) dX7_seen_21
  · have h := br_n c8 h
    refine J_aload_n dX7_seen_7 rfl 0 rfl ?_
    refine J_iload_n dX7_seen_8 rfl 1 rfl ?_
    obtain ⟨r7, h6, h⟩ := br_b h
    refine J_callV (mj := mi_X7_seenFrom) (as := [.int (x1)]) (rest := []) (ct_X7_seenFrom (M := M)  h6) ⟨rfl, rfl⟩ rfl rfl (by decide) rfl cg_X7_168 hd_X7_seenFrom rfl ⟨Nat.le_of_ble_eq_true rfl, Nat.le_of_ble_eq_true rfl⟩ (Nat.le_of_ble_eq_true rfl) ⟨Nat.zero_le _, Nat.zero_le _⟩ dX7_seen_9 ?_
    refine J_goto 21 dX7_seen_12 (by decide) ?_
    have h := Option.some.inj h
    subst h
    exact J_iret rfl rfl rfl (Kr _ _ rfl) dX7_seen_21
theorem ct_X7_seen {x1 : Int32} {C : aSc} {M : aMm} {v : Int32} {S' : aSc}  (h : f_X7_seen x1 C = some (v, S')) : Ct mi_X7_seen yX7_seen [.ref (0), .int (x1)] (C, M) (some (.int v), (S', M)) := Ct_of_J (by decide +kernel) rfl (Nat.le_of_ble_eq_true rfl) (jm_X7_seen  h (fun _ _ e => by cases e; rfl))
def mi_X7_haze : aMi := (cX7_haze, 3, RX7, (some .int), { frames := 3, cells := 0, slots := 0, locals := 66 })
def f_X7_haze (x1 : Int32) (C : aSc) : Option (Int32 × aSc) :=
  if (x1 : Int32) < 0 then bd2 (f_X7_refuse (-100001 : Int32) C) fun r2 C3 => some (r2, C3) else if (x1 : Int32) ≤ (15 : Int32) then bd2 (f_X7_remember (3 : Int32) (0 : Int32) (a_gi C 0 3) C) fun r5 C6 => if 62 ≤ r5 ∧ r5 < 94 ∧ r5 % 2 = 0 then (some (a_pi C6 0 3 x1)).bind fun C9 => some ((a_gi C 0 3), C9) else none else bd2 (f_X7_refuse (-100001 : Int32) C) fun r12 C13 => some (r12, C13)
set_option maxRecDepth 100000 in
set_option maxHeartbeats 4000000 in
theorem jm_X7_haze {x1 : Int32} {C : aSc} {M : aMm}  {res : aRes} {r : Int32 × aSc} (h : f_X7_haze x1 C = some r) (Kr : ∀ (v : Int32) (S' : aSc), r = (v, S') → res = (some (.int v), (S', M))) : J mi_X7_haze res 0 0 0 [(0, .ref (0)), (1, .int (x1))] [] (C, M) := by
  rw [f_X7_haze] at h
  refine J_iload_n dX7_haze_0 rfl 1 rfl ?_
  refine J_if_lt 10 dX7_haze_1 (by decide) (fun c15 => ?_) (fun c15 => ?_)
  · have h := br_p c15 h
    refine J_aload_n dX7_haze_10 rfl 0 rfl ?_
    refine J_ldc (-100001) dX7_haze_11 kc_X7_68 ?_
    obtain ⟨r2, C3, h1, h⟩ := br_b2 h
    refine J_callV (mj := mi_X7_refuse) (as := [.int ((-100001 : Int32))]) (rest := []) (ct_X7_refuse (M := M)  h1) ⟨rfl, rfl⟩ rfl rfl (by decide) rfl cg_X7_69 hd_X7_refuse rfl ⟨Nat.le_of_ble_eq_true rfl, Nat.le_of_ble_eq_true rfl⟩ (Nat.le_of_ble_eq_true rfl) ⟨Nat.zero_le _, Nat.zero_le _⟩ dX7_haze_13 ?_
    have h := Option.some.inj h
    subst h
    exact J_iret rfl rfl rfl (Kr _ _ rfl) dX7_haze_16
  · have h := br_n c15 h
    refine J_iload_n dX7_haze_4 rfl 1 rfl ?_
    refine J_bipush 15 dX7_haze_5 rfl ?_
    refine J_icmp_le 17 dX7_haze_7 (by decide) (fun c14 => ?_) (fun c14 => ?_)
    · have h := br_p c14 h
      refine J_aload_n dX7_haze_17 rfl 0 rfl ?_
      refine J_geti (j := 3) rfl (by decide) (by decide) rfl (by decide) rfl kf_X7_171 dX7_haze_18 ?_
      refine J_istore_n (L' := [(2, .int ((a_gi C 0 3))), (0, .ref (0)), (1, .int (x1))]) dX7_haze_21 rfl (by decide) rfl ?_
      refine J_aload_n dX7_haze_22 rfl 1 rfl ?_
      refine J_iconst 3 dX7_haze_23 rfl ?_
      refine J_iconst 0 dX7_haze_24 rfl ?_
      refine J_iload_n dX7_haze_25 rfl 0 rfl ?_
      obtain ⟨r5, C6, h4, h⟩ := br_b2 h
      obtain ⟨h8, h⟩ := br_g h
      have q7 := a_ckP_is h8
      refine J_callV (mj := mi_X7_remember) (as := [.int ((3 : Int32)), .int ((0 : Int32)), .int ((a_gi C 0 3))]) (rest := []) (ct_X7_remember (M := M)  h4) ⟨rfl, rfl⟩ rfl rfl (by decide) rfl cg_X7_96 hd_X7_remember rfl ⟨Nat.le_of_ble_eq_true rfl, Nat.le_of_ble_eq_true rfl⟩ (Nat.le_of_ble_eq_true rfl) ⟨Nat.zero_le _, Nat.zero_le _⟩ dX7_haze_26 ?_
      refine J_pop dX7_haze_29 rfl ?_
      refine J_aload_n dX7_haze_30 rfl 1 rfl ?_
      refine J_iload_n dX7_haze_31 rfl 2 rfl ?_
      obtain ⟨C9, e10, h⟩ := br_s h
      refine J_puti (j := 3) rfl (by decide) (by decide) rfl (by decide) rfl rfl rfl kf_X7_171 e10 dX7_haze_32 ?_
      refine J_iload_n dX7_haze_35 rfl 0 rfl ?_
      have h := Option.some.inj h
      subst h
      exact J_iret rfl rfl rfl (Kr _ _ rfl) dX7_haze_36
    · have h := br_n c14 h
      refine J_aload_n dX7_haze_10 rfl 0 rfl ?_
      refine J_ldc (-100001) dX7_haze_11 kc_X7_68 ?_
      obtain ⟨r12, C13, h11, h⟩ := br_b2 h
      refine J_callV (mj := mi_X7_refuse) (as := [.int ((-100001 : Int32))]) (rest := []) (ct_X7_refuse (M := M)  h11) ⟨rfl, rfl⟩ rfl rfl (by decide) rfl cg_X7_69 hd_X7_refuse rfl ⟨Nat.le_of_ble_eq_true rfl, Nat.le_of_ble_eq_true rfl⟩ (Nat.le_of_ble_eq_true rfl) ⟨Nat.zero_le _, Nat.zero_le _⟩ dX7_haze_13 ?_
      have h := Option.some.inj h
      subst h
      exact J_iret rfl rfl rfl (Kr _ _ rfl) dX7_haze_16
theorem ct_X7_haze {x1 : Int32} {C : aSc} {M : aMm} {v : Int32} {S' : aSc}  (h : f_X7_haze x1 C = some (v, S')) : Ct mi_X7_haze yX7_haze [.ref (0), .int (x1)] (C, M) (some (.int v), (S', M)) := Ct_of_J (by decide +kernel) rfl (Nat.le_of_ble_eq_true rfl) (jm_X7_haze  h (fun _ _ e => by cases e; rfl))
def mi_X7_isDay : aMi := (cX7_isDay, 1, RX7, (some .boolean), { frames := 0, cells := 0, slots := 0, locals := 0 })
def f_X7_isDay (x0 : Int32) (C : aSc) : Option (Int32) :=
  if (x0 : Int32) < 0 then some (0 : Int32) else if ((20 : Int32) : Int32) ≤ x0 then some (0 : Int32) else some (1 : Int32)
set_option maxRecDepth 100000 in
set_option maxHeartbeats 4000000 in
theorem jm_X7_isDay {x0 : Int32} {C : aSc} {M : aMm}  {res : aRes} {r : Int32} (h : f_X7_isDay x0 C = some r) (Kr : ∀ (v : Int32), r = v → res = (some (.int v), (C, M))) : J mi_X7_isDay res 0 0 0 [(0, .int (x0))] [] (C, M) := by
  rw [f_X7_isDay] at h
  refine J_iload_n dX7_isDay_0 rfl 0 rfl ?_
  refine J_if_lt 14 dX7_isDay_1 (by decide) (fun c2 => ?_) (fun c2 => ?_)
  · have h := br_p c2 h
    refine J_iconst 0 dX7_isDay_14 rfl ?_
    have h := Option.some.inj h
    subst h
    exact J_zret (Or.inl rfl) rfl rfl rfl (Kr _ rfl) dX7_isDay_15
  · have h := br_n c2 h
    refine J_iload_n dX7_isDay_4 rfl 0 rfl ?_
    refine J_bipush 20 dX7_isDay_5 rfl ?_
    refine J_icmp_ge 14 dX7_isDay_7 (by decide) (fun c1 => ?_) (fun c1 => ?_)
    · have h := br_p c1 h
      refine J_iconst 0 dX7_isDay_14 rfl ?_
      have h := Option.some.inj h
      subst h
      exact J_zret (Or.inl rfl) rfl rfl rfl (Kr _ rfl) dX7_isDay_15
    · have h := br_n c1 h
      refine J_iconst 1 dX7_isDay_10 rfl ?_
      refine J_goto 15 dX7_isDay_11 (by decide) ?_
      have h := Option.some.inj h
      subst h
      exact J_zret (Or.inr rfl) rfl rfl rfl (Kr _ rfl) dX7_isDay_15
theorem ct_X7_isDay {x0 : Int32} {C : aSc} {M : aMm} {v : Int32}  (h : f_X7_isDay x0 C = some v) : Ct mi_X7_isDay yX7_isDay [.int (x0)] (C, M) (some (.int v), (C, M)) := Ct_of_J (by decide +kernel) rfl (Nat.le_of_ble_eq_true rfl) (jm_X7_isDay  h (fun _ e => by cases e; rfl))
def mi_X7_day : aMi := (cX7_day, 3, RX7, (some .int), { frames := 3, cells := 0, slots := 0, locals := 66 })
def f_X7_day (x1 : Int32) (C : aSc) : Option (Int32 × aSc) :=
  (f_X7_isDay x1 C).bind fun r2 => if (r2 : Int32) = 0 then bd2 (f_X7_refuse (-100001 : Int32) C) fun r11 C12 => some (r11, C12) else bd2 (f_X7_remember (4 : Int32) (0 : Int32) (a_gi C 0 4) C) fun r4 C5 => if 62 ≤ r4 ∧ r4 < 94 ∧ r4 % 2 = 0 then (some (a_pi C5 0 4 x1)).bind fun C8 => some ((a_gi C 0 4), C8) else none
set_option maxRecDepth 100000 in
set_option maxHeartbeats 4000000 in
theorem jm_X7_day {x1 : Int32} {C : aSc} {M : aMm}  {res : aRes} {r : Int32 × aSc} (h : f_X7_day x1 C = some r) (Kr : ∀ (v : Int32) (S' : aSc), r = (v, S') → res = (some (.int v), (S', M))) : J mi_X7_day res 0 0 0 [(0, .ref (0)), (1, .int (x1))] [] (C, M) := by
  rw [f_X7_day] at h
  refine J_iload_n dX7_day_0 rfl 1 rfl ?_
  obtain ⟨r2, h1, h⟩ := br_b h
  refine J_callS (mj := mi_X7_isDay) (as := [.int (x1)]) (rest := []) (ct_X7_isDay (M := M)  h1) ⟨rfl, rfl⟩ rfl cg_X7_174 hd_X7_isDay rfl ⟨Nat.le_of_ble_eq_true rfl, Nat.le_of_ble_eq_true rfl⟩ (Nat.le_of_ble_eq_true rfl) ⟨Nat.zero_le _, Nat.zero_le _⟩ dX7_day_1 ?_
  refine J_if_ne 14 dX7_day_4 (by decide) (fun c13 => ?_) (fun c13 => ?_)
  · have h := br_n c13 h
    refine J_aload_n dX7_day_14 rfl 0 rfl ?_
    refine J_geti (j := 4) rfl (by decide) (by decide) rfl (by decide) rfl kf_X7_177 dX7_day_15 ?_
    refine J_istore_n (L' := [(2, .int ((a_gi C 0 4))), (0, .ref (0)), (1, .int (x1))]) dX7_day_18 rfl (by decide) rfl ?_
    refine J_aload_n dX7_day_19 rfl 1 rfl ?_
    refine J_iconst 4 dX7_day_20 rfl ?_
    refine J_iconst 0 dX7_day_21 rfl ?_
    refine J_iload_n dX7_day_22 rfl 0 rfl ?_
    obtain ⟨r4, C5, h3, h⟩ := br_b2 h
    obtain ⟨h7, h⟩ := br_g h
    have q6 := a_ckP_is h7
    refine J_callV (mj := mi_X7_remember) (as := [.int ((4 : Int32)), .int ((0 : Int32)), .int ((a_gi C 0 4))]) (rest := []) (ct_X7_remember (M := M)  h3) ⟨rfl, rfl⟩ rfl rfl (by decide) rfl cg_X7_96 hd_X7_remember rfl ⟨Nat.le_of_ble_eq_true rfl, Nat.le_of_ble_eq_true rfl⟩ (Nat.le_of_ble_eq_true rfl) ⟨Nat.zero_le _, Nat.zero_le _⟩ dX7_day_23 ?_
    refine J_pop dX7_day_26 rfl ?_
    refine J_aload_n dX7_day_27 rfl 1 rfl ?_
    refine J_iload_n dX7_day_28 rfl 2 rfl ?_
    obtain ⟨C8, e9, h⟩ := br_s h
    refine J_puti (j := 4) rfl (by decide) (by decide) rfl (by decide) rfl rfl rfl kf_X7_177 e9 dX7_day_29 ?_
    refine J_iload_n dX7_day_32 rfl 0 rfl ?_
    have h := Option.some.inj h
    subst h
    exact J_iret rfl rfl rfl (Kr _ _ rfl) dX7_day_33
  · have h := br_p c13 h
    refine J_aload_n dX7_day_7 rfl 0 rfl ?_
    refine J_ldc (-100001) dX7_day_8 kc_X7_68 ?_
    obtain ⟨r11, C12, h10, h⟩ := br_b2 h
    refine J_callV (mj := mi_X7_refuse) (as := [.int ((-100001 : Int32))]) (rest := []) (ct_X7_refuse (M := M)  h10) ⟨rfl, rfl⟩ rfl rfl (by decide) rfl cg_X7_69 hd_X7_refuse rfl ⟨Nat.le_of_ble_eq_true rfl, Nat.le_of_ble_eq_true rfl⟩ (Nat.le_of_ble_eq_true rfl) ⟨Nat.zero_le _, Nat.zero_le _⟩ dX7_day_10 ?_
    have h := Option.some.inj h
    subst h
    exact J_iret rfl rfl rfl (Kr _ _ rfl) dX7_day_13
theorem ct_X7_day {x1 : Int32} {C : aSc} {M : aMm} {v : Int32} {S' : aSc}  (h : f_X7_day x1 C = some (v, S')) : Ct mi_X7_day yX7_day [.ref (0), .int (x1)] (C, M) (some (.int v), (S', M)) := Ct_of_J (by decide +kernel) rfl (Nat.le_of_ble_eq_true rfl) (jm_X7_day  h (fun _ _ e => by cases e; rfl))
def mi_X7_mostAlike : aMi := (cX7_mostAlike, 7, RX7, (some .int), { frames := 1, cells := 0, slots := 0, locals := 21 })
def b_X7_mostAlike_15 (x0 : Nat) (x1 : Nat) (x3 : Int32) (x2 : Int32) (x4 : Int32) (C : aSc) : Option ((Int32 × Int32) ⊕ ((Int32) ⊕ (Int32))) :=
  if ((a_gi C x1 4) : Int32) ≤ x4 then some (.inr (.inl x2)) else (a_ldl C (x0 + 1) x3).bind fun u1 => (a_ldl C (x1 + 1) x4).bind fun u3 => if ((lg_cmp (u1 ^^^ u3) (0 : Int64)) : Int32) = 0 then some (.inr (.inr (-1 : Int32))) else (f_J13_bitCount_95d88 (((u1 ^^^ u3) &&& (-(u1 ^^^ u3))) - (1 : Int64))).bind fun r6 => some (.inl ((a_max x2 r6), (x4 + (1 : Int32))))
set_option maxRecDepth 100000 in
set_option maxHeartbeats 4000000 in
theorem jl_X7_mostAlike_15 {x0 : Nat} {x1 : Nat} {x3 : Int32} {C : aSc} {M : aMm} (qx0 : isL x0) (qx1 : isL x1) {res : aRes} {r : (Int32) ⊕ (Int32)} : ∀ (n : Nat) (x2 : Int32) (x4 : Int32), lpf (fun a : Int32 × Int32 => b_X7_mostAlike_15 (x0) (x1) (x3) a.1 a.2 C) n (x2, x4) = some r → (∀ (z2 : Int32), r = .inl z2 → J mi_X7_mostAlike res 0 0 71 [(0, .ref (x0)), (1, .ref (x1)), (2, .int (z2)), (3, .int (x3))] [] (C, M)) → (∀ (v : Int32), r = .inr v → res = (some (.int v), (C, M))) → J mi_X7_mostAlike res 0 0 15 [(0, .ref (x0)), (1, .ref (x1)), (2, .int (x2)), (3, .int (x3)), (4, .int (x4))] [] (C, M) := by
  intro n
  induction n with
  | zero =>
    intro x2 x4 h
    cases h
  | succ n ih =>
    intro x2 x4 h Kx Kr
    obtain ⟨r0, h, h2⟩ := br_b h
    have h : b_X7_mostAlike_15 x0 x1 x3 x2 x4 C = some r0 := h
    rw [b_X7_mostAlike_15] at h
    refine J_iload dX7_mostAlike_15 4 rfl ?_
    refine J_aload_n dX7_mostAlike_17 rfl 1 rfl ?_
    refine J_geti (j := 4) qx1.1 qx1.2.1 (by decide) rfl (by decide) rfl kf_X7_128 dX7_mostAlike_18 ?_
    refine J_icmp_ge 71 dX7_mostAlike_21 (by decide) (fun c8 => ?_) (fun c8 => ?_)
    · have h := br_p c8 h
      have h := Option.some.inj h
      subst h
      have h2 := Option.some.inj h2
      subst h2
      refine J_sub [0, 1, 2, 3] rfl ?_
      exact Kx _ rfl
    · have h := br_n c8 h
      refine J_aload_n dX7_mostAlike_24 rfl 0 rfl ?_
      refine J_getr (j := 6) (t := 0) (r := x0 + 1) qx0.1 (Nat.lt_trans qx0.2.1 (by decide)) (by decide) rfl (by decide) rfl rfl kf_X7_332 dX7_mostAlike_25 ?_
      refine J_iload_n dX7_mostAlike_28 rfl 3 rfl ?_
      obtain ⟨u1, h2, h⟩ := br_b h
      refine J_lald qx0.2.2.1 qx0.2.2.2.1 h2 dX7_mostAlike_29 ?_
      refine J_aload_n dX7_mostAlike_30 rfl 1 rfl ?_
      refine J_getr (j := 6) (t := 0) (r := x1 + 1) qx1.1 (Nat.lt_trans qx1.2.1 (by decide)) (by decide) rfl (by decide) rfl rfl kf_X7_332 dX7_mostAlike_31 ?_
      refine J_iload dX7_mostAlike_34 4 rfl ?_
      obtain ⟨u3, h4, h⟩ := br_b h
      refine J_lald qx1.2.2.1 qx1.2.2.2.1 h4 dX7_mostAlike_36 ?_
      refine J_lxor dX7_mostAlike_37 ?_
      refine J_lstore (L' := [(5, .long ((u1 ^^^ u3))), (0, .ref (x0)), (1, .ref (x1)), (2, .int (x2)), (3, .int (x3)), (4, .int (x4))]) dX7_mostAlike_38 (by decide) rfl ?_
      refine J_lload dX7_mostAlike_40 0 rfl ?_
      refine J_lconst 0 dX7_mostAlike_42 rfl ?_
      refine J_lcmp dX7_mostAlike_43 ?_
      refine J_if_ne 49 dX7_mostAlike_44 (by decide) (fun c7 => ?_) (fun c7 => ?_)
      · have h := br_n c7 h
        refine J_iload_n dX7_mostAlike_49 rfl 3 rfl ?_
        refine J_lload dX7_mostAlike_50 0 rfl ?_
        refine J_lload dX7_mostAlike_52 0 rfl ?_
        refine J_lneg dX7_mostAlike_54 ?_
        refine J_land dX7_mostAlike_55 ?_
        refine J_lconst 1 dX7_mostAlike_56 rfl ?_
        refine J_lsub dX7_mostAlike_57 ?_
        obtain ⟨r6, h5, h⟩ := br_b h
        refine J_callS (mj := mi_J13_bitCount_95d88) (as := [.long ((((u1 ^^^ u3) &&& (-(u1 ^^^ u3))) - (1 : Int64)))]) (rest := [.int (x2)]) (ct_J13_bitCount_95d88 (S := (C, M))  h5) ⟨rfl, rfl⟩ rfl cg_X7_135 hd_J13_bitCount_95d88 rfl ⟨Nat.le_of_ble_eq_true rfl, Nat.le_of_ble_eq_true rfl⟩ (Nat.le_of_ble_eq_true rfl) ⟨Nat.zero_le _, Nat.zero_le _⟩ dX7_mostAlike_58 ?_
        refine J_mmax km_X7_188 kst_Math_max ki_Math kcd_Math_max (by decide) (Nat.le_of_ble_eq_true rfl) ⟨Nat.zero_le _, Nat.zero_le _⟩ dX7_mostAlike_61 ?_
        refine J_istore_n (L' := [(2, .int ((a_max x2 r6))), (5, .long ((u1 ^^^ u3))), (0, .ref (x0)), (1, .ref (x1)), (3, .int (x3)), (4, .int (x4))]) dX7_mostAlike_64 rfl (by decide) rfl ?_
        refine J_iinc (j := 5) (v := (x4 + (1 : Int32))) (L' := [(4, .int ((x4 + (1 : Int32)))), (2, .int ((a_max x2 r6))), (5, .long ((u1 ^^^ u3))), (0, .ref (x0)), (1, .ref (x1)), (3, .int (x3))]) dX7_mostAlike_65 rfl rfl (by decide) rfl ?_
        refine J_goto 15 dX7_mostAlike_68 (by decide) ?_
        have h := Option.some.inj h
        subst h
        refine J_sub [3, 4, 1, 5, 0] rfl ?_
        exact ih _ _ h2 Kx Kr
      · have h := br_p c7 h
        refine J_iconst (-1) dX7_mostAlike_47 rfl ?_
        have h := Option.some.inj h
        subst h
        have h2 := Option.some.inj h2
        subst h2
        exact J_iret rfl rfl rfl (Kr _ rfl) dX7_mostAlike_48
def b_X7_mostAlike_4 (x0 : Nat) (x1 : Nat) (x2 : Int32) (x3 : Int32) (C : aSc) : Option ((Int32 × Int32) ⊕ ((Int32) ⊕ (Int32))) :=
  if ((a_gi C x0 4) : Int32) ≤ x3 then some (.inr (.inl x2)) else (lpf (fun a : Int32 × Int32 => b_X7_mostAlike_15 (x0) (x1) (x3) a.1 a.2 C) FU (x2, (0 : Int32))).bind fun z9 => Sum.elim (fun z9a => some (.inl (z9a, (x3 + (1 : Int32))))) (fun z12 => some (.inr (.inr z12))) z9
set_option maxRecDepth 100000 in
set_option maxHeartbeats 4000000 in
theorem jl_X7_mostAlike_4 {x0 : Nat} {x1 : Nat} {C : aSc} {M : aMm} (qx0 : isL x0) (qx1 : isL x1) {res : aRes} {r : (Int32) ⊕ (Int32)} : ∀ (n : Nat) (x2 : Int32) (x3 : Int32), lpf (fun a : Int32 × Int32 => b_X7_mostAlike_4 (x0) (x1) a.1 a.2 C) n (x2, x3) = some r → (∀ (z2 : Int32), r = .inl z2 → J mi_X7_mostAlike res 0 0 77 [(2, .int (z2))] [] (C, M)) → (∀ (v : Int32), r = .inr v → res = (some (.int v), (C, M))) → J mi_X7_mostAlike res 0 0 4 [(0, .ref (x0)), (1, .ref (x1)), (2, .int (x2)), (3, .int (x3))] [] (C, M) := by
  intro n
  induction n with
  | zero =>
    intro x2 x3 h
    cases h
  | succ n ih =>
    intro x2 x3 h Kx Kr
    obtain ⟨r0, h, h2⟩ := br_b h
    have h : b_X7_mostAlike_4 x0 x1 x2 x3 C = some r0 := h
    rw [b_X7_mostAlike_4] at h
    refine J_iload_n dX7_mostAlike_4 rfl 3 rfl ?_
    refine J_aload_n dX7_mostAlike_5 rfl 0 rfl ?_
    refine J_geti (j := 4) qx0.1 qx0.2.1 (by decide) rfl (by decide) rfl kf_X7_128 dX7_mostAlike_6 ?_
    refine J_icmp_ge 77 dX7_mostAlike_9 (by decide) (fun c13 => ?_) (fun c13 => ?_)
    · have h := br_p c13 h
      have h := Option.some.inj h
      subst h
      have h2 := Option.some.inj h2
      subst h2
      refine J_sub [2] rfl ?_
      exact Kx _ rfl
    · have h := br_n c13 h
      refine J_iconst 0 dX7_mostAlike_12 rfl ?_
      refine J_istore (L' := [(4, .int ((0 : Int32))), (0, .ref (x0)), (1, .ref (x1)), (2, .int (x2)), (3, .int (x3))]) dX7_mostAlike_13 (by decide) rfl ?_
      refine J_sub [1, 2, 3, 4, 0] rfl ?_
      obtain ⟨z9, h10, h⟩ := br_b h
      refine jl_X7_mostAlike_15 qx0 qx1 FU _ _ h10 ?_ ?_
      · intro v11 e
        subst e
        have h := br_l h
        refine J_iinc (j := 3) (v := (x3 + (1 : Int32))) (L' := [(3, .int ((x3 + (1 : Int32)))), (0, .ref (x0)), (1, .ref (x1)), (2, .int (v11))]) dX7_mostAlike_71 rfl rfl (by decide) rfl ?_
        refine J_goto 4 dX7_mostAlike_74 (by decide) ?_
        have h := Option.some.inj h
        subst h
        refine J_sub [1, 2, 3, 0] rfl ?_
        exact ih _ _ h2 Kx Kr
      · intro v e
        subst e
        have h := br_r h
        have h := Option.some.inj h
        subst h
        have h2 := Option.some.inj h2
        subst h2
        exact Kr _ rfl
def f_X7_mostAlike (x0 : Nat) (x1 : Nat) (C : aSc) : Option (Int32) :=
  (lpf (fun a : Int32 × Int32 => b_X7_mostAlike_4 (x0) (x1) a.1 a.2 C) FU ((0 : Int32), (0 : Int32))).bind fun z14 => Sum.elim (fun z14a => some z14a) (fun z17 => some z17) z14
set_option maxRecDepth 100000 in
set_option maxHeartbeats 4000000 in
theorem jm_X7_mostAlike {x0 : Nat} {x1 : Nat} {C : aSc} {M : aMm} (qx0 : isL x0) (qx1 : isL x1) {res : aRes} {r : Int32} (h : f_X7_mostAlike x0 x1 C = some r) (Kr : ∀ (v : Int32), r = v → res = (some (.int v), (C, M))) : J mi_X7_mostAlike res 0 0 0 [(0, .ref (x0)), (1, .ref (x1))] [] (C, M) := by
  rw [f_X7_mostAlike] at h
  refine J_iconst 0 dX7_mostAlike_0 rfl ?_
  refine J_istore_n (L' := [(2, .int ((0 : Int32))), (0, .ref (x0)), (1, .ref (x1))]) dX7_mostAlike_1 rfl (by decide) rfl ?_
  refine J_iconst 0 dX7_mostAlike_2 rfl ?_
  refine J_istore_n (L' := [(3, .int ((0 : Int32))), (2, .int ((0 : Int32))), (0, .ref (x0)), (1, .ref (x1))]) dX7_mostAlike_3 rfl (by decide) rfl ?_
  refine J_sub [2, 3, 1, 0] rfl ?_
  obtain ⟨z14, h15, h⟩ := br_b h
  refine jl_X7_mostAlike_4 qx0 qx1 FU _ _ h15 ?_ ?_
  · intro v16 e
    subst e
    have h := br_l h
    refine J_iload_n dX7_mostAlike_77 rfl 0 rfl ?_
    have h := Option.some.inj h
    subst h
    exact J_iret rfl rfl rfl (Kr _ rfl) dX7_mostAlike_78
  · intro v e
    subst e
    have h := br_r h
    have h := Option.some.inj h
    subst h
    exact Kr _ rfl
theorem ct_X7_mostAlike {x0 : Nat} {x1 : Nat} {C : aSc} {M : aMm} {v : Int32} (qx0 : isL x0) (qx1 : isL x1) (h : f_X7_mostAlike x0 x1 C = some v) : Ct mi_X7_mostAlike yX7_mostAlike [.ref (x0), .ref (x1)] (C, M) (some (.int v), (C, M)) := Ct_of_J (by decide +kernel) rfl (Nat.le_of_ble_eq_true rfl) (jm_X7_mostAlike qx0 qx1 h (fun _ e => by cases e; rfl))
def mi_X7_apart : aMi := (cX7_apart, 4, RX7, (some .int), { frames := 2, cells := 0, slots := 0, locals := 47 })
def f_X7_apart (x1 : Int32) (x2 : Int32) (C : aSc) : Option (Int32 × aSc) :=
  (f_X7_isLight x1 C).bind fun r2 => if (r2 : Int32) = 0 then bd2 (f_X7_refuse (-100001 : Int32) C) fun r4 C5 => some (r4, C5) else (f_X7_isLight x2 C).bind fun r7 => if (r7 : Int32) = 0 then bd2 (f_X7_refuse (-100001 : Int32) C) fun r25 C26 => some (r25, C26) else if (x1 : Int32) = x2 then bd2 (f_X7_refuse (-100003 : Int32) C) fun r21 C22 => some (r21, C22) else (a_rf 24 3 10 x1).bind fun c8 => (a_rf 24 3 10 x2).bind fun c11 => (f_X7_mostAlike c8 c11 C).bind fun r15 => if 0 ≤ (r15 : Int32) then some ((r15 + (1 : Int32)), C) else bd2 (f_X7_refuse (-100006 : Int32) C) fun r17 C18 => some (r17, C18)
set_option maxRecDepth 100000 in
set_option maxHeartbeats 4000000 in
theorem jm_X7_apart {x1 : Int32} {x2 : Int32} {C : aSc} {M : aMm}  {res : aRes} {r : Int32 × aSc} (h : f_X7_apart x1 x2 C = some r) (Kr : ∀ (v : Int32) (S' : aSc), r = (v, S') → res = (some (.int v), (S', M))) : J mi_X7_apart res 0 0 0 [(0, .ref (0)), (1, .int (x1)), (2, .int (x2))] [] (C, M) := by
  rw [f_X7_apart] at h
  refine J_aload_n dX7_apart_0 rfl 0 rfl ?_
  refine J_iload_n dX7_apart_1 rfl 1 rfl ?_
  obtain ⟨r2, h1, h⟩ := br_b h
  refine J_callV (mj := mi_X7_isLight) (as := [.int (x1)]) (rest := []) (ct_X7_isLight (M := M)  h1) ⟨rfl, rfl⟩ rfl rfl (by decide) rfl cg_X7_108 hd_X7_isLight rfl ⟨Nat.le_of_ble_eq_true rfl, Nat.le_of_ble_eq_true rfl⟩ (Nat.le_of_ble_eq_true rfl) ⟨Nat.zero_le _, Nat.zero_le _⟩ dX7_apart_2 ?_
  refine J_if_eq 16 dX7_apart_5 (by decide) (fun c28 => ?_) (fun c28 => ?_)
  · have h := br_p c28 h
    refine J_aload_n dX7_apart_16 rfl 0 rfl ?_
    refine J_ldc (-100001) dX7_apart_17 kc_X7_68 ?_
    obtain ⟨r4, C5, h3, h⟩ := br_b2 h
    refine J_callV (mj := mi_X7_refuse) (as := [.int ((-100001 : Int32))]) (rest := []) (ct_X7_refuse (M := M)  h3) ⟨rfl, rfl⟩ rfl rfl (by decide) rfl cg_X7_69 hd_X7_refuse rfl ⟨Nat.le_of_ble_eq_true rfl, Nat.le_of_ble_eq_true rfl⟩ (Nat.le_of_ble_eq_true rfl) ⟨Nat.zero_le _, Nat.zero_le _⟩ dX7_apart_19 ?_
    have h := Option.some.inj h
    subst h
    exact J_iret rfl rfl rfl (Kr _ _ rfl) dX7_apart_22
  · have h := br_n c28 h
    refine J_aload_n dX7_apart_8 rfl 0 rfl ?_
    refine J_iload_n dX7_apart_9 rfl 2 rfl ?_
    obtain ⟨r7, h6, h⟩ := br_b h
    refine J_callV (mj := mi_X7_isLight) (as := [.int (x2)]) (rest := []) (ct_X7_isLight (M := M)  h6) ⟨rfl, rfl⟩ rfl rfl (by decide) rfl cg_X7_108 hd_X7_isLight rfl ⟨Nat.le_of_ble_eq_true rfl, Nat.le_of_ble_eq_true rfl⟩ (Nat.le_of_ble_eq_true rfl) ⟨Nat.zero_le _, Nat.zero_le _⟩ dX7_apart_10 ?_
    refine J_if_ne 23 dX7_apart_13 (by decide) (fun c27 => ?_) (fun c27 => ?_)
    · have h := br_n c27 h
      refine J_iload_n dX7_apart_23 rfl 1 rfl ?_
      refine J_iload_n dX7_apart_24 rfl 2 rfl ?_
      refine J_icmp_ne 35 dX7_apart_25 (by decide) (fun c23 => ?_) (fun c23 => ?_)
      · have h := br_n c23 h
        refine J_aload_n dX7_apart_35 rfl 0 rfl ?_
        refine J_getr (j := 1) (t := 11) (r := 3) rfl (by decide) (by decide) rfl (by decide) rfl rfl kf_X7_18 dX7_apart_36 ?_
        refine J_iload_n dX7_apart_39 rfl 1 rfl ?_
        obtain ⟨c8, h9, h⟩ := br_b h
        have q10 := a_rfL h9
        refine J_aaldL h9 dX7_apart_40 ?_
        refine J_aload_n dX7_apart_41 rfl 0 rfl ?_
        refine J_getr (j := 1) (t := 11) (r := 3) rfl (by decide) (by decide) rfl (by decide) rfl rfl kf_X7_18 dX7_apart_42 ?_
        refine J_iload_n dX7_apart_45 rfl 2 rfl ?_
        obtain ⟨c11, h12, h⟩ := br_b h
        have q13 := a_rfL h12
        refine J_aaldL h12 dX7_apart_46 ?_
        obtain ⟨r15, h14, h⟩ := br_b h
        refine J_callS (mj := mi_X7_mostAlike) (as := [.ref (c8), .ref (c11)]) (rest := []) (ct_X7_mostAlike (M := M) q10 q13 h14) ⟨rfl, rfl⟩ rfl cg_X7_180 hd_X7_mostAlike rfl ⟨Nat.le_of_ble_eq_true rfl, Nat.le_of_ble_eq_true rfl⟩ (Nat.le_of_ble_eq_true rfl) ⟨Nat.zero_le _, Nat.zero_le _⟩ dX7_apart_47 ?_
        refine J_istore_n (L' := [(3, .int (r15)), (0, .ref (0)), (1, .int (x1)), (2, .int (x2))]) dX7_apart_50 rfl (by decide) rfl ?_
        refine J_iload_n dX7_apart_51 rfl 0 rfl ?_
        refine J_if_ge 64 dX7_apart_52 (by decide) (fun c19 => ?_) (fun c19 => ?_)
        · have h := br_p c19 h
          refine J_iload_n dX7_apart_64 rfl 0 rfl ?_
          refine J_iconst 1 dX7_apart_65 rfl ?_
          refine J_iadd dX7_apart_66 ?_
          have h := Option.some.inj h
          subst h
          exact J_iret rfl rfl rfl (Kr _ _ rfl) dX7_apart_67
        · have h := br_n c19 h
          refine J_aload_n dX7_apart_55 rfl 1 rfl ?_
          refine J_ldc (-100006) dX7_apart_56 kc_X7_184 ?_
          obtain ⟨r17, C18, h16, h⟩ := br_b2 h
          refine J_callV (mj := mi_X7_refuse) (as := [.int ((-100006 : Int32))]) (rest := []) (ct_X7_refuse (M := M)  h16) ⟨rfl, rfl⟩ rfl rfl (by decide) rfl cg_X7_69 hd_X7_refuse rfl ⟨Nat.le_of_ble_eq_true rfl, Nat.le_of_ble_eq_true rfl⟩ (Nat.le_of_ble_eq_true rfl) ⟨Nat.zero_le _, Nat.zero_le _⟩ dX7_apart_58 ?_
          refine J_goto 67 dX7_apart_61 (by decide) ?_
          have h := Option.some.inj h
          subst h
          exact J_iret rfl rfl rfl (Kr _ _ rfl) dX7_apart_67
      · have h := br_p c23 h
        refine J_aload_n dX7_apart_28 rfl 0 rfl ?_
        refine J_ldc (-100003) dX7_apart_29 kc_X7_160 ?_
        obtain ⟨r21, C22, h20, h⟩ := br_b2 h
        refine J_callV (mj := mi_X7_refuse) (as := [.int ((-100003 : Int32))]) (rest := []) (ct_X7_refuse (M := M)  h20) ⟨rfl, rfl⟩ rfl rfl (by decide) rfl cg_X7_69 hd_X7_refuse rfl ⟨Nat.le_of_ble_eq_true rfl, Nat.le_of_ble_eq_true rfl⟩ (Nat.le_of_ble_eq_true rfl) ⟨Nat.zero_le _, Nat.zero_le _⟩ dX7_apart_31 ?_
        have h := Option.some.inj h
        subst h
        exact J_iret rfl rfl rfl (Kr _ _ rfl) dX7_apart_34
    · have h := br_p c27 h
      refine J_aload_n dX7_apart_16 rfl 0 rfl ?_
      refine J_ldc (-100001) dX7_apart_17 kc_X7_68 ?_
      obtain ⟨r25, C26, h24, h⟩ := br_b2 h
      refine J_callV (mj := mi_X7_refuse) (as := [.int ((-100001 : Int32))]) (rest := []) (ct_X7_refuse (M := M)  h24) ⟨rfl, rfl⟩ rfl rfl (by decide) rfl cg_X7_69 hd_X7_refuse rfl ⟨Nat.le_of_ble_eq_true rfl, Nat.le_of_ble_eq_true rfl⟩ (Nat.le_of_ble_eq_true rfl) ⟨Nat.zero_le _, Nat.zero_le _⟩ dX7_apart_19 ?_
      have h := Option.some.inj h
      subst h
      exact J_iret rfl rfl rfl (Kr _ _ rfl) dX7_apart_22
theorem ct_X7_apart {x1 : Int32} {x2 : Int32} {C : aSc} {M : aMm} {v : Int32} {S' : aSc}  (h : f_X7_apart x1 x2 C = some (v, S')) : Ct mi_X7_apart yX7_apart [.ref (0), .int (x1), .int (x2)] (C, M) (some (.int v), (S', M)) := Ct_of_J (by decide +kernel) rfl (Nat.le_of_ble_eq_true rfl) (jm_X7_apart  h (fun _ _ e => by cases e; rfl))
def mi_X7_allLights : aMi := (cX7_allLights, 1, RX7, (some .int), { frames := 0, cells := 0, slots := 0, locals := 0 })
def f_X7_allLights  (C : aSc) : Option (Int32) :=
  some (((1 : Int32) <<< ((a_gi C 0 2) &&& 31)) - (1 : Int32))
set_option maxRecDepth 100000 in
set_option maxHeartbeats 4000000 in
theorem jm_X7_allLights  {C : aSc} {M : aMm}  {res : aRes} {r : Int32} (h : f_X7_allLights  C = some r) (Kr : ∀ (v : Int32), r = v → res = (some (.int v), (C, M))) : J mi_X7_allLights res 0 0 0 [(0, .ref (0))] [] (C, M) := by
  rw [f_X7_allLights] at h
  refine J_iconst 1 dX7_allLights_0 rfl ?_
  refine J_aload_n dX7_allLights_1 rfl 0 rfl ?_
  refine J_geti (j := 2) rfl (by decide) (by decide) rfl (by decide) rfl kf_X7_89 dX7_allLights_2 ?_
  refine J_ishl dX7_allLights_5 ?_
  refine J_iconst 1 dX7_allLights_6 rfl ?_
  refine J_isub dX7_allLights_7 ?_
  have h := Option.some.inj h
  subst h
  exact J_iret rfl rfl rfl (Kr _ rfl) dX7_allLights_8
theorem ct_X7_allLights  {C : aSc} {M : aMm} {v : Int32}  (h : f_X7_allLights  C = some v) : Ct mi_X7_allLights yX7_allLights [.ref (0)] (C, M) (some (.int v), (C, M)) := Ct_of_J (by decide +kernel) rfl (Nat.le_of_ble_eq_true rfl) (jm_X7_allLights  h (fun _ e => by cases e; rfl))
def mi_X7_allApart : aMi := (cX7_allApart, 6, RX7, (some .int), { frames := 2, cells := 0, slots := 0, locals := 47 })
def b_X7_allApart_35 (x1 : Int32) (x3 : Int32) (x2 : Int32) (x4 : Int32) (C : aSc) : Option ((Int32 × Int32 × aSc) ⊕ ((Int32 × aSc) ⊕ (Int32 × aSc))) :=
  if ((a_gi C 0 2) : Int32) ≤ x4 then some (.inr (.inl (x2, C))) else if (((x1 >>> (x3 &&& 31)) &&& (1 : Int32)) : Int32) = 0 then some (.inl (x2, (x4 + (1 : Int32)), C)) else if (((x1 >>> (x4 &&& 31)) &&& (1 : Int32)) : Int32) = 0 then some (.inl (x2, (x4 + (1 : Int32)), C)) else (a_rf 24 3 10 x3).bind fun c3 => (a_rf 24 3 10 x4).bind fun c6 => (f_X7_mostAlike c3 c6 C).bind fun r10 => if 0 ≤ (r10 : Int32) then some (.inl ((a_max x2 r10), (x4 + (1 : Int32)), C)) else bd2 (f_X7_refuse (-100006 : Int32) C) fun r12 C13 => some (.inr (.inr (r12, C13)))
set_option maxRecDepth 100000 in
set_option maxHeartbeats 4000000 in
theorem jl_X7_allApart_35 {x1 : Int32} {x3 : Int32} {M : aMm}  {res : aRes} {r : (Int32 × aSc) ⊕ (Int32 × aSc)} : ∀ (n : Nat) (x2 : Int32) (x4 : Int32) (C : aSc), lpf (fun a : Int32 × Int32 × aSc => b_X7_allApart_35 (x1) (x3) a.1 a.2.1 a.2.2) n (x2, x4, C) = some r → (∀ (z2 : Int32) (S2 : aSc), r = .inl (z2, S2) → J mi_X7_allApart res 0 0 107 [(0, .ref (0)), (1, .int (x1)), (2, .int (z2)), (3, .int (x3))] [] (S2, M)) → (∀ (v : Int32) (S' : aSc), r = .inr (v, S') → res = (some (.int v), (S', M))) → J mi_X7_allApart res 0 0 35 [(0, .ref (0)), (1, .int (x1)), (2, .int (x2)), (3, .int (x3)), (4, .int (x4))] [] (C, M) := by
  intro n
  induction n with
  | zero =>
    intro x2 x4 C h
    cases h
  | succ n ih =>
    intro x2 x4 C h Kx Kr
    obtain ⟨r0, h, h2⟩ := br_b h
    have h : b_X7_allApart_35 x1 x3 x2 x4 C = some r0 := h
    rw [b_X7_allApart_35] at h
    refine J_iload dX7_allApart_35 4 rfl ?_
    refine J_aload_n dX7_allApart_37 rfl 0 rfl ?_
    refine J_geti (j := 2) rfl (by decide) (by decide) rfl (by decide) rfl kf_X7_89 dX7_allApart_38 ?_
    refine J_icmp_ge 107 dX7_allApart_41 (by decide) (fun c17 => ?_) (fun c17 => ?_)
    · have h := br_p c17 h
      have h := Option.some.inj h
      subst h
      have h2 := Option.some.inj h2
      subst h2
      refine J_sub [0, 1, 2, 3] rfl ?_
      exact Kx _ _ rfl
    · have h := br_n c17 h
      refine J_iload_n dX7_allApart_44 rfl 1 rfl ?_
      refine J_iload_n dX7_allApart_45 rfl 3 rfl ?_
      refine J_ishr dX7_allApart_46 ?_
      refine J_iconst 1 dX7_allApart_47 rfl ?_
      refine J_iand dX7_allApart_48 ?_
      refine J_if_eq 101 dX7_allApart_49 (by decide) (fun c16 => ?_) (fun c16 => ?_)
      · have h := br_p c16 h
        refine J_iinc (j := 4) (v := (x4 + (1 : Int32))) (L' := [(4, .int ((x4 + (1 : Int32)))), (0, .ref (0)), (1, .int (x1)), (2, .int (x2)), (3, .int (x3))]) dX7_allApart_101 rfl rfl (by decide) rfl ?_
        refine J_goto 35 dX7_allApart_104 (by decide) ?_
        have h := Option.some.inj h
        subst h
        refine J_sub [1, 2, 3, 4, 0] rfl ?_
        exact ih _ _ _ h2 Kx Kr
      · have h := br_n c16 h
        refine J_iload_n dX7_allApart_52 rfl 1 rfl ?_
        refine J_iload dX7_allApart_53 4 rfl ?_
        refine J_ishr dX7_allApart_55 ?_
        refine J_iconst 1 dX7_allApart_56 rfl ?_
        refine J_iand dX7_allApart_57 ?_
        refine J_if_ne 64 dX7_allApart_58 (by decide) (fun c15 => ?_) (fun c15 => ?_)
        · have h := br_n c15 h
          refine J_aload_n dX7_allApart_64 rfl 0 rfl ?_
          refine J_getr (j := 1) (t := 11) (r := 3) rfl (by decide) (by decide) rfl (by decide) rfl rfl kf_X7_18 dX7_allApart_65 ?_
          refine J_iload_n dX7_allApart_68 rfl 3 rfl ?_
          obtain ⟨c3, h4, h⟩ := br_b h
          have q5 := a_rfL h4
          refine J_aaldL h4 dX7_allApart_69 ?_
          refine J_aload_n dX7_allApart_70 rfl 0 rfl ?_
          refine J_getr (j := 1) (t := 11) (r := 3) rfl (by decide) (by decide) rfl (by decide) rfl rfl kf_X7_18 dX7_allApart_71 ?_
          refine J_iload dX7_allApart_74 4 rfl ?_
          obtain ⟨c6, h7, h⟩ := br_b h
          have q8 := a_rfL h7
          refine J_aaldL h7 dX7_allApart_76 ?_
          obtain ⟨r10, h9, h⟩ := br_b h
          refine J_callS (mj := mi_X7_mostAlike) (as := [.ref (c3), .ref (c6)]) (rest := []) (ct_X7_mostAlike (M := M) q5 q8 h9) ⟨rfl, rfl⟩ rfl cg_X7_180 hd_X7_mostAlike rfl ⟨Nat.le_of_ble_eq_true rfl, Nat.le_of_ble_eq_true rfl⟩ (Nat.le_of_ble_eq_true rfl) ⟨Nat.zero_le _, Nat.zero_le _⟩ dX7_allApart_77 ?_
          refine J_istore (L' := [(5, .int (r10)), (0, .ref (0)), (1, .int (x1)), (2, .int (x2)), (3, .int (x3)), (4, .int (x4))]) dX7_allApart_80 (by decide) rfl ?_
          refine J_iload dX7_allApart_82 0 rfl ?_
          refine J_if_ge 94 dX7_allApart_84 (by decide) (fun c14 => ?_) (fun c14 => ?_)
          · have h := br_p c14 h
            refine J_iload_n dX7_allApart_94 rfl 3 rfl ?_
            refine J_iload dX7_allApart_95 0 rfl ?_
            refine J_mmax km_X7_188 kst_Math_max ki_Math kcd_Math_max (by decide) (Nat.le_of_ble_eq_true rfl) ⟨Nat.zero_le _, Nat.zero_le _⟩ dX7_allApart_97 ?_
            refine J_istore_n (L' := [(2, .int ((a_max x2 r10))), (5, .int (r10)), (0, .ref (0)), (1, .int (x1)), (3, .int (x3)), (4, .int (x4))]) dX7_allApart_100 rfl (by decide) rfl ?_
            refine J_iinc (j := 5) (v := (x4 + (1 : Int32))) (L' := [(4, .int ((x4 + (1 : Int32)))), (2, .int ((a_max x2 r10))), (5, .int (r10)), (0, .ref (0)), (1, .int (x1)), (3, .int (x3))]) dX7_allApart_101 rfl rfl (by decide) rfl ?_
            refine J_goto 35 dX7_allApart_104 (by decide) ?_
            have h := Option.some.inj h
            subst h
            refine J_sub [3, 4, 1, 5, 0] rfl ?_
            exact ih _ _ _ h2 Kx Kr
          · have h := br_n c14 h
            refine J_aload_n dX7_allApart_87 rfl 1 rfl ?_
            refine J_ldc (-100006) dX7_allApart_88 kc_X7_184 ?_
            obtain ⟨r12, C13, h11, h⟩ := br_b2 h
            refine J_callV (mj := mi_X7_refuse) (as := [.int ((-100006 : Int32))]) (rest := []) (ct_X7_refuse (M := M)  h11) ⟨rfl, rfl⟩ rfl rfl (by decide) rfl cg_X7_69 hd_X7_refuse rfl ⟨Nat.le_of_ble_eq_true rfl, Nat.le_of_ble_eq_true rfl⟩ (Nat.le_of_ble_eq_true rfl) ⟨Nat.zero_le _, Nat.zero_le _⟩ dX7_allApart_90 ?_
            have h := Option.some.inj h
            subst h
            have h2 := Option.some.inj h2
            subst h2
            exact J_iret rfl rfl rfl (Kr _ _ rfl) dX7_allApart_93
        · have h := br_p c15 h
          refine J_goto 101 dX7_allApart_61 (by decide) ?_
          refine J_iinc (j := 4) (v := (x4 + (1 : Int32))) (L' := [(4, .int ((x4 + (1 : Int32)))), (0, .ref (0)), (1, .int (x1)), (2, .int (x2)), (3, .int (x3))]) dX7_allApart_101 rfl rfl (by decide) rfl ?_
          refine J_goto 35 dX7_allApart_104 (by decide) ?_
          have h := Option.some.inj h
          subst h
          refine J_sub [1, 2, 3, 4, 0] rfl ?_
          exact ih _ _ _ h2 Kx Kr
def b_X7_allApart_22 (x1 : Int32) (x2 : Int32) (x3 : Int32) (C : aSc) : Option ((Int32 × Int32 × aSc) ⊕ ((Int32 × aSc) ⊕ (Int32 × aSc))) :=
  if ((a_gi C 0 2) : Int32) ≤ x3 then some (.inr (.inl (x2, C))) else (lpf (fun a : Int32 × Int32 × aSc => b_X7_allApart_35 (x1) (x3) a.1 a.2.1 a.2.2) FU (x2, (x3 + (1 : Int32)), C)).bind fun z18 => Sum.elim (fun z18a => some (.inl (z18a.1, (x3 + (1 : Int32)), z18a.2))) (fun z22 => some (.inr (.inr z22))) z18
set_option maxRecDepth 100000 in
set_option maxHeartbeats 4000000 in
theorem jl_X7_allApart_22 {x1 : Int32} {M : aMm}  {res : aRes} {r : (Int32 × aSc) ⊕ (Int32 × aSc)} : ∀ (n : Nat) (x2 : Int32) (x3 : Int32) (C : aSc), lpf (fun a : Int32 × Int32 × aSc => b_X7_allApart_22 (x1) a.1 a.2.1 a.2.2) n (x2, x3, C) = some r → (∀ (z2 : Int32) (S2 : aSc), r = .inl (z2, S2) → J mi_X7_allApart res 0 0 113 [(2, .int (z2))] [] (S2, M)) → (∀ (v : Int32) (S' : aSc), r = .inr (v, S') → res = (some (.int v), (S', M))) → J mi_X7_allApart res 0 0 22 [(0, .ref (0)), (1, .int (x1)), (2, .int (x2)), (3, .int (x3))] [] (C, M) := by
  intro n
  induction n with
  | zero =>
    intro x2 x3 C h
    cases h
  | succ n ih =>
    intro x2 x3 C h Kx Kr
    obtain ⟨r0, h, h2⟩ := br_b h
    have h : b_X7_allApart_22 x1 x2 x3 C = some r0 := h
    rw [b_X7_allApart_22] at h
    refine J_iload_n dX7_allApart_22 rfl 3 rfl ?_
    refine J_aload_n dX7_allApart_23 rfl 0 rfl ?_
    refine J_geti (j := 2) rfl (by decide) (by decide) rfl (by decide) rfl kf_X7_89 dX7_allApart_24 ?_
    refine J_icmp_ge 113 dX7_allApart_27 (by decide) (fun c23 => ?_) (fun c23 => ?_)
    · have h := br_p c23 h
      have h := Option.some.inj h
      subst h
      have h2 := Option.some.inj h2
      subst h2
      refine J_sub [2] rfl ?_
      exact Kx _ _ rfl
    · have h := br_n c23 h
      refine J_iload_n dX7_allApart_30 rfl 3 rfl ?_
      refine J_iconst 1 dX7_allApart_31 rfl ?_
      refine J_iadd dX7_allApart_32 ?_
      refine J_istore (L' := [(4, .int ((x3 + (1 : Int32)))), (0, .ref (0)), (1, .int (x1)), (2, .int (x2)), (3, .int (x3))]) dX7_allApart_33 (by decide) rfl ?_
      refine J_sub [1, 2, 3, 4, 0] rfl ?_
      obtain ⟨z18, h19, h⟩ := br_b h
      refine jl_X7_allApart_35  FU _ _ _ h19 ?_ ?_
      · intro v20 C21 e
        subst e
        have h := br_l h
        refine J_iinc (j := 3) (v := (x3 + (1 : Int32))) (L' := [(3, .int ((x3 + (1 : Int32)))), (0, .ref (0)), (1, .int (x1)), (2, .int (v20))]) dX7_allApart_107 rfl rfl (by decide) rfl ?_
        refine J_goto 22 dX7_allApart_110 (by decide) ?_
        have h := Option.some.inj h
        subst h
        refine J_sub [1, 2, 3, 0] rfl ?_
        exact ih _ _ _ h2 Kx Kr
      · intro v S' e
        subst e
        have h := br_r h
        have h := Option.some.inj h
        subst h
        have h2 := Option.some.inj h2
        subst h2
        exact Kr _ _ rfl
def f_X7_allApart (x1 : Int32) (C : aSc) : Option (Int32 × aSc) :=
  (f_X7_allLights  C).bind fun r2 => if ((x1 &&& (r2 ^^^ (-1 : Int32))) : Int32) = 0 then (lpf (fun a : Int32 × Int32 × aSc => b_X7_allApart_22 (x1) a.1 a.2.1 a.2.2) FU ((0 : Int32), (0 : Int32), C)).bind fun z24 => Sum.elim (fun z24a => some ((z24a.1 + (1 : Int32)), z24a.2)) (fun z28 => some z28) z24 else bd2 (f_X7_refuse (-100001 : Int32) C) fun r30 C31 => some (r30, C31)
set_option maxRecDepth 100000 in
set_option maxHeartbeats 4000000 in
theorem jm_X7_allApart {x1 : Int32} {C : aSc} {M : aMm}  {res : aRes} {r : Int32 × aSc} (h : f_X7_allApart x1 C = some r) (Kr : ∀ (v : Int32) (S' : aSc), r = (v, S') → res = (some (.int v), (S', M))) : J mi_X7_allApart res 0 0 0 [(0, .ref (0)), (1, .int (x1))] [] (C, M) := by
  rw [f_X7_allApart] at h
  refine J_iload_n dX7_allApart_0 rfl 1 rfl ?_
  refine J_aload_n dX7_allApart_1 rfl 0 rfl ?_
  obtain ⟨r2, h1, h⟩ := br_b h
  refine J_callV (mj := mi_X7_allLights) (as := []) (rest := [.int (x1)]) (ct_X7_allLights (M := M)  h1) ⟨rfl, rfl⟩ rfl rfl (by decide) rfl cg_X7_185 hd_X7_allLights rfl ⟨Nat.le_of_ble_eq_true rfl, Nat.le_of_ble_eq_true rfl⟩ (Nat.le_of_ble_eq_true rfl) ⟨Nat.zero_le _, Nat.zero_le _⟩ dX7_allApart_2 ?_
  refine J_iconst (-1) dX7_allApart_5 rfl ?_
  refine J_ixor dX7_allApart_6 ?_
  refine J_iand dX7_allApart_7 ?_
  refine J_if_eq 18 dX7_allApart_8 (by decide) (fun c32 => ?_) (fun c32 => ?_)
  · have h := br_p c32 h
    refine J_iconst 0 dX7_allApart_18 rfl ?_
    refine J_istore_n (L' := [(2, .int ((0 : Int32))), (0, .ref (0)), (1, .int (x1))]) dX7_allApart_19 rfl (by decide) rfl ?_
    refine J_iconst 0 dX7_allApart_20 rfl ?_
    refine J_istore_n (L' := [(3, .int ((0 : Int32))), (2, .int ((0 : Int32))), (0, .ref (0)), (1, .int (x1))]) dX7_allApart_21 rfl (by decide) rfl ?_
    refine J_sub [2, 3, 1, 0] rfl ?_
    obtain ⟨z24, h25, h⟩ := br_b h
    refine jl_X7_allApart_22  FU _ _ _ h25 ?_ ?_
    · intro v26 C27 e
      subst e
      have h := br_l h
      refine J_iload_n dX7_allApart_113 rfl 0 rfl ?_
      refine J_iconst 1 dX7_allApart_114 rfl ?_
      refine J_iadd dX7_allApart_115 ?_
      have h := Option.some.inj h
      subst h
      exact J_iret rfl rfl rfl (Kr _ _ rfl) dX7_allApart_116
    · intro v S' e
      subst e
      have h := br_r h
      have h := Option.some.inj h
      subst h
      exact Kr _ _ rfl
  · have h := br_n c32 h
    refine J_aload_n dX7_allApart_11 rfl 0 rfl ?_
    refine J_ldc (-100001) dX7_allApart_12 kc_X7_68 ?_
    obtain ⟨r30, C31, h29, h⟩ := br_b2 h
    refine J_callV (mj := mi_X7_refuse) (as := [.int ((-100001 : Int32))]) (rest := []) (ct_X7_refuse (M := M)  h29) ⟨rfl, rfl⟩ rfl rfl (by decide) rfl cg_X7_69 hd_X7_refuse rfl ⟨Nat.le_of_ble_eq_true rfl, Nat.le_of_ble_eq_true rfl⟩ (Nat.le_of_ble_eq_true rfl) ⟨Nat.zero_le _, Nat.zero_le _⟩ dX7_allApart_14 ?_
    have h := Option.some.inj h
    subst h
    exact J_iret rfl rfl rfl (Kr _ _ rfl) dX7_allApart_17
theorem ct_X7_allApart {x1 : Int32} {C : aSc} {M : aMm} {v : Int32} {S' : aSc}  (h : f_X7_allApart x1 C = some (v, S')) : Ct mi_X7_allApart yX7_allApart [.ref (0), .int (x1)] (C, M) (some (.int v), (S', M)) := Ct_of_J (by decide +kernel) rfl (Nat.le_of_ble_eq_true rfl) (jm_X7_allApart  h (fun _ _ e => by cases e; rfl))
def mi_X7_isSheet : aMi := (cX7_isSheet, 1, RX7, (some .boolean), { frames := 0, cells := 0, slots := 0, locals := 0 })
def f_X7_isSheet (x0 : Int32) (C : aSc) : Option (Int32) :=
  if (x0 : Int32) < 0 then some (0 : Int32) else if ((4 : Int32) : Int32) ≤ x0 then some (0 : Int32) else some (1 : Int32)
set_option maxRecDepth 100000 in
set_option maxHeartbeats 4000000 in
theorem jm_X7_isSheet {x0 : Int32} {C : aSc} {M : aMm}  {res : aRes} {r : Int32} (h : f_X7_isSheet x0 C = some r) (Kr : ∀ (v : Int32), r = v → res = (some (.int v), (C, M))) : J mi_X7_isSheet res 0 0 0 [(0, .int (x0))] [] (C, M) := by
  rw [f_X7_isSheet] at h
  refine J_iload_n dX7_isSheet_0 rfl 0 rfl ?_
  refine J_if_lt 13 dX7_isSheet_1 (by decide) (fun c2 => ?_) (fun c2 => ?_)
  · have h := br_p c2 h
    refine J_iconst 0 dX7_isSheet_13 rfl ?_
    have h := Option.some.inj h
    subst h
    exact J_zret (Or.inl rfl) rfl rfl rfl (Kr _ rfl) dX7_isSheet_14
  · have h := br_n c2 h
    refine J_iload_n dX7_isSheet_4 rfl 0 rfl ?_
    refine J_iconst 4 dX7_isSheet_5 rfl ?_
    refine J_icmp_ge 13 dX7_isSheet_6 (by decide) (fun c1 => ?_) (fun c1 => ?_)
    · have h := br_p c1 h
      refine J_iconst 0 dX7_isSheet_13 rfl ?_
      have h := Option.some.inj h
      subst h
      exact J_zret (Or.inl rfl) rfl rfl rfl (Kr _ rfl) dX7_isSheet_14
    · have h := br_n c1 h
      refine J_iconst 1 dX7_isSheet_9 rfl ?_
      refine J_goto 14 dX7_isSheet_10 (by decide) ?_
      have h := Option.some.inj h
      subst h
      exact J_zret (Or.inr rfl) rfl rfl rfl (Kr _ rfl) dX7_isSheet_14
theorem ct_X7_isSheet {x0 : Int32} {C : aSc} {M : aMm} {v : Int32}  (h : f_X7_isSheet x0 C = some v) : Ct mi_X7_isSheet yX7_isSheet [.int (x0)] (C, M) (some (.int v), (C, M)) := Ct_of_J (by decide +kernel) rfl (Nat.le_of_ble_eq_true rfl) (jm_X7_isSheet  h (fun _ e => by cases e; rfl))
def mi_X3_asSeconds : aMi := (cX3_asSeconds, 4, RX3, (some .long), { frames := 0, cells := 0, slots := 0, locals := 0 })
def b_X3_asSeconds_4 (x0 : Nat) (x1 : Int64) (x3 : Int32) (C : aSc) : Option ((Int64 × Int32) ⊕ (Int64)) :=
  if ((a_gi C x0 1) : Int32) ≤ x3 then some (.inr x1) else (a_ld C (x0 + 1) x3).bind fun u1 => if (u1 : Int32) = 0 then some (.inl (x1, (x3 + (1 : Int32)))) else some (.inl ((x1 ||| ((1 : Int64) <<< ((x3 : Int32).toInt64 &&& 63))), (x3 + (1 : Int32))))
set_option maxRecDepth 100000 in
set_option maxHeartbeats 4000000 in
theorem jl_X3_asSeconds_4 {x0 : Nat} {C : aSc} {M : aMm} (qx0 : isS x0) {res : aRes} {r : Int64} : ∀ (n : Nat) (x1 : Int64) (x3 : Int32), lpf (fun a : Int64 × Int32 => b_X3_asSeconds_4 (x0) a.1 a.2 C) n (x1, x3) = some r → (∀ (z1 : Int64), r = z1 → J mi_X3_asSeconds res 0 0 33 [(1, .long (z1))] [] (C, M)) → J mi_X3_asSeconds res 0 0 4 [(0, .ref (x0)), (1, .long (x1)), (3, .int (x3))] [] (C, M) := by
  intro n
  induction n with
  | zero =>
    intro x1 x3 h
    cases h
  | succ n ih =>
    intro x1 x3 h Kx
    obtain ⟨r0, h, h2⟩ := br_b h
    have h : b_X3_asSeconds_4 x0 x1 x3 C = some r0 := h
    rw [b_X3_asSeconds_4] at h
    refine J_iload_n dX3_asSeconds_4 rfl 2 rfl ?_
    refine J_aload_n dX3_asSeconds_5 rfl 0 rfl ?_
    refine J_geti (j := 1) qx0.1 qx0.2.1 (by decide) rfl (by decide) rfl kf_X3_17 dX3_asSeconds_6 ?_
    refine J_icmp_ge 33 dX3_asSeconds_9 (by decide) (fun c4 => ?_) (fun c4 => ?_)
    · have h := br_p c4 h
      have h := Option.some.inj h
      subst h
      have h2 := Option.some.inj h2
      subst h2
      refine J_sub [1] rfl ?_
      exact Kx _ rfl
    · have h := br_n c4 h
      refine J_aload_n dX3_asSeconds_12 rfl 0 rfl ?_
      refine J_getr (j := 2) (t := 0) (r := x0 + 1) qx0.1 (Nat.lt_trans qx0.2.1 (by decide)) (by decide) rfl (by decide) rfl rfl kf_X3_9 dX3_asSeconds_13 ?_
      refine J_iload_n dX3_asSeconds_16 rfl 2 rfl ?_
      obtain ⟨u1, h2, h⟩ := br_b h
      refine J_iald qx0.2.2.1 qx0.2.2.2 h2 dX3_asSeconds_17 ?_
      refine J_if_eq 27 dX3_asSeconds_18 (by decide) (fun c3 => ?_) (fun c3 => ?_)
      · have h := br_p c3 h
        refine J_iinc (j := 2) (v := (x3 + (1 : Int32))) (L' := [(3, .int ((x3 + (1 : Int32)))), (0, .ref (x0)), (1, .long (x1))]) dX3_asSeconds_27 rfl rfl (by decide) rfl ?_
        refine J_goto 4 dX3_asSeconds_30 (by decide) ?_
        have h := Option.some.inj h
        subst h
        refine J_sub [1, 2, 0] rfl ?_
        exact ih _ _ h2 Kx
      · have h := br_n c3 h
        refine J_lload_n dX3_asSeconds_21 rfl 1 rfl ?_
        refine J_lconst 1 dX3_asSeconds_22 rfl ?_
        refine J_iload_n dX3_asSeconds_23 rfl 2 rfl ?_
        refine J_lshl dX3_asSeconds_24 ?_
        refine J_lor dX3_asSeconds_25 ?_
        refine J_lstore_n (L' := [(1, .long ((x1 ||| ((1 : Int64) <<< ((x3 : Int32).toInt64 &&& 63))))), (0, .ref (x0)), (3, .int (x3))]) dX3_asSeconds_26 rfl (by decide) rfl ?_
        refine J_iinc (j := 2) (v := (x3 + (1 : Int32))) (L' := [(3, .int ((x3 + (1 : Int32)))), (1, .long ((x1 ||| ((1 : Int64) <<< ((x3 : Int32).toInt64 &&& 63))))), (0, .ref (x0))]) dX3_asSeconds_27 rfl rfl (by decide) rfl ?_
        refine J_goto 4 dX3_asSeconds_30 (by decide) ?_
        have h := Option.some.inj h
        subst h
        refine J_sub [2, 1, 0] rfl ?_
        exact ih _ _ h2 Kx
def f_X3_asSeconds (x0 : Nat) (C : aSc) : Option (Int64) :=
  (lpf (fun a : Int64 × Int32 => b_X3_asSeconds_4 (x0) a.1 a.2 C) FU ((0 : Int64), (0 : Int32))).bind fun z5 => some z5
set_option maxRecDepth 100000 in
set_option maxHeartbeats 4000000 in
theorem jm_X3_asSeconds {x0 : Nat} {C : aSc} {M : aMm} (qx0 : isS x0) {res : aRes} {r : Int64} (h : f_X3_asSeconds x0 C = some r) (Kr : ∀ (v : Int64), r = v → res = (some (.long v), (C, M))) : J mi_X3_asSeconds res 0 0 0 [(0, .ref (x0))] [] (C, M) := by
  rw [f_X3_asSeconds] at h
  refine J_lconst 0 dX3_asSeconds_0 rfl ?_
  refine J_lstore_n (L' := [(1, .long ((0 : Int64))), (0, .ref (x0))]) dX3_asSeconds_1 rfl (by decide) rfl ?_
  refine J_iconst 0 dX3_asSeconds_2 rfl ?_
  refine J_istore_n (L' := [(3, .int ((0 : Int32))), (1, .long ((0 : Int64))), (0, .ref (x0))]) dX3_asSeconds_3 rfl (by decide) rfl ?_
  refine J_sub [2, 1, 0] rfl ?_
  obtain ⟨z5, h6, h⟩ := br_b h
  refine jl_X3_asSeconds_4 qx0 FU _ _ h6 ?_
  intro zz e
  subst e
  refine J_lload_n dX3_asSeconds_33 rfl 0 rfl ?_
  have h := Option.some.inj h
  subst h
  exact J_lret rfl rfl rfl (Kr _ rfl) dX3_asSeconds_34
theorem ct_X3_asSeconds {x0 : Nat} {C : aSc} {M : aMm} {v : Int64} (qx0 : isS x0) (h : f_X3_asSeconds x0 C = some v) : Ct mi_X3_asSeconds yX3_asSeconds [.ref (x0)] (C, M) (some (.long v), (C, M)) := Ct_of_J (by decide +kernel) rfl (Nat.le_of_ble_eq_true rfl) (jm_X3_asSeconds qx0 h (fun _ e => by cases e; rfl))
def mi_X1_hasRow : aMi := (cX1_hasRow, 7, RX1, (some .boolean), { frames := 0, cells := 0, slots := 0, locals := 0 })
def b_X1_hasRow_10 (x0 : Nat) (x1 : Int64) (x4 : Int64) (x6 : Int32) (C : aSc) : Option ((Int32) ⊕ ((Unit) ⊕ (Int32))) :=
  if ((a_gi C x0 4) : Int32) ≤ x6 then some (.inr (.inl ())) else (a_ldl C (x0 + 1) x6).bind fun u1 => if ((lg_cmp (u1 &&& x4) x1) : Int32) = 0 then some (.inr (.inr (1 : Int32))) else some (.inl (x6 + (1 : Int32)))
set_option maxRecDepth 100000 in
set_option maxHeartbeats 4000000 in
theorem jl_X1_hasRow_10 {x0 : Nat} {x1 : Int64} {x4 : Int64} {C : aSc} {M : aMm} (qx0 : isL x0) {res : aRes} {r : (Unit) ⊕ (Int32)} : ∀ (n : Nat) (x6 : Int32), lpf (fun a : Int32 => b_X1_hasRow_10 (x0) (x1) (x4) a C) n x6 = some r → (r = .inl () → J mi_X1_hasRow res 0 0 42 [] [] (C, M)) → (∀ (v : Int32), r = .inr v → res = (some (.int v), (C, M))) → J mi_X1_hasRow res 0 0 10 [(0, .ref (x0)), (1, .long (x1)), (4, .long (x4)), (6, .int (x6))] [] (C, M) := by
  intro n
  induction n with
  | zero =>
    intro x6 h
    cases h
  | succ n ih =>
    intro x6 h Kx Kr
    obtain ⟨r0, h, h2⟩ := br_b h
    have h : b_X1_hasRow_10 x0 x1 x4 x6 C = some r0 := h
    rw [b_X1_hasRow_10] at h
    refine J_iload dX1_hasRow_10 3 rfl ?_
    refine J_aload_n dX1_hasRow_12 rfl 0 rfl ?_
    refine J_geti (j := 4) qx0.1 qx0.2.1 (by decide) rfl (by decide) rfl kf_X1_59 dX1_hasRow_13 ?_
    refine J_icmp_ge 42 dX1_hasRow_16 (by decide) (fun c4 => ?_) (fun c4 => ?_)
    · have h := br_p c4 h
      have h := Option.some.inj h
      subst h
      have h2 := Option.some.inj h2
      subst h2
      refine J_sub [] rfl ?_
      exact Kx  rfl
    · have h := br_n c4 h
      refine J_aload_n dX1_hasRow_19 rfl 0 rfl ?_
      refine J_getr (j := 6) (t := 0) (r := x0 + 1) qx0.1 (Nat.lt_trans qx0.2.1 (by decide)) (by decide) rfl (by decide) rfl rfl kf_X1_11 dX1_hasRow_20 ?_
      refine J_iload dX1_hasRow_23 3 rfl ?_
      obtain ⟨u1, h2, h⟩ := br_b h
      refine J_lald qx0.2.2.1 qx0.2.2.2.1 h2 dX1_hasRow_25 ?_
      refine J_lload dX1_hasRow_26 2 rfl ?_
      refine J_land dX1_hasRow_28 ?_
      refine J_lload_n dX1_hasRow_29 rfl 1 rfl ?_
      refine J_lcmp dX1_hasRow_30 ?_
      refine J_if_ne 36 dX1_hasRow_31 (by decide) (fun c3 => ?_) (fun c3 => ?_)
      · have h := br_n c3 h
        refine J_iinc (j := 3) (v := (x6 + (1 : Int32))) (L' := [(6, .int ((x6 + (1 : Int32)))), (0, .ref (x0)), (1, .long (x1)), (4, .long (x4))]) dX1_hasRow_36 rfl rfl (by decide) rfl ?_
        refine J_goto 10 dX1_hasRow_39 (by decide) ?_
        have h := Option.some.inj h
        subst h
        refine J_sub [1, 2, 3, 0] rfl ?_
        exact ih _ h2 Kx Kr
      · have h := br_p c3 h
        refine J_iconst 1 dX1_hasRow_34 rfl ?_
        have h := Option.some.inj h
        subst h
        have h2 := Option.some.inj h2
        subst h2
        exact J_zret (Or.inr rfl) rfl rfl rfl (Kr _ rfl) dX1_hasRow_35
def f_X1_hasRow (x0 : Nat) (x1 : Int64) (x3 : Int32) (C : aSc) : Option (Int32) :=
  (lpf (fun a : Int32 => b_X1_hasRow_10 (x0) (x1) ((((1 : Int64) <<< ((x3 : Int32).toInt64 &&& 63)) - (1 : Int64))) a C) FU (0 : Int32)).bind fun z5 => Sum.elim (fun z5a => some (0 : Int32)) (fun z7 => some z7) z5
set_option maxRecDepth 100000 in
set_option maxHeartbeats 4000000 in
theorem jm_X1_hasRow {x0 : Nat} {x1 : Int64} {x3 : Int32} {C : aSc} {M : aMm} (qx0 : isL x0) {res : aRes} {r : Int32} (h : f_X1_hasRow x0 x1 x3 C = some r) (Kr : ∀ (v : Int32), r = v → res = (some (.int v), (C, M))) : J mi_X1_hasRow res 0 0 0 [(0, .ref (x0)), (1, .long (x1)), (3, .int (x3))] [] (C, M) := by
  rw [f_X1_hasRow] at h
  refine J_lconst 1 dX1_hasRow_0 rfl ?_
  refine J_iload_n dX1_hasRow_1 rfl 2 rfl ?_
  refine J_lshl dX1_hasRow_2 ?_
  refine J_lconst 1 dX1_hasRow_3 rfl ?_
  refine J_lsub dX1_hasRow_4 ?_
  refine J_lstore (L' := [(4, .long ((((1 : Int64) <<< ((x3 : Int32).toInt64 &&& 63)) - (1 : Int64)))), (0, .ref (x0)), (1, .long (x1)), (3, .int (x3))]) dX1_hasRow_5 (by decide) rfl ?_
  refine J_iconst 0 dX1_hasRow_7 rfl ?_
  refine J_istore (L' := [(6, .int ((0 : Int32))), (4, .long ((((1 : Int64) <<< ((x3 : Int32).toInt64 &&& 63)) - (1 : Int64)))), (0, .ref (x0)), (1, .long (x1)), (3, .int (x3))]) dX1_hasRow_8 (by decide) rfl ?_
  refine J_sub [2, 3, 1, 0] rfl ?_
  obtain ⟨z5, h6, h⟩ := br_b h
  refine jl_X1_hasRow_10 qx0 FU _ h6 ?_ ?_
  · intro e
    subst e
    have h := br_l h
    refine J_iconst 0 dX1_hasRow_42 rfl ?_
    have h := Option.some.inj h
    subst h
    exact J_zret (Or.inl rfl) rfl rfl rfl (Kr _ rfl) dX1_hasRow_43
  · intro v e
    subst e
    have h := br_r h
    have h := Option.some.inj h
    subst h
    exact Kr _ rfl
theorem ct_X1_hasRow {x0 : Nat} {x1 : Int64} {x3 : Int32} {C : aSc} {M : aMm} {v : Int32} (qx0 : isL x0) (h : f_X1_hasRow x0 x1 x3 C = some v) : Ct mi_X1_hasRow yX1_hasRow [.ref (x0), .long (x1), .int (x3)] (C, M) (some (.int v), (C, M)) := Ct_of_J (by decide +kernel) rfl (Nat.le_of_ble_eq_true rfl) (jm_X1_hasRow qx0 h (fun _ e => by cases e; rfl))
def mi_X7_fits : aMi := (cX7_fits, 7, RX7, (some .int), { frames := 1, cells := 0, slots := 0, locals := 26 })
def b_X7_fits_46 (x2 : Nat) (x3 : Int64) (x5 : Int32) (x6 : Int32) (C : aSc) : Option ((Int32 × Int32) ⊕ (Int32)) :=
  if ((a_gi C 0 2) : Int32) ≤ x6 then some (.inr x5) else (a_rf 24 3 10 x6).bind fun c8 => (f_X1_hasRow c8 x3 (a_gi C x2 1) C).bind fun r12 => if (r12 : Int32) = 0 then some (.inl (x5, (x6 + (1 : Int32)))) else some (.inl ((x5 ||| ((1 : Int32) <<< (x6 &&& 31))), (x6 + (1 : Int32))))
set_option maxRecDepth 100000 in
set_option maxHeartbeats 4000000 in
theorem jl_X7_fits_46 {x2 : Nat} {x3 : Int64} {C : aSc} {M : aMm} (qx2 : isS x2) {res : aRes} {r : Int32} : ∀ (n : Nat) (x5 : Int32) (x6 : Int32), lpf (fun a : Int32 × Int32 => b_X7_fits_46 (x2) (x3) a.1 a.2 C) n (x5, x6) = some r → (∀ (z5 : Int32), r = z5 → J mi_X7_fits res 0 0 88 [(5, .int (z5))] [] (C, M)) → J mi_X7_fits res 0 0 46 [(0, .ref (0)), (2, .ref (x2)), (3, .long (x3)), (5, .int (x5)), (6, .int (x6))] [] (C, M) := by
  intro n
  induction n with
  | zero =>
    intro x5 x6 h
    cases h
  | succ n ih =>
    intro x5 x6 h Kx
    obtain ⟨r0, h, h2⟩ := br_b h
    have h : b_X7_fits_46 x2 x3 x5 x6 C = some r0 := h
    rw [b_X7_fits_46] at h
    refine J_iload dX7_fits_46 4 rfl ?_
    refine J_aload_n dX7_fits_48 rfl 0 rfl ?_
    refine J_geti (j := 2) rfl (by decide) (by decide) rfl (by decide) rfl kf_X7_89 dX7_fits_49 ?_
    refine J_icmp_ge 88 dX7_fits_52 (by decide) (fun c14 => ?_) (fun c14 => ?_)
    · have h := br_p c14 h
      have h := Option.some.inj h
      subst h
      have h2 := Option.some.inj h2
      subst h2
      refine J_sub [3] rfl ?_
      exact Kx _ rfl
    · have h := br_n c14 h
      refine J_aload_n dX7_fits_55 rfl 0 rfl ?_
      refine J_getr (j := 1) (t := 11) (r := 3) rfl (by decide) (by decide) rfl (by decide) rfl rfl kf_X7_18 dX7_fits_56 ?_
      refine J_iload dX7_fits_59 4 rfl ?_
      obtain ⟨c8, h9, h⟩ := br_b h
      have q10 := a_rfL h9
      refine J_aaldL h9 dX7_fits_61 ?_
      refine J_lload_n dX7_fits_62 rfl 2 rfl ?_
      refine J_aload_n dX7_fits_63 rfl 1 rfl ?_
      refine J_geti (j := 1) qx2.1 qx2.2.1 (by decide) rfl (by decide) rfl kf_X7_204 dX7_fits_64 ?_
      obtain ⟨r12, h11, h⟩ := br_b h
      refine J_callV (mj := mi_X1_hasRow) (as := [.long (x3), .int ((a_gi C x2 1))]) (rest := []) (ct_X1_hasRow (M := M) q10 h11) ⟨rfl, rfl⟩ rfl q10.1 (by decide) rfl cg_X7_207 hd_X1_hasRow rfl ⟨Nat.le_of_ble_eq_true rfl, Nat.le_of_ble_eq_true rfl⟩ (Nat.le_of_ble_eq_true rfl) ⟨Nat.zero_le _, Nat.zero_le _⟩ dX7_fits_67 ?_
      refine J_if_eq 82 dX7_fits_70 (by decide) (fun c13 => ?_) (fun c13 => ?_)
      · have h := br_p c13 h
        refine J_iinc (j := 4) (v := (x6 + (1 : Int32))) (L' := [(6, .int ((x6 + (1 : Int32)))), (0, .ref (0)), (2, .ref (x2)), (3, .long (x3)), (5, .int (x5))]) dX7_fits_82 rfl rfl (by decide) rfl ?_
        refine J_goto 46 dX7_fits_85 (by decide) ?_
        have h := Option.some.inj h
        subst h
        refine J_sub [1, 2, 3, 4, 0] rfl ?_
        exact ih _ _ h2 Kx
      · have h := br_n c13 h
        refine J_iload dX7_fits_73 3 rfl ?_
        refine J_iconst 1 dX7_fits_75 rfl ?_
        refine J_iload dX7_fits_76 4 rfl ?_
        refine J_ishl dX7_fits_78 ?_
        refine J_ior dX7_fits_79 ?_
        refine J_istore (L' := [(5, .int ((x5 ||| ((1 : Int32) <<< (x6 &&& 31))))), (0, .ref (0)), (2, .ref (x2)), (3, .long (x3)), (6, .int (x6))]) dX7_fits_80 (by decide) rfl ?_
        refine J_iinc (j := 4) (v := (x6 + (1 : Int32))) (L' := [(6, .int ((x6 + (1 : Int32)))), (5, .int ((x5 ||| ((1 : Int32) <<< (x6 &&& 31))))), (0, .ref (0)), (2, .ref (x2)), (3, .long (x3))]) dX7_fits_82 rfl rfl (by decide) rfl ?_
        refine J_goto 46 dX7_fits_85 (by decide) ?_
        have h := Option.some.inj h
        subst h
        refine J_sub [2, 3, 4, 1, 0] rfl ?_
        exact ih _ _ h2 Kx
def f_X7_fits (x1 : Int32) (C : aSc) : Option (Int32 × aSc) :=
  (f_X7_isSheet x1 C).bind fun r2 => if (r2 : Int32) = 0 then bd2 (f_X7_refuse (-100001 : Int32) C) fun r23 C24 => some (r23, C24) else (a_rf 54 2 4 x1).bind fun c3 => if ((a_gi C c3 0) : Int32) = 0 then bd2 (f_X7_refuse (-100002 : Int32) C) fun r19 C20 => some (r19, C20) else (f_X3_asSeconds c3 C).bind fun r7 => (lpf (fun a : Int32 × Int32 => b_X7_fits_46 (c3) (r7) a.1 a.2 C) FU ((0 : Int32), (0 : Int32))).bind fun z15 => some (z15, C)
set_option maxRecDepth 100000 in
set_option maxHeartbeats 4000000 in
theorem jm_X7_fits {x1 : Int32} {C : aSc} {M : aMm}  {res : aRes} {r : Int32 × aSc} (h : f_X7_fits x1 C = some r) (Kr : ∀ (v : Int32) (S' : aSc), r = (v, S') → res = (some (.int v), (S', M))) : J mi_X7_fits res 0 0 0 [(0, .ref (0)), (1, .int (x1))] [] (C, M) := by
  rw [f_X7_fits] at h
  refine J_iload_n dX7_fits_0 rfl 1 rfl ?_
  obtain ⟨r2, h1, h⟩ := br_b h
  refine J_callS (mj := mi_X7_isSheet) (as := [.int (x1)]) (rest := []) (ct_X7_isSheet (M := M)  h1) ⟨rfl, rfl⟩ rfl cg_X7_193 hd_X7_isSheet rfl ⟨Nat.le_of_ble_eq_true rfl, Nat.le_of_ble_eq_true rfl⟩ (Nat.le_of_ble_eq_true rfl) ⟨Nat.zero_le _, Nat.zero_le _⟩ dX7_fits_1 ?_
  refine J_if_ne 14 dX7_fits_4 (by decide) (fun c25 => ?_) (fun c25 => ?_)
  · have h := br_n c25 h
    refine J_aload_n dX7_fits_14 rfl 0 rfl ?_
    refine J_getr (j := 16) (t := 29) (r := 21) rfl (by decide) (by decide) rfl (by decide) rfl rfl kf_X7_55 dX7_fits_15 ?_
    refine J_iload_n dX7_fits_18 rfl 1 rfl ?_
    obtain ⟨c3, h4, h⟩ := br_b h
    have q5 := a_rfS h4
    refine J_aaldS h4 dX7_fits_19 ?_
    refine J_astore_n (L' := [(2, .ref (c3)), (0, .ref (0)), (1, .int (x1))]) dX7_fits_20 rfl (by decide) rfl ?_
    refine J_aload_n dX7_fits_21 rfl 0 rfl ?_
    refine J_geti (j := 0) q5.1 q5.2.1 (by decide) rfl (by decide) rfl kf_X7_196 dX7_fits_22 ?_
    refine J_if_ne 35 dX7_fits_25 (by decide) (fun c21 => ?_) (fun c21 => ?_)
    · have h := br_n c21 h
      refine J_aload_n dX7_fits_35 rfl 0 rfl ?_
      obtain ⟨r7, h6, h⟩ := br_b h
      refine J_callV (mj := mi_X3_asSeconds) (as := []) (rest := []) (ct_X3_asSeconds (M := M) q5 h6) ⟨rfl, rfl⟩ rfl q5.1 (by decide) rfl cg_X7_200 hd_X3_asSeconds rfl ⟨Nat.le_of_ble_eq_true rfl, Nat.le_of_ble_eq_true rfl⟩ (Nat.le_of_ble_eq_true rfl) ⟨Nat.zero_le _, Nat.zero_le _⟩ dX7_fits_36 ?_
      refine J_lstore_n (L' := [(3, .long (r7)), (2, .ref (c3)), (0, .ref (0)), (1, .int (x1))]) dX7_fits_39 rfl (by decide) rfl ?_
      refine J_iconst 0 dX7_fits_40 rfl ?_
      refine J_istore (L' := [(5, .int ((0 : Int32))), (3, .long (r7)), (2, .ref (c3)), (0, .ref (0)), (1, .int (x1))]) dX7_fits_41 (by decide) rfl ?_
      refine J_iconst 0 dX7_fits_43 rfl ?_
      refine J_istore (L' := [(6, .int ((0 : Int32))), (5, .int ((0 : Int32))), (3, .long (r7)), (2, .ref (c3)), (0, .ref (0)), (1, .int (x1))]) dX7_fits_44 (by decide) rfl ?_
      refine J_sub [4, 3, 2, 1, 0] rfl ?_
      obtain ⟨z15, h16, h⟩ := br_b h
      refine jl_X7_fits_46 q5 FU _ _ h16 ?_
      intro zz e
      subst e
      refine J_iload dX7_fits_88 0 rfl ?_
      have h := Option.some.inj h
      subst h
      exact J_iret rfl rfl rfl (Kr _ _ rfl) dX7_fits_90
    · have h := br_p c21 h
      refine J_aload_n dX7_fits_28 rfl 1 rfl ?_
      refine J_ldc (-100002) dX7_fits_29 kc_X7_199 ?_
      obtain ⟨r19, C20, h18, h⟩ := br_b2 h
      refine J_callV (mj := mi_X7_refuse) (as := [.int ((-100002 : Int32))]) (rest := []) (ct_X7_refuse (M := M)  h18) ⟨rfl, rfl⟩ rfl rfl (by decide) rfl cg_X7_69 hd_X7_refuse rfl ⟨Nat.le_of_ble_eq_true rfl, Nat.le_of_ble_eq_true rfl⟩ (Nat.le_of_ble_eq_true rfl) ⟨Nat.zero_le _, Nat.zero_le _⟩ dX7_fits_31 ?_
      have h := Option.some.inj h
      subst h
      exact J_iret rfl rfl rfl (Kr _ _ rfl) dX7_fits_34
  · have h := br_p c25 h
    refine J_aload_n dX7_fits_7 rfl 0 rfl ?_
    refine J_ldc (-100001) dX7_fits_8 kc_X7_68 ?_
    obtain ⟨r23, C24, h22, h⟩ := br_b2 h
    refine J_callV (mj := mi_X7_refuse) (as := [.int ((-100001 : Int32))]) (rest := []) (ct_X7_refuse (M := M)  h22) ⟨rfl, rfl⟩ rfl rfl (by decide) rfl cg_X7_69 hd_X7_refuse rfl ⟨Nat.le_of_ble_eq_true rfl, Nat.le_of_ble_eq_true rfl⟩ (Nat.le_of_ble_eq_true rfl) ⟨Nat.zero_le _, Nat.zero_le _⟩ dX7_fits_10 ?_
    have h := Option.some.inj h
    subst h
    exact J_iret rfl rfl rfl (Kr _ _ rfl) dX7_fits_13
theorem ct_X7_fits {x1 : Int32} {C : aSc} {M : aMm} {v : Int32} {S' : aSc}  (h : f_X7_fits x1 C = some (v, S')) : Ct mi_X7_fits yX7_fits [.ref (0), .int (x1)] (C, M) (some (.int v), (S', M)) := Ct_of_J (by decide +kernel) rfl (Nat.le_of_ble_eq_true rfl) (jm_X7_fits  h (fun _ _ e => by cases e; rfl))
def mi_X7_bearing : aMi := (cX7_bearing, 4, RX7, (some .int), { frames := 3, cells := 0, slots := 0, locals := 66 })
def f_X7_bearing (x1 : Int32) (x2 : Int32) (x3 : Int32) (C : aSc) : Option (Int32 × aSc) :=
  (f_X7_isLight x1 C).bind fun r2 => if (r2 : Int32) = 0 then bd2 (f_X7_refuse (-100001 : Int32) C) fun r4 C5 => some (r4, C5) else (f_X7_isDirection x2 C).bind fun r7 => if (r7 : Int32) = 0 then bd2 (f_X7_refuse (-100001 : Int32) C) fun r9 C10 => some (r9, C10) else (f_X7_isDirection x3 C).bind fun r12 => if (r12 : Int32) = 0 then bd2 (f_X7_refuse (-100001 : Int32) C) fun r29 C30 => some (r29, C30) else if ((a_gi C 0 6) : Int32) < (8 : Int32) then bd2 (f_X7_remember (5 : Int32) (0 : Int32) (0 : Int32) C) fun r14 C15 => if 62 ≤ r14 ∧ r14 < 94 ∧ r14 % 2 = 0 then (f_X7_turnedOver x2 x3 C15).bind fun r19 => (a_st C15 4 (a_gi C15 0 6) ((x1 <<< ((16 : Int32) &&& 31)) ||| r19)).bind fun C20 => (some (a_pi C20 0 6 ((a_gi C20 0 6) + (1 : Int32)))).bind fun C22 => some ((a_gi C22 0 6), C22) else none else bd2 (f_X7_refuse (-100005 : Int32) C) fun r25 C26 => some (r25, C26)
set_option maxRecDepth 100000 in
set_option maxHeartbeats 4000000 in
theorem jm_X7_bearing {x1 : Int32} {x2 : Int32} {x3 : Int32} {C : aSc} {M : aMm}  {res : aRes} {r : Int32 × aSc} (h : f_X7_bearing x1 x2 x3 C = some r) (Kr : ∀ (v : Int32) (S' : aSc), r = (v, S') → res = (some (.int v), (S', M))) : J mi_X7_bearing res 0 0 0 [(0, .ref (0)), (1, .int (x1)), (2, .int (x2)), (3, .int (x3))] [] (C, M) := by
  rw [f_X7_bearing] at h
  refine J_aload_n dX7_bearing_0 rfl 0 rfl ?_
  refine J_iload_n dX7_bearing_1 rfl 1 rfl ?_
  obtain ⟨r2, h1, h⟩ := br_b h
  refine J_callV (mj := mi_X7_isLight) (as := [.int (x1)]) (rest := []) (ct_X7_isLight (M := M)  h1) ⟨rfl, rfl⟩ rfl rfl (by decide) rfl cg_X7_108 hd_X7_isLight rfl ⟨Nat.le_of_ble_eq_true rfl, Nat.le_of_ble_eq_true rfl⟩ (Nat.le_of_ble_eq_true rfl) ⟨Nat.zero_le _, Nat.zero_le _⟩ dX7_bearing_2 ?_
  refine J_if_eq 22 dX7_bearing_5 (by decide) (fun c33 => ?_) (fun c33 => ?_)
  · have h := br_p c33 h
    refine J_aload_n dX7_bearing_22 rfl 0 rfl ?_
    refine J_ldc (-100001) dX7_bearing_23 kc_X7_68 ?_
    obtain ⟨r4, C5, h3, h⟩ := br_b2 h
    refine J_callV (mj := mi_X7_refuse) (as := [.int ((-100001 : Int32))]) (rest := []) (ct_X7_refuse (M := M)  h3) ⟨rfl, rfl⟩ rfl rfl (by decide) rfl cg_X7_69 hd_X7_refuse rfl ⟨Nat.le_of_ble_eq_true rfl, Nat.le_of_ble_eq_true rfl⟩ (Nat.le_of_ble_eq_true rfl) ⟨Nat.zero_le _, Nat.zero_le _⟩ dX7_bearing_25 ?_
    have h := Option.some.inj h
    subst h
    exact J_iret rfl rfl rfl (Kr _ _ rfl) dX7_bearing_28
  · have h := br_n c33 h
    refine J_iload_n dX7_bearing_8 rfl 2 rfl ?_
    obtain ⟨r7, h6, h⟩ := br_b h
    refine J_callS (mj := mi_X7_isDirection) (as := [.int (x2)]) (rest := []) (ct_X7_isDirection (M := M)  h6) ⟨rfl, rfl⟩ rfl cg_X7_150 hd_X7_isDirection rfl ⟨Nat.le_of_ble_eq_true rfl, Nat.le_of_ble_eq_true rfl⟩ (Nat.le_of_ble_eq_true rfl) ⟨Nat.zero_le _, Nat.zero_le _⟩ dX7_bearing_9 ?_
    refine J_if_eq 22 dX7_bearing_12 (by decide) (fun c32 => ?_) (fun c32 => ?_)
    · have h := br_p c32 h
      refine J_aload_n dX7_bearing_22 rfl 0 rfl ?_
      refine J_ldc (-100001) dX7_bearing_23 kc_X7_68 ?_
      obtain ⟨r9, C10, h8, h⟩ := br_b2 h
      refine J_callV (mj := mi_X7_refuse) (as := [.int ((-100001 : Int32))]) (rest := []) (ct_X7_refuse (M := M)  h8) ⟨rfl, rfl⟩ rfl rfl (by decide) rfl cg_X7_69 hd_X7_refuse rfl ⟨Nat.le_of_ble_eq_true rfl, Nat.le_of_ble_eq_true rfl⟩ (Nat.le_of_ble_eq_true rfl) ⟨Nat.zero_le _, Nat.zero_le _⟩ dX7_bearing_25 ?_
      have h := Option.some.inj h
      subst h
      exact J_iret rfl rfl rfl (Kr _ _ rfl) dX7_bearing_28
    · have h := br_n c32 h
      refine J_iload_n dX7_bearing_15 rfl 3 rfl ?_
      obtain ⟨r12, h11, h⟩ := br_b h
      refine J_callS (mj := mi_X7_isDirection) (as := [.int (x3)]) (rest := []) (ct_X7_isDirection (M := M)  h11) ⟨rfl, rfl⟩ rfl cg_X7_150 hd_X7_isDirection rfl ⟨Nat.le_of_ble_eq_true rfl, Nat.le_of_ble_eq_true rfl⟩ (Nat.le_of_ble_eq_true rfl) ⟨Nat.zero_le _, Nat.zero_le _⟩ dX7_bearing_16 ?_
      refine J_if_ne 29 dX7_bearing_19 (by decide) (fun c31 => ?_) (fun c31 => ?_)
      · have h := br_n c31 h
        refine J_aload_n dX7_bearing_29 rfl 0 rfl ?_
        refine J_geti (j := 6) rfl (by decide) (by decide) rfl (by decide) rfl kf_X7_211 dX7_bearing_30 ?_
        refine J_bipush 8 dX7_bearing_33 rfl ?_
        refine J_icmp_lt 45 dX7_bearing_35 (by decide) (fun c27 => ?_) (fun c27 => ?_)
        · have h := br_p c27 h
          refine J_aload_n dX7_bearing_45 rfl 0 rfl ?_
          refine J_iconst 5 dX7_bearing_46 rfl ?_
          refine J_iconst 0 dX7_bearing_47 rfl ?_
          refine J_iconst 0 dX7_bearing_48 rfl ?_
          obtain ⟨r14, C15, h13, h⟩ := br_b2 h
          obtain ⟨h17, h⟩ := br_g h
          have q16 := a_ckP_is h17
          refine J_callV (mj := mi_X7_remember) (as := [.int ((5 : Int32)), .int ((0 : Int32)), .int ((0 : Int32))]) (rest := []) (ct_X7_remember (M := M)  h13) ⟨rfl, rfl⟩ rfl rfl (by decide) rfl cg_X7_96 hd_X7_remember rfl ⟨Nat.le_of_ble_eq_true rfl, Nat.le_of_ble_eq_true rfl⟩ (Nat.le_of_ble_eq_true rfl) ⟨Nat.zero_le _, Nat.zero_le _⟩ dX7_bearing_49 ?_
          refine J_pop dX7_bearing_52 rfl ?_
          refine J_aload_n dX7_bearing_53 rfl 0 rfl ?_
          refine J_getr (j := 5) (t := 12) (r := 4) rfl (by decide) (by decide) rfl (by decide) rfl rfl kf_X7_22 dX7_bearing_54 ?_
          refine J_aload_n dX7_bearing_57 rfl 0 rfl ?_
          refine J_geti (j := 6) rfl (by decide) (by decide) rfl (by decide) rfl kf_X7_211 dX7_bearing_58 ?_
          refine J_iload_n dX7_bearing_61 rfl 1 rfl ?_
          refine J_bipush 16 dX7_bearing_62 rfl ?_
          refine J_ishl dX7_bearing_64 ?_
          refine J_iload_n dX7_bearing_65 rfl 2 rfl ?_
          refine J_iload_n dX7_bearing_66 rfl 3 rfl ?_
          obtain ⟨r19, h18, h⟩ := br_b h
          refine J_callS (mj := mi_X7_turnedOver) (as := [.int (x2), .int (x3)]) (rest := [.int ((x1 <<< ((16 : Int32) &&& 31))), .int ((a_gi C15 0 6)), .ref (4)]) (ct_X7_turnedOver (M := M)  h18) ⟨rfl, rfl⟩ rfl cg_X7_156 hd_X7_turnedOver rfl ⟨Nat.le_of_ble_eq_true rfl, Nat.le_of_ble_eq_true rfl⟩ (Nat.le_of_ble_eq_true rfl) ⟨Nat.zero_le _, Nat.zero_le _⟩ dX7_bearing_67 ?_
          refine J_ior dX7_bearing_70 ?_
          obtain ⟨C20, h21, h⟩ := br_b h
          refine J_iast rfl (by decide) h21 dX7_bearing_71 ?_
          refine J_aload_n dX7_bearing_72 rfl 0 rfl ?_
          refine J_dup dX7_bearing_73 rfl ?_
          refine J_geti (j := 6) rfl (by decide) (by decide) rfl (by decide) rfl kf_X7_211 dX7_bearing_74 ?_
          refine J_iconst 1 dX7_bearing_77 rfl ?_
          refine J_iadd dX7_bearing_78 ?_
          obtain ⟨C22, e23, h⟩ := br_s h
          refine J_puti (j := 6) rfl (by decide) (by decide) rfl (by decide) rfl rfl rfl kf_X7_211 e23 dX7_bearing_79 ?_
          refine J_aload_n dX7_bearing_82 rfl 0 rfl ?_
          refine J_geti (j := 6) rfl (by decide) (by decide) rfl (by decide) rfl kf_X7_211 dX7_bearing_83 ?_
          have h := Option.some.inj h
          subst h
          exact J_iret rfl rfl rfl (Kr _ _ rfl) dX7_bearing_86
        · have h := br_n c27 h
          refine J_aload_n dX7_bearing_38 rfl 0 rfl ?_
          refine J_ldc (-100005) dX7_bearing_39 kc_X7_77 ?_
          obtain ⟨r25, C26, h24, h⟩ := br_b2 h
          refine J_callV (mj := mi_X7_refuse) (as := [.int ((-100005 : Int32))]) (rest := []) (ct_X7_refuse (M := M)  h24) ⟨rfl, rfl⟩ rfl rfl (by decide) rfl cg_X7_69 hd_X7_refuse rfl ⟨Nat.le_of_ble_eq_true rfl, Nat.le_of_ble_eq_true rfl⟩ (Nat.le_of_ble_eq_true rfl) ⟨Nat.zero_le _, Nat.zero_le _⟩ dX7_bearing_41 ?_
          have h := Option.some.inj h
          subst h
          exact J_iret rfl rfl rfl (Kr _ _ rfl) dX7_bearing_44
      · have h := br_p c31 h
        refine J_aload_n dX7_bearing_22 rfl 0 rfl ?_
        refine J_ldc (-100001) dX7_bearing_23 kc_X7_68 ?_
        obtain ⟨r29, C30, h28, h⟩ := br_b2 h
        refine J_callV (mj := mi_X7_refuse) (as := [.int ((-100001 : Int32))]) (rest := []) (ct_X7_refuse (M := M)  h28) ⟨rfl, rfl⟩ rfl rfl (by decide) rfl cg_X7_69 hd_X7_refuse rfl ⟨Nat.le_of_ble_eq_true rfl, Nat.le_of_ble_eq_true rfl⟩ (Nat.le_of_ble_eq_true rfl) ⟨Nat.zero_le _, Nat.zero_le _⟩ dX7_bearing_25 ?_
        have h := Option.some.inj h
        subst h
        exact J_iret rfl rfl rfl (Kr _ _ rfl) dX7_bearing_28
theorem ct_X7_bearing {x1 : Int32} {x2 : Int32} {x3 : Int32} {C : aSc} {M : aMm} {v : Int32} {S' : aSc}  (h : f_X7_bearing x1 x2 x3 C = some (v, S')) : Ct mi_X7_bearing yX7_bearing [.ref (0), .int (x1), .int (x2), .int (x3)] (C, M) (some (.int v), (S', M)) := Ct_of_J (by decide +kernel) rfl (Nat.le_of_ble_eq_true rfl) (jm_X7_bearing  h (fun _ _ e => by cases e; rfl))
def mi_X7_clear : aMi := (cX7_clear, 3, RX7, (some .int), { frames := 3, cells := 0, slots := 0, locals := 66 })
def f_X7_clear  (C : aSc) : Option (Int32 × aSc) :=
  bd2 (f_X7_remember (6 : Int32) (0 : Int32) (a_gi C 0 6) C) fun r2 C3 => if 62 ≤ r2 ∧ r2 < 94 ∧ r2 % 2 = 0 then (a_cpy C3 4 (0 : Int32) (r2 + 1) (0 : Int32) (a_gi C 0 6)).bind fun C6 => (some (a_pi C6 0 6 (0 : Int32))).bind fun C8 => some ((a_gi C 0 6), C8) else none
set_option maxRecDepth 100000 in
set_option maxHeartbeats 4000000 in
theorem jm_X7_clear  {C : aSc} {M : aMm}  {res : aRes} {r : Int32 × aSc} (h : f_X7_clear  C = some r) (Kr : ∀ (v : Int32) (S' : aSc), r = (v, S') → res = (some (.int v), (S', M))) : J mi_X7_clear res 0 0 0 [(0, .ref (0))] [] (C, M) := by
  rw [f_X7_clear] at h
  refine J_aload_n dX7_clear_0 rfl 0 rfl ?_
  refine J_geti (j := 6) rfl (by decide) (by decide) rfl (by decide) rfl kf_X7_211 dX7_clear_1 ?_
  refine J_istore_n (L' := [(1, .int ((a_gi C 0 6))), (0, .ref (0))]) dX7_clear_4 rfl (by decide) rfl ?_
  refine J_aload_n dX7_clear_5 rfl 1 rfl ?_
  refine J_bipush 6 dX7_clear_6 rfl ?_
  refine J_iconst 0 dX7_clear_8 rfl ?_
  refine J_iload_n dX7_clear_9 rfl 0 rfl ?_
  obtain ⟨r2, C3, h1, h⟩ := br_b2 h
  obtain ⟨h5, h⟩ := br_g h
  have q4 := a_ckP_is h5
  refine J_callV (mj := mi_X7_remember) (as := [.int ((6 : Int32)), .int ((0 : Int32)), .int ((a_gi C 0 6))]) (rest := []) (ct_X7_remember (M := M)  h1) ⟨rfl, rfl⟩ rfl rfl (by decide) rfl cg_X7_96 hd_X7_remember rfl ⟨Nat.le_of_ble_eq_true rfl, Nat.le_of_ble_eq_true rfl⟩ (Nat.le_of_ble_eq_true rfl) ⟨Nat.zero_le _, Nat.zero_le _⟩ dX7_clear_10 ?_
  refine J_astore_n (L' := [(2, .ref (r2)), (1, .int ((a_gi C 0 6))), (0, .ref (0))]) dX7_clear_13 rfl (by decide) rfl ?_
  refine J_aload_n dX7_clear_14 rfl 2 rfl ?_
  refine J_getr (j := 5) (t := 12) (r := 4) rfl (by decide) (by decide) rfl (by decide) rfl rfl kf_X7_22 dX7_clear_15 ?_
  refine J_iconst 0 dX7_clear_18 rfl ?_
  refine J_aload_n dX7_clear_19 rfl 0 rfl ?_
  refine J_getr (j := 3) (t := 0) (r := r2 + 1) q4.1 (Nat.lt_trans q4.2.1 (by decide)) (by decide) rfl (by decide) rfl rfl kf_X7_214 dX7_clear_20 ?_
  refine J_iconst 0 dX7_clear_23 rfl ?_
  refine J_iload_n dX7_clear_24 rfl 1 rfl ?_
  obtain ⟨C6, h7, h⟩ := br_b h
  refine J_copy km_X7_219 kna_cpy kst_cpy ki_System rfl (by decide) q4.2.2.1 q4.2.2.2 h7 (by decide) (Nat.le_of_ble_eq_true rfl) dX7_clear_25 ?_
  refine J_aload_n dX7_clear_28 rfl 2 rfl ?_
  refine J_iconst 0 dX7_clear_29 rfl ?_
  obtain ⟨C8, e9, h⟩ := br_s h
  refine J_puti (j := 6) rfl (by decide) (by decide) rfl (by decide) rfl rfl rfl kf_X7_211 e9 dX7_clear_30 ?_
  refine J_iload_n dX7_clear_33 rfl 1 rfl ?_
  have h := Option.some.inj h
  subst h
  exact J_iret rfl rfl rfl (Kr _ _ rfl) dX7_clear_34
theorem ct_X7_clear  {C : aSc} {M : aMm} {v : Int32} {S' : aSc}  (h : f_X7_clear  C = some (v, S')) : Ct mi_X7_clear yX7_clear [.ref (0)] (C, M) (some (.int v), (S', M)) := Ct_of_J (by decide +kernel) rfl (Nat.le_of_ble_eq_true rfl) (jm_X7_clear  h (fun _ _ e => by cases e; rfl))
def mi_X7_liesIn : aMi := (cX7_liesIn, 3, RX7, (some .boolean), { frames := 1, cells := 0, slots := 0, locals := 26 })
def f_X7_liesIn (x0 : Int32) (x1 : Int32) (x2 : Int32) (C : aSc) : Option (Int32) :=
  if (x1 : Int32) = x2 then some (1 : Int32) else (f_X7_directionOf x1 x2 C).bind fun r2 => if (((x0 >>> (r2 &&& 31)) &&& (1 : Int32)) : Int32) = (1 : Int32) then some (1 : Int32) else some (0 : Int32)
set_option maxRecDepth 100000 in
set_option maxHeartbeats 4000000 in
theorem jm_X7_liesIn {x0 : Int32} {x1 : Int32} {x2 : Int32} {C : aSc} {M : aMm}  {res : aRes} {r : Int32} (h : f_X7_liesIn x0 x1 x2 C = some r) (Kr : ∀ (v : Int32), r = v → res = (some (.int v), (C, M))) : J mi_X7_liesIn res 0 0 0 [(0, .int (x0)), (1, .int (x1)), (2, .int (x2))] [] (C, M) := by
  rw [f_X7_liesIn] at h
  refine J_iload_n dX7_liesIn_0 rfl 1 rfl ?_
  refine J_iload_n dX7_liesIn_1 rfl 2 rfl ?_
  refine J_icmp_eq 18 dX7_liesIn_2 (by decide) (fun c4 => ?_) (fun c4 => ?_)
  · have h := br_p c4 h
    refine J_iconst 1 dX7_liesIn_18 rfl ?_
    refine J_goto 23 dX7_liesIn_19 (by decide) ?_
    have h := Option.some.inj h
    subst h
    exact J_zret (Or.inr rfl) rfl rfl rfl (Kr _ rfl) dX7_liesIn_23
  · have h := br_n c4 h
    refine J_iload_n dX7_liesIn_5 rfl 0 rfl ?_
    refine J_iload_n dX7_liesIn_6 rfl 1 rfl ?_
    refine J_iload_n dX7_liesIn_7 rfl 2 rfl ?_
    obtain ⟨r2, h1, h⟩ := br_b h
    refine J_callS (mj := mi_X7_directionOf) (as := [.int (x1), .int (x2)]) (rest := [.int (x0)]) (ct_X7_directionOf (M := M)  h1) ⟨rfl, rfl⟩ rfl cg_X7_161 hd_X7_directionOf rfl ⟨Nat.le_of_ble_eq_true rfl, Nat.le_of_ble_eq_true rfl⟩ (Nat.le_of_ble_eq_true rfl) ⟨Nat.zero_le _, Nat.zero_le _⟩ dX7_liesIn_8 ?_
    refine J_ishr dX7_liesIn_11 ?_
    refine J_iconst 1 dX7_liesIn_12 rfl ?_
    refine J_iand dX7_liesIn_13 ?_
    refine J_iconst 1 dX7_liesIn_14 rfl ?_
    refine J_icmp_ne 22 dX7_liesIn_15 (by decide) (fun c3 => ?_) (fun c3 => ?_)
    · have h := br_n c3 h
      refine J_iconst 0 dX7_liesIn_22 rfl ?_
      have h := Option.some.inj h
      subst h
      exact J_zret (Or.inl rfl) rfl rfl rfl (Kr _ rfl) dX7_liesIn_23
    · have h := br_p c3 h
      refine J_iconst 1 dX7_liesIn_18 rfl ?_
      refine J_goto 23 dX7_liesIn_19 (by decide) ?_
      have h := Option.some.inj h
      subst h
      exact J_zret (Or.inr rfl) rfl rfl rfl (Kr _ rfl) dX7_liesIn_23
theorem ct_X7_liesIn {x0 : Int32} {x1 : Int32} {x2 : Int32} {C : aSc} {M : aMm} {v : Int32}  (h : f_X7_liesIn x0 x1 x2 C = some v) : Ct mi_X7_liesIn yX7_liesIn [.int (x0), .int (x1), .int (x2)] (C, M) (some (.int v), (C, M)) := Ct_of_J (by decide +kernel) rfl (Nat.le_of_ble_eq_true rfl) (jm_X7_liesIn  h (fun _ e => by cases e; rfl))
def mi_X7_holdsFor : aMi := (cX7_holdsFor, 12, RX7, (some .boolean), { frames := 2, cells := 0, slots := 0, locals := 48 })
def b_X7_holdsFor_85 (x1 : Int32) (x2 : Nat) (x3 : Int32) (x4 : Int32) (x5 : Int32) (x7 : Int32) (x8 : Int32) (x9 : Int32) (x10 : Int32) (C : aSc) : Option ((Int32) ⊕ ((Unit) ⊕ (Int32))) :=
  if (x7 : Int32) < x10 then some (.inr (.inl ())) else (f_X7_isWithin x4 x1 ((x9 * (16 : Int32)) + x10) C).bind fun r4 => if (r4 : Int32) = 0 then some (.inl (x10 + (1 : Int32))) else (f_X7_liesIn x3 x1 ((x9 * (16 : Int32)) + x10) C).bind fun r6 => if (r6 : Int32) = 0 then some (.inl (x10 + (1 : Int32))) else some (.inr (.inr (1 : Int32)))
set_option maxRecDepth 100000 in
set_option maxHeartbeats 4000000 in
theorem jl_X7_holdsFor_85 {x1 : Int32} {x2 : Nat} {x3 : Int32} {x4 : Int32} {x5 : Int32} {x7 : Int32} {x8 : Int32} {x9 : Int32} {C : aSc} {M : aMm} (qx2 : isL x2) {res : aRes} {r : (Unit) ⊕ (Int32)} : ∀ (n : Nat) (x10 : Int32), lpf (fun a : Int32 => b_X7_holdsFor_85 (x1) (x2) (x3) (x4) (x5) (x7) (x8) (x9) a C) n x10 = some r → (r = .inl () → J mi_X7_holdsFor res 0 0 131 [(1, .int (x1)), (2, .ref (x2)), (3, .int (x3)), (4, .int (x4)), (5, .int (x5)), (7, .int (x7)), (8, .int (x8)), (9, .int (x9))] [] (C, M)) → (∀ (v : Int32), r = .inr v → res = (some (.int v), (C, M))) → J mi_X7_holdsFor res 0 0 85 [(1, .int (x1)), (2, .ref (x2)), (3, .int (x3)), (4, .int (x4)), (5, .int (x5)), (7, .int (x7)), (8, .int (x8)), (9, .int (x9)), (10, .int (x10))] [] (C, M) := by
  intro n
  induction n with
  | zero =>
    intro x10 h
    cases h
  | succ n ih =>
    intro x10 h Kx Kr
    obtain ⟨r0, h, h2⟩ := br_b h
    have h : b_X7_holdsFor_85 x1 x2 x3 x4 x5 x7 x8 x9 x10 C = some r0 := h
    rw [b_X7_holdsFor_85] at h
    refine J_iload dX7_holdsFor_85 8 rfl ?_
    refine J_iload dX7_holdsFor_87 5 rfl ?_
    refine J_icmp_gt 131 dX7_holdsFor_89 (by decide) (fun c9 => ?_) (fun c9 => ?_)
    · have h := br_p c9 h
      have h := Option.some.inj h
      subst h
      have h2 := Option.some.inj h2
      subst h2
      refine J_sub [0, 1, 2, 3, 4, 5, 6, 7] rfl ?_
      exact Kx  rfl
    · have h := br_n c9 h
      refine J_iload dX7_holdsFor_92 7 rfl ?_
      refine J_bipush 16 dX7_holdsFor_94 rfl ?_
      refine J_imul dX7_holdsFor_96 ?_
      refine J_iload dX7_holdsFor_97 8 rfl ?_
      refine J_iadd dX7_holdsFor_99 ?_
      refine J_istore (L' := [(11, .int (((x9 * (16 : Int32)) + x10))), (1, .int (x1)), (2, .ref (x2)), (3, .int (x3)), (4, .int (x4)), (5, .int (x5)), (7, .int (x7)), (8, .int (x8)), (9, .int (x9)), (10, .int (x10))]) dX7_holdsFor_100 (by decide) rfl ?_
      refine J_iload dX7_holdsFor_102 4 rfl ?_
      refine J_iload_n dX7_holdsFor_104 rfl 1 rfl ?_
      refine J_iload dX7_holdsFor_105 0 rfl ?_
      obtain ⟨r4, h3, h⟩ := br_b h
      refine J_callS (mj := mi_X7_isWithin) (as := [.int (x4), .int (x1), .int (((x9 * (16 : Int32)) + x10))]) (rest := []) (ct_X7_isWithin (M := M)  h3) ⟨rfl, rfl⟩ rfl cg_X7_329 hd_X7_isWithin rfl ⟨Nat.le_of_ble_eq_true rfl, Nat.le_of_ble_eq_true rfl⟩ (Nat.le_of_ble_eq_true rfl) ⟨Nat.zero_le _, Nat.zero_le _⟩ dX7_holdsFor_107 ?_
      refine J_if_eq 125 dX7_holdsFor_110 (by decide) (fun c8 => ?_) (fun c8 => ?_)
      · have h := br_p c8 h
        refine J_iinc (j := 9) (v := (x10 + (1 : Int32))) (L' := [(10, .int ((x10 + (1 : Int32)))), (11, .int (((x9 * (16 : Int32)) + x10))), (1, .int (x1)), (2, .ref (x2)), (3, .int (x3)), (4, .int (x4)), (5, .int (x5)), (7, .int (x7)), (8, .int (x8)), (9, .int (x9))]) dX7_holdsFor_125 rfl rfl (by decide) rfl ?_
        refine J_goto 85 dX7_holdsFor_128 (by decide) ?_
        have h := Option.some.inj h
        subst h
        refine J_sub [2, 3, 4, 5, 6, 7, 8, 9, 0] rfl ?_
        exact ih _ h2 Kx Kr
      · have h := br_n c8 h
        refine J_iload_n dX7_holdsFor_113 rfl 3 rfl ?_
        refine J_iload_n dX7_holdsFor_114 rfl 1 rfl ?_
        refine J_iload dX7_holdsFor_115 0 rfl ?_
        obtain ⟨r6, h5, h⟩ := br_b h
        refine J_callS (mj := mi_X7_liesIn) (as := [.int (x3), .int (x1), .int (((x9 * (16 : Int32)) + x10))]) (rest := []) (ct_X7_liesIn (M := M)  h5) ⟨rfl, rfl⟩ rfl cg_X7_351 hd_X7_liesIn rfl ⟨Nat.le_of_ble_eq_true rfl, Nat.le_of_ble_eq_true rfl⟩ (Nat.le_of_ble_eq_true rfl) ⟨Nat.zero_le _, Nat.zero_le _⟩ dX7_holdsFor_117 ?_
        refine J_if_eq 125 dX7_holdsFor_120 (by decide) (fun c7 => ?_) (fun c7 => ?_)
        · have h := br_p c7 h
          refine J_iinc (j := 9) (v := (x10 + (1 : Int32))) (L' := [(10, .int ((x10 + (1 : Int32)))), (11, .int (((x9 * (16 : Int32)) + x10))), (1, .int (x1)), (2, .ref (x2)), (3, .int (x3)), (4, .int (x4)), (5, .int (x5)), (7, .int (x7)), (8, .int (x8)), (9, .int (x9))]) dX7_holdsFor_125 rfl rfl (by decide) rfl ?_
          refine J_goto 85 dX7_holdsFor_128 (by decide) ?_
          have h := Option.some.inj h
          subst h
          refine J_sub [2, 3, 4, 5, 6, 7, 8, 9, 0] rfl ?_
          exact ih _ h2 Kx Kr
        · have h := br_n c7 h
          refine J_iconst 1 dX7_holdsFor_123 rfl ?_
          have h := Option.some.inj h
          subst h
          have h2 := Option.some.inj h2
          subst h2
          exact J_zret (Or.inr rfl) rfl rfl rfl (Kr _ rfl) dX7_holdsFor_124
def b_X7_holdsFor_65 (x1 : Int32) (x2 : Nat) (x3 : Int32) (x4 : Int32) (x5 : Int32) (x7 : Int32) (x8 : Int32) (x9 : Int32) (C : aSc) : Option ((Int32) ⊕ ((Unit) ⊕ (Int32))) :=
  if (x8 : Int32) < x9 then some (.inr (.inl ())) else (lpf (fun a : Int32 => b_X7_holdsFor_85 (x1) (x2) (x3) (x4) (x5) (x7) (x8) (x9) a C) FU (a_max (0 : Int32) (x5 - (a_gi C x2 9)))).bind fun z10 => Sum.elim (fun z10a => some (.inl (x9 + (1 : Int32)))) (fun z12 => some (.inr (.inr z12))) z10
set_option maxRecDepth 100000 in
set_option maxHeartbeats 4000000 in
theorem jl_X7_holdsFor_65 {x1 : Int32} {x2 : Nat} {x3 : Int32} {x4 : Int32} {x5 : Int32} {x7 : Int32} {x8 : Int32} {C : aSc} {M : aMm} (qx2 : isL x2) {res : aRes} {r : (Unit) ⊕ (Int32)} : ∀ (n : Nat) (x9 : Int32), lpf (fun a : Int32 => b_X7_holdsFor_65 (x1) (x2) (x3) (x4) (x5) (x7) (x8) a C) n x9 = some r → (r = .inl () → J mi_X7_holdsFor res 0 0 137 [] [] (C, M)) → (∀ (v : Int32), r = .inr v → res = (some (.int v), (C, M))) → J mi_X7_holdsFor res 0 0 65 [(1, .int (x1)), (2, .ref (x2)), (3, .int (x3)), (4, .int (x4)), (5, .int (x5)), (7, .int (x7)), (8, .int (x8)), (9, .int (x9))] [] (C, M) := by
  intro n
  induction n with
  | zero =>
    intro x9 h
    cases h
  | succ n ih =>
    intro x9 h Kx Kr
    obtain ⟨r0, h, h2⟩ := br_b h
    have h : b_X7_holdsFor_65 x1 x2 x3 x4 x5 x7 x8 x9 C = some r0 := h
    rw [b_X7_holdsFor_65] at h
    refine J_iload dX7_holdsFor_65 7 rfl ?_
    refine J_iload dX7_holdsFor_67 6 rfl ?_
    refine J_icmp_gt 137 dX7_holdsFor_69 (by decide) (fun c13 => ?_) (fun c13 => ?_)
    · have h := br_p c13 h
      have h := Option.some.inj h
      subst h
      have h2 := Option.some.inj h2
      subst h2
      refine J_sub [] rfl ?_
      exact Kx  rfl
    · have h := br_n c13 h
      refine J_iconst 0 dX7_holdsFor_72 rfl ?_
      refine J_iload dX7_holdsFor_73 4 rfl ?_
      refine J_aload_n dX7_holdsFor_75 rfl 1 rfl ?_
      refine J_geti (j := 9) qx2.1 qx2.2.1 (by decide) rfl (by decide) rfl kf_X7_144 dX7_holdsFor_76 ?_
      refine J_isub dX7_holdsFor_79 ?_
      refine J_mmax km_X7_188 kst_Math_max ki_Math kcd_Math_max (by decide) (Nat.le_of_ble_eq_true rfl) ⟨Nat.zero_le _, Nat.zero_le _⟩ dX7_holdsFor_80 ?_
      refine J_istore (L' := [(10, .int ((a_max (0 : Int32) (x5 - (a_gi C x2 9))))), (1, .int (x1)), (2, .ref (x2)), (3, .int (x3)), (4, .int (x4)), (5, .int (x5)), (7, .int (x7)), (8, .int (x8)), (9, .int (x9))]) dX7_holdsFor_83 (by decide) rfl ?_
      refine J_sub [1, 2, 3, 4, 5, 6, 7, 8, 0] rfl ?_
      obtain ⟨z10, h11, h⟩ := br_b h
      refine jl_X7_holdsFor_85 qx2 FU _ h11 ?_ ?_
      · intro e
        subst e
        have h := br_l h
        refine J_iinc (j := 7) (v := (x9 + (1 : Int32))) (L' := [(9, .int ((x9 + (1 : Int32)))), (1, .int (x1)), (2, .ref (x2)), (3, .int (x3)), (4, .int (x4)), (5, .int (x5)), (7, .int (x7)), (8, .int (x8))]) dX7_holdsFor_131 rfl rfl (by decide) rfl ?_
        refine J_goto 65 dX7_holdsFor_134 (by decide) ?_
        have h := Option.some.inj h
        subst h
        refine J_sub [1, 2, 3, 4, 5, 6, 7, 0] rfl ?_
        exact ih _ h2 Kx Kr
      · intro v e
        subst e
        have h := br_r h
        have h := Option.some.inj h
        subst h
        have h2 := Option.some.inj h2
        subst h2
        exact Kr _ rfl
def f_X7_holdsFor (x1 : Int32) (x2 : Nat) (x3 : Int32) (C : aSc) : Option (Int32) :=
  (f_X7_reachOf x2 C).bind fun r2 => (lpf (fun a : Int32 => b_X7_holdsFor_65 (x1) (x2) (x3) (r2) (((a_gi C x2 1) &&& (15 : Int32))) ((a_min (15 : Int32) (((a_gi C x2 1) &&& (15 : Int32)) + (a_gi C x2 9)))) ((a_min (15 : Int32) (((a_gi C x2 1) >>> ((4 : Int32) &&& 31)) + (a_gi C x2 9)))) a C) FU (a_max (0 : Int32) (((a_gi C x2 1) >>> ((4 : Int32) &&& 31)) - (a_gi C x2 9)))).bind fun z14 => Sum.elim (fun z14a => some (0 : Int32)) (fun z16 => some z16) z14
set_option maxRecDepth 100000 in
set_option maxHeartbeats 4000000 in
theorem jm_X7_holdsFor {x1 : Int32} {x2 : Nat} {x3 : Int32} {C : aSc} {M : aMm} (qx2 : isL x2) {res : aRes} {r : Int32} (h : f_X7_holdsFor x1 x2 x3 C = some r) (Kr : ∀ (v : Int32), r = v → res = (some (.int v), (C, M))) : J mi_X7_holdsFor res 0 0 0 [(0, .ref (0)), (1, .int (x1)), (2, .ref (x2)), (3, .int (x3))] [] (C, M) := by
  rw [f_X7_holdsFor] at h
  refine J_aload_n dX7_holdsFor_0 rfl 0 rfl ?_
  refine J_aload_n dX7_holdsFor_1 rfl 2 rfl ?_
  obtain ⟨r2, h1, h⟩ := br_b h
  refine J_callV (mj := mi_X7_reachOf) (as := [.ref (x2)]) (rest := []) (ct_X7_reachOf (M := M) qx2 h1) ⟨rfl, rfl⟩ rfl rfl (by decide) rfl cg_X7_325 hd_X7_reachOf rfl ⟨Nat.le_of_ble_eq_true rfl, Nat.le_of_ble_eq_true rfl⟩ (Nat.le_of_ble_eq_true rfl) ⟨Nat.zero_le _, Nat.zero_le _⟩ dX7_holdsFor_2 ?_
  refine J_istore (L' := [(4, .int (r2)), (0, .ref (0)), (1, .int (x1)), (2, .ref (x2)), (3, .int (x3))]) dX7_holdsFor_5 (by decide) rfl ?_
  refine J_aload_n dX7_holdsFor_7 rfl 3 rfl ?_
  refine J_geti (j := 1) qx2.1 qx2.2.1 (by decide) rfl (by decide) rfl kf_X7_119 dX7_holdsFor_8 ?_
  refine J_bipush 15 dX7_holdsFor_11 rfl ?_
  refine J_iand dX7_holdsFor_13 ?_
  refine J_istore (L' := [(5, .int (((a_gi C x2 1) &&& (15 : Int32)))), (4, .int (r2)), (0, .ref (0)), (1, .int (x1)), (2, .ref (x2)), (3, .int (x3))]) dX7_holdsFor_14 (by decide) rfl ?_
  refine J_aload_n dX7_holdsFor_16 rfl 4 rfl ?_
  refine J_geti (j := 1) qx2.1 qx2.2.1 (by decide) rfl (by decide) rfl kf_X7_119 dX7_holdsFor_17 ?_
  refine J_iconst 4 dX7_holdsFor_20 rfl ?_
  refine J_ishr dX7_holdsFor_21 ?_
  refine J_istore (L' := [(6, .int (((a_gi C x2 1) >>> ((4 : Int32) &&& 31)))), (5, .int (((a_gi C x2 1) &&& (15 : Int32)))), (4, .int (r2)), (0, .ref (0)), (1, .int (x1)), (2, .ref (x2)), (3, .int (x3))]) dX7_holdsFor_22 (by decide) rfl ?_
  refine J_bipush 15 dX7_holdsFor_24 rfl ?_
  refine J_iload dX7_holdsFor_26 1 rfl ?_
  refine J_aload_n dX7_holdsFor_28 rfl 5 rfl ?_
  refine J_geti (j := 9) qx2.1 qx2.2.1 (by decide) rfl (by decide) rfl kf_X7_144 dX7_holdsFor_29 ?_
  refine J_iadd dX7_holdsFor_32 ?_
  refine J_mmin km_X7_348 kst_Math_min ki_Math kcd_Math_min (by decide) (Nat.le_of_ble_eq_true rfl) ⟨Nat.zero_le _, Nat.zero_le _⟩ dX7_holdsFor_33 ?_
  refine J_istore (L' := [(7, .int ((a_min (15 : Int32) (((a_gi C x2 1) &&& (15 : Int32)) + (a_gi C x2 9))))), (6, .int (((a_gi C x2 1) >>> ((4 : Int32) &&& 31)))), (5, .int (((a_gi C x2 1) &&& (15 : Int32)))), (4, .int (r2)), (0, .ref (0)), (1, .int (x1)), (2, .ref (x2)), (3, .int (x3))]) dX7_holdsFor_36 (by decide) rfl ?_
  refine J_bipush 15 dX7_holdsFor_38 rfl ?_
  refine J_iload dX7_holdsFor_40 1 rfl ?_
  refine J_aload_n dX7_holdsFor_42 rfl 6 rfl ?_
  refine J_geti (j := 9) qx2.1 qx2.2.1 (by decide) rfl (by decide) rfl kf_X7_144 dX7_holdsFor_43 ?_
  refine J_iadd dX7_holdsFor_46 ?_
  refine J_mmin km_X7_348 kst_Math_min ki_Math kcd_Math_min (by decide) (Nat.le_of_ble_eq_true rfl) ⟨Nat.zero_le _, Nat.zero_le _⟩ dX7_holdsFor_47 ?_
  refine J_istore (L' := [(8, .int ((a_min (15 : Int32) (((a_gi C x2 1) >>> ((4 : Int32) &&& 31)) + (a_gi C x2 9))))), (7, .int ((a_min (15 : Int32) (((a_gi C x2 1) &&& (15 : Int32)) + (a_gi C x2 9))))), (6, .int (((a_gi C x2 1) >>> ((4 : Int32) &&& 31)))), (5, .int (((a_gi C x2 1) &&& (15 : Int32)))), (4, .int (r2)), (0, .ref (0)), (1, .int (x1)), (2, .ref (x2)), (3, .int (x3))]) dX7_holdsFor_50 (by decide) rfl ?_
  refine J_iconst 0 dX7_holdsFor_52 rfl ?_
  refine J_iload dX7_holdsFor_53 2 rfl ?_
  refine J_aload_n dX7_holdsFor_55 rfl 7 rfl ?_
  refine J_geti (j := 9) qx2.1 qx2.2.1 (by decide) rfl (by decide) rfl kf_X7_144 dX7_holdsFor_56 ?_
  refine J_isub dX7_holdsFor_59 ?_
  refine J_mmax km_X7_188 kst_Math_max ki_Math kcd_Math_max (by decide) (Nat.le_of_ble_eq_true rfl) ⟨Nat.zero_le _, Nat.zero_le _⟩ dX7_holdsFor_60 ?_
  refine J_istore (L' := [(9, .int ((a_max (0 : Int32) (((a_gi C x2 1) >>> ((4 : Int32) &&& 31)) - (a_gi C x2 9))))), (8, .int ((a_min (15 : Int32) (((a_gi C x2 1) >>> ((4 : Int32) &&& 31)) + (a_gi C x2 9))))), (7, .int ((a_min (15 : Int32) (((a_gi C x2 1) &&& (15 : Int32)) + (a_gi C x2 9))))), (6, .int (((a_gi C x2 1) >>> ((4 : Int32) &&& 31)))), (5, .int (((a_gi C x2 1) &&& (15 : Int32)))), (4, .int (r2)), (0, .ref (0)), (1, .int (x1)), (2, .ref (x2)), (3, .int (x3))]) dX7_holdsFor_63 (by decide) rfl ?_
  refine J_sub [7, 8, 9, 5, 4, 2, 1, 0] rfl ?_
  obtain ⟨z14, h15, h⟩ := br_b h
  refine jl_X7_holdsFor_65 qx2 FU _ h15 ?_ ?_
  · intro e
    subst e
    have h := br_l h
    refine J_iconst 0 dX7_holdsFor_137 rfl ?_
    have h := Option.some.inj h
    subst h
    exact J_zret (Or.inl rfl) rfl rfl rfl (Kr _ rfl) dX7_holdsFor_138
  · intro v e
    subst e
    have h := br_r h
    have h := Option.some.inj h
    subst h
    exact Kr _ rfl
theorem ct_X7_holdsFor {x1 : Int32} {x2 : Nat} {x3 : Int32} {C : aSc} {M : aMm} {v : Int32} (qx2 : isL x2) (h : f_X7_holdsFor x1 x2 x3 C = some v) : Ct mi_X7_holdsFor yX7_holdsFor [.ref (0), .int (x1), .ref (x2), .int (x3)] (C, M) (some (.int v), (C, M)) := Ct_of_J (by decide +kernel) rfl (Nat.le_of_ble_eq_true rfl) (jm_X7_holdsFor qx2 h (fun _ e => by cases e; rfl))
def mi_X7_holdsForAll : aMi := (cX7_holdsForAll, 3, RX7, (some .boolean), { frames := 3, cells := 0, slots := 0, locals := 79 })
def b_X7_holdsForAll_2 (x1 : Int32) (x2 : Int32) (C : aSc) : Option ((Int32) ⊕ ((Unit) ⊕ (Int32))) :=
  if ((a_gi C 0 6) : Int32) ≤ x2 then some (.inr (.inl ())) else (a_ld C 4 x2).bind fun u1 => (a_rf 24 3 10 (u1 >>> ((16 : Int32) &&& 31))).bind fun c3 => (a_ld C 4 x2).bind fun u6 => (f_X7_holdsFor x1 c3 (u6 &&& (65535 : Int32)) C).bind fun r9 => if (r9 : Int32) = 0 then some (.inr (.inr (0 : Int32))) else some (.inl (x2 + (1 : Int32)))
set_option maxRecDepth 100000 in
set_option maxHeartbeats 4000000 in
theorem jl_X7_holdsForAll_2 {x1 : Int32} {C : aSc} {M : aMm}  {res : aRes} {r : (Unit) ⊕ (Int32)} : ∀ (n : Nat) (x2 : Int32), lpf (fun a : Int32 => b_X7_holdsForAll_2 (x1) a C) n x2 = some r → (r = .inl () → J mi_X7_holdsForAll res 0 0 50 [] [] (C, M)) → (∀ (v : Int32), r = .inr v → res = (some (.int v), (C, M))) → J mi_X7_holdsForAll res 0 0 2 [(0, .ref (0)), (1, .int (x1)), (2, .int (x2))] [] (C, M) := by
  intro n
  induction n with
  | zero =>
    intro x2 h
    cases h
  | succ n ih =>
    intro x2 h Kx Kr
    obtain ⟨r0, h, h2⟩ := br_b h
    have h : b_X7_holdsForAll_2 x1 x2 C = some r0 := h
    rw [b_X7_holdsForAll_2] at h
    refine J_iload_n dX7_holdsForAll_2 rfl 2 rfl ?_
    refine J_aload_n dX7_holdsForAll_3 rfl 0 rfl ?_
    refine J_geti (j := 6) rfl (by decide) (by decide) rfl (by decide) rfl kf_X7_211 dX7_holdsForAll_4 ?_
    refine J_icmp_ge 50 dX7_holdsForAll_7 (by decide) (fun c11 => ?_) (fun c11 => ?_)
    · have h := br_p c11 h
      have h := Option.some.inj h
      subst h
      have h2 := Option.some.inj h2
      subst h2
      refine J_sub [] rfl ?_
      exact Kx  rfl
    · have h := br_n c11 h
      refine J_aload_n dX7_holdsForAll_10 rfl 0 rfl ?_
      refine J_iload_n dX7_holdsForAll_11 rfl 1 rfl ?_
      refine J_aload_n dX7_holdsForAll_12 rfl 0 rfl ?_
      refine J_getr (j := 1) (t := 11) (r := 3) rfl (by decide) (by decide) rfl (by decide) rfl rfl kf_X7_18 dX7_holdsForAll_13 ?_
      refine J_aload_n dX7_holdsForAll_16 rfl 0 rfl ?_
      refine J_getr (j := 5) (t := 12) (r := 4) rfl (by decide) (by decide) rfl (by decide) rfl rfl kf_X7_22 dX7_holdsForAll_17 ?_
      refine J_iload_n dX7_holdsForAll_20 rfl 2 rfl ?_
      obtain ⟨u1, h2, h⟩ := br_b h
      refine J_iald rfl (by decide) h2 dX7_holdsForAll_21 ?_
      refine J_bipush 16 dX7_holdsForAll_22 rfl ?_
      refine J_ishr dX7_holdsForAll_24 ?_
      obtain ⟨c3, h4, h⟩ := br_b h
      have q5 := a_rfL h4
      refine J_aaldL h4 dX7_holdsForAll_25 ?_
      refine J_aload_n dX7_holdsForAll_26 rfl 0 rfl ?_
      refine J_getr (j := 5) (t := 12) (r := 4) rfl (by decide) (by decide) rfl (by decide) rfl rfl kf_X7_22 dX7_holdsForAll_27 ?_
      refine J_iload_n dX7_holdsForAll_30 rfl 2 rfl ?_
      obtain ⟨u6, h7, h⟩ := br_b h
      refine J_iald rfl (by decide) h7 dX7_holdsForAll_31 ?_
      refine J_ldcw 65535 dX7_holdsForAll_32 kc_X7_343 ?_
      refine J_iand dX7_holdsForAll_35 ?_
      obtain ⟨r9, h8, h⟩ := br_b h
      refine J_callV (mj := mi_X7_holdsFor) (as := [.int (x1), .ref (c3), .int ((u6 &&& (65535 : Int32)))]) (rest := []) (ct_X7_holdsFor (M := M) q5 h8) ⟨rfl, rfl⟩ rfl rfl (by decide) rfl cg_X7_344 hd_X7_holdsFor rfl ⟨Nat.le_of_ble_eq_true rfl, Nat.le_of_ble_eq_true rfl⟩ (Nat.le_of_ble_eq_true rfl) ⟨Nat.zero_le _, Nat.zero_le _⟩ dX7_holdsForAll_36 ?_
      refine J_if_ne 44 dX7_holdsForAll_39 (by decide) (fun c10 => ?_) (fun c10 => ?_)
      · have h := br_n c10 h
        refine J_iinc (j := 2) (v := (x2 + (1 : Int32))) (L' := [(2, .int ((x2 + (1 : Int32)))), (0, .ref (0)), (1, .int (x1))]) dX7_holdsForAll_44 rfl rfl (by decide) rfl ?_
        refine J_goto 2 dX7_holdsForAll_47 (by decide) ?_
        have h := Option.some.inj h
        subst h
        refine J_sub [1, 2, 0] rfl ?_
        exact ih _ h2 Kx Kr
      · have h := br_p c10 h
        refine J_iconst 0 dX7_holdsForAll_42 rfl ?_
        have h := Option.some.inj h
        subst h
        have h2 := Option.some.inj h2
        subst h2
        exact J_zret (Or.inl rfl) rfl rfl rfl (Kr _ rfl) dX7_holdsForAll_43
def f_X7_holdsForAll (x1 : Int32) (C : aSc) : Option (Int32) :=
  (lpf (fun a : Int32 => b_X7_holdsForAll_2 (x1) a C) FU (0 : Int32)).bind fun z12 => Sum.elim (fun z12a => some (1 : Int32)) (fun z14 => some z14) z12
set_option maxRecDepth 100000 in
set_option maxHeartbeats 4000000 in
theorem jm_X7_holdsForAll {x1 : Int32} {C : aSc} {M : aMm}  {res : aRes} {r : Int32} (h : f_X7_holdsForAll x1 C = some r) (Kr : ∀ (v : Int32), r = v → res = (some (.int v), (C, M))) : J mi_X7_holdsForAll res 0 0 0 [(0, .ref (0)), (1, .int (x1))] [] (C, M) := by
  rw [f_X7_holdsForAll] at h
  refine J_iconst 0 dX7_holdsForAll_0 rfl ?_
  refine J_istore_n (L' := [(2, .int ((0 : Int32))), (0, .ref (0)), (1, .int (x1))]) dX7_holdsForAll_1 rfl (by decide) rfl ?_
  refine J_sub [1, 2, 0] rfl ?_
  obtain ⟨z12, h13, h⟩ := br_b h
  refine jl_X7_holdsForAll_2  FU _ h13 ?_ ?_
  · intro e
    subst e
    have h := br_l h
    refine J_iconst 1 dX7_holdsForAll_50 rfl ?_
    have h := Option.some.inj h
    subst h
    exact J_zret (Or.inr rfl) rfl rfl rfl (Kr _ rfl) dX7_holdsForAll_51
  · intro v e
    subst e
    have h := br_r h
    have h := Option.some.inj h
    subst h
    exact Kr _ rfl
theorem ct_X7_holdsForAll {x1 : Int32} {C : aSc} {M : aMm} {v : Int32}  (h : f_X7_holdsForAll x1 C = some v) : Ct mi_X7_holdsForAll yX7_holdsForAll [.ref (0), .int (x1)] (C, M) (some (.int v), (C, M)) := Ct_of_J (by decide +kernel) rfl (Nat.le_of_ble_eq_true rfl) (jm_X7_holdsForAll  h (fun _ e => by cases e; rfl))

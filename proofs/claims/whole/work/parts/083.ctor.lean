def mi_X5_init : aMi := (cX5_init, 1, RX5, none, { frames := 1, cells := 1, slots := 40, locals := 20 })
set_option maxRecDepth 100000 in
set_option maxHeartbeats 4000000 in
theorem cn_0 : CtN mi_X5_init yX5_init 1 nw_1 nw_3 := by
  refine CtN_of (by decide +kernel) rfl (Nat.le_of_ble_eq_true rfl) rfl ?_
  refine N_aload_n dX5_init_0 rfl 0 rfl ?_
  refine N_obj km_X5_1 kin_object kcd_object (Nat.le_of_ble_eq_true rfl) (Nat.le_of_ble_eq_true rfl) dX5_init_1 ?_
  refine N_aload_n dX5_init_4 rfl 0 rfl ?_
  refine N_bipush 40 dX5_init_5 rfl ?_
  refine N_newarr (k := 0) (N' := 40) (ty := .int) (q := 2) (S' := nw_2) rfl (fun _ => rfl) kar_int (fun _ => rfl) (by decide) rfl (by decide) (Nat.le_of_ble_eq_true rfl) (Nat.le_of_ble_eq_true rfl) rfl rfl rfl rfl rfl dX5_init_7 ?_
  refine N_put (ci := 5) (j := 0) (r := (RX5, TX5, 9)) (fs := [.null, .int 0, .int 0, .int 0, .int 0, .int 0, .int 0, .int 0, .int 0]) (ty := tyX5 0) (S' := nw_3) rfl rfl (by decide) (by decide) rfl (fun _ => ⟨rfl, rfl⟩) rfl kf_X5_9 rfl dX5_init_9 ?_
  exact N_vret rfl rfl rfl rfl dX5_init_12
def mi_X6_init : aMi := (cX6_init, 1, RX6, none, { frames := 1, cells := 5, slots := 100, locals := 20 })
set_option maxRecDepth 100000 in
set_option maxHeartbeats 4000000 in
theorem cn_1 : CtN mi_X6_init yX6_init 7 nw_13 nw_23 := by
  refine CtN_of (by decide +kernel) rfl (Nat.le_of_ble_eq_true rfl) rfl ?_
  refine N_aload_n dX6_init_0 rfl 0 rfl ?_
  refine N_obj km_X6_1 kin_object kcd_object (Nat.le_of_ble_eq_true rfl) (Nat.le_of_ble_eq_true rfl) dX6_init_1 ?_
  refine N_aload_n dX6_init_4 rfl 0 rfl ?_
  refine N_bipush 20 dX6_init_5 rfl ?_
  refine N_newarr (k := 0) (N' := 20) (ty := .int) (q := 8) (S' := nw_14) rfl (fun _ => rfl) kar_int (fun _ => rfl) (by decide) rfl (by decide) (Nat.le_of_ble_eq_true rfl) (Nat.le_of_ble_eq_true rfl) rfl rfl rfl rfl rfl dX6_init_7 ?_
  refine N_put (ci := 6) (j := 1) (r := (RX6, TX6, 6)) (fs := [.int 0, .null, .null, .null, .null, .null]) (ty := tyX6 1) (S' := nw_15) rfl rfl (by decide) (by decide) rfl (fun _ => ⟨rfl, rfl⟩) rfl kf_X6_9 rfl dX6_init_9 ?_
  refine N_aload_n dX6_init_12 rfl 0 rfl ?_
  refine N_bipush 20 dX6_init_13 rfl ?_
  refine N_newarr (k := 0) (N' := 20) (ty := .int) (q := 9) (S' := nw_16) rfl (fun _ => rfl) kar_int (fun _ => rfl) (by decide) rfl (by decide) (Nat.le_of_ble_eq_true rfl) (Nat.le_of_ble_eq_true rfl) rfl rfl rfl rfl rfl dX6_init_15 ?_
  refine N_put (ci := 6) (j := 2) (r := (RX6, TX6, 6)) (fs := [.int 0, .ref 8, .null, .null, .null, .null]) (ty := tyX6 2) (S' := nw_17) rfl rfl (by decide) (by decide) rfl (fun _ => ⟨rfl, rfl⟩) rfl kf_X6_13 rfl dX6_init_17 ?_
  refine N_aload_n dX6_init_20 rfl 0 rfl ?_
  refine N_bipush 20 dX6_init_21 rfl ?_
  refine N_newarr (k := 0) (N' := 20) (ty := .int) (q := 10) (S' := nw_18) rfl (fun _ => rfl) kar_int (fun _ => rfl) (by decide) rfl (by decide) (Nat.le_of_ble_eq_true rfl) (Nat.le_of_ble_eq_true rfl) rfl rfl rfl rfl rfl dX6_init_23 ?_
  refine N_put (ci := 6) (j := 3) (r := (RX6, TX6, 6)) (fs := [.int 0, .ref 8, .ref 9, .null, .null, .null]) (ty := tyX6 3) (S' := nw_19) rfl rfl (by decide) (by decide) rfl (fun _ => ⟨rfl, rfl⟩) rfl kf_X6_16 rfl dX6_init_25 ?_
  refine N_aload_n dX6_init_28 rfl 0 rfl ?_
  refine N_bipush 20 dX6_init_29 rfl ?_
  refine N_newarr (k := 0) (N' := 20) (ty := .int) (q := 11) (S' := nw_20) rfl (fun _ => rfl) kar_int (fun _ => rfl) (by decide) rfl (by decide) (Nat.le_of_ble_eq_true rfl) (Nat.le_of_ble_eq_true rfl) rfl rfl rfl rfl rfl dX6_init_31 ?_
  refine N_put (ci := 6) (j := 4) (r := (RX6, TX6, 6)) (fs := [.int 0, .ref 8, .ref 9, .ref 10, .null, .null]) (ty := tyX6 4) (S' := nw_21) rfl rfl (by decide) (by decide) rfl (fun _ => ⟨rfl, rfl⟩) rfl kf_X6_19 rfl dX6_init_33 ?_
  refine N_aload_n dX6_init_36 rfl 0 rfl ?_
  refine N_bipush 20 dX6_init_37 rfl ?_
  refine N_newarr (k := 2) (N' := 20) (ty := .boolean) (q := 12) (S' := nw_22) rfl (fun _ => rfl) kar_boolean (fun _ => rfl) (by decide) rfl (by decide) (Nat.le_of_ble_eq_true rfl) (Nat.le_of_ble_eq_true rfl) rfl rfl rfl rfl rfl dX6_init_39 ?_
  refine N_put (ci := 6) (j := 5) (r := (RX6, TX6, 6)) (fs := [.int 0, .ref 8, .ref 9, .ref 10, .ref 11, .null]) (ty := tyX6 5) (S' := nw_23) rfl rfl (by decide) (by decide) rfl (fun _ => ⟨rfl, rfl⟩) rfl kf_X6_22 rfl dX6_init_41 ?_
  exact N_vret rfl rfl rfl rfl dX6_init_44
def mi_X0_init : aMi := (cX0_init, 1, RX0, none, { frames := 1, cells := 5, slots := 40, locals := 20 })
set_option maxRecDepth 100000 in
set_option maxHeartbeats 4000000 in
theorem cn_2 : CtN mi_X0_init yX0_init 14 nw_27 nw_37 := by
  refine CtN_of (by decide +kernel) rfl (Nat.le_of_ble_eq_true rfl) rfl ?_
  refine N_aload_n dX0_init_0 rfl 0 rfl ?_
  refine N_obj km_X0_3 kin_object kcd_object (Nat.le_of_ble_eq_true rfl) (Nat.le_of_ble_eq_true rfl) dX0_init_1 ?_
  refine N_aload_n dX0_init_4 rfl 0 rfl ?_
  refine N_bipush 20 dX0_init_5 rfl ?_
  refine N_newarr (k := 0) (N' := 20) (ty := .int) (q := 15) (S' := nw_28) rfl (fun _ => rfl) kar_int (fun _ => rfl) (by decide) rfl (by decide) (Nat.le_of_ble_eq_true rfl) (Nat.le_of_ble_eq_true rfl) rfl rfl rfl rfl rfl dX0_init_7 ?_
  refine N_put (ci := 0) (j := 1) (r := (RX0, TX0, 8)) (fs := [.int 0, .null, .null, .int 0, .null, .int 0, .null, .null]) (ty := tyX0 1) (S' := nw_29) rfl rfl (by decide) (by decide) rfl (fun _ => ⟨rfl, rfl⟩) rfl kf_X0_9 rfl dX0_init_9 ?_
  refine N_aload_n dX0_init_12 rfl 0 rfl ?_
  refine N_bipush 10 dX0_init_13 rfl ?_
  refine N_newarr (k := 0) (N' := 10) (ty := .int) (q := 16) (S' := nw_30) rfl (fun _ => rfl) kar_int (fun _ => rfl) (by decide) rfl (by decide) (Nat.le_of_ble_eq_true rfl) (Nat.le_of_ble_eq_true rfl) rfl rfl rfl rfl rfl dX0_init_15 ?_
  refine N_put (ci := 0) (j := 2) (r := (RX0, TX0, 8)) (fs := [.int 0, .ref 15, .null, .int 0, .null, .int 0, .null, .null]) (ty := tyX0 2) (S' := nw_31) rfl rfl (by decide) (by decide) rfl (fun _ => ⟨rfl, rfl⟩) rfl kf_X0_15 rfl dX0_init_17 ?_
  refine N_aload_n dX0_init_20 rfl 0 rfl ?_
  refine N_bipush 10 dX0_init_21 rfl ?_
  refine N_newarr (k := 0) (N' := 10) (ty := .int) (q := 17) (S' := nw_32) rfl (fun _ => rfl) kar_int (fun _ => rfl) (by decide) rfl (by decide) (Nat.le_of_ble_eq_true rfl) (Nat.le_of_ble_eq_true rfl) rfl rfl rfl rfl rfl dX0_init_23 ?_
  refine N_put (ci := 0) (j := 4) (r := (RX0, TX0, 8)) (fs := [.int 0, .ref 15, .ref 16, .int 0, .null, .int 0, .null, .null]) (ty := tyX0 4) (S' := nw_33) rfl rfl (by decide) (by decide) rfl (fun _ => ⟨rfl, rfl⟩) rfl kf_X0_18 rfl dX0_init_25 ?_
  refine N_aload_n dX0_init_28 rfl 0 rfl ?_
  refine N_iconst 0 dX0_init_29 rfl ?_
  refine N_newarr (k := 0) (N' := 0) (ty := .int) (q := 18) (S' := nw_34) rfl (fun _ => rfl) kar_int (fun _ => rfl) (by decide) rfl (by decide) (Nat.le_of_ble_eq_true rfl) (Nat.le_of_ble_eq_true rfl) rfl rfl rfl rfl rfl dX0_init_30 ?_
  refine N_put (ci := 0) (j := 6) (r := (RX0, TX0, 8)) (fs := [.int 0, .ref 15, .ref 16, .int 0, .ref 17, .int 0, .null, .null]) (ty := tyX0 6) (S' := nw_35) rfl rfl (by decide) (by decide) rfl (fun _ => ⟨rfl, rfl⟩) rfl kf_X0_21 rfl dX0_init_32 ?_
  refine N_aload_n dX0_init_35 rfl 0 rfl ?_
  refine N_iconst 0 dX0_init_36 rfl ?_
  refine N_newarr (k := 0) (N' := 0) (ty := .int) (q := 19) (S' := nw_36) rfl (fun _ => rfl) kar_int (fun _ => rfl) (by decide) rfl (by decide) (Nat.le_of_ble_eq_true rfl) (Nat.le_of_ble_eq_true rfl) rfl rfl rfl rfl rfl dX0_init_37 ?_
  refine N_put (ci := 0) (j := 7) (r := (RX0, TX0, 8)) (fs := [.int 0, .ref 15, .ref 16, .int 0, .ref 17, .int 0, .ref 18, .null]) (ty := tyX0 7) (S' := nw_37) rfl rfl (by decide) (by decide) rfl (fun _ => ⟨rfl, rfl⟩) rfl kf_X0_24 rfl dX0_init_39 ?_
  exact N_vret rfl rfl rfl rfl dX0_init_42
def mi_X4_init : aMi := (cX4_init, 1, RX4, none, { frames := 1, cells := 1, slots := 20, locals := 20 })
set_option maxRecDepth 100000 in
set_option maxHeartbeats 4000000 in
theorem cn_3 : CtN mi_X4_init yX4_init 24 nw_46 nw_48 := by
  refine CtN_of (by decide +kernel) rfl (Nat.le_of_ble_eq_true rfl) rfl ?_
  refine N_aload_n dX4_init_0 rfl 0 rfl ?_
  refine N_obj km_X4_3 kin_object kcd_object (Nat.le_of_ble_eq_true rfl) (Nat.le_of_ble_eq_true rfl) dX4_init_1 ?_
  refine N_aload_n dX4_init_4 rfl 0 rfl ?_
  refine N_bipush 20 dX4_init_5 rfl ?_
  refine N_newarr (k := 0) (N' := 20) (ty := .int) (q := 25) (S' := nw_47) rfl (fun _ => rfl) kar_int (fun _ => rfl) (by decide) rfl (by decide) (Nat.le_of_ble_eq_true rfl) (Nat.le_of_ble_eq_true rfl) rfl rfl rfl rfl rfl dX4_init_7 ?_
  refine N_put (ci := 4) (j := 3) (r := (RX4, TX4, 4)) (fs := [.int 0, .int 0, .int 0, .null]) (ty := tyX4 3) (S' := nw_48) rfl rfl (by decide) (by decide) rfl (fun _ => ⟨rfl, rfl⟩) rfl kf_X4_9 rfl dX4_init_9 ?_
  exact N_vret rfl rfl rfl rfl dX4_init_12
set_option maxRecDepth 100000 in
set_option maxHeartbeats 4000000 in
theorem cn_4 : CtN mi_X4_init yX4_init 26 nw_50 nw_52 := by
  refine CtN_of (by decide +kernel) rfl (Nat.le_of_ble_eq_true rfl) rfl ?_
  refine N_aload_n dX4_init_0 rfl 0 rfl ?_
  refine N_obj km_X4_3 kin_object kcd_object (Nat.le_of_ble_eq_true rfl) (Nat.le_of_ble_eq_true rfl) dX4_init_1 ?_
  refine N_aload_n dX4_init_4 rfl 0 rfl ?_
  refine N_bipush 20 dX4_init_5 rfl ?_
  refine N_newarr (k := 0) (N' := 20) (ty := .int) (q := 27) (S' := nw_51) rfl (fun _ => rfl) kar_int (fun _ => rfl) (by decide) rfl (by decide) (Nat.le_of_ble_eq_true rfl) (Nat.le_of_ble_eq_true rfl) rfl rfl rfl rfl rfl dX4_init_7 ?_
  refine N_put (ci := 4) (j := 3) (r := (RX4, TX4, 4)) (fs := [.int 0, .int 0, .int 0, .null]) (ty := tyX4 3) (S' := nw_52) rfl rfl (by decide) (by decide) rfl (fun _ => ⟨rfl, rfl⟩) rfl kf_X4_9 rfl dX4_init_9 ?_
  exact N_vret rfl rfl rfl rfl dX4_init_12
set_option maxRecDepth 100000 in
set_option maxHeartbeats 4000000 in
theorem cn_5 : CtN mi_X4_init yX4_init 28 nw_54 nw_56 := by
  refine CtN_of (by decide +kernel) rfl (Nat.le_of_ble_eq_true rfl) rfl ?_
  refine N_aload_n dX4_init_0 rfl 0 rfl ?_
  refine N_obj km_X4_3 kin_object kcd_object (Nat.le_of_ble_eq_true rfl) (Nat.le_of_ble_eq_true rfl) dX4_init_1 ?_
  refine N_aload_n dX4_init_4 rfl 0 rfl ?_
  refine N_bipush 20 dX4_init_5 rfl ?_
  refine N_newarr (k := 0) (N' := 20) (ty := .int) (q := 29) (S' := nw_55) rfl (fun _ => rfl) kar_int (fun _ => rfl) (by decide) rfl (by decide) (Nat.le_of_ble_eq_true rfl) (Nat.le_of_ble_eq_true rfl) rfl rfl rfl rfl rfl dX4_init_7 ?_
  refine N_put (ci := 4) (j := 3) (r := (RX4, TX4, 4)) (fs := [.int 0, .int 0, .int 0, .null]) (ty := tyX4 3) (S' := nw_56) rfl rfl (by decide) (by decide) rfl (fun _ => ⟨rfl, rfl⟩) rfl kf_X4_9 rfl dX4_init_9 ?_
  exact N_vret rfl rfl rfl rfl dX4_init_12
set_option maxRecDepth 100000 in
set_option maxHeartbeats 4000000 in
theorem cn_6 : CtN mi_X4_init yX4_init 30 nw_58 nw_60 := by
  refine CtN_of (by decide +kernel) rfl (Nat.le_of_ble_eq_true rfl) rfl ?_
  refine N_aload_n dX4_init_0 rfl 0 rfl ?_
  refine N_obj km_X4_3 kin_object kcd_object (Nat.le_of_ble_eq_true rfl) (Nat.le_of_ble_eq_true rfl) dX4_init_1 ?_
  refine N_aload_n dX4_init_4 rfl 0 rfl ?_
  refine N_bipush 20 dX4_init_5 rfl ?_
  refine N_newarr (k := 0) (N' := 20) (ty := .int) (q := 31) (S' := nw_59) rfl (fun _ => rfl) kar_int (fun _ => rfl) (by decide) rfl (by decide) (Nat.le_of_ble_eq_true rfl) (Nat.le_of_ble_eq_true rfl) rfl rfl rfl rfl rfl dX4_init_7 ?_
  refine N_put (ci := 4) (j := 3) (r := (RX4, TX4, 4)) (fs := [.int 0, .int 0, .int 0, .null]) (ty := tyX4 3) (S' := nw_60) rfl rfl (by decide) (by decide) rfl (fun _ => ⟨rfl, rfl⟩) rfl kf_X4_9 rfl dX4_init_9 ?_
  exact N_vret rfl rfl rfl rfl dX4_init_12
set_option maxRecDepth 100000 in
set_option maxHeartbeats 4000000 in
theorem cn_7 : CtN mi_X4_init yX4_init 32 nw_62 nw_64 := by
  refine CtN_of (by decide +kernel) rfl (Nat.le_of_ble_eq_true rfl) rfl ?_
  refine N_aload_n dX4_init_0 rfl 0 rfl ?_
  refine N_obj km_X4_3 kin_object kcd_object (Nat.le_of_ble_eq_true rfl) (Nat.le_of_ble_eq_true rfl) dX4_init_1 ?_
  refine N_aload_n dX4_init_4 rfl 0 rfl ?_
  refine N_bipush 20 dX4_init_5 rfl ?_
  refine N_newarr (k := 0) (N' := 20) (ty := .int) (q := 33) (S' := nw_63) rfl (fun _ => rfl) kar_int (fun _ => rfl) (by decide) rfl (by decide) (Nat.le_of_ble_eq_true rfl) (Nat.le_of_ble_eq_true rfl) rfl rfl rfl rfl rfl dX4_init_7 ?_
  refine N_put (ci := 4) (j := 3) (r := (RX4, TX4, 4)) (fs := [.int 0, .int 0, .int 0, .null]) (ty := tyX4 3) (S' := nw_64) rfl rfl (by decide) (by decide) rfl (fun _ => ⟨rfl, rfl⟩) rfl kf_X4_9 rfl dX4_init_9 ?_
  exact N_vret rfl rfl rfl rfl dX4_init_12
set_option maxRecDepth 100000 in
set_option maxHeartbeats 4000000 in
theorem cn_8 : CtN mi_X4_init yX4_init 34 nw_66 nw_68 := by
  refine CtN_of (by decide +kernel) rfl (Nat.le_of_ble_eq_true rfl) rfl ?_
  refine N_aload_n dX4_init_0 rfl 0 rfl ?_
  refine N_obj km_X4_3 kin_object kcd_object (Nat.le_of_ble_eq_true rfl) (Nat.le_of_ble_eq_true rfl) dX4_init_1 ?_
  refine N_aload_n dX4_init_4 rfl 0 rfl ?_
  refine N_bipush 20 dX4_init_5 rfl ?_
  refine N_newarr (k := 0) (N' := 20) (ty := .int) (q := 35) (S' := nw_67) rfl (fun _ => rfl) kar_int (fun _ => rfl) (by decide) rfl (by decide) (Nat.le_of_ble_eq_true rfl) (Nat.le_of_ble_eq_true rfl) rfl rfl rfl rfl rfl dX4_init_7 ?_
  refine N_put (ci := 4) (j := 3) (r := (RX4, TX4, 4)) (fs := [.int 0, .int 0, .int 0, .null]) (ty := tyX4 3) (S' := nw_68) rfl rfl (by decide) (by decide) rfl (fun _ => ⟨rfl, rfl⟩) rfl kf_X4_9 rfl dX4_init_9 ?_
  exact N_vret rfl rfl rfl rfl dX4_init_12
set_option maxRecDepth 100000 in
set_option maxHeartbeats 4000000 in
theorem cn_9 : CtN mi_X4_init yX4_init 36 nw_70 nw_72 := by
  refine CtN_of (by decide +kernel) rfl (Nat.le_of_ble_eq_true rfl) rfl ?_
  refine N_aload_n dX4_init_0 rfl 0 rfl ?_
  refine N_obj km_X4_3 kin_object kcd_object (Nat.le_of_ble_eq_true rfl) (Nat.le_of_ble_eq_true rfl) dX4_init_1 ?_
  refine N_aload_n dX4_init_4 rfl 0 rfl ?_
  refine N_bipush 20 dX4_init_5 rfl ?_
  refine N_newarr (k := 0) (N' := 20) (ty := .int) (q := 37) (S' := nw_71) rfl (fun _ => rfl) kar_int (fun _ => rfl) (by decide) rfl (by decide) (Nat.le_of_ble_eq_true rfl) (Nat.le_of_ble_eq_true rfl) rfl rfl rfl rfl rfl dX4_init_7 ?_
  refine N_put (ci := 4) (j := 3) (r := (RX4, TX4, 4)) (fs := [.int 0, .int 0, .int 0, .null]) (ty := tyX4 3) (S' := nw_72) rfl rfl (by decide) (by decide) rfl (fun _ => ⟨rfl, rfl⟩) rfl kf_X4_9 rfl dX4_init_9 ?_
  exact N_vret rfl rfl rfl rfl dX4_init_12
set_option maxRecDepth 100000 in
set_option maxHeartbeats 4000000 in
theorem cn_10 : CtN mi_X4_init yX4_init 38 nw_74 nw_76 := by
  refine CtN_of (by decide +kernel) rfl (Nat.le_of_ble_eq_true rfl) rfl ?_
  refine N_aload_n dX4_init_0 rfl 0 rfl ?_
  refine N_obj km_X4_3 kin_object kcd_object (Nat.le_of_ble_eq_true rfl) (Nat.le_of_ble_eq_true rfl) dX4_init_1 ?_
  refine N_aload_n dX4_init_4 rfl 0 rfl ?_
  refine N_bipush 20 dX4_init_5 rfl ?_
  refine N_newarr (k := 0) (N' := 20) (ty := .int) (q := 39) (S' := nw_75) rfl (fun _ => rfl) kar_int (fun _ => rfl) (by decide) rfl (by decide) (Nat.le_of_ble_eq_true rfl) (Nat.le_of_ble_eq_true rfl) rfl rfl rfl rfl rfl dX4_init_7 ?_
  refine N_put (ci := 4) (j := 3) (r := (RX4, TX4, 4)) (fs := [.int 0, .int 0, .int 0, .null]) (ty := tyX4 3) (S' := nw_76) rfl rfl (by decide) (by decide) rfl (fun _ => ⟨rfl, rfl⟩) rfl kf_X4_9 rfl dX4_init_9 ?_
  exact N_vret rfl rfl rfl rfl dX4_init_12
set_option maxRecDepth 100000 in
set_option maxHeartbeats 4000000 in
theorem cn_11 : CtN mi_X4_init yX4_init 40 nw_78 nw_80 := by
  refine CtN_of (by decide +kernel) rfl (Nat.le_of_ble_eq_true rfl) rfl ?_
  refine N_aload_n dX4_init_0 rfl 0 rfl ?_
  refine N_obj km_X4_3 kin_object kcd_object (Nat.le_of_ble_eq_true rfl) (Nat.le_of_ble_eq_true rfl) dX4_init_1 ?_
  refine N_aload_n dX4_init_4 rfl 0 rfl ?_
  refine N_bipush 20 dX4_init_5 rfl ?_
  refine N_newarr (k := 0) (N' := 20) (ty := .int) (q := 41) (S' := nw_79) rfl (fun _ => rfl) kar_int (fun _ => rfl) (by decide) rfl (by decide) (Nat.le_of_ble_eq_true rfl) (Nat.le_of_ble_eq_true rfl) rfl rfl rfl rfl rfl dX4_init_7 ?_
  refine N_put (ci := 4) (j := 3) (r := (RX4, TX4, 4)) (fs := [.int 0, .int 0, .int 0, .null]) (ty := tyX4 3) (S' := nw_80) rfl rfl (by decide) (by decide) rfl (fun _ => ⟨rfl, rfl⟩) rfl kf_X4_9 rfl dX4_init_9 ?_
  exact N_vret rfl rfl rfl rfl dX4_init_12
set_option maxRecDepth 100000 in
set_option maxHeartbeats 4000000 in
theorem cn_12 : CtN mi_X4_init yX4_init 42 nw_82 nw_84 := by
  refine CtN_of (by decide +kernel) rfl (Nat.le_of_ble_eq_true rfl) rfl ?_
  refine N_aload_n dX4_init_0 rfl 0 rfl ?_
  refine N_obj km_X4_3 kin_object kcd_object (Nat.le_of_ble_eq_true rfl) (Nat.le_of_ble_eq_true rfl) dX4_init_1 ?_
  refine N_aload_n dX4_init_4 rfl 0 rfl ?_
  refine N_bipush 20 dX4_init_5 rfl ?_
  refine N_newarr (k := 0) (N' := 20) (ty := .int) (q := 43) (S' := nw_83) rfl (fun _ => rfl) kar_int (fun _ => rfl) (by decide) rfl (by decide) (Nat.le_of_ble_eq_true rfl) (Nat.le_of_ble_eq_true rfl) rfl rfl rfl rfl rfl dX4_init_7 ?_
  refine N_put (ci := 4) (j := 3) (r := (RX4, TX4, 4)) (fs := [.int 0, .int 0, .int 0, .null]) (ty := tyX4 3) (S' := nw_84) rfl rfl (by decide) (by decide) rfl (fun _ => ⟨rfl, rfl⟩) rfl kf_X4_9 rfl dX4_init_9 ?_
  exact N_vret rfl rfl rfl rfl dX4_init_12
set_option maxRecDepth 100000 in
set_option maxHeartbeats 4000000 in
theorem cn_13 : CtN mi_X4_init yX4_init 44 nw_86 nw_88 := by
  refine CtN_of (by decide +kernel) rfl (Nat.le_of_ble_eq_true rfl) rfl ?_
  refine N_aload_n dX4_init_0 rfl 0 rfl ?_
  refine N_obj km_X4_3 kin_object kcd_object (Nat.le_of_ble_eq_true rfl) (Nat.le_of_ble_eq_true rfl) dX4_init_1 ?_
  refine N_aload_n dX4_init_4 rfl 0 rfl ?_
  refine N_bipush 20 dX4_init_5 rfl ?_
  refine N_newarr (k := 0) (N' := 20) (ty := .int) (q := 45) (S' := nw_87) rfl (fun _ => rfl) kar_int (fun _ => rfl) (by decide) rfl (by decide) (Nat.le_of_ble_eq_true rfl) (Nat.le_of_ble_eq_true rfl) rfl rfl rfl rfl rfl dX4_init_7 ?_
  refine N_put (ci := 4) (j := 3) (r := (RX4, TX4, 4)) (fs := [.int 0, .int 0, .int 0, .null]) (ty := tyX4 3) (S' := nw_88) rfl rfl (by decide) (by decide) rfl (fun _ => ⟨rfl, rfl⟩) rfl kf_X4_9 rfl dX4_init_9 ?_
  exact N_vret rfl rfl rfl rfl dX4_init_12
set_option maxRecDepth 100000 in
set_option maxHeartbeats 4000000 in
theorem cn_14 : CtN mi_X4_init yX4_init 46 nw_90 nw_92 := by
  refine CtN_of (by decide +kernel) rfl (Nat.le_of_ble_eq_true rfl) rfl ?_
  refine N_aload_n dX4_init_0 rfl 0 rfl ?_
  refine N_obj km_X4_3 kin_object kcd_object (Nat.le_of_ble_eq_true rfl) (Nat.le_of_ble_eq_true rfl) dX4_init_1 ?_
  refine N_aload_n dX4_init_4 rfl 0 rfl ?_
  refine N_bipush 20 dX4_init_5 rfl ?_
  refine N_newarr (k := 0) (N' := 20) (ty := .int) (q := 47) (S' := nw_91) rfl (fun _ => rfl) kar_int (fun _ => rfl) (by decide) rfl (by decide) (Nat.le_of_ble_eq_true rfl) (Nat.le_of_ble_eq_true rfl) rfl rfl rfl rfl rfl dX4_init_7 ?_
  refine N_put (ci := 4) (j := 3) (r := (RX4, TX4, 4)) (fs := [.int 0, .int 0, .int 0, .null]) (ty := tyX4 3) (S' := nw_92) rfl rfl (by decide) (by decide) rfl (fun _ => ⟨rfl, rfl⟩) rfl kf_X4_9 rfl dX4_init_9 ?_
  exact N_vret rfl rfl rfl rfl dX4_init_12
set_option maxRecDepth 100000 in
set_option maxHeartbeats 4000000 in
theorem cn_15 : CtN mi_X4_init yX4_init 48 nw_94 nw_96 := by
  refine CtN_of (by decide +kernel) rfl (Nat.le_of_ble_eq_true rfl) rfl ?_
  refine N_aload_n dX4_init_0 rfl 0 rfl ?_
  refine N_obj km_X4_3 kin_object kcd_object (Nat.le_of_ble_eq_true rfl) (Nat.le_of_ble_eq_true rfl) dX4_init_1 ?_
  refine N_aload_n dX4_init_4 rfl 0 rfl ?_
  refine N_bipush 20 dX4_init_5 rfl ?_
  refine N_newarr (k := 0) (N' := 20) (ty := .int) (q := 49) (S' := nw_95) rfl (fun _ => rfl) kar_int (fun _ => rfl) (by decide) rfl (by decide) (Nat.le_of_ble_eq_true rfl) (Nat.le_of_ble_eq_true rfl) rfl rfl rfl rfl rfl dX4_init_7 ?_
  refine N_put (ci := 4) (j := 3) (r := (RX4, TX4, 4)) (fs := [.int 0, .int 0, .int 0, .null]) (ty := tyX4 3) (S' := nw_96) rfl rfl (by decide) (by decide) rfl (fun _ => ⟨rfl, rfl⟩) rfl kf_X4_9 rfl dX4_init_9 ?_
  exact N_vret rfl rfl rfl rfl dX4_init_12
set_option maxRecDepth 100000 in
set_option maxHeartbeats 4000000 in
theorem cn_16 : CtN mi_X4_init yX4_init 50 nw_98 nw_100 := by
  refine CtN_of (by decide +kernel) rfl (Nat.le_of_ble_eq_true rfl) rfl ?_
  refine N_aload_n dX4_init_0 rfl 0 rfl ?_
  refine N_obj km_X4_3 kin_object kcd_object (Nat.le_of_ble_eq_true rfl) (Nat.le_of_ble_eq_true rfl) dX4_init_1 ?_
  refine N_aload_n dX4_init_4 rfl 0 rfl ?_
  refine N_bipush 20 dX4_init_5 rfl ?_
  refine N_newarr (k := 0) (N' := 20) (ty := .int) (q := 51) (S' := nw_99) rfl (fun _ => rfl) kar_int (fun _ => rfl) (by decide) rfl (by decide) (Nat.le_of_ble_eq_true rfl) (Nat.le_of_ble_eq_true rfl) rfl rfl rfl rfl rfl dX4_init_7 ?_
  refine N_put (ci := 4) (j := 3) (r := (RX4, TX4, 4)) (fs := [.int 0, .int 0, .int 0, .null]) (ty := tyX4 3) (S' := nw_100) rfl rfl (by decide) (by decide) rfl (fun _ => ⟨rfl, rfl⟩) rfl kf_X4_9 rfl dX4_init_9 ?_
  exact N_vret rfl rfl rfl rfl dX4_init_12
set_option maxRecDepth 100000 in
set_option maxHeartbeats 4000000 in
theorem cn_17 : CtN mi_X4_init yX4_init 52 nw_102 nw_104 := by
  refine CtN_of (by decide +kernel) rfl (Nat.le_of_ble_eq_true rfl) rfl ?_
  refine N_aload_n dX4_init_0 rfl 0 rfl ?_
  refine N_obj km_X4_3 kin_object kcd_object (Nat.le_of_ble_eq_true rfl) (Nat.le_of_ble_eq_true rfl) dX4_init_1 ?_
  refine N_aload_n dX4_init_4 rfl 0 rfl ?_
  refine N_bipush 20 dX4_init_5 rfl ?_
  refine N_newarr (k := 0) (N' := 20) (ty := .int) (q := 53) (S' := nw_103) rfl (fun _ => rfl) kar_int (fun _ => rfl) (by decide) rfl (by decide) (Nat.le_of_ble_eq_true rfl) (Nat.le_of_ble_eq_true rfl) rfl rfl rfl rfl rfl dX4_init_7 ?_
  refine N_put (ci := 4) (j := 3) (r := (RX4, TX4, 4)) (fs := [.int 0, .int 0, .int 0, .null]) (ty := tyX4 3) (S' := nw_104) rfl rfl (by decide) (by decide) rfl (fun _ => ⟨rfl, rfl⟩) rfl kf_X4_9 rfl dX4_init_9 ?_
  exact N_vret rfl rfl rfl rfl dX4_init_12
set_option maxRecDepth 100000 in
set_option maxHeartbeats 4000000 in
theorem cn_18 : CtN mi_X4_init yX4_init 54 nw_106 nw_108 := by
  refine CtN_of (by decide +kernel) rfl (Nat.le_of_ble_eq_true rfl) rfl ?_
  refine N_aload_n dX4_init_0 rfl 0 rfl ?_
  refine N_obj km_X4_3 kin_object kcd_object (Nat.le_of_ble_eq_true rfl) (Nat.le_of_ble_eq_true rfl) dX4_init_1 ?_
  refine N_aload_n dX4_init_4 rfl 0 rfl ?_
  refine N_bipush 20 dX4_init_5 rfl ?_
  refine N_newarr (k := 0) (N' := 20) (ty := .int) (q := 55) (S' := nw_107) rfl (fun _ => rfl) kar_int (fun _ => rfl) (by decide) rfl (by decide) (Nat.le_of_ble_eq_true rfl) (Nat.le_of_ble_eq_true rfl) rfl rfl rfl rfl rfl dX4_init_7 ?_
  refine N_put (ci := 4) (j := 3) (r := (RX4, TX4, 4)) (fs := [.int 0, .int 0, .int 0, .null]) (ty := tyX4 3) (S' := nw_108) rfl rfl (by decide) (by decide) rfl (fun _ => ⟨rfl, rfl⟩) rfl kf_X4_9 rfl dX4_init_9 ?_
  exact N_vret rfl rfl rfl rfl dX4_init_12
def mi_X2_init : aMi := (cX2_init, 2, RX2, none, { frames := 2, cells := 33, slots := 400, locals := 40 })
set_option maxRecDepth 100000 in
set_option maxHeartbeats 4000000 in
theorem cn_19 : CtN mi_X2_init yX2_init 22 nw_43 nw_109 := by
  refine CtN_of (by decide +kernel) rfl (Nat.le_of_ble_eq_true rfl) rfl ?_
  refine N_aload_n dX2_init_0 rfl 0 rfl ?_
  refine N_obj km_X2_1 kin_object kcd_object (Nat.le_of_ble_eq_true rfl) (Nat.le_of_ble_eq_true rfl) dX2_init_1 ?_
  refine N_aload_n dX2_init_4 rfl 0 rfl ?_
  refine N_bipush 16 dX2_init_5 rfl ?_
  refine N_newq (k := 5) (N' := 16) (Cn := RX4) (q := 23) (S' := nw_44) (fun _ => rfl) (fun _ h => h.2.2.2) kcl_X2_9 (by decide) rfl (by decide) (Nat.le_of_ble_eq_true rfl) (Nat.le_of_ble_eq_true rfl) rfl rfl rfl rfl rfl dX2_init_7 ?_
  refine N_put (ci := 2) (j := 0) (r := (RX2, TX2, 3)) (fs := [.null, .int 0, .int 0]) (ty := tyX2 0) (S' := nw_45) rfl rfl (by decide) (by decide) rfl (fun _ => ⟨rfl, rfl⟩) rfl kf_X2_11 rfl dX2_init_10 ?_
  refine N_iconst 0 dX2_init_13 rfl ?_
  refine N_istore_n (L' := [(1, .int 0), (0, .ref 22)]) dX2_init_14 rfl (by decide) rfl ?_
  refine N_iload_n dX2_init_15 rfl 0 rfl ?_
  refine N_bipush 16 dX2_init_16 rfl ?_
  refine N_geF 40 dX2_init_18 (by decide) (by decide) ?_
  refine N_aload_n dX2_init_21 rfl 1 rfl ?_
  refine N_getr (ci := 2) (j := 0) (x := 23) (r := (RX2, TX2, 3)) (fs := [.ref 23, .int 0, .int 0]) rfl rfl (by decide) rfl kf_X2_11 dX2_init_22 ?_
  refine N_iload_n dX2_init_25 rfl 0 rfl ?_
  refine N_new (ci := 4) (r := (RX4, TX4, 4)) (ty := tyX4) (fs := [.int 0, .int 0, .int 0, .null]) (q := 24) (S' := nw_46) rfl tyX4_ok dfl_X4 (fun _ => rfl) kcl_X2_9 kin_X4 ki_X4 (Nat.le_of_ble_eq_true rfl) (Nat.le_of_ble_eq_true rfl) rfl rfl rfl rfl rfl dX2_init_26 ?_
  refine N_dup dX2_init_29 rfl ?_
  refine N_callN (mj := mi_X4_init) cn_3 rfl (by decide) (fun _ h => h.1.2.2.2.1) kd_X4_init rfl ki_X4 rfl kin_X4_init hd_X4_init ⟨(Nat.le_of_ble_eq_true rfl), (Nat.le_of_ble_eq_true rfl)⟩ rfl rfl (Nat.le_of_ble_eq_true rfl) ⟨(Nat.le_of_ble_eq_true rfl), (Nat.le_of_ble_eq_true rfl)⟩ dX2_init_30 ?_
  refine N_aast (k := 5) (ci := 4) (jn := 0) (l0 := [none, none, none, none, none, none, none, none, none, none, none, none, none, none, none, none]) (r := (RX4, TX4, 4)) (fs := [.int 0, .int 0, .int 0, .ref 25]) (S' := nw_49) rfl (fun _ => rfl) rfl rfl rfl (vp_in_iff.mpr (by decide)) (by decide) rfl dX2_init_33 ?_
  refine N_iinc (j := 0) (v := 1) (L' := [(1, .int 1), (0, .ref 22)]) dX2_init_34 rfl rfl (by decide) rfl ?_
  refine N_goto 15 dX2_init_37 (by decide) ?_
  refine N_iload_n dX2_init_15 rfl 0 rfl ?_
  refine N_bipush 16 dX2_init_16 rfl ?_
  refine N_geF 40 dX2_init_18 (by decide) (by decide) ?_
  refine N_aload_n dX2_init_21 rfl 1 rfl ?_
  refine N_getr (ci := 2) (j := 0) (x := 23) (r := (RX2, TX2, 3)) (fs := [.ref 23, .int 0, .int 0]) rfl rfl (by decide) rfl kf_X2_11 dX2_init_22 ?_
  refine N_iload_n dX2_init_25 rfl 0 rfl ?_
  refine N_new (ci := 4) (r := (RX4, TX4, 4)) (ty := tyX4) (fs := [.int 0, .int 0, .int 0, .null]) (q := 26) (S' := nw_50) rfl tyX4_ok dfl_X4 (fun _ => rfl) kcl_X2_9 kin_X4 ki_X4 (Nat.le_of_ble_eq_true rfl) (Nat.le_of_ble_eq_true rfl) rfl rfl rfl rfl rfl dX2_init_26 ?_
  refine N_dup dX2_init_29 rfl ?_
  refine N_callN (mj := mi_X4_init) cn_4 rfl (by decide) (fun _ h => h.1.2.2.2.1) kd_X4_init rfl ki_X4 rfl kin_X4_init hd_X4_init ⟨(Nat.le_of_ble_eq_true rfl), (Nat.le_of_ble_eq_true rfl)⟩ rfl rfl (Nat.le_of_ble_eq_true rfl) ⟨(Nat.le_of_ble_eq_true rfl), (Nat.le_of_ble_eq_true rfl)⟩ dX2_init_30 ?_
  refine N_aast (k := 5) (ci := 4) (jn := 1) (l0 := [some 24, none, none, none, none, none, none, none, none, none, none, none, none, none, none, none]) (r := (RX4, TX4, 4)) (fs := [.int 0, .int 0, .int 0, .ref 27]) (S' := nw_53) rfl (fun _ => rfl) rfl rfl rfl (vp_in_iff.mpr (by decide)) (by decide) rfl dX2_init_33 ?_
  refine N_iinc (j := 0) (v := 2) (L' := [(1, .int 2), (0, .ref 22)]) dX2_init_34 rfl rfl (by decide) rfl ?_
  refine N_goto 15 dX2_init_37 (by decide) ?_
  refine N_iload_n dX2_init_15 rfl 0 rfl ?_
  refine N_bipush 16 dX2_init_16 rfl ?_
  refine N_geF 40 dX2_init_18 (by decide) (by decide) ?_
  refine N_aload_n dX2_init_21 rfl 1 rfl ?_
  refine N_getr (ci := 2) (j := 0) (x := 23) (r := (RX2, TX2, 3)) (fs := [.ref 23, .int 0, .int 0]) rfl rfl (by decide) rfl kf_X2_11 dX2_init_22 ?_
  refine N_iload_n dX2_init_25 rfl 0 rfl ?_
  refine N_new (ci := 4) (r := (RX4, TX4, 4)) (ty := tyX4) (fs := [.int 0, .int 0, .int 0, .null]) (q := 28) (S' := nw_54) rfl tyX4_ok dfl_X4 (fun _ => rfl) kcl_X2_9 kin_X4 ki_X4 (Nat.le_of_ble_eq_true rfl) (Nat.le_of_ble_eq_true rfl) rfl rfl rfl rfl rfl dX2_init_26 ?_
  refine N_dup dX2_init_29 rfl ?_
  refine N_callN (mj := mi_X4_init) cn_5 rfl (by decide) (fun _ h => h.1.2.2.2.1) kd_X4_init rfl ki_X4 rfl kin_X4_init hd_X4_init ⟨(Nat.le_of_ble_eq_true rfl), (Nat.le_of_ble_eq_true rfl)⟩ rfl rfl (Nat.le_of_ble_eq_true rfl) ⟨(Nat.le_of_ble_eq_true rfl), (Nat.le_of_ble_eq_true rfl)⟩ dX2_init_30 ?_
  refine N_aast (k := 5) (ci := 4) (jn := 2) (l0 := [some 24, some 26, none, none, none, none, none, none, none, none, none, none, none, none, none, none]) (r := (RX4, TX4, 4)) (fs := [.int 0, .int 0, .int 0, .ref 29]) (S' := nw_57) rfl (fun _ => rfl) rfl rfl rfl (vp_in_iff.mpr (by decide)) (by decide) rfl dX2_init_33 ?_
  refine N_iinc (j := 0) (v := 3) (L' := [(1, .int 3), (0, .ref 22)]) dX2_init_34 rfl rfl (by decide) rfl ?_
  refine N_goto 15 dX2_init_37 (by decide) ?_
  refine N_iload_n dX2_init_15 rfl 0 rfl ?_
  refine N_bipush 16 dX2_init_16 rfl ?_
  refine N_geF 40 dX2_init_18 (by decide) (by decide) ?_
  refine N_aload_n dX2_init_21 rfl 1 rfl ?_
  refine N_getr (ci := 2) (j := 0) (x := 23) (r := (RX2, TX2, 3)) (fs := [.ref 23, .int 0, .int 0]) rfl rfl (by decide) rfl kf_X2_11 dX2_init_22 ?_
  refine N_iload_n dX2_init_25 rfl 0 rfl ?_
  refine N_new (ci := 4) (r := (RX4, TX4, 4)) (ty := tyX4) (fs := [.int 0, .int 0, .int 0, .null]) (q := 30) (S' := nw_58) rfl tyX4_ok dfl_X4 (fun _ => rfl) kcl_X2_9 kin_X4 ki_X4 (Nat.le_of_ble_eq_true rfl) (Nat.le_of_ble_eq_true rfl) rfl rfl rfl rfl rfl dX2_init_26 ?_
  refine N_dup dX2_init_29 rfl ?_
  refine N_callN (mj := mi_X4_init) cn_6 rfl (by decide) (fun _ h => h.1.2.2.2.1) kd_X4_init rfl ki_X4 rfl kin_X4_init hd_X4_init ⟨(Nat.le_of_ble_eq_true rfl), (Nat.le_of_ble_eq_true rfl)⟩ rfl rfl (Nat.le_of_ble_eq_true rfl) ⟨(Nat.le_of_ble_eq_true rfl), (Nat.le_of_ble_eq_true rfl)⟩ dX2_init_30 ?_
  refine N_aast (k := 5) (ci := 4) (jn := 3) (l0 := [some 24, some 26, some 28, none, none, none, none, none, none, none, none, none, none, none, none, none]) (r := (RX4, TX4, 4)) (fs := [.int 0, .int 0, .int 0, .ref 31]) (S' := nw_61) rfl (fun _ => rfl) rfl rfl rfl (vp_in_iff.mpr (by decide)) (by decide) rfl dX2_init_33 ?_
  refine N_iinc (j := 0) (v := 4) (L' := [(1, .int 4), (0, .ref 22)]) dX2_init_34 rfl rfl (by decide) rfl ?_
  refine N_goto 15 dX2_init_37 (by decide) ?_
  refine N_iload_n dX2_init_15 rfl 0 rfl ?_
  refine N_bipush 16 dX2_init_16 rfl ?_
  refine N_geF 40 dX2_init_18 (by decide) (by decide) ?_
  refine N_aload_n dX2_init_21 rfl 1 rfl ?_
  refine N_getr (ci := 2) (j := 0) (x := 23) (r := (RX2, TX2, 3)) (fs := [.ref 23, .int 0, .int 0]) rfl rfl (by decide) rfl kf_X2_11 dX2_init_22 ?_
  refine N_iload_n dX2_init_25 rfl 0 rfl ?_
  refine N_new (ci := 4) (r := (RX4, TX4, 4)) (ty := tyX4) (fs := [.int 0, .int 0, .int 0, .null]) (q := 32) (S' := nw_62) rfl tyX4_ok dfl_X4 (fun _ => rfl) kcl_X2_9 kin_X4 ki_X4 (Nat.le_of_ble_eq_true rfl) (Nat.le_of_ble_eq_true rfl) rfl rfl rfl rfl rfl dX2_init_26 ?_
  refine N_dup dX2_init_29 rfl ?_
  refine N_callN (mj := mi_X4_init) cn_7 rfl (by decide) (fun _ h => h.1.2.2.2.1) kd_X4_init rfl ki_X4 rfl kin_X4_init hd_X4_init ⟨(Nat.le_of_ble_eq_true rfl), (Nat.le_of_ble_eq_true rfl)⟩ rfl rfl (Nat.le_of_ble_eq_true rfl) ⟨(Nat.le_of_ble_eq_true rfl), (Nat.le_of_ble_eq_true rfl)⟩ dX2_init_30 ?_
  refine N_aast (k := 5) (ci := 4) (jn := 4) (l0 := [some 24, some 26, some 28, some 30, none, none, none, none, none, none, none, none, none, none, none, none]) (r := (RX4, TX4, 4)) (fs := [.int 0, .int 0, .int 0, .ref 33]) (S' := nw_65) rfl (fun _ => rfl) rfl rfl rfl (vp_in_iff.mpr (by decide)) (by decide) rfl dX2_init_33 ?_
  refine N_iinc (j := 0) (v := 5) (L' := [(1, .int 5), (0, .ref 22)]) dX2_init_34 rfl rfl (by decide) rfl ?_
  refine N_goto 15 dX2_init_37 (by decide) ?_
  refine N_iload_n dX2_init_15 rfl 0 rfl ?_
  refine N_bipush 16 dX2_init_16 rfl ?_
  refine N_geF 40 dX2_init_18 (by decide) (by decide) ?_
  refine N_aload_n dX2_init_21 rfl 1 rfl ?_
  refine N_getr (ci := 2) (j := 0) (x := 23) (r := (RX2, TX2, 3)) (fs := [.ref 23, .int 0, .int 0]) rfl rfl (by decide) rfl kf_X2_11 dX2_init_22 ?_
  refine N_iload_n dX2_init_25 rfl 0 rfl ?_
  refine N_new (ci := 4) (r := (RX4, TX4, 4)) (ty := tyX4) (fs := [.int 0, .int 0, .int 0, .null]) (q := 34) (S' := nw_66) rfl tyX4_ok dfl_X4 (fun _ => rfl) kcl_X2_9 kin_X4 ki_X4 (Nat.le_of_ble_eq_true rfl) (Nat.le_of_ble_eq_true rfl) rfl rfl rfl rfl rfl dX2_init_26 ?_
  refine N_dup dX2_init_29 rfl ?_
  refine N_callN (mj := mi_X4_init) cn_8 rfl (by decide) (fun _ h => h.1.2.2.2.1) kd_X4_init rfl ki_X4 rfl kin_X4_init hd_X4_init ⟨(Nat.le_of_ble_eq_true rfl), (Nat.le_of_ble_eq_true rfl)⟩ rfl rfl (Nat.le_of_ble_eq_true rfl) ⟨(Nat.le_of_ble_eq_true rfl), (Nat.le_of_ble_eq_true rfl)⟩ dX2_init_30 ?_
  refine N_aast (k := 5) (ci := 4) (jn := 5) (l0 := [some 24, some 26, some 28, some 30, some 32, none, none, none, none, none, none, none, none, none, none, none]) (r := (RX4, TX4, 4)) (fs := [.int 0, .int 0, .int 0, .ref 35]) (S' := nw_69) rfl (fun _ => rfl) rfl rfl rfl (vp_in_iff.mpr (by decide)) (by decide) rfl dX2_init_33 ?_
  refine N_iinc (j := 0) (v := 6) (L' := [(1, .int 6), (0, .ref 22)]) dX2_init_34 rfl rfl (by decide) rfl ?_
  refine N_goto 15 dX2_init_37 (by decide) ?_
  refine N_iload_n dX2_init_15 rfl 0 rfl ?_
  refine N_bipush 16 dX2_init_16 rfl ?_
  refine N_geF 40 dX2_init_18 (by decide) (by decide) ?_
  refine N_aload_n dX2_init_21 rfl 1 rfl ?_
  refine N_getr (ci := 2) (j := 0) (x := 23) (r := (RX2, TX2, 3)) (fs := [.ref 23, .int 0, .int 0]) rfl rfl (by decide) rfl kf_X2_11 dX2_init_22 ?_
  refine N_iload_n dX2_init_25 rfl 0 rfl ?_
  refine N_new (ci := 4) (r := (RX4, TX4, 4)) (ty := tyX4) (fs := [.int 0, .int 0, .int 0, .null]) (q := 36) (S' := nw_70) rfl tyX4_ok dfl_X4 (fun _ => rfl) kcl_X2_9 kin_X4 ki_X4 (Nat.le_of_ble_eq_true rfl) (Nat.le_of_ble_eq_true rfl) rfl rfl rfl rfl rfl dX2_init_26 ?_
  refine N_dup dX2_init_29 rfl ?_
  refine N_callN (mj := mi_X4_init) cn_9 rfl (by decide) (fun _ h => h.1.2.2.2.1) kd_X4_init rfl ki_X4 rfl kin_X4_init hd_X4_init ⟨(Nat.le_of_ble_eq_true rfl), (Nat.le_of_ble_eq_true rfl)⟩ rfl rfl (Nat.le_of_ble_eq_true rfl) ⟨(Nat.le_of_ble_eq_true rfl), (Nat.le_of_ble_eq_true rfl)⟩ dX2_init_30 ?_
  refine N_aast (k := 5) (ci := 4) (jn := 6) (l0 := [some 24, some 26, some 28, some 30, some 32, some 34, none, none, none, none, none, none, none, none, none, none]) (r := (RX4, TX4, 4)) (fs := [.int 0, .int 0, .int 0, .ref 37]) (S' := nw_73) rfl (fun _ => rfl) rfl rfl rfl (vp_in_iff.mpr (by decide)) (by decide) rfl dX2_init_33 ?_
  refine N_iinc (j := 0) (v := 7) (L' := [(1, .int 7), (0, .ref 22)]) dX2_init_34 rfl rfl (by decide) rfl ?_
  refine N_goto 15 dX2_init_37 (by decide) ?_
  refine N_iload_n dX2_init_15 rfl 0 rfl ?_
  refine N_bipush 16 dX2_init_16 rfl ?_
  refine N_geF 40 dX2_init_18 (by decide) (by decide) ?_
  refine N_aload_n dX2_init_21 rfl 1 rfl ?_
  refine N_getr (ci := 2) (j := 0) (x := 23) (r := (RX2, TX2, 3)) (fs := [.ref 23, .int 0, .int 0]) rfl rfl (by decide) rfl kf_X2_11 dX2_init_22 ?_
  refine N_iload_n dX2_init_25 rfl 0 rfl ?_
  refine N_new (ci := 4) (r := (RX4, TX4, 4)) (ty := tyX4) (fs := [.int 0, .int 0, .int 0, .null]) (q := 38) (S' := nw_74) rfl tyX4_ok dfl_X4 (fun _ => rfl) kcl_X2_9 kin_X4 ki_X4 (Nat.le_of_ble_eq_true rfl) (Nat.le_of_ble_eq_true rfl) rfl rfl rfl rfl rfl dX2_init_26 ?_
  refine N_dup dX2_init_29 rfl ?_
  refine N_callN (mj := mi_X4_init) cn_10 rfl (by decide) (fun _ h => h.1.2.2.2.1) kd_X4_init rfl ki_X4 rfl kin_X4_init hd_X4_init ⟨(Nat.le_of_ble_eq_true rfl), (Nat.le_of_ble_eq_true rfl)⟩ rfl rfl (Nat.le_of_ble_eq_true rfl) ⟨(Nat.le_of_ble_eq_true rfl), (Nat.le_of_ble_eq_true rfl)⟩ dX2_init_30 ?_
  refine N_aast (k := 5) (ci := 4) (jn := 7) (l0 := [some 24, some 26, some 28, some 30, some 32, some 34, some 36, none, none, none, none, none, none, none, none, none]) (r := (RX4, TX4, 4)) (fs := [.int 0, .int 0, .int 0, .ref 39]) (S' := nw_77) rfl (fun _ => rfl) rfl rfl rfl (vp_in_iff.mpr (by decide)) (by decide) rfl dX2_init_33 ?_
  refine N_iinc (j := 0) (v := 8) (L' := [(1, .int 8), (0, .ref 22)]) dX2_init_34 rfl rfl (by decide) rfl ?_
  refine N_goto 15 dX2_init_37 (by decide) ?_
  refine N_iload_n dX2_init_15 rfl 0 rfl ?_
  refine N_bipush 16 dX2_init_16 rfl ?_
  refine N_geF 40 dX2_init_18 (by decide) (by decide) ?_
  refine N_aload_n dX2_init_21 rfl 1 rfl ?_
  refine N_getr (ci := 2) (j := 0) (x := 23) (r := (RX2, TX2, 3)) (fs := [.ref 23, .int 0, .int 0]) rfl rfl (by decide) rfl kf_X2_11 dX2_init_22 ?_
  refine N_iload_n dX2_init_25 rfl 0 rfl ?_
  refine N_new (ci := 4) (r := (RX4, TX4, 4)) (ty := tyX4) (fs := [.int 0, .int 0, .int 0, .null]) (q := 40) (S' := nw_78) rfl tyX4_ok dfl_X4 (fun _ => rfl) kcl_X2_9 kin_X4 ki_X4 (Nat.le_of_ble_eq_true rfl) (Nat.le_of_ble_eq_true rfl) rfl rfl rfl rfl rfl dX2_init_26 ?_
  refine N_dup dX2_init_29 rfl ?_
  refine N_callN (mj := mi_X4_init) cn_11 rfl (by decide) (fun _ h => h.1.2.2.2.1) kd_X4_init rfl ki_X4 rfl kin_X4_init hd_X4_init ⟨(Nat.le_of_ble_eq_true rfl), (Nat.le_of_ble_eq_true rfl)⟩ rfl rfl (Nat.le_of_ble_eq_true rfl) ⟨(Nat.le_of_ble_eq_true rfl), (Nat.le_of_ble_eq_true rfl)⟩ dX2_init_30 ?_
  refine N_aast (k := 5) (ci := 4) (jn := 8) (l0 := [some 24, some 26, some 28, some 30, some 32, some 34, some 36, some 38, none, none, none, none, none, none, none, none]) (r := (RX4, TX4, 4)) (fs := [.int 0, .int 0, .int 0, .ref 41]) (S' := nw_81) rfl (fun _ => rfl) rfl rfl rfl (vp_in_iff.mpr (by decide)) (by decide) rfl dX2_init_33 ?_
  refine N_iinc (j := 0) (v := 9) (L' := [(1, .int 9), (0, .ref 22)]) dX2_init_34 rfl rfl (by decide) rfl ?_
  refine N_goto 15 dX2_init_37 (by decide) ?_
  refine N_iload_n dX2_init_15 rfl 0 rfl ?_
  refine N_bipush 16 dX2_init_16 rfl ?_
  refine N_geF 40 dX2_init_18 (by decide) (by decide) ?_
  refine N_aload_n dX2_init_21 rfl 1 rfl ?_
  refine N_getr (ci := 2) (j := 0) (x := 23) (r := (RX2, TX2, 3)) (fs := [.ref 23, .int 0, .int 0]) rfl rfl (by decide) rfl kf_X2_11 dX2_init_22 ?_
  refine N_iload_n dX2_init_25 rfl 0 rfl ?_
  refine N_new (ci := 4) (r := (RX4, TX4, 4)) (ty := tyX4) (fs := [.int 0, .int 0, .int 0, .null]) (q := 42) (S' := nw_82) rfl tyX4_ok dfl_X4 (fun _ => rfl) kcl_X2_9 kin_X4 ki_X4 (Nat.le_of_ble_eq_true rfl) (Nat.le_of_ble_eq_true rfl) rfl rfl rfl rfl rfl dX2_init_26 ?_
  refine N_dup dX2_init_29 rfl ?_
  refine N_callN (mj := mi_X4_init) cn_12 rfl (by decide) (fun _ h => h.1.2.2.2.1) kd_X4_init rfl ki_X4 rfl kin_X4_init hd_X4_init ⟨(Nat.le_of_ble_eq_true rfl), (Nat.le_of_ble_eq_true rfl)⟩ rfl rfl (Nat.le_of_ble_eq_true rfl) ⟨(Nat.le_of_ble_eq_true rfl), (Nat.le_of_ble_eq_true rfl)⟩ dX2_init_30 ?_
  refine N_aast (k := 5) (ci := 4) (jn := 9) (l0 := [some 24, some 26, some 28, some 30, some 32, some 34, some 36, some 38, some 40, none, none, none, none, none, none, none]) (r := (RX4, TX4, 4)) (fs := [.int 0, .int 0, .int 0, .ref 43]) (S' := nw_85) rfl (fun _ => rfl) rfl rfl rfl (vp_in_iff.mpr (by decide)) (by decide) rfl dX2_init_33 ?_
  refine N_iinc (j := 0) (v := 10) (L' := [(1, .int 10), (0, .ref 22)]) dX2_init_34 rfl rfl (by decide) rfl ?_
  refine N_goto 15 dX2_init_37 (by decide) ?_
  refine N_iload_n dX2_init_15 rfl 0 rfl ?_
  refine N_bipush 16 dX2_init_16 rfl ?_
  refine N_geF 40 dX2_init_18 (by decide) (by decide) ?_
  refine N_aload_n dX2_init_21 rfl 1 rfl ?_
  refine N_getr (ci := 2) (j := 0) (x := 23) (r := (RX2, TX2, 3)) (fs := [.ref 23, .int 0, .int 0]) rfl rfl (by decide) rfl kf_X2_11 dX2_init_22 ?_
  refine N_iload_n dX2_init_25 rfl 0 rfl ?_
  refine N_new (ci := 4) (r := (RX4, TX4, 4)) (ty := tyX4) (fs := [.int 0, .int 0, .int 0, .null]) (q := 44) (S' := nw_86) rfl tyX4_ok dfl_X4 (fun _ => rfl) kcl_X2_9 kin_X4 ki_X4 (Nat.le_of_ble_eq_true rfl) (Nat.le_of_ble_eq_true rfl) rfl rfl rfl rfl rfl dX2_init_26 ?_
  refine N_dup dX2_init_29 rfl ?_
  refine N_callN (mj := mi_X4_init) cn_13 rfl (by decide) (fun _ h => h.1.2.2.2.1) kd_X4_init rfl ki_X4 rfl kin_X4_init hd_X4_init ⟨(Nat.le_of_ble_eq_true rfl), (Nat.le_of_ble_eq_true rfl)⟩ rfl rfl (Nat.le_of_ble_eq_true rfl) ⟨(Nat.le_of_ble_eq_true rfl), (Nat.le_of_ble_eq_true rfl)⟩ dX2_init_30 ?_
  refine N_aast (k := 5) (ci := 4) (jn := 10) (l0 := [some 24, some 26, some 28, some 30, some 32, some 34, some 36, some 38, some 40, some 42, none, none, none, none, none, none]) (r := (RX4, TX4, 4)) (fs := [.int 0, .int 0, .int 0, .ref 45]) (S' := nw_89) rfl (fun _ => rfl) rfl rfl rfl (vp_in_iff.mpr (by decide)) (by decide) rfl dX2_init_33 ?_
  refine N_iinc (j := 0) (v := 11) (L' := [(1, .int 11), (0, .ref 22)]) dX2_init_34 rfl rfl (by decide) rfl ?_
  refine N_goto 15 dX2_init_37 (by decide) ?_
  refine N_iload_n dX2_init_15 rfl 0 rfl ?_
  refine N_bipush 16 dX2_init_16 rfl ?_
  refine N_geF 40 dX2_init_18 (by decide) (by decide) ?_
  refine N_aload_n dX2_init_21 rfl 1 rfl ?_
  refine N_getr (ci := 2) (j := 0) (x := 23) (r := (RX2, TX2, 3)) (fs := [.ref 23, .int 0, .int 0]) rfl rfl (by decide) rfl kf_X2_11 dX2_init_22 ?_
  refine N_iload_n dX2_init_25 rfl 0 rfl ?_
  refine N_new (ci := 4) (r := (RX4, TX4, 4)) (ty := tyX4) (fs := [.int 0, .int 0, .int 0, .null]) (q := 46) (S' := nw_90) rfl tyX4_ok dfl_X4 (fun _ => rfl) kcl_X2_9 kin_X4 ki_X4 (Nat.le_of_ble_eq_true rfl) (Nat.le_of_ble_eq_true rfl) rfl rfl rfl rfl rfl dX2_init_26 ?_
  refine N_dup dX2_init_29 rfl ?_
  refine N_callN (mj := mi_X4_init) cn_14 rfl (by decide) (fun _ h => h.1.2.2.2.1) kd_X4_init rfl ki_X4 rfl kin_X4_init hd_X4_init ⟨(Nat.le_of_ble_eq_true rfl), (Nat.le_of_ble_eq_true rfl)⟩ rfl rfl (Nat.le_of_ble_eq_true rfl) ⟨(Nat.le_of_ble_eq_true rfl), (Nat.le_of_ble_eq_true rfl)⟩ dX2_init_30 ?_
  refine N_aast (k := 5) (ci := 4) (jn := 11) (l0 := [some 24, some 26, some 28, some 30, some 32, some 34, some 36, some 38, some 40, some 42, some 44, none, none, none, none, none]) (r := (RX4, TX4, 4)) (fs := [.int 0, .int 0, .int 0, .ref 47]) (S' := nw_93) rfl (fun _ => rfl) rfl rfl rfl (vp_in_iff.mpr (by decide)) (by decide) rfl dX2_init_33 ?_
  refine N_iinc (j := 0) (v := 12) (L' := [(1, .int 12), (0, .ref 22)]) dX2_init_34 rfl rfl (by decide) rfl ?_
  refine N_goto 15 dX2_init_37 (by decide) ?_
  refine N_iload_n dX2_init_15 rfl 0 rfl ?_
  refine N_bipush 16 dX2_init_16 rfl ?_
  refine N_geF 40 dX2_init_18 (by decide) (by decide) ?_
  refine N_aload_n dX2_init_21 rfl 1 rfl ?_
  refine N_getr (ci := 2) (j := 0) (x := 23) (r := (RX2, TX2, 3)) (fs := [.ref 23, .int 0, .int 0]) rfl rfl (by decide) rfl kf_X2_11 dX2_init_22 ?_
  refine N_iload_n dX2_init_25 rfl 0 rfl ?_
  refine N_new (ci := 4) (r := (RX4, TX4, 4)) (ty := tyX4) (fs := [.int 0, .int 0, .int 0, .null]) (q := 48) (S' := nw_94) rfl tyX4_ok dfl_X4 (fun _ => rfl) kcl_X2_9 kin_X4 ki_X4 (Nat.le_of_ble_eq_true rfl) (Nat.le_of_ble_eq_true rfl) rfl rfl rfl rfl rfl dX2_init_26 ?_
  refine N_dup dX2_init_29 rfl ?_
  refine N_callN (mj := mi_X4_init) cn_15 rfl (by decide) (fun _ h => h.1.2.2.2.1) kd_X4_init rfl ki_X4 rfl kin_X4_init hd_X4_init ⟨(Nat.le_of_ble_eq_true rfl), (Nat.le_of_ble_eq_true rfl)⟩ rfl rfl (Nat.le_of_ble_eq_true rfl) ⟨(Nat.le_of_ble_eq_true rfl), (Nat.le_of_ble_eq_true rfl)⟩ dX2_init_30 ?_
  refine N_aast (k := 5) (ci := 4) (jn := 12) (l0 := [some 24, some 26, some 28, some 30, some 32, some 34, some 36, some 38, some 40, some 42, some 44, some 46, none, none, none, none]) (r := (RX4, TX4, 4)) (fs := [.int 0, .int 0, .int 0, .ref 49]) (S' := nw_97) rfl (fun _ => rfl) rfl rfl rfl (vp_in_iff.mpr (by decide)) (by decide) rfl dX2_init_33 ?_
  refine N_iinc (j := 0) (v := 13) (L' := [(1, .int 13), (0, .ref 22)]) dX2_init_34 rfl rfl (by decide) rfl ?_
  refine N_goto 15 dX2_init_37 (by decide) ?_
  refine N_iload_n dX2_init_15 rfl 0 rfl ?_
  refine N_bipush 16 dX2_init_16 rfl ?_
  refine N_geF 40 dX2_init_18 (by decide) (by decide) ?_
  refine N_aload_n dX2_init_21 rfl 1 rfl ?_
  refine N_getr (ci := 2) (j := 0) (x := 23) (r := (RX2, TX2, 3)) (fs := [.ref 23, .int 0, .int 0]) rfl rfl (by decide) rfl kf_X2_11 dX2_init_22 ?_
  refine N_iload_n dX2_init_25 rfl 0 rfl ?_
  refine N_new (ci := 4) (r := (RX4, TX4, 4)) (ty := tyX4) (fs := [.int 0, .int 0, .int 0, .null]) (q := 50) (S' := nw_98) rfl tyX4_ok dfl_X4 (fun _ => rfl) kcl_X2_9 kin_X4 ki_X4 (Nat.le_of_ble_eq_true rfl) (Nat.le_of_ble_eq_true rfl) rfl rfl rfl rfl rfl dX2_init_26 ?_
  refine N_dup dX2_init_29 rfl ?_
  refine N_callN (mj := mi_X4_init) cn_16 rfl (by decide) (fun _ h => h.1.2.2.2.1) kd_X4_init rfl ki_X4 rfl kin_X4_init hd_X4_init ⟨(Nat.le_of_ble_eq_true rfl), (Nat.le_of_ble_eq_true rfl)⟩ rfl rfl (Nat.le_of_ble_eq_true rfl) ⟨(Nat.le_of_ble_eq_true rfl), (Nat.le_of_ble_eq_true rfl)⟩ dX2_init_30 ?_
  refine N_aast (k := 5) (ci := 4) (jn := 13) (l0 := [some 24, some 26, some 28, some 30, some 32, some 34, some 36, some 38, some 40, some 42, some 44, some 46, some 48, none, none, none]) (r := (RX4, TX4, 4)) (fs := [.int 0, .int 0, .int 0, .ref 51]) (S' := nw_101) rfl (fun _ => rfl) rfl rfl rfl (vp_in_iff.mpr (by decide)) (by decide) rfl dX2_init_33 ?_
  refine N_iinc (j := 0) (v := 14) (L' := [(1, .int 14), (0, .ref 22)]) dX2_init_34 rfl rfl (by decide) rfl ?_
  refine N_goto 15 dX2_init_37 (by decide) ?_
  refine N_iload_n dX2_init_15 rfl 0 rfl ?_
  refine N_bipush 16 dX2_init_16 rfl ?_
  refine N_geF 40 dX2_init_18 (by decide) (by decide) ?_
  refine N_aload_n dX2_init_21 rfl 1 rfl ?_
  refine N_getr (ci := 2) (j := 0) (x := 23) (r := (RX2, TX2, 3)) (fs := [.ref 23, .int 0, .int 0]) rfl rfl (by decide) rfl kf_X2_11 dX2_init_22 ?_
  refine N_iload_n dX2_init_25 rfl 0 rfl ?_
  refine N_new (ci := 4) (r := (RX4, TX4, 4)) (ty := tyX4) (fs := [.int 0, .int 0, .int 0, .null]) (q := 52) (S' := nw_102) rfl tyX4_ok dfl_X4 (fun _ => rfl) kcl_X2_9 kin_X4 ki_X4 (Nat.le_of_ble_eq_true rfl) (Nat.le_of_ble_eq_true rfl) rfl rfl rfl rfl rfl dX2_init_26 ?_
  refine N_dup dX2_init_29 rfl ?_
  refine N_callN (mj := mi_X4_init) cn_17 rfl (by decide) (fun _ h => h.1.2.2.2.1) kd_X4_init rfl ki_X4 rfl kin_X4_init hd_X4_init ⟨(Nat.le_of_ble_eq_true rfl), (Nat.le_of_ble_eq_true rfl)⟩ rfl rfl (Nat.le_of_ble_eq_true rfl) ⟨(Nat.le_of_ble_eq_true rfl), (Nat.le_of_ble_eq_true rfl)⟩ dX2_init_30 ?_
  refine N_aast (k := 5) (ci := 4) (jn := 14) (l0 := [some 24, some 26, some 28, some 30, some 32, some 34, some 36, some 38, some 40, some 42, some 44, some 46, some 48, some 50, none, none]) (r := (RX4, TX4, 4)) (fs := [.int 0, .int 0, .int 0, .ref 53]) (S' := nw_105) rfl (fun _ => rfl) rfl rfl rfl (vp_in_iff.mpr (by decide)) (by decide) rfl dX2_init_33 ?_
  refine N_iinc (j := 0) (v := 15) (L' := [(1, .int 15), (0, .ref 22)]) dX2_init_34 rfl rfl (by decide) rfl ?_
  refine N_goto 15 dX2_init_37 (by decide) ?_
  refine N_iload_n dX2_init_15 rfl 0 rfl ?_
  refine N_bipush 16 dX2_init_16 rfl ?_
  refine N_geF 40 dX2_init_18 (by decide) (by decide) ?_
  refine N_aload_n dX2_init_21 rfl 1 rfl ?_
  refine N_getr (ci := 2) (j := 0) (x := 23) (r := (RX2, TX2, 3)) (fs := [.ref 23, .int 0, .int 0]) rfl rfl (by decide) rfl kf_X2_11 dX2_init_22 ?_
  refine N_iload_n dX2_init_25 rfl 0 rfl ?_
  refine N_new (ci := 4) (r := (RX4, TX4, 4)) (ty := tyX4) (fs := [.int 0, .int 0, .int 0, .null]) (q := 54) (S' := nw_106) rfl tyX4_ok dfl_X4 (fun _ => rfl) kcl_X2_9 kin_X4 ki_X4 (Nat.le_of_ble_eq_true rfl) (Nat.le_of_ble_eq_true rfl) rfl rfl rfl rfl rfl dX2_init_26 ?_
  refine N_dup dX2_init_29 rfl ?_
  refine N_callN (mj := mi_X4_init) cn_18 rfl (by decide) (fun _ h => h.1.2.2.2.1) kd_X4_init rfl ki_X4 rfl kin_X4_init hd_X4_init ⟨(Nat.le_of_ble_eq_true rfl), (Nat.le_of_ble_eq_true rfl)⟩ rfl rfl (Nat.le_of_ble_eq_true rfl) ⟨(Nat.le_of_ble_eq_true rfl), (Nat.le_of_ble_eq_true rfl)⟩ dX2_init_30 ?_
  refine N_aast (k := 5) (ci := 4) (jn := 15) (l0 := [some 24, some 26, some 28, some 30, some 32, some 34, some 36, some 38, some 40, some 42, some 44, some 46, some 48, some 50, some 52, none]) (r := (RX4, TX4, 4)) (fs := [.int 0, .int 0, .int 0, .ref 55]) (S' := nw_109) rfl (fun _ => rfl) rfl rfl rfl (vp_in_iff.mpr (by decide)) (by decide) rfl dX2_init_33 ?_
  refine N_iinc (j := 0) (v := 16) (L' := [(1, .int 16), (0, .ref 22)]) dX2_init_34 rfl rfl (by decide) rfl ?_
  refine N_goto 15 dX2_init_37 (by decide) ?_
  refine N_iload_n dX2_init_15 rfl 0 rfl ?_
  refine N_bipush 16 dX2_init_16 rfl ?_
  refine N_geT 40 dX2_init_18 (by decide) (by decide) ?_
  exact N_vret rfl rfl rfl rfl dX2_init_40
def mi_X1_init : aMi := (cX1_init, 1, RX1, none, { frames := 1, cells := 2, slots := 34, locals := 20 })
set_option maxRecDepth 100000 in
set_option maxHeartbeats 4000000 in
theorem cn_20 : CtN mi_X1_init yX1_init 56 nw_111 nw_115 := by
  refine CtN_of (by decide +kernel) rfl (Nat.le_of_ble_eq_true rfl) rfl ?_
  refine N_aload_n dX1_init_0 rfl 0 rfl ?_
  refine N_obj km_X1_3 kin_object kcd_object (Nat.le_of_ble_eq_true rfl) (Nat.le_of_ble_eq_true rfl) dX1_init_1 ?_
  refine N_aload_n dX1_init_4 rfl 0 rfl ?_
  refine N_bipush 30 dX1_init_5 rfl ?_
  refine N_newarr (k := 1) (N' := 30) (ty := .long) (q := 57) (S' := nw_112) rfl (fun _ => rfl) kar_long (fun _ => rfl) (by decide) rfl (by decide) (Nat.le_of_ble_eq_true rfl) (Nat.le_of_ble_eq_true rfl) rfl rfl rfl rfl rfl dX1_init_7 ?_
  refine N_put (ci := 1) (j := 6) (r := (RX1, TX1, 12)) (fs := [.int 0, .int 0, .int 0, .int 0, .int 0, .long 0, .null, .null, .int 0, .int 0, .int 0, .int 0]) (ty := tyX1 6) (S' := nw_113) rfl rfl (by decide) (by decide) rfl (fun _ => ⟨rfl, rfl⟩) rfl kf_X1_11 rfl dX1_init_9 ?_
  refine N_aload_n dX1_init_12 rfl 0 rfl ?_
  refine N_iconst 4 dX1_init_13 rfl ?_
  refine N_newarr (k := 0) (N' := 4) (ty := .int) (q := 58) (S' := nw_114) rfl (fun _ => rfl) kar_int (fun _ => rfl) (by decide) rfl (by decide) (Nat.le_of_ble_eq_true rfl) (Nat.le_of_ble_eq_true rfl) rfl rfl rfl rfl rfl dX1_init_14 ?_
  refine N_put (ci := 1) (j := 7) (r := (RX1, TX1, 12)) (fs := [.int 0, .int 0, .int 0, .int 0, .int 0, .long 0, .ref 57, .null, .int 0, .int 0, .int 0, .int 0]) (ty := tyX1 7) (S' := nw_115) rfl rfl (by decide) (by decide) rfl (fun _ => ⟨rfl, rfl⟩) rfl kf_X1_15 rfl dX1_init_16 ?_
  exact N_vret rfl rfl rfl rfl dX1_init_19
set_option maxRecDepth 100000 in
set_option maxHeartbeats 4000000 in
theorem cn_21 : CtN mi_X1_init yX1_init 59 nw_117 nw_121 := by
  refine CtN_of (by decide +kernel) rfl (Nat.le_of_ble_eq_true rfl) rfl ?_
  refine N_aload_n dX1_init_0 rfl 0 rfl ?_
  refine N_obj km_X1_3 kin_object kcd_object (Nat.le_of_ble_eq_true rfl) (Nat.le_of_ble_eq_true rfl) dX1_init_1 ?_
  refine N_aload_n dX1_init_4 rfl 0 rfl ?_
  refine N_bipush 30 dX1_init_5 rfl ?_
  refine N_newarr (k := 1) (N' := 30) (ty := .long) (q := 60) (S' := nw_118) rfl (fun _ => rfl) kar_long (fun _ => rfl) (by decide) rfl (by decide) (Nat.le_of_ble_eq_true rfl) (Nat.le_of_ble_eq_true rfl) rfl rfl rfl rfl rfl dX1_init_7 ?_
  refine N_put (ci := 1) (j := 6) (r := (RX1, TX1, 12)) (fs := [.int 0, .int 0, .int 0, .int 0, .int 0, .long 0, .null, .null, .int 0, .int 0, .int 0, .int 0]) (ty := tyX1 6) (S' := nw_119) rfl rfl (by decide) (by decide) rfl (fun _ => ⟨rfl, rfl⟩) rfl kf_X1_11 rfl dX1_init_9 ?_
  refine N_aload_n dX1_init_12 rfl 0 rfl ?_
  refine N_iconst 4 dX1_init_13 rfl ?_
  refine N_newarr (k := 0) (N' := 4) (ty := .int) (q := 61) (S' := nw_120) rfl (fun _ => rfl) kar_int (fun _ => rfl) (by decide) rfl (by decide) (Nat.le_of_ble_eq_true rfl) (Nat.le_of_ble_eq_true rfl) rfl rfl rfl rfl rfl dX1_init_14 ?_
  refine N_put (ci := 1) (j := 7) (r := (RX1, TX1, 12)) (fs := [.int 0, .int 0, .int 0, .int 0, .int 0, .long 0, .ref 60, .null, .int 0, .int 0, .int 0, .int 0]) (ty := tyX1 7) (S' := nw_121) rfl rfl (by decide) (by decide) rfl (fun _ => ⟨rfl, rfl⟩) rfl kf_X1_15 rfl dX1_init_16 ?_
  exact N_vret rfl rfl rfl rfl dX1_init_19
set_option maxRecDepth 100000 in
set_option maxHeartbeats 4000000 in
theorem cn_22 : CtN mi_X1_init yX1_init 62 nw_123 nw_127 := by
  refine CtN_of (by decide +kernel) rfl (Nat.le_of_ble_eq_true rfl) rfl ?_
  refine N_aload_n dX1_init_0 rfl 0 rfl ?_
  refine N_obj km_X1_3 kin_object kcd_object (Nat.le_of_ble_eq_true rfl) (Nat.le_of_ble_eq_true rfl) dX1_init_1 ?_
  refine N_aload_n dX1_init_4 rfl 0 rfl ?_
  refine N_bipush 30 dX1_init_5 rfl ?_
  refine N_newarr (k := 1) (N' := 30) (ty := .long) (q := 63) (S' := nw_124) rfl (fun _ => rfl) kar_long (fun _ => rfl) (by decide) rfl (by decide) (Nat.le_of_ble_eq_true rfl) (Nat.le_of_ble_eq_true rfl) rfl rfl rfl rfl rfl dX1_init_7 ?_
  refine N_put (ci := 1) (j := 6) (r := (RX1, TX1, 12)) (fs := [.int 0, .int 0, .int 0, .int 0, .int 0, .long 0, .null, .null, .int 0, .int 0, .int 0, .int 0]) (ty := tyX1 6) (S' := nw_125) rfl rfl (by decide) (by decide) rfl (fun _ => ⟨rfl, rfl⟩) rfl kf_X1_11 rfl dX1_init_9 ?_
  refine N_aload_n dX1_init_12 rfl 0 rfl ?_
  refine N_iconst 4 dX1_init_13 rfl ?_
  refine N_newarr (k := 0) (N' := 4) (ty := .int) (q := 64) (S' := nw_126) rfl (fun _ => rfl) kar_int (fun _ => rfl) (by decide) rfl (by decide) (Nat.le_of_ble_eq_true rfl) (Nat.le_of_ble_eq_true rfl) rfl rfl rfl rfl rfl dX1_init_14 ?_
  refine N_put (ci := 1) (j := 7) (r := (RX1, TX1, 12)) (fs := [.int 0, .int 0, .int 0, .int 0, .int 0, .long 0, .ref 63, .null, .int 0, .int 0, .int 0, .int 0]) (ty := tyX1 7) (S' := nw_127) rfl rfl (by decide) (by decide) rfl (fun _ => ⟨rfl, rfl⟩) rfl kf_X1_15 rfl dX1_init_16 ?_
  exact N_vret rfl rfl rfl rfl dX1_init_19
set_option maxRecDepth 100000 in
set_option maxHeartbeats 4000000 in
theorem cn_23 : CtN mi_X1_init yX1_init 65 nw_129 nw_133 := by
  refine CtN_of (by decide +kernel) rfl (Nat.le_of_ble_eq_true rfl) rfl ?_
  refine N_aload_n dX1_init_0 rfl 0 rfl ?_
  refine N_obj km_X1_3 kin_object kcd_object (Nat.le_of_ble_eq_true rfl) (Nat.le_of_ble_eq_true rfl) dX1_init_1 ?_
  refine N_aload_n dX1_init_4 rfl 0 rfl ?_
  refine N_bipush 30 dX1_init_5 rfl ?_
  refine N_newarr (k := 1) (N' := 30) (ty := .long) (q := 66) (S' := nw_130) rfl (fun _ => rfl) kar_long (fun _ => rfl) (by decide) rfl (by decide) (Nat.le_of_ble_eq_true rfl) (Nat.le_of_ble_eq_true rfl) rfl rfl rfl rfl rfl dX1_init_7 ?_
  refine N_put (ci := 1) (j := 6) (r := (RX1, TX1, 12)) (fs := [.int 0, .int 0, .int 0, .int 0, .int 0, .long 0, .null, .null, .int 0, .int 0, .int 0, .int 0]) (ty := tyX1 6) (S' := nw_131) rfl rfl (by decide) (by decide) rfl (fun _ => ⟨rfl, rfl⟩) rfl kf_X1_11 rfl dX1_init_9 ?_
  refine N_aload_n dX1_init_12 rfl 0 rfl ?_
  refine N_iconst 4 dX1_init_13 rfl ?_
  refine N_newarr (k := 0) (N' := 4) (ty := .int) (q := 67) (S' := nw_132) rfl (fun _ => rfl) kar_int (fun _ => rfl) (by decide) rfl (by decide) (Nat.le_of_ble_eq_true rfl) (Nat.le_of_ble_eq_true rfl) rfl rfl rfl rfl rfl dX1_init_14 ?_
  refine N_put (ci := 1) (j := 7) (r := (RX1, TX1, 12)) (fs := [.int 0, .int 0, .int 0, .int 0, .int 0, .long 0, .ref 66, .null, .int 0, .int 0, .int 0, .int 0]) (ty := tyX1 7) (S' := nw_133) rfl rfl (by decide) (by decide) rfl (fun _ => ⟨rfl, rfl⟩) rfl kf_X1_15 rfl dX1_init_16 ?_
  exact N_vret rfl rfl rfl rfl dX1_init_19
set_option maxRecDepth 100000 in
set_option maxHeartbeats 4000000 in
theorem cn_24 : CtN mi_X1_init yX1_init 68 nw_135 nw_139 := by
  refine CtN_of (by decide +kernel) rfl (Nat.le_of_ble_eq_true rfl) rfl ?_
  refine N_aload_n dX1_init_0 rfl 0 rfl ?_
  refine N_obj km_X1_3 kin_object kcd_object (Nat.le_of_ble_eq_true rfl) (Nat.le_of_ble_eq_true rfl) dX1_init_1 ?_
  refine N_aload_n dX1_init_4 rfl 0 rfl ?_
  refine N_bipush 30 dX1_init_5 rfl ?_
  refine N_newarr (k := 1) (N' := 30) (ty := .long) (q := 69) (S' := nw_136) rfl (fun _ => rfl) kar_long (fun _ => rfl) (by decide) rfl (by decide) (Nat.le_of_ble_eq_true rfl) (Nat.le_of_ble_eq_true rfl) rfl rfl rfl rfl rfl dX1_init_7 ?_
  refine N_put (ci := 1) (j := 6) (r := (RX1, TX1, 12)) (fs := [.int 0, .int 0, .int 0, .int 0, .int 0, .long 0, .null, .null, .int 0, .int 0, .int 0, .int 0]) (ty := tyX1 6) (S' := nw_137) rfl rfl (by decide) (by decide) rfl (fun _ => ⟨rfl, rfl⟩) rfl kf_X1_11 rfl dX1_init_9 ?_
  refine N_aload_n dX1_init_12 rfl 0 rfl ?_
  refine N_iconst 4 dX1_init_13 rfl ?_
  refine N_newarr (k := 0) (N' := 4) (ty := .int) (q := 70) (S' := nw_138) rfl (fun _ => rfl) kar_int (fun _ => rfl) (by decide) rfl (by decide) (Nat.le_of_ble_eq_true rfl) (Nat.le_of_ble_eq_true rfl) rfl rfl rfl rfl rfl dX1_init_14 ?_
  refine N_put (ci := 1) (j := 7) (r := (RX1, TX1, 12)) (fs := [.int 0, .int 0, .int 0, .int 0, .int 0, .long 0, .ref 69, .null, .int 0, .int 0, .int 0, .int 0]) (ty := tyX1 7) (S' := nw_139) rfl rfl (by decide) (by decide) rfl (fun _ => ⟨rfl, rfl⟩) rfl kf_X1_15 rfl dX1_init_16 ?_
  exact N_vret rfl rfl rfl rfl dX1_init_19
set_option maxRecDepth 100000 in
set_option maxHeartbeats 4000000 in
theorem cn_25 : CtN mi_X1_init yX1_init 71 nw_141 nw_145 := by
  refine CtN_of (by decide +kernel) rfl (Nat.le_of_ble_eq_true rfl) rfl ?_
  refine N_aload_n dX1_init_0 rfl 0 rfl ?_
  refine N_obj km_X1_3 kin_object kcd_object (Nat.le_of_ble_eq_true rfl) (Nat.le_of_ble_eq_true rfl) dX1_init_1 ?_
  refine N_aload_n dX1_init_4 rfl 0 rfl ?_
  refine N_bipush 30 dX1_init_5 rfl ?_
  refine N_newarr (k := 1) (N' := 30) (ty := .long) (q := 72) (S' := nw_142) rfl (fun _ => rfl) kar_long (fun _ => rfl) (by decide) rfl (by decide) (Nat.le_of_ble_eq_true rfl) (Nat.le_of_ble_eq_true rfl) rfl rfl rfl rfl rfl dX1_init_7 ?_
  refine N_put (ci := 1) (j := 6) (r := (RX1, TX1, 12)) (fs := [.int 0, .int 0, .int 0, .int 0, .int 0, .long 0, .null, .null, .int 0, .int 0, .int 0, .int 0]) (ty := tyX1 6) (S' := nw_143) rfl rfl (by decide) (by decide) rfl (fun _ => ⟨rfl, rfl⟩) rfl kf_X1_11 rfl dX1_init_9 ?_
  refine N_aload_n dX1_init_12 rfl 0 rfl ?_
  refine N_iconst 4 dX1_init_13 rfl ?_
  refine N_newarr (k := 0) (N' := 4) (ty := .int) (q := 73) (S' := nw_144) rfl (fun _ => rfl) kar_int (fun _ => rfl) (by decide) rfl (by decide) (Nat.le_of_ble_eq_true rfl) (Nat.le_of_ble_eq_true rfl) rfl rfl rfl rfl rfl dX1_init_14 ?_
  refine N_put (ci := 1) (j := 7) (r := (RX1, TX1, 12)) (fs := [.int 0, .int 0, .int 0, .int 0, .int 0, .long 0, .ref 72, .null, .int 0, .int 0, .int 0, .int 0]) (ty := tyX1 7) (S' := nw_145) rfl rfl (by decide) (by decide) rfl (fun _ => ⟨rfl, rfl⟩) rfl kf_X1_15 rfl dX1_init_16 ?_
  exact N_vret rfl rfl rfl rfl dX1_init_19
set_option maxRecDepth 100000 in
set_option maxHeartbeats 4000000 in
theorem cn_26 : CtN mi_X1_init yX1_init 74 nw_147 nw_151 := by
  refine CtN_of (by decide +kernel) rfl (Nat.le_of_ble_eq_true rfl) rfl ?_
  refine N_aload_n dX1_init_0 rfl 0 rfl ?_
  refine N_obj km_X1_3 kin_object kcd_object (Nat.le_of_ble_eq_true rfl) (Nat.le_of_ble_eq_true rfl) dX1_init_1 ?_
  refine N_aload_n dX1_init_4 rfl 0 rfl ?_
  refine N_bipush 30 dX1_init_5 rfl ?_
  refine N_newarr (k := 1) (N' := 30) (ty := .long) (q := 75) (S' := nw_148) rfl (fun _ => rfl) kar_long (fun _ => rfl) (by decide) rfl (by decide) (Nat.le_of_ble_eq_true rfl) (Nat.le_of_ble_eq_true rfl) rfl rfl rfl rfl rfl dX1_init_7 ?_
  refine N_put (ci := 1) (j := 6) (r := (RX1, TX1, 12)) (fs := [.int 0, .int 0, .int 0, .int 0, .int 0, .long 0, .null, .null, .int 0, .int 0, .int 0, .int 0]) (ty := tyX1 6) (S' := nw_149) rfl rfl (by decide) (by decide) rfl (fun _ => ⟨rfl, rfl⟩) rfl kf_X1_11 rfl dX1_init_9 ?_
  refine N_aload_n dX1_init_12 rfl 0 rfl ?_
  refine N_iconst 4 dX1_init_13 rfl ?_
  refine N_newarr (k := 0) (N' := 4) (ty := .int) (q := 76) (S' := nw_150) rfl (fun _ => rfl) kar_int (fun _ => rfl) (by decide) rfl (by decide) (Nat.le_of_ble_eq_true rfl) (Nat.le_of_ble_eq_true rfl) rfl rfl rfl rfl rfl dX1_init_14 ?_
  refine N_put (ci := 1) (j := 7) (r := (RX1, TX1, 12)) (fs := [.int 0, .int 0, .int 0, .int 0, .int 0, .long 0, .ref 75, .null, .int 0, .int 0, .int 0, .int 0]) (ty := tyX1 7) (S' := nw_151) rfl rfl (by decide) (by decide) rfl (fun _ => ⟨rfl, rfl⟩) rfl kf_X1_15 rfl dX1_init_16 ?_
  exact N_vret rfl rfl rfl rfl dX1_init_19
set_option maxRecDepth 100000 in
set_option maxHeartbeats 4000000 in
theorem cn_27 : CtN mi_X1_init yX1_init 77 nw_153 nw_157 := by
  refine CtN_of (by decide +kernel) rfl (Nat.le_of_ble_eq_true rfl) rfl ?_
  refine N_aload_n dX1_init_0 rfl 0 rfl ?_
  refine N_obj km_X1_3 kin_object kcd_object (Nat.le_of_ble_eq_true rfl) (Nat.le_of_ble_eq_true rfl) dX1_init_1 ?_
  refine N_aload_n dX1_init_4 rfl 0 rfl ?_
  refine N_bipush 30 dX1_init_5 rfl ?_
  refine N_newarr (k := 1) (N' := 30) (ty := .long) (q := 78) (S' := nw_154) rfl (fun _ => rfl) kar_long (fun _ => rfl) (by decide) rfl (by decide) (Nat.le_of_ble_eq_true rfl) (Nat.le_of_ble_eq_true rfl) rfl rfl rfl rfl rfl dX1_init_7 ?_
  refine N_put (ci := 1) (j := 6) (r := (RX1, TX1, 12)) (fs := [.int 0, .int 0, .int 0, .int 0, .int 0, .long 0, .null, .null, .int 0, .int 0, .int 0, .int 0]) (ty := tyX1 6) (S' := nw_155) rfl rfl (by decide) (by decide) rfl (fun _ => ⟨rfl, rfl⟩) rfl kf_X1_11 rfl dX1_init_9 ?_
  refine N_aload_n dX1_init_12 rfl 0 rfl ?_
  refine N_iconst 4 dX1_init_13 rfl ?_
  refine N_newarr (k := 0) (N' := 4) (ty := .int) (q := 79) (S' := nw_156) rfl (fun _ => rfl) kar_int (fun _ => rfl) (by decide) rfl (by decide) (Nat.le_of_ble_eq_true rfl) (Nat.le_of_ble_eq_true rfl) rfl rfl rfl rfl rfl dX1_init_14 ?_
  refine N_put (ci := 1) (j := 7) (r := (RX1, TX1, 12)) (fs := [.int 0, .int 0, .int 0, .int 0, .int 0, .long 0, .ref 78, .null, .int 0, .int 0, .int 0, .int 0]) (ty := tyX1 7) (S' := nw_157) rfl rfl (by decide) (by decide) rfl (fun _ => ⟨rfl, rfl⟩) rfl kf_X1_15 rfl dX1_init_16 ?_
  exact N_vret rfl rfl rfl rfl dX1_init_19
set_option maxRecDepth 100000 in
set_option maxHeartbeats 4000000 in
theorem cn_28 : CtN mi_X1_init yX1_init 80 nw_159 nw_163 := by
  refine CtN_of (by decide +kernel) rfl (Nat.le_of_ble_eq_true rfl) rfl ?_
  refine N_aload_n dX1_init_0 rfl 0 rfl ?_
  refine N_obj km_X1_3 kin_object kcd_object (Nat.le_of_ble_eq_true rfl) (Nat.le_of_ble_eq_true rfl) dX1_init_1 ?_
  refine N_aload_n dX1_init_4 rfl 0 rfl ?_
  refine N_bipush 30 dX1_init_5 rfl ?_
  refine N_newarr (k := 1) (N' := 30) (ty := .long) (q := 81) (S' := nw_160) rfl (fun _ => rfl) kar_long (fun _ => rfl) (by decide) rfl (by decide) (Nat.le_of_ble_eq_true rfl) (Nat.le_of_ble_eq_true rfl) rfl rfl rfl rfl rfl dX1_init_7 ?_
  refine N_put (ci := 1) (j := 6) (r := (RX1, TX1, 12)) (fs := [.int 0, .int 0, .int 0, .int 0, .int 0, .long 0, .null, .null, .int 0, .int 0, .int 0, .int 0]) (ty := tyX1 6) (S' := nw_161) rfl rfl (by decide) (by decide) rfl (fun _ => ⟨rfl, rfl⟩) rfl kf_X1_11 rfl dX1_init_9 ?_
  refine N_aload_n dX1_init_12 rfl 0 rfl ?_
  refine N_iconst 4 dX1_init_13 rfl ?_
  refine N_newarr (k := 0) (N' := 4) (ty := .int) (q := 82) (S' := nw_162) rfl (fun _ => rfl) kar_int (fun _ => rfl) (by decide) rfl (by decide) (Nat.le_of_ble_eq_true rfl) (Nat.le_of_ble_eq_true rfl) rfl rfl rfl rfl rfl dX1_init_14 ?_
  refine N_put (ci := 1) (j := 7) (r := (RX1, TX1, 12)) (fs := [.int 0, .int 0, .int 0, .int 0, .int 0, .long 0, .ref 81, .null, .int 0, .int 0, .int 0, .int 0]) (ty := tyX1 7) (S' := nw_163) rfl rfl (by decide) (by decide) rfl (fun _ => ⟨rfl, rfl⟩) rfl kf_X1_15 rfl dX1_init_16 ?_
  exact N_vret rfl rfl rfl rfl dX1_init_19
set_option maxRecDepth 100000 in
set_option maxHeartbeats 4000000 in
theorem cn_29 : CtN mi_X1_init yX1_init 83 nw_165 nw_169 := by
  refine CtN_of (by decide +kernel) rfl (Nat.le_of_ble_eq_true rfl) rfl ?_
  refine N_aload_n dX1_init_0 rfl 0 rfl ?_
  refine N_obj km_X1_3 kin_object kcd_object (Nat.le_of_ble_eq_true rfl) (Nat.le_of_ble_eq_true rfl) dX1_init_1 ?_
  refine N_aload_n dX1_init_4 rfl 0 rfl ?_
  refine N_bipush 30 dX1_init_5 rfl ?_
  refine N_newarr (k := 1) (N' := 30) (ty := .long) (q := 84) (S' := nw_166) rfl (fun _ => rfl) kar_long (fun _ => rfl) (by decide) rfl (by decide) (Nat.le_of_ble_eq_true rfl) (Nat.le_of_ble_eq_true rfl) rfl rfl rfl rfl rfl dX1_init_7 ?_
  refine N_put (ci := 1) (j := 6) (r := (RX1, TX1, 12)) (fs := [.int 0, .int 0, .int 0, .int 0, .int 0, .long 0, .null, .null, .int 0, .int 0, .int 0, .int 0]) (ty := tyX1 6) (S' := nw_167) rfl rfl (by decide) (by decide) rfl (fun _ => ⟨rfl, rfl⟩) rfl kf_X1_11 rfl dX1_init_9 ?_
  refine N_aload_n dX1_init_12 rfl 0 rfl ?_
  refine N_iconst 4 dX1_init_13 rfl ?_
  refine N_newarr (k := 0) (N' := 4) (ty := .int) (q := 85) (S' := nw_168) rfl (fun _ => rfl) kar_int (fun _ => rfl) (by decide) rfl (by decide) (Nat.le_of_ble_eq_true rfl) (Nat.le_of_ble_eq_true rfl) rfl rfl rfl rfl rfl dX1_init_14 ?_
  refine N_put (ci := 1) (j := 7) (r := (RX1, TX1, 12)) (fs := [.int 0, .int 0, .int 0, .int 0, .int 0, .long 0, .ref 84, .null, .int 0, .int 0, .int 0, .int 0]) (ty := tyX1 7) (S' := nw_169) rfl rfl (by decide) (by decide) rfl (fun _ => ⟨rfl, rfl⟩) rfl kf_X1_15 rfl dX1_init_16 ?_
  exact N_vret rfl rfl rfl rfl dX1_init_19
def mi_X3_init : aMi := (cX3_init, 1, RX3, none, { frames := 1, cells := 1, slots := 30, locals := 20 })
set_option maxRecDepth 100000 in
set_option maxHeartbeats 4000000 in
theorem cn_30 : CtN mi_X3_init yX3_init 86 nw_171 nw_173 := by
  refine CtN_of (by decide +kernel) rfl (Nat.le_of_ble_eq_true rfl) rfl ?_
  refine N_aload_n dX3_init_0 rfl 0 rfl ?_
  refine N_obj km_X3_1 kin_object kcd_object (Nat.le_of_ble_eq_true rfl) (Nat.le_of_ble_eq_true rfl) dX3_init_1 ?_
  refine N_aload_n dX3_init_4 rfl 0 rfl ?_
  refine N_bipush 30 dX3_init_5 rfl ?_
  refine N_newarr (k := 0) (N' := 30) (ty := .int) (q := 87) (S' := nw_172) rfl (fun _ => rfl) kar_int (fun _ => rfl) (by decide) rfl (by decide) (Nat.le_of_ble_eq_true rfl) (Nat.le_of_ble_eq_true rfl) rfl rfl rfl rfl rfl dX3_init_7 ?_
  refine N_put (ci := 3) (j := 2) (r := (RX3, TX3, 3)) (fs := [.int 0, .int 0, .null]) (ty := tyX3 2) (S' := nw_173) rfl rfl (by decide) (by decide) rfl (fun _ => ⟨rfl, rfl⟩) rfl kf_X3_9 rfl dX3_init_9 ?_
  exact N_vret rfl rfl rfl rfl dX3_init_12
set_option maxRecDepth 100000 in
set_option maxHeartbeats 4000000 in
theorem cn_31 : CtN mi_X3_init yX3_init 88 nw_175 nw_177 := by
  refine CtN_of (by decide +kernel) rfl (Nat.le_of_ble_eq_true rfl) rfl ?_
  refine N_aload_n dX3_init_0 rfl 0 rfl ?_
  refine N_obj km_X3_1 kin_object kcd_object (Nat.le_of_ble_eq_true rfl) (Nat.le_of_ble_eq_true rfl) dX3_init_1 ?_
  refine N_aload_n dX3_init_4 rfl 0 rfl ?_
  refine N_bipush 30 dX3_init_5 rfl ?_
  refine N_newarr (k := 0) (N' := 30) (ty := .int) (q := 89) (S' := nw_176) rfl (fun _ => rfl) kar_int (fun _ => rfl) (by decide) rfl (by decide) (Nat.le_of_ble_eq_true rfl) (Nat.le_of_ble_eq_true rfl) rfl rfl rfl rfl rfl dX3_init_7 ?_
  refine N_put (ci := 3) (j := 2) (r := (RX3, TX3, 3)) (fs := [.int 0, .int 0, .null]) (ty := tyX3 2) (S' := nw_177) rfl rfl (by decide) (by decide) rfl (fun _ => ⟨rfl, rfl⟩) rfl kf_X3_9 rfl dX3_init_9 ?_
  exact N_vret rfl rfl rfl rfl dX3_init_12
set_option maxRecDepth 100000 in
set_option maxHeartbeats 4000000 in
theorem cn_32 : CtN mi_X3_init yX3_init 90 nw_179 nw_181 := by
  refine CtN_of (by decide +kernel) rfl (Nat.le_of_ble_eq_true rfl) rfl ?_
  refine N_aload_n dX3_init_0 rfl 0 rfl ?_
  refine N_obj km_X3_1 kin_object kcd_object (Nat.le_of_ble_eq_true rfl) (Nat.le_of_ble_eq_true rfl) dX3_init_1 ?_
  refine N_aload_n dX3_init_4 rfl 0 rfl ?_
  refine N_bipush 30 dX3_init_5 rfl ?_
  refine N_newarr (k := 0) (N' := 30) (ty := .int) (q := 91) (S' := nw_180) rfl (fun _ => rfl) kar_int (fun _ => rfl) (by decide) rfl (by decide) (Nat.le_of_ble_eq_true rfl) (Nat.le_of_ble_eq_true rfl) rfl rfl rfl rfl rfl dX3_init_7 ?_
  refine N_put (ci := 3) (j := 2) (r := (RX3, TX3, 3)) (fs := [.int 0, .int 0, .null]) (ty := tyX3 2) (S' := nw_181) rfl rfl (by decide) (by decide) rfl (fun _ => ⟨rfl, rfl⟩) rfl kf_X3_9 rfl dX3_init_9 ?_
  exact N_vret rfl rfl rfl rfl dX3_init_12
set_option maxRecDepth 100000 in
set_option maxHeartbeats 4000000 in
theorem cn_33 : CtN mi_X3_init yX3_init 92 nw_183 nw_185 := by
  refine CtN_of (by decide +kernel) rfl (Nat.le_of_ble_eq_true rfl) rfl ?_
  refine N_aload_n dX3_init_0 rfl 0 rfl ?_
  refine N_obj km_X3_1 kin_object kcd_object (Nat.le_of_ble_eq_true rfl) (Nat.le_of_ble_eq_true rfl) dX3_init_1 ?_
  refine N_aload_n dX3_init_4 rfl 0 rfl ?_
  refine N_bipush 30 dX3_init_5 rfl ?_
  refine N_newarr (k := 0) (N' := 30) (ty := .int) (q := 93) (S' := nw_184) rfl (fun _ => rfl) kar_int (fun _ => rfl) (by decide) rfl (by decide) (Nat.le_of_ble_eq_true rfl) (Nat.le_of_ble_eq_true rfl) rfl rfl rfl rfl rfl dX3_init_7 ?_
  refine N_put (ci := 3) (j := 2) (r := (RX3, TX3, 3)) (fs := [.int 0, .int 0, .null]) (ty := tyX3 2) (S' := nw_185) rfl rfl (by decide) (by decide) rfl (fun _ => ⟨rfl, rfl⟩) rfl kf_X3_9 rfl dX3_init_9 ?_
  exact N_vret rfl rfl rfl rfl dX3_init_12
def mi_X7_init : aMi := (cX7_init, 2, RX7, none, { frames := 3, cells := 93, slots := 1520, locals := 61 })
set_option maxRecDepth 100000 in
set_option maxHeartbeats 4000000 in
theorem cn_34 : CtN mi_X7_init yX7_init 0 nw_0 nw_186 := by
  refine CtN_of (by decide +kernel) rfl (Nat.le_of_ble_eq_true rfl) rfl ?_
  refine N_aload_n dX7_init_0 rfl 0 rfl ?_
  refine N_obj km_X7_1 kin_object kcd_object (Nat.le_of_ble_eq_true rfl) (Nat.le_of_ble_eq_true rfl) dX7_init_1 ?_
  refine N_aload_n dX7_init_4 rfl 0 rfl ?_
  refine N_new (ci := 5) (r := (RX5, TX5, 9)) (ty := tyX5) (fs := [.null, .int 0, .int 0, .int 0, .int 0, .int 0, .int 0, .int 0, .int 0]) (q := 1) (S' := nw_1) rfl tyX5_ok dfl_X5 (fun _ => rfl) kcl_X7_7 kin_X5 ki_X5 (Nat.le_of_ble_eq_true rfl) (Nat.le_of_ble_eq_true rfl) rfl rfl rfl rfl rfl dX7_init_5 ?_
  refine N_dup dX7_init_8 rfl ?_
  refine N_callN (mj := mi_X5_init) cn_0 rfl (by decide) (fun _ h => h.1.1) kd_X5_init rfl ki_X5 rfl kin_X5_init hd_X5_init ⟨(Nat.le_of_ble_eq_true rfl), (Nat.le_of_ble_eq_true rfl)⟩ rfl rfl (Nat.le_of_ble_eq_true rfl) ⟨(Nat.le_of_ble_eq_true rfl), (Nat.le_of_ble_eq_true rfl)⟩ dX7_init_9 ?_
  refine N_put (ci := 7) (j := 0) (r := (RX7, TX7, 19)) (fs := [.null, .null, .int 0, .int 0, .int 0, .null, .int 0, .null, .int 0, .null, .null, .null, .null, .int 0, .null, .int 0, .null, .null, .int 0]) (ty := tyX7 0) (S' := nw_4) rfl rfl (by decide) (by decide) rfl (fun _ => ⟨rfl, rfl⟩) rfl kf_X7_10 rfl dX7_init_12 ?_
  refine N_aload_n dX7_init_15 rfl 0 rfl ?_
  refine N_bipush 10 dX7_init_16 rfl ?_
  refine N_newq (k := 3) (N' := 10) (Cn := RX1) (q := 3) (S' := nw_5) (fun _ => rfl) (fun _ h => h.2.1) kcl_X7_16 (by decide) rfl (by decide) (Nat.le_of_ble_eq_true rfl) (Nat.le_of_ble_eq_true rfl) rfl rfl rfl rfl rfl dX7_init_18 ?_
  refine N_put (ci := 7) (j := 1) (r := (RX7, TX7, 19)) (fs := [.ref 1, .null, .int 0, .int 0, .int 0, .null, .int 0, .null, .int 0, .null, .null, .null, .null, .int 0, .null, .int 0, .null, .null, .int 0]) (ty := tyX7 1) (S' := nw_6) rfl rfl (by decide) (by decide) rfl (fun _ => ⟨rfl, rfl⟩) rfl kf_X7_18 rfl dX7_init_21 ?_
  refine N_aload_n dX7_init_24 rfl 0 rfl ?_
  refine N_bipush 8 dX7_init_25 rfl ?_
  refine N_newarr (k := 0) (N' := 8) (ty := .int) (q := 4) (S' := nw_7) rfl (fun _ => rfl) kar_int (fun _ => rfl) (by decide) rfl (by decide) (Nat.le_of_ble_eq_true rfl) (Nat.le_of_ble_eq_true rfl) rfl rfl rfl rfl rfl dX7_init_27 ?_
  refine N_put (ci := 7) (j := 5) (r := (RX7, TX7, 19)) (fs := [.ref 1, .ref 3, .int 0, .int 0, .int 0, .null, .int 0, .null, .int 0, .null, .null, .null, .null, .int 0, .null, .int 0, .null, .null, .int 0]) (ty := tyX7 5) (S' := nw_8) rfl rfl (by decide) (by decide) rfl (fun _ => ⟨rfl, rfl⟩) rfl kf_X7_22 rfl dX7_init_29 ?_
  refine N_aload_n dX7_init_32 rfl 0 rfl ?_
  refine N_bipush 12 dX7_init_33 rfl ?_
  refine N_newarr (k := 0) (N' := 12) (ty := .int) (q := 5) (S' := nw_9) rfl (fun _ => rfl) kar_int (fun _ => rfl) (by decide) rfl (by decide) (Nat.le_of_ble_eq_true rfl) (Nat.le_of_ble_eq_true rfl) rfl rfl rfl rfl rfl dX7_init_35 ?_
  refine N_put (ci := 7) (j := 7) (r := (RX7, TX7, 19)) (fs := [.ref 1, .ref 3, .int 0, .int 0, .int 0, .ref 4, .int 0, .null, .int 0, .null, .null, .null, .null, .int 0, .null, .int 0, .null, .null, .int 0]) (ty := tyX7 7) (S' := nw_10) rfl rfl (by decide) (by decide) rfl (fun _ => ⟨rfl, rfl⟩) rfl kf_X7_26 rfl dX7_init_37 ?_
  refine N_aload_n dX7_init_40 rfl 0 rfl ?_
  refine N_bipush 12 dX7_init_41 rfl ?_
  refine N_newarr (k := 0) (N' := 12) (ty := .int) (q := 6) (S' := nw_11) rfl (fun _ => rfl) kar_int (fun _ => rfl) (by decide) rfl (by decide) (Nat.le_of_ble_eq_true rfl) (Nat.le_of_ble_eq_true rfl) rfl rfl rfl rfl rfl dX7_init_43 ?_
  refine N_put (ci := 7) (j := 9) (r := (RX7, TX7, 19)) (fs := [.ref 1, .ref 3, .int 0, .int 0, .int 0, .ref 4, .int 0, .ref 5, .int 0, .null, .null, .null, .null, .int 0, .null, .int 0, .null, .null, .int 0]) (ty := tyX7 9) (S' := nw_12) rfl rfl (by decide) (by decide) rfl (fun _ => ⟨rfl, rfl⟩) rfl kf_X7_29 rfl dX7_init_45 ?_
  refine N_aload_n dX7_init_48 rfl 0 rfl ?_
  refine N_new (ci := 6) (r := (RX6, TX6, 6)) (ty := tyX6) (fs := [.int 0, .null, .null, .null, .null, .null]) (q := 7) (S' := nw_13) rfl tyX6_ok dfl_X6 (fun _ => rfl) kcl_X7_32 kin_X6 ki_X6 (Nat.le_of_ble_eq_true rfl) (Nat.le_of_ble_eq_true rfl) rfl rfl rfl rfl rfl dX7_init_49 ?_
  refine N_dup dX7_init_52 rfl ?_
  refine N_callN (mj := mi_X6_init) cn_1 rfl (by decide) (fun _ h => h.1.2.1) kd_X6_init rfl ki_X6 rfl kin_X6_init hd_X6_init ⟨(Nat.le_of_ble_eq_true rfl), (Nat.le_of_ble_eq_true rfl)⟩ rfl rfl (Nat.le_of_ble_eq_true rfl) ⟨(Nat.le_of_ble_eq_true rfl), (Nat.le_of_ble_eq_true rfl)⟩ dX7_init_53 ?_
  refine N_put (ci := 7) (j := 10) (r := (RX7, TX7, 19)) (fs := [.ref 1, .ref 3, .int 0, .int 0, .int 0, .ref 4, .int 0, .ref 5, .int 0, .ref 6, .null, .null, .null, .int 0, .null, .int 0, .null, .null, .int 0]) (ty := tyX7 10) (S' := nw_24) rfl rfl (by decide) (by decide) rfl (fun _ => ⟨rfl, rfl⟩) rfl kf_X7_35 rfl dX7_init_56 ?_
  refine N_aload_n dX7_init_59 rfl 0 rfl ?_
  refine N_bipush 20 dX7_init_60 rfl ?_
  refine N_newarr (k := 0) (N' := 20) (ty := .int) (q := 13) (S' := nw_25) rfl (fun _ => rfl) kar_int (fun _ => rfl) (by decide) rfl (by decide) (Nat.le_of_ble_eq_true rfl) (Nat.le_of_ble_eq_true rfl) rfl rfl rfl rfl rfl dX7_init_62 ?_
  refine N_put (ci := 7) (j := 11) (r := (RX7, TX7, 19)) (fs := [.ref 1, .ref 3, .int 0, .int 0, .int 0, .ref 4, .int 0, .ref 5, .int 0, .ref 6, .ref 7, .null, .null, .int 0, .null, .int 0, .null, .null, .int 0]) (ty := tyX7 11) (S' := nw_26) rfl rfl (by decide) (by decide) rfl (fun _ => ⟨rfl, rfl⟩) rfl kf_X7_39 rfl dX7_init_64 ?_
  refine N_aload_n dX7_init_67 rfl 0 rfl ?_
  refine N_new (ci := 0) (r := (RX0, TX0, 8)) (ty := tyX0) (fs := [.int 0, .null, .null, .int 0, .null, .int 0, .null, .null]) (q := 14) (S' := nw_27) rfl tyX0_ok dfl_X0 (fun _ => rfl) kcl_X7_42 kin_X0 ki_X0 (Nat.le_of_ble_eq_true rfl) (Nat.le_of_ble_eq_true rfl) rfl rfl rfl rfl rfl dX7_init_68 ?_
  refine N_dup dX7_init_71 rfl ?_
  refine N_callN (mj := mi_X0_init) cn_2 rfl (by decide) (fun _ h => h.1.2.2.1) kd_X0_init rfl ki_X0 rfl kin_X0_init hd_X0_init ⟨(Nat.le_of_ble_eq_true rfl), (Nat.le_of_ble_eq_true rfl)⟩ rfl rfl (Nat.le_of_ble_eq_true rfl) ⟨(Nat.le_of_ble_eq_true rfl), (Nat.le_of_ble_eq_true rfl)⟩ dX7_init_72 ?_
  refine N_put (ci := 7) (j := 12) (r := (RX7, TX7, 19)) (fs := [.ref 1, .ref 3, .int 0, .int 0, .int 0, .ref 4, .int 0, .ref 5, .int 0, .ref 6, .ref 7, .ref 13, .null, .int 0, .null, .int 0, .null, .null, .int 0]) (ty := tyX7 12) (S' := nw_38) rfl rfl (by decide) (by decide) rfl (fun _ => ⟨rfl, rfl⟩) rfl kf_X7_45 rfl dX7_init_75 ?_
  refine N_aload_n dX7_init_78 rfl 0 rfl ?_
  refine N_sipush 256 dX7_init_79 rfl ?_
  refine N_newarr (k := 2) (N' := 256) (ty := .boolean) (q := 20) (S' := nw_39) rfl (fun _ => rfl) kar_boolean (fun _ => rfl) (by decide) rfl (by decide) (Nat.le_of_ble_eq_true rfl) (Nat.le_of_ble_eq_true rfl) rfl rfl rfl rfl rfl dX7_init_82 ?_
  refine N_put (ci := 7) (j := 14) (r := (RX7, TX7, 19)) (fs := [.ref 1, .ref 3, .int 0, .int 0, .int 0, .ref 4, .int 0, .ref 5, .int 0, .ref 6, .ref 7, .ref 13, .ref 14, .int 0, .null, .int 0, .null, .null, .int 0]) (ty := tyX7 14) (S' := nw_40) rfl rfl (by decide) (by decide) rfl (fun _ => ⟨rfl, rfl⟩) rfl kf_X7_49 rfl dX7_init_84 ?_
  refine N_aload_n dX7_init_87 rfl 0 rfl ?_
  refine N_iconst 4 dX7_init_88 rfl ?_
  refine N_newq (k := 4) (N' := 4) (Cn := RX3) (q := 21) (S' := nw_41) (fun _ => rfl) (fun _ h => h.2.2.1) kcl_X7_53 (by decide) rfl (by decide) (Nat.le_of_ble_eq_true rfl) (Nat.le_of_ble_eq_true rfl) rfl rfl rfl rfl rfl dX7_init_89 ?_
  refine N_put (ci := 7) (j := 16) (r := (RX7, TX7, 19)) (fs := [.ref 1, .ref 3, .int 0, .int 0, .int 0, .ref 4, .int 0, .ref 5, .int 0, .ref 6, .ref 7, .ref 13, .ref 14, .int 0, .ref 20, .int 0, .null, .null, .int 0]) (ty := tyX7 16) (S' := nw_42) rfl rfl (by decide) (by decide) rfl (fun _ => ⟨rfl, rfl⟩) rfl kf_X7_55 rfl dX7_init_92 ?_
  refine N_aload_n dX7_init_95 rfl 0 rfl ?_
  refine N_new (ci := 2) (r := (RX2, TX2, 3)) (ty := tyX2) (fs := [.null, .int 0, .int 0]) (q := 22) (S' := nw_43) rfl tyX2_ok dfl_X2 (fun _ => rfl) kcl_X7_59 kin_X2 ki_X2 (Nat.le_of_ble_eq_true rfl) (Nat.le_of_ble_eq_true rfl) rfl rfl rfl rfl rfl dX7_init_96 ?_
  refine N_dup dX7_init_99 rfl ?_
  refine N_callI (mj := mi_X2_init) cn_19 rfl (by decide) km_X7_61 kd_X2_init rfl ki_X2 rfl kin_X2_init hd_X2_init ⟨(Nat.le_of_ble_eq_true rfl), (Nat.le_of_ble_eq_true rfl)⟩ rfl rfl (Nat.le_of_ble_eq_true rfl) ⟨(Nat.le_of_ble_eq_true rfl), (Nat.le_of_ble_eq_true rfl)⟩ dX7_init_100 ?_
  refine N_put (ci := 7) (j := 17) (r := (RX7, TX7, 19)) (fs := [.ref 1, .ref 3, .int 0, .int 0, .int 0, .ref 4, .int 0, .ref 5, .int 0, .ref 6, .ref 7, .ref 13, .ref 14, .int 0, .ref 20, .int 0, .ref 21, .null, .int 0]) (ty := tyX7 17) (S' := nw_110) rfl rfl (by decide) (by decide) rfl (fun _ => ⟨rfl, rfl⟩) rfl kf_X7_62 rfl dX7_init_103 ?_
  refine N_iconst 0 dX7_init_106 rfl ?_
  refine N_istore_n (L' := [(1, .int 0), (0, .ref 0)]) dX7_init_107 rfl (by decide) rfl ?_
  refine N_iload_n dX7_init_108 rfl 0 rfl ?_
  refine N_bipush 10 dX7_init_109 rfl ?_
  refine N_geF 133 dX7_init_111 (by decide) (by decide) ?_
  refine N_aload_n dX7_init_114 rfl 1 rfl ?_
  refine N_getr (ci := 7) (j := 1) (x := 3) (r := (RX7, TX7, 19)) (fs := [.ref 1, .ref 3, .int 0, .int 0, .int 0, .ref 4, .int 0, .ref 5, .int 0, .ref 6, .ref 7, .ref 13, .ref 14, .int 0, .ref 20, .int 0, .ref 21, .ref 22, .int 0]) rfl rfl (by decide) rfl kf_X7_18 dX7_init_115 ?_
  refine N_iload_n dX7_init_118 rfl 0 rfl ?_
  refine N_new (ci := 1) (r := (RX1, TX1, 12)) (ty := tyX1) (fs := [.int 0, .int 0, .int 0, .int 0, .int 0, .long 0, .null, .null, .int 0, .int 0, .int 0, .int 0]) (q := 56) (S' := nw_111) rfl tyX1_ok dfl_X1 (fun _ => rfl) kcl_X7_16 kin_X1 ki_X1 (Nat.le_of_ble_eq_true rfl) (Nat.le_of_ble_eq_true rfl) rfl rfl rfl rfl rfl dX7_init_119 ?_
  refine N_dup dX7_init_122 rfl ?_
  refine N_callN (mj := mi_X1_init) cn_20 rfl (by decide) (fun _ h => h.1.2.2.2.2.1) kd_X1_init rfl ki_X1 rfl kin_X1_init hd_X1_init ⟨(Nat.le_of_ble_eq_true rfl), (Nat.le_of_ble_eq_true rfl)⟩ rfl rfl (Nat.le_of_ble_eq_true rfl) ⟨(Nat.le_of_ble_eq_true rfl), (Nat.le_of_ble_eq_true rfl)⟩ dX7_init_123 ?_
  refine N_aast (k := 3) (ci := 1) (jn := 0) (l0 := [none, none, none, none, none, none, none, none, none, none]) (r := (RX1, TX1, 12)) (fs := [.int 0, .int 0, .int 0, .int 0, .int 0, .long 0, .ref 57, .ref 58, .int 0, .int 0, .int 0, .int 0]) (S' := nw_116) rfl (fun _ => rfl) rfl rfl rfl (vp_in_iff.mpr (by decide)) (by decide) rfl dX7_init_126 ?_
  refine N_iinc (j := 0) (v := 1) (L' := [(1, .int 1), (0, .ref 0)]) dX7_init_127 rfl rfl (by decide) rfl ?_
  refine N_goto 108 dX7_init_130 (by decide) ?_
  refine N_iload_n dX7_init_108 rfl 0 rfl ?_
  refine N_bipush 10 dX7_init_109 rfl ?_
  refine N_geF 133 dX7_init_111 (by decide) (by decide) ?_
  refine N_aload_n dX7_init_114 rfl 1 rfl ?_
  refine N_getr (ci := 7) (j := 1) (x := 3) (r := (RX7, TX7, 19)) (fs := [.ref 1, .ref 3, .int 0, .int 0, .int 0, .ref 4, .int 0, .ref 5, .int 0, .ref 6, .ref 7, .ref 13, .ref 14, .int 0, .ref 20, .int 0, .ref 21, .ref 22, .int 0]) rfl rfl (by decide) rfl kf_X7_18 dX7_init_115 ?_
  refine N_iload_n dX7_init_118 rfl 0 rfl ?_
  refine N_new (ci := 1) (r := (RX1, TX1, 12)) (ty := tyX1) (fs := [.int 0, .int 0, .int 0, .int 0, .int 0, .long 0, .null, .null, .int 0, .int 0, .int 0, .int 0]) (q := 59) (S' := nw_117) rfl tyX1_ok dfl_X1 (fun _ => rfl) kcl_X7_16 kin_X1 ki_X1 (Nat.le_of_ble_eq_true rfl) (Nat.le_of_ble_eq_true rfl) rfl rfl rfl rfl rfl dX7_init_119 ?_
  refine N_dup dX7_init_122 rfl ?_
  refine N_callN (mj := mi_X1_init) cn_21 rfl (by decide) (fun _ h => h.1.2.2.2.2.1) kd_X1_init rfl ki_X1 rfl kin_X1_init hd_X1_init ⟨(Nat.le_of_ble_eq_true rfl), (Nat.le_of_ble_eq_true rfl)⟩ rfl rfl (Nat.le_of_ble_eq_true rfl) ⟨(Nat.le_of_ble_eq_true rfl), (Nat.le_of_ble_eq_true rfl)⟩ dX7_init_123 ?_
  refine N_aast (k := 3) (ci := 1) (jn := 1) (l0 := [some 56, none, none, none, none, none, none, none, none, none]) (r := (RX1, TX1, 12)) (fs := [.int 0, .int 0, .int 0, .int 0, .int 0, .long 0, .ref 60, .ref 61, .int 0, .int 0, .int 0, .int 0]) (S' := nw_122) rfl (fun _ => rfl) rfl rfl rfl (vp_in_iff.mpr (by decide)) (by decide) rfl dX7_init_126 ?_
  refine N_iinc (j := 0) (v := 2) (L' := [(1, .int 2), (0, .ref 0)]) dX7_init_127 rfl rfl (by decide) rfl ?_
  refine N_goto 108 dX7_init_130 (by decide) ?_
  refine N_iload_n dX7_init_108 rfl 0 rfl ?_
  refine N_bipush 10 dX7_init_109 rfl ?_
  refine N_geF 133 dX7_init_111 (by decide) (by decide) ?_
  refine N_aload_n dX7_init_114 rfl 1 rfl ?_
  refine N_getr (ci := 7) (j := 1) (x := 3) (r := (RX7, TX7, 19)) (fs := [.ref 1, .ref 3, .int 0, .int 0, .int 0, .ref 4, .int 0, .ref 5, .int 0, .ref 6, .ref 7, .ref 13, .ref 14, .int 0, .ref 20, .int 0, .ref 21, .ref 22, .int 0]) rfl rfl (by decide) rfl kf_X7_18 dX7_init_115 ?_
  refine N_iload_n dX7_init_118 rfl 0 rfl ?_
  refine N_new (ci := 1) (r := (RX1, TX1, 12)) (ty := tyX1) (fs := [.int 0, .int 0, .int 0, .int 0, .int 0, .long 0, .null, .null, .int 0, .int 0, .int 0, .int 0]) (q := 62) (S' := nw_123) rfl tyX1_ok dfl_X1 (fun _ => rfl) kcl_X7_16 kin_X1 ki_X1 (Nat.le_of_ble_eq_true rfl) (Nat.le_of_ble_eq_true rfl) rfl rfl rfl rfl rfl dX7_init_119 ?_
  refine N_dup dX7_init_122 rfl ?_
  refine N_callN (mj := mi_X1_init) cn_22 rfl (by decide) (fun _ h => h.1.2.2.2.2.1) kd_X1_init rfl ki_X1 rfl kin_X1_init hd_X1_init ⟨(Nat.le_of_ble_eq_true rfl), (Nat.le_of_ble_eq_true rfl)⟩ rfl rfl (Nat.le_of_ble_eq_true rfl) ⟨(Nat.le_of_ble_eq_true rfl), (Nat.le_of_ble_eq_true rfl)⟩ dX7_init_123 ?_
  refine N_aast (k := 3) (ci := 1) (jn := 2) (l0 := [some 56, some 59, none, none, none, none, none, none, none, none]) (r := (RX1, TX1, 12)) (fs := [.int 0, .int 0, .int 0, .int 0, .int 0, .long 0, .ref 63, .ref 64, .int 0, .int 0, .int 0, .int 0]) (S' := nw_128) rfl (fun _ => rfl) rfl rfl rfl (vp_in_iff.mpr (by decide)) (by decide) rfl dX7_init_126 ?_
  refine N_iinc (j := 0) (v := 3) (L' := [(1, .int 3), (0, .ref 0)]) dX7_init_127 rfl rfl (by decide) rfl ?_
  refine N_goto 108 dX7_init_130 (by decide) ?_
  refine N_iload_n dX7_init_108 rfl 0 rfl ?_
  refine N_bipush 10 dX7_init_109 rfl ?_
  refine N_geF 133 dX7_init_111 (by decide) (by decide) ?_
  refine N_aload_n dX7_init_114 rfl 1 rfl ?_
  refine N_getr (ci := 7) (j := 1) (x := 3) (r := (RX7, TX7, 19)) (fs := [.ref 1, .ref 3, .int 0, .int 0, .int 0, .ref 4, .int 0, .ref 5, .int 0, .ref 6, .ref 7, .ref 13, .ref 14, .int 0, .ref 20, .int 0, .ref 21, .ref 22, .int 0]) rfl rfl (by decide) rfl kf_X7_18 dX7_init_115 ?_
  refine N_iload_n dX7_init_118 rfl 0 rfl ?_
  refine N_new (ci := 1) (r := (RX1, TX1, 12)) (ty := tyX1) (fs := [.int 0, .int 0, .int 0, .int 0, .int 0, .long 0, .null, .null, .int 0, .int 0, .int 0, .int 0]) (q := 65) (S' := nw_129) rfl tyX1_ok dfl_X1 (fun _ => rfl) kcl_X7_16 kin_X1 ki_X1 (Nat.le_of_ble_eq_true rfl) (Nat.le_of_ble_eq_true rfl) rfl rfl rfl rfl rfl dX7_init_119 ?_
  refine N_dup dX7_init_122 rfl ?_
  refine N_callN (mj := mi_X1_init) cn_23 rfl (by decide) (fun _ h => h.1.2.2.2.2.1) kd_X1_init rfl ki_X1 rfl kin_X1_init hd_X1_init ⟨(Nat.le_of_ble_eq_true rfl), (Nat.le_of_ble_eq_true rfl)⟩ rfl rfl (Nat.le_of_ble_eq_true rfl) ⟨(Nat.le_of_ble_eq_true rfl), (Nat.le_of_ble_eq_true rfl)⟩ dX7_init_123 ?_
  refine N_aast (k := 3) (ci := 1) (jn := 3) (l0 := [some 56, some 59, some 62, none, none, none, none, none, none, none]) (r := (RX1, TX1, 12)) (fs := [.int 0, .int 0, .int 0, .int 0, .int 0, .long 0, .ref 66, .ref 67, .int 0, .int 0, .int 0, .int 0]) (S' := nw_134) rfl (fun _ => rfl) rfl rfl rfl (vp_in_iff.mpr (by decide)) (by decide) rfl dX7_init_126 ?_
  refine N_iinc (j := 0) (v := 4) (L' := [(1, .int 4), (0, .ref 0)]) dX7_init_127 rfl rfl (by decide) rfl ?_
  refine N_goto 108 dX7_init_130 (by decide) ?_
  refine N_iload_n dX7_init_108 rfl 0 rfl ?_
  refine N_bipush 10 dX7_init_109 rfl ?_
  refine N_geF 133 dX7_init_111 (by decide) (by decide) ?_
  refine N_aload_n dX7_init_114 rfl 1 rfl ?_
  refine N_getr (ci := 7) (j := 1) (x := 3) (r := (RX7, TX7, 19)) (fs := [.ref 1, .ref 3, .int 0, .int 0, .int 0, .ref 4, .int 0, .ref 5, .int 0, .ref 6, .ref 7, .ref 13, .ref 14, .int 0, .ref 20, .int 0, .ref 21, .ref 22, .int 0]) rfl rfl (by decide) rfl kf_X7_18 dX7_init_115 ?_
  refine N_iload_n dX7_init_118 rfl 0 rfl ?_
  refine N_new (ci := 1) (r := (RX1, TX1, 12)) (ty := tyX1) (fs := [.int 0, .int 0, .int 0, .int 0, .int 0, .long 0, .null, .null, .int 0, .int 0, .int 0, .int 0]) (q := 68) (S' := nw_135) rfl tyX1_ok dfl_X1 (fun _ => rfl) kcl_X7_16 kin_X1 ki_X1 (Nat.le_of_ble_eq_true rfl) (Nat.le_of_ble_eq_true rfl) rfl rfl rfl rfl rfl dX7_init_119 ?_
  refine N_dup dX7_init_122 rfl ?_
  refine N_callN (mj := mi_X1_init) cn_24 rfl (by decide) (fun _ h => h.1.2.2.2.2.1) kd_X1_init rfl ki_X1 rfl kin_X1_init hd_X1_init ⟨(Nat.le_of_ble_eq_true rfl), (Nat.le_of_ble_eq_true rfl)⟩ rfl rfl (Nat.le_of_ble_eq_true rfl) ⟨(Nat.le_of_ble_eq_true rfl), (Nat.le_of_ble_eq_true rfl)⟩ dX7_init_123 ?_
  refine N_aast (k := 3) (ci := 1) (jn := 4) (l0 := [some 56, some 59, some 62, some 65, none, none, none, none, none, none]) (r := (RX1, TX1, 12)) (fs := [.int 0, .int 0, .int 0, .int 0, .int 0, .long 0, .ref 69, .ref 70, .int 0, .int 0, .int 0, .int 0]) (S' := nw_140) rfl (fun _ => rfl) rfl rfl rfl (vp_in_iff.mpr (by decide)) (by decide) rfl dX7_init_126 ?_
  refine N_iinc (j := 0) (v := 5) (L' := [(1, .int 5), (0, .ref 0)]) dX7_init_127 rfl rfl (by decide) rfl ?_
  refine N_goto 108 dX7_init_130 (by decide) ?_
  refine N_iload_n dX7_init_108 rfl 0 rfl ?_
  refine N_bipush 10 dX7_init_109 rfl ?_
  refine N_geF 133 dX7_init_111 (by decide) (by decide) ?_
  refine N_aload_n dX7_init_114 rfl 1 rfl ?_
  refine N_getr (ci := 7) (j := 1) (x := 3) (r := (RX7, TX7, 19)) (fs := [.ref 1, .ref 3, .int 0, .int 0, .int 0, .ref 4, .int 0, .ref 5, .int 0, .ref 6, .ref 7, .ref 13, .ref 14, .int 0, .ref 20, .int 0, .ref 21, .ref 22, .int 0]) rfl rfl (by decide) rfl kf_X7_18 dX7_init_115 ?_
  refine N_iload_n dX7_init_118 rfl 0 rfl ?_
  refine N_new (ci := 1) (r := (RX1, TX1, 12)) (ty := tyX1) (fs := [.int 0, .int 0, .int 0, .int 0, .int 0, .long 0, .null, .null, .int 0, .int 0, .int 0, .int 0]) (q := 71) (S' := nw_141) rfl tyX1_ok dfl_X1 (fun _ => rfl) kcl_X7_16 kin_X1 ki_X1 (Nat.le_of_ble_eq_true rfl) (Nat.le_of_ble_eq_true rfl) rfl rfl rfl rfl rfl dX7_init_119 ?_
  refine N_dup dX7_init_122 rfl ?_
  refine N_callN (mj := mi_X1_init) cn_25 rfl (by decide) (fun _ h => h.1.2.2.2.2.1) kd_X1_init rfl ki_X1 rfl kin_X1_init hd_X1_init ⟨(Nat.le_of_ble_eq_true rfl), (Nat.le_of_ble_eq_true rfl)⟩ rfl rfl (Nat.le_of_ble_eq_true rfl) ⟨(Nat.le_of_ble_eq_true rfl), (Nat.le_of_ble_eq_true rfl)⟩ dX7_init_123 ?_
  refine N_aast (k := 3) (ci := 1) (jn := 5) (l0 := [some 56, some 59, some 62, some 65, some 68, none, none, none, none, none]) (r := (RX1, TX1, 12)) (fs := [.int 0, .int 0, .int 0, .int 0, .int 0, .long 0, .ref 72, .ref 73, .int 0, .int 0, .int 0, .int 0]) (S' := nw_146) rfl (fun _ => rfl) rfl rfl rfl (vp_in_iff.mpr (by decide)) (by decide) rfl dX7_init_126 ?_
  refine N_iinc (j := 0) (v := 6) (L' := [(1, .int 6), (0, .ref 0)]) dX7_init_127 rfl rfl (by decide) rfl ?_
  refine N_goto 108 dX7_init_130 (by decide) ?_
  refine N_iload_n dX7_init_108 rfl 0 rfl ?_
  refine N_bipush 10 dX7_init_109 rfl ?_
  refine N_geF 133 dX7_init_111 (by decide) (by decide) ?_
  refine N_aload_n dX7_init_114 rfl 1 rfl ?_
  refine N_getr (ci := 7) (j := 1) (x := 3) (r := (RX7, TX7, 19)) (fs := [.ref 1, .ref 3, .int 0, .int 0, .int 0, .ref 4, .int 0, .ref 5, .int 0, .ref 6, .ref 7, .ref 13, .ref 14, .int 0, .ref 20, .int 0, .ref 21, .ref 22, .int 0]) rfl rfl (by decide) rfl kf_X7_18 dX7_init_115 ?_
  refine N_iload_n dX7_init_118 rfl 0 rfl ?_
  refine N_new (ci := 1) (r := (RX1, TX1, 12)) (ty := tyX1) (fs := [.int 0, .int 0, .int 0, .int 0, .int 0, .long 0, .null, .null, .int 0, .int 0, .int 0, .int 0]) (q := 74) (S' := nw_147) rfl tyX1_ok dfl_X1 (fun _ => rfl) kcl_X7_16 kin_X1 ki_X1 (Nat.le_of_ble_eq_true rfl) (Nat.le_of_ble_eq_true rfl) rfl rfl rfl rfl rfl dX7_init_119 ?_
  refine N_dup dX7_init_122 rfl ?_
  refine N_callN (mj := mi_X1_init) cn_26 rfl (by decide) (fun _ h => h.1.2.2.2.2.1) kd_X1_init rfl ki_X1 rfl kin_X1_init hd_X1_init ⟨(Nat.le_of_ble_eq_true rfl), (Nat.le_of_ble_eq_true rfl)⟩ rfl rfl (Nat.le_of_ble_eq_true rfl) ⟨(Nat.le_of_ble_eq_true rfl), (Nat.le_of_ble_eq_true rfl)⟩ dX7_init_123 ?_
  refine N_aast (k := 3) (ci := 1) (jn := 6) (l0 := [some 56, some 59, some 62, some 65, some 68, some 71, none, none, none, none]) (r := (RX1, TX1, 12)) (fs := [.int 0, .int 0, .int 0, .int 0, .int 0, .long 0, .ref 75, .ref 76, .int 0, .int 0, .int 0, .int 0]) (S' := nw_152) rfl (fun _ => rfl) rfl rfl rfl (vp_in_iff.mpr (by decide)) (by decide) rfl dX7_init_126 ?_
  refine N_iinc (j := 0) (v := 7) (L' := [(1, .int 7), (0, .ref 0)]) dX7_init_127 rfl rfl (by decide) rfl ?_
  refine N_goto 108 dX7_init_130 (by decide) ?_
  refine N_iload_n dX7_init_108 rfl 0 rfl ?_
  refine N_bipush 10 dX7_init_109 rfl ?_
  refine N_geF 133 dX7_init_111 (by decide) (by decide) ?_
  refine N_aload_n dX7_init_114 rfl 1 rfl ?_
  refine N_getr (ci := 7) (j := 1) (x := 3) (r := (RX7, TX7, 19)) (fs := [.ref 1, .ref 3, .int 0, .int 0, .int 0, .ref 4, .int 0, .ref 5, .int 0, .ref 6, .ref 7, .ref 13, .ref 14, .int 0, .ref 20, .int 0, .ref 21, .ref 22, .int 0]) rfl rfl (by decide) rfl kf_X7_18 dX7_init_115 ?_
  refine N_iload_n dX7_init_118 rfl 0 rfl ?_
  refine N_new (ci := 1) (r := (RX1, TX1, 12)) (ty := tyX1) (fs := [.int 0, .int 0, .int 0, .int 0, .int 0, .long 0, .null, .null, .int 0, .int 0, .int 0, .int 0]) (q := 77) (S' := nw_153) rfl tyX1_ok dfl_X1 (fun _ => rfl) kcl_X7_16 kin_X1 ki_X1 (Nat.le_of_ble_eq_true rfl) (Nat.le_of_ble_eq_true rfl) rfl rfl rfl rfl rfl dX7_init_119 ?_
  refine N_dup dX7_init_122 rfl ?_
  refine N_callN (mj := mi_X1_init) cn_27 rfl (by decide) (fun _ h => h.1.2.2.2.2.1) kd_X1_init rfl ki_X1 rfl kin_X1_init hd_X1_init ⟨(Nat.le_of_ble_eq_true rfl), (Nat.le_of_ble_eq_true rfl)⟩ rfl rfl (Nat.le_of_ble_eq_true rfl) ⟨(Nat.le_of_ble_eq_true rfl), (Nat.le_of_ble_eq_true rfl)⟩ dX7_init_123 ?_
  refine N_aast (k := 3) (ci := 1) (jn := 7) (l0 := [some 56, some 59, some 62, some 65, some 68, some 71, some 74, none, none, none]) (r := (RX1, TX1, 12)) (fs := [.int 0, .int 0, .int 0, .int 0, .int 0, .long 0, .ref 78, .ref 79, .int 0, .int 0, .int 0, .int 0]) (S' := nw_158) rfl (fun _ => rfl) rfl rfl rfl (vp_in_iff.mpr (by decide)) (by decide) rfl dX7_init_126 ?_
  refine N_iinc (j := 0) (v := 8) (L' := [(1, .int 8), (0, .ref 0)]) dX7_init_127 rfl rfl (by decide) rfl ?_
  refine N_goto 108 dX7_init_130 (by decide) ?_
  refine N_iload_n dX7_init_108 rfl 0 rfl ?_
  refine N_bipush 10 dX7_init_109 rfl ?_
  refine N_geF 133 dX7_init_111 (by decide) (by decide) ?_
  refine N_aload_n dX7_init_114 rfl 1 rfl ?_
  refine N_getr (ci := 7) (j := 1) (x := 3) (r := (RX7, TX7, 19)) (fs := [.ref 1, .ref 3, .int 0, .int 0, .int 0, .ref 4, .int 0, .ref 5, .int 0, .ref 6, .ref 7, .ref 13, .ref 14, .int 0, .ref 20, .int 0, .ref 21, .ref 22, .int 0]) rfl rfl (by decide) rfl kf_X7_18 dX7_init_115 ?_
  refine N_iload_n dX7_init_118 rfl 0 rfl ?_
  refine N_new (ci := 1) (r := (RX1, TX1, 12)) (ty := tyX1) (fs := [.int 0, .int 0, .int 0, .int 0, .int 0, .long 0, .null, .null, .int 0, .int 0, .int 0, .int 0]) (q := 80) (S' := nw_159) rfl tyX1_ok dfl_X1 (fun _ => rfl) kcl_X7_16 kin_X1 ki_X1 (Nat.le_of_ble_eq_true rfl) (Nat.le_of_ble_eq_true rfl) rfl rfl rfl rfl rfl dX7_init_119 ?_
  refine N_dup dX7_init_122 rfl ?_
  refine N_callN (mj := mi_X1_init) cn_28 rfl (by decide) (fun _ h => h.1.2.2.2.2.1) kd_X1_init rfl ki_X1 rfl kin_X1_init hd_X1_init ⟨(Nat.le_of_ble_eq_true rfl), (Nat.le_of_ble_eq_true rfl)⟩ rfl rfl (Nat.le_of_ble_eq_true rfl) ⟨(Nat.le_of_ble_eq_true rfl), (Nat.le_of_ble_eq_true rfl)⟩ dX7_init_123 ?_
  refine N_aast (k := 3) (ci := 1) (jn := 8) (l0 := [some 56, some 59, some 62, some 65, some 68, some 71, some 74, some 77, none, none]) (r := (RX1, TX1, 12)) (fs := [.int 0, .int 0, .int 0, .int 0, .int 0, .long 0, .ref 81, .ref 82, .int 0, .int 0, .int 0, .int 0]) (S' := nw_164) rfl (fun _ => rfl) rfl rfl rfl (vp_in_iff.mpr (by decide)) (by decide) rfl dX7_init_126 ?_
  refine N_iinc (j := 0) (v := 9) (L' := [(1, .int 9), (0, .ref 0)]) dX7_init_127 rfl rfl (by decide) rfl ?_
  refine N_goto 108 dX7_init_130 (by decide) ?_
  refine N_iload_n dX7_init_108 rfl 0 rfl ?_
  refine N_bipush 10 dX7_init_109 rfl ?_
  refine N_geF 133 dX7_init_111 (by decide) (by decide) ?_
  refine N_aload_n dX7_init_114 rfl 1 rfl ?_
  refine N_getr (ci := 7) (j := 1) (x := 3) (r := (RX7, TX7, 19)) (fs := [.ref 1, .ref 3, .int 0, .int 0, .int 0, .ref 4, .int 0, .ref 5, .int 0, .ref 6, .ref 7, .ref 13, .ref 14, .int 0, .ref 20, .int 0, .ref 21, .ref 22, .int 0]) rfl rfl (by decide) rfl kf_X7_18 dX7_init_115 ?_
  refine N_iload_n dX7_init_118 rfl 0 rfl ?_
  refine N_new (ci := 1) (r := (RX1, TX1, 12)) (ty := tyX1) (fs := [.int 0, .int 0, .int 0, .int 0, .int 0, .long 0, .null, .null, .int 0, .int 0, .int 0, .int 0]) (q := 83) (S' := nw_165) rfl tyX1_ok dfl_X1 (fun _ => rfl) kcl_X7_16 kin_X1 ki_X1 (Nat.le_of_ble_eq_true rfl) (Nat.le_of_ble_eq_true rfl) rfl rfl rfl rfl rfl dX7_init_119 ?_
  refine N_dup dX7_init_122 rfl ?_
  refine N_callN (mj := mi_X1_init) cn_29 rfl (by decide) (fun _ h => h.1.2.2.2.2.1) kd_X1_init rfl ki_X1 rfl kin_X1_init hd_X1_init ⟨(Nat.le_of_ble_eq_true rfl), (Nat.le_of_ble_eq_true rfl)⟩ rfl rfl (Nat.le_of_ble_eq_true rfl) ⟨(Nat.le_of_ble_eq_true rfl), (Nat.le_of_ble_eq_true rfl)⟩ dX7_init_123 ?_
  refine N_aast (k := 3) (ci := 1) (jn := 9) (l0 := [some 56, some 59, some 62, some 65, some 68, some 71, some 74, some 77, some 80, none]) (r := (RX1, TX1, 12)) (fs := [.int 0, .int 0, .int 0, .int 0, .int 0, .long 0, .ref 84, .ref 85, .int 0, .int 0, .int 0, .int 0]) (S' := nw_170) rfl (fun _ => rfl) rfl rfl rfl (vp_in_iff.mpr (by decide)) (by decide) rfl dX7_init_126 ?_
  refine N_iinc (j := 0) (v := 10) (L' := [(1, .int 10), (0, .ref 0)]) dX7_init_127 rfl rfl (by decide) rfl ?_
  refine N_goto 108 dX7_init_130 (by decide) ?_
  refine N_iload_n dX7_init_108 rfl 0 rfl ?_
  refine N_bipush 10 dX7_init_109 rfl ?_
  refine N_geT 133 dX7_init_111 (by decide) (by decide) ?_
  refine N_iconst 0 dX7_init_133 rfl ?_
  refine N_istore_n (L' := [(1, .int 0), (0, .ref 0)]) dX7_init_134 rfl (by decide) rfl ?_
  refine N_iload_n dX7_init_135 rfl 0 rfl ?_
  refine N_iconst 4 dX7_init_136 rfl ?_
  refine N_geF 159 dX7_init_137 (by decide) (by decide) ?_
  refine N_aload_n dX7_init_140 rfl 1 rfl ?_
  refine N_getr (ci := 7) (j := 16) (x := 21) (r := (RX7, TX7, 19)) (fs := [.ref 1, .ref 3, .int 0, .int 0, .int 0, .ref 4, .int 0, .ref 5, .int 0, .ref 6, .ref 7, .ref 13, .ref 14, .int 0, .ref 20, .int 0, .ref 21, .ref 22, .int 0]) rfl rfl (by decide) rfl kf_X7_55 dX7_init_141 ?_
  refine N_iload_n dX7_init_144 rfl 0 rfl ?_
  refine N_new (ci := 3) (r := (RX3, TX3, 3)) (ty := tyX3) (fs := [.int 0, .int 0, .null]) (q := 86) (S' := nw_171) rfl tyX3_ok dfl_X3 (fun _ => rfl) kcl_X7_53 kin_X3 ki_X3 (Nat.le_of_ble_eq_true rfl) (Nat.le_of_ble_eq_true rfl) rfl rfl rfl rfl rfl dX7_init_145 ?_
  refine N_dup dX7_init_148 rfl ?_
  refine N_callN (mj := mi_X3_init) cn_30 rfl (by decide) (fun _ h => h.1.2.2.2.2.2) kd_X3_init rfl ki_X3 rfl kin_X3_init hd_X3_init ⟨(Nat.le_of_ble_eq_true rfl), (Nat.le_of_ble_eq_true rfl)⟩ rfl rfl (Nat.le_of_ble_eq_true rfl) ⟨(Nat.le_of_ble_eq_true rfl), (Nat.le_of_ble_eq_true rfl)⟩ dX7_init_149 ?_
  refine N_aast (k := 4) (ci := 3) (jn := 0) (l0 := [none, none, none, none]) (r := (RX3, TX3, 3)) (fs := [.int 0, .int 0, .ref 87]) (S' := nw_174) rfl (fun _ => rfl) rfl rfl rfl (vp_in_iff.mpr (by decide)) (by decide) rfl dX7_init_152 ?_
  refine N_iinc (j := 0) (v := 1) (L' := [(1, .int 1), (0, .ref 0)]) dX7_init_153 rfl rfl (by decide) rfl ?_
  refine N_goto 135 dX7_init_156 (by decide) ?_
  refine N_iload_n dX7_init_135 rfl 0 rfl ?_
  refine N_iconst 4 dX7_init_136 rfl ?_
  refine N_geF 159 dX7_init_137 (by decide) (by decide) ?_
  refine N_aload_n dX7_init_140 rfl 1 rfl ?_
  refine N_getr (ci := 7) (j := 16) (x := 21) (r := (RX7, TX7, 19)) (fs := [.ref 1, .ref 3, .int 0, .int 0, .int 0, .ref 4, .int 0, .ref 5, .int 0, .ref 6, .ref 7, .ref 13, .ref 14, .int 0, .ref 20, .int 0, .ref 21, .ref 22, .int 0]) rfl rfl (by decide) rfl kf_X7_55 dX7_init_141 ?_
  refine N_iload_n dX7_init_144 rfl 0 rfl ?_
  refine N_new (ci := 3) (r := (RX3, TX3, 3)) (ty := tyX3) (fs := [.int 0, .int 0, .null]) (q := 88) (S' := nw_175) rfl tyX3_ok dfl_X3 (fun _ => rfl) kcl_X7_53 kin_X3 ki_X3 (Nat.le_of_ble_eq_true rfl) (Nat.le_of_ble_eq_true rfl) rfl rfl rfl rfl rfl dX7_init_145 ?_
  refine N_dup dX7_init_148 rfl ?_
  refine N_callN (mj := mi_X3_init) cn_31 rfl (by decide) (fun _ h => h.1.2.2.2.2.2) kd_X3_init rfl ki_X3 rfl kin_X3_init hd_X3_init ⟨(Nat.le_of_ble_eq_true rfl), (Nat.le_of_ble_eq_true rfl)⟩ rfl rfl (Nat.le_of_ble_eq_true rfl) ⟨(Nat.le_of_ble_eq_true rfl), (Nat.le_of_ble_eq_true rfl)⟩ dX7_init_149 ?_
  refine N_aast (k := 4) (ci := 3) (jn := 1) (l0 := [some 86, none, none, none]) (r := (RX3, TX3, 3)) (fs := [.int 0, .int 0, .ref 89]) (S' := nw_178) rfl (fun _ => rfl) rfl rfl rfl (vp_in_iff.mpr (by decide)) (by decide) rfl dX7_init_152 ?_
  refine N_iinc (j := 0) (v := 2) (L' := [(1, .int 2), (0, .ref 0)]) dX7_init_153 rfl rfl (by decide) rfl ?_
  refine N_goto 135 dX7_init_156 (by decide) ?_
  refine N_iload_n dX7_init_135 rfl 0 rfl ?_
  refine N_iconst 4 dX7_init_136 rfl ?_
  refine N_geF 159 dX7_init_137 (by decide) (by decide) ?_
  refine N_aload_n dX7_init_140 rfl 1 rfl ?_
  refine N_getr (ci := 7) (j := 16) (x := 21) (r := (RX7, TX7, 19)) (fs := [.ref 1, .ref 3, .int 0, .int 0, .int 0, .ref 4, .int 0, .ref 5, .int 0, .ref 6, .ref 7, .ref 13, .ref 14, .int 0, .ref 20, .int 0, .ref 21, .ref 22, .int 0]) rfl rfl (by decide) rfl kf_X7_55 dX7_init_141 ?_
  refine N_iload_n dX7_init_144 rfl 0 rfl ?_
  refine N_new (ci := 3) (r := (RX3, TX3, 3)) (ty := tyX3) (fs := [.int 0, .int 0, .null]) (q := 90) (S' := nw_179) rfl tyX3_ok dfl_X3 (fun _ => rfl) kcl_X7_53 kin_X3 ki_X3 (Nat.le_of_ble_eq_true rfl) (Nat.le_of_ble_eq_true rfl) rfl rfl rfl rfl rfl dX7_init_145 ?_
  refine N_dup dX7_init_148 rfl ?_
  refine N_callN (mj := mi_X3_init) cn_32 rfl (by decide) (fun _ h => h.1.2.2.2.2.2) kd_X3_init rfl ki_X3 rfl kin_X3_init hd_X3_init ⟨(Nat.le_of_ble_eq_true rfl), (Nat.le_of_ble_eq_true rfl)⟩ rfl rfl (Nat.le_of_ble_eq_true rfl) ⟨(Nat.le_of_ble_eq_true rfl), (Nat.le_of_ble_eq_true rfl)⟩ dX7_init_149 ?_
  refine N_aast (k := 4) (ci := 3) (jn := 2) (l0 := [some 86, some 88, none, none]) (r := (RX3, TX3, 3)) (fs := [.int 0, .int 0, .ref 91]) (S' := nw_182) rfl (fun _ => rfl) rfl rfl rfl (vp_in_iff.mpr (by decide)) (by decide) rfl dX7_init_152 ?_
  refine N_iinc (j := 0) (v := 3) (L' := [(1, .int 3), (0, .ref 0)]) dX7_init_153 rfl rfl (by decide) rfl ?_
  refine N_goto 135 dX7_init_156 (by decide) ?_
  refine N_iload_n dX7_init_135 rfl 0 rfl ?_
  refine N_iconst 4 dX7_init_136 rfl ?_
  refine N_geF 159 dX7_init_137 (by decide) (by decide) ?_
  refine N_aload_n dX7_init_140 rfl 1 rfl ?_
  refine N_getr (ci := 7) (j := 16) (x := 21) (r := (RX7, TX7, 19)) (fs := [.ref 1, .ref 3, .int 0, .int 0, .int 0, .ref 4, .int 0, .ref 5, .int 0, .ref 6, .ref 7, .ref 13, .ref 14, .int 0, .ref 20, .int 0, .ref 21, .ref 22, .int 0]) rfl rfl (by decide) rfl kf_X7_55 dX7_init_141 ?_
  refine N_iload_n dX7_init_144 rfl 0 rfl ?_
  refine N_new (ci := 3) (r := (RX3, TX3, 3)) (ty := tyX3) (fs := [.int 0, .int 0, .null]) (q := 92) (S' := nw_183) rfl tyX3_ok dfl_X3 (fun _ => rfl) kcl_X7_53 kin_X3 ki_X3 (Nat.le_of_ble_eq_true rfl) (Nat.le_of_ble_eq_true rfl) rfl rfl rfl rfl rfl dX7_init_145 ?_
  refine N_dup dX7_init_148 rfl ?_
  refine N_callN (mj := mi_X3_init) cn_33 rfl (by decide) (fun _ h => h.1.2.2.2.2.2) kd_X3_init rfl ki_X3 rfl kin_X3_init hd_X3_init ⟨(Nat.le_of_ble_eq_true rfl), (Nat.le_of_ble_eq_true rfl)⟩ rfl rfl (Nat.le_of_ble_eq_true rfl) ⟨(Nat.le_of_ble_eq_true rfl), (Nat.le_of_ble_eq_true rfl)⟩ dX7_init_149 ?_
  refine N_aast (k := 4) (ci := 3) (jn := 3) (l0 := [some 86, some 88, some 90, none]) (r := (RX3, TX3, 3)) (fs := [.int 0, .int 0, .ref 93]) (S' := nw_186) rfl (fun _ => rfl) rfl rfl rfl (vp_in_iff.mpr (by decide)) (by decide) rfl dX7_init_152 ?_
  refine N_iinc (j := 0) (v := 4) (L' := [(1, .int 4), (0, .ref 0)]) dX7_init_153 rfl rfl (by decide) rfl ?_
  refine N_goto 135 dX7_init_156 (by decide) ?_
  refine N_iload_n dX7_init_135 rfl 0 rfl ?_
  refine N_iconst 4 dX7_init_136 rfl ?_
  refine N_geT 159 dX7_init_137 (by decide) (by decide) ?_
  exact N_vret rfl rfl rfl rfl dX7_init_159
def mi_X8_init : aMi := (cX8_init, 1, RX8, none, { frames := 1, cells := 9, slots := 28276, locals := 20 })
set_option maxRecDepth 100000 in
set_option maxHeartbeats 4000000 in
theorem cn_35 : CtN mi_X8_init yX8_init 94 nw_187 nw_205 := by
  refine CtN_of (by decide +kernel) rfl (Nat.le_of_ble_eq_true rfl) rfl ?_
  refine N_aload_n dX8_init_0 rfl 0 rfl ?_
  refine N_obj km_X8_1 kin_object kcd_object (Nat.le_of_ble_eq_true rfl) (Nat.le_of_ble_eq_true rfl) dX8_init_1 ?_
  refine N_aload_n dX8_init_4 rfl 0 rfl ?_
  refine N_sipush 386 dX8_init_5 rfl ?_
  refine N_newarr (k := 0) (N' := 386) (ty := .int) (q := 95) (S' := nw_188) rfl (fun _ => rfl) kar_int (fun _ => rfl) (by decide) rfl (by decide) (Nat.le_of_ble_eq_true rfl) (Nat.le_of_ble_eq_true rfl) rfl rfl rfl rfl rfl dX8_init_8 ?_
  refine N_put (ci := 8) (j := 0) (r := (RX8, TX8, 19)) (fs := [.null, .null, .int 0, .int 0, .null, .int 0, .null, .null, .null, .int 0, .int 0, .int 0, .int 0, .int 0, .int 0, .int 0, .null, .null, .null]) (ty := tyX8 0) (S' := nw_189) rfl rfl (by decide) (by decide) rfl (fun _ => ⟨rfl, rfl⟩) rfl kf_X8_9 rfl dX8_init_10 ?_
  refine N_aload_n dX8_init_13 rfl 0 rfl ?_
  refine N_sipush 6176 dX8_init_14 rfl ?_
  refine N_newarr (k := 0) (N' := 6176) (ty := .int) (q := 96) (S' := nw_190) rfl (fun _ => rfl) kar_int (fun _ => rfl) (by decide) rfl (by decide) (Nat.le_of_ble_eq_true rfl) (Nat.le_of_ble_eq_true rfl) rfl rfl rfl rfl rfl dX8_init_17 ?_
  refine N_put (ci := 8) (j := 1) (r := (RX8, TX8, 19)) (fs := [.ref 95, .null, .int 0, .int 0, .null, .int 0, .null, .null, .null, .int 0, .int 0, .int 0, .int 0, .int 0, .int 0, .int 0, .null, .null, .null]) (ty := tyX8 1) (S' := nw_191) rfl rfl (by decide) (by decide) rfl (fun _ => ⟨rfl, rfl⟩) rfl kf_X8_13 rfl dX8_init_19 ?_
  refine N_aload_n dX8_init_22 rfl 0 rfl ?_
  refine N_bipush 40 dX8_init_23 rfl ?_
  refine N_newarr (k := 0) (N' := 40) (ty := .int) (q := 97) (S' := nw_192) rfl (fun _ => rfl) kar_int (fun _ => rfl) (by decide) rfl (by decide) (Nat.le_of_ble_eq_true rfl) (Nat.le_of_ble_eq_true rfl) rfl rfl rfl rfl rfl dX8_init_25 ?_
  refine N_put (ci := 8) (j := 4) (r := (RX8, TX8, 19)) (fs := [.ref 95, .ref 96, .int 0, .int 0, .null, .int 0, .null, .null, .null, .int 0, .int 0, .int 0, .int 0, .int 0, .int 0, .int 0, .null, .null, .null]) (ty := tyX8 4) (S' := nw_193) rfl rfl (by decide) (by decide) rfl (fun _ => ⟨rfl, rfl⟩) rfl kf_X8_16 rfl dX8_init_27 ?_
  refine N_aload_n dX8_init_30 rfl 0 rfl ?_
  refine N_iconst 4 dX8_init_31 rfl ?_
  refine N_newarr (k := 0) (N' := 4) (ty := .int) (q := 98) (S' := nw_194) rfl (fun _ => rfl) kar_int (fun _ => rfl) (by decide) rfl (by decide) (Nat.le_of_ble_eq_true rfl) (Nat.le_of_ble_eq_true rfl) rfl rfl rfl rfl rfl dX8_init_32 ?_
  refine N_put (ci := 8) (j := 6) (r := (RX8, TX8, 19)) (fs := [.ref 95, .ref 96, .int 0, .int 0, .ref 97, .int 0, .null, .null, .null, .int 0, .int 0, .int 0, .int 0, .int 0, .int 0, .int 0, .null, .null, .null]) (ty := tyX8 6) (S' := nw_195) rfl rfl (by decide) (by decide) rfl (fun _ => ⟨rfl, rfl⟩) rfl kf_X8_19 rfl dX8_init_34 ?_
  refine N_aload_n dX8_init_37 rfl 0 rfl ?_
  refine N_iconst 4 dX8_init_38 rfl ?_
  refine N_newarr (k := 0) (N' := 4) (ty := .int) (q := 99) (S' := nw_196) rfl (fun _ => rfl) kar_int (fun _ => rfl) (by decide) rfl (by decide) (Nat.le_of_ble_eq_true rfl) (Nat.le_of_ble_eq_true rfl) rfl rfl rfl rfl rfl dX8_init_39 ?_
  refine N_put (ci := 8) (j := 7) (r := (RX8, TX8, 19)) (fs := [.ref 95, .ref 96, .int 0, .int 0, .ref 97, .int 0, .ref 98, .null, .null, .int 0, .int 0, .int 0, .int 0, .int 0, .int 0, .int 0, .null, .null, .null]) (ty := tyX8 7) (S' := nw_197) rfl rfl (by decide) (by decide) rfl (fun _ => ⟨rfl, rfl⟩) rfl kf_X8_22 rfl dX8_init_41 ?_
  refine N_aload_n dX8_init_44 rfl 0 rfl ?_
  refine N_bipush 120 dX8_init_45 rfl ?_
  refine N_newarr (k := 0) (N' := 120) (ty := .int) (q := 100) (S' := nw_198) rfl (fun _ => rfl) kar_int (fun _ => rfl) (by decide) rfl (by decide) (Nat.le_of_ble_eq_true rfl) (Nat.le_of_ble_eq_true rfl) rfl rfl rfl rfl rfl dX8_init_47 ?_
  refine N_put (ci := 8) (j := 8) (r := (RX8, TX8, 19)) (fs := [.ref 95, .ref 96, .int 0, .int 0, .ref 97, .int 0, .ref 98, .ref 99, .null, .int 0, .int 0, .int 0, .int 0, .int 0, .int 0, .int 0, .null, .null, .null]) (ty := tyX8 8) (S' := nw_199) rfl rfl (by decide) (by decide) rfl (fun _ => ⟨rfl, rfl⟩) rfl kf_X8_25 rfl dX8_init_49 ?_
  refine N_aload_n dX8_init_52 rfl 0 rfl ?_
  refine N_bipush 12 dX8_init_53 rfl ?_
  refine N_newarr (k := 0) (N' := 12) (ty := .int) (q := 101) (S' := nw_200) rfl (fun _ => rfl) kar_int (fun _ => rfl) (by decide) rfl (by decide) (Nat.le_of_ble_eq_true rfl) (Nat.le_of_ble_eq_true rfl) rfl rfl rfl rfl rfl dX8_init_55 ?_
  refine N_put (ci := 8) (j := 16) (r := (RX8, TX8, 19)) (fs := [.ref 95, .ref 96, .int 0, .int 0, .ref 97, .int 0, .ref 98, .ref 99, .ref 100, .int 0, .int 0, .int 0, .int 0, .int 0, .int 0, .int 0, .null, .null, .null]) (ty := tyX8 16) (S' := nw_201) rfl rfl (by decide) (by decide) rfl (fun _ => ⟨rfl, rfl⟩) rfl kf_X8_28 rfl dX8_init_57 ?_
  refine N_aload_n dX8_init_60 rfl 0 rfl ?_
  refine N_sipush 21504 dX8_init_61 rfl ?_
  refine N_newarr (k := 0) (N' := 21504) (ty := .int) (q := 102) (S' := nw_202) rfl (fun _ => rfl) kar_int (fun _ => rfl) (by decide) rfl (by decide) (Nat.le_of_ble_eq_true rfl) (Nat.le_of_ble_eq_true rfl) rfl rfl rfl rfl rfl dX8_init_64 ?_
  refine N_put (ci := 8) (j := 17) (r := (RX8, TX8, 19)) (fs := [.ref 95, .ref 96, .int 0, .int 0, .ref 97, .int 0, .ref 98, .ref 99, .ref 100, .int 0, .int 0, .int 0, .int 0, .int 0, .int 0, .int 0, .ref 101, .null, .null]) (ty := tyX8 17) (S' := nw_203) rfl rfl (by decide) (by decide) rfl (fun _ => ⟨rfl, rfl⟩) rfl kf_X8_31 rfl dX8_init_66 ?_
  refine N_aload_n dX8_init_69 rfl 0 rfl ?_
  refine N_bipush 30 dX8_init_70 rfl ?_
  refine N_newarr (k := 0) (N' := 30) (ty := .int) (q := 103) (S' := nw_204) rfl (fun _ => rfl) kar_int (fun _ => rfl) (by decide) rfl (by decide) (Nat.le_of_ble_eq_true rfl) (Nat.le_of_ble_eq_true rfl) rfl rfl rfl rfl rfl dX8_init_72 ?_
  refine N_put (ci := 8) (j := 18) (r := (RX8, TX8, 19)) (fs := [.ref 95, .ref 96, .int 0, .int 0, .ref 97, .int 0, .ref 98, .ref 99, .ref 100, .int 0, .int 0, .int 0, .int 0, .int 0, .int 0, .int 0, .ref 101, .ref 102, .null]) (ty := tyX8 18) (S' := nw_205) rfl rfl (by decide) (by decide) rfl (fun _ => ⟨rfl, rfl⟩) rfl kf_X8_34 rfl dX8_init_74 ?_
  exact N_vret rfl rfl rfl rfl dX8_init_77

set_option maxRecDepth 100000 in
theorem kar_boolean : Cond.arrayClass .boolean ∈ a_tbl := a_tbl_of (List.mem_of_getElem? (i := 148) rfl) rfl
set_option maxRecDepth 100000 in
theorem kar_int : Cond.arrayClass .int ∈ a_tbl := a_tbl_of (List.mem_of_getElem? (i := 119) rfl) rfl
set_option maxRecDepth 100000 in
theorem kar_long : Cond.arrayClass .long ∈ a_tbl := a_tbl_of (List.mem_of_getElem? (i := 276) rfl) rfl
set_option maxRecDepth 100000 in
theorem kcd_object : Cond.code objectInit ⟨#[0xb1]⟩ 1 none ∈ a_tbl := a_tbl_of (List.mem_of_getElem? (i := 81) rfl) rfl
set_option maxRecDepth 100000 in
theorem kcl_X2_9 : Cond.classLink RX2 9 RX4 ∈ a_tbl := a_tbl_of (List.mem_of_getElem? (i := 190) rfl) rfl
set_option maxRecDepth 100000 in
theorem kcl_X7_16 : Cond.classLink RX7 16 RX1 ∈ a_tbl := a_tbl_of (List.mem_of_getElem? (i := 120) rfl) rfl
set_option maxRecDepth 100000 in
theorem kcl_X7_32 : Cond.classLink RX7 32 RX6 ∈ a_tbl := a_tbl_of (List.mem_of_getElem? (i := 122) rfl) rfl
set_option maxRecDepth 100000 in
theorem kcl_X7_42 : Cond.classLink RX7 42 RX0 ∈ a_tbl := a_tbl_of (List.mem_of_getElem? (i := 149) rfl) rfl
set_option maxRecDepth 100000 in
theorem kcl_X7_53 : Cond.classLink RX7 53 RX3 ∈ a_tbl := a_tbl_of (List.mem_of_getElem? (i := 182) rfl) rfl
set_option maxRecDepth 100000 in
theorem kcl_X7_59 : Cond.classLink RX7 59 RX2 ∈ a_tbl := a_tbl_of (List.mem_of_getElem? (i := 184) rfl) rfl
set_option maxRecDepth 100000 in
theorem kcl_X7_7 : Cond.classLink RX7 7 RX5 ∈ a_tbl := a_tbl_of (List.mem_of_getElem? (i := 82) rfl) rfl
set_option maxRecDepth 100000 in
theorem kd_X0_init : Cond.code yX0_init cX0_init 1 none ∈ a_tbl := a_tbl_of (List.mem_of_getElem? (i := 153) rfl) rfl
set_option maxRecDepth 100000 in
theorem kd_X1_init : Cond.code yX1_init cX1_init 1 none ∈ a_tbl := a_tbl_of (List.mem_of_getElem? (i := 225) rfl) rfl
set_option maxRecDepth 100000 in
theorem kd_X2_init : Cond.code yX2_init cX2_init 2 none ∈ a_tbl := a_tbl_of (List.mem_of_getElem? (i := 188) rfl) rfl
set_option maxRecDepth 100000 in
theorem kd_X3_init : Cond.code yX3_init cX3_init 1 none ∈ a_tbl := a_tbl_of (List.mem_of_getElem? (i := 280) rfl) rfl
set_option maxRecDepth 100000 in
theorem kd_X4_init : Cond.code yX4_init cX4_init 1 none ∈ a_tbl := a_tbl_of (List.mem_of_getElem? (i := 195) rfl) rfl
set_option maxRecDepth 100000 in
theorem kd_X5_init : Cond.code yX5_init cX5_init 1 none ∈ a_tbl := a_tbl_of (List.mem_of_getElem? (i := 86) rfl) rfl
set_option maxRecDepth 100000 in
theorem kd_X6_init : Cond.code yX6_init cX6_init 1 none ∈ a_tbl := a_tbl_of (List.mem_of_getElem? (i := 126) rfl) rfl
set_option maxRecDepth 100000 in
theorem kf_X4_9 : Cond.fieldLink RX4 9 "CoastLights$Step" "row" "[I" ∈ a_tbl := a_tbl_of (List.mem_of_getElem? (i := 200) rfl) rfl
set_option maxRecDepth 100000 in
theorem ki_X4 : Cond.initialized RX4 ∈ a_tbl := a_tbl_of (List.mem_of_getElem? (i := 66) rfl) rfl
set_option maxRecDepth 100000 in
theorem kin_X0 : Cond.instantiable RX0 8 ∈ a_tbl := a_tbl_of (List.mem_of_getElem? (i := 150) rfl) rfl
set_option maxRecDepth 100000 in
theorem kin_X0_init : Cond.instanceMethod yX0_init ∈ a_tbl := a_tbl_of (List.mem_of_getElem? (i := 152) rfl) rfl
set_option maxRecDepth 100000 in
theorem kin_X1 : Cond.instantiable RX1 12 ∈ a_tbl := a_tbl_of (List.mem_of_getElem? (i := 222) rfl) rfl
set_option maxRecDepth 100000 in
theorem kin_X1_init : Cond.instanceMethod yX1_init ∈ a_tbl := a_tbl_of (List.mem_of_getElem? (i := 224) rfl) rfl
set_option maxRecDepth 100000 in
theorem kin_X2 : Cond.instantiable RX2 3 ∈ a_tbl := a_tbl_of (List.mem_of_getElem? (i := 185) rfl) rfl
set_option maxRecDepth 100000 in
theorem kin_X2_init : Cond.instanceMethod yX2_init ∈ a_tbl := a_tbl_of (List.mem_of_getElem? (i := 187) rfl) rfl
set_option maxRecDepth 100000 in
theorem kin_X3 : Cond.instantiable RX3 3 ∈ a_tbl := a_tbl_of (List.mem_of_getElem? (i := 277) rfl) rfl
set_option maxRecDepth 100000 in
theorem kin_X3_init : Cond.instanceMethod yX3_init ∈ a_tbl := a_tbl_of (List.mem_of_getElem? (i := 279) rfl) rfl
set_option maxRecDepth 100000 in
theorem kin_X4 : Cond.instantiable RX4 4 ∈ a_tbl := a_tbl_of (List.mem_of_getElem? (i := 192) rfl) rfl
set_option maxRecDepth 100000 in
theorem kin_X4_init : Cond.instanceMethod yX4_init ∈ a_tbl := a_tbl_of (List.mem_of_getElem? (i := 194) rfl) rfl
set_option maxRecDepth 100000 in
theorem kin_X5 : Cond.instantiable RX5 9 ∈ a_tbl := a_tbl_of (List.mem_of_getElem? (i := 83) rfl) rfl
set_option maxRecDepth 100000 in
theorem kin_X5_init : Cond.instanceMethod yX5_init ∈ a_tbl := a_tbl_of (List.mem_of_getElem? (i := 85) rfl) rfl
set_option maxRecDepth 100000 in
theorem kin_X6 : Cond.instantiable RX6 6 ∈ a_tbl := a_tbl_of (List.mem_of_getElem? (i := 123) rfl) rfl
set_option maxRecDepth 100000 in
theorem kin_X6_init : Cond.instanceMethod yX6_init ∈ a_tbl := a_tbl_of (List.mem_of_getElem? (i := 125) rfl) rfl
set_option maxRecDepth 100000 in
theorem kin_object : Cond.instanceMethod objectInit ∈ a_tbl := a_tbl_of (List.mem_of_getElem? (i := 80) rfl) rfl
set_option maxRecDepth 100000 in
theorem km_X0_3 : Cond.methodLink RX0 3 objectInit ∈ a_tbl := a_tbl_of (List.mem_of_getElem? (i := 154) rfl) rfl
set_option maxRecDepth 100000 in
theorem km_X1_3 : Cond.methodLink RX1 3 objectInit ∈ a_tbl := a_tbl_of (List.mem_of_getElem? (i := 226) rfl) rfl
set_option maxRecDepth 100000 in
theorem km_X2_1 : Cond.methodLink RX2 1 objectInit ∈ a_tbl := a_tbl_of (List.mem_of_getElem? (i := 189) rfl) rfl
set_option maxRecDepth 100000 in
theorem km_X3_1 : Cond.methodLink RX3 1 objectInit ∈ a_tbl := a_tbl_of (List.mem_of_getElem? (i := 281) rfl) rfl
set_option maxRecDepth 100000 in
theorem km_X4_3 : Cond.methodLink RX4 3 objectInit ∈ a_tbl := a_tbl_of (List.mem_of_getElem? (i := 196) rfl) rfl
set_option maxRecDepth 100000 in
theorem km_X5_1 : Cond.methodLink RX5 1 objectInit ∈ a_tbl := a_tbl_of (List.mem_of_getElem? (i := 87) rfl) rfl
set_option maxRecDepth 100000 in
theorem km_X6_1 : Cond.methodLink RX6 1 objectInit ∈ a_tbl := a_tbl_of (List.mem_of_getElem? (i := 127) rfl) rfl
set_option maxRecDepth 100000 in
theorem km_X7_1 : Cond.methodLink RX7 1 objectInit ∈ a_tbl := a_tbl_of (List.mem_of_getElem? (i := 79) rfl) rfl
set_option maxRecDepth 100000 in
theorem km_X7_61 : Cond.methodLink RX7 61 yX2_init ∈ a_tbl := a_tbl_of (List.mem_of_getElem? (i := 186) rfl) rfl
set_option maxRecDepth 100000 in
theorem km_X8_1 : Cond.methodLink RX8 1 objectInit ∈ a_tbl := a_tbl_of (List.mem_of_getElem? (i := 789) rfl) rfl
theorem hd_X0_init : yX0_init.cls ≠ "java/lang/invoke/MethodHandle" ∧ yX0_init.cls ≠ "java/lang/invoke/VarHandle" ∧ (parseMethodDescriptor yX0_init.desc).map (fun d => d.parameters.length) = some 0 := by decide +kernel
theorem hd_X1_init : yX1_init.cls ≠ "java/lang/invoke/MethodHandle" ∧ yX1_init.cls ≠ "java/lang/invoke/VarHandle" ∧ (parseMethodDescriptor yX1_init.desc).map (fun d => d.parameters.length) = some 0 := by decide +kernel
theorem hd_X2_init : yX2_init.cls ≠ "java/lang/invoke/MethodHandle" ∧ yX2_init.cls ≠ "java/lang/invoke/VarHandle" ∧ (parseMethodDescriptor yX2_init.desc).map (fun d => d.parameters.length) = some 0 := by decide +kernel
theorem hd_X3_init : yX3_init.cls ≠ "java/lang/invoke/MethodHandle" ∧ yX3_init.cls ≠ "java/lang/invoke/VarHandle" ∧ (parseMethodDescriptor yX3_init.desc).map (fun d => d.parameters.length) = some 0 := by decide +kernel
theorem hd_X4_init : yX4_init.cls ≠ "java/lang/invoke/MethodHandle" ∧ yX4_init.cls ≠ "java/lang/invoke/VarHandle" ∧ (parseMethodDescriptor yX4_init.desc).map (fun d => d.parameters.length) = some 0 := by decide +kernel
theorem hd_X5_init : yX5_init.cls ≠ "java/lang/invoke/MethodHandle" ∧ yX5_init.cls ≠ "java/lang/invoke/VarHandle" ∧ (parseMethodDescriptor yX5_init.desc).map (fun d => d.parameters.length) = some 0 := by decide +kernel
theorem hd_X6_init : yX6_init.cls ≠ "java/lang/invoke/MethodHandle" ∧ yX6_init.cls ≠ "java/lang/invoke/VarHandle" ∧ (parseMethodDescriptor yX6_init.desc).map (fun d => d.parameters.length) = some 0 := by decide +kernel
theorem dfl_X0 : ∀ j, j < 8 → defaultValue (tyX0 j) = vp_V [.int 0, .null, .null, .int 0, .null, .int 0, .null, .null] j := by
  intro j hj
  match j, hj with
  | 0, _ => rfl
  | 1, _ => rfl
  | 2, _ => rfl
  | 3, _ => rfl
  | 4, _ => rfl
  | 5, _ => rfl
  | 6, _ => rfl
  | 7, _ => rfl
  | j + 8, hj => exact absurd hj (by omega)
theorem dfl_X1 : ∀ j, j < 12 → defaultValue (tyX1 j) = vp_V [.int 0, .int 0, .int 0, .int 0, .int 0, .long 0, .null, .null, .int 0, .int 0, .int 0, .int 0] j := by
  intro j hj
  match j, hj with
  | 0, _ => rfl
  | 1, _ => rfl
  | 2, _ => rfl
  | 3, _ => rfl
  | 4, _ => rfl
  | 5, _ => rfl
  | 6, _ => rfl
  | 7, _ => rfl
  | 8, _ => rfl
  | 9, _ => rfl
  | 10, _ => rfl
  | 11, _ => rfl
  | j + 12, hj => exact absurd hj (by omega)
theorem dfl_X2 : ∀ j, j < 3 → defaultValue (tyX2 j) = vp_V [.null, .int 0, .int 0] j := by
  intro j hj
  match j, hj with
  | 0, _ => rfl
  | 1, _ => rfl
  | 2, _ => rfl
  | j + 3, hj => exact absurd hj (by omega)
theorem dfl_X3 : ∀ j, j < 3 → defaultValue (tyX3 j) = vp_V [.int 0, .int 0, .null] j := by
  intro j hj
  match j, hj with
  | 0, _ => rfl
  | 1, _ => rfl
  | 2, _ => rfl
  | j + 3, hj => exact absurd hj (by omega)
theorem dfl_X4 : ∀ j, j < 4 → defaultValue (tyX4 j) = vp_V [.int 0, .int 0, .int 0, .null] j := by
  intro j hj
  match j, hj with
  | 0, _ => rfl
  | 1, _ => rfl
  | 2, _ => rfl
  | 3, _ => rfl
  | j + 4, hj => exact absurd hj (by omega)
theorem dfl_X5 : ∀ j, j < 9 → defaultValue (tyX5 j) = vp_V [.null, .int 0, .int 0, .int 0, .int 0, .int 0, .int 0, .int 0, .int 0] j := by
  intro j hj
  match j, hj with
  | 0, _ => rfl
  | 1, _ => rfl
  | 2, _ => rfl
  | 3, _ => rfl
  | 4, _ => rfl
  | 5, _ => rfl
  | 6, _ => rfl
  | 7, _ => rfl
  | 8, _ => rfl
  | j + 9, hj => exact absurd hj (by omega)
theorem dfl_X6 : ∀ j, j < 6 → defaultValue (tyX6 j) = vp_V [.int 0, .null, .null, .null, .null, .null] j := by
  intro j hj
  match j, hj with
  | 0, _ => rfl
  | 1, _ => rfl
  | 2, _ => rfl
  | 3, _ => rfl
  | 4, _ => rfl
  | 5, _ => rfl
  | j + 6, hj => exact absurd hj (by omega)
theorem dfl_X7 : ∀ j, j < 19 → defaultValue (tyX7 j) = vp_V [.null, .null, .int 0, .int 0, .int 0, .null, .int 0, .null, .int 0, .null, .null, .null, .null, .int 0, .null, .int 0, .null, .null, .int 0] j := by
  intro j hj
  match j, hj with
  | 0, _ => rfl
  | 1, _ => rfl
  | 2, _ => rfl
  | 3, _ => rfl
  | 4, _ => rfl
  | 5, _ => rfl
  | 6, _ => rfl
  | 7, _ => rfl
  | 8, _ => rfl
  | 9, _ => rfl
  | 10, _ => rfl
  | 11, _ => rfl
  | 12, _ => rfl
  | 13, _ => rfl
  | 14, _ => rfl
  | 15, _ => rfl
  | 16, _ => rfl
  | 17, _ => rfl
  | 18, _ => rfl
  | j + 19, hj => exact absurd hj (by omega)
theorem dfl_X8 : ∀ j, j < 19 → defaultValue (tyX8 j) = vp_V [.null, .null, .int 0, .int 0, .null, .int 0, .null, .null, .null, .int 0, .int 0, .int 0, .int 0, .int 0, .int 0, .int 0, .null, .null, .null] j := by
  intro j hj
  match j, hj with
  | 0, _ => rfl
  | 1, _ => rfl
  | 2, _ => rfl
  | 3, _ => rfl
  | 4, _ => rfl
  | 5, _ => rfl
  | 6, _ => rfl
  | 7, _ => rfl
  | 8, _ => rfl
  | 9, _ => rfl
  | 10, _ => rfl
  | 11, _ => rfl
  | 12, _ => rfl
  | 13, _ => rfl
  | 14, _ => rfl
  | 15, _ => rfl
  | 16, _ => rfl
  | 17, _ => rfl
  | 18, _ => rfl
  | j + 19, hj => exact absurd hj (by omega)

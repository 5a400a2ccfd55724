set_option maxRecDepth 100000 in
theorem kin_X7 : Cond.instantiable RX7 19 ∈ a_tbl := a_tbl_of (List.mem_of_getElem? (i := 75) rfl) rfl
set_option maxRecDepth 100000 in
theorem kd_X7_init : Cond.code yX7_init cX7_init 2 none ∈ a_tbl := a_tbl_of (List.mem_of_getElem? (i := 78) rfl) rfl
set_option maxRecDepth 100000 in
theorem kin_X8 : Cond.instantiable RX8 19 ∈ a_tbl := a_tbl_of (List.mem_of_getElem? (i := 785) rfl) rfl
set_option maxRecDepth 100000 in
theorem kd_X8_init : Cond.code yX8_init cX8_init 1 none ∈ a_tbl := a_tbl_of (List.mem_of_getElem? (i := 788) rfl) rfl

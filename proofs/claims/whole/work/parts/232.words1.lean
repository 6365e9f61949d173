theorem k_ac_B : Cond.arrayClass .byte ∈ lw_tbl := tb_1 _ (List.mem_of_getElem? (i := 58) (by decide +kernel))
theorem k_ac_I : Cond.arrayClass .int ∈ lw_tbl := tb_1 _ (List.mem_of_getElem? (i := 85) (by decide +kernel))
theorem k_ac_Z : Cond.arrayClass .boolean ∈ lw_tbl := tb_2 _ (List.mem_of_getElem? (i := 61) (by decide +kernel))
theorem k_cl_X0_30 : Cond.classLink RX0 30 RX3 ∈ lw_tbl := tb_4 _ (List.mem_of_getElem? (i := 169) (by decide +kernel))
theorem k_cl_X0_37 : Cond.classLink RX0 37 RX10 ∈ lw_tbl := tb_4 _ (List.mem_of_getElem? (i := 171) (by decide +kernel))
theorem k_cl_X11_7 : Cond.classLink RX11 7 RX6 ∈ lw_tbl := tb_1 _ (List.mem_of_getElem? (i := 29) (by decide +kernel))
theorem k_cl_X6_18 : Cond.classLink RX6 18 RX10 ∈ lw_tbl := tb_1 _ (List.mem_of_getElem? (i := 59) (by decide +kernel))
theorem k_cl_X6_25 : Cond.classLink RX6 25 RX3 ∈ lw_tbl := tb_1 _ (List.mem_of_getElem? (i := 86) (by decide +kernel))
theorem k_cl_X6_32 : Cond.classLink RX6 32 RX4 ∈ lw_tbl := tb_1 _ (List.mem_of_getElem? (i := 107) (by decide +kernel))
theorem k_cl_X6_9 : Cond.classLink RX6 9 RX7 ∈ lw_tbl := tb_1 _ (List.mem_of_getElem? (i := 35) (by decide +kernel))
theorem k_cl_X8_18 : Cond.classLink RX8 18 RX10 ∈ lw_tbl := tb_1 _ (List.mem_of_getElem? (i := 228) (by decide +kernel))
theorem k_cl_X8_25 : Cond.classLink RX8 25 RX3 ∈ lw_tbl := tb_1 _ (List.mem_of_getElem? (i := 230) (by decide +kernel))
theorem k_cl_X8_9 : Cond.classLink RX8 9 RX5 ∈ lw_tbl := tb_1 _ (List.mem_of_getElem? (i := 198) (by decide +kernel))
theorem k_co_X0_addKindsWith : Cond.code yX0_addKindsWith cX0_addKindsWith 4 none ∈ lw_tbl := tb_4 _ (List.mem_of_getElem? (i := 203) (by decide +kernel))
theorem k_co_X0_isLeastOfItsOwn : Cond.code yX0_isLeastOfItsOwn cX0_isLeastOfItsOwn 4 (some .boolean) ∈ lw_tbl := tb_4 _ (List.mem_of_getElem? (i := 195) (by decide +kernel))
theorem k_co_X0_listOrders : Cond.code yX0_listOrders cX0_listOrders 3 none ∈ lw_tbl := tb_4 _ (List.mem_of_getElem? (i := 176) (by decide +kernel))
theorem k_co_X0_movesAll : Cond.code yX0_movesAll cX0_movesAll 3 (some .boolean) ∈ lw_tbl := tb_4 _ (List.mem_of_getElem? (i := 188) (by decide +kernel))
theorem k_co_X10_init : Cond.code yX10_init cX10_init 1 none ∈ lw_tbl := tb_1 _ (List.mem_of_getElem? (i := 63) (by decide +kernel))
theorem k_co_X3_init : Cond.code yX3_init cX3_init 1 none ∈ lw_tbl := tb_1 _ (List.mem_of_getElem? (i := 90) (by decide +kernel))
theorem k_co_X4_init : Cond.code yX4_init cX4_init 1 none ∈ lw_tbl := tb_1 _ (List.mem_of_getElem? (i := 111) (by decide +kernel))
theorem k_co_X5_init : Cond.code yX5_init cX5_init 1 none ∈ lw_tbl := tb_1 _ (List.mem_of_getElem? (i := 202) (by decide +kernel))
theorem k_co_X6_init : Cond.code yX6_init cX6_init 1 none ∈ lw_tbl := tb_1 _ (List.mem_of_getElem? (i := 33) (by decide +kernel))
theorem k_co_X7_init : Cond.code yX7_init cX7_init 1 none ∈ lw_tbl := tb_1 _ (List.mem_of_getElem? (i := 39) (by decide +kernel))
theorem k_co_obj : Cond.code objectInit ⟨#[0xb1]⟩ 1 none ∈ lw_tbl := tb_1 _ (List.mem_of_getElem? (i := 28) (by decide +kernel))
theorem k_ib_X10 : Cond.instantiable RX10 5 ∈ lw_tbl := tb_1 _ (List.mem_of_getElem? (i := 60) (by decide +kernel))
theorem k_ib_X3 : Cond.instantiable RX3 4 ∈ lw_tbl := tb_1 _ (List.mem_of_getElem? (i := 87) (by decide +kernel))
theorem k_ib_X4 : Cond.instantiable RX4 15 ∈ lw_tbl := tb_1 _ (List.mem_of_getElem? (i := 108) (by decide +kernel))
theorem k_ib_X5 : Cond.instantiable RX5 7 ∈ lw_tbl := tb_1 _ (List.mem_of_getElem? (i := 199) (by decide +kernel))
theorem k_ib_X6 : Cond.instantiable RX6 6 ∈ lw_tbl := tb_1 _ (List.mem_of_getElem? (i := 30) (by decide +kernel))
theorem k_ib_X7 : Cond.instantiable RX7 4 ∈ lw_tbl := tb_1 _ (List.mem_of_getElem? (i := 36) (by decide +kernel))
theorem k_im_X0_addKindsWith : Cond.instanceMethod yX0_addKindsWith ∈ lw_tbl := tb_4 _ (List.mem_of_getElem? (i := 202) (by decide +kernel))
theorem k_im_X0_isLeastOfItsOwn : Cond.instanceMethod yX0_isLeastOfItsOwn ∈ lw_tbl := tb_4 _ (List.mem_of_getElem? (i := 194) (by decide +kernel))
theorem k_im_X0_listOrders : Cond.instanceMethod yX0_listOrders ∈ lw_tbl := tb_4 _ (List.mem_of_getElem? (i := 175) (by decide +kernel))
theorem k_im_X0_movesAll : Cond.instanceMethod yX0_movesAll ∈ lw_tbl := tb_4 _ (List.mem_of_getElem? (i := 187) (by decide +kernel))
theorem k_im_X10_init : Cond.instanceMethod yX10_init ∈ lw_tbl := tb_1 _ (List.mem_of_getElem? (i := 62) (by decide +kernel))
theorem k_im_X3_init : Cond.instanceMethod yX3_init ∈ lw_tbl := tb_1 _ (List.mem_of_getElem? (i := 89) (by decide +kernel))
theorem k_im_X4_init : Cond.instanceMethod yX4_init ∈ lw_tbl := tb_1 _ (List.mem_of_getElem? (i := 110) (by decide +kernel))
theorem k_im_X5_init : Cond.instanceMethod yX5_init ∈ lw_tbl := tb_1 _ (List.mem_of_getElem? (i := 201) (by decide +kernel))
theorem k_im_X6_init : Cond.instanceMethod yX6_init ∈ lw_tbl := tb_1 _ (List.mem_of_getElem? (i := 32) (by decide +kernel))
theorem k_im_X7_init : Cond.instanceMethod yX7_init ∈ lw_tbl := tb_1 _ (List.mem_of_getElem? (i := 38) (by decide +kernel))
theorem k_im_obj : Cond.instanceMethod objectInit ∈ lw_tbl := tb_1 _ (List.mem_of_getElem? (i := 27) (by decide +kernel))
theorem k_ml_X0_3 : Cond.methodLink RX0 3 objectInit ∈ lw_tbl := tb_4 _ (List.mem_of_getElem? (i := 168) (by decide +kernel))
theorem k_ml_X0_48 : Cond.methodLink RX0 48 yX0_listOrders ∈ lw_tbl := tb_4 _ (List.mem_of_getElem? (i := 173) (by decide +kernel))
theorem k_ml_X0_54 : Cond.methodLink RX0 54 yX0_movesAll ∈ lw_tbl := tb_4 _ (List.mem_of_getElem? (i := 185) (by decide +kernel))
theorem k_ml_X0_58 : Cond.methodLink RX0 58 yX0_isLeastOfItsOwn ∈ lw_tbl := tb_4 _ (List.mem_of_getElem? (i := 192) (by decide +kernel))
theorem k_ml_X0_61 : Cond.methodLink RX0 61 yX0_addKindsWith ∈ lw_tbl := tb_4 _ (List.mem_of_getElem? (i := 200) (by decide +kernel))
theorem k_ml_X10_3 : Cond.methodLink RX10 3 objectInit ∈ lw_tbl := tb_1 _ (List.mem_of_getElem? (i := 64) (by decide +kernel))
theorem k_ml_X11_1 : Cond.methodLink RX11 1 objectInit ∈ lw_tbl := tb_1 _ (List.mem_of_getElem? (i := 26) (by decide +kernel))
theorem k_ml_X2_3 : Cond.methodLink RX2 3 objectInit ∈ lw_tbl := tb_2 _ (List.mem_of_getElem? (i := 67) (by decide +kernel))
theorem k_ml_X3_3 : Cond.methodLink RX3 3 objectInit ∈ lw_tbl := tb_1 _ (List.mem_of_getElem? (i := 91) (by decide +kernel))
theorem k_ml_X4_3 : Cond.methodLink RX4 3 objectInit ∈ lw_tbl := tb_1 _ (List.mem_of_getElem? (i := 112) (by decide +kernel))
theorem k_ml_X5_3 : Cond.methodLink RX5 3 objectInit ∈ lw_tbl := tb_1 _ (List.mem_of_getElem? (i := 203) (by decide +kernel))
theorem k_ml_X6_3 : Cond.methodLink RX6 3 objectInit ∈ lw_tbl := tb_1 _ (List.mem_of_getElem? (i := 34) (by decide +kernel))
theorem k_ml_X7_3 : Cond.methodLink RX7 3 objectInit ∈ lw_tbl := tb_1 _ (List.mem_of_getElem? (i := 40) (by decide +kernel))
theorem k_ml_X8_3 : Cond.methodLink RX8 3 objectInit ∈ lw_tbl := tb_1 _ (List.mem_of_getElem? (i := 197) (by decide +kernel))
theorem k_ml_X9_5 : Cond.methodLink RX9 5 objectInit ∈ lw_tbl := tb_2 _ (List.mem_of_getElem? (i := 9) (by decide +kernel))
theorem k_se_X0_addKindsWith : Cond.selects RX0 yX0_addKindsWith yX0_addKindsWith ∈ lw_tbl := List.mem_append_left _ (List.mem_of_getElem? (i := 30) (by decide +kernel))
theorem k_se_X0_isLeastOfItsOwn : Cond.selects RX0 yX0_isLeastOfItsOwn yX0_isLeastOfItsOwn ∈ lw_tbl := List.mem_append_left _ (List.mem_of_getElem? (i := 28) (by decide +kernel))
theorem k_se_X0_listOrders : Cond.selects RX0 yX0_listOrders yX0_listOrders ∈ lw_tbl := List.mem_append_left _ (List.mem_of_getElem? (i := 24) (by decide +kernel))
theorem k_se_X0_movesAll : Cond.selects RX0 yX0_movesAll yX0_movesAll ∈ lw_tbl := List.mem_append_left _ (List.mem_of_getElem? (i := 27) (by decide +kernel))
theorem hd_X0_addKindsWith : yX0_addKindsWith.cls = RX0 ∧ yX0_addKindsWith.cls ≠ "java/lang/invoke/MethodHandle" ∧ yX0_addKindsWith.cls ≠ "java/lang/invoke/VarHandle" ∧ (parseMethodDescriptor yX0_addKindsWith.desc).map (fun d => d.parameters.length) = some 1 := by decide +kernel
theorem hd_X0_isLeastOfItsOwn : yX0_isLeastOfItsOwn.cls = RX0 ∧ yX0_isLeastOfItsOwn.cls ≠ "java/lang/invoke/MethodHandle" ∧ yX0_isLeastOfItsOwn.cls ≠ "java/lang/invoke/VarHandle" ∧ (parseMethodDescriptor yX0_isLeastOfItsOwn.desc).map (fun d => d.parameters.length) = some 1 := by decide +kernel
theorem hd_X0_listOrders : yX0_listOrders.cls = RX0 ∧ yX0_listOrders.cls ≠ "java/lang/invoke/MethodHandle" ∧ yX0_listOrders.cls ≠ "java/lang/invoke/VarHandle" ∧ (parseMethodDescriptor yX0_listOrders.desc).map (fun d => d.parameters.length) = some 0 := by decide +kernel
theorem hd_X0_movesAll : yX0_movesAll.cls = RX0 ∧ yX0_movesAll.cls ≠ "java/lang/invoke/MethodHandle" ∧ yX0_movesAll.cls ≠ "java/lang/invoke/VarHandle" ∧ (parseMethodDescriptor yX0_movesAll.desc).map (fun d => d.parameters.length) = some 1 := by decide +kernel
theorem hd_X10_init : yX10_init.cls = RX10 ∧ yX10_init.cls ≠ "java/lang/invoke/MethodHandle" ∧ yX10_init.cls ≠ "java/lang/invoke/VarHandle" ∧ (parseMethodDescriptor yX10_init.desc).map (fun d => d.parameters.length) = some 0 := by decide +kernel
theorem hd_X3_init : yX3_init.cls = RX3 ∧ yX3_init.cls ≠ "java/lang/invoke/MethodHandle" ∧ yX3_init.cls ≠ "java/lang/invoke/VarHandle" ∧ (parseMethodDescriptor yX3_init.desc).map (fun d => d.parameters.length) = some 0 := by decide +kernel
theorem hd_X4_init : yX4_init.cls = RX4 ∧ yX4_init.cls ≠ "java/lang/invoke/MethodHandle" ∧ yX4_init.cls ≠ "java/lang/invoke/VarHandle" ∧ (parseMethodDescriptor yX4_init.desc).map (fun d => d.parameters.length) = some 0 := by decide +kernel
theorem hd_X5_init : yX5_init.cls = RX5 ∧ yX5_init.cls ≠ "java/lang/invoke/MethodHandle" ∧ yX5_init.cls ≠ "java/lang/invoke/VarHandle" ∧ (parseMethodDescriptor yX5_init.desc).map (fun d => d.parameters.length) = some 0 := by decide +kernel
theorem hd_X6_init : yX6_init.cls = RX6 ∧ yX6_init.cls ≠ "java/lang/invoke/MethodHandle" ∧ yX6_init.cls ≠ "java/lang/invoke/VarHandle" ∧ (parseMethodDescriptor yX6_init.desc).map (fun d => d.parameters.length) = some 0 := by decide +kernel
theorem hd_X7_init : yX7_init.cls = RX7 ∧ yX7_init.cls ≠ "java/lang/invoke/MethodHandle" ∧ yX7_init.cls ≠ "java/lang/invoke/VarHandle" ∧ (parseMethodDescriptor yX7_init.desc).map (fun d => d.parameters.length) = some 0 := by decide +kernel
theorem nl_X0_32 : (RX0, 32, yX3_init) ∈ jNq := by decide +kernel
theorem nl_X0_39 : (RX0, 39, yX10_init) ∈ jNq := by decide +kernel
theorem nl_X11_9 : (RX11, 9, yX6_init) ∈ jNq := by decide +kernel
theorem nl_X6_11 : (RX6, 11, yX7_init) ∈ jNq := by decide +kernel
theorem nl_X6_20 : (RX6, 20, yX10_init) ∈ jNq := by decide +kernel
theorem nl_X6_27 : (RX6, 27, yX3_init) ∈ jNq := by decide +kernel
theorem nl_X6_34 : (RX6, 34, yX4_init) ∈ jNq := by decide +kernel
theorem nl_X8_11 : (RX8, 11, yX5_init) ∈ jNq := by decide +kernel
theorem nl_X8_20 : (RX8, 20, yX10_init) ∈ jNq := by decide +kernel
theorem nl_X8_27 : (RX8, 27, yX3_init) ∈ jNq := by decide +kernel

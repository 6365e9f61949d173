theorem k_co_X11_shortestSize : Cond.code yX11_shortestSize cX11_shortestSize 3 (some .int) ∈ lw_tbl := tb_4 _ (List.mem_of_getElem? (i := 49) (by decide +kernel))
theorem k_co_X9_search : Cond.code yX9_search cX9_search 7 none ∈ lw_tbl := tb_4 _ (List.mem_of_getElem? (i := 58) (by decide +kernel))
theorem k_co_X9_shortest : Cond.code yX9_shortest cX9_shortest 6 (some .int) ∈ lw_tbl := tb_4 _ (List.mem_of_getElem? (i := 53) (by decide +kernel))
theorem k_co_X9_wordTo : Cond.code yX9_wordTo cX9_wordTo 9 (some .int) ∈ lw_tbl := tb_4 _ (List.mem_of_getElem? (i := 77) (by decide +kernel))
theorem k_fl_X9_39 : Cond.fieldLink RX9 39 "SectionHouse$Turns" "queue" "[I" ∈ lw_tbl := tb_2 _ (List.mem_of_getElem? (i := 25) (by decide +kernel))
theorem k_im_X11_shortestSize : Cond.instanceMethod yX11_shortestSize ∈ lw_tbl := tb_4 _ (List.mem_of_getElem? (i := 48) (by decide +kernel))
theorem k_im_X9_search : Cond.instanceMethod yX9_search ∈ lw_tbl := tb_4 _ (List.mem_of_getElem? (i := 57) (by decide +kernel))
theorem k_im_X9_shortest : Cond.instanceMethod yX9_shortest ∈ lw_tbl := tb_4 _ (List.mem_of_getElem? (i := 51) (by decide +kernel))
theorem k_im_X9_wordTo : Cond.instanceMethod yX9_wordTo ∈ lw_tbl := tb_4 _ (List.mem_of_getElem? (i := 76) (by decide +kernel))
theorem k_ml_X11_160 : Cond.methodLink RX11 160 yX11_shortestSize ∈ lw_tbl := tb_4 _ (List.mem_of_getElem? (i := 46) (by decide +kernel))
theorem k_ml_X11_163 : Cond.methodLink RX11 163 yX9_shortest ∈ lw_tbl := tb_4 _ (List.mem_of_getElem? (i := 50) (by decide +kernel))
theorem k_ml_X11_167 : Cond.methodLink RX11 167 yX1_letterAt ∈ lw_tbl := tb_4 _ (List.mem_of_getElem? (i := 83) (by decide +kernel))
theorem k_ml_X9_122 : Cond.methodLink RX9 122 yX9_search ∈ lw_tbl := tb_4 _ (List.mem_of_getElem? (i := 55) (by decide +kernel))
theorem k_ml_X9_126 : Cond.methodLink RX9 126 yX1_size ∈ lw_tbl := tb_4 _ (List.mem_of_getElem? (i := 72) (by decide +kernel))
theorem k_ml_X9_128 : Cond.methodLink RX9 128 yX1_letterAt ∈ lw_tbl := tb_4 _ (List.mem_of_getElem? (i := 73) (by decide +kernel))
theorem k_ml_X9_134 : Cond.methodLink RX9 134 yX9_wordTo ∈ lw_tbl := tb_4 _ (List.mem_of_getElem? (i := 74) (by decide +kernel))
theorem k_se_X11_shortestSize : Cond.selects RX11 yX11_shortestSize yX11_shortestSize ∈ lw_tbl := List.mem_append_left _ (List.mem_of_getElem? (i := 14) (by decide +kernel))
theorem k_se_X9_search : Cond.selects RX9 yX9_search yX9_search ∈ lw_tbl := List.mem_append_left _ (List.mem_of_getElem? (i := 15) (by decide +kernel))
theorem k_se_X9_shortest : Cond.selects RX9 yX9_shortest yX9_shortest ∈ lw_tbl := tb_4 _ (List.mem_of_getElem? (i := 52) (by decide +kernel))
theorem k_se_X9_wordTo : Cond.selects RX9 yX9_wordTo yX9_wordTo ∈ lw_tbl := List.mem_append_left _ (List.mem_of_getElem? (i := 18) (by decide +kernel))
theorem hd_X11_shortestSize : yX11_shortestSize.cls = RX11 ∧ yX11_shortestSize.cls ≠ "java/lang/invoke/MethodHandle" ∧ yX11_shortestSize.cls ≠ "java/lang/invoke/VarHandle" ∧ (parseMethodDescriptor yX11_shortestSize.desc).map (fun d => d.parameters.length) = some 1 := by decide +kernel
theorem hd_X9_search : yX9_search.cls = RX9 ∧ yX9_search.cls ≠ "java/lang/invoke/MethodHandle" ∧ yX9_search.cls ≠ "java/lang/invoke/VarHandle" ∧ (parseMethodDescriptor yX9_search.desc).map (fun d => d.parameters.length) = some 1 := by decide +kernel
theorem hd_X9_shortest : yX9_shortest.cls = RX9 ∧ yX9_shortest.cls ≠ "java/lang/invoke/MethodHandle" ∧ yX9_shortest.cls ≠ "java/lang/invoke/VarHandle" ∧ (parseMethodDescriptor yX9_shortest.desc).map (fun d => d.parameters.length) = some 2 := by decide +kernel
theorem hd_X9_wordTo : yX9_wordTo.cls = RX9 ∧ yX9_wordTo.cls ≠ "java/lang/invoke/MethodHandle" ∧ yX9_wordTo.cls ≠ "java/lang/invoke/VarHandle" ∧ (parseMethodDescriptor yX9_wordTo.desc).map (fun d => d.parameters.length) = some 2 := by decide +kernel

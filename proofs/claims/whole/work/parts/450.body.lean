/-! the law's body: one call on both sides -/
theorem k_co_X11_about : Cond.code yX11_about cX11_about 4 (some .int) ∈ lw_tbl := tb_4 _ (List.mem_of_getElem? (i := 38) (by decide +kernel))
theorem k_co_X11_again : Cond.code yX11_again cX11_again 2 (some .boolean) ∈ lw_tbl := tb_6 _ (List.mem_of_getElem? (i := 38) (by decide +kernel))
theorem k_co_X11_alike : Cond.code yX11_alike cX11_alike 5 (some .boolean) ∈ lw_tbl := tb_4 _ (List.mem_of_getElem? (i := 87) (by decide +kernel))
theorem k_co_X11_brides : Cond.code yX11_brides cX11_brides 2 (some .int) ∈ lw_tbl := tb_4 _ (List.mem_of_getElem? (i := 96) (by decide +kernel))
theorem k_co_X11_broken : Cond.code yX11_broken cX11_broken 1 (some .int) ∈ lw_tbl := tb_4 _ (List.mem_of_getElem? (i := 24) (by decide +kernel))
theorem k_co_X11_child : Cond.code yX11_child cX11_child 3 (some .int) ∈ lw_tbl := tb_3 _ (List.mem_of_getElem? (i := 191) (by decide +kernel))
theorem k_co_X11_comes : Cond.code yX11_comes cX11_comes 3 (some .int) ∈ lw_tbl := tb_4 _ (List.mem_of_getElem? (i := 113) (by decide +kernel))
theorem k_co_X11_count : Cond.code yX11_count cX11_count 2 (some .int) ∈ lw_tbl := tb_6 _ (List.mem_of_getElem? (i := 8) (by decide +kernel))
theorem k_co_X11_day : Cond.code yX11_day cX11_day 2 (some .boolean) ∈ lw_tbl := tb_5 _ (List.mem_of_getElem? (i := 100) (by decide +kernel))
theorem k_co_X11_end : Cond.code yX11_end cX11_end 2 (some .int) ∈ lw_tbl := tb_2 _ (List.mem_of_getElem? (i := 139) (by decide +kernel))
theorem k_co_X11_fault : Cond.code yX11_fault cX11_fault 2 (some .int) ∈ lw_tbl := tb_3 _ (List.mem_of_getElem? (i := 175) (by decide +kernel))
theorem k_co_X11_feed : Cond.code yX11_feed cX11_feed 6 (some .int) ∈ lw_tbl := tb_2 _ (List.mem_of_getElem? (i := 127) (by decide +kernel))
theorem k_co_X11_half : Cond.code yX11_half cX11_half 3 (some .int) ∈ lw_tbl := tb_4 _ (List.mem_of_getElem? (i := 151) (by decide +kernel))
theorem k_co_X11_halves : Cond.code yX11_halves cX11_halves 2 (some .int) ∈ lw_tbl := tb_4 _ (List.mem_of_getElem? (i := 125) (by decide +kernel))
theorem k_co_X11_image : Cond.code yX11_image cX11_image 2 (some .boolean) ∈ lw_tbl := tb_6 _ (List.mem_of_getElem? (i := 17) (by decide +kernel))
theorem k_co_X11_is : Cond.code yX11_is cX11_is 3 (some .boolean) ∈ lw_tbl := tb_3 _ (List.mem_of_getElem? (i := 199) (by decide +kernel))
theorem k_co_X11_kind : Cond.code yX11_kind cX11_kind 5 (some .int) ∈ lw_tbl := tb_5 _ (List.mem_of_getElem? (i := 42) (by decide +kernel))
theorem k_co_X11_kinds : Cond.code yX11_kinds cX11_kinds 3 (some .int) ∈ lw_tbl := tb_5 _ (List.mem_of_getElem? (i := 38) (by decide +kernel))
theorem k_co_X11_law : Cond.code yX11_law cX11_law 1 (some .int) ∈ lw_tbl := tb_3 _ (List.mem_of_getElem? (i := 87) (by decide +kernel))
theorem k_co_X11_leads : Cond.code yX11_leads cX11_leads 4 (some .int) ∈ lw_tbl := tb_4 _ (List.mem_of_getElem? (i := 28) (by decide +kernel))
theorem k_co_X11_letter : Cond.code yX11_letter cX11_letter 4 (some .int) ∈ lw_tbl := tb_4 _ (List.mem_of_getElem? (i := 82) (by decide +kernel))
theorem k_co_X11_may : Cond.code yX11_may cX11_may 4 (some .int) ∈ lw_tbl := tb_5 _ (List.mem_of_getElem? (i := 239) (by decide +kernel))
theorem k_co_X11_parents : Cond.code yX11_parents cX11_parents 4 (some .boolean) ∈ lw_tbl := tb_5 _ (List.mem_of_getElem? (i := 59) (by decide +kernel))
theorem k_co_X11_person : Cond.code yX11_person cX11_person 2 (some .int) ∈ lw_tbl := tb_5 _ (List.mem_of_getElem? (i := 51) (by decide +kernel))
theorem k_co_X11_quarrel : Cond.code yX11_quarrel cX11_quarrel 2 (some .int) ∈ lw_tbl := tb_5 _ (List.mem_of_getElem? (i := 207) (by decide +kernel))
theorem k_co_X11_system : Cond.code yX11_system cX11_system 1 (some .int) ∈ lw_tbl := tb_2 _ (List.mem_of_getElem? (i := 147) (by decide +kernel))
theorem k_co_X11_systems : Cond.code yX11_systems cX11_systems 3 (some .int) ∈ lw_tbl := tb_4 _ (List.mem_of_getElem? (i := 159) (by decide +kernel))
theorem k_co_X11_tell : Cond.code yX11_tell cX11_tell 3 (some .int) ∈ lw_tbl := tb_5 _ (List.mem_of_getElem? (i := 92) (by decide +kernel))
theorem k_co_X11_tells : Cond.code yX11_tells cX11_tells 4 (some .int) ∈ lw_tbl := tb_5 _ (List.mem_of_getElem? (i := 116) (by decide +kernel))
theorem k_co_X11_told : Cond.code yX11_told cX11_told 3 (some .int) ∈ lw_tbl := tb_5 _ (List.mem_of_getElem? (i := 202) (by decide +kernel))
theorem k_co_X11_turnsOf : Cond.code yX11_turnsOf cX11_turnsOf 1 (some .int) ∈ lw_tbl := tb_4 _ (List.mem_of_getElem? (i := 109) (by decide +kernel))
theorem k_co_X11_view : Cond.code yX11_view cX11_view 2 (some .boolean) ∈ lw_tbl := tb_5 _ (List.mem_of_getElem? (i := 108) (by decide +kernel))
theorem k_co_X11_wed : Cond.code yX11_wed cX11_wed 3 (some .int) ∈ lw_tbl := tb_5 _ (List.mem_of_getElem? (i := 80) (by decide +kernel))
theorem k_co_X11_weds : Cond.code yX11_weds cX11_weds 2 (some .int) ∈ lw_tbl := tb_3 _ (List.mem_of_getElem? (i := 179) (by decide +kernel))
theorem k_co_X11_word : Cond.code yX11_word cX11_word 3 (some .int) ∈ lw_tbl := tb_3 _ (List.mem_of_getElem? (i := 159) (by decide +kernel))
theorem k_co_X11_wrong : Cond.code yX11_wrong cX11_wrong 2 (some .int) ∈ lw_tbl := tb_5 _ (List.mem_of_getElem? (i := 231) (by decide +kernel))
theorem k_co_X11_wrongs : Cond.code yX11_wrongs cX11_wrongs 1 (some .int) ∈ lw_tbl := tb_5 _ (List.mem_of_getElem? (i := 215) (by decide +kernel))
theorem k_co_X12_about : Cond.code yX12_about cX12_about 5 (some .int) ∈ lw_tbl := tb_7 _ (List.mem_of_getElem? (i := 223) (by decide +kernel))
theorem k_co_X12_again : Cond.code yX12_again cX12_again 2 (some .boolean) ∈ lw_tbl := tb_8 _ (List.mem_of_getElem? (i := 173) (by decide +kernel))
theorem k_co_X12_alike : Cond.code yX12_alike cX12_alike 4 (some .boolean) ∈ lw_tbl := tb_8 _ (List.mem_of_getElem? (i := 7) (by decide +kernel))
theorem k_co_X12_brides : Cond.code yX12_brides cX12_brides 6 (some .int) ∈ lw_tbl := tb_8 _ (List.mem_of_getElem? (i := 11) (by decide +kernel))
theorem k_co_X12_broken : Cond.code yX12_broken cX12_broken 1 (some .int) ∈ lw_tbl := tb_7 _ (List.mem_of_getElem? (i := 207) (by decide +kernel))
theorem k_co_X12_child : Cond.code yX12_child cX12_child 3 (some .int) ∈ lw_tbl := tb_7 _ (List.mem_of_getElem? (i := 151) (by decide +kernel))
theorem k_co_X12_comes : Cond.code yX12_comes cX12_comes 8 (some .int) ∈ lw_tbl := tb_8 _ (List.mem_of_getElem? (i := 19) (by decide +kernel))
theorem k_co_X12_count : Cond.code yX12_count cX12_count 4 (some .int) ∈ lw_tbl := tb_8 _ (List.mem_of_getElem? (i := 155) (by decide +kernel))
theorem k_co_X12_day : Cond.code yX12_day cX12_day 2 (some .boolean) ∈ lw_tbl := tb_8 _ (List.mem_of_getElem? (i := 83) (by decide +kernel))
theorem k_co_X12_end : Cond.code yX12_end cX12_end 2 (some .int) ∈ lw_tbl := tb_7 _ (List.mem_of_getElem? (i := 39) (by decide +kernel))
theorem k_co_X12_fault : Cond.code yX12_fault cX12_fault 2 (some .int) ∈ lw_tbl := tb_7 _ (List.mem_of_getElem? (i := 135) (by decide +kernel))
theorem k_co_X12_feed : Cond.code yX12_feed cX12_feed 6 (some .int) ∈ lw_tbl := tb_7 _ (List.mem_of_getElem? (i := 31) (by decide +kernel))
theorem k_co_X12_half : Cond.code yX12_half cX12_half 5 (some .int) ∈ lw_tbl := tb_8 _ (List.mem_of_getElem? (i := 31) (by decide +kernel))
theorem k_co_X12_halves : Cond.code yX12_halves cX12_halves 4 (some .int) ∈ lw_tbl := tb_8 _ (List.mem_of_getElem? (i := 23) (by decide +kernel))
theorem k_co_X12_image : Cond.code yX12_image cX12_image 2 (some .boolean) ∈ lw_tbl := tb_8 _ (List.mem_of_getElem? (i := 159) (by decide +kernel))
theorem k_co_X12_is : Cond.code yX12_is cX12_is 2 (some .boolean) ∈ lw_tbl := tb_7 _ (List.mem_of_getElem? (i := 159) (by decide +kernel))
theorem k_co_X12_kind : Cond.code yX12_kind cX12_kind 5 (some .int) ∈ lw_tbl := tb_8 _ (List.mem_of_getElem? (i := 59) (by decide +kernel))
theorem k_co_X12_kinds : Cond.code yX12_kinds cX12_kinds 2 (some .int) ∈ lw_tbl := tb_8 _ (List.mem_of_getElem? (i := 55) (by decide +kernel))
theorem k_co_X12_law : Cond.code yX12_law cX12_law 6 (some .int) ∈ lw_tbl := tb_7 _ (List.mem_of_getElem? (i := 97) (by decide +kernel))
theorem k_co_X12_leads : Cond.code yX12_leads cX12_leads 3 (some .int) ∈ lw_tbl := tb_7 _ (List.mem_of_getElem? (i := 211) (by decide +kernel))
theorem k_co_X12_letter : Cond.code yX12_letter cX12_letter 3 (some .int) ∈ lw_tbl := tb_8 _ (List.mem_of_getElem? (i := 3) (by decide +kernel))
theorem k_co_X12_may : Cond.code yX12_may cX12_may 12 (some .int) ∈ lw_tbl := tb_8 _ (List.mem_of_getElem? (i := 151) (by decide +kernel))
theorem k_co_X12_parents : Cond.code yX12_parents cX12_parents 6 (some .boolean) ∈ lw_tbl := tb_8 _ (List.mem_of_getElem? (i := 67) (by decide +kernel))
theorem k_co_X12_person : Cond.code yX12_person cX12_person 3 (some .int) ∈ lw_tbl := tb_8 _ (List.mem_of_getElem? (i := 63) (by decide +kernel))
theorem k_co_X12_quarrel : Cond.code yX12_quarrel cX12_quarrel 4 (some .int) ∈ lw_tbl := tb_8 _ (List.mem_of_getElem? (i := 131) (by decide +kernel))
theorem k_co_X12_system : Cond.code yX12_system cX12_system 5 (some .int) ∈ lw_tbl := tb_7 _ (List.mem_of_getElem? (i := 46) (by decide +kernel))
theorem k_co_X12_systems : Cond.code yX12_systems cX12_systems 2 (some .int) ∈ lw_tbl := tb_8 _ (List.mem_of_getElem? (i := 35) (by decide +kernel))
theorem k_co_X12_tell : Cond.code yX12_tell cX12_tell 4 (some .int) ∈ lw_tbl := tb_8 _ (List.mem_of_getElem? (i := 79) (by decide +kernel))
theorem k_co_X12_tells : Cond.code yX12_tells cX12_tells 4 (some .int) ∈ lw_tbl := tb_8 _ (List.mem_of_getElem? (i := 91) (by decide +kernel))
theorem k_co_X12_told : Cond.code yX12_told cX12_told 3 (some .int) ∈ lw_tbl := tb_8 _ (List.mem_of_getElem? (i := 127) (by decide +kernel))
theorem k_co_X12_turnsOf : Cond.code yX12_turnsOf cX12_turnsOf 1 (some .int) ∈ lw_tbl := tb_8 _ (List.mem_of_getElem? (i := 15) (by decide +kernel))
theorem k_co_X12_view : Cond.code yX12_view cX12_view 2 (some .boolean) ∈ lw_tbl := tb_8 _ (List.mem_of_getElem? (i := 87) (by decide +kernel))
theorem k_co_X12_wed : Cond.code yX12_wed cX12_wed 4 (some .int) ∈ lw_tbl := tb_8 _ (List.mem_of_getElem? (i := 75) (by decide +kernel))
theorem k_co_X12_weds : Cond.code yX12_weds cX12_weds 2 (some .int) ∈ lw_tbl := tb_7 _ (List.mem_of_getElem? (i := 139) (by decide +kernel))
theorem k_co_X12_word : Cond.code yX12_word cX12_word 6 (some .int) ∈ lw_tbl := tb_7 _ (List.mem_of_getElem? (i := 131) (by decide +kernel))
theorem k_co_X12_wrong_ : Cond.code yX12_wrong_ cX12_wrong_ 5 (some .int) ∈ lw_tbl := tb_8 _ (List.mem_of_getElem? (i := 147) (by decide +kernel))
theorem k_co_X12_wrongs : Cond.code yX12_wrongs cX12_wrongs 1 (some .int) ∈ lw_tbl := tb_8 _ (List.mem_of_getElem? (i := 139) (by decide +kernel))
theorem k_im_X11_about : Cond.instanceMethod yX11_about ∈ lw_tbl := tb_4 _ (List.mem_of_getElem? (i := 36) (by decide +kernel))
theorem k_im_X11_again : Cond.instanceMethod yX11_again ∈ lw_tbl := tb_6 _ (List.mem_of_getElem? (i := 36) (by decide +kernel))
theorem k_im_X11_alike : Cond.instanceMethod yX11_alike ∈ lw_tbl := tb_4 _ (List.mem_of_getElem? (i := 85) (by decide +kernel))
theorem k_im_X11_brides : Cond.instanceMethod yX11_brides ∈ lw_tbl := tb_4 _ (List.mem_of_getElem? (i := 94) (by decide +kernel))
theorem k_im_X11_broken : Cond.instanceMethod yX11_broken ∈ lw_tbl := tb_4 _ (List.mem_of_getElem? (i := 22) (by decide +kernel))
theorem k_im_X11_child : Cond.instanceMethod yX11_child ∈ lw_tbl := tb_3 _ (List.mem_of_getElem? (i := 189) (by decide +kernel))
theorem k_im_X11_comes : Cond.instanceMethod yX11_comes ∈ lw_tbl := tb_4 _ (List.mem_of_getElem? (i := 111) (by decide +kernel))
theorem k_im_X11_count : Cond.instanceMethod yX11_count ∈ lw_tbl := tb_6 _ (List.mem_of_getElem? (i := 6) (by decide +kernel))
theorem k_im_X11_day : Cond.instanceMethod yX11_day ∈ lw_tbl := tb_5 _ (List.mem_of_getElem? (i := 98) (by decide +kernel))
theorem k_im_X11_end : Cond.instanceMethod yX11_end ∈ lw_tbl := tb_2 _ (List.mem_of_getElem? (i := 137) (by decide +kernel))
theorem k_im_X11_fault : Cond.instanceMethod yX11_fault ∈ lw_tbl := tb_3 _ (List.mem_of_getElem? (i := 173) (by decide +kernel))
theorem k_im_X11_feed : Cond.instanceMethod yX11_feed ∈ lw_tbl := tb_2 _ (List.mem_of_getElem? (i := 125) (by decide +kernel))
theorem k_im_X11_half : Cond.instanceMethod yX11_half ∈ lw_tbl := tb_4 _ (List.mem_of_getElem? (i := 149) (by decide +kernel))
theorem k_im_X11_halves : Cond.instanceMethod yX11_halves ∈ lw_tbl := tb_4 _ (List.mem_of_getElem? (i := 123) (by decide +kernel))
theorem k_im_X11_image : Cond.instanceMethod yX11_image ∈ lw_tbl := tb_6 _ (List.mem_of_getElem? (i := 15) (by decide +kernel))
theorem k_im_X11_is : Cond.instanceMethod yX11_is ∈ lw_tbl := tb_3 _ (List.mem_of_getElem? (i := 197) (by decide +kernel))
theorem k_im_X11_kind : Cond.instanceMethod yX11_kind ∈ lw_tbl := tb_5 _ (List.mem_of_getElem? (i := 40) (by decide +kernel))
theorem k_im_X11_kinds : Cond.instanceMethod yX11_kinds ∈ lw_tbl := tb_5 _ (List.mem_of_getElem? (i := 36) (by decide +kernel))
theorem k_im_X11_law : Cond.instanceMethod yX11_law ∈ lw_tbl := tb_3 _ (List.mem_of_getElem? (i := 85) (by decide +kernel))
theorem k_im_X11_leads : Cond.instanceMethod yX11_leads ∈ lw_tbl := tb_4 _ (List.mem_of_getElem? (i := 26) (by decide +kernel))
theorem k_im_X11_letter : Cond.instanceMethod yX11_letter ∈ lw_tbl := tb_4 _ (List.mem_of_getElem? (i := 80) (by decide +kernel))
theorem k_im_X11_may : Cond.instanceMethod yX11_may ∈ lw_tbl := tb_5 _ (List.mem_of_getElem? (i := 237) (by decide +kernel))
theorem k_im_X11_parents : Cond.instanceMethod yX11_parents ∈ lw_tbl := tb_5 _ (List.mem_of_getElem? (i := 57) (by decide +kernel))
theorem k_im_X11_person : Cond.instanceMethod yX11_person ∈ lw_tbl := tb_5 _ (List.mem_of_getElem? (i := 49) (by decide +kernel))
theorem k_im_X11_quarrel : Cond.instanceMethod yX11_quarrel ∈ lw_tbl := tb_5 _ (List.mem_of_getElem? (i := 205) (by decide +kernel))
theorem k_im_X11_system : Cond.instanceMethod yX11_system ∈ lw_tbl := tb_2 _ (List.mem_of_getElem? (i := 145) (by decide +kernel))
theorem k_im_X11_systems : Cond.instanceMethod yX11_systems ∈ lw_tbl := tb_4 _ (List.mem_of_getElem? (i := 157) (by decide +kernel))
theorem k_im_X11_tell : Cond.instanceMethod yX11_tell ∈ lw_tbl := tb_5 _ (List.mem_of_getElem? (i := 90) (by decide +kernel))
theorem k_im_X11_tells : Cond.instanceMethod yX11_tells ∈ lw_tbl := tb_5 _ (List.mem_of_getElem? (i := 114) (by decide +kernel))
theorem k_im_X11_told : Cond.instanceMethod yX11_told ∈ lw_tbl := tb_5 _ (List.mem_of_getElem? (i := 200) (by decide +kernel))
theorem k_im_X11_turnsOf : Cond.instanceMethod yX11_turnsOf ∈ lw_tbl := tb_4 _ (List.mem_of_getElem? (i := 107) (by decide +kernel))
theorem k_im_X11_view : Cond.instanceMethod yX11_view ∈ lw_tbl := tb_5 _ (List.mem_of_getElem? (i := 106) (by decide +kernel))
theorem k_im_X11_wed : Cond.instanceMethod yX11_wed ∈ lw_tbl := tb_5 _ (List.mem_of_getElem? (i := 78) (by decide +kernel))
theorem k_im_X11_weds : Cond.instanceMethod yX11_weds ∈ lw_tbl := tb_3 _ (List.mem_of_getElem? (i := 177) (by decide +kernel))
theorem k_im_X11_word : Cond.instanceMethod yX11_word ∈ lw_tbl := tb_3 _ (List.mem_of_getElem? (i := 157) (by decide +kernel))
theorem k_im_X11_wrong : Cond.instanceMethod yX11_wrong ∈ lw_tbl := tb_5 _ (List.mem_of_getElem? (i := 229) (by decide +kernel))
theorem k_im_X11_wrongs : Cond.instanceMethod yX11_wrongs ∈ lw_tbl := tb_5 _ (List.mem_of_getElem? (i := 213) (by decide +kernel))
theorem k_im_X12_about : Cond.instanceMethod yX12_about ∈ lw_tbl := tb_7 _ (List.mem_of_getElem? (i := 221) (by decide +kernel))
theorem k_im_X12_again : Cond.instanceMethod yX12_again ∈ lw_tbl := tb_8 _ (List.mem_of_getElem? (i := 171) (by decide +kernel))
theorem k_im_X12_alike : Cond.instanceMethod yX12_alike ∈ lw_tbl := tb_8 _ (List.mem_of_getElem? (i := 5) (by decide +kernel))
theorem k_im_X12_brides : Cond.instanceMethod yX12_brides ∈ lw_tbl := tb_8 _ (List.mem_of_getElem? (i := 9) (by decide +kernel))
theorem k_im_X12_broken : Cond.instanceMethod yX12_broken ∈ lw_tbl := tb_7 _ (List.mem_of_getElem? (i := 205) (by decide +kernel))
theorem k_im_X12_child : Cond.instanceMethod yX12_child ∈ lw_tbl := tb_7 _ (List.mem_of_getElem? (i := 149) (by decide +kernel))
theorem k_im_X12_comes : Cond.instanceMethod yX12_comes ∈ lw_tbl := tb_8 _ (List.mem_of_getElem? (i := 17) (by decide +kernel))
theorem k_im_X12_count : Cond.instanceMethod yX12_count ∈ lw_tbl := tb_8 _ (List.mem_of_getElem? (i := 153) (by decide +kernel))
theorem k_im_X12_day : Cond.instanceMethod yX12_day ∈ lw_tbl := tb_8 _ (List.mem_of_getElem? (i := 81) (by decide +kernel))
theorem k_im_X12_end : Cond.instanceMethod yX12_end ∈ lw_tbl := tb_7 _ (List.mem_of_getElem? (i := 37) (by decide +kernel))
theorem k_im_X12_fault : Cond.instanceMethod yX12_fault ∈ lw_tbl := tb_7 _ (List.mem_of_getElem? (i := 133) (by decide +kernel))
theorem k_im_X12_feed : Cond.instanceMethod yX12_feed ∈ lw_tbl := tb_7 _ (List.mem_of_getElem? (i := 29) (by decide +kernel))
theorem k_im_X12_half : Cond.instanceMethod yX12_half ∈ lw_tbl := tb_8 _ (List.mem_of_getElem? (i := 29) (by decide +kernel))
theorem k_im_X12_halves : Cond.instanceMethod yX12_halves ∈ lw_tbl := tb_8 _ (List.mem_of_getElem? (i := 21) (by decide +kernel))
theorem k_im_X12_image : Cond.instanceMethod yX12_image ∈ lw_tbl := tb_8 _ (List.mem_of_getElem? (i := 157) (by decide +kernel))
theorem k_im_X12_is : Cond.instanceMethod yX12_is ∈ lw_tbl := tb_7 _ (List.mem_of_getElem? (i := 157) (by decide +kernel))
theorem k_im_X12_kind : Cond.instanceMethod yX12_kind ∈ lw_tbl := tb_8 _ (List.mem_of_getElem? (i := 57) (by decide +kernel))
theorem k_im_X12_kinds : Cond.instanceMethod yX12_kinds ∈ lw_tbl := tb_8 _ (List.mem_of_getElem? (i := 53) (by decide +kernel))
theorem k_im_X12_law : Cond.instanceMethod yX12_law ∈ lw_tbl := tb_7 _ (List.mem_of_getElem? (i := 95) (by decide +kernel))
theorem k_im_X12_leads : Cond.instanceMethod yX12_leads ∈ lw_tbl := tb_7 _ (List.mem_of_getElem? (i := 209) (by decide +kernel))
theorem k_im_X12_letter : Cond.instanceMethod yX12_letter ∈ lw_tbl := tb_8 _ (List.mem_of_getElem? (i := 1) (by decide +kernel))
theorem k_im_X12_may : Cond.instanceMethod yX12_may ∈ lw_tbl := tb_8 _ (List.mem_of_getElem? (i := 149) (by decide +kernel))
theorem k_im_X12_parents : Cond.instanceMethod yX12_parents ∈ lw_tbl := tb_8 _ (List.mem_of_getElem? (i := 65) (by decide +kernel))
theorem k_im_X12_person : Cond.instanceMethod yX12_person ∈ lw_tbl := tb_8 _ (List.mem_of_getElem? (i := 61) (by decide +kernel))
theorem k_im_X12_quarrel : Cond.instanceMethod yX12_quarrel ∈ lw_tbl := tb_8 _ (List.mem_of_getElem? (i := 129) (by decide +kernel))
theorem k_im_X12_system : Cond.instanceMethod yX12_system ∈ lw_tbl := tb_7 _ (List.mem_of_getElem? (i := 44) (by decide +kernel))
theorem k_im_X12_systems : Cond.instanceMethod yX12_systems ∈ lw_tbl := tb_8 _ (List.mem_of_getElem? (i := 33) (by decide +kernel))
theorem k_im_X12_tell : Cond.instanceMethod yX12_tell ∈ lw_tbl := tb_8 _ (List.mem_of_getElem? (i := 77) (by decide +kernel))
theorem k_im_X12_tells : Cond.instanceMethod yX12_tells ∈ lw_tbl := tb_8 _ (List.mem_of_getElem? (i := 89) (by decide +kernel))
theorem k_im_X12_told : Cond.instanceMethod yX12_told ∈ lw_tbl := tb_8 _ (List.mem_of_getElem? (i := 125) (by decide +kernel))
theorem k_im_X12_turnsOf : Cond.instanceMethod yX12_turnsOf ∈ lw_tbl := tb_8 _ (List.mem_of_getElem? (i := 13) (by decide +kernel))
theorem k_im_X12_view : Cond.instanceMethod yX12_view ∈ lw_tbl := tb_8 _ (List.mem_of_getElem? (i := 85) (by decide +kernel))
theorem k_im_X12_wed : Cond.instanceMethod yX12_wed ∈ lw_tbl := tb_8 _ (List.mem_of_getElem? (i := 73) (by decide +kernel))
theorem k_im_X12_weds : Cond.instanceMethod yX12_weds ∈ lw_tbl := tb_7 _ (List.mem_of_getElem? (i := 137) (by decide +kernel))
theorem k_im_X12_word : Cond.instanceMethod yX12_word ∈ lw_tbl := tb_7 _ (List.mem_of_getElem? (i := 129) (by decide +kernel))
theorem k_im_X12_wrong_ : Cond.instanceMethod yX12_wrong_ ∈ lw_tbl := tb_8 _ (List.mem_of_getElem? (i := 145) (by decide +kernel))
theorem k_im_X12_wrongs : Cond.instanceMethod yX12_wrongs ∈ lw_tbl := tb_8 _ (List.mem_of_getElem? (i := 137) (by decide +kernel))
theorem k_ml_L_100 : Cond.methodLink R_law 100 yX11_kinds ∈ lw_tbl := tb_5 _ (List.mem_of_getElem? (i := 35) (by decide +kernel))
theorem k_ml_L_103 : Cond.methodLink R_law 103 yX12_kinds ∈ lw_tbl := tb_8 _ (List.mem_of_getElem? (i := 52) (by decide +kernel))
theorem k_ml_L_104 : Cond.methodLink R_law 104 yX11_kind ∈ lw_tbl := tb_5 _ (List.mem_of_getElem? (i := 39) (by decide +kernel))
theorem k_ml_L_108 : Cond.methodLink R_law 108 yX12_kind ∈ lw_tbl := tb_8 _ (List.mem_of_getElem? (i := 56) (by decide +kernel))
theorem k_ml_L_109 : Cond.methodLink R_law 109 yX11_person ∈ lw_tbl := tb_5 _ (List.mem_of_getElem? (i := 48) (by decide +kernel))
theorem k_ml_L_112 : Cond.methodLink R_law 112 yX12_person ∈ lw_tbl := tb_8 _ (List.mem_of_getElem? (i := 60) (by decide +kernel))
theorem k_ml_L_113 : Cond.methodLink R_law 113 yX11_parents ∈ lw_tbl := tb_5 _ (List.mem_of_getElem? (i := 56) (by decide +kernel))
theorem k_ml_L_117 : Cond.methodLink R_law 117 yX12_parents ∈ lw_tbl := tb_8 _ (List.mem_of_getElem? (i := 64) (by decide +kernel))
theorem k_ml_L_118 : Cond.methodLink R_law 118 yX11_wed ∈ lw_tbl := tb_5 _ (List.mem_of_getElem? (i := 77) (by decide +kernel))
theorem k_ml_L_121 : Cond.methodLink R_law 121 yX12_wed ∈ lw_tbl := tb_8 _ (List.mem_of_getElem? (i := 72) (by decide +kernel))
theorem k_ml_L_122 : Cond.methodLink R_law 122 yX11_tell ∈ lw_tbl := tb_5 _ (List.mem_of_getElem? (i := 89) (by decide +kernel))
theorem k_ml_L_125 : Cond.methodLink R_law 125 yX12_tell ∈ lw_tbl := tb_8 _ (List.mem_of_getElem? (i := 76) (by decide +kernel))
theorem k_ml_L_126 : Cond.methodLink R_law 126 yX11_day ∈ lw_tbl := tb_5 _ (List.mem_of_getElem? (i := 97) (by decide +kernel))
theorem k_ml_L_129 : Cond.methodLink R_law 129 yX12_day ∈ lw_tbl := tb_8 _ (List.mem_of_getElem? (i := 80) (by decide +kernel))
theorem k_ml_L_13 : Cond.methodLink R_law 13 yX11_feed ∈ lw_tbl := tb_2 _ (List.mem_of_getElem? (i := 124) (by decide +kernel))
theorem k_ml_L_130 : Cond.methodLink R_law 130 yX11_view ∈ lw_tbl := tb_5 _ (List.mem_of_getElem? (i := 105) (by decide +kernel))
theorem k_ml_L_133 : Cond.methodLink R_law 133 yX12_view ∈ lw_tbl := tb_8 _ (List.mem_of_getElem? (i := 84) (by decide +kernel))
theorem k_ml_L_134 : Cond.methodLink R_law 134 yX11_tells ∈ lw_tbl := tb_5 _ (List.mem_of_getElem? (i := 113) (by decide +kernel))
theorem k_ml_L_137 : Cond.methodLink R_law 137 yX12_tells ∈ lw_tbl := tb_8 _ (List.mem_of_getElem? (i := 88) (by decide +kernel))
theorem k_ml_L_138 : Cond.methodLink R_law 138 yX11_told ∈ lw_tbl := tb_5 _ (List.mem_of_getElem? (i := 199) (by decide +kernel))
theorem k_ml_L_141 : Cond.methodLink R_law 141 yX12_told ∈ lw_tbl := tb_8 _ (List.mem_of_getElem? (i := 124) (by decide +kernel))
theorem k_ml_L_142 : Cond.methodLink R_law 142 yX11_quarrel ∈ lw_tbl := tb_5 _ (List.mem_of_getElem? (i := 204) (by decide +kernel))
theorem k_ml_L_145 : Cond.methodLink R_law 145 yX12_quarrel ∈ lw_tbl := tb_8 _ (List.mem_of_getElem? (i := 128) (by decide +kernel))
theorem k_ml_L_146 : Cond.methodLink R_law 146 yX11_wrongs ∈ lw_tbl := tb_5 _ (List.mem_of_getElem? (i := 212) (by decide +kernel))
theorem k_ml_L_149 : Cond.methodLink R_law 149 yX12_wrongs ∈ lw_tbl := tb_8 _ (List.mem_of_getElem? (i := 136) (by decide +kernel))
theorem k_ml_L_150 : Cond.methodLink R_law 150 yX11_wrong ∈ lw_tbl := tb_5 _ (List.mem_of_getElem? (i := 228) (by decide +kernel))
theorem k_ml_L_153 : Cond.methodLink R_law 153 yX12_wrong_ ∈ lw_tbl := tb_8 _ (List.mem_of_getElem? (i := 144) (by decide +kernel))
theorem k_ml_L_154 : Cond.methodLink R_law 154 yX11_may ∈ lw_tbl := tb_5 _ (List.mem_of_getElem? (i := 236) (by decide +kernel))
theorem k_ml_L_157 : Cond.methodLink R_law 157 yX12_may ∈ lw_tbl := tb_8 _ (List.mem_of_getElem? (i := 148) (by decide +kernel))
theorem k_ml_L_158 : Cond.methodLink R_law 158 yX11_count ∈ lw_tbl := tb_6 _ (List.mem_of_getElem? (i := 5) (by decide +kernel))
theorem k_ml_L_161 : Cond.methodLink R_law 161 yX12_count ∈ lw_tbl := tb_8 _ (List.mem_of_getElem? (i := 152) (by decide +kernel))
theorem k_ml_L_162 : Cond.methodLink R_law 162 yX11_image ∈ lw_tbl := tb_6 _ (List.mem_of_getElem? (i := 14) (by decide +kernel))
theorem k_ml_L_165 : Cond.methodLink R_law 165 yX12_image ∈ lw_tbl := tb_8 _ (List.mem_of_getElem? (i := 156) (by decide +kernel))
theorem k_ml_L_166 : Cond.methodLink R_law 166 yX11_again ∈ lw_tbl := tb_6 _ (List.mem_of_getElem? (i := 35) (by decide +kernel))
theorem k_ml_L_169 : Cond.methodLink R_law 169 yX12_again ∈ lw_tbl := tb_8 _ (List.mem_of_getElem? (i := 170) (by decide +kernel))
theorem k_ml_L_17 : Cond.methodLink R_law 17 yX12_feed ∈ lw_tbl := tb_7 _ (List.mem_of_getElem? (i := 28) (by decide +kernel))
theorem k_ml_L_18 : Cond.methodLink R_law 18 yX11_end ∈ lw_tbl := tb_2 _ (List.mem_of_getElem? (i := 136) (by decide +kernel))
theorem k_ml_L_22 : Cond.methodLink R_law 22 yX12_end ∈ lw_tbl := tb_7 _ (List.mem_of_getElem? (i := 36) (by decide +kernel))
theorem k_ml_L_23 : Cond.methodLink R_law 23 yX11_system ∈ lw_tbl := tb_2 _ (List.mem_of_getElem? (i := 144) (by decide +kernel))
theorem k_ml_L_27 : Cond.methodLink R_law 27 yX12_system ∈ lw_tbl := tb_7 _ (List.mem_of_getElem? (i := 43) (by decide +kernel))
theorem k_ml_L_28 : Cond.methodLink R_law 28 yX11_law ∈ lw_tbl := tb_3 _ (List.mem_of_getElem? (i := 84) (by decide +kernel))
theorem k_ml_L_31 : Cond.methodLink R_law 31 yX12_law ∈ lw_tbl := tb_7 _ (List.mem_of_getElem? (i := 94) (by decide +kernel))
theorem k_ml_L_32 : Cond.methodLink R_law 32 yX11_word ∈ lw_tbl := tb_3 _ (List.mem_of_getElem? (i := 156) (by decide +kernel))
theorem k_ml_L_35 : Cond.methodLink R_law 35 yX12_word ∈ lw_tbl := tb_7 _ (List.mem_of_getElem? (i := 128) (by decide +kernel))
theorem k_ml_L_36 : Cond.methodLink R_law 36 yX11_fault ∈ lw_tbl := tb_3 _ (List.mem_of_getElem? (i := 172) (by decide +kernel))
theorem k_ml_L_39 : Cond.methodLink R_law 39 yX12_fault ∈ lw_tbl := tb_7 _ (List.mem_of_getElem? (i := 132) (by decide +kernel))
theorem k_ml_L_40 : Cond.methodLink R_law 40 yX11_weds ∈ lw_tbl := tb_3 _ (List.mem_of_getElem? (i := 176) (by decide +kernel))
theorem k_ml_L_43 : Cond.methodLink R_law 43 yX12_weds ∈ lw_tbl := tb_7 _ (List.mem_of_getElem? (i := 136) (by decide +kernel))
theorem k_ml_L_44 : Cond.methodLink R_law 44 yX11_child ∈ lw_tbl := tb_3 _ (List.mem_of_getElem? (i := 188) (by decide +kernel))
theorem k_ml_L_48 : Cond.methodLink R_law 48 yX12_child ∈ lw_tbl := tb_7 _ (List.mem_of_getElem? (i := 148) (by decide +kernel))
theorem k_ml_L_49 : Cond.methodLink R_law 49 yX11_is ∈ lw_tbl := tb_3 _ (List.mem_of_getElem? (i := 196) (by decide +kernel))
theorem k_ml_L_53 : Cond.methodLink R_law 53 yX12_is ∈ lw_tbl := tb_7 _ (List.mem_of_getElem? (i := 156) (by decide +kernel))
theorem k_ml_L_54 : Cond.methodLink R_law 54 yX11_broken ∈ lw_tbl := tb_4 _ (List.mem_of_getElem? (i := 21) (by decide +kernel))
theorem k_ml_L_57 : Cond.methodLink R_law 57 yX12_broken ∈ lw_tbl := tb_7 _ (List.mem_of_getElem? (i := 204) (by decide +kernel))
theorem k_ml_L_58 : Cond.methodLink R_law 58 yX11_leads ∈ lw_tbl := tb_4 _ (List.mem_of_getElem? (i := 25) (by decide +kernel))
theorem k_ml_L_62 : Cond.methodLink R_law 62 yX12_leads ∈ lw_tbl := tb_7 _ (List.mem_of_getElem? (i := 208) (by decide +kernel))
theorem k_ml_L_63 : Cond.methodLink R_law 63 yX11_about ∈ lw_tbl := tb_4 _ (List.mem_of_getElem? (i := 35) (by decide +kernel))
theorem k_ml_L_66 : Cond.methodLink R_law 66 yX12_about ∈ lw_tbl := tb_7 _ (List.mem_of_getElem? (i := 220) (by decide +kernel))
theorem k_ml_L_67 : Cond.methodLink R_law 67 yX11_letter ∈ lw_tbl := tb_4 _ (List.mem_of_getElem? (i := 79) (by decide +kernel))
theorem k_ml_L_70 : Cond.methodLink R_law 70 yX12_letter ∈ lw_tbl := tb_8 _ (List.mem_of_getElem? (i := 0) (by decide +kernel))
theorem k_ml_L_71 : Cond.methodLink R_law 71 yX11_alike ∈ lw_tbl := tb_4 _ (List.mem_of_getElem? (i := 84) (by decide +kernel))
theorem k_ml_L_75 : Cond.methodLink R_law 75 yX12_alike ∈ lw_tbl := tb_8 _ (List.mem_of_getElem? (i := 4) (by decide +kernel))
theorem k_ml_L_76 : Cond.methodLink R_law 76 yX11_brides ∈ lw_tbl := tb_4 _ (List.mem_of_getElem? (i := 93) (by decide +kernel))
theorem k_ml_L_79 : Cond.methodLink R_law 79 yX12_brides ∈ lw_tbl := tb_8 _ (List.mem_of_getElem? (i := 8) (by decide +kernel))
theorem k_ml_L_80 : Cond.methodLink R_law 80 yX11_turnsOf ∈ lw_tbl := tb_4 _ (List.mem_of_getElem? (i := 106) (by decide +kernel))
theorem k_ml_L_83 : Cond.methodLink R_law 83 yX12_turnsOf ∈ lw_tbl := tb_8 _ (List.mem_of_getElem? (i := 12) (by decide +kernel))
theorem k_ml_L_84 : Cond.methodLink R_law 84 yX11_comes ∈ lw_tbl := tb_4 _ (List.mem_of_getElem? (i := 110) (by decide +kernel))
theorem k_ml_L_87 : Cond.methodLink R_law 87 yX12_comes ∈ lw_tbl := tb_8 _ (List.mem_of_getElem? (i := 16) (by decide +kernel))
theorem k_ml_L_88 : Cond.methodLink R_law 88 yX11_halves ∈ lw_tbl := tb_4 _ (List.mem_of_getElem? (i := 122) (by decide +kernel))
theorem k_ml_L_91 : Cond.methodLink R_law 91 yX12_halves ∈ lw_tbl := tb_8 _ (List.mem_of_getElem? (i := 20) (by decide +kernel))
theorem k_ml_L_92 : Cond.methodLink R_law 92 yX11_half ∈ lw_tbl := tb_4 _ (List.mem_of_getElem? (i := 148) (by decide +kernel))
theorem k_ml_L_95 : Cond.methodLink R_law 95 yX12_half ∈ lw_tbl := tb_8 _ (List.mem_of_getElem? (i := 28) (by decide +kernel))
theorem k_ml_L_96 : Cond.methodLink R_law 96 yX11_systems ∈ lw_tbl := tb_4 _ (List.mem_of_getElem? (i := 156) (by decide +kernel))
theorem k_ml_L_99 : Cond.methodLink R_law 99 yX12_systems ∈ lw_tbl := tb_8 _ (List.mem_of_getElem? (i := 32) (by decide +kernel))
theorem k_se_X11_about : Cond.selects RX11 yX11_about yX11_about ∈ lw_tbl := tb_4 _ (List.mem_of_getElem? (i := 37) (by decide +kernel))
theorem k_se_X11_again : Cond.selects RX11 yX11_again yX11_again ∈ lw_tbl := tb_6 _ (List.mem_of_getElem? (i := 37) (by decide +kernel))
theorem k_se_X11_alike : Cond.selects RX11 yX11_alike yX11_alike ∈ lw_tbl := tb_4 _ (List.mem_of_getElem? (i := 86) (by decide +kernel))
theorem k_se_X11_brides : Cond.selects RX11 yX11_brides yX11_brides ∈ lw_tbl := tb_4 _ (List.mem_of_getElem? (i := 95) (by decide +kernel))
theorem k_se_X11_broken : Cond.selects RX11 yX11_broken yX11_broken ∈ lw_tbl := tb_4 _ (List.mem_of_getElem? (i := 23) (by decide +kernel))
theorem k_se_X11_child : Cond.selects RX11 yX11_child yX11_child ∈ lw_tbl := tb_3 _ (List.mem_of_getElem? (i := 190) (by decide +kernel))
theorem k_se_X11_comes : Cond.selects RX11 yX11_comes yX11_comes ∈ lw_tbl := tb_4 _ (List.mem_of_getElem? (i := 112) (by decide +kernel))
theorem k_se_X11_count : Cond.selects RX11 yX11_count yX11_count ∈ lw_tbl := tb_6 _ (List.mem_of_getElem? (i := 7) (by decide +kernel))
theorem k_se_X11_day : Cond.selects RX11 yX11_day yX11_day ∈ lw_tbl := tb_5 _ (List.mem_of_getElem? (i := 99) (by decide +kernel))
theorem k_se_X11_end : Cond.selects RX11 yX11_end yX11_end ∈ lw_tbl := tb_2 _ (List.mem_of_getElem? (i := 138) (by decide +kernel))
theorem k_se_X11_fault : Cond.selects RX11 yX11_fault yX11_fault ∈ lw_tbl := tb_3 _ (List.mem_of_getElem? (i := 174) (by decide +kernel))
theorem k_se_X11_feed : Cond.selects RX11 yX11_feed yX11_feed ∈ lw_tbl := tb_2 _ (List.mem_of_getElem? (i := 126) (by decide +kernel))
theorem k_se_X11_half : Cond.selects RX11 yX11_half yX11_half ∈ lw_tbl := tb_4 _ (List.mem_of_getElem? (i := 150) (by decide +kernel))
theorem k_se_X11_halves : Cond.selects RX11 yX11_halves yX11_halves ∈ lw_tbl := tb_4 _ (List.mem_of_getElem? (i := 124) (by decide +kernel))
theorem k_se_X11_image : Cond.selects RX11 yX11_image yX11_image ∈ lw_tbl := tb_6 _ (List.mem_of_getElem? (i := 16) (by decide +kernel))
theorem k_se_X11_is : Cond.selects RX11 yX11_is yX11_is ∈ lw_tbl := tb_3 _ (List.mem_of_getElem? (i := 198) (by decide +kernel))
theorem k_se_X11_kind : Cond.selects RX11 yX11_kind yX11_kind ∈ lw_tbl := tb_5 _ (List.mem_of_getElem? (i := 41) (by decide +kernel))
theorem k_se_X11_kinds : Cond.selects RX11 yX11_kinds yX11_kinds ∈ lw_tbl := tb_5 _ (List.mem_of_getElem? (i := 37) (by decide +kernel))
theorem k_se_X11_law : Cond.selects RX11 yX11_law yX11_law ∈ lw_tbl := tb_3 _ (List.mem_of_getElem? (i := 86) (by decide +kernel))
theorem k_se_X11_leads : Cond.selects RX11 yX11_leads yX11_leads ∈ lw_tbl := tb_4 _ (List.mem_of_getElem? (i := 27) (by decide +kernel))
theorem k_se_X11_letter : Cond.selects RX11 yX11_letter yX11_letter ∈ lw_tbl := tb_4 _ (List.mem_of_getElem? (i := 81) (by decide +kernel))
theorem k_se_X11_may : Cond.selects RX11 yX11_may yX11_may ∈ lw_tbl := tb_5 _ (List.mem_of_getElem? (i := 238) (by decide +kernel))
theorem k_se_X11_parents : Cond.selects RX11 yX11_parents yX11_parents ∈ lw_tbl := tb_5 _ (List.mem_of_getElem? (i := 58) (by decide +kernel))
theorem k_se_X11_person : Cond.selects RX11 yX11_person yX11_person ∈ lw_tbl := tb_5 _ (List.mem_of_getElem? (i := 50) (by decide +kernel))
theorem k_se_X11_quarrel : Cond.selects RX11 yX11_quarrel yX11_quarrel ∈ lw_tbl := tb_5 _ (List.mem_of_getElem? (i := 206) (by decide +kernel))
theorem k_se_X11_system : Cond.selects RX11 yX11_system yX11_system ∈ lw_tbl := tb_2 _ (List.mem_of_getElem? (i := 146) (by decide +kernel))
theorem k_se_X11_systems : Cond.selects RX11 yX11_systems yX11_systems ∈ lw_tbl := tb_4 _ (List.mem_of_getElem? (i := 158) (by decide +kernel))
theorem k_se_X11_tell : Cond.selects RX11 yX11_tell yX11_tell ∈ lw_tbl := tb_5 _ (List.mem_of_getElem? (i := 91) (by decide +kernel))
theorem k_se_X11_tells : Cond.selects RX11 yX11_tells yX11_tells ∈ lw_tbl := tb_5 _ (List.mem_of_getElem? (i := 115) (by decide +kernel))
theorem k_se_X11_told : Cond.selects RX11 yX11_told yX11_told ∈ lw_tbl := tb_5 _ (List.mem_of_getElem? (i := 201) (by decide +kernel))
theorem k_se_X11_turnsOf : Cond.selects RX11 yX11_turnsOf yX11_turnsOf ∈ lw_tbl := tb_4 _ (List.mem_of_getElem? (i := 108) (by decide +kernel))
theorem k_se_X11_view : Cond.selects RX11 yX11_view yX11_view ∈ lw_tbl := tb_5 _ (List.mem_of_getElem? (i := 107) (by decide +kernel))
theorem k_se_X11_wed : Cond.selects RX11 yX11_wed yX11_wed ∈ lw_tbl := tb_5 _ (List.mem_of_getElem? (i := 79) (by decide +kernel))
theorem k_se_X11_weds : Cond.selects RX11 yX11_weds yX11_weds ∈ lw_tbl := tb_3 _ (List.mem_of_getElem? (i := 178) (by decide +kernel))
theorem k_se_X11_word : Cond.selects RX11 yX11_word yX11_word ∈ lw_tbl := tb_3 _ (List.mem_of_getElem? (i := 158) (by decide +kernel))
theorem k_se_X11_wrong : Cond.selects RX11 yX11_wrong yX11_wrong ∈ lw_tbl := tb_5 _ (List.mem_of_getElem? (i := 230) (by decide +kernel))
theorem k_se_X11_wrongs : Cond.selects RX11 yX11_wrongs yX11_wrongs ∈ lw_tbl := tb_5 _ (List.mem_of_getElem? (i := 214) (by decide +kernel))
theorem k_se_X12_about : Cond.selects RX12 yX12_about yX12_about ∈ lw_tbl := tb_7 _ (List.mem_of_getElem? (i := 222) (by decide +kernel))
theorem k_se_X12_again : Cond.selects RX12 yX12_again yX12_again ∈ lw_tbl := tb_8 _ (List.mem_of_getElem? (i := 172) (by decide +kernel))
theorem k_se_X12_alike : Cond.selects RX12 yX12_alike yX12_alike ∈ lw_tbl := tb_8 _ (List.mem_of_getElem? (i := 6) (by decide +kernel))
theorem k_se_X12_brides : Cond.selects RX12 yX12_brides yX12_brides ∈ lw_tbl := tb_8 _ (List.mem_of_getElem? (i := 10) (by decide +kernel))
theorem k_se_X12_broken : Cond.selects RX12 yX12_broken yX12_broken ∈ lw_tbl := tb_7 _ (List.mem_of_getElem? (i := 206) (by decide +kernel))
theorem k_se_X12_child : Cond.selects RX12 yX12_child yX12_child ∈ lw_tbl := tb_7 _ (List.mem_of_getElem? (i := 150) (by decide +kernel))
theorem k_se_X12_comes : Cond.selects RX12 yX12_comes yX12_comes ∈ lw_tbl := tb_8 _ (List.mem_of_getElem? (i := 18) (by decide +kernel))
theorem k_se_X12_count : Cond.selects RX12 yX12_count yX12_count ∈ lw_tbl := tb_8 _ (List.mem_of_getElem? (i := 154) (by decide +kernel))
theorem k_se_X12_day : Cond.selects RX12 yX12_day yX12_day ∈ lw_tbl := tb_8 _ (List.mem_of_getElem? (i := 82) (by decide +kernel))
theorem k_se_X12_end : Cond.selects RX12 yX12_end yX12_end ∈ lw_tbl := tb_7 _ (List.mem_of_getElem? (i := 38) (by decide +kernel))
theorem k_se_X12_fault : Cond.selects RX12 yX12_fault yX12_fault ∈ lw_tbl := tb_7 _ (List.mem_of_getElem? (i := 134) (by decide +kernel))
theorem k_se_X12_feed : Cond.selects RX12 yX12_feed yX12_feed ∈ lw_tbl := tb_7 _ (List.mem_of_getElem? (i := 30) (by decide +kernel))
theorem k_se_X12_half : Cond.selects RX12 yX12_half yX12_half ∈ lw_tbl := tb_8 _ (List.mem_of_getElem? (i := 30) (by decide +kernel))
theorem k_se_X12_halves : Cond.selects RX12 yX12_halves yX12_halves ∈ lw_tbl := tb_8 _ (List.mem_of_getElem? (i := 22) (by decide +kernel))
theorem k_se_X12_image : Cond.selects RX12 yX12_image yX12_image ∈ lw_tbl := tb_8 _ (List.mem_of_getElem? (i := 158) (by decide +kernel))
theorem k_se_X12_is : Cond.selects RX12 yX12_is yX12_is ∈ lw_tbl := tb_7 _ (List.mem_of_getElem? (i := 158) (by decide +kernel))
theorem k_se_X12_kind : Cond.selects RX12 yX12_kind yX12_kind ∈ lw_tbl := tb_8 _ (List.mem_of_getElem? (i := 58) (by decide +kernel))
theorem k_se_X12_kinds : Cond.selects RX12 yX12_kinds yX12_kinds ∈ lw_tbl := tb_8 _ (List.mem_of_getElem? (i := 54) (by decide +kernel))
theorem k_se_X12_law : Cond.selects RX12 yX12_law yX12_law ∈ lw_tbl := tb_7 _ (List.mem_of_getElem? (i := 96) (by decide +kernel))
theorem k_se_X12_leads : Cond.selects RX12 yX12_leads yX12_leads ∈ lw_tbl := tb_7 _ (List.mem_of_getElem? (i := 210) (by decide +kernel))
theorem k_se_X12_letter : Cond.selects RX12 yX12_letter yX12_letter ∈ lw_tbl := tb_8 _ (List.mem_of_getElem? (i := 2) (by decide +kernel))
theorem k_se_X12_may : Cond.selects RX12 yX12_may yX12_may ∈ lw_tbl := tb_8 _ (List.mem_of_getElem? (i := 150) (by decide +kernel))
theorem k_se_X12_parents : Cond.selects RX12 yX12_parents yX12_parents ∈ lw_tbl := tb_8 _ (List.mem_of_getElem? (i := 66) (by decide +kernel))
theorem k_se_X12_person : Cond.selects RX12 yX12_person yX12_person ∈ lw_tbl := tb_8 _ (List.mem_of_getElem? (i := 62) (by decide +kernel))
theorem k_se_X12_quarrel : Cond.selects RX12 yX12_quarrel yX12_quarrel ∈ lw_tbl := tb_8 _ (List.mem_of_getElem? (i := 130) (by decide +kernel))
theorem k_se_X12_system : Cond.selects RX12 yX12_system yX12_system ∈ lw_tbl := tb_7 _ (List.mem_of_getElem? (i := 45) (by decide +kernel))
theorem k_se_X12_systems : Cond.selects RX12 yX12_systems yX12_systems ∈ lw_tbl := tb_8 _ (List.mem_of_getElem? (i := 34) (by decide +kernel))
theorem k_se_X12_tell : Cond.selects RX12 yX12_tell yX12_tell ∈ lw_tbl := tb_8 _ (List.mem_of_getElem? (i := 78) (by decide +kernel))
theorem k_se_X12_tells : Cond.selects RX12 yX12_tells yX12_tells ∈ lw_tbl := tb_8 _ (List.mem_of_getElem? (i := 90) (by decide +kernel))
theorem k_se_X12_told : Cond.selects RX12 yX12_told yX12_told ∈ lw_tbl := tb_8 _ (List.mem_of_getElem? (i := 126) (by decide +kernel))
theorem k_se_X12_turnsOf : Cond.selects RX12 yX12_turnsOf yX12_turnsOf ∈ lw_tbl := tb_8 _ (List.mem_of_getElem? (i := 14) (by decide +kernel))
theorem k_se_X12_view : Cond.selects RX12 yX12_view yX12_view ∈ lw_tbl := tb_8 _ (List.mem_of_getElem? (i := 86) (by decide +kernel))
theorem k_se_X12_wed : Cond.selects RX12 yX12_wed yX12_wed ∈ lw_tbl := tb_8 _ (List.mem_of_getElem? (i := 74) (by decide +kernel))
theorem k_se_X12_weds : Cond.selects RX12 yX12_weds yX12_weds ∈ lw_tbl := tb_7 _ (List.mem_of_getElem? (i := 138) (by decide +kernel))
theorem k_se_X12_word : Cond.selects RX12 yX12_word yX12_word ∈ lw_tbl := tb_7 _ (List.mem_of_getElem? (i := 130) (by decide +kernel))
theorem k_se_X12_wrong_ : Cond.selects RX12 yX12_wrong_ yX12_wrong_ ∈ lw_tbl := tb_8 _ (List.mem_of_getElem? (i := 146) (by decide +kernel))
theorem k_se_X12_wrongs : Cond.selects RX12 yX12_wrongs yX12_wrongs ∈ lw_tbl := tb_8 _ (List.mem_of_getElem? (i := 138) (by decide +kernel))
theorem hd_X11_about : yX11_about.cls = RX11 ∧ yX11_about.cls ≠ "java/lang/invoke/MethodHandle" ∧ yX11_about.cls ≠ "java/lang/invoke/VarHandle" ∧ (parseMethodDescriptor yX11_about.desc).map (fun d => d.parameters.length) = some 2 := by decide +kernel
theorem hd_X11_again : yX11_again.cls = RX11 ∧ yX11_again.cls ≠ "java/lang/invoke/MethodHandle" ∧ yX11_again.cls ≠ "java/lang/invoke/VarHandle" ∧ (parseMethodDescriptor yX11_again.desc).map (fun d => d.parameters.length) = some 1 := by decide +kernel
theorem hd_X11_alike : yX11_alike.cls = RX11 ∧ yX11_alike.cls ≠ "java/lang/invoke/MethodHandle" ∧ yX11_alike.cls ≠ "java/lang/invoke/VarHandle" ∧ (parseMethodDescriptor yX11_alike.desc).map (fun d => d.parameters.length) = some 2 := by decide +kernel
theorem hd_X11_brides : yX11_brides.cls = RX11 ∧ yX11_brides.cls ≠ "java/lang/invoke/MethodHandle" ∧ yX11_brides.cls ≠ "java/lang/invoke/VarHandle" ∧ (parseMethodDescriptor yX11_brides.desc).map (fun d => d.parameters.length) = some 1 := by decide +kernel
theorem hd_X11_broken : yX11_broken.cls = RX11 ∧ yX11_broken.cls ≠ "java/lang/invoke/MethodHandle" ∧ yX11_broken.cls ≠ "java/lang/invoke/VarHandle" ∧ (parseMethodDescriptor yX11_broken.desc).map (fun d => d.parameters.length) = some 0 := by decide +kernel
theorem hd_X11_child : yX11_child.cls = RX11 ∧ yX11_child.cls ≠ "java/lang/invoke/MethodHandle" ∧ yX11_child.cls ≠ "java/lang/invoke/VarHandle" ∧ (parseMethodDescriptor yX11_child.desc).map (fun d => d.parameters.length) = some 2 := by decide +kernel
theorem hd_X11_comes : yX11_comes.cls = RX11 ∧ yX11_comes.cls ≠ "java/lang/invoke/MethodHandle" ∧ yX11_comes.cls ≠ "java/lang/invoke/VarHandle" ∧ (parseMethodDescriptor yX11_comes.desc).map (fun d => d.parameters.length) = some 1 := by decide +kernel
theorem hd_X11_count : yX11_count.cls = RX11 ∧ yX11_count.cls ≠ "java/lang/invoke/MethodHandle" ∧ yX11_count.cls ≠ "java/lang/invoke/VarHandle" ∧ (parseMethodDescriptor yX11_count.desc).map (fun d => d.parameters.length) = some 1 := by decide +kernel
theorem hd_X11_day : yX11_day.cls = RX11 ∧ yX11_day.cls ≠ "java/lang/invoke/MethodHandle" ∧ yX11_day.cls ≠ "java/lang/invoke/VarHandle" ∧ (parseMethodDescriptor yX11_day.desc).map (fun d => d.parameters.length) = some 1 := by decide +kernel
theorem hd_X11_end : yX11_end.cls = RX11 ∧ yX11_end.cls ≠ "java/lang/invoke/MethodHandle" ∧ yX11_end.cls ≠ "java/lang/invoke/VarHandle" ∧ (parseMethodDescriptor yX11_end.desc).map (fun d => d.parameters.length) = some 1 := by decide +kernel
theorem hd_X11_fault : yX11_fault.cls = RX11 ∧ yX11_fault.cls ≠ "java/lang/invoke/MethodHandle" ∧ yX11_fault.cls ≠ "java/lang/invoke/VarHandle" ∧ (parseMethodDescriptor yX11_fault.desc).map (fun d => d.parameters.length) = some 1 := by decide +kernel
theorem hd_X11_feed : yX11_feed.cls = RX11 ∧ yX11_feed.cls ≠ "java/lang/invoke/MethodHandle" ∧ yX11_feed.cls ≠ "java/lang/invoke/VarHandle" ∧ (parseMethodDescriptor yX11_feed.desc).map (fun d => d.parameters.length) = some 5 := by decide +kernel
theorem hd_X11_half : yX11_half.cls = RX11 ∧ yX11_half.cls ≠ "java/lang/invoke/MethodHandle" ∧ yX11_half.cls ≠ "java/lang/invoke/VarHandle" ∧ (parseMethodDescriptor yX11_half.desc).map (fun d => d.parameters.length) = some 2 := by decide +kernel
theorem hd_X11_halves : yX11_halves.cls = RX11 ∧ yX11_halves.cls ≠ "java/lang/invoke/MethodHandle" ∧ yX11_halves.cls ≠ "java/lang/invoke/VarHandle" ∧ (parseMethodDescriptor yX11_halves.desc).map (fun d => d.parameters.length) = some 1 := by decide +kernel
theorem hd_X11_image : yX11_image.cls = RX11 ∧ yX11_image.cls ≠ "java/lang/invoke/MethodHandle" ∧ yX11_image.cls ≠ "java/lang/invoke/VarHandle" ∧ (parseMethodDescriptor yX11_image.desc).map (fun d => d.parameters.length) = some 1 := by decide +kernel
theorem hd_X11_is : yX11_is.cls = RX11 ∧ yX11_is.cls ≠ "java/lang/invoke/MethodHandle" ∧ yX11_is.cls ≠ "java/lang/invoke/VarHandle" ∧ (parseMethodDescriptor yX11_is.desc).map (fun d => d.parameters.length) = some 1 := by decide +kernel
theorem hd_X11_kind : yX11_kind.cls = RX11 ∧ yX11_kind.cls ≠ "java/lang/invoke/MethodHandle" ∧ yX11_kind.cls ≠ "java/lang/invoke/VarHandle" ∧ (parseMethodDescriptor yX11_kind.desc).map (fun d => d.parameters.length) = some 3 := by decide +kernel
theorem hd_X11_kinds : yX11_kinds.cls = RX11 ∧ yX11_kinds.cls ≠ "java/lang/invoke/MethodHandle" ∧ yX11_kinds.cls ≠ "java/lang/invoke/VarHandle" ∧ (parseMethodDescriptor yX11_kinds.desc).map (fun d => d.parameters.length) = some 1 := by decide +kernel
theorem hd_X11_law : yX11_law.cls = RX11 ∧ yX11_law.cls ≠ "java/lang/invoke/MethodHandle" ∧ yX11_law.cls ≠ "java/lang/invoke/VarHandle" ∧ (parseMethodDescriptor yX11_law.desc).map (fun d => d.parameters.length) = some 0 := by decide +kernel
theorem hd_X11_leads : yX11_leads.cls = RX11 ∧ yX11_leads.cls ≠ "java/lang/invoke/MethodHandle" ∧ yX11_leads.cls ≠ "java/lang/invoke/VarHandle" ∧ (parseMethodDescriptor yX11_leads.desc).map (fun d => d.parameters.length) = some 2 := by decide +kernel
theorem hd_X11_letter : yX11_letter.cls = RX11 ∧ yX11_letter.cls ≠ "java/lang/invoke/MethodHandle" ∧ yX11_letter.cls ≠ "java/lang/invoke/VarHandle" ∧ (parseMethodDescriptor yX11_letter.desc).map (fun d => d.parameters.length) = some 2 := by decide +kernel
theorem hd_X11_may : yX11_may.cls = RX11 ∧ yX11_may.cls ≠ "java/lang/invoke/MethodHandle" ∧ yX11_may.cls ≠ "java/lang/invoke/VarHandle" ∧ (parseMethodDescriptor yX11_may.desc).map (fun d => d.parameters.length) = some 2 := by decide +kernel
theorem hd_X11_parents : yX11_parents.cls = RX11 ∧ yX11_parents.cls ≠ "java/lang/invoke/MethodHandle" ∧ yX11_parents.cls ≠ "java/lang/invoke/VarHandle" ∧ (parseMethodDescriptor yX11_parents.desc).map (fun d => d.parameters.length) = some 3 := by decide +kernel
theorem hd_X11_person : yX11_person.cls = RX11 ∧ yX11_person.cls ≠ "java/lang/invoke/MethodHandle" ∧ yX11_person.cls ≠ "java/lang/invoke/VarHandle" ∧ (parseMethodDescriptor yX11_person.desc).map (fun d => d.parameters.length) = some 1 := by decide +kernel
theorem hd_X11_quarrel : yX11_quarrel.cls = RX11 ∧ yX11_quarrel.cls ≠ "java/lang/invoke/MethodHandle" ∧ yX11_quarrel.cls ≠ "java/lang/invoke/VarHandle" ∧ (parseMethodDescriptor yX11_quarrel.desc).map (fun d => d.parameters.length) = some 1 := by decide +kernel
theorem hd_X11_system : yX11_system.cls = RX11 ∧ yX11_system.cls ≠ "java/lang/invoke/MethodHandle" ∧ yX11_system.cls ≠ "java/lang/invoke/VarHandle" ∧ (parseMethodDescriptor yX11_system.desc).map (fun d => d.parameters.length) = some 0 := by decide +kernel
theorem hd_X11_systems : yX11_systems.cls = RX11 ∧ yX11_systems.cls ≠ "java/lang/invoke/MethodHandle" ∧ yX11_systems.cls ≠ "java/lang/invoke/VarHandle" ∧ (parseMethodDescriptor yX11_systems.desc).map (fun d => d.parameters.length) = some 1 := by decide +kernel
theorem hd_X11_tell : yX11_tell.cls = RX11 ∧ yX11_tell.cls ≠ "java/lang/invoke/MethodHandle" ∧ yX11_tell.cls ≠ "java/lang/invoke/VarHandle" ∧ (parseMethodDescriptor yX11_tell.desc).map (fun d => d.parameters.length) = some 2 := by decide +kernel
theorem hd_X11_tells : yX11_tells.cls = RX11 ∧ yX11_tells.cls ≠ "java/lang/invoke/MethodHandle" ∧ yX11_tells.cls ≠ "java/lang/invoke/VarHandle" ∧ (parseMethodDescriptor yX11_tells.desc).map (fun d => d.parameters.length) = some 2 := by decide +kernel
theorem hd_X11_told : yX11_told.cls = RX11 ∧ yX11_told.cls ≠ "java/lang/invoke/MethodHandle" ∧ yX11_told.cls ≠ "java/lang/invoke/VarHandle" ∧ (parseMethodDescriptor yX11_told.desc).map (fun d => d.parameters.length) = some 2 := by decide +kernel
theorem hd_X11_turnsOf : yX11_turnsOf.cls = RX11 ∧ yX11_turnsOf.cls ≠ "java/lang/invoke/MethodHandle" ∧ yX11_turnsOf.cls ≠ "java/lang/invoke/VarHandle" ∧ (parseMethodDescriptor yX11_turnsOf.desc).map (fun d => d.parameters.length) = some 0 := by decide +kernel
theorem hd_X11_view : yX11_view.cls = RX11 ∧ yX11_view.cls ≠ "java/lang/invoke/MethodHandle" ∧ yX11_view.cls ≠ "java/lang/invoke/VarHandle" ∧ (parseMethodDescriptor yX11_view.desc).map (fun d => d.parameters.length) = some 1 := by decide +kernel
theorem hd_X11_wed : yX11_wed.cls = RX11 ∧ yX11_wed.cls ≠ "java/lang/invoke/MethodHandle" ∧ yX11_wed.cls ≠ "java/lang/invoke/VarHandle" ∧ (parseMethodDescriptor yX11_wed.desc).map (fun d => d.parameters.length) = some 2 := by decide +kernel
theorem hd_X11_weds : yX11_weds.cls = RX11 ∧ yX11_weds.cls ≠ "java/lang/invoke/MethodHandle" ∧ yX11_weds.cls ≠ "java/lang/invoke/VarHandle" ∧ (parseMethodDescriptor yX11_weds.desc).map (fun d => d.parameters.length) = some 1 := by decide +kernel
theorem hd_X11_word : yX11_word.cls = RX11 ∧ yX11_word.cls ≠ "java/lang/invoke/MethodHandle" ∧ yX11_word.cls ≠ "java/lang/invoke/VarHandle" ∧ (parseMethodDescriptor yX11_word.desc).map (fun d => d.parameters.length) = some 1 := by decide +kernel
theorem hd_X11_wrong : yX11_wrong.cls = RX11 ∧ yX11_wrong.cls ≠ "java/lang/invoke/MethodHandle" ∧ yX11_wrong.cls ≠ "java/lang/invoke/VarHandle" ∧ (parseMethodDescriptor yX11_wrong.desc).map (fun d => d.parameters.length) = some 1 := by decide +kernel
theorem hd_X11_wrongs : yX11_wrongs.cls = RX11 ∧ yX11_wrongs.cls ≠ "java/lang/invoke/MethodHandle" ∧ yX11_wrongs.cls ≠ "java/lang/invoke/VarHandle" ∧ (parseMethodDescriptor yX11_wrongs.desc).map (fun d => d.parameters.length) = some 0 := by decide +kernel
theorem hd_X12_about : yX12_about.cls = RX12 ∧ yX12_about.cls ≠ "java/lang/invoke/MethodHandle" ∧ yX12_about.cls ≠ "java/lang/invoke/VarHandle" ∧ (parseMethodDescriptor yX12_about.desc).map (fun d => d.parameters.length) = some 2 := by decide +kernel
theorem hd_X12_again : yX12_again.cls = RX12 ∧ yX12_again.cls ≠ "java/lang/invoke/MethodHandle" ∧ yX12_again.cls ≠ "java/lang/invoke/VarHandle" ∧ (parseMethodDescriptor yX12_again.desc).map (fun d => d.parameters.length) = some 1 := by decide +kernel
theorem hd_X12_alike : yX12_alike.cls = RX12 ∧ yX12_alike.cls ≠ "java/lang/invoke/MethodHandle" ∧ yX12_alike.cls ≠ "java/lang/invoke/VarHandle" ∧ (parseMethodDescriptor yX12_alike.desc).map (fun d => d.parameters.length) = some 2 := by decide +kernel
theorem hd_X12_brides : yX12_brides.cls = RX12 ∧ yX12_brides.cls ≠ "java/lang/invoke/MethodHandle" ∧ yX12_brides.cls ≠ "java/lang/invoke/VarHandle" ∧ (parseMethodDescriptor yX12_brides.desc).map (fun d => d.parameters.length) = some 1 := by decide +kernel
theorem hd_X12_broken : yX12_broken.cls = RX12 ∧ yX12_broken.cls ≠ "java/lang/invoke/MethodHandle" ∧ yX12_broken.cls ≠ "java/lang/invoke/VarHandle" ∧ (parseMethodDescriptor yX12_broken.desc).map (fun d => d.parameters.length) = some 0 := by decide +kernel
theorem hd_X12_child : yX12_child.cls = RX12 ∧ yX12_child.cls ≠ "java/lang/invoke/MethodHandle" ∧ yX12_child.cls ≠ "java/lang/invoke/VarHandle" ∧ (parseMethodDescriptor yX12_child.desc).map (fun d => d.parameters.length) = some 2 := by decide +kernel
theorem hd_X12_comes : yX12_comes.cls = RX12 ∧ yX12_comes.cls ≠ "java/lang/invoke/MethodHandle" ∧ yX12_comes.cls ≠ "java/lang/invoke/VarHandle" ∧ (parseMethodDescriptor yX12_comes.desc).map (fun d => d.parameters.length) = some 1 := by decide +kernel
theorem hd_X12_count : yX12_count.cls = RX12 ∧ yX12_count.cls ≠ "java/lang/invoke/MethodHandle" ∧ yX12_count.cls ≠ "java/lang/invoke/VarHandle" ∧ (parseMethodDescriptor yX12_count.desc).map (fun d => d.parameters.length) = some 1 := by decide +kernel
theorem hd_X12_day : yX12_day.cls = RX12 ∧ yX12_day.cls ≠ "java/lang/invoke/MethodHandle" ∧ yX12_day.cls ≠ "java/lang/invoke/VarHandle" ∧ (parseMethodDescriptor yX12_day.desc).map (fun d => d.parameters.length) = some 1 := by decide +kernel
theorem hd_X12_end : yX12_end.cls = RX12 ∧ yX12_end.cls ≠ "java/lang/invoke/MethodHandle" ∧ yX12_end.cls ≠ "java/lang/invoke/VarHandle" ∧ (parseMethodDescriptor yX12_end.desc).map (fun d => d.parameters.length) = some 1 := by decide +kernel
theorem hd_X12_fault : yX12_fault.cls = RX12 ∧ yX12_fault.cls ≠ "java/lang/invoke/MethodHandle" ∧ yX12_fault.cls ≠ "java/lang/invoke/VarHandle" ∧ (parseMethodDescriptor yX12_fault.desc).map (fun d => d.parameters.length) = some 1 := by decide +kernel
theorem hd_X12_feed : yX12_feed.cls = RX12 ∧ yX12_feed.cls ≠ "java/lang/invoke/MethodHandle" ∧ yX12_feed.cls ≠ "java/lang/invoke/VarHandle" ∧ (parseMethodDescriptor yX12_feed.desc).map (fun d => d.parameters.length) = some 5 := by decide +kernel
theorem hd_X12_half : yX12_half.cls = RX12 ∧ yX12_half.cls ≠ "java/lang/invoke/MethodHandle" ∧ yX12_half.cls ≠ "java/lang/invoke/VarHandle" ∧ (parseMethodDescriptor yX12_half.desc).map (fun d => d.parameters.length) = some 2 := by decide +kernel
theorem hd_X12_halves : yX12_halves.cls = RX12 ∧ yX12_halves.cls ≠ "java/lang/invoke/MethodHandle" ∧ yX12_halves.cls ≠ "java/lang/invoke/VarHandle" ∧ (parseMethodDescriptor yX12_halves.desc).map (fun d => d.parameters.length) = some 1 := by decide +kernel
theorem hd_X12_image : yX12_image.cls = RX12 ∧ yX12_image.cls ≠ "java/lang/invoke/MethodHandle" ∧ yX12_image.cls ≠ "java/lang/invoke/VarHandle" ∧ (parseMethodDescriptor yX12_image.desc).map (fun d => d.parameters.length) = some 1 := by decide +kernel
theorem hd_X12_is : yX12_is.cls = RX12 ∧ yX12_is.cls ≠ "java/lang/invoke/MethodHandle" ∧ yX12_is.cls ≠ "java/lang/invoke/VarHandle" ∧ (parseMethodDescriptor yX12_is.desc).map (fun d => d.parameters.length) = some 1 := by decide +kernel
theorem hd_X12_kind : yX12_kind.cls = RX12 ∧ yX12_kind.cls ≠ "java/lang/invoke/MethodHandle" ∧ yX12_kind.cls ≠ "java/lang/invoke/VarHandle" ∧ (parseMethodDescriptor yX12_kind.desc).map (fun d => d.parameters.length) = some 3 := by decide +kernel
theorem hd_X12_kinds : yX12_kinds.cls = RX12 ∧ yX12_kinds.cls ≠ "java/lang/invoke/MethodHandle" ∧ yX12_kinds.cls ≠ "java/lang/invoke/VarHandle" ∧ (parseMethodDescriptor yX12_kinds.desc).map (fun d => d.parameters.length) = some 1 := by decide +kernel
theorem hd_X12_law : yX12_law.cls = RX12 ∧ yX12_law.cls ≠ "java/lang/invoke/MethodHandle" ∧ yX12_law.cls ≠ "java/lang/invoke/VarHandle" ∧ (parseMethodDescriptor yX12_law.desc).map (fun d => d.parameters.length) = some 0 := by decide +kernel
theorem hd_X12_leads : yX12_leads.cls = RX12 ∧ yX12_leads.cls ≠ "java/lang/invoke/MethodHandle" ∧ yX12_leads.cls ≠ "java/lang/invoke/VarHandle" ∧ (parseMethodDescriptor yX12_leads.desc).map (fun d => d.parameters.length) = some 2 := by decide +kernel
theorem hd_X12_letter : yX12_letter.cls = RX12 ∧ yX12_letter.cls ≠ "java/lang/invoke/MethodHandle" ∧ yX12_letter.cls ≠ "java/lang/invoke/VarHandle" ∧ (parseMethodDescriptor yX12_letter.desc).map (fun d => d.parameters.length) = some 2 := by decide +kernel
theorem hd_X12_may : yX12_may.cls = RX12 ∧ yX12_may.cls ≠ "java/lang/invoke/MethodHandle" ∧ yX12_may.cls ≠ "java/lang/invoke/VarHandle" ∧ (parseMethodDescriptor yX12_may.desc).map (fun d => d.parameters.length) = some 2 := by decide +kernel
theorem hd_X12_parents : yX12_parents.cls = RX12 ∧ yX12_parents.cls ≠ "java/lang/invoke/MethodHandle" ∧ yX12_parents.cls ≠ "java/lang/invoke/VarHandle" ∧ (parseMethodDescriptor yX12_parents.desc).map (fun d => d.parameters.length) = some 3 := by decide +kernel
theorem hd_X12_person : yX12_person.cls = RX12 ∧ yX12_person.cls ≠ "java/lang/invoke/MethodHandle" ∧ yX12_person.cls ≠ "java/lang/invoke/VarHandle" ∧ (parseMethodDescriptor yX12_person.desc).map (fun d => d.parameters.length) = some 1 := by decide +kernel
theorem hd_X12_quarrel : yX12_quarrel.cls = RX12 ∧ yX12_quarrel.cls ≠ "java/lang/invoke/MethodHandle" ∧ yX12_quarrel.cls ≠ "java/lang/invoke/VarHandle" ∧ (parseMethodDescriptor yX12_quarrel.desc).map (fun d => d.parameters.length) = some 1 := by decide +kernel
theorem hd_X12_system : yX12_system.cls = RX12 ∧ yX12_system.cls ≠ "java/lang/invoke/MethodHandle" ∧ yX12_system.cls ≠ "java/lang/invoke/VarHandle" ∧ (parseMethodDescriptor yX12_system.desc).map (fun d => d.parameters.length) = some 0 := by decide +kernel
theorem hd_X12_systems : yX12_systems.cls = RX12 ∧ yX12_systems.cls ≠ "java/lang/invoke/MethodHandle" ∧ yX12_systems.cls ≠ "java/lang/invoke/VarHandle" ∧ (parseMethodDescriptor yX12_systems.desc).map (fun d => d.parameters.length) = some 1 := by decide +kernel
theorem hd_X12_tell : yX12_tell.cls = RX12 ∧ yX12_tell.cls ≠ "java/lang/invoke/MethodHandle" ∧ yX12_tell.cls ≠ "java/lang/invoke/VarHandle" ∧ (parseMethodDescriptor yX12_tell.desc).map (fun d => d.parameters.length) = some 2 := by decide +kernel
theorem hd_X12_tells : yX12_tells.cls = RX12 ∧ yX12_tells.cls ≠ "java/lang/invoke/MethodHandle" ∧ yX12_tells.cls ≠ "java/lang/invoke/VarHandle" ∧ (parseMethodDescriptor yX12_tells.desc).map (fun d => d.parameters.length) = some 2 := by decide +kernel
theorem hd_X12_told : yX12_told.cls = RX12 ∧ yX12_told.cls ≠ "java/lang/invoke/MethodHandle" ∧ yX12_told.cls ≠ "java/lang/invoke/VarHandle" ∧ (parseMethodDescriptor yX12_told.desc).map (fun d => d.parameters.length) = some 2 := by decide +kernel
theorem hd_X12_turnsOf : yX12_turnsOf.cls = RX12 ∧ yX12_turnsOf.cls ≠ "java/lang/invoke/MethodHandle" ∧ yX12_turnsOf.cls ≠ "java/lang/invoke/VarHandle" ∧ (parseMethodDescriptor yX12_turnsOf.desc).map (fun d => d.parameters.length) = some 0 := by decide +kernel
theorem hd_X12_view : yX12_view.cls = RX12 ∧ yX12_view.cls ≠ "java/lang/invoke/MethodHandle" ∧ yX12_view.cls ≠ "java/lang/invoke/VarHandle" ∧ (parseMethodDescriptor yX12_view.desc).map (fun d => d.parameters.length) = some 1 := by decide +kernel
theorem hd_X12_wed : yX12_wed.cls = RX12 ∧ yX12_wed.cls ≠ "java/lang/invoke/MethodHandle" ∧ yX12_wed.cls ≠ "java/lang/invoke/VarHandle" ∧ (parseMethodDescriptor yX12_wed.desc).map (fun d => d.parameters.length) = some 2 := by decide +kernel
theorem hd_X12_weds : yX12_weds.cls = RX12 ∧ yX12_weds.cls ≠ "java/lang/invoke/MethodHandle" ∧ yX12_weds.cls ≠ "java/lang/invoke/VarHandle" ∧ (parseMethodDescriptor yX12_weds.desc).map (fun d => d.parameters.length) = some 1 := by decide +kernel
theorem hd_X12_word : yX12_word.cls = RX12 ∧ yX12_word.cls ≠ "java/lang/invoke/MethodHandle" ∧ yX12_word.cls ≠ "java/lang/invoke/VarHandle" ∧ (parseMethodDescriptor yX12_word.desc).map (fun d => d.parameters.length) = some 1 := by decide +kernel
theorem hd_X12_wrong_ : yX12_wrong_.cls = RX12 ∧ yX12_wrong_.cls ≠ "java/lang/invoke/MethodHandle" ∧ yX12_wrong_.cls ≠ "java/lang/invoke/VarHandle" ∧ (parseMethodDescriptor yX12_wrong_.desc).map (fun d => d.parameters.length) = some 1 := by decide +kernel
theorem hd_X12_wrongs : yX12_wrongs.cls = RX12 ∧ yX12_wrongs.cls ≠ "java/lang/invoke/MethodHandle" ∧ yX12_wrongs.cls ≠ "java/lang/invoke/VarHandle" ∧ (parseMethodDescriptor yX12_wrongs.desc).map (fun d => d.parameters.length) = some 0 := by decide +kernel
theorem wG_L {own C : String} {idx : Nat} {y : MethodName} {c : ByteArray} {n : Nat} {r : Option FieldType} (h1 : Cond.methodLink own idx y ∈ lw_tbl) (h2 : Cond.instanceMethod y ∈ lw_tbl) (h3 : Cond.selects C y y ∈ lw_tbl) (h4 : Cond.initialized C ∈ lw_tbl) (h5 : Cond.code y c n r ∈ lw_tbl) : GoodIn lw_tbl (wsV own idx C y (wG y c n r)) := wG_app (List.forall_mem_cons.mpr ⟨⟨h1, rfl⟩, List.forall_mem_cons.mpr ⟨⟨h2, rfl⟩, List.forall_mem_cons.mpr ⟨⟨h3, rfl⟩, List.forall_mem_cons.mpr ⟨⟨h4, rfl⟩, fun _ h => absurd h List.not_mem_nil⟩⟩⟩⟩) (fun w hw => (List.mem_cons.mp hw).elim (fun e => by subst e; exact ⟨h5, good_of_word rfl⟩) (fun h => ⟨(List.mem_filter.mp h).1, good_of_word (List.mem_filter.mp h).2⟩))
def jdB (ks : List Nat) (pc : Nat) : Bool := match ks with
  | [] => true
  | k :: r => decide (decode code pc = .ok (.aload_n 0, 1)) && (decide (decode code (pc + 1) = .ok (.iload_n 3, 1)) && (decide (decode code (pc + 1 + 1) = .ok (.iconst (k : Int), 1)) && (decide (decode code (pc + 1 + 1 + 1) = .ok (.iadd, 1)) && (decide (decode code (pc + 1 + 1 + 1 + 1) = .ok (.iaload, 1)) && jdB r (pc + 1 + 1 + 1 + 1 + 1)))))
def jpc (ks : List Nat) (pc : Nat) : Nat := match ks with
  | [] => pc
  | _ :: r => jpc r (pc + 1 + 1 + 1 + 1 + 1)
theorem jpc_nil {pc : Nat} : jpc [] pc = pc := rfl
theorem jpc_cons {k : Nat} {r : List Nat} {pc : Nat} : jpc (k :: r) pc = jpc r (pc + 1 + 1 + 1 + 1 + 1) := rfl
section LAWB
variable {p : Program} {l : Launch} {e : Env} {s : State} {m : MethodId} {below : List Frame} {meth : Method} {c : Code} {b L i : Nat} {xs : Nat → Int32} {ls : Array Slot} {a rf : Nat} {Q : State → Prop} {G : jGt} {D : va_G} {cI cB cZ cS cC cJ : ClassId}
theorem lw_arg1 {H : Heap} {locs : List Loc} {cells slots pc k : Nat} {st : List Value} (hL : L ≤ 3072) (C0 : lw_At p s m meth c b L xs) (hl : lv_has ls 4 [(0, .ref b), (1, .ref a), (2, .ref rf), (3, .int (nI i))]) (hi : i + 5 < L) (hS : va_S (fun q : Nat => s.heap.size ≤ q) s.heap H locs) (hk : k ≤ 5) (d0 : decode code pc = .ok (.aload_n 0, 1)) (d1 : decode code (pc + 1) = .ok (.iload_n 3, 1)) (d2 : decode code (pc + 1 + 1) = .ok (.iconst (k : Int), 1)) (d3 : decode code (pc + 1 + 1 + 1) = .ok (.iadd, 1)) (d4 : decode code (pc + 1 + 1 + 1 + 1) = .ok (.iaload, 1)) (kk : W p l e room_1 s m #[Value.ref b] below meth c H locs cells slots Q (F0 m (pc + 1 + 1 + 1 + 1 + 1) ls (.int (xs (i + k)) :: st))) : W p l e room_1 s m #[Value.ref b] below meth c H locs cells slots Q (F0 m pc ls st) := by
  obtain ⟨hx, hb, hr, hml, hown, hts, hX, hbl, hlocks, hgv⟩ := C0
  have hbA : ¬ (fun q : Nat => s.heap.size ≤ q) b := Nat.not_le.mpr hbl
  have e1 : Int32.ofInt (k : Int) = nI k := by
    rcases (show k = 0 ∨ k = 1 ∨ k = 2 ∨ k = 3 ∨ k = 4 ∨ k = 5 by omega) with rfl | rfl | rfl | rfl | rfl | rfl <;> decide +kernel
  refine lv_aload_n hx hb d0 rfl (lv_at hl 0 rfl) ?_
  refine lv_iload_n hx hb d1 rfl (lv_at hl 3 rfl) ?_
  refine lv_iconst (v := nI k) hx hb d2 e1 ?_
  refine lv_iadd hx hb d3 ?_
  rw [nI_add]
  refine va_sld hx hb hX hbl hbA hS (vp_in_nI (by omega) (by omega)) d4 ?_
  rw [nI_clamp (by omega)]
  exact kk
theorem lw_args {H : Heap} {locs : List Loc} {cells slots : Nat} (hL : L ≤ 3072) (C0 : lw_At p s m meth c b L xs) (hl : lv_has ls 4 [(0, .ref b), (1, .ref a), (2, .ref rf), (3, .int (nI i))]) (hi : i + 5 < L) (hS : va_S (fun q : Nat => s.heap.size ≤ q) s.heap H locs) : ∀ (ks : List Nat) (pc : Nat) (st : List Value), jdB ks pc = true → (∀ k ∈ ks, k ≤ 5) → W p l e room_1 s m #[Value.ref b] below meth c H locs cells slots Q (F0 m (jpc ks pc) ls ((ks.map fun k => Value.int (xs (i + k))).reverse ++ st)) → W p l e room_1 s m #[Value.ref b] below meth c H locs cells slots Q (F0 m pc ls st) := by
  intro ks
  induction ks with
  | nil =>
    intro pc st _ _ kk
    rw [jpc_nil, List.map_nil, List.reverse_nil, List.nil_append] at kk
    exact kk
  | cons k r ih =>
    intro pc st hd hk kk
    unfold jdB at hd
    simp only [Bool.and_eq_true, decide_eq_true_eq] at hd
    obtain ⟨d0, d1, d2, d3, d4, d5⟩ := hd
    refine lw_arg1 hL C0 hl hi hS (hk k List.mem_cons_self) d0 d1 d2 d3 d4 (ih _ _ d5 (fun k' h' => hk k' (List.mem_cons_of_mem _ h')) ?_)
    rw [jpc_cons, List.map_cons, List.reverse_cons, List.append_assoc, List.singleton_append] at kk
    exact kk
theorem jcX {H : Heap} {locs : List Loc} {cells slots pc index n ci : Nat} {y : MethodName} {bytes : ByteArray} {maxL : Nat} {ret : Option FieldType} {C : String} {q : vw_C} {fs : List Value} {As rest : List Value} {w0 B0 : va_W} {r : Int32} {Nn : va_W → Prop} (C0 : lw_At p s m meth c b L xs) (hK : va_K D vwCl (jTx cI cB cZ cS cC cJ) s) (hN : jN G s) (hG : G.1 ≤ s.heap.size) (hst : jStp l y bytes maxL ret G D cI cB cZ cS cC cJ (.ref a :: As) w0 r Nn) (hT : GoodIn lw_tbl (wsV R_law index C y (wG y bytes maxL ret))) (hd : y.cls = C ∧ y.cls ≠ "java/lang/invoke/MethodHandle" ∧ y.cls ≠ "java/lang/invoke/VarHandle" ∧ (parseMethodDescriptor y.desc).map (fun d => d.parameters.length) = some n) (hP : va_P D vwCl (B0 ++ w0) H) (hD : va_D (fun q : Nat => s.heap.size ≤ q) (B0 ++ w0)) (hS : va_S (fun q : Nat => s.heap.size ≤ q) s.heap H locs) (hrec : (a, .inr (ci, fs)) ∈ w0) (hcl : vwCl[ci]? = some q) (hqC : q.1 = C) (hn : As.length = n) (hsz : ls.size = 4) (hrest : (rest.map fun v => v.category).sum ≤ 8) (hdg : decode code pc = .ok (.invokevirtual index, 3)) (hf : cells + 24 ≤ 600000 ∧ slots + 870 ≤ 7302250)
    (kk : ∀ (w1 : va_W) (H1 : Heap) (locs1 : List Loc), Nn w1 → va_P D vwCl (B0 ++ w1) H1 → va_D (fun q : Nat => s.heap.size ≤ q) (B0 ++ w1) → va_S (fun q : Nat => s.heap.size ≤ q) s.heap H1 locs1 → W p l e room_1 s m #[Value.ref b] below meth c H1 locs1 (cells + 24) (slots + 870) Q (F0 m (pc + 3) ls (.int r :: rest))) : W p l e room_1 s m #[Value.ref b] below meth c H locs cells slots Q (F0 m pc ls (As.reverse ++ .ref a :: rest)) := by
  obtain ⟨hx, hb, hr, hml, hown, hts, hX, hbl, hlocks, hgv⟩ := C0
  have hA : (∀ q : Nat, s.heap.size ≤ q → (fun q : Nat => s.heap.size ≤ q) q) ∧ ∀ q : Nat, (fun q : Nat => s.heap.size ≤ q) q → G.1 ≤ q := ⟨fun _ h => h, fun _ h => Nat.le_trans hG h⟩
  obtain ⟨tys, B, u0, rm, h1, h2, h3, h4, h5⟩ := hst
  have hp : (B0 ++ w0).Perm ((B0 ++ B) ++ u0) := by
    rw [List.append_assoc]
    exact h2.append_left B0
  have hP1 := jP_perm hp hP
  have hD1 := jD_perm hp hD
  obtain ⟨qr, hqr⟩ := List.mem_iff_getElem?.mp (hp.mem_iff.mp (List.mem_append_right B0 hrec))
  rcases h5 with ⟨u1, g1, g2, g3, g4⟩ | ⟨u1, mc, ms, g1, g2, g3, g4, g5, g6⟩
  · refine jcB_i (R := room_1) ⟨hx, hb, hml, hown, hts⟩ (h1 s hK) hN hA g3 (cwV n hts hT rfl g1 g2 hd ⟨h3, h4⟩) hP1 hD1 hS hcl qr hqr hqC hn hsz rfl hrest hdg ⟨Nat.le_trans (Nat.le_add_right _ 24) hf.1, Nat.le_trans (Nat.le_add_right _ 870) hf.2⟩ (fun H1 locs1 k1 k2 k3 => ?_)
    rw [List.append_assoc] at k1 k2
    exact W.widen (Nat.le_add_right _ _) (Nat.le_add_right _ _) (kk _ H1 locs1 g4 k1 k2 k3)
  · refine jcB_q (R := room_1) ⟨hx, hb, hml, hown, hts⟩ (h1 s hK) hN hA g5 (cwV n hts hT rfl g1 g2 hd ⟨h3, h4⟩) hP1 hD1 hS hcl qr hqr hqC hn hsz rfl hrest hdg ⟨Nat.le_trans (Nat.add_le_add_left g3 _) hf.1, Nat.le_trans (Nat.add_le_add_left g4 _) hf.2⟩ (fun qs H1 locs1 k1 k2 k3 => ?_)
    rw [List.append_assoc] at k1 k2
    exact W.widen (Nat.add_le_add_left g3 _) (Nat.add_le_add_left g4 _) (kk _ H1 locs1 (g6 qs) k1 k2 k3)
def jK (p : Program) (l : Launch) (e : Env) (s : State) (m : MethodId) (below : List Frame) (meth : Method) (c : Code) (b : Nat) (Q : State → Prop) (D : va_G) (cI cB cZ cS cC cJ : ClassId) (h : Nat → Nat) (rf : Nat) (aX : Nat → Nat) (ls : Array Slot) (cells slots pc : Nat) : Prop :=
  ∀ (H : Heap) (locs : List Loc) (v : Value) (I : Nat → Option zIm) (Cn : Nat → Option zCn) (X : Nat → Int32) (Y : Nat → Nat → Int32) (N : Nat → Int32) (w0 : Int64) (T : Nat → Nat → Int32), va_P D vwCl (wRf cI cB cZ rf aX N w0 T ++ wAl cI cB cZ cS cC cJ h v I Cn X Y) H → va_D (fun q : Nat => s.heap.size ≤ q) (wRf cI cB cZ rf aX N w0 T ++ wAl cI cB cZ cS cC cJ h v I Cn X Y) → va_S (fun q : Nat => s.heap.size ≤ q) s.heap H locs → qAll I Cn X Y T → W p l e room_1 s m #[Value.ref b] below meth c H locs cells slots Q (F0 m pc ls [])
theorem lw_body {h : Nat → Nat} {aX : Nat → Nat} {v : Value} {I : Nat → Option zIm} {Cn : Nat → Option zCn} {X : Nat → Int32} {Y : Nat → Nat → Int32} {N : Nat → Int32} {w0 : Int64} {T : Nat → Nat → Int32} {H : Heap} {locs : List Loc} {cells slots pc p1 p2 i1 i2 n : Nat} {off : Int} {y1 y2 : MethodName} {b1 b2 : ByteArray} {m1 m2 : Nat} {t1 t2 : Option FieldType} {As : List Value} (C0 : lw_At p s m meth c b L xs) (hK : va_K D vwCl (jTx cI cB cZ cS cC cJ) s) (hN : jN G s) (hG : G.1 ≤ s.heap.size) (hl : lv_has ls 4 [(0, .ref b), (1, .ref (h 0)), (2, .ref rf), (3, .int (nI i))]) (hP : va_P D vwCl (wRf cI cB cZ rf aX N w0 T ++ wAl cI cB cZ cS cC cJ h v I Cn X Y) H) (hD : va_D (fun q : Nat => s.heap.size ≤ q) (wRf cI cB cZ rf aX N w0 T ++ wAl cI cB cZ cS cC cJ h v I Cn X Y)) (hS : va_S (fun q : Nat => s.heap.size ≤ q) s.heap H locs) (hg : jGen l G D cI cB cZ cS cC cJ y1 b1 m1 t1 y2 b2 m2 t2 As h rf aX v I Cn X Y N w0 T)
    (k1 : GoodIn lw_tbl (wsV R_law i1 RX11 y1 (wG y1 b1 m1 t1))) (k2 : GoodIn lw_tbl (wsV R_law i2 RX12 y2 (wG y2 b2 m2 t2))) (h1 : y1.cls = RX11 ∧ y1.cls ≠ "java/lang/invoke/MethodHandle" ∧ y1.cls ≠ "java/lang/invoke/VarHandle" ∧ (parseMethodDescriptor y1.desc).map (fun d => d.parameters.length) = some n) (h2 : y2.cls = RX12 ∧ y2.cls ≠ "java/lang/invoke/MethodHandle" ∧ y2.cls ≠ "java/lang/invoke/VarHandle" ∧ (parseMethodDescriptor y2.desc).map (fun d => d.parameters.length) = some n) (hn : As.length = n)
    (d1 : decode code pc = .ok (.aload_n 1, 1)) (d2 : decode code p1 = .ok (.invokevirtual i1, 3)) (d3 : decode code (p1 + 3) = .ok (.aload_n 2, 1)) (d4 : decode code p2 = .ok (.invokevirtual i2, 3)) (d5 : decode code (p2 + 3) = .ok (.if_icmp .eq off, 3)) (d6 : ((p2 + 3 : Nat) : Int) + off = ((1203 : Nat) : Int))
    (q1 : ∀ (H : Heap) (locs : List Loc) (cells slots : Nat) (st : List Value), va_S (fun q : Nat => s.heap.size ≤ q) s.heap H locs → W p l e room_1 s m #[Value.ref b] below meth c H locs cells slots Q (F0 m p1 ls (As.reverse ++ st)) → W p l e room_1 s m #[Value.ref b] below meth c H locs cells slots Q (F0 m (pc + 1) ls st))
    (q2 : ∀ (H : Heap) (locs : List Loc) (cells slots : Nat) (st : List Value), va_S (fun q : Nat => s.heap.size ≤ q) s.heap H locs → W p l e room_1 s m #[Value.ref b] below meth c H locs cells slots Q (F0 m p2 ls (As.reverse ++ st)) → W p l e room_1 s m #[Value.ref b] below meth c H locs cells slots Q (F0 m (p1 + 3 + 1) ls st))
    (hf : cells + 48 ≤ 600000 ∧ slots + 1740 ≤ 7302250) (kk : jK p l e s m below meth c b Q D cI cB cZ cS cC cJ h rf aX ls (cells + 48) (slots + 1740) 1203) : W p l e room_1 s m #[Value.ref b] below meth c H locs cells slots Q (F0 m pc ls []) := by
  obtain ⟨hx, hb, -⟩ := id C0
  obtain ⟨r, N', w', T', s1, s2⟩ := hg
  refine lv_aload_n hx hb d1 rfl (lv_at hl 1 rfl) ?_
  refine q1 _ _ _ _ _ hS ?_
  have hr1 : (h 0, .inr (10, oX11 (.ref (h 1)) (.ref (h 25)) (.ref (h 26)) (.ref (h 37)) (.ref (h 51)) (.ref (h 59)))) ∈ wAl cI cB cZ cS cC cJ h v I Cn X Y := List.mem_append_right _ (List.mem_append_right _ List.mem_cons_self)
  refine jcX C0 hK hN hG s1 k1 h1 hP hD hS hr1 (ci := 10) rfl rfl hn hl.1 (Nat.zero_le _) d2 ⟨by omega, by omega⟩ (fun u1 H1 locs1 g1 g2 g3 g4 => ?_)
  obtain ⟨v', I', Cn', X', Y', g5, g6⟩ := g1
  refine lv_aload_n hx hb d3 rfl (lv_at hl 2 rfl) ?_
  refine q2 _ _ _ _ _ g4 ?_
  have e1 : (wRf cI cB cZ rf aX N w0 T ++ u1).Perm (wAl cI cB cZ cS cC cJ h v' I' Cn' X' Y' ++ wRf cI cB cZ rf aX N w0 T) := (g5.append_left _).trans List.perm_append_comm
  have hr2 : ∃ fs, (rf, .inr (11, fs)) ∈ wRf cI cB cZ rf aX N w0 T := ⟨_, List.mem_cons_self⟩
  obtain ⟨fs, hr2⟩ := hr2
  refine jcX C0 hK hN hG s2 k2 h2 (jP_perm e1 g2) (jD_perm e1 g3) g4 hr2 (ci := 11) rfl rfl hn hl.1 (Nat.le_of_ble_eq_true rfl) d4 ⟨by omega, by omega⟩ (fun u2 H2 locs2 f1 f2 f3 f4 => ?_)
  refine lv_icmp_eq (tgt := 1203) hx hb d5 d6 (fun _ => ?_) (fun c1 => absurd rfl c1)
  have e2 : (wAl cI cB cZ cS cC cJ h v' I' Cn' X' Y' ++ u2).Perm (wRf cI cB cZ rf aX N' w' T' ++ wAl cI cB cZ cS cC cJ h v' I' Cn' X' Y') := (f1.append_left _).trans List.perm_append_comm
  exact kk H2 locs2 v' I' Cn' X' Y' N' w' T' (jP_perm e2 f2) (jD_perm e2 f3) f4 g6
theorem lw_bool {H : Heap} {locs : List Loc} {cells slots pc : Nat} {st : List Value} {z : Int32} {o1 o2 : Int} {t1 t2 : Nat} (C0 : lw_At p s m meth c b L xs) (d0 : decode code pc = .ok (.ifCond .eq o1, 3)) (ht1 : (pc : Int) + o1 = (t1 : Int)) (d1 : decode code (pc + 3) = .ok (.iconst 1, 1)) (d2 : decode code (pc + 3 + 1) = .ok (.goto o2, 3)) (ht2 : ((pc + 3 + 1 : Nat) : Int) + o2 = (t2 : Int)) (d3 : decode code t1 = .ok (.iconst 0, 1)) (ht3 : t1 + 1 = t2) (kk : W p l e room_1 s m #[Value.ref b] below meth c H locs cells slots Q (F0 m t2 ls (.int (if z = 0 then 0 else 1) :: st))) : W p l e room_1 s m #[Value.ref b] below meth c H locs cells slots Q (F0 m pc ls (.int z :: st)) := by
  obtain ⟨hx, hb, -⟩ := C0
  refine lv_if_eq (tgt := t1) hx hb d0 ht1 (fun h0 => ?_) (fun h0 => ?_)
  · refine lv_iconst (v := 0) hx hb d3 (by decide) ?_
    rw [ht3]
    rw [if_pos h0] at kk
    exact kk
  · refine lv_iconst (v := 1) hx hb d1 (by decide) ?_
    refine lv_goto (tgt := t2) hx hb d2 ht2 ?_
    rw [if_neg h0] at kk
    exact kk
end LAWB

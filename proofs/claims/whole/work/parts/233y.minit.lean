theorem k_ml_X12_1 : Cond.methodLink RX12 1 objectInit ∈ lw_tbl := tb_6 _ (List.mem_of_getElem? (i := 43) (by decide +kernel))
abbrev rX12_init : Room := { frames := 1, cells := 55, slots := 12860, locals := 20 }
abbrev gX12_init : List Cond := wG yX12_init cX12_init 1 none
/-- the cells of a new reference -/
def wM0 (cI cB cZ : ClassId) (a_t : Nat) (qs : Nat → Nat) : va_W := [(a_t, .inr (11, oX12 qs 0 0 0 0 0 0 0 0 0 0 0 0 0 0 0 0 0 0 0)), ((qs 1), .inl (cB, 1600, .inl (fun _ => 0))), ((qs 2), .inl (cI, 4, .inl (fun _ => 0))), ((qs 3), .inl (cI, 4, .inl (fun _ => 0))), ((qs 4), .inl (cI, 4, .inl (upd (fun _ => 0) 0 (-1)))), ((qs 5), .inl (cI, 4, .inl (fun _ => 0))), ((qs 6), .inl (cI, 32, .inl (fun _ => 0))), ((qs 7), .inl (cI, 32, .inl (fun _ => 0))), ((qs 8), .inl (cI, 4, .inl (fun _ => 0))), ((qs 9), .inl (cI, 64, .inl (fun _ => 0))), ((qs 10), .inl (cB, 1024, .inl (fun _ => 0))), ((qs 11), .inl (cI, 128, .inl (fun _ => 0))), ((qs 12), .inl (cI, 4, .inl (fun _ => 0))), ((qs 13), .inl (cI, 32, .inl (fun _ => 0))), ((qs 14), .inl (cI, 32, .inl (fun _ => 0))), ((qs 15), .inl (cB, 256, .inl (fun _ => 0))), ((qs 16), .inl (cI, 4, .inl (fun _ => 0))), ((qs 17), .inl (cI, 4, .inl (upd (fun _ => 0) 0 (-1)))), ((qs 18), .inl (cI, 4, .inl (fun _ => 0))), ((qs 19), .inl (cI, 96, .inl (fun _ => 0))), ((qs 20), .inl (cI, 96, .inl (fun _ => 0))), ((qs 21), .inl (cI, 96, .inl (fun _ => 0))), ((qs 22), .inl (cI, 96, .inl (fun _ => 0))), ((qs 23), .inl (cI, 4, .inl (fun _ => 0))), ((qs 24), .inl (cI, 96, .inl (fun _ => 0))), ((qs 25), .inl (cI, 96, .inl (fun _ => 0))), ((qs 26), .inl (cI, 96, .inl (fun _ => 0))), ((qs 27), .inl (cI, 4, .inl (fun _ => 0))), ((qs 28), .inl (cI, 240, .inl (fun _ => 0))), ((qs 29), .inl (cI, 240, .inl (fun _ => 0))), ((qs 30), .inl (cI, 240, .inl (fun _ => 0))), ((qs 32), .inl (cI, 8, .inl (fun _ => 0))), ((qs 33), .inl (cI, 8, .inl (fun _ => 0))), ((qs 34), .inl (cI, 8, .inl (fun _ => 0))), ((qs 35), .inl (cI, 8, .inl (fun _ => 0))), ((qs 47), .inl (cI, 8, .inl (fun _ => 0))), ((qs 48), .inl (cI, 8, .inl (fun _ => 0))), ((qs 50), .inl (cI, 17, .inl (fun _ => 0))), ((qs 51), .inl (cI, 34, .inl (fun _ => 0))), ((qs 52), .inl (cB, 272, .inl (fun _ => 0))), ((qs 53), .inl (cB, 400, .inl (fun _ => 0))), ((qs 55), .inl (cI, 502, .inl (fun _ => 0))), ((qs 56), .inl (cI, 1004, .inl (fun _ => 0))), ((qs 57), .inl (cI, 1004, .inl (fun _ => 0))), ((qs 58), .inl (cI, 1004, .inl (fun _ => 0))), ((qs 60), .inl (cI, 1004, .inl (fun _ => 0))), ((qs 61), .inl (cI, 1004, .inl (fun _ => 0))), ((qs 62), .inl (cI, 1004, .inl (fun _ => 0))), ((qs 64), .inl (cI, 600, .inl (fun _ => 0))), ((qs 67), .inl (cI, 72, .inl (fun _ => 0))), ((qs 68), .inl (cI, 72, .inl (fun _ => 0))), ((qs 69), .inl (cI, 72, .inl (fun _ => 0))), ((qs 70), .inl (cI, 24, .inl (fun _ => 0))), ((qs 71), .inl (cI, 24, .inl (fun _ => 0))), ((qs 72), .inl (cZ, 60, .inl (fun _ => 0))), ((qs 73), .inl (cZ, 3, .inl (fun _ => 0)))]
set_option maxHeartbeats 8000000 in
set_option maxRecDepth 100000 in
theorem c_X12_init (l : Launch) (G : jGt) (D : va_G) (cI cB cZ : ClassId) (a_t : Nat) : jMk l yX12_init gX12_init rX12_init G D (jT cI cB cZ) [.ref a_t] [(a_t, .inr (11, [.int 0, .null, .null, .null, .null, .null, .null, .null, .null, .null, .null, .null, .null, .null, .null, .null, .null, .null, .null, .null, .null, .null, .null, .null, .null, .null, .null, .null, .null, .null, .null, .int 0, .null, .null, .null, .null, .int 0, .int 0, .int 0, .int 0, .int 0, .int 0, .long 0, .int 0, .int 0, .int 0, .int 0, .null, .null, .int 0, .null, .null, .null, .null, .int 0, .null, .null, .null, .null, .int 0, .null, .null, .null, .int 0, .null, .int 0, .int 0, .null, .null, .null, .null, .null, .null, .null]))] (fun qs => wM0 cI cB cZ a_t qs) 55 12860 := by
  refine jmk_k RX12 rfl rfl (by decide +kernel) rfl (Nat.le_of_ble_eq_true rfl) ?_
  intro p e s m args below meth c ls A Q hin C hP hD hS hl K
  obtain ⟨⟨hx, hb, hml, hown, hts⟩, hK, hN, hA⟩ := C
  have hl : lv_has ls 1 [(0, .ref a_t)] := hl
  refine lv_aload_n hx hb dX12_init_0 rfl (lv_at hl 0 rfl) ?_
  refine W.objInit hx hb hown (hts _ (wG_in k_ml_X12_1 rfl)) (hts _ (wG_in k_im_obj rfl)) (hts _ (wG_in k_co_obj rfl)) rfl (by rw [hml]; exact hl.1) rfl dX12_init_1 (Nat.le_of_ble_eq_true rfl) (Nat.le_of_ble_eq_true rfl) ?_
  refine W.eq (g2 := F0 m 4 ls []) rfl ?_
  have e0 : ([.int 0, .null, .null, .null, .null, .null, .null, .null, .null, .null, .null, .null, .null, .null, .null, .null, .null, .null, .null, .null, .null, .null, .null, .null, .null, .null, .null, .null, .null, .null, .null, .int 0, .null, .null, .null, .null, .int 0, .int 0, .int 0, .int 0, .int 0, .int 0, .long 0, .int 0, .int 0, .int 0, .int 0, .null, .null, .int 0, .null, .null, .null, .null, .int 0, .null, .null, .null, .null, .int 0, .null, .null, .null, .int 0, .null, .int 0, .int 0, .null, .null, .null, .null, .null, .null, .null] : List Value).length = 74 := rfl
  generalize hf0 : ([.int 0, .null, .null, .null, .null, .null, .null, .null, .null, .null, .null, .null, .null, .null, .null, .null, .null, .null, .null, .null, .null, .null, .null, .null, .null, .null, .null, .null, .null, .null, .null, .int 0, .null, .null, .null, .null, .int 0, .int 0, .int 0, .int 0, .int 0, .int 0, .long 0, .int 0, .int 0, .int 0, .int 0, .null, .null, .int 0, .null, .null, .null, .null, .int 0, .null, .null, .null, .null, .int 0, .null, .null, .null, .int 0, .null, .int 0, .int 0, .null, .null, .null, .null, .null, .null, .null] : List Value) = fs0 at hP hD e0
  generalize hr0 : ([] : va_W) = r0 at hP hD
  refine lv_aload_n hx hb dX12_init_4 rfl (lv_at hl 0 rfl) ?_
  refine lv_sipush (v := 1600) hx hb dX12_init_5 (by decide) ?_
  refine jmkf_b (C := RX12) (T := TX12) (N0 := 74) (ci := 11) (k := 1) (ty0 := tyX12) (N := 1600) hx hb hts iw_X12 tyX12_ok nmX12 hown hin (hts _ (wG_in k_ac_B rfl)) hK hP hD hS hA.1 rfl (by decide) (hts _ (wG_in k_fl_X12_7 rfl)) (fun _ h9 => h9) rfl rfl (tyX12_ok 1 (by decide)) (by rw [e0]; decide) (by decide) (by decide) (by decide) (Nat.le_of_ble_eq_true rfl) (Nat.le_of_ble_eq_true rfl) dX12_init_8 dX12_init_10 (fun n1 H locs fs1 r1 hf1 hr1 e1 hP hD hS => ?_)
  rw [e0] at e1
  refine lv_aload_n hx hb dX12_init_13 rfl (lv_at hl 0 rfl) ?_
  refine lv_iconst (v := 4) hx hb dX12_init_14 (by decide) ?_
  refine jmkf_i (C := RX12) (T := TX12) (N0 := 74) (ci := 11) (k := 2) (ty0 := tyX12) (N := 4) hx hb hts iw_X12 tyX12_ok nmX12 hown hin (hts _ (wG_in k_ac_I rfl)) hK hP hD hS hA.1 rfl (by decide) (hts _ (wG_in k_fl_X12_13 rfl)) (fun _ h9 => h9) rfl rfl (tyX12_ok 2 (by decide)) (by rw [e1]; decide) (by decide) (by decide) (by decide) (Nat.le_of_ble_eq_true rfl) (Nat.le_of_ble_eq_true rfl) dX12_init_15 dX12_init_17 (fun n2 H locs fs2 r2 hf2 hr2 e2 hP hD hS => ?_)
  rw [e1] at e2
  refine lv_aload_n hx hb dX12_init_20 rfl (lv_at hl 0 rfl) ?_
  refine lv_iconst (v := 4) hx hb dX12_init_21 (by decide) ?_
  refine jmkf_i (C := RX12) (T := TX12) (N0 := 74) (ci := 11) (k := 3) (ty0 := tyX12) (N := 4) hx hb hts iw_X12 tyX12_ok nmX12 hown hin (hts _ (wG_in k_ac_I rfl)) hK hP hD hS hA.1 rfl (by decide) (hts _ (wG_in k_fl_X12_17 rfl)) (fun _ h9 => h9) rfl rfl (tyX12_ok 3 (by decide)) (by rw [e2]; decide) (by decide) (by decide) (by decide) (Nat.le_of_ble_eq_true rfl) (Nat.le_of_ble_eq_true rfl) dX12_init_22 dX12_init_24 (fun n3 H locs fs3 r3 hf3 hr3 e3 hP hD hS => ?_)
  rw [e2] at e3
  refine lv_aload_n hx hb dX12_init_27 rfl (lv_at hl 0 rfl) ?_
  refine lv_iconst (v := 4) hx hb dX12_init_28 (by decide) ?_
  refine jmkf_i (C := RX12) (T := TX12) (N0 := 74) (ci := 11) (k := 4) (ty0 := tyX12) (N := 4) hx hb hts iw_X12 tyX12_ok nmX12 hown hin (hts _ (wG_in k_ac_I rfl)) hK hP hD hS hA.1 rfl (by decide) (hts _ (wG_in k_fl_X12_20 rfl)) (fun _ h9 => h9) rfl rfl (tyX12_ok 4 (by decide)) (by rw [e3]; decide) (by decide) (by decide) (by decide) (Nat.le_of_ble_eq_true rfl) (Nat.le_of_ble_eq_true rfl) dX12_init_29 dX12_init_31 (fun n4 H locs fs4 r4 hf4 hr4 e4 hP hD hS => ?_)
  rw [e3] at e4
  refine lv_aload_n hx hb dX12_init_34 rfl (lv_at hl 0 rfl) ?_
  refine lv_iconst (v := 4) hx hb dX12_init_35 (by decide) ?_
  refine jmkf_i (C := RX12) (T := TX12) (N0 := 74) (ci := 11) (k := 5) (ty0 := tyX12) (N := 4) hx hb hts iw_X12 tyX12_ok nmX12 hown hin (hts _ (wG_in k_ac_I rfl)) hK hP hD hS hA.1 rfl (by decide) (hts _ (wG_in k_fl_X12_23 rfl)) (fun _ h9 => h9) rfl rfl (tyX12_ok 5 (by decide)) (by rw [e4]; decide) (by decide) (by decide) (by decide) (Nat.le_of_ble_eq_true rfl) (Nat.le_of_ble_eq_true rfl) dX12_init_36 dX12_init_38 (fun n5 H locs fs5 r5 hf5 hr5 e5 hP hD hS => ?_)
  rw [e4] at e5
  refine lv_aload_n hx hb dX12_init_41 rfl (lv_at hl 0 rfl) ?_
  refine lv_bipush (v := 32) hx hb dX12_init_42 (by decide) ?_
  refine jmkf_i (C := RX12) (T := TX12) (N0 := 74) (ci := 11) (k := 6) (ty0 := tyX12) (N := 32) hx hb hts iw_X12 tyX12_ok nmX12 hown hin (hts _ (wG_in k_ac_I rfl)) hK hP hD hS hA.1 rfl (by decide) (hts _ (wG_in k_fl_X12_26 rfl)) (fun _ h9 => h9) rfl rfl (tyX12_ok 6 (by decide)) (by rw [e5]; decide) (by decide) (by decide) (by decide) (Nat.le_of_ble_eq_true rfl) (Nat.le_of_ble_eq_true rfl) dX12_init_44 dX12_init_46 (fun n6 H locs fs6 r6 hf6 hr6 e6 hP hD hS => ?_)
  rw [e5] at e6
  refine lv_aload_n hx hb dX12_init_49 rfl (lv_at hl 0 rfl) ?_
  refine lv_bipush (v := 32) hx hb dX12_init_50 (by decide) ?_
  refine jmkf_i (C := RX12) (T := TX12) (N0 := 74) (ci := 11) (k := 7) (ty0 := tyX12) (N := 32) hx hb hts iw_X12 tyX12_ok nmX12 hown hin (hts _ (wG_in k_ac_I rfl)) hK hP hD hS hA.1 rfl (by decide) (hts _ (wG_in k_fl_X12_29 rfl)) (fun _ h9 => h9) rfl rfl (tyX12_ok 7 (by decide)) (by rw [e6]; decide) (by decide) (by decide) (by decide) (Nat.le_of_ble_eq_true rfl) (Nat.le_of_ble_eq_true rfl) dX12_init_52 dX12_init_54 (fun n7 H locs fs7 r7 hf7 hr7 e7 hP hD hS => ?_)
  rw [e6] at e7
  refine lv_aload_n hx hb dX12_init_57 rfl (lv_at hl 0 rfl) ?_
  refine lv_iconst (v := 4) hx hb dX12_init_58 (by decide) ?_
  refine jmkf_i (C := RX12) (T := TX12) (N0 := 74) (ci := 11) (k := 8) (ty0 := tyX12) (N := 4) hx hb hts iw_X12 tyX12_ok nmX12 hown hin (hts _ (wG_in k_ac_I rfl)) hK hP hD hS hA.1 rfl (by decide) (hts _ (wG_in k_fl_X12_32 rfl)) (fun _ h9 => h9) rfl rfl (tyX12_ok 8 (by decide)) (by rw [e7]; decide) (by decide) (by decide) (by decide) (Nat.le_of_ble_eq_true rfl) (Nat.le_of_ble_eq_true rfl) dX12_init_59 dX12_init_61 (fun n8 H locs fs8 r8 hf8 hr8 e8 hP hD hS => ?_)
  rw [e7] at e8
  refine lv_aload_n hx hb dX12_init_64 rfl (lv_at hl 0 rfl) ?_
  refine lv_bipush (v := 64) hx hb dX12_init_65 (by decide) ?_
  refine jmkf_i (C := RX12) (T := TX12) (N0 := 74) (ci := 11) (k := 9) (ty0 := tyX12) (N := 64) hx hb hts iw_X12 tyX12_ok nmX12 hown hin (hts _ (wG_in k_ac_I rfl)) hK hP hD hS hA.1 rfl (by decide) (hts _ (wG_in k_fl_X12_35 rfl)) (fun _ h9 => h9) rfl rfl (tyX12_ok 9 (by decide)) (by rw [e8]; decide) (by decide) (by decide) (by decide) (Nat.le_of_ble_eq_true rfl) (Nat.le_of_ble_eq_true rfl) dX12_init_67 dX12_init_69 (fun n9 H locs fs9 r9 hf9 hr9 e9 hP hD hS => ?_)
  rw [e8] at e9
  refine lv_aload_n hx hb dX12_init_72 rfl (lv_at hl 0 rfl) ?_
  refine lv_sipush (v := 1024) hx hb dX12_init_73 (by decide) ?_
  refine jmkf_b (C := RX12) (T := TX12) (N0 := 74) (ci := 11) (k := 10) (ty0 := tyX12) (N := 1024) hx hb hts iw_X12 tyX12_ok nmX12 hown hin (hts _ (wG_in k_ac_B rfl)) hK hP hD hS hA.1 rfl (by decide) (hts _ (wG_in k_fl_X12_38 rfl)) (fun _ h9 => h9) rfl rfl (tyX12_ok 10 (by decide)) (by rw [e9]; decide) (by decide) (by decide) (by decide) (Nat.le_of_ble_eq_true rfl) (Nat.le_of_ble_eq_true rfl) dX12_init_76 dX12_init_78 (fun n10 H locs fs10 r10 hf10 hr10 e10 hP hD hS => ?_)
  rw [e9] at e10
  refine lv_aload_n hx hb dX12_init_81 rfl (lv_at hl 0 rfl) ?_
  refine lv_sipush (v := 128) hx hb dX12_init_82 (by decide) ?_
  refine jmkf_i (C := RX12) (T := TX12) (N0 := 74) (ci := 11) (k := 11) (ty0 := tyX12) (N := 128) hx hb hts iw_X12 tyX12_ok nmX12 hown hin (hts _ (wG_in k_ac_I rfl)) hK hP hD hS hA.1 rfl (by decide) (hts _ (wG_in k_fl_X12_41 rfl)) (fun _ h9 => h9) rfl rfl (tyX12_ok 11 (by decide)) (by rw [e10]; decide) (by decide) (by decide) (by decide) (Nat.le_of_ble_eq_true rfl) (Nat.le_of_ble_eq_true rfl) dX12_init_85 dX12_init_87 (fun n11 H locs fs11 r11 hf11 hr11 e11 hP hD hS => ?_)
  rw [e10] at e11
  refine lv_aload_n hx hb dX12_init_90 rfl (lv_at hl 0 rfl) ?_
  refine lv_iconst (v := 4) hx hb dX12_init_91 (by decide) ?_
  refine jmkf_i (C := RX12) (T := TX12) (N0 := 74) (ci := 11) (k := 12) (ty0 := tyX12) (N := 4) hx hb hts iw_X12 tyX12_ok nmX12 hown hin (hts _ (wG_in k_ac_I rfl)) hK hP hD hS hA.1 rfl (by decide) (hts _ (wG_in k_fl_X12_44 rfl)) (fun _ h9 => h9) rfl rfl (tyX12_ok 12 (by decide)) (by rw [e11]; decide) (by decide) (by decide) (by decide) (Nat.le_of_ble_eq_true rfl) (Nat.le_of_ble_eq_true rfl) dX12_init_92 dX12_init_94 (fun n12 H locs fs12 r12 hf12 hr12 e12 hP hD hS => ?_)
  rw [e11] at e12
  refine lv_aload_n hx hb dX12_init_97 rfl (lv_at hl 0 rfl) ?_
  refine lv_bipush (v := 32) hx hb dX12_init_98 (by decide) ?_
  refine jmkf_i (C := RX12) (T := TX12) (N0 := 74) (ci := 11) (k := 13) (ty0 := tyX12) (N := 32) hx hb hts iw_X12 tyX12_ok nmX12 hown hin (hts _ (wG_in k_ac_I rfl)) hK hP hD hS hA.1 rfl (by decide) (hts _ (wG_in k_fl_X12_47 rfl)) (fun _ h9 => h9) rfl rfl (tyX12_ok 13 (by decide)) (by rw [e12]; decide) (by decide) (by decide) (by decide) (Nat.le_of_ble_eq_true rfl) (Nat.le_of_ble_eq_true rfl) dX12_init_100 dX12_init_102 (fun n13 H locs fs13 r13 hf13 hr13 e13 hP hD hS => ?_)
  rw [e12] at e13
  refine lv_aload_n hx hb dX12_init_105 rfl (lv_at hl 0 rfl) ?_
  refine lv_bipush (v := 32) hx hb dX12_init_106 (by decide) ?_
  refine jmkf_i (C := RX12) (T := TX12) (N0 := 74) (ci := 11) (k := 14) (ty0 := tyX12) (N := 32) hx hb hts iw_X12 tyX12_ok nmX12 hown hin (hts _ (wG_in k_ac_I rfl)) hK hP hD hS hA.1 rfl (by decide) (hts _ (wG_in k_fl_X12_50 rfl)) (fun _ h9 => h9) rfl rfl (tyX12_ok 14 (by decide)) (by rw [e13]; decide) (by decide) (by decide) (by decide) (Nat.le_of_ble_eq_true rfl) (Nat.le_of_ble_eq_true rfl) dX12_init_108 dX12_init_110 (fun n14 H locs fs14 r14 hf14 hr14 e14 hP hD hS => ?_)
  rw [e13] at e14
  refine lv_aload_n hx hb dX12_init_113 rfl (lv_at hl 0 rfl) ?_
  refine lv_sipush (v := 256) hx hb dX12_init_114 (by decide) ?_
  refine jmkf_b (C := RX12) (T := TX12) (N0 := 74) (ci := 11) (k := 15) (ty0 := tyX12) (N := 256) hx hb hts iw_X12 tyX12_ok nmX12 hown hin (hts _ (wG_in k_ac_B rfl)) hK hP hD hS hA.1 rfl (by decide) (hts _ (wG_in k_fl_X12_53 rfl)) (fun _ h9 => h9) rfl rfl (tyX12_ok 15 (by decide)) (by rw [e14]; decide) (by decide) (by decide) (by decide) (Nat.le_of_ble_eq_true rfl) (Nat.le_of_ble_eq_true rfl) dX12_init_117 dX12_init_119 (fun n15 H locs fs15 r15 hf15 hr15 e15 hP hD hS => ?_)
  rw [e14] at e15
  refine lv_aload_n hx hb dX12_init_122 rfl (lv_at hl 0 rfl) ?_
  refine lv_iconst (v := 4) hx hb dX12_init_123 (by decide) ?_
  refine jmkf_i (C := RX12) (T := TX12) (N0 := 74) (ci := 11) (k := 16) (ty0 := tyX12) (N := 4) hx hb hts iw_X12 tyX12_ok nmX12 hown hin (hts _ (wG_in k_ac_I rfl)) hK hP hD hS hA.1 rfl (by decide) (hts _ (wG_in k_fl_X12_56 rfl)) (fun _ h9 => h9) rfl rfl (tyX12_ok 16 (by decide)) (by rw [e15]; decide) (by decide) (by decide) (by decide) (Nat.le_of_ble_eq_true rfl) (Nat.le_of_ble_eq_true rfl) dX12_init_124 dX12_init_126 (fun n16 H locs fs16 r16 hf16 hr16 e16 hP hD hS => ?_)
  rw [e15] at e16
  refine lv_aload_n hx hb dX12_init_129 rfl (lv_at hl 0 rfl) ?_
  refine lv_iconst (v := 4) hx hb dX12_init_130 (by decide) ?_
  refine jmkf_i (C := RX12) (T := TX12) (N0 := 74) (ci := 11) (k := 17) (ty0 := tyX12) (N := 4) hx hb hts iw_X12 tyX12_ok nmX12 hown hin (hts _ (wG_in k_ac_I rfl)) hK hP hD hS hA.1 rfl (by decide) (hts _ (wG_in k_fl_X12_59 rfl)) (fun _ h9 => h9) rfl rfl (tyX12_ok 17 (by decide)) (by rw [e16]; decide) (by decide) (by decide) (by decide) (Nat.le_of_ble_eq_true rfl) (Nat.le_of_ble_eq_true rfl) dX12_init_131 dX12_init_133 (fun n17 H locs fs17 r17 hf17 hr17 e17 hP hD hS => ?_)
  rw [e16] at e17
  refine lv_aload_n hx hb dX12_init_136 rfl (lv_at hl 0 rfl) ?_
  refine lv_iconst (v := 4) hx hb dX12_init_137 (by decide) ?_
  refine jmkf_i (C := RX12) (T := TX12) (N0 := 74) (ci := 11) (k := 18) (ty0 := tyX12) (N := 4) hx hb hts iw_X12 tyX12_ok nmX12 hown hin (hts _ (wG_in k_ac_I rfl)) hK hP hD hS hA.1 rfl (by decide) (hts _ (wG_in k_fl_X12_62 rfl)) (fun _ h9 => h9) rfl rfl (tyX12_ok 18 (by decide)) (by rw [e17]; decide) (by decide) (by decide) (by decide) (Nat.le_of_ble_eq_true rfl) (Nat.le_of_ble_eq_true rfl) dX12_init_138 dX12_init_140 (fun n18 H locs fs18 r18 hf18 hr18 e18 hP hD hS => ?_)
  rw [e17] at e18
  refine lv_aload_n hx hb dX12_init_143 rfl (lv_at hl 0 rfl) ?_
  refine lv_bipush (v := 96) hx hb dX12_init_144 (by decide) ?_
  refine jmkf_i (C := RX12) (T := TX12) (N0 := 74) (ci := 11) (k := 19) (ty0 := tyX12) (N := 96) hx hb hts iw_X12 tyX12_ok nmX12 hown hin (hts _ (wG_in k_ac_I rfl)) hK hP hD hS hA.1 rfl (by decide) (hts _ (wG_in k_fl_X12_65 rfl)) (fun _ h9 => h9) rfl rfl (tyX12_ok 19 (by decide)) (by rw [e18]; decide) (by decide) (by decide) (by decide) (Nat.le_of_ble_eq_true rfl) (Nat.le_of_ble_eq_true rfl) dX12_init_146 dX12_init_148 (fun n19 H locs fs19 r19 hf19 hr19 e19 hP hD hS => ?_)
  rw [e18] at e19
  refine lv_aload_n hx hb dX12_init_151 rfl (lv_at hl 0 rfl) ?_
  refine lv_bipush (v := 96) hx hb dX12_init_152 (by decide) ?_
  refine jmkf_i (C := RX12) (T := TX12) (N0 := 74) (ci := 11) (k := 20) (ty0 := tyX12) (N := 96) hx hb hts iw_X12 tyX12_ok nmX12 hown hin (hts _ (wG_in k_ac_I rfl)) hK hP hD hS hA.1 rfl (by decide) (hts _ (wG_in k_fl_X12_68 rfl)) (fun _ h9 => h9) rfl rfl (tyX12_ok 20 (by decide)) (by rw [e19]; decide) (by decide) (by decide) (by decide) (Nat.le_of_ble_eq_true rfl) (Nat.le_of_ble_eq_true rfl) dX12_init_154 dX12_init_156 (fun n20 H locs fs20 r20 hf20 hr20 e20 hP hD hS => ?_)
  rw [e19] at e20
  refine lv_aload_n hx hb dX12_init_159 rfl (lv_at hl 0 rfl) ?_
  refine lv_bipush (v := 96) hx hb dX12_init_160 (by decide) ?_
  refine jmkf_i (C := RX12) (T := TX12) (N0 := 74) (ci := 11) (k := 21) (ty0 := tyX12) (N := 96) hx hb hts iw_X12 tyX12_ok nmX12 hown hin (hts _ (wG_in k_ac_I rfl)) hK hP hD hS hA.1 rfl (by decide) (hts _ (wG_in k_fl_X12_71 rfl)) (fun _ h9 => h9) rfl rfl (tyX12_ok 21 (by decide)) (by rw [e20]; decide) (by decide) (by decide) (by decide) (Nat.le_of_ble_eq_true rfl) (Nat.le_of_ble_eq_true rfl) dX12_init_162 dX12_init_164 (fun n21 H locs fs21 r21 hf21 hr21 e21 hP hD hS => ?_)
  rw [e20] at e21
  refine lv_aload_n hx hb dX12_init_167 rfl (lv_at hl 0 rfl) ?_
  refine lv_bipush (v := 96) hx hb dX12_init_168 (by decide) ?_
  refine jmkf_i (C := RX12) (T := TX12) (N0 := 74) (ci := 11) (k := 22) (ty0 := tyX12) (N := 96) hx hb hts iw_X12 tyX12_ok nmX12 hown hin (hts _ (wG_in k_ac_I rfl)) hK hP hD hS hA.1 rfl (by decide) (hts _ (wG_in k_fl_X12_74 rfl)) (fun _ h9 => h9) rfl rfl (tyX12_ok 22 (by decide)) (by rw [e21]; decide) (by decide) (by decide) (by decide) (Nat.le_of_ble_eq_true rfl) (Nat.le_of_ble_eq_true rfl) dX12_init_170 dX12_init_172 (fun n22 H locs fs22 r22 hf22 hr22 e22 hP hD hS => ?_)
  rw [e21] at e22
  refine lv_aload_n hx hb dX12_init_175 rfl (lv_at hl 0 rfl) ?_
  refine lv_iconst (v := 4) hx hb dX12_init_176 (by decide) ?_
  refine jmkf_i (C := RX12) (T := TX12) (N0 := 74) (ci := 11) (k := 23) (ty0 := tyX12) (N := 4) hx hb hts iw_X12 tyX12_ok nmX12 hown hin (hts _ (wG_in k_ac_I rfl)) hK hP hD hS hA.1 rfl (by decide) (hts _ (wG_in k_fl_X12_77 rfl)) (fun _ h9 => h9) rfl rfl (tyX12_ok 23 (by decide)) (by rw [e22]; decide) (by decide) (by decide) (by decide) (Nat.le_of_ble_eq_true rfl) (Nat.le_of_ble_eq_true rfl) dX12_init_177 dX12_init_179 (fun n23 H locs fs23 r23 hf23 hr23 e23 hP hD hS => ?_)
  rw [e22] at e23
  refine lv_aload_n hx hb dX12_init_182 rfl (lv_at hl 0 rfl) ?_
  refine lv_bipush (v := 96) hx hb dX12_init_183 (by decide) ?_
  refine jmkf_i (C := RX12) (T := TX12) (N0 := 74) (ci := 11) (k := 24) (ty0 := tyX12) (N := 96) hx hb hts iw_X12 tyX12_ok nmX12 hown hin (hts _ (wG_in k_ac_I rfl)) hK hP hD hS hA.1 rfl (by decide) (hts _ (wG_in k_fl_X12_80 rfl)) (fun _ h9 => h9) rfl rfl (tyX12_ok 24 (by decide)) (by rw [e23]; decide) (by decide) (by decide) (by decide) (Nat.le_of_ble_eq_true rfl) (Nat.le_of_ble_eq_true rfl) dX12_init_185 dX12_init_187 (fun n24 H locs fs24 r24 hf24 hr24 e24 hP hD hS => ?_)
  rw [e23] at e24
  refine lv_aload_n hx hb dX12_init_190 rfl (lv_at hl 0 rfl) ?_
  refine lv_bipush (v := 96) hx hb dX12_init_191 (by decide) ?_
  refine jmkf_i (C := RX12) (T := TX12) (N0 := 74) (ci := 11) (k := 25) (ty0 := tyX12) (N := 96) hx hb hts iw_X12 tyX12_ok nmX12 hown hin (hts _ (wG_in k_ac_I rfl)) hK hP hD hS hA.1 rfl (by decide) (hts _ (wG_in k_fl_X12_83 rfl)) (fun _ h9 => h9) rfl rfl (tyX12_ok 25 (by decide)) (by rw [e24]; decide) (by decide) (by decide) (by decide) (Nat.le_of_ble_eq_true rfl) (Nat.le_of_ble_eq_true rfl) dX12_init_193 dX12_init_195 (fun n25 H locs fs25 r25 hf25 hr25 e25 hP hD hS => ?_)
  rw [e24] at e25
  refine lv_aload_n hx hb dX12_init_198 rfl (lv_at hl 0 rfl) ?_
  refine lv_bipush (v := 96) hx hb dX12_init_199 (by decide) ?_
  refine jmkf_i (C := RX12) (T := TX12) (N0 := 74) (ci := 11) (k := 26) (ty0 := tyX12) (N := 96) hx hb hts iw_X12 tyX12_ok nmX12 hown hin (hts _ (wG_in k_ac_I rfl)) hK hP hD hS hA.1 rfl (by decide) (hts _ (wG_in k_fl_X12_86 rfl)) (fun _ h9 => h9) rfl rfl (tyX12_ok 26 (by decide)) (by rw [e25]; decide) (by decide) (by decide) (by decide) (Nat.le_of_ble_eq_true rfl) (Nat.le_of_ble_eq_true rfl) dX12_init_201 dX12_init_203 (fun n26 H locs fs26 r26 hf26 hr26 e26 hP hD hS => ?_)
  rw [e25] at e26
  refine lv_aload_n hx hb dX12_init_206 rfl (lv_at hl 0 rfl) ?_
  refine lv_iconst (v := 4) hx hb dX12_init_207 (by decide) ?_
  refine jmkf_i (C := RX12) (T := TX12) (N0 := 74) (ci := 11) (k := 27) (ty0 := tyX12) (N := 4) hx hb hts iw_X12 tyX12_ok nmX12 hown hin (hts _ (wG_in k_ac_I rfl)) hK hP hD hS hA.1 rfl (by decide) (hts _ (wG_in k_fl_X12_89 rfl)) (fun _ h9 => h9) rfl rfl (tyX12_ok 27 (by decide)) (by rw [e26]; decide) (by decide) (by decide) (by decide) (Nat.le_of_ble_eq_true rfl) (Nat.le_of_ble_eq_true rfl) dX12_init_208 dX12_init_210 (fun n27 H locs fs27 r27 hf27 hr27 e27 hP hD hS => ?_)
  rw [e26] at e27
  refine lv_aload_n hx hb dX12_init_213 rfl (lv_at hl 0 rfl) ?_
  refine lv_sipush (v := 240) hx hb dX12_init_214 (by decide) ?_
  refine jmkf_i (C := RX12) (T := TX12) (N0 := 74) (ci := 11) (k := 28) (ty0 := tyX12) (N := 240) hx hb hts iw_X12 tyX12_ok nmX12 hown hin (hts _ (wG_in k_ac_I rfl)) hK hP hD hS hA.1 rfl (by decide) (hts _ (wG_in k_fl_X12_92 rfl)) (fun _ h9 => h9) rfl rfl (tyX12_ok 28 (by decide)) (by rw [e27]; decide) (by decide) (by decide) (by decide) (Nat.le_of_ble_eq_true rfl) (Nat.le_of_ble_eq_true rfl) dX12_init_217 dX12_init_219 (fun n28 H locs fs28 r28 hf28 hr28 e28 hP hD hS => ?_)
  rw [e27] at e28
  refine lv_aload_n hx hb dX12_init_222 rfl (lv_at hl 0 rfl) ?_
  refine lv_sipush (v := 240) hx hb dX12_init_223 (by decide) ?_
  refine jmkf_i (C := RX12) (T := TX12) (N0 := 74) (ci := 11) (k := 29) (ty0 := tyX12) (N := 240) hx hb hts iw_X12 tyX12_ok nmX12 hown hin (hts _ (wG_in k_ac_I rfl)) hK hP hD hS hA.1 rfl (by decide) (hts _ (wG_in k_fl_X12_95 rfl)) (fun _ h9 => h9) rfl rfl (tyX12_ok 29 (by decide)) (by rw [e28]; decide) (by decide) (by decide) (by decide) (Nat.le_of_ble_eq_true rfl) (Nat.le_of_ble_eq_true rfl) dX12_init_226 dX12_init_228 (fun n29 H locs fs29 r29 hf29 hr29 e29 hP hD hS => ?_)
  rw [e28] at e29
  refine lv_aload_n hx hb dX12_init_231 rfl (lv_at hl 0 rfl) ?_
  refine lv_sipush (v := 240) hx hb dX12_init_232 (by decide) ?_
  refine jmkf_i (C := RX12) (T := TX12) (N0 := 74) (ci := 11) (k := 30) (ty0 := tyX12) (N := 240) hx hb hts iw_X12 tyX12_ok nmX12 hown hin (hts _ (wG_in k_ac_I rfl)) hK hP hD hS hA.1 rfl (by decide) (hts _ (wG_in k_fl_X12_98 rfl)) (fun _ h9 => h9) rfl rfl (tyX12_ok 30 (by decide)) (by rw [e29]; decide) (by decide) (by decide) (by decide) (Nat.le_of_ble_eq_true rfl) (Nat.le_of_ble_eq_true rfl) dX12_init_235 dX12_init_237 (fun n30 H locs fs30 r30 hf30 hr30 e30 hP hD hS => ?_)
  rw [e29] at e30
  refine lv_aload_n hx hb dX12_init_240 rfl (lv_at hl 0 rfl) ?_
  refine lv_bipush (v := 8) hx hb dX12_init_241 (by decide) ?_
  refine jmkf_i (C := RX12) (T := TX12) (N0 := 74) (ci := 11) (k := 32) (ty0 := tyX12) (N := 8) hx hb hts iw_X12 tyX12_ok nmX12 hown hin (hts _ (wG_in k_ac_I rfl)) hK hP hD hS hA.1 rfl (by decide) (hts _ (wG_in k_fl_X12_101 rfl)) (fun _ h9 => h9) rfl rfl (tyX12_ok 32 (by decide)) (by rw [e30]; decide) (by decide) (by decide) (by decide) (Nat.le_of_ble_eq_true rfl) (Nat.le_of_ble_eq_true rfl) dX12_init_243 dX12_init_245 (fun n31 H locs fs31 r31 hf31 hr31 e31 hP hD hS => ?_)
  rw [e30] at e31
  refine lv_aload_n hx hb dX12_init_248 rfl (lv_at hl 0 rfl) ?_
  refine lv_bipush (v := 8) hx hb dX12_init_249 (by decide) ?_
  refine jmkf_i (C := RX12) (T := TX12) (N0 := 74) (ci := 11) (k := 33) (ty0 := tyX12) (N := 8) hx hb hts iw_X12 tyX12_ok nmX12 hown hin (hts _ (wG_in k_ac_I rfl)) hK hP hD hS hA.1 rfl (by decide) (hts _ (wG_in k_fl_X12_104 rfl)) (fun _ h9 => h9) rfl rfl (tyX12_ok 33 (by decide)) (by rw [e31]; decide) (by decide) (by decide) (by decide) (Nat.le_of_ble_eq_true rfl) (Nat.le_of_ble_eq_true rfl) dX12_init_251 dX12_init_253 (fun n32 H locs fs32 r32 hf32 hr32 e32 hP hD hS => ?_)
  rw [e31] at e32
  refine lv_aload_n hx hb dX12_init_256 rfl (lv_at hl 0 rfl) ?_
  refine lv_bipush (v := 8) hx hb dX12_init_257 (by decide) ?_
  refine jmkf_i (C := RX12) (T := TX12) (N0 := 74) (ci := 11) (k := 34) (ty0 := tyX12) (N := 8) hx hb hts iw_X12 tyX12_ok nmX12 hown hin (hts _ (wG_in k_ac_I rfl)) hK hP hD hS hA.1 rfl (by decide) (hts _ (wG_in k_fl_X12_107 rfl)) (fun _ h9 => h9) rfl rfl (tyX12_ok 34 (by decide)) (by rw [e32]; decide) (by decide) (by decide) (by decide) (Nat.le_of_ble_eq_true rfl) (Nat.le_of_ble_eq_true rfl) dX12_init_259 dX12_init_261 (fun n33 H locs fs33 r33 hf33 hr33 e33 hP hD hS => ?_)
  rw [e32] at e33
  refine lv_aload_n hx hb dX12_init_264 rfl (lv_at hl 0 rfl) ?_
  refine lv_bipush (v := 8) hx hb dX12_init_265 (by decide) ?_
  refine jmkf_i (C := RX12) (T := TX12) (N0 := 74) (ci := 11) (k := 35) (ty0 := tyX12) (N := 8) hx hb hts iw_X12 tyX12_ok nmX12 hown hin (hts _ (wG_in k_ac_I rfl)) hK hP hD hS hA.1 rfl (by decide) (hts _ (wG_in k_fl_X12_110 rfl)) (fun _ h9 => h9) rfl rfl (tyX12_ok 35 (by decide)) (by rw [e33]; decide) (by decide) (by decide) (by decide) (Nat.le_of_ble_eq_true rfl) (Nat.le_of_ble_eq_true rfl) dX12_init_267 dX12_init_269 (fun n34 H locs fs34 r34 hf34 hr34 e34 hP hD hS => ?_)
  rw [e33] at e34
  refine lv_aload_n hx hb dX12_init_272 rfl (lv_at hl 0 rfl) ?_
  refine lv_bipush (v := 8) hx hb dX12_init_273 (by decide) ?_
  refine jmkf_i (C := RX12) (T := TX12) (N0 := 74) (ci := 11) (k := 47) (ty0 := tyX12) (N := 8) hx hb hts iw_X12 tyX12_ok nmX12 hown hin (hts _ (wG_in k_ac_I rfl)) hK hP hD hS hA.1 rfl (by decide) (hts _ (wG_in k_fl_X12_113 rfl)) (fun _ h9 => h9) rfl rfl (tyX12_ok 47 (by decide)) (by rw [e34]; decide) (by decide) (by decide) (by decide) (Nat.le_of_ble_eq_true rfl) (Nat.le_of_ble_eq_true rfl) dX12_init_275 dX12_init_277 (fun n35 H locs fs35 r35 hf35 hr35 e35 hP hD hS => ?_)
  rw [e34] at e35
  refine lv_aload_n hx hb dX12_init_280 rfl (lv_at hl 0 rfl) ?_
  refine lv_bipush (v := 8) hx hb dX12_init_281 (by decide) ?_
  refine jmkf_i (C := RX12) (T := TX12) (N0 := 74) (ci := 11) (k := 48) (ty0 := tyX12) (N := 8) hx hb hts iw_X12 tyX12_ok nmX12 hown hin (hts _ (wG_in k_ac_I rfl)) hK hP hD hS hA.1 rfl (by decide) (hts _ (wG_in k_fl_X12_116 rfl)) (fun _ h9 => h9) rfl rfl (tyX12_ok 48 (by decide)) (by rw [e35]; decide) (by decide) (by decide) (by decide) (Nat.le_of_ble_eq_true rfl) (Nat.le_of_ble_eq_true rfl) dX12_init_283 dX12_init_285 (fun n36 H locs fs36 r36 hf36 hr36 e36 hP hD hS => ?_)
  rw [e35] at e36
  refine lv_aload_n hx hb dX12_init_288 rfl (lv_at hl 0 rfl) ?_
  refine lv_bipush (v := 17) hx hb dX12_init_289 (by decide) ?_
  refine jmkf_i (C := RX12) (T := TX12) (N0 := 74) (ci := 11) (k := 50) (ty0 := tyX12) (N := 17) hx hb hts iw_X12 tyX12_ok nmX12 hown hin (hts _ (wG_in k_ac_I rfl)) hK hP hD hS hA.1 rfl (by decide) (hts _ (wG_in k_fl_X12_119 rfl)) (fun _ h9 => h9) rfl rfl (tyX12_ok 50 (by decide)) (by rw [e36]; decide) (by decide) (by decide) (by decide) (Nat.le_of_ble_eq_true rfl) (Nat.le_of_ble_eq_true rfl) dX12_init_291 dX12_init_293 (fun n37 H locs fs37 r37 hf37 hr37 e37 hP hD hS => ?_)
  rw [e36] at e37
  refine lv_aload_n hx hb dX12_init_296 rfl (lv_at hl 0 rfl) ?_
  refine lv_bipush (v := 34) hx hb dX12_init_297 (by decide) ?_
  refine jmkf_i (C := RX12) (T := TX12) (N0 := 74) (ci := 11) (k := 51) (ty0 := tyX12) (N := 34) hx hb hts iw_X12 tyX12_ok nmX12 hown hin (hts _ (wG_in k_ac_I rfl)) hK hP hD hS hA.1 rfl (by decide) (hts _ (wG_in k_fl_X12_122 rfl)) (fun _ h9 => h9) rfl rfl (tyX12_ok 51 (by decide)) (by rw [e37]; decide) (by decide) (by decide) (by decide) (Nat.le_of_ble_eq_true rfl) (Nat.le_of_ble_eq_true rfl) dX12_init_299 dX12_init_301 (fun n38 H locs fs38 r38 hf38 hr38 e38 hP hD hS => ?_)
  rw [e37] at e38
  refine lv_aload_n hx hb dX12_init_304 rfl (lv_at hl 0 rfl) ?_
  refine lv_sipush (v := 272) hx hb dX12_init_305 (by decide) ?_
  refine jmkf_b (C := RX12) (T := TX12) (N0 := 74) (ci := 11) (k := 52) (ty0 := tyX12) (N := 272) hx hb hts iw_X12 tyX12_ok nmX12 hown hin (hts _ (wG_in k_ac_B rfl)) hK hP hD hS hA.1 rfl (by decide) (hts _ (wG_in k_fl_X12_125 rfl)) (fun _ h9 => h9) rfl rfl (tyX12_ok 52 (by decide)) (by rw [e38]; decide) (by decide) (by decide) (by decide) (Nat.le_of_ble_eq_true rfl) (Nat.le_of_ble_eq_true rfl) dX12_init_308 dX12_init_310 (fun n39 H locs fs39 r39 hf39 hr39 e39 hP hD hS => ?_)
  rw [e38] at e39
  refine lv_aload_n hx hb dX12_init_313 rfl (lv_at hl 0 rfl) ?_
  refine lv_sipush (v := 400) hx hb dX12_init_314 (by decide) ?_
  refine jmkf_b (C := RX12) (T := TX12) (N0 := 74) (ci := 11) (k := 53) (ty0 := tyX12) (N := 400) hx hb hts iw_X12 tyX12_ok nmX12 hown hin (hts _ (wG_in k_ac_B rfl)) hK hP hD hS hA.1 rfl (by decide) (hts _ (wG_in k_fl_X12_128 rfl)) (fun _ h9 => h9) rfl rfl (tyX12_ok 53 (by decide)) (by rw [e39]; decide) (by decide) (by decide) (by decide) (Nat.le_of_ble_eq_true rfl) (Nat.le_of_ble_eq_true rfl) dX12_init_317 dX12_init_319 (fun n40 H locs fs40 r40 hf40 hr40 e40 hP hD hS => ?_)
  rw [e39] at e40
  refine lv_aload_n hx hb dX12_init_322 rfl (lv_at hl 0 rfl) ?_
  refine lv_sipush (v := 502) hx hb dX12_init_323 (by decide) ?_
  refine jmkf_i (C := RX12) (T := TX12) (N0 := 74) (ci := 11) (k := 55) (ty0 := tyX12) (N := 502) hx hb hts iw_X12 tyX12_ok nmX12 hown hin (hts _ (wG_in k_ac_I rfl)) hK hP hD hS hA.1 rfl (by decide) (hts _ (wG_in k_fl_X12_131 rfl)) (fun _ h9 => h9) rfl rfl (tyX12_ok 55 (by decide)) (by rw [e40]; decide) (by decide) (by decide) (by decide) (Nat.le_of_ble_eq_true rfl) (Nat.le_of_ble_eq_true rfl) dX12_init_326 dX12_init_328 (fun n41 H locs fs41 r41 hf41 hr41 e41 hP hD hS => ?_)
  rw [e40] at e41
  refine lv_aload_n hx hb dX12_init_331 rfl (lv_at hl 0 rfl) ?_
  refine lv_sipush (v := 1004) hx hb dX12_init_332 (by decide) ?_
  refine jmkf_i (C := RX12) (T := TX12) (N0 := 74) (ci := 11) (k := 56) (ty0 := tyX12) (N := 1004) hx hb hts iw_X12 tyX12_ok nmX12 hown hin (hts _ (wG_in k_ac_I rfl)) hK hP hD hS hA.1 rfl (by decide) (hts _ (wG_in k_fl_X12_134 rfl)) (fun _ h9 => h9) rfl rfl (tyX12_ok 56 (by decide)) (by rw [e41]; decide) (by decide) (by decide) (by decide) (Nat.le_of_ble_eq_true rfl) (Nat.le_of_ble_eq_true rfl) dX12_init_335 dX12_init_337 (fun n42 H locs fs42 r42 hf42 hr42 e42 hP hD hS => ?_)
  rw [e41] at e42
  refine lv_aload_n hx hb dX12_init_340 rfl (lv_at hl 0 rfl) ?_
  refine lv_sipush (v := 1004) hx hb dX12_init_341 (by decide) ?_
  refine jmkf_i (C := RX12) (T := TX12) (N0 := 74) (ci := 11) (k := 57) (ty0 := tyX12) (N := 1004) hx hb hts iw_X12 tyX12_ok nmX12 hown hin (hts _ (wG_in k_ac_I rfl)) hK hP hD hS hA.1 rfl (by decide) (hts _ (wG_in k_fl_X12_137 rfl)) (fun _ h9 => h9) rfl rfl (tyX12_ok 57 (by decide)) (by rw [e42]; decide) (by decide) (by decide) (by decide) (Nat.le_of_ble_eq_true rfl) (Nat.le_of_ble_eq_true rfl) dX12_init_344 dX12_init_346 (fun n43 H locs fs43 r43 hf43 hr43 e43 hP hD hS => ?_)
  rw [e42] at e43
  refine lv_aload_n hx hb dX12_init_349 rfl (lv_at hl 0 rfl) ?_
  refine lv_sipush (v := 1004) hx hb dX12_init_350 (by decide) ?_
  refine jmkf_i (C := RX12) (T := TX12) (N0 := 74) (ci := 11) (k := 58) (ty0 := tyX12) (N := 1004) hx hb hts iw_X12 tyX12_ok nmX12 hown hin (hts _ (wG_in k_ac_I rfl)) hK hP hD hS hA.1 rfl (by decide) (hts _ (wG_in k_fl_X12_140 rfl)) (fun _ h9 => h9) rfl rfl (tyX12_ok 58 (by decide)) (by rw [e43]; decide) (by decide) (by decide) (by decide) (Nat.le_of_ble_eq_true rfl) (Nat.le_of_ble_eq_true rfl) dX12_init_353 dX12_init_355 (fun n44 H locs fs44 r44 hf44 hr44 e44 hP hD hS => ?_)
  rw [e43] at e44
  refine lv_aload_n hx hb dX12_init_358 rfl (lv_at hl 0 rfl) ?_
  refine lv_sipush (v := 1004) hx hb dX12_init_359 (by decide) ?_
  refine jmkf_i (C := RX12) (T := TX12) (N0 := 74) (ci := 11) (k := 60) (ty0 := tyX12) (N := 1004) hx hb hts iw_X12 tyX12_ok nmX12 hown hin (hts _ (wG_in k_ac_I rfl)) hK hP hD hS hA.1 rfl (by decide) (hts _ (wG_in k_fl_X12_143 rfl)) (fun _ h9 => h9) rfl rfl (tyX12_ok 60 (by decide)) (by rw [e44]; decide) (by decide) (by decide) (by decide) (Nat.le_of_ble_eq_true rfl) (Nat.le_of_ble_eq_true rfl) dX12_init_362 dX12_init_364 (fun n45 H locs fs45 r45 hf45 hr45 e45 hP hD hS => ?_)
  rw [e44] at e45
  refine lv_aload_n hx hb dX12_init_367 rfl (lv_at hl 0 rfl) ?_
  refine lv_sipush (v := 1004) hx hb dX12_init_368 (by decide) ?_
  refine jmkf_i (C := RX12) (T := TX12) (N0 := 74) (ci := 11) (k := 61) (ty0 := tyX12) (N := 1004) hx hb hts iw_X12 tyX12_ok nmX12 hown hin (hts _ (wG_in k_ac_I rfl)) hK hP hD hS hA.1 rfl (by decide) (hts _ (wG_in k_fl_X12_146 rfl)) (fun _ h9 => h9) rfl rfl (tyX12_ok 61 (by decide)) (by rw [e45]; decide) (by decide) (by decide) (by decide) (Nat.le_of_ble_eq_true rfl) (Nat.le_of_ble_eq_true rfl) dX12_init_371 dX12_init_373 (fun n46 H locs fs46 r46 hf46 hr46 e46 hP hD hS => ?_)
  rw [e45] at e46
  refine lv_aload_n hx hb dX12_init_376 rfl (lv_at hl 0 rfl) ?_
  refine lv_sipush (v := 1004) hx hb dX12_init_377 (by decide) ?_
  refine jmkf_i (C := RX12) (T := TX12) (N0 := 74) (ci := 11) (k := 62) (ty0 := tyX12) (N := 1004) hx hb hts iw_X12 tyX12_ok nmX12 hown hin (hts _ (wG_in k_ac_I rfl)) hK hP hD hS hA.1 rfl (by decide) (hts _ (wG_in k_fl_X12_149 rfl)) (fun _ h9 => h9) rfl rfl (tyX12_ok 62 (by decide)) (by rw [e46]; decide) (by decide) (by decide) (by decide) (Nat.le_of_ble_eq_true rfl) (Nat.le_of_ble_eq_true rfl) dX12_init_380 dX12_init_382 (fun n47 H locs fs47 r47 hf47 hr47 e47 hP hD hS => ?_)
  rw [e46] at e47
  refine lv_aload_n hx hb dX12_init_385 rfl (lv_at hl 0 rfl) ?_
  refine lv_sipush (v := 600) hx hb dX12_init_386 (by decide) ?_
  refine jmkf_i (C := RX12) (T := TX12) (N0 := 74) (ci := 11) (k := 64) (ty0 := tyX12) (N := 600) hx hb hts iw_X12 tyX12_ok nmX12 hown hin (hts _ (wG_in k_ac_I rfl)) hK hP hD hS hA.1 rfl (by decide) (hts _ (wG_in k_fl_X12_152 rfl)) (fun _ h9 => h9) rfl rfl (tyX12_ok 64 (by decide)) (by rw [e47]; decide) (by decide) (by decide) (by decide) (Nat.le_of_ble_eq_true rfl) (Nat.le_of_ble_eq_true rfl) dX12_init_389 dX12_init_391 (fun n48 H locs fs48 r48 hf48 hr48 e48 hP hD hS => ?_)
  rw [e47] at e48
  refine lv_aload_n hx hb dX12_init_394 rfl (lv_at hl 0 rfl) ?_
  refine lv_bipush (v := 72) hx hb dX12_init_395 (by decide) ?_
  refine jmkf_i (C := RX12) (T := TX12) (N0 := 74) (ci := 11) (k := 67) (ty0 := tyX12) (N := 72) hx hb hts iw_X12 tyX12_ok nmX12 hown hin (hts _ (wG_in k_ac_I rfl)) hK hP hD hS hA.1 rfl (by decide) (hts _ (wG_in k_fl_X12_155 rfl)) (fun _ h9 => h9) rfl rfl (tyX12_ok 67 (by decide)) (by rw [e48]; decide) (by decide) (by decide) (by decide) (Nat.le_of_ble_eq_true rfl) (Nat.le_of_ble_eq_true rfl) dX12_init_397 dX12_init_399 (fun n49 H locs fs49 r49 hf49 hr49 e49 hP hD hS => ?_)
  rw [e48] at e49
  refine lv_aload_n hx hb dX12_init_402 rfl (lv_at hl 0 rfl) ?_
  refine lv_bipush (v := 72) hx hb dX12_init_403 (by decide) ?_
  refine jmkf_i (C := RX12) (T := TX12) (N0 := 74) (ci := 11) (k := 68) (ty0 := tyX12) (N := 72) hx hb hts iw_X12 tyX12_ok nmX12 hown hin (hts _ (wG_in k_ac_I rfl)) hK hP hD hS hA.1 rfl (by decide) (hts _ (wG_in k_fl_X12_158 rfl)) (fun _ h9 => h9) rfl rfl (tyX12_ok 68 (by decide)) (by rw [e49]; decide) (by decide) (by decide) (by decide) (Nat.le_of_ble_eq_true rfl) (Nat.le_of_ble_eq_true rfl) dX12_init_405 dX12_init_407 (fun n50 H locs fs50 r50 hf50 hr50 e50 hP hD hS => ?_)
  rw [e49] at e50
  refine lv_aload_n hx hb dX12_init_410 rfl (lv_at hl 0 rfl) ?_
  refine lv_bipush (v := 72) hx hb dX12_init_411 (by decide) ?_
  refine jmkf_i (C := RX12) (T := TX12) (N0 := 74) (ci := 11) (k := 69) (ty0 := tyX12) (N := 72) hx hb hts iw_X12 tyX12_ok nmX12 hown hin (hts _ (wG_in k_ac_I rfl)) hK hP hD hS hA.1 rfl (by decide) (hts _ (wG_in k_fl_X12_161 rfl)) (fun _ h9 => h9) rfl rfl (tyX12_ok 69 (by decide)) (by rw [e50]; decide) (by decide) (by decide) (by decide) (Nat.le_of_ble_eq_true rfl) (Nat.le_of_ble_eq_true rfl) dX12_init_413 dX12_init_415 (fun n51 H locs fs51 r51 hf51 hr51 e51 hP hD hS => ?_)
  rw [e50] at e51
  refine lv_aload_n hx hb dX12_init_418 rfl (lv_at hl 0 rfl) ?_
  refine lv_bipush (v := 24) hx hb dX12_init_419 (by decide) ?_
  refine jmkf_i (C := RX12) (T := TX12) (N0 := 74) (ci := 11) (k := 70) (ty0 := tyX12) (N := 24) hx hb hts iw_X12 tyX12_ok nmX12 hown hin (hts _ (wG_in k_ac_I rfl)) hK hP hD hS hA.1 rfl (by decide) (hts _ (wG_in k_fl_X12_164 rfl)) (fun _ h9 => h9) rfl rfl (tyX12_ok 70 (by decide)) (by rw [e51]; decide) (by decide) (by decide) (by decide) (Nat.le_of_ble_eq_true rfl) (Nat.le_of_ble_eq_true rfl) dX12_init_421 dX12_init_423 (fun n52 H locs fs52 r52 hf52 hr52 e52 hP hD hS => ?_)
  rw [e51] at e52
  refine lv_aload_n hx hb dX12_init_426 rfl (lv_at hl 0 rfl) ?_
  refine lv_bipush (v := 24) hx hb dX12_init_427 (by decide) ?_
  refine jmkf_i (C := RX12) (T := TX12) (N0 := 74) (ci := 11) (k := 71) (ty0 := tyX12) (N := 24) hx hb hts iw_X12 tyX12_ok nmX12 hown hin (hts _ (wG_in k_ac_I rfl)) hK hP hD hS hA.1 rfl (by decide) (hts _ (wG_in k_fl_X12_167 rfl)) (fun _ h9 => h9) rfl rfl (tyX12_ok 71 (by decide)) (by rw [e52]; decide) (by decide) (by decide) (by decide) (Nat.le_of_ble_eq_true rfl) (Nat.le_of_ble_eq_true rfl) dX12_init_429 dX12_init_431 (fun n53 H locs fs53 r53 hf53 hr53 e53 hP hD hS => ?_)
  rw [e52] at e53
  refine lv_aload_n hx hb dX12_init_434 rfl (lv_at hl 0 rfl) ?_
  refine lv_bipush (v := 60) hx hb dX12_init_435 (by decide) ?_
  refine jmkf_z (C := RX12) (T := TX12) (N0 := 74) (ci := 11) (k := 72) (ty0 := tyX12) (N := 60) hx hb hts iw_X12 tyX12_ok nmX12 hown hin (hts _ (wG_in k_ac_Z rfl)) hK hP hD hS hA.1 rfl (by decide) (hts _ (wG_in k_fl_X12_170 rfl)) (fun _ h9 => h9) rfl rfl (tyX12_ok 72 (by decide)) (by rw [e53]; decide) (by decide) (by decide) (by decide) (Nat.le_of_ble_eq_true rfl) (Nat.le_of_ble_eq_true rfl) dX12_init_437 dX12_init_439 (fun n54 H locs fs54 r54 hf54 hr54 e54 hP hD hS => ?_)
  rw [e53] at e54
  refine lv_aload_n hx hb dX12_init_442 rfl (lv_at hl 0 rfl) ?_
  refine lv_iconst (v := 3) hx hb dX12_init_443 (by decide) ?_
  refine jmkf_z (C := RX12) (T := TX12) (N0 := 74) (ci := 11) (k := 73) (ty0 := tyX12) (N := 3) hx hb hts iw_X12 tyX12_ok nmX12 hown hin (hts _ (wG_in k_ac_Z rfl)) hK hP hD hS hA.1 rfl (by decide) (hts _ (wG_in k_fl_X12_174 rfl)) (fun _ h9 => h9) rfl rfl (tyX12_ok 73 (by decide)) (by rw [e54]; decide) (by decide) (by decide) (by decide) (Nat.le_of_ble_eq_true rfl) (Nat.le_of_ble_eq_true rfl) dX12_init_444 dX12_init_446 (fun n55 H locs fs55 r55 hf55 hr55 e55 hP hD hS => ?_)
  rw [e54] at e55
  obtain ⟨qs, hqs⟩ : ∃ z : Nat → Nat, z = fun k => ([0, n1, n2, n3, n4, n5, n6, n7, n8, n9, n10, n11, n12, n13, n14, n15, n16, n17, n18, n19, n20, n21, n22, n23, n24, n25, n26, n27, n28, n29, n30, 0, n31, n32, n33, n34, 0, 0, 0, 0, 0, 0, 0, 0, 0, 0, 0, n35, n36, 0, n37, n38, n39, n40, 0, n41, n42, n43, n44, 0, n45, n46, n47, 0, n48, 0, 0, n49, n50, n51, n52, n53, n54, n55] : List Nat).getD k 0 := ⟨_, rfl⟩
  have g1 : n1 = qs 1 := by rw [hqs]; rfl
  have g2 : n2 = qs 2 := by rw [hqs]; rfl
  have g3 : n3 = qs 3 := by rw [hqs]; rfl
  have g4 : n4 = qs 4 := by rw [hqs]; rfl
  have g5 : n5 = qs 5 := by rw [hqs]; rfl
  have g6 : n6 = qs 6 := by rw [hqs]; rfl
  have g7 : n7 = qs 7 := by rw [hqs]; rfl
  have g8 : n8 = qs 8 := by rw [hqs]; rfl
  have g9 : n9 = qs 9 := by rw [hqs]; rfl
  have g10 : n10 = qs 10 := by rw [hqs]; rfl
  have g11 : n11 = qs 11 := by rw [hqs]; rfl
  have g12 : n12 = qs 12 := by rw [hqs]; rfl
  have g13 : n13 = qs 13 := by rw [hqs]; rfl
  have g14 : n14 = qs 14 := by rw [hqs]; rfl
  have g15 : n15 = qs 15 := by rw [hqs]; rfl
  have g16 : n16 = qs 16 := by rw [hqs]; rfl
  have g17 : n17 = qs 17 := by rw [hqs]; rfl
  have g18 : n18 = qs 18 := by rw [hqs]; rfl
  have g19 : n19 = qs 19 := by rw [hqs]; rfl
  have g20 : n20 = qs 20 := by rw [hqs]; rfl
  have g21 : n21 = qs 21 := by rw [hqs]; rfl
  have g22 : n22 = qs 22 := by rw [hqs]; rfl
  have g23 : n23 = qs 23 := by rw [hqs]; rfl
  have g24 : n24 = qs 24 := by rw [hqs]; rfl
  have g25 : n25 = qs 25 := by rw [hqs]; rfl
  have g26 : n26 = qs 26 := by rw [hqs]; rfl
  have g27 : n27 = qs 27 := by rw [hqs]; rfl
  have g28 : n28 = qs 28 := by rw [hqs]; rfl
  have g29 : n29 = qs 29 := by rw [hqs]; rfl
  have g30 : n30 = qs 30 := by rw [hqs]; rfl
  have g31 : n31 = qs 32 := by rw [hqs]; rfl
  have g32 : n32 = qs 33 := by rw [hqs]; rfl
  have g33 : n33 = qs 34 := by rw [hqs]; rfl
  have g34 : n34 = qs 35 := by rw [hqs]; rfl
  have g35 : n35 = qs 47 := by rw [hqs]; rfl
  have g36 : n36 = qs 48 := by rw [hqs]; rfl
  have g37 : n37 = qs 50 := by rw [hqs]; rfl
  have g38 : n38 = qs 51 := by rw [hqs]; rfl
  have g39 : n39 = qs 52 := by rw [hqs]; rfl
  have g40 : n40 = qs 53 := by rw [hqs]; rfl
  have g41 : n41 = qs 55 := by rw [hqs]; rfl
  have g42 : n42 = qs 56 := by rw [hqs]; rfl
  have g43 : n43 = qs 57 := by rw [hqs]; rfl
  have g44 : n44 = qs 58 := by rw [hqs]; rfl
  have g45 : n45 = qs 60 := by rw [hqs]; rfl
  have g46 : n46 = qs 61 := by rw [hqs]; rfl
  have g47 : n47 = qs 62 := by rw [hqs]; rfl
  have g48 : n48 = qs 64 := by rw [hqs]; rfl
  have g49 : n49 = qs 67 := by rw [hqs]; rfl
  have g50 : n50 = qs 68 := by rw [hqs]; rfl
  have g51 : n51 = qs 69 := by rw [hqs]; rfl
  have g52 : n52 = qs 70 := by rw [hqs]; rfl
  have g53 : n53 = qs 71 := by rw [hqs]; rfl
  have g54 : n54 = qs 72 := by rw [hqs]; rfl
  have g55 : n55 = qs 73 := by rw [hqs]; rfl
  have hfs : fs55 = oX12 qs 0 0 0 0 0 0 0 0 0 0 0 0 0 0 0 0 0 0 0 := by
    rw [hf55, hf54, hf53, hf52, hf51, hf50, hf49, hf48, hf47, hf46, hf45, hf44, hf43, hf42, hf41, hf40, hf39, hf38, hf37, hf36, hf35, hf34, hf33, hf32, hf31, hf30, hf29, hf28, hf27, hf26, hf25, hf24, hf23, hf22, hf21, hf20, hf19, hf18, hf17, hf16, hf15, hf14, hf13, hf12, hf11, hf10, hf9, hf8, hf7, hf6, hf5, hf4, hf3, hf2, hf1, ← hf0, g1, g2, g3, g4, g5, g6, g7, g8, g9, g10, g11, g12, g13, g14, g15, g16, g17, g18, g19, g20, g21, g22, g23, g24, g25, g26, g27, g28, g29, g30, g31, g32, g33, g34, g35, g36, g37, g38, g39, g40, g41, g42, g43, g44, g45, g46, g47, g48, g49, g50, g51, g52, g53, g54, g55]
    rfl
  have hrs : r55 = [((qs 1), .inl (cB, 1600, .inl (fun _ => 0))), ((qs 2), .inl (cI, 4, .inl (fun _ => 0))), ((qs 3), .inl (cI, 4, .inl (fun _ => 0))), ((qs 4), .inl (cI, 4, .inl (fun _ => 0))), ((qs 5), .inl (cI, 4, .inl (fun _ => 0))), ((qs 6), .inl (cI, 32, .inl (fun _ => 0))), ((qs 7), .inl (cI, 32, .inl (fun _ => 0))), ((qs 8), .inl (cI, 4, .inl (fun _ => 0))), ((qs 9), .inl (cI, 64, .inl (fun _ => 0))), ((qs 10), .inl (cB, 1024, .inl (fun _ => 0))), ((qs 11), .inl (cI, 128, .inl (fun _ => 0))), ((qs 12), .inl (cI, 4, .inl (fun _ => 0))), ((qs 13), .inl (cI, 32, .inl (fun _ => 0))), ((qs 14), .inl (cI, 32, .inl (fun _ => 0))), ((qs 15), .inl (cB, 256, .inl (fun _ => 0))), ((qs 16), .inl (cI, 4, .inl (fun _ => 0))), ((qs 17), .inl (cI, 4, .inl (fun _ => 0))), ((qs 18), .inl (cI, 4, .inl (fun _ => 0))), ((qs 19), .inl (cI, 96, .inl (fun _ => 0))), ((qs 20), .inl (cI, 96, .inl (fun _ => 0))), ((qs 21), .inl (cI, 96, .inl (fun _ => 0))), ((qs 22), .inl (cI, 96, .inl (fun _ => 0))), ((qs 23), .inl (cI, 4, .inl (fun _ => 0))), ((qs 24), .inl (cI, 96, .inl (fun _ => 0))), ((qs 25), .inl (cI, 96, .inl (fun _ => 0))), ((qs 26), .inl (cI, 96, .inl (fun _ => 0))), ((qs 27), .inl (cI, 4, .inl (fun _ => 0))), ((qs 28), .inl (cI, 240, .inl (fun _ => 0))), ((qs 29), .inl (cI, 240, .inl (fun _ => 0))), ((qs 30), .inl (cI, 240, .inl (fun _ => 0))), ((qs 32), .inl (cI, 8, .inl (fun _ => 0))), ((qs 33), .inl (cI, 8, .inl (fun _ => 0))), ((qs 34), .inl (cI, 8, .inl (fun _ => 0))), ((qs 35), .inl (cI, 8, .inl (fun _ => 0))), ((qs 47), .inl (cI, 8, .inl (fun _ => 0))), ((qs 48), .inl (cI, 8, .inl (fun _ => 0))), ((qs 50), .inl (cI, 17, .inl (fun _ => 0))), ((qs 51), .inl (cI, 34, .inl (fun _ => 0))), ((qs 52), .inl (cB, 272, .inl (fun _ => 0))), ((qs 53), .inl (cB, 400, .inl (fun _ => 0))), ((qs 55), .inl (cI, 502, .inl (fun _ => 0))), ((qs 56), .inl (cI, 1004, .inl (fun _ => 0))), ((qs 57), .inl (cI, 1004, .inl (fun _ => 0))), ((qs 58), .inl (cI, 1004, .inl (fun _ => 0))), ((qs 60), .inl (cI, 1004, .inl (fun _ => 0))), ((qs 61), .inl (cI, 1004, .inl (fun _ => 0))), ((qs 62), .inl (cI, 1004, .inl (fun _ => 0))), ((qs 64), .inl (cI, 600, .inl (fun _ => 0))), ((qs 67), .inl (cI, 72, .inl (fun _ => 0))), ((qs 68), .inl (cI, 72, .inl (fun _ => 0))), ((qs 69), .inl (cI, 72, .inl (fun _ => 0))), ((qs 70), .inl (cI, 24, .inl (fun _ => 0))), ((qs 71), .inl (cI, 24, .inl (fun _ => 0))), ((qs 72), .inl (cZ, 60, .inl (fun _ => 0))), ((qs 73), .inl (cZ, 3, .inl (fun _ => 0)))] := by
    rw [hr55, hr54, hr53, hr52, hr51, hr50, hr49, hr48, hr47, hr46, hr45, hr44, hr43, hr42, hr41, hr40, hr39, hr38, hr37, hr36, hr35, hr34, hr33, hr32, hr31, hr30, hr29, hr28, hr27, hr26, hr25, hr24, hr23, hr22, hr21, hr20, hr19, hr18, hr17, hr16, hr15, hr14, hr13, hr12, hr11, hr10, hr9, hr8, hr7, hr6, hr5, hr4, hr3, hr2, hr1, ← hr0, g1, g2, g3, g4, g5, g6, g7, g8, g9, g10, g11, g12, g13, g14, g15, g16, g17, g18, g19, g20, g21, g22, g23, g24, g25, g26, g27, g28, g29, g30, g31, g32, g33, g34, g35, g36, g37, g38, g39, g40, g41, g42, g43, g44, g45, g46, g47, g48, g49, g50, g51, g52, g53, g54, g55]
    rfl
  rw [hfs, hrs] at hP hD
  refine lv_aload_n hx hb dX12_init_449 rfl (lv_at hl 0 rfl) ?_
  refine va_get (D := D) (ci := 11) (v := .ref (qs 4)) (C := RX12) (T := TX12) (N := 74) hx hb hts iw_X12 hown hK hP 0 rfl rfl 4 (by decide) (hts _ (wG_in k_fl_X12_20 rfl)) (fun _ h9 => h9) rfl dX12_init_450 ?_
  refine lv_iconst (v := 0) hx hb dX12_init_453 (by decide) ?_
  refine lv_iconst (v := -1) hx hb dX12_init_454 (by decide) ?_
  refine va_iast hx hb hK hP hD hS 4 0 rfl rfl (by decide) dX12_init_455 (fun H locs hP hD hS => ?_)
  have hP : va_P D vwCl [(a_t, .inr (11, oX12 qs 0 0 0 0 0 0 0 0 0 0 0 0 0 0 0 0 0 0 0)), ((qs 1), .inl (cB, 1600, .inl (fun _ => 0))), ((qs 2), .inl (cI, 4, .inl (fun _ => 0))), ((qs 3), .inl (cI, 4, .inl (fun _ => 0))), ((qs 4), .inl (cI, 4, .inl (upd (fun _ => 0) 0 (-1)))), ((qs 5), .inl (cI, 4, .inl (fun _ => 0))), ((qs 6), .inl (cI, 32, .inl (fun _ => 0))), ((qs 7), .inl (cI, 32, .inl (fun _ => 0))), ((qs 8), .inl (cI, 4, .inl (fun _ => 0))), ((qs 9), .inl (cI, 64, .inl (fun _ => 0))), ((qs 10), .inl (cB, 1024, .inl (fun _ => 0))), ((qs 11), .inl (cI, 128, .inl (fun _ => 0))), ((qs 12), .inl (cI, 4, .inl (fun _ => 0))), ((qs 13), .inl (cI, 32, .inl (fun _ => 0))), ((qs 14), .inl (cI, 32, .inl (fun _ => 0))), ((qs 15), .inl (cB, 256, .inl (fun _ => 0))), ((qs 16), .inl (cI, 4, .inl (fun _ => 0))), ((qs 17), .inl (cI, 4, .inl (fun _ => 0))), ((qs 18), .inl (cI, 4, .inl (fun _ => 0))), ((qs 19), .inl (cI, 96, .inl (fun _ => 0))), ((qs 20), .inl (cI, 96, .inl (fun _ => 0))), ((qs 21), .inl (cI, 96, .inl (fun _ => 0))), ((qs 22), .inl (cI, 96, .inl (fun _ => 0))), ((qs 23), .inl (cI, 4, .inl (fun _ => 0))), ((qs 24), .inl (cI, 96, .inl (fun _ => 0))), ((qs 25), .inl (cI, 96, .inl (fun _ => 0))), ((qs 26), .inl (cI, 96, .inl (fun _ => 0))), ((qs 27), .inl (cI, 4, .inl (fun _ => 0))), ((qs 28), .inl (cI, 240, .inl (fun _ => 0))), ((qs 29), .inl (cI, 240, .inl (fun _ => 0))), ((qs 30), .inl (cI, 240, .inl (fun _ => 0))), ((qs 32), .inl (cI, 8, .inl (fun _ => 0))), ((qs 33), .inl (cI, 8, .inl (fun _ => 0))), ((qs 34), .inl (cI, 8, .inl (fun _ => 0))), ((qs 35), .inl (cI, 8, .inl (fun _ => 0))), ((qs 47), .inl (cI, 8, .inl (fun _ => 0))), ((qs 48), .inl (cI, 8, .inl (fun _ => 0))), ((qs 50), .inl (cI, 17, .inl (fun _ => 0))), ((qs 51), .inl (cI, 34, .inl (fun _ => 0))), ((qs 52), .inl (cB, 272, .inl (fun _ => 0))), ((qs 53), .inl (cB, 400, .inl (fun _ => 0))), ((qs 55), .inl (cI, 502, .inl (fun _ => 0))), ((qs 56), .inl (cI, 1004, .inl (fun _ => 0))), ((qs 57), .inl (cI, 1004, .inl (fun _ => 0))), ((qs 58), .inl (cI, 1004, .inl (fun _ => 0))), ((qs 60), .inl (cI, 1004, .inl (fun _ => 0))), ((qs 61), .inl (cI, 1004, .inl (fun _ => 0))), ((qs 62), .inl (cI, 1004, .inl (fun _ => 0))), ((qs 64), .inl (cI, 600, .inl (fun _ => 0))), ((qs 67), .inl (cI, 72, .inl (fun _ => 0))), ((qs 68), .inl (cI, 72, .inl (fun _ => 0))), ((qs 69), .inl (cI, 72, .inl (fun _ => 0))), ((qs 70), .inl (cI, 24, .inl (fun _ => 0))), ((qs 71), .inl (cI, 24, .inl (fun _ => 0))), ((qs 72), .inl (cZ, 60, .inl (fun _ => 0))), ((qs 73), .inl (cZ, 3, .inl (fun _ => 0)))] H := hP
  have hD : va_D A [(a_t, .inr (11, oX12 qs 0 0 0 0 0 0 0 0 0 0 0 0 0 0 0 0 0 0 0)), ((qs 1), .inl (cB, 1600, .inl (fun _ => 0))), ((qs 2), .inl (cI, 4, .inl (fun _ => 0))), ((qs 3), .inl (cI, 4, .inl (fun _ => 0))), ((qs 4), .inl (cI, 4, .inl (upd (fun _ => 0) 0 (-1)))), ((qs 5), .inl (cI, 4, .inl (fun _ => 0))), ((qs 6), .inl (cI, 32, .inl (fun _ => 0))), ((qs 7), .inl (cI, 32, .inl (fun _ => 0))), ((qs 8), .inl (cI, 4, .inl (fun _ => 0))), ((qs 9), .inl (cI, 64, .inl (fun _ => 0))), ((qs 10), .inl (cB, 1024, .inl (fun _ => 0))), ((qs 11), .inl (cI, 128, .inl (fun _ => 0))), ((qs 12), .inl (cI, 4, .inl (fun _ => 0))), ((qs 13), .inl (cI, 32, .inl (fun _ => 0))), ((qs 14), .inl (cI, 32, .inl (fun _ => 0))), ((qs 15), .inl (cB, 256, .inl (fun _ => 0))), ((qs 16), .inl (cI, 4, .inl (fun _ => 0))), ((qs 17), .inl (cI, 4, .inl (fun _ => 0))), ((qs 18), .inl (cI, 4, .inl (fun _ => 0))), ((qs 19), .inl (cI, 96, .inl (fun _ => 0))), ((qs 20), .inl (cI, 96, .inl (fun _ => 0))), ((qs 21), .inl (cI, 96, .inl (fun _ => 0))), ((qs 22), .inl (cI, 96, .inl (fun _ => 0))), ((qs 23), .inl (cI, 4, .inl (fun _ => 0))), ((qs 24), .inl (cI, 96, .inl (fun _ => 0))), ((qs 25), .inl (cI, 96, .inl (fun _ => 0))), ((qs 26), .inl (cI, 96, .inl (fun _ => 0))), ((qs 27), .inl (cI, 4, .inl (fun _ => 0))), ((qs 28), .inl (cI, 240, .inl (fun _ => 0))), ((qs 29), .inl (cI, 240, .inl (fun _ => 0))), ((qs 30), .inl (cI, 240, .inl (fun _ => 0))), ((qs 32), .inl (cI, 8, .inl (fun _ => 0))), ((qs 33), .inl (cI, 8, .inl (fun _ => 0))), ((qs 34), .inl (cI, 8, .inl (fun _ => 0))), ((qs 35), .inl (cI, 8, .inl (fun _ => 0))), ((qs 47), .inl (cI, 8, .inl (fun _ => 0))), ((qs 48), .inl (cI, 8, .inl (fun _ => 0))), ((qs 50), .inl (cI, 17, .inl (fun _ => 0))), ((qs 51), .inl (cI, 34, .inl (fun _ => 0))), ((qs 52), .inl (cB, 272, .inl (fun _ => 0))), ((qs 53), .inl (cB, 400, .inl (fun _ => 0))), ((qs 55), .inl (cI, 502, .inl (fun _ => 0))), ((qs 56), .inl (cI, 1004, .inl (fun _ => 0))), ((qs 57), .inl (cI, 1004, .inl (fun _ => 0))), ((qs 58), .inl (cI, 1004, .inl (fun _ => 0))), ((qs 60), .inl (cI, 1004, .inl (fun _ => 0))), ((qs 61), .inl (cI, 1004, .inl (fun _ => 0))), ((qs 62), .inl (cI, 1004, .inl (fun _ => 0))), ((qs 64), .inl (cI, 600, .inl (fun _ => 0))), ((qs 67), .inl (cI, 72, .inl (fun _ => 0))), ((qs 68), .inl (cI, 72, .inl (fun _ => 0))), ((qs 69), .inl (cI, 72, .inl (fun _ => 0))), ((qs 70), .inl (cI, 24, .inl (fun _ => 0))), ((qs 71), .inl (cI, 24, .inl (fun _ => 0))), ((qs 72), .inl (cZ, 60, .inl (fun _ => 0))), ((qs 73), .inl (cZ, 3, .inl (fun _ => 0)))] := hD
  refine lv_aload_n hx hb dX12_init_456 rfl (lv_at hl 0 rfl) ?_
  refine va_get (D := D) (ci := 11) (v := .ref (qs 17)) (C := RX12) (T := TX12) (N := 74) hx hb hts iw_X12 hown hK hP 0 rfl rfl 17 (by decide) (hts _ (wG_in k_fl_X12_59 rfl)) (fun _ h9 => h9) rfl dX12_init_457 ?_
  refine lv_iconst (v := 0) hx hb dX12_init_460 (by decide) ?_
  refine lv_iconst (v := -1) hx hb dX12_init_461 (by decide) ?_
  refine va_iast hx hb hK hP hD hS 17 0 rfl rfl (by decide) dX12_init_462 (fun H locs hP hD hS => ?_)
  have hP : va_P D vwCl [(a_t, .inr (11, oX12 qs 0 0 0 0 0 0 0 0 0 0 0 0 0 0 0 0 0 0 0)), ((qs 1), .inl (cB, 1600, .inl (fun _ => 0))), ((qs 2), .inl (cI, 4, .inl (fun _ => 0))), ((qs 3), .inl (cI, 4, .inl (fun _ => 0))), ((qs 4), .inl (cI, 4, .inl (upd (fun _ => 0) 0 (-1)))), ((qs 5), .inl (cI, 4, .inl (fun _ => 0))), ((qs 6), .inl (cI, 32, .inl (fun _ => 0))), ((qs 7), .inl (cI, 32, .inl (fun _ => 0))), ((qs 8), .inl (cI, 4, .inl (fun _ => 0))), ((qs 9), .inl (cI, 64, .inl (fun _ => 0))), ((qs 10), .inl (cB, 1024, .inl (fun _ => 0))), ((qs 11), .inl (cI, 128, .inl (fun _ => 0))), ((qs 12), .inl (cI, 4, .inl (fun _ => 0))), ((qs 13), .inl (cI, 32, .inl (fun _ => 0))), ((qs 14), .inl (cI, 32, .inl (fun _ => 0))), ((qs 15), .inl (cB, 256, .inl (fun _ => 0))), ((qs 16), .inl (cI, 4, .inl (fun _ => 0))), ((qs 17), .inl (cI, 4, .inl (upd (fun _ => 0) 0 (-1)))), ((qs 18), .inl (cI, 4, .inl (fun _ => 0))), ((qs 19), .inl (cI, 96, .inl (fun _ => 0))), ((qs 20), .inl (cI, 96, .inl (fun _ => 0))), ((qs 21), .inl (cI, 96, .inl (fun _ => 0))), ((qs 22), .inl (cI, 96, .inl (fun _ => 0))), ((qs 23), .inl (cI, 4, .inl (fun _ => 0))), ((qs 24), .inl (cI, 96, .inl (fun _ => 0))), ((qs 25), .inl (cI, 96, .inl (fun _ => 0))), ((qs 26), .inl (cI, 96, .inl (fun _ => 0))), ((qs 27), .inl (cI, 4, .inl (fun _ => 0))), ((qs 28), .inl (cI, 240, .inl (fun _ => 0))), ((qs 29), .inl (cI, 240, .inl (fun _ => 0))), ((qs 30), .inl (cI, 240, .inl (fun _ => 0))), ((qs 32), .inl (cI, 8, .inl (fun _ => 0))), ((qs 33), .inl (cI, 8, .inl (fun _ => 0))), ((qs 34), .inl (cI, 8, .inl (fun _ => 0))), ((qs 35), .inl (cI, 8, .inl (fun _ => 0))), ((qs 47), .inl (cI, 8, .inl (fun _ => 0))), ((qs 48), .inl (cI, 8, .inl (fun _ => 0))), ((qs 50), .inl (cI, 17, .inl (fun _ => 0))), ((qs 51), .inl (cI, 34, .inl (fun _ => 0))), ((qs 52), .inl (cB, 272, .inl (fun _ => 0))), ((qs 53), .inl (cB, 400, .inl (fun _ => 0))), ((qs 55), .inl (cI, 502, .inl (fun _ => 0))), ((qs 56), .inl (cI, 1004, .inl (fun _ => 0))), ((qs 57), .inl (cI, 1004, .inl (fun _ => 0))), ((qs 58), .inl (cI, 1004, .inl (fun _ => 0))), ((qs 60), .inl (cI, 1004, .inl (fun _ => 0))), ((qs 61), .inl (cI, 1004, .inl (fun _ => 0))), ((qs 62), .inl (cI, 1004, .inl (fun _ => 0))), ((qs 64), .inl (cI, 600, .inl (fun _ => 0))), ((qs 67), .inl (cI, 72, .inl (fun _ => 0))), ((qs 68), .inl (cI, 72, .inl (fun _ => 0))), ((qs 69), .inl (cI, 72, .inl (fun _ => 0))), ((qs 70), .inl (cI, 24, .inl (fun _ => 0))), ((qs 71), .inl (cI, 24, .inl (fun _ => 0))), ((qs 72), .inl (cZ, 60, .inl (fun _ => 0))), ((qs 73), .inl (cZ, 3, .inl (fun _ => 0)))] H := hP
  have hD : va_D A [(a_t, .inr (11, oX12 qs 0 0 0 0 0 0 0 0 0 0 0 0 0 0 0 0 0 0 0)), ((qs 1), .inl (cB, 1600, .inl (fun _ => 0))), ((qs 2), .inl (cI, 4, .inl (fun _ => 0))), ((qs 3), .inl (cI, 4, .inl (fun _ => 0))), ((qs 4), .inl (cI, 4, .inl (upd (fun _ => 0) 0 (-1)))), ((qs 5), .inl (cI, 4, .inl (fun _ => 0))), ((qs 6), .inl (cI, 32, .inl (fun _ => 0))), ((qs 7), .inl (cI, 32, .inl (fun _ => 0))), ((qs 8), .inl (cI, 4, .inl (fun _ => 0))), ((qs 9), .inl (cI, 64, .inl (fun _ => 0))), ((qs 10), .inl (cB, 1024, .inl (fun _ => 0))), ((qs 11), .inl (cI, 128, .inl (fun _ => 0))), ((qs 12), .inl (cI, 4, .inl (fun _ => 0))), ((qs 13), .inl (cI, 32, .inl (fun _ => 0))), ((qs 14), .inl (cI, 32, .inl (fun _ => 0))), ((qs 15), .inl (cB, 256, .inl (fun _ => 0))), ((qs 16), .inl (cI, 4, .inl (fun _ => 0))), ((qs 17), .inl (cI, 4, .inl (upd (fun _ => 0) 0 (-1)))), ((qs 18), .inl (cI, 4, .inl (fun _ => 0))), ((qs 19), .inl (cI, 96, .inl (fun _ => 0))), ((qs 20), .inl (cI, 96, .inl (fun _ => 0))), ((qs 21), .inl (cI, 96, .inl (fun _ => 0))), ((qs 22), .inl (cI, 96, .inl (fun _ => 0))), ((qs 23), .inl (cI, 4, .inl (fun _ => 0))), ((qs 24), .inl (cI, 96, .inl (fun _ => 0))), ((qs 25), .inl (cI, 96, .inl (fun _ => 0))), ((qs 26), .inl (cI, 96, .inl (fun _ => 0))), ((qs 27), .inl (cI, 4, .inl (fun _ => 0))), ((qs 28), .inl (cI, 240, .inl (fun _ => 0))), ((qs 29), .inl (cI, 240, .inl (fun _ => 0))), ((qs 30), .inl (cI, 240, .inl (fun _ => 0))), ((qs 32), .inl (cI, 8, .inl (fun _ => 0))), ((qs 33), .inl (cI, 8, .inl (fun _ => 0))), ((qs 34), .inl (cI, 8, .inl (fun _ => 0))), ((qs 35), .inl (cI, 8, .inl (fun _ => 0))), ((qs 47), .inl (cI, 8, .inl (fun _ => 0))), ((qs 48), .inl (cI, 8, .inl (fun _ => 0))), ((qs 50), .inl (cI, 17, .inl (fun _ => 0))), ((qs 51), .inl (cI, 34, .inl (fun _ => 0))), ((qs 52), .inl (cB, 272, .inl (fun _ => 0))), ((qs 53), .inl (cB, 400, .inl (fun _ => 0))), ((qs 55), .inl (cI, 502, .inl (fun _ => 0))), ((qs 56), .inl (cI, 1004, .inl (fun _ => 0))), ((qs 57), .inl (cI, 1004, .inl (fun _ => 0))), ((qs 58), .inl (cI, 1004, .inl (fun _ => 0))), ((qs 60), .inl (cI, 1004, .inl (fun _ => 0))), ((qs 61), .inl (cI, 1004, .inl (fun _ => 0))), ((qs 62), .inl (cI, 1004, .inl (fun _ => 0))), ((qs 64), .inl (cI, 600, .inl (fun _ => 0))), ((qs 67), .inl (cI, 72, .inl (fun _ => 0))), ((qs 68), .inl (cI, 72, .inl (fun _ => 0))), ((qs 69), .inl (cI, 72, .inl (fun _ => 0))), ((qs 70), .inl (cI, 24, .inl (fun _ => 0))), ((qs 71), .inl (cI, 24, .inl (fun _ => 0))), ((qs 72), .inl (cZ, 60, .inl (fun _ => 0))), ((qs 73), .inl (cZ, 3, .inl (fun _ => 0)))] := hD
  exact K qs _ _ _ _ hP hD hS dX12_init_463

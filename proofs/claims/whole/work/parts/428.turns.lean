/-! the constructor of Turns, given the row of its grid -/
theorem k_cl_X9_34 : Cond.classLink RX9 34 "[[I" ∈ lw_tbl := tb_2 _ (List.mem_of_getElem? (i := 10) (by decide +kernel))
def jAA (U : State) : Prop := (Cond.arrayOver (.array .int)).before #[] U = true
def jGridRow : Prop := ∀ (p : Program) (l : Launch) (e : Env) (R : Room) (s : State) (m : MethodId) (args : Array Value) (below : List Frame) (meth : Method) (c : Code) (H : Heap) (locs : List Loc) (cells slots : Nat) (Q : State → Prop) (D : va_G) (A : Nat → Prop) (X : va_W) (cI cB cZ cS cC cJ : ClassId) (ls : Array Slot) (rest : List Value), p.tables.exec = Jvm.exec → c.code = cX9_init → s.vm.findClass RX9 = some m.cls → (Cond.classLink RX9 34 "[[I").before args s = true → jAA s → (Cond.arrayClass .int).before args s = true → va_K D vwCl (jTx cI cB cZ cS cC cJ) s → va_P D vwCl X H → va_D A X → va_S A s.heap H locs → (∀ q, s.heap.size ≤ q → A q) → cells + 3 ≤ R.cells → slots + 2002 ≤ R.slots →
  (∀ (q r0 r1 : Nat) (H1 : Heap), va_P D vwCl (X ++ [(q, .inl (cJ, 2, .inr (.inr (.inr (.inr (jO2 r0 r1)))))), (r0, .inl (cI, 1000, .inl (fun _ => 0))), (r1, .inl (cI, 1000, .inl (fun _ => 0)))]) H1 → va_D A (X ++ [(q, .inl (cJ, 2, .inr (.inr (.inr (.inr (jO2 r0 r1)))))), (r0, .inl (cI, 1000, .inl (fun _ => 0))), (r1, .inl (cI, 1000, .inl (fun _ => 0)))]) → va_S A s.heap H1 locs → W p l e R s m args below meth c H1 locs (cells + 3) (slots + 2002) Q (F0 m 74 ls (.ref q :: rest))) → W p l e R s m args below meth c H locs cells slots Q (F0 m 70 ls (.int 1000 :: .int 2 :: rest))
set_option maxHeartbeats 1000000 in
set_option maxRecDepth 100000 in
theorem c_X9_init (hrow : jGridRow) (l : Launch) (G : jGt) (D : va_G) (cI cB cZ cS cC cJ : ClassId) (b : Nat) {E : State → Prop} (hEA : ∀ U : State, E U → jAA U) : jMkS l yX9_init gX9_init rX9_init G D (jTx cI cB cZ cS cC cJ) [.ref b] E [(b, .inr (8, [.int (0 : Int32), .int (0 : Int32), .int (0 : Int32), .int (0 : Int32), .int (0 : Int32), .null, .null, .null, .null, .null, .null, .null, .null, .null, .null, .null]))] (fun qs : Nat → Nat => wTu cI cZ cJ b qs zTu0) 13 9552 := by
  refine jmk_kS RX9 rfl rfl (by decide +kernel) rfl (Nat.le_of_ble_eq_true rfl) ?_
  intro p e s m args below meth c ls A Q hin hEs C hP hD hS hl K
  obtain ⟨⟨hx, hb, hml, hown, hts⟩, hK, hN, hA⟩ := C
  refine lv_aload_n hx hb dX9_init_0 rfl (lv_at hl 0 rfl) ?_
  refine W.objInit hx hb hown (hts _ (wG_in k_ml_X9_5 rfl)) (hts _ (wG_in k_im_obj rfl)) (hts _ (wG_in k_co_obj rfl)) rfl (by rw [hml]; exact hl.1) rfl dX9_init_1 (Nat.le_of_ble_eq_true rfl) (Nat.le_of_ble_eq_true rfl) ?_
  refine W.eq (g2 := F0 m 4 ls []) rfl ?_
  refine lv_aload_n hx hb dX9_init_4 rfl (lv_at hl 0 rfl) ?_
  refine lv_sipush (v := (500 : Int32)) hx hb dX9_init_5 (by decide) ?_
  refine ja_newi hx hb (hts _ (wG_in k_ac_I rfl)) (hK.sub [0, 1, 2] rfl) hP hD hS hA.1 (N := 500) (by decide) (by decide) (by decide) (Nat.le_of_ble_eq_true rfl) (Nat.le_of_ble_eq_true rfl) dX9_init_8 (fun q0 H hP hD hS => ?_)
  refine va_putF (D := D) (ci := 8) (v := .ref q0) (ty := .array .int) (C := RX9) (T := TX9) (N := 16) hx hb hts iw_X9 tyX9 tyX9_ok nmX9 hown hK hP hD hS 0 rfl rfl 5 (by decide) (hts _ (wG_in k_fl_X9_11 rfl)) (fun _ h9 => h9) rfl hin rfl (tyX9_ok 5 (by decide)) rfl rfl (Nat.le_of_ble_eq_true rfl) dX9_init_10 (fun H locs hP hD hS => ?_)
  rw [j_set0] at hP hD
  refine lv_aload_n hx hb dX9_init_13 rfl (lv_at hl 0 rfl) ?_
  refine lv_sipush (v := (2048 : Int32)) hx hb dX9_init_14 (by decide) ?_
  refine ja_newi hx hb (hts _ (wG_in k_ac_I rfl)) (hK.sub [0, 1, 2] rfl) hP hD hS hA.1 (N := 2048) (by decide) (by decide) (by decide) (Nat.le_of_ble_eq_true rfl) (Nat.le_of_ble_eq_true rfl) dX9_init_17 (fun q1 H hP hD hS => ?_)
  refine va_putF (D := D) (ci := 8) (v := .ref q1) (ty := .array .int) (C := RX9) (T := TX9) (N := 16) hx hb hts iw_X9 tyX9 tyX9_ok nmX9 hown hK hP hD hS 0 rfl rfl 6 (by decide) (hts _ (wG_in k_fl_X9_15 rfl)) (fun _ h9 => h9) rfl hin rfl (tyX9_ok 6 (by decide)) rfl rfl (Nat.le_of_ble_eq_true rfl) dX9_init_19 (fun H locs hP hD hS => ?_)
  rw [j_set0] at hP hD
  refine lv_aload_n hx hb dX9_init_22 rfl (lv_at hl 0 rfl) ?_
  refine lv_sipush (v := (500 : Int32)) hx hb dX9_init_23 (by decide) ?_
  refine ja_newi hx hb (hts _ (wG_in k_ac_I rfl)) (hK.sub [0, 1, 2] rfl) hP hD hS hA.1 (N := 500) (by decide) (by decide) (by decide) (Nat.le_of_ble_eq_true rfl) (Nat.le_of_ble_eq_true rfl) dX9_init_26 (fun q2 H hP hD hS => ?_)
  refine va_putF (D := D) (ci := 8) (v := .ref q2) (ty := .array .int) (C := RX9) (T := TX9) (N := 16) hx hb hts iw_X9 tyX9 tyX9_ok nmX9 hown hK hP hD hS 0 rfl rfl 7 (by decide) (hts _ (wG_in k_fl_X9_18 rfl)) (fun _ h9 => h9) rfl hin rfl (tyX9_ok 7 (by decide)) rfl rfl (Nat.le_of_ble_eq_true rfl) dX9_init_28 (fun H locs hP hD hS => ?_)
  rw [j_set0] at hP hD
  refine lv_aload_n hx hb dX9_init_31 rfl (lv_at hl 0 rfl) ?_
  refine lv_sipush (v := (500 : Int32)) hx hb dX9_init_32 (by decide) ?_
  refine ja_newi hx hb (hts _ (wG_in k_ac_I rfl)) (hK.sub [0, 1, 2] rfl) hP hD hS hA.1 (N := 500) (by decide) (by decide) (by decide) (Nat.le_of_ble_eq_true rfl) (Nat.le_of_ble_eq_true rfl) dX9_init_35 (fun q3 H hP hD hS => ?_)
  refine va_putF (D := D) (ci := 8) (v := .ref q3) (ty := .array .int) (C := RX9) (T := TX9) (N := 16) hx hb hts iw_X9 tyX9 tyX9_ok nmX9 hown hK hP hD hS 0 rfl rfl 8 (by decide) (hts _ (wG_in k_fl_X9_21 rfl)) (fun _ h9 => h9) rfl hin rfl (tyX9_ok 8 (by decide)) rfl rfl (Nat.le_of_ble_eq_true rfl) dX9_init_37 (fun H locs hP hD hS => ?_)
  rw [j_set0] at hP hD
  refine lv_aload_n hx hb dX9_init_40 rfl (lv_at hl 0 rfl) ?_
  refine lv_sipush (v := (500 : Int32)) hx hb dX9_init_41 (by decide) ?_
  refine ja_newi hx hb (hts _ (wG_in k_ac_I rfl)) (hK.sub [0, 1, 2] rfl) hP hD hS hA.1 (N := 500) (by decide) (by decide) (by decide) (Nat.le_of_ble_eq_true rfl) (Nat.le_of_ble_eq_true rfl) dX9_init_44 (fun q4 H hP hD hS => ?_)
  refine va_putF (D := D) (ci := 8) (v := .ref q4) (ty := .array .int) (C := RX9) (T := TX9) (N := 16) hx hb hts iw_X9 tyX9 tyX9_ok nmX9 hown hK hP hD hS 0 rfl rfl 9 (by decide) (hts _ (wG_in k_fl_X9_24 rfl)) (fun _ h9 => h9) rfl hin rfl (tyX9_ok 9 (by decide)) rfl rfl (Nat.le_of_ble_eq_true rfl) dX9_init_46 (fun H locs hP hD hS => ?_)
  rw [j_set0] at hP hD
  refine lv_aload_n hx hb dX9_init_49 rfl (lv_at hl 0 rfl) ?_
  refine lv_sipush (v := (500 : Int32)) hx hb dX9_init_50 (by decide) ?_
  refine ja_newi hx hb (hts _ (wG_in k_ac_I rfl)) (hK.sub [0, 1, 2] rfl) hP hD hS hA.1 (N := 500) (by decide) (by decide) (by decide) (Nat.le_of_ble_eq_true rfl) (Nat.le_of_ble_eq_true rfl) dX9_init_53 (fun q5 H hP hD hS => ?_)
  refine va_putF (D := D) (ci := 8) (v := .ref q5) (ty := .array .int) (C := RX9) (T := TX9) (N := 16) hx hb hts iw_X9 tyX9 tyX9_ok nmX9 hown hK hP hD hS 0 rfl rfl 10 (by decide) (hts _ (wG_in k_fl_X9_27 rfl)) (fun _ h9 => h9) rfl hin rfl (tyX9_ok 10 (by decide)) rfl rfl (Nat.le_of_ble_eq_true rfl) dX9_init_55 (fun H locs hP hD hS => ?_)
  rw [j_set0] at hP hD
  refine lv_aload_n hx hb dX9_init_58 rfl (lv_at hl 0 rfl) ?_
  refine lv_iconst (v := (2 : Int32)) hx hb dX9_init_59 (by decide) ?_
  refine ja_newz hx hb (hts _ (wG_in k_ac_Z rfl)) (hK.sub [0, 1, 2] rfl) hP hD hS hA.1 (N := 2) (by decide) (by decide) (by decide) (Nat.le_of_ble_eq_true rfl) (Nat.le_of_ble_eq_true rfl) dX9_init_60 (fun q6 H hP hD hS => ?_)
  refine va_putF (D := D) (ci := 8) (v := .ref q6) (ty := .array .boolean) (C := RX9) (T := TX9) (N := 16) hx hb hts iw_X9 tyX9 tyX9_ok nmX9 hown hK hP hD hS 0 rfl rfl 11 (by decide) (hts _ (wG_in k_fl_X9_30 rfl)) (fun _ h9 => h9) rfl hin rfl (tyX9_ok 11 (by decide)) rfl rfl (Nat.le_of_ble_eq_true rfl) dX9_init_62 (fun H locs hP hD hS => ?_)
  rw [j_set0] at hP hD
  refine lv_aload_n hx hb dX9_init_65 rfl (lv_at hl 0 rfl) ?_
  refine lv_iconst (v := (2 : Int32)) hx hb dX9_init_66 (by decide) ?_
  refine lv_sipush (v := (1000 : Int32)) hx hb dX9_init_67 (by decide) ?_
  refine hrow p l e _ s m args below meth c H _ _ _ Q D A _ cI cB cZ cS cC cJ ls _ hx hb hown (hts _ (wG_in k_cl_X9_34 rfl)) (hEA s hEs) (hts _ (wG_in k_ac_I rfl)) hK hP hD hS hA.1 (Nat.le_of_ble_eq_true rfl) (Nat.le_of_ble_eq_true rfl) (fun q7 r0 r1 H hP hD hS => ?_)
  refine va_putF (D := D) (ci := 8) (v := .ref q7) (ty := .array (.array .int)) (C := RX9) (T := TX9) (N := 16) hx hb hts iw_X9 tyX9 tyX9_ok nmX9 hown hK hP hD hS 0 rfl rfl 12 (by decide) (hts _ (wG_in k_fl_X9_36 rfl)) (fun _ h9 => h9) rfl hin rfl (tyX9_ok 12 (by decide)) rfl rfl (Nat.le_of_ble_eq_true rfl) dX9_init_74 (fun H locs hP hD hS => ?_)
  rw [j_set0] at hP hD
  refine lv_aload_n hx hb dX9_init_77 rfl (lv_at hl 0 rfl) ?_
  refine lv_sipush (v := (1000 : Int32)) hx hb dX9_init_78 (by decide) ?_
  refine ja_newi hx hb (hts _ (wG_in k_ac_I rfl)) (hK.sub [0, 1, 2] rfl) hP hD hS hA.1 (N := 1000) (by decide) (by decide) (by decide) (Nat.le_of_ble_eq_true rfl) (Nat.le_of_ble_eq_true rfl) dX9_init_81 (fun q8 H hP hD hS => ?_)
  refine va_putF (D := D) (ci := 8) (v := .ref q8) (ty := .array .int) (C := RX9) (T := TX9) (N := 16) hx hb hts iw_X9 tyX9 tyX9_ok nmX9 hown hK hP hD hS 0 rfl rfl 13 (by decide) (hts _ (wG_in k_fl_X9_39 rfl)) (fun _ h9 => h9) rfl hin rfl (tyX9_ok 13 (by decide)) rfl rfl (Nat.le_of_ble_eq_true rfl) dX9_init_83 (fun H locs hP hD hS => ?_)
  rw [j_set0] at hP hD
  refine lv_aload_n hx hb dX9_init_86 rfl (lv_at hl 0 rfl) ?_
  refine lv_sipush (v := (1000 : Int32)) hx hb dX9_init_87 (by decide) ?_
  refine ja_newi hx hb (hts _ (wG_in k_ac_I rfl)) (hK.sub [0, 1, 2] rfl) hP hD hS hA.1 (N := 1000) (by decide) (by decide) (by decide) (Nat.le_of_ble_eq_true rfl) (Nat.le_of_ble_eq_true rfl) dX9_init_90 (fun q9 H hP hD hS => ?_)
  refine va_putF (D := D) (ci := 8) (v := .ref q9) (ty := .array .int) (C := RX9) (T := TX9) (N := 16) hx hb hts iw_X9 tyX9 tyX9_ok nmX9 hown hK hP hD hS 0 rfl rfl 14 (by decide) (hts _ (wG_in k_fl_X9_42 rfl)) (fun _ h9 => h9) rfl hin rfl (tyX9_ok 14 (by decide)) rfl rfl (Nat.le_of_ble_eq_true rfl) dX9_init_92 (fun H locs hP hD hS => ?_)
  rw [j_set0] at hP hD
  refine lv_aload_n hx hb dX9_init_95 rfl (lv_at hl 0 rfl) ?_
  refine lv_sipush (v := (1000 : Int32)) hx hb dX9_init_96 (by decide) ?_
  refine ja_newi hx hb (hts _ (wG_in k_ac_I rfl)) (hK.sub [0, 1, 2] rfl) hP hD hS hA.1 (N := 1000) (by decide) (by decide) (by decide) (Nat.le_of_ble_eq_true rfl) (Nat.le_of_ble_eq_true rfl) dX9_init_99 (fun q10 H hP hD hS => ?_)
  refine va_putF (D := D) (ci := 8) (v := .ref q10) (ty := .array .int) (C := RX9) (T := TX9) (N := 16) hx hb hts iw_X9 tyX9 tyX9_ok nmX9 hown hK hP hD hS 0 rfl rfl 15 (by decide) (hts _ (wG_in k_fl_X9_45 rfl)) (fun _ h9 => h9) rfl hin rfl (tyX9_ok 15 (by decide)) rfl rfl (Nat.le_of_ble_eq_true rfl) dX9_init_101 (fun H locs hP hD hS => ?_)
  rw [j_set0] at hP hD
  exact K (fun j => ([q0, q1, q2, q3, q4, q5, q6, q7, r0, r1, q8, q9, q10] : List Nat).getD j 0) _ _ _ _ hP hD hS dX9_init_104

abbrev rX0_rowEntry : Room := { frames := 1, cells := 0, slots := 0, locals := 22 }
abbrev gX0_rowEntry : List Cond := wG yX0_rowEntry cX0_rowEntry 4 (some .int)
def w_X0_rowEntry (cI cB cZ : ClassId) (a_t a_t_children a_t_lawful a_t_wives : Nat) (u_t_orders : Value) (u_t_orderCount : Int32) (u_t_keepers : Value) (u_t_keeperCount : Int32) (u_t_shares : Value) (u_t_kindCount u_t_lawfulSystems : Int32) (u_t_judgedBy : Value) (u_t_judged : Int32) (u_t_wheel : Value) (s_t_lawfulCount s_t_size : Int32) (r_t_children r_t_lawful r_t_wives : jA) : va_W := [(a_t, .inr (0, (oX0 s_t_size u_t_orders u_t_orderCount u_t_keepers u_t_keeperCount (.ref a_t_wives) (.ref a_t_children) u_t_shares u_t_kindCount (.ref a_t_lawful) s_t_lawfulCount u_t_lawfulSystems u_t_judgedBy u_t_judged u_t_wheel))), (a_t_children, .inl (cI, r_t_children.1, .inl r_t_children.2)), (a_t_lawful, .inl (cI, r_t_lawful.1, .inl r_t_lawful.2)), (a_t_wives, .inl (cI, r_t_wives.1, .inl r_t_wives.2))]
def f_X0_rowEntry (s_t_lawfulCount s_t_size : Int32) (r_t_children r_t_lawful r_t_wives : jA) (x1 x2 : Int32) : Option (Int32) :=
  if x1 < 0 then
  some (-1 : Int32)
  else
  if s_t_lawfulCount ≤ x1 then
  some (-1 : Int32)
  else
  if x2 < 0 then
  some (-1 : Int32)
  else
  if x2 < ((2 : Int32) * s_t_size) then
  jM (f_X11_entry r_t_lawful x1) fun r5 =>
  if s_t_size ≤ x2 then
  jM (f_X11_entry r_t_children r5) fun r7 =>
  jM (f_X0_numberAt s_t_size r7 (x2 - s_t_size)) fun r8 =>
  some r8
  else
  jM (f_X11_entry r_t_wives r5) fun r9 =>
  jM (f_X0_numberAt s_t_size r9 x2) fun r10 =>
  some r10
  else
  some (-1 : Int32)
set_option maxHeartbeats 4000000 in
set_option maxRecDepth 100000 in
theorem t_X0_rowEntry {p : Program} {l : Launch} {e : Env} {s : State} {m : MethodId} {args : Array Value} {below : List Frame} {meth : Method} {c : Code} {A : Nat → Prop} {Q : State → Prop} (G : jGt) (D : va_G) (cI cB cZ : ClassId) (a_t a_t_children a_t_lawful a_t_wives : Nat) (u_t_orders : Value) (u_t_orderCount : Int32) (u_t_keepers : Value) (u_t_keeperCount : Int32) (u_t_shares : Value) (u_t_kindCount u_t_lawfulSystems : Int32) (u_t_judgedBy : Value) (u_t_judged : Int32) (u_t_wheel : Value) (s_t_lawfulCount s_t_size : Int32) (r_t_children r_t_lawful r_t_wives : jA) (x1 x2 : Int32) (C : jCx p s m args c cX0_rowEntry 4 gX0_rowEntry RX0 G D (jT cI cB cZ) A) {o : Int32} (hf : f_X0_rowEntry s_t_lawfulCount s_t_size r_t_children r_t_lawful r_t_wives x1 x2 = some o) (K : ∀ (H : Heap) (locs : List Loc) (pc : Nat) (ls : Array Slot), va_P D vwCl (w_X0_rowEntry cI cB cZ a_t a_t_children a_t_lawful a_t_wives u_t_orders u_t_orderCount u_t_keepers u_t_keeperCount u_t_shares u_t_kindCount u_t_lawfulSystems u_t_judgedBy u_t_judged u_t_wheel s_t_lawfulCount s_t_size r_t_children r_t_lawful r_t_wives) H → va_S A s.heap H locs → decode cX0_rowEntry pc = .ok (.ireturn, 1) → W p l e rX0_rowEntry s m args below meth c H locs 0 0 Q (F0 m pc ls [.int o])) {H : Heap} {locs : List Loc} {ls : Array Slot} (hP : va_P D vwCl (w_X0_rowEntry cI cB cZ a_t a_t_children a_t_lawful a_t_wives u_t_orders u_t_orderCount u_t_keepers u_t_keeperCount u_t_shares u_t_kindCount u_t_lawfulSystems u_t_judgedBy u_t_judged u_t_wheel s_t_lawfulCount s_t_size r_t_children r_t_lawful r_t_wives) H) (hD : va_D A (w_X0_rowEntry cI cB cZ a_t a_t_children a_t_lawful a_t_wives u_t_orders u_t_orderCount u_t_keepers u_t_keeperCount u_t_shares u_t_kindCount u_t_lawfulSystems u_t_judgedBy u_t_judged u_t_wheel s_t_lawfulCount s_t_size r_t_children r_t_lawful r_t_wives)) (hS : va_S A s.heap H locs) (hl : lv_has ls 4 [(0, .ref a_t), (1, .int x1), (2, .int x2)]) : W p l e rX0_rowEntry s m args below meth c H locs 0 0 Q (F0 m 0 ls []) := by
  obtain ⟨⟨hx, hb, hml, hown, hts⟩, hK, hN, hA⟩ := C
  have C : jCx p s m args c cX0_rowEntry 4 gX0_rowEntry RX0 G D (jT cI cB cZ) A := ⟨⟨hx, hb, hml, hown, hts⟩, hK, hN, hA⟩
  unfold f_X0_rowEntry at hf
  refine lv_iload_n hx hb dX0_rowEntry_0 rfl (lv_at hl 1 rfl) ?_
  refine lv_if_lt (tgt := 26) hx hb dX0_rowEntry_1 (by decide) (fun c1 => ?_) (fun c1 => ?_)
  · replace hf := jif_t c1 hf
    refine lv_iconst (v := (-1 : Int32)) hx hb dX0_rowEntry_26 (by decide) ?_
    have ho := Option.some.inj hf
    subst ho
    exact K _ _ _ _ hP hS dX0_rowEntry_27
  · replace hf := jif_f c1 hf
    refine lv_iload_n hx hb dX0_rowEntry_4 rfl (lv_at hl 1 rfl) ?_
    refine lv_aload_n hx hb dX0_rowEntry_5 rfl (lv_at hl 0 rfl) ?_
    refine va_get (D := D) (ci := 0) (v := .int s_t_lawfulCount) (C := RX0) (T := TX0) (N := 15) hx hb hts iw_X0 hown hK hP 0 rfl rfl 10 (by decide) (hts _ (wG_in k_fl_X0_109 rfl)) (fun _ h9 => h9) rfl dX0_rowEntry_6 ?_
    refine lv_icmp_ge (tgt := 26) hx hb dX0_rowEntry_9 (by decide) (fun c2 => ?_) (fun c2 => ?_)
    · replace hf := jif_t c2 hf
      refine lv_iconst (v := (-1 : Int32)) hx hb dX0_rowEntry_26 (by decide) ?_
      have ho := Option.some.inj hf
      subst ho
      exact K _ _ _ _ hP hS dX0_rowEntry_27
    · replace hf := jif_f c2 hf
      refine lv_iload_n hx hb dX0_rowEntry_12 rfl (lv_at hl 2 rfl) ?_
      refine lv_if_lt (tgt := 26) hx hb dX0_rowEntry_13 (by decide) (fun c3 => ?_) (fun c3 => ?_)
      · replace hf := jif_t c3 hf
        refine lv_iconst (v := (-1 : Int32)) hx hb dX0_rowEntry_26 (by decide) ?_
        have ho := Option.some.inj hf
        subst ho
        exact K _ _ _ _ hP hS dX0_rowEntry_27
      · replace hf := jif_f c3 hf
        refine lv_iload_n hx hb dX0_rowEntry_16 rfl (lv_at hl 2 rfl) ?_
        refine lv_iconst (v := (2 : Int32)) hx hb dX0_rowEntry_17 (by decide) ?_
        refine lv_aload_n hx hb dX0_rowEntry_18 rfl (lv_at hl 0 rfl) ?_
        refine va_get (D := D) (ci := 0) (v := .int s_t_size) (C := RX0) (T := TX0) (N := 15) hx hb hts iw_X0 hown hK hP 0 rfl rfl 0 (by decide) (hts _ (wG_in k_fl_X0_44 rfl)) (fun _ h9 => h9) rfl dX0_rowEntry_19 ?_
        refine lv_imul hx hb dX0_rowEntry_22 ?_
        refine lv_icmp_lt (tgt := 28) hx hb dX0_rowEntry_23 (by decide) (fun c4 => ?_) (fun c4 => ?_)
        · replace hf := jif_t c4 hf
          refine lv_aload_n hx hb dX0_rowEntry_28 rfl (lv_at hl 0 rfl) ?_
          refine va_get (D := D) (ci := 0) (v := .ref a_t_lawful) (C := RX0) (T := TX0) (N := 15) hx hb hts iw_X0 hown hK hP 0 rfl rfl 9 (by decide) (hts _ (wG_in k_fl_X0_27 rfl)) (fun _ h9 => h9) rfl dX0_rowEntry_29 ?_
          refine lv_iload_n hx hb dX0_rowEntry_32 rfl (lv_at hl 1 rfl) ?_
          obtain ⟨r5, hgr5, hf⟩ := jM_some hf
          refine jcN_i0 (As := [.ref a_t_lawful, .int x1]) (rest := []) ⟨hx, hb, hml, hown, hts⟩ hK hN hA (c_X11_entry l G D cI cB cZ a_t_lawful r_t_lawful x1 hgr5) ⟨va_cnB 2 hts (wG_good k_co_X11_entry) rfl rfl rfl (jN_l nl_X0_119 hN) (hts _ (wG_in k_in_X11 rfl)) hd_X11_entry.2 ⟨Nat.le_of_ble_eq_true rfl, Nat.le_of_ble_eq_true rfl⟩, hts _ (wG_in k_st_X11_entry rfl), trivial⟩ hP hD hS [2] rfl rfl rfl rfl hl.1 rfl (Nat.le_of_ble_eq_true rfl) dX0_rowEntry_33 ⟨Nat.le_of_ble_eq_true rfl, Nat.le_of_ble_eq_true rfl⟩ (fun H locs hP hD hS => ?_)
          refine lv_istore_n (lv' := [(3, .int r5), (0, .ref a_t), (1, .int x1), (2, .int x2)]) hx hb dX0_rowEntry_36 rfl hl (by decide) rfl (fun ls hl => ?_)
          refine lv_iload_n hx hb dX0_rowEntry_37 rfl (lv_at hl 3 rfl) ?_
          refine lv_aload_n hx hb dX0_rowEntry_38 rfl (lv_at hl 1 rfl) ?_
          refine va_get (D := D) (ci := 0) (v := .int s_t_size) (C := RX0) (T := TX0) (N := 15) hx hb hts iw_X0 hown hK hP 0 rfl rfl 0 (by decide) (hts _ (wG_in k_fl_X0_44 rfl)) (fun _ h9 => h9) rfl dX0_rowEntry_39 ?_
          refine lv_icmp_ge (tgt := 64) hx hb dX0_rowEntry_42 (by decide) (fun c6 => ?_) (fun c6 => ?_)
          · replace hf := jif_t c6 hf
            refine lv_aload_n hx hb dX0_rowEntry_64 rfl (lv_at hl 1 rfl) ?_
            refine va_get (D := D) (ci := 0) (v := .int s_t_size) (C := RX0) (T := TX0) (N := 15) hx hb hts iw_X0 hown hK hP 0 rfl rfl 0 (by decide) (hts _ (wG_in k_fl_X0_44 rfl)) (fun _ h9 => h9) rfl dX0_rowEntry_65 ?_
            refine lv_aload_n hx hb dX0_rowEntry_68 rfl (lv_at hl 1 rfl) ?_
            refine va_get (D := D) (ci := 0) (v := .ref a_t_children) (C := RX0) (T := TX0) (N := 15) hx hb hts iw_X0 hown hK hP 0 rfl rfl 6 (by decide) (hts _ (wG_in k_fl_X0_21 rfl)) (fun _ h9 => h9) rfl dX0_rowEntry_69 ?_
            refine lv_iload_n hx hb dX0_rowEntry_72 rfl (lv_at hl 0 rfl) ?_
            obtain ⟨r7, hgr7, hf⟩ := jM_some hf
            refine jcN_i0 (As := [.ref a_t_children, .int r5]) (rest := [.int s_t_size]) ⟨hx, hb, hml, hown, hts⟩ hK hN hA (c_X11_entry l G D cI cB cZ a_t_children r_t_children r5 hgr7) ⟨va_cnB 2 hts (wG_good k_co_X11_entry) rfl rfl rfl (jN_l nl_X0_119 hN) (hts _ (wG_in k_in_X11 rfl)) hd_X11_entry.2 ⟨Nat.le_of_ble_eq_true rfl, Nat.le_of_ble_eq_true rfl⟩, hts _ (wG_in k_st_X11_entry rfl), trivial⟩ hP hD hS [1] rfl rfl rfl rfl hl.1 rfl (Nat.le_of_ble_eq_true rfl) dX0_rowEntry_73 ⟨Nat.le_of_ble_eq_true rfl, Nat.le_of_ble_eq_true rfl⟩ (fun H locs hP hD hS => ?_)
            refine lv_iload_n hx hb dX0_rowEntry_76 rfl (lv_at hl 3 rfl) ?_
            refine lv_aload_n hx hb dX0_rowEntry_77 rfl (lv_at hl 1 rfl) ?_
            refine va_get (D := D) (ci := 0) (v := .int s_t_size) (C := RX0) (T := TX0) (N := 15) hx hb hts iw_X0 hown hK hP 0 rfl rfl 0 (by decide) (hts _ (wG_in k_fl_X0_44 rfl)) (fun _ h9 => h9) rfl dX0_rowEntry_78 ?_
            refine lv_isub hx hb dX0_rowEntry_81 ?_
            obtain ⟨r8, hgr8, hf⟩ := jM_some hf
            refine jcS_i0 (As := [.int s_t_size, .int r7, .int (x2 - s_t_size)]) (rest := []) ⟨hx, hb, hml, hown, hts⟩ hK hN hA (c_X0_numberAt l G D cI cB cZ s_t_size r7 (x2 - s_t_size) hgr8) (va_cwS 3 hts (wG_S k_ml_X0_72 k_st_X0_numberAt k_in_X0 k_co_X0_numberAt) rfl rfl rfl hd_X0_numberAt.2 ⟨Nat.le_of_ble_eq_true rfl, Nat.le_of_ble_eq_true rfl⟩) hP hD hS [] rfl rfl rfl rfl hl.1 rfl (Nat.le_of_ble_eq_true rfl) dX0_rowEntry_82 ⟨Nat.le_of_ble_eq_true rfl, Nat.le_of_ble_eq_true rfl⟩ (fun H locs hP hD hS => ?_)
            have ho := Option.some.inj hf
            subst ho
            exact K _ _ _ _ hP hS dX0_rowEntry_85
          · replace hf := jif_f c6 hf
            refine lv_aload_n hx hb dX0_rowEntry_45 rfl (lv_at hl 1 rfl) ?_
            refine va_get (D := D) (ci := 0) (v := .int s_t_size) (C := RX0) (T := TX0) (N := 15) hx hb hts iw_X0 hown hK hP 0 rfl rfl 0 (by decide) (hts _ (wG_in k_fl_X0_44 rfl)) (fun _ h9 => h9) rfl dX0_rowEntry_46 ?_
            refine lv_aload_n hx hb dX0_rowEntry_49 rfl (lv_at hl 1 rfl) ?_
            refine va_get (D := D) (ci := 0) (v := .ref a_t_wives) (C := RX0) (T := TX0) (N := 15) hx hb hts iw_X0 hown hK hP 0 rfl rfl 5 (by decide) (hts _ (wG_in k_fl_X0_18 rfl)) (fun _ h9 => h9) rfl dX0_rowEntry_50 ?_
            refine lv_iload_n hx hb dX0_rowEntry_53 rfl (lv_at hl 0 rfl) ?_
            obtain ⟨r9, hgr9, hf⟩ := jM_some hf
            refine jcN_i0 (As := [.ref a_t_wives, .int r5]) (rest := [.int s_t_size]) ⟨hx, hb, hml, hown, hts⟩ hK hN hA (c_X11_entry l G D cI cB cZ a_t_wives r_t_wives r5 hgr9) ⟨va_cnB 2 hts (wG_good k_co_X11_entry) rfl rfl rfl (jN_l nl_X0_119 hN) (hts _ (wG_in k_in_X11 rfl)) hd_X11_entry.2 ⟨Nat.le_of_ble_eq_true rfl, Nat.le_of_ble_eq_true rfl⟩, hts _ (wG_in k_st_X11_entry rfl), trivial⟩ hP hD hS [3] rfl rfl rfl rfl hl.1 rfl (Nat.le_of_ble_eq_true rfl) dX0_rowEntry_54 ⟨Nat.le_of_ble_eq_true rfl, Nat.le_of_ble_eq_true rfl⟩ (fun H locs hP hD hS => ?_)
            refine lv_iload_n hx hb dX0_rowEntry_57 rfl (lv_at hl 3 rfl) ?_
            obtain ⟨r10, hgr10, hf⟩ := jM_some hf
            refine jcS_i0 (As := [.int s_t_size, .int r9, .int x2]) (rest := []) ⟨hx, hb, hml, hown, hts⟩ hK hN hA (c_X0_numberAt l G D cI cB cZ s_t_size r9 x2 hgr10) (va_cwS 3 hts (wG_S k_ml_X0_72 k_st_X0_numberAt k_in_X0 k_co_X0_numberAt) rfl rfl rfl hd_X0_numberAt.2 ⟨Nat.le_of_ble_eq_true rfl, Nat.le_of_ble_eq_true rfl⟩) hP hD hS [] rfl rfl rfl rfl hl.1 rfl (Nat.le_of_ble_eq_true rfl) dX0_rowEntry_58 ⟨Nat.le_of_ble_eq_true rfl, Nat.le_of_ble_eq_true rfl⟩ (fun H locs hP hD hS => ?_)
            refine lv_goto (tgt := 85) hx hb dX0_rowEntry_61 (by decide) ?_
            have ho := Option.some.inj hf
            subst ho
            exact K _ _ _ _ hP hS dX0_rowEntry_85
        · replace hf := jif_f c4 hf
          refine lv_iconst (v := (-1 : Int32)) hx hb dX0_rowEntry_26 (by decide) ?_
          have ho := Option.some.inj hf
          subst ho
          exact K _ _ _ _ hP hS dX0_rowEntry_27
set_option maxHeartbeats 4000000 in
set_option maxRecDepth 100000 in
theorem c_X0_rowEntry (l : Launch) (G : jGt) (D : va_G) (cI cB cZ : ClassId) (a_t a_t_children a_t_lawful a_t_wives : Nat) (u_t_orders : Value) (u_t_orderCount : Int32) (u_t_keepers : Value) (u_t_keeperCount : Int32) (u_t_shares : Value) (u_t_kindCount u_t_lawfulSystems : Int32) (u_t_judgedBy : Value) (u_t_judged : Int32) (u_t_wheel : Value) (s_t_lawfulCount s_t_size : Int32) (r_t_children r_t_lawful r_t_wives : jA) (x1 x2 : Int32) {o : Int32} (hf : f_X0_rowEntry s_t_lawfulCount s_t_size r_t_children r_t_lawful r_t_wives x1 x2 = some o) : jMi l yX0_rowEntry gX0_rowEntry rX0_rowEntry G D (jT cI cB cZ) [.ref a_t, .int x1, .int x2] (w_X0_rowEntry cI cB cZ a_t a_t_children a_t_lawful a_t_wives u_t_orders u_t_orderCount u_t_keepers u_t_keeperCount u_t_shares u_t_kindCount u_t_lawfulSystems u_t_judgedBy u_t_judged u_t_wheel s_t_lawfulCount s_t_size r_t_children r_t_lawful r_t_wives) (w_X0_rowEntry cI cB cZ a_t a_t_children a_t_lawful a_t_wives u_t_orders u_t_orderCount u_t_keepers u_t_keeperCount u_t_shares u_t_kindCount u_t_lawfulSystems u_t_judgedBy u_t_judged u_t_wheel s_t_lawfulCount s_t_size r_t_children r_t_lawful r_t_wives) o := by
  refine jmk_i RX0 rfl (by decide +kernel) rfl (Nat.le_of_ble_eq_true rfl) rfl ?_
  intro p e s m args below meth c ls A Q C hP hD hS hl K
  exact t_X0_rowEntry G D cI cB cZ a_t a_t_children a_t_lawful a_t_wives u_t_orders u_t_orderCount u_t_keepers u_t_keeperCount u_t_shares u_t_kindCount u_t_lawfulSystems u_t_judgedBy u_t_judged u_t_wheel s_t_lawfulCount s_t_size r_t_children r_t_lawful r_t_wives x1 x2 C hf K hP hD hS hl
abbrev rX1_of : Room := { frames := 0, cells := 0, slots := 0, locals := 0 }
abbrev gX1_of : List Cond := wG yX1_of cX1_of 3 (some .int)
def f_X1_of (x0 x1 x2 : Int32) : Option (Int32) :=
  some (((x0 <<< ((28 : Int32) &&& 31)) ||| (x1 <<< ((24 : Int32) &&& 31))) ||| x2)
set_option maxHeartbeats 4000000 in
set_option maxRecDepth 100000 in
theorem t_X1_of {p : Program} {l : Launch} {e : Env} {s : State} {m : MethodId} {args : Array Value} {below : List Frame} {meth : Method} {c : Code} {A : Nat → Prop} {Q : State → Prop} (G : jGt) (D : va_G) (cI cB cZ : ClassId) (x0 x1 x2 : Int32) (C : jCx p s m args c cX1_of 3 gX1_of RX1 G D (jT cI cB cZ) A) {o : Int32} (hf : f_X1_of x0 x1 x2 = some o) (K : ∀ (H : Heap) (locs : List Loc) (pc : Nat) (ls : Array Slot), va_P D vwCl [] H → va_S A s.heap H locs → decode cX1_of pc = .ok (.ireturn, 1) → W p l e rX1_of s m args below meth c H locs 0 0 Q (F0 m pc ls [.int o])) {H : Heap} {locs : List Loc} {ls : Array Slot} (hP : va_P D vwCl [] H) (hD : va_D A []) (hS : va_S A s.heap H locs) (hl : lv_has ls 3 [(0, .int x0), (1, .int x1), (2, .int x2)]) : W p l e rX1_of s m args below meth c H locs 0 0 Q (F0 m 0 ls []) := by
  obtain ⟨⟨hx, hb, hml, hown, hts⟩, hK, hN, hA⟩ := C
  have C : jCx p s m args c cX1_of 3 gX1_of RX1 G D (jT cI cB cZ) A := ⟨⟨hx, hb, hml, hown, hts⟩, hK, hN, hA⟩
  unfold f_X1_of at hf
  refine lv_iload_n hx hb dX1_of_0 rfl (lv_at hl 0 rfl) ?_
  refine lv_bipush (v := (28 : Int32)) hx hb dX1_of_1 (by decide) ?_
  refine lv_ishl hx hb dX1_of_3 ?_
  refine lv_iload_n hx hb dX1_of_4 rfl (lv_at hl 1 rfl) ?_
  refine lv_bipush (v := (24 : Int32)) hx hb dX1_of_5 (by decide) ?_
  refine lv_ishl hx hb dX1_of_7 ?_
  refine lv_ior hx hb dX1_of_8 ?_
  refine lv_iload_n hx hb dX1_of_9 rfl (lv_at hl 2 rfl) ?_
  refine lv_ior hx hb dX1_of_10 ?_
  have ho := Option.some.inj hf
  subst ho
  exact K _ _ _ _ hP hS dX1_of_11
set_option maxHeartbeats 4000000 in
set_option maxRecDepth 100000 in
theorem c_X1_of (l : Launch) (G : jGt) (D : va_G) (cI cB cZ : ClassId) (x0 x1 x2 : Int32) {o : Int32} (hf : f_X1_of x0 x1 x2 = some o) : jMi l yX1_of gX1_of rX1_of G D (jT cI cB cZ) [.int x0, .int x1, .int x2] [] [] o := by
  refine jmk_i RX1 rfl (by decide +kernel) rfl (Nat.le_of_ble_eq_true rfl) rfl ?_
  intro p e s m args below meth c ls A Q C hP hD hS hl K
  exact t_X1_of G D cI cB cZ x0 x1 x2 C hf K hP hD hS hl
abbrev rX1_to : Room := { frames := 1, cells := 0, slots := 0, locals := 21 }
abbrev gX1_to : List Cond := wG yX1_to cX1_to 2 (some .int)
def f_X1_to (x0 : Int32) : Option (Int32) :=
  jM (f_X1_size x0) fun r1 =>
  if r1 = 0 then
  jM (f_X1_from x0) fun r5 =>
  some r5
  else
  jM (f_X1_letterAt x0 (r1 - (1 : Int32))) fun r3 =>
  jM (f_X1_sexOf r3) fun r4 =>
  some r4
set_option maxHeartbeats 4000000 in
set_option maxRecDepth 100000 in
theorem t_X1_to {p : Program} {l : Launch} {e : Env} {s : State} {m : MethodId} {args : Array Value} {below : List Frame} {meth : Method} {c : Code} {A : Nat → Prop} {Q : State → Prop} (G : jGt) (D : va_G) (cI cB cZ : ClassId) (x0 : Int32) (C : jCx p s m args c cX1_to 2 gX1_to RX1 G D (jT cI cB cZ) A) {o : Int32} (hf : f_X1_to x0 = some o) (K : ∀ (H : Heap) (locs : List Loc) (pc : Nat) (ls : Array Slot), va_P D vwCl [] H → va_S A s.heap H locs → decode cX1_to pc = .ok (.ireturn, 1) → W p l e rX1_to s m args below meth c H locs 0 0 Q (F0 m pc ls [.int o])) {H : Heap} {locs : List Loc} {ls : Array Slot} (hP : va_P D vwCl [] H) (hD : va_D A []) (hS : va_S A s.heap H locs) (hl : lv_has ls 2 [(0, .int x0)]) : W p l e rX1_to s m args below meth c H locs 0 0 Q (F0 m 0 ls []) := by
  obtain ⟨⟨hx, hb, hml, hown, hts⟩, hK, hN, hA⟩ := C
  have C : jCx p s m args c cX1_to 2 gX1_to RX1 G D (jT cI cB cZ) A := ⟨⟨hx, hb, hml, hown, hts⟩, hK, hN, hA⟩
  unfold f_X1_to at hf
  refine lv_iload_n hx hb dX1_to_0 rfl (lv_at hl 0 rfl) ?_
  obtain ⟨r1, hgr1, hf⟩ := jM_some hf
  refine jcS_i0 (As := [.int x0]) (rest := []) ⟨hx, hb, hml, hown, hts⟩ hK hN hA (c_X1_size l G D cI cB cZ x0 hgr1) (va_cwS 1 hts (wG_S k_ml_X1_23 k_st_X1_size k_in_X1 k_co_X1_size) rfl rfl rfl hd_X1_size.2 ⟨Nat.le_of_ble_eq_true rfl, Nat.le_of_ble_eq_true rfl⟩) hP hD hS [] rfl rfl rfl rfl hl.1 rfl (Nat.le_of_ble_eq_true rfl) dX1_to_1 ⟨Nat.le_of_ble_eq_true rfl, Nat.le_of_ble_eq_true rfl⟩ (fun H locs hP hD hS => ?_)
  refine lv_istore_n (lv' := [(1, .int r1), (0, .int x0)]) hx hb dX1_to_4 rfl hl (by decide) rfl (fun ls hl => ?_)
  refine lv_iload_n hx hb dX1_to_5 rfl (lv_at hl 0 rfl) ?_
  refine lv_if_ne (tgt := 16) hx hb dX1_to_6 (by decide) (fun c2 => ?_) (fun c2 => ?_)
  · replace hf := jif_f c2 hf
    refine lv_iload_n hx hb dX1_to_16 rfl (lv_at hl 1 rfl) ?_
    refine lv_iload_n hx hb dX1_to_17 rfl (lv_at hl 0 rfl) ?_
    refine lv_iconst (v := (1 : Int32)) hx hb dX1_to_18 (by decide) ?_
    refine lv_isub hx hb dX1_to_19 ?_
    obtain ⟨r3, hgr3, hf⟩ := jM_some hf
    refine jcS_i0 (As := [.int x0, .int (r1 - (1 : Int32))]) (rest := []) ⟨hx, hb, hml, hown, hts⟩ hK hN hA (c_X1_letterAt l G D cI cB cZ x0 (r1 - (1 : Int32)) hgr3) (va_cwS 2 hts (wG_S k_ml_X1_30 k_st_X1_letterAt k_in_X1 k_co_X1_letterAt) rfl rfl rfl hd_X1_letterAt.2 ⟨Nat.le_of_ble_eq_true rfl, Nat.le_of_ble_eq_true rfl⟩) hP hD hS [] rfl rfl rfl rfl hl.1 rfl (Nat.le_of_ble_eq_true rfl) dX1_to_20 ⟨Nat.le_of_ble_eq_true rfl, Nat.le_of_ble_eq_true rfl⟩ (fun H locs hP hD hS => ?_)
    obtain ⟨r4, hgr4, hf⟩ := jM_some hf
    refine jcS_i0 (As := [.int r3]) (rest := []) ⟨hx, hb, hml, hown, hts⟩ hK hN hA (c_X1_sexOf l G D cI cB cZ r3 hgr4) (va_cwS 1 hts (wG_S k_ml_X1_34 k_st_X1_sexOf k_in_X1 k_co_X1_sexOf) rfl rfl rfl hd_X1_sexOf.2 ⟨Nat.le_of_ble_eq_true rfl, Nat.le_of_ble_eq_true rfl⟩) hP hD hS [] rfl rfl rfl rfl hl.1 rfl (Nat.le_of_ble_eq_true rfl) dX1_to_23 ⟨Nat.le_of_ble_eq_true rfl, Nat.le_of_ble_eq_true rfl⟩ (fun H locs hP hD hS => ?_)
    have ho := Option.some.inj hf
    subst ho
    exact K _ _ _ _ hP hS dX1_to_26
  · replace hf := jif_t c2 hf
    refine lv_iload_n hx hb dX1_to_9 rfl (lv_at hl 1 rfl) ?_
    obtain ⟨r5, hgr5, hf⟩ := jM_some hf
    refine jcS_i0 (As := [.int x0]) (rest := []) ⟨hx, hb, hml, hown, hts⟩ hK hN hA (c_X1_from l G D cI cB cZ x0 hgr5) (va_cwS 1 hts (wG_S k_ml_X1_27 k_st_X1_from k_in_X1 k_co_X1_from) rfl rfl rfl hd_X1_from.2 ⟨Nat.le_of_ble_eq_true rfl, Nat.le_of_ble_eq_true rfl⟩) hP hD hS [] rfl rfl rfl rfl hl.1 rfl (Nat.le_of_ble_eq_true rfl) dX1_to_10 ⟨Nat.le_of_ble_eq_true rfl, Nat.le_of_ble_eq_true rfl⟩ (fun H locs hP hD hS => ?_)
    refine lv_goto (tgt := 26) hx hb dX1_to_13 (by decide) ?_
    have ho := Option.some.inj hf
    subst ho
    exact K _ _ _ _ hP hS dX1_to_26
set_option maxHeartbeats 4000000 in
set_option maxRecDepth 100000 in
theorem c_X1_to (l : Launch) (G : jGt) (D : va_G) (cI cB cZ : ClassId) (x0 : Int32) {o : Int32} (hf : f_X1_to x0 = some o) : jMi l yX1_to gX1_to rX1_to G D (jT cI cB cZ) [.int x0] [] [] o := by
  refine jmk_i RX1 rfl (by decide +kernel) rfl (Nat.le_of_ble_eq_true rfl) rfl ?_
  intro p e s m args below meth c ls A Q C hP hD hS hl K
  exact t_X1_to G D cI cB cZ x0 C hf K hP hD hS hl
abbrev rX1_fits : Room := { frames := 0, cells := 0, slots := 0, locals := 0 }
abbrev gX1_fits : List Cond := wG yX1_fits cX1_fits 2 (some .boolean)
def f_X1_fits_j13 (k0 k1 : Int32) : Option (Int32) :=
  if k0 = k1 then
  some (0 : Int32)
  else
  some (1 : Int32)
set_option maxHeartbeats 4000000 in
set_option maxRecDepth 100000 in
theorem t_X1_fits_j13 {p : Program} {l : Launch} {e : Env} {s : State} {m : MethodId} {args : Array Value} {below : List Frame} {meth : Method} {c : Code} {A : Nat → Prop} {Q : State → Prop} (G : jGt) (D : va_G) (cI cB cZ : ClassId) (k0 k1 : Int32) (C : jCx p s m args c cX1_fits 2 gX1_fits RX1 G D (jT cI cB cZ) A) {o : Int32} (hf : f_X1_fits_j13 k0 k1 = some o) (K : ∀ (H : Heap) (locs : List Loc) (pc : Nat) (ls : Array Slot), (o = 0 ∨ o = 1) → va_P D vwCl [] H → va_S A s.heap H locs → decode cX1_fits pc = .ok (.ireturn, 1) → W p l e rX1_fits s m args below meth c H locs 0 0 Q (F0 m pc ls [.int o])) {H : Heap} {locs : List Loc} {ls : Array Slot} (hP : va_P D vwCl [] H) (hD : va_D A []) (hS : va_S A s.heap H locs) (hl : lv_has ls 2 []) : W p l e rX1_fits s m args below meth c H locs 0 0 Q (F0 m 13 ls [.int k1, .int k0]) := by
  obtain ⟨⟨hx, hb, hml, hown, hts⟩, hK, hN, hA⟩ := C
  have C : jCx p s m args c cX1_fits 2 gX1_fits RX1 G D (jT cI cB cZ) A := ⟨⟨hx, hb, hml, hown, hts⟩, hK, hN, hA⟩
  unfold f_X1_fits_j13 at hf
  refine lv_icmp_eq (tgt := 20) hx hb dX1_fits_13 (by decide) (fun c2 => ?_) (fun c2 => ?_)
  · replace hf := jif_t c2 hf
    refine lv_iconst (v := (0 : Int32)) hx hb dX1_fits_20 (by decide) ?_
    have ho := Option.some.inj hf
    subst ho
    exact K _ _ _ _ (Or.inl rfl) hP hS dX1_fits_21
  · replace hf := jif_f c2 hf
    refine lv_iconst (v := (1 : Int32)) hx hb dX1_fits_16 (by decide) ?_
    refine lv_goto (tgt := 21) hx hb dX1_fits_17 (by decide) ?_
    have ho := Option.some.inj hf
    subst ho
    exact K _ _ _ _ (Or.inr rfl) hP hS dX1_fits_21
def f_X1_fits (x0 x1 : Int32) : Option (Int32) :=
  if x0 = (1 : Int32) then
  f_X1_fits_j13 x1 (6 : Int32)
  else
  f_X1_fits_j13 x1 (7 : Int32)
set_option maxHeartbeats 4000000 in
set_option maxRecDepth 100000 in
theorem t_X1_fits {p : Program} {l : Launch} {e : Env} {s : State} {m : MethodId} {args : Array Value} {below : List Frame} {meth : Method} {c : Code} {A : Nat → Prop} {Q : State → Prop} (G : jGt) (D : va_G) (cI cB cZ : ClassId) (x0 x1 : Int32) (C : jCx p s m args c cX1_fits 2 gX1_fits RX1 G D (jT cI cB cZ) A) {o : Int32} (hf : f_X1_fits x0 x1 = some o) (K : ∀ (H : Heap) (locs : List Loc) (pc : Nat) (ls : Array Slot), (o = 0 ∨ o = 1) → va_P D vwCl [] H → va_S A s.heap H locs → decode cX1_fits pc = .ok (.ireturn, 1) → W p l e rX1_fits s m args below meth c H locs 0 0 Q (F0 m pc ls [.int o])) {H : Heap} {locs : List Loc} {ls : Array Slot} (hP : va_P D vwCl [] H) (hD : va_D A []) (hS : va_S A s.heap H locs) (hl : lv_has ls 2 [(0, .int x0), (1, .int x1)]) : W p l e rX1_fits s m args below meth c H locs 0 0 Q (F0 m 0 ls []) := by
  obtain ⟨⟨hx, hb, hml, hown, hts⟩, hK, hN, hA⟩ := C
  have C : jCx p s m args c cX1_fits 2 gX1_fits RX1 G D (jT cI cB cZ) A := ⟨⟨hx, hb, hml, hown, hts⟩, hK, hN, hA⟩
  unfold f_X1_fits at hf
  refine lv_iload_n hx hb dX1_fits_0 rfl (lv_at hl 1 rfl) ?_
  refine lv_iload_n hx hb dX1_fits_1 rfl (lv_at hl 0 rfl) ?_
  refine lv_iconst (v := (1 : Int32)) hx hb dX1_fits_2 (by decide) ?_
  refine lv_icmp_ne (tgt := 11) hx hb dX1_fits_3 (by decide) (fun c1 => ?_) (fun c1 => ?_)
  · replace hf := jif_f c1 hf
    refine lv_bipush (v := (7 : Int32)) hx hb dX1_fits_11 (by decide) ?_
    exact t_X1_fits_j13 G D cI cB cZ x1 (7 : Int32) C hf K hP hD hS (lv_sub hl [] rfl)
  · replace hf := jif_t c1 hf
    refine lv_bipush (v := (6 : Int32)) hx hb dX1_fits_6 (by decide) ?_
    refine lv_goto (tgt := 13) hx hb dX1_fits_8 (by decide) ?_
    exact t_X1_fits_j13 G D cI cB cZ x1 (6 : Int32) C hf K hP hD hS (lv_sub hl [] rfl)
set_option maxHeartbeats 4000000 in
set_option maxRecDepth 100000 in
theorem c_X1_fits (l : Launch) (G : jGt) (D : va_G) (cI cB cZ : ClassId) (x0 x1 : Int32) {o : Int32} (hf : f_X1_fits x0 x1 = some o) : jMi l yX1_fits gX1_fits rX1_fits G D (jT cI cB cZ) [.int x0, .int x1] [] [] o := by
  refine jmk_z RX1 rfl (by decide +kernel) rfl (Nat.le_of_ble_eq_true rfl) rfl ?_
  intro p e s m args below meth c ls A Q C hP hD hS hl K
  exact t_X1_fits G D cI cB cZ x0 x1 C hf K hP hD hS hl
abbrev rX1_with : Room := { frames := 2, cells := 0, slots := 0, locals := 42 }
abbrev gX1_with : List Cond := wG yX1_with cX1_with 2 (some .int)
def f_X1_with (x0 x1 : Int32) : Option (Int32) :=
  if x0 = (-1 : Int32) then
  some (-1 : Int32)
  else
  if x1 = (-1 : Int32) then
  some (-1 : Int32)
  else
  jM (f_X1_size x0) fun r3 =>
  if (8 : Int32) ≤ r3 then
  some (-1 : Int32)
  else
  jM (f_X1_to x0) fun r5 =>
  jM (f_X1_fits r5 x1) fun r6 =>
  if r6 = 0 then
  some (-1 : Int32)
  else
  jM (f_X1_size x0) fun r8 =>
  some ((x0 + (16777216 : Int32)) ||| (x1 <<< (((3 : Int32) * r8) &&& 31)))
set_option maxHeartbeats 4000000 in
set_option maxRecDepth 100000 in
theorem t_X1_with {p : Program} {l : Launch} {e : Env} {s : State} {m : MethodId} {args : Array Value} {below : List Frame} {meth : Method} {c : Code} {A : Nat → Prop} {Q : State → Prop} (G : jGt) (D : va_G) (cI cB cZ : ClassId) (x0 x1 : Int32) (C : jCx p s m args c cX1_with 2 gX1_with RX1 G D (jT cI cB cZ) A) {o : Int32} (hf : f_X1_with x0 x1 = some o) (K : ∀ (H : Heap) (locs : List Loc) (pc : Nat) (ls : Array Slot), va_P D vwCl [] H → va_S A s.heap H locs → decode cX1_with pc = .ok (.ireturn, 1) → W p l e rX1_with s m args below meth c H locs 0 0 Q (F0 m pc ls [.int o])) {H : Heap} {locs : List Loc} {ls : Array Slot} (hP : va_P D vwCl [] H) (hD : va_D A []) (hS : va_S A s.heap H locs) (hl : lv_has ls 2 [(0, .int x0), (1, .int x1)]) : W p l e rX1_with s m args below meth c H locs 0 0 Q (F0 m 0 ls []) := by
  obtain ⟨⟨hx, hb, hml, hown, hts⟩, hK, hN, hA⟩ := C
  have C : jCx p s m args c cX1_with 2 gX1_with RX1 G D (jT cI cB cZ) A := ⟨⟨hx, hb, hml, hown, hts⟩, hK, hN, hA⟩
  unfold f_X1_with at hf
  refine lv_iload_n hx hb dX1_with_0 rfl (lv_at hl 0 rfl) ?_
  refine lv_iconst (v := (-1 : Int32)) hx hb dX1_with_1 (by decide) ?_
  refine lv_icmp_eq (tgt := 30) hx hb dX1_with_2 (by decide) (fun c1 => ?_) (fun c1 => ?_)
  · replace hf := jif_t c1 hf
    refine lv_iconst (v := (-1 : Int32)) hx hb dX1_with_30 (by decide) ?_
    have ho := Option.some.inj hf
    subst ho
    exact K _ _ _ _ hP hS dX1_with_31
  · replace hf := jif_f c1 hf
    refine lv_iload_n hx hb dX1_with_5 rfl (lv_at hl 1 rfl) ?_
    refine lv_iconst (v := (-1 : Int32)) hx hb dX1_with_6 (by decide) ?_
    refine lv_icmp_eq (tgt := 30) hx hb dX1_with_7 (by decide) (fun c2 => ?_) (fun c2 => ?_)
    · replace hf := jif_t c2 hf
      refine lv_iconst (v := (-1 : Int32)) hx hb dX1_with_30 (by decide) ?_
      have ho := Option.some.inj hf
      subst ho
      exact K _ _ _ _ hP hS dX1_with_31
    · replace hf := jif_f c2 hf
      refine lv_iload_n hx hb dX1_with_10 rfl (lv_at hl 0 rfl) ?_
      obtain ⟨r3, hgr3, hf⟩ := jM_some hf
      refine jcS_i0 (As := [.int x0]) (rest := []) ⟨hx, hb, hml, hown, hts⟩ hK hN hA (c_X1_size l G D cI cB cZ x0 hgr3) (va_cwS 1 hts (wG_S k_ml_X1_23 k_st_X1_size k_in_X1 k_co_X1_size) rfl rfl rfl hd_X1_size.2 ⟨Nat.le_of_ble_eq_true rfl, Nat.le_of_ble_eq_true rfl⟩) hP hD hS [] rfl rfl rfl rfl hl.1 rfl (Nat.le_of_ble_eq_true rfl) dX1_with_11 ⟨Nat.le_of_ble_eq_true rfl, Nat.le_of_ble_eq_true rfl⟩ (fun H locs hP hD hS => ?_)
      refine lv_bipush (v := (8 : Int32)) hx hb dX1_with_14 (by decide) ?_
      refine lv_icmp_ge (tgt := 30) hx hb dX1_with_16 (by decide) (fun c4 => ?_) (fun c4 => ?_)
      · replace hf := jif_t c4 hf
        refine lv_iconst (v := (-1 : Int32)) hx hb dX1_with_30 (by decide) ?_
        have ho := Option.some.inj hf
        subst ho
        exact K _ _ _ _ hP hS dX1_with_31
      · replace hf := jif_f c4 hf
        refine lv_iload_n hx hb dX1_with_19 rfl (lv_at hl 0 rfl) ?_
        obtain ⟨r5, hgr5, hf⟩ := jM_some hf
        refine jcS_i0 (As := [.int x0]) (rest := []) ⟨hx, hb, hml, hown, hts⟩ hK hN hA (c_X1_to l G D cI cB cZ x0 hgr5) (va_cwS 1 hts (wG_S k_ml_X1_37 k_st_X1_to k_in_X1 k_co_X1_to) rfl rfl rfl hd_X1_to.2 ⟨Nat.le_of_ble_eq_true rfl, Nat.le_of_ble_eq_true rfl⟩) hP hD hS [] rfl rfl rfl rfl hl.1 rfl (Nat.le_of_ble_eq_true rfl) dX1_with_20 ⟨Nat.le_of_ble_eq_true rfl, Nat.le_of_ble_eq_true rfl⟩ (fun H locs hP hD hS => ?_)
        refine lv_iload_n hx hb dX1_with_23 rfl (lv_at hl 1 rfl) ?_
        obtain ⟨r6, hgr6, hf⟩ := jM_some hf
        refine jcS_i0 (As := [.int r5, .int x1]) (rest := []) ⟨hx, hb, hml, hown, hts⟩ hK hN hA (c_X1_fits l G D cI cB cZ r5 x1 hgr6) (va_cwS 2 hts (wG_S k_ml_X1_40 k_st_X1_fits k_in_X1 k_co_X1_fits) rfl rfl rfl hd_X1_fits.2 ⟨Nat.le_of_ble_eq_true rfl, Nat.le_of_ble_eq_true rfl⟩) hP hD hS [] rfl rfl rfl rfl hl.1 rfl (Nat.le_of_ble_eq_true rfl) dX1_with_24 ⟨Nat.le_of_ble_eq_true rfl, Nat.le_of_ble_eq_true rfl⟩ (fun H locs hP hD hS => ?_)
        refine lv_if_ne (tgt := 32) hx hb dX1_with_27 (by decide) (fun c7 => ?_) (fun c7 => ?_)
        · replace hf := jif_f c7 hf
          refine lv_iload_n hx hb dX1_with_32 rfl (lv_at hl 0 rfl) ?_
          refine lv_ldc (v := (16777216 : Int32)) hx hb hown (hts _ (wG_in k_kc_X1_44 rfl)) dX1_with_33 ?_
          refine lv_iadd hx hb dX1_with_35 ?_
          refine lv_iload_n hx hb dX1_with_36 rfl (lv_at hl 1 rfl) ?_
          refine lv_iconst (v := (3 : Int32)) hx hb dX1_with_37 (by decide) ?_
          refine lv_iload_n hx hb dX1_with_38 rfl (lv_at hl 0 rfl) ?_
          obtain ⟨r8, hgr8, hf⟩ := jM_some hf
          refine jcS_i0 (As := [.int x0]) (rest := [.int (3 : Int32), .int x1, .int (x0 + (16777216 : Int32))]) ⟨hx, hb, hml, hown, hts⟩ hK hN hA (c_X1_size l G D cI cB cZ x0 hgr8) (va_cwS 1 hts (wG_S k_ml_X1_23 k_st_X1_size k_in_X1 k_co_X1_size) rfl rfl rfl hd_X1_size.2 ⟨Nat.le_of_ble_eq_true rfl, Nat.le_of_ble_eq_true rfl⟩) hP hD hS [] rfl rfl rfl rfl hl.1 rfl (Nat.le_of_ble_eq_true rfl) dX1_with_39 ⟨Nat.le_of_ble_eq_true rfl, Nat.le_of_ble_eq_true rfl⟩ (fun H locs hP hD hS => ?_)
          refine lv_imul hx hb dX1_with_42 ?_
          refine lv_ishl hx hb dX1_with_43 ?_
          refine lv_ior hx hb dX1_with_44 ?_
          have ho := Option.some.inj hf
          subst ho
          exact K _ _ _ _ hP hS dX1_with_45
        · replace hf := jif_t c7 hf
          refine lv_iconst (v := (-1 : Int32)) hx hb dX1_with_30 (by decide) ?_
          have ho := Option.some.inj hf
          subst ho
          exact K _ _ _ _ hP hS dX1_with_31
set_option maxHeartbeats 4000000 in
set_option maxRecDepth 100000 in
theorem c_X1_with (l : Launch) (G : jGt) (D : va_G) (cI cB cZ : ClassId) (x0 x1 : Int32) {o : Int32} (hf : f_X1_with x0 x1 = some o) : jMi l yX1_with gX1_with rX1_with G D (jT cI cB cZ) [.int x0, .int x1] [] [] o := by
  refine jmk_i RX1 rfl (by decide +kernel) rfl (Nat.le_of_ble_eq_true rfl) rfl ?_
  intro p e s m args below meth c ls A Q C hP hD hS hl K
  exact t_X1_with G D cI cB cZ x0 x1 C hf K hP hD hS hl
abbrev rX2_forget : Room := { frames := 0, cells := 0, slots := 0, locals := 0 }
abbrev gX2_forget : List Cond := wG yX2_forget cX2_forget 1 none
def w_X2_forget (cI cB cZ : ClassId) (a_t : Nat) (u_t_least u_t_queue : Value) (u_t_queued : Int32) (u_t_kindBy u_t_against u_t_fitting u_t_agreeing u_t_best : Value) (u_t_count u_t_families s_t_known : Int32) : va_W := [(a_t, .inr (1, (oX2 u_t_least u_t_queue u_t_queued u_t_kindBy u_t_against u_t_fitting u_t_agreeing u_t_best u_t_count u_t_families s_t_known)))]
def f_X2_forget (s_t_known : Int32) : Option (Int32) :=
  some (0 : Int32)
set_option maxHeartbeats 4000000 in
set_option maxRecDepth 100000 in
theorem t_X2_forget {p : Program} {l : Launch} {e : Env} {s : State} {m : MethodId} {args : Array Value} {below : List Frame} {meth : Method} {c : Code} {A : Nat → Prop} {Q : State → Prop} (G : jGt) (D : va_G) (cI cB cZ : ClassId) (a_t : Nat) (u_t_least u_t_queue : Value) (u_t_queued : Int32) (u_t_kindBy u_t_against u_t_fitting u_t_agreeing u_t_best : Value) (u_t_count u_t_families : Int32) (s_t_known : Int32) (C : jCx p s m args c cX2_forget 1 gX2_forget RX2 G D (jT cI cB cZ) A) {o : Int32} (hf : f_X2_forget s_t_known = some o) (K : ∀ (H : Heap) (locs : List Loc) (pc : Nat) (ls : Array Slot), va_P D vwCl (w_X2_forget cI cB cZ a_t u_t_least u_t_queue u_t_queued u_t_kindBy u_t_against u_t_fitting u_t_agreeing u_t_best u_t_count u_t_families o) H → va_S A s.heap H locs → decode cX2_forget pc = .ok (.return_, 1) → W p l e rX2_forget s m args below meth c H locs 0 0 Q (F0 m pc ls [])) {H : Heap} {locs : List Loc} {ls : Array Slot} (hP : va_P D vwCl (w_X2_forget cI cB cZ a_t u_t_least u_t_queue u_t_queued u_t_kindBy u_t_against u_t_fitting u_t_agreeing u_t_best u_t_count u_t_families s_t_known) H) (hD : va_D A (w_X2_forget cI cB cZ a_t u_t_least u_t_queue u_t_queued u_t_kindBy u_t_against u_t_fitting u_t_agreeing u_t_best u_t_count u_t_families s_t_known)) (hS : va_S A s.heap H locs) (hl : lv_has ls 1 [(0, .ref a_t)]) : W p l e rX2_forget s m args below meth c H locs 0 0 Q (F0 m 0 ls []) := by
  obtain ⟨⟨hx, hb, hml, hown, hts⟩, hK, hN, hA⟩ := C
  have C : jCx p s m args c cX2_forget 1 gX2_forget RX2 G D (jT cI cB cZ) A := ⟨⟨hx, hb, hml, hown, hts⟩, hK, hN, hA⟩
  unfold f_X2_forget at hf
  refine lv_aload_n hx hb dX2_forget_0 rfl (lv_at hl 0 rfl) ?_
  refine lv_iconst (v := (0 : Int32)) hx hb dX2_forget_1 (by decide) ?_
  refine va_put (D := D) (ci := 1) (v := .int (0 : Int32)) (ty := .boolean) (C := RX2) (T := TX2) (N := 11) hx hb hts iw_X2 tyX2 tyX2_ok nmX2 hown hK hP hD hS 0 rfl rfl 10 (by decide) (hts _ (wG_in k_fl_X2_35 rfl)) (fun _ h9 => h9) rfl (tyX2_ok 10 (by decide)) (by decide) (by decide) (Nat.le_of_ble_eq_true rfl) dX2_forget_2 (fun H locs hP hD hS => ?_)
  have hP : va_P D vwCl (w_X2_forget cI cB cZ a_t u_t_least u_t_queue u_t_queued u_t_kindBy u_t_against u_t_fitting u_t_agreeing u_t_best u_t_count u_t_families (0 : Int32)) H := hP
  have hD : va_D A (w_X2_forget cI cB cZ a_t u_t_least u_t_queue u_t_queued u_t_kindBy u_t_against u_t_fitting u_t_agreeing u_t_best u_t_count u_t_families (0 : Int32)) := hD
  have ho := Option.some.inj hf
  subst ho
  exact K _ _ _ _ hP hS dX2_forget_5
set_option maxHeartbeats 4000000 in
set_option maxRecDepth 100000 in
theorem c_X2_forget (l : Launch) (G : jGt) (D : va_G) (cI cB cZ : ClassId) (a_t : Nat) (u_t_least u_t_queue : Value) (u_t_queued : Int32) (u_t_kindBy u_t_against u_t_fitting u_t_agreeing u_t_best : Value) (u_t_count u_t_families : Int32) (s_t_known : Int32) {o : Int32} (hf : f_X2_forget s_t_known = some o) : jMv l yX2_forget gX2_forget rX2_forget G D (jT cI cB cZ) [.ref a_t] (w_X2_forget cI cB cZ a_t u_t_least u_t_queue u_t_queued u_t_kindBy u_t_against u_t_fitting u_t_agreeing u_t_best u_t_count u_t_families s_t_known) (w_X2_forget cI cB cZ a_t u_t_least u_t_queue u_t_queued u_t_kindBy u_t_against u_t_fitting u_t_agreeing u_t_best u_t_count u_t_families o) := by
  refine jmk_v RX2 rfl (by decide +kernel) rfl (Nat.le_of_ble_eq_true rfl) rfl ?_
  intro p e s m args below meth c ls A Q C hP hD hS hl K
  exact t_X2_forget G D cI cB cZ a_t u_t_least u_t_queue u_t_queued u_t_kindBy u_t_against u_t_fitting u_t_agreeing u_t_best u_t_count u_t_families s_t_known C hf K hP hD hS hl
abbrev rX2_begin : Room := { frames := 1, cells := 0, slots := 0, locals := 22 }
abbrev gX2_begin : List Cond := wG yX2_begin cX2_begin 4 none
def w_X2_begin (cI cB cZ : ClassId) (a_p1 a_t a_t_fitting a_t_kindBy a_t_least a_t_queue : Nat) (u_p1_wife u_p1_child u_p1_husband u_p1_father u_t_against u_t_agreeing u_t_best : Value) (u_t_count u_t_known s_p1_size s_t_families s_t_queued : Int32) (r_t_fitting r_t_kindBy r_t_least r_t_queue : jA) : va_W := [(a_p1, .inr (9, (oX10 u_p1_wife u_p1_child u_p1_husband u_p1_father s_p1_size))), (a_t, .inr (1, (oX2 (.ref a_t_least) (.ref a_t_queue) s_t_queued (.ref a_t_kindBy) u_t_against (.ref a_t_fitting) u_t_agreeing u_t_best u_t_count s_t_families u_t_known))), (a_t_fitting, .inl (cI, r_t_fitting.1, .inl r_t_fitting.2)), (a_t_kindBy, .inl (cI, r_t_kindBy.1, .inl r_t_kindBy.2)), (a_t_least, .inl (cI, r_t_least.1, .inl r_t_least.2)), (a_t_queue, .inl (cI, r_t_queue.1, .inl r_t_queue.2))]
def f_X2_begin_b37 (s_p1_size s_t_families s_t_queued : Int32) (r_t_fitting r_t_kindBy r_t_least r_t_queue : jA) (x1 x3 : Int32) : Option ((jA × Int32) ⊕ ((jA))) :=
  if s_p1_size ≤ x3 then
  some (Sum.inr r_t_kindBy)
  else
  jM (f_X11_set r_t_kindBy ((x1 * (8 : Int32)) + x3) x3) fun r5 =>
  some (Sum.inl (r5, (x3 + 1)))
set_option maxHeartbeats 4000000 in
set_option maxRecDepth 100000 in
theorem t_X2_begin_b37 {p : Program} {l : Launch} {e : Env} {s : State} {m : MethodId} {args : Array Value} {below : List Frame} {meth : Method} {c : Code} {A : Nat → Prop} {Q : State → Prop} (G : jGt) (D : va_G) (cI cB cZ : ClassId) (a_p1 a_t a_t_fitting a_t_kindBy a_t_least a_t_queue : Nat) (u_p1_wife u_p1_child u_p1_husband u_p1_father u_t_against u_t_agreeing u_t_best : Value) (u_t_count u_t_known s_p1_size : Int32) (s_t_families s_t_queued : Int32) (r_t_fitting r_t_kindBy r_t_least r_t_queue : jA) (x1 x3 : Int32) (C : jCx p s m args c cX2_begin 4 gX2_begin RX2 G D (jT cI cB cZ) A) {o : (jA × Int32) ⊕ ((jA))} (hf : f_X2_begin_b37 s_p1_size s_t_families s_t_queued r_t_fitting r_t_kindBy r_t_least r_t_queue x1 x3 = some o) (K : (∀ z, o = Sum.inl z → ∀ (H : Heap) (locs : List Loc) (ls : Array Slot), va_P D vwCl (w_X2_begin cI cB cZ a_p1 a_t a_t_fitting a_t_kindBy a_t_least a_t_queue u_p1_wife u_p1_child u_p1_husband u_p1_father u_t_against u_t_agreeing u_t_best u_t_count u_t_known s_p1_size s_t_families s_t_queued r_t_fitting z.1 r_t_least r_t_queue) H → va_D A (w_X2_begin cI cB cZ a_p1 a_t a_t_fitting a_t_kindBy a_t_least a_t_queue u_p1_wife u_p1_child u_p1_husband u_p1_father u_t_against u_t_agreeing u_t_best u_t_count u_t_known s_p1_size s_t_families s_t_queued r_t_fitting z.1 r_t_least r_t_queue) → va_S A s.heap H locs → lv_has ls 4 [(0, .ref a_t), (1, .int x1), (2, .ref a_p1), (3, .int z.2)] → W p l e rX2_begin s m args below meth c H locs 0 0 Q (F0 m 37 ls [])) ∧ (∀ z, o = Sum.inr z → ∀ (H : Heap) (locs : List Loc) (ls : Array Slot), va_P D vwCl (w_X2_begin cI cB cZ a_p1 a_t a_t_fitting a_t_kindBy a_t_least a_t_queue u_p1_wife u_p1_child u_p1_husband u_p1_father u_t_against u_t_agreeing u_t_best u_t_count u_t_known s_p1_size s_t_families s_t_queued r_t_fitting z r_t_least r_t_queue) H → va_D A (w_X2_begin cI cB cZ a_p1 a_t a_t_fitting a_t_kindBy a_t_least a_t_queue u_p1_wife u_p1_child u_p1_husband u_p1_father u_t_against u_t_agreeing u_t_best u_t_count u_t_known s_p1_size s_t_families s_t_queued r_t_fitting z r_t_least r_t_queue) → va_S A s.heap H locs → lv_has ls 4 [(0, .ref a_t), (1, .int x1)] → W p l e rX2_begin s m args below meth c H locs 0 0 Q (F0 m 65 ls []))) {H : Heap} {locs : List Loc} {ls : Array Slot} (hP : va_P D vwCl (w_X2_begin cI cB cZ a_p1 a_t a_t_fitting a_t_kindBy a_t_least a_t_queue u_p1_wife u_p1_child u_p1_husband u_p1_father u_t_against u_t_agreeing u_t_best u_t_count u_t_known s_p1_size s_t_families s_t_queued r_t_fitting r_t_kindBy r_t_least r_t_queue) H) (hD : va_D A (w_X2_begin cI cB cZ a_p1 a_t a_t_fitting a_t_kindBy a_t_least a_t_queue u_p1_wife u_p1_child u_p1_husband u_p1_father u_t_against u_t_agreeing u_t_best u_t_count u_t_known s_p1_size s_t_families s_t_queued r_t_fitting r_t_kindBy r_t_least r_t_queue)) (hS : va_S A s.heap H locs) (hl : lv_has ls 4 [(0, .ref a_t), (1, .int x1), (2, .ref a_p1), (3, .int x3)]) : W p l e rX2_begin s m args below meth c H locs 0 0 Q (F0 m 37 ls []) := by
  obtain ⟨⟨hx, hb, hml, hown, hts⟩, hK, hN, hA⟩ := C
  have C : jCx p s m args c cX2_begin 4 gX2_begin RX2 G D (jT cI cB cZ) A := ⟨⟨hx, hb, hml, hown, hts⟩, hK, hN, hA⟩
  unfold f_X2_begin_b37 at hf
  refine lv_iload_n hx hb dX2_begin_37 rfl (lv_at hl 3 rfl) ?_
  refine lv_aload_n hx hb dX2_begin_38 rfl (lv_at hl 2 rfl) ?_
  refine va_get (D := D) (ci := 9) (v := .int s_p1_size) (C := RX10) (T := TX10) (N := 5) hx hb hts iw_X10 hown hK hP 0 rfl rfl 4 (by decide) (hts _ (wG_in k_fl_X2_81 rfl)) (fun _ h9 => h9) rfl dX2_begin_39 ?_
  refine lv_icmp_ge (tgt := 65) hx hb dX2_begin_42 (by decide) (fun c4 => ?_) (fun c4 => ?_)
  · replace hf := jif_t c4 hf
    have ho := Option.some.inj hf
    exact (K.2 _ ho.symm) _ _ _ hP hD hS (lv_sub hl [0, 1] rfl)
  · replace hf := jif_f c4 hf
    refine lv_aload_n hx hb dX2_begin_45 rfl (lv_at hl 0 rfl) ?_
    refine va_get (D := D) (ci := 1) (v := .ref a_t_kindBy) (C := RX2) (T := TX2) (N := 11) hx hb hts iw_X2 hown hK hP 1 rfl rfl 3 (by decide) (hts _ (wG_in k_fl_X2_20 rfl)) (fun _ h9 => h9) rfl dX2_begin_46 ?_
    refine lv_iload_n hx hb dX2_begin_49 rfl (lv_at hl 1 rfl) ?_
    refine lv_bipush (v := (8 : Int32)) hx hb dX2_begin_50 (by decide) ?_
    refine lv_imul hx hb dX2_begin_52 ?_
    refine lv_iload_n hx hb dX2_begin_53 rfl (lv_at hl 3 rfl) ?_
    refine lv_iadd hx hb dX2_begin_54 ?_
    refine lv_iload_n hx hb dX2_begin_55 rfl (lv_at hl 3 rfl) ?_
    obtain ⟨r5, hgr5, hf⟩ := jM_some hf
    refine jcN_v (As := [.ref a_t_kindBy, .int ((x1 * (8 : Int32)) + x3), .int x3]) (rest := []) ⟨hx, hb, hml, hown, hts⟩ hK hN hA (c_X11_set l G D cI cB cZ a_t_kindBy r_t_kindBy ((x1 * (8 : Int32)) + x3) x3 hgr5) ⟨va_cnB 3 hts (wG_good k_co_X11_set) rfl rfl rfl (jN_l nl_X2_77 hN) (hts _ (wG_in k_in_X11 rfl)) hd_X11_set.2 ⟨Nat.le_of_ble_eq_true rfl, Nat.le_of_ble_eq_true rfl⟩, hts _ (wG_in k_st_X11_set rfl), trivial⟩ hP hD hS [3] rfl rfl rfl rfl hl.1 rfl (Nat.le_of_ble_eq_true rfl) dX2_begin_56 ⟨Nat.le_of_ble_eq_true rfl, Nat.le_of_ble_eq_true rfl⟩ (fun H locs hP hD hS => ?_)
    have hP : va_P D vwCl (w_X2_begin cI cB cZ a_p1 a_t a_t_fitting a_t_kindBy a_t_least a_t_queue u_p1_wife u_p1_child u_p1_husband u_p1_father u_t_against u_t_agreeing u_t_best u_t_count u_t_known s_p1_size s_t_families s_t_queued r_t_fitting r5 r_t_least r_t_queue) H := hP
    have hD : va_D A (w_X2_begin cI cB cZ a_p1 a_t a_t_fitting a_t_kindBy a_t_least a_t_queue u_p1_wife u_p1_child u_p1_husband u_p1_father u_t_against u_t_agreeing u_t_best u_t_count u_t_known s_p1_size s_t_families s_t_queued r_t_fitting r5 r_t_least r_t_queue) := hD
    refine lv_iinc (v := (x3 + 1)) (lv' := [(3, .int (x3 + 1)), (0, .ref a_t), (1, .int x1), (2, .ref a_p1)]) hx hb dX2_begin_59 hl (k := 3) rfl (by first | rfl | decide) (by decide) rfl (fun ls hl => ?_)
    refine lv_goto (tgt := 37) hx hb dX2_begin_62 (by decide) ?_
    have ho := Option.some.inj hf
    exact K.1 _ ho.symm _ _ _ hP hD hS (lv_sub hl [1, 2, 3, 0] rfl)
def f_X2_begin_l37 (s_p1_size s_t_families s_t_queued : Int32) (r_t_fitting r_t_least r_t_queue : jA) (x1 : Int32) (r_t_kindBy : jA) (x3 : Int32) : Option ((jA)) :=
  jI (fun z => f_X2_begin_b37 s_p1_size s_t_families s_t_queued r_t_fitting z.1 r_t_least r_t_queue x1 z.2) jF (r_t_kindBy, x3)
set_option maxHeartbeats 4000000 in
set_option maxRecDepth 100000 in
theorem t_X2_begin_l37 {p : Program} {l : Launch} {e : Env} {s : State} {m : MethodId} {args : Array Value} {below : List Frame} {meth : Method} {c : Code} {A : Nat → Prop} {Q : State → Prop} (G : jGt) (D : va_G) (cI cB cZ : ClassId) (a_p1 a_t a_t_fitting a_t_kindBy a_t_least a_t_queue : Nat) (u_p1_wife u_p1_child u_p1_husband u_p1_father u_t_against u_t_agreeing u_t_best : Value) (u_t_count u_t_known s_p1_size : Int32) (s_t_families s_t_queued : Int32) (r_t_fitting r_t_least r_t_queue : jA) (x1 : Int32) (C : jCx p s m args c cX2_begin 4 gX2_begin RX2 G D (jT cI cB cZ) A) : ∀ (n : Nat) (r_t_kindBy : jA) (x3 : Int32) {eo : (jA)}, jI (fun z => f_X2_begin_b37 s_p1_size s_t_families s_t_queued r_t_fitting z.1 r_t_least r_t_queue x1 z.2) n (r_t_kindBy, x3) = some eo → (∀ (H : Heap) (locs : List Loc) (ls : Array Slot), va_P D vwCl (w_X2_begin cI cB cZ a_p1 a_t a_t_fitting a_t_kindBy a_t_least a_t_queue u_p1_wife u_p1_child u_p1_husband u_p1_father u_t_against u_t_agreeing u_t_best u_t_count u_t_known s_p1_size s_t_families s_t_queued r_t_fitting eo r_t_least r_t_queue) H → va_D A (w_X2_begin cI cB cZ a_p1 a_t a_t_fitting a_t_kindBy a_t_least a_t_queue u_p1_wife u_p1_child u_p1_husband u_p1_father u_t_against u_t_agreeing u_t_best u_t_count u_t_known s_p1_size s_t_families s_t_queued r_t_fitting eo r_t_least r_t_queue) → va_S A s.heap H locs → lv_has ls 4 [(0, .ref a_t), (1, .int x1)] → W p l e rX2_begin s m args below meth c H locs 0 0 Q (F0 m 65 ls [])) → ∀ (H : Heap) (locs : List Loc) (ls : Array Slot), va_P D vwCl (w_X2_begin cI cB cZ a_p1 a_t a_t_fitting a_t_kindBy a_t_least a_t_queue u_p1_wife u_p1_child u_p1_husband u_p1_father u_t_against u_t_agreeing u_t_best u_t_count u_t_known s_p1_size s_t_families s_t_queued r_t_fitting r_t_kindBy r_t_least r_t_queue) H → va_D A (w_X2_begin cI cB cZ a_p1 a_t a_t_fitting a_t_kindBy a_t_least a_t_queue u_p1_wife u_p1_child u_p1_husband u_p1_father u_t_against u_t_agreeing u_t_best u_t_count u_t_known s_p1_size s_t_families s_t_queued r_t_fitting r_t_kindBy r_t_least r_t_queue) → va_S A s.heap H locs → lv_has ls 4 [(0, .ref a_t), (1, .int x1), (2, .ref a_p1), (3, .int x3)] → W p l e rX2_begin s m args below meth c H locs 0 0 Q (F0 m 37 ls []) := by
  intro n
  induction n with
  | zero =>
    intro r_t_kindBy x3 eo hf
    exact (jI_zero hf).elim
  | succ n ih =>
    intro r_t_kindBy x3 eo hf K H locs ls hP hD hS hl
    obtain ⟨o, hb1, ho⟩ := jI_some hf
    rcases ho with ⟨z, rfl, hf2⟩ | rfl
    · exact t_X2_begin_b37 G D cI cB cZ a_p1 a_t a_t_fitting a_t_kindBy a_t_least a_t_queue u_p1_wife u_p1_child u_p1_husband u_p1_father u_t_against u_t_agreeing u_t_best u_t_count u_t_known s_p1_size s_t_families s_t_queued r_t_fitting r_t_kindBy r_t_least r_t_queue x1 x3 C hb1 ⟨fun z2 hz H locs ls hP hD hS hl => by cases hz; exact ih z.1 z.2 hf2 K H locs ls hP hD hS hl, fun z2 hz => by cases hz⟩ hP hD hS hl
    · exact t_X2_begin_b37 G D cI cB cZ a_p1 a_t a_t_fitting a_t_kindBy a_t_least a_t_queue u_p1_wife u_p1_child u_p1_husband u_p1_father u_t_against u_t_agreeing u_t_best u_t_count u_t_known s_p1_size s_t_families s_t_queued r_t_fitting r_t_kindBy r_t_least r_t_queue x1 x3 C hb1 ⟨fun z2 hz => (by cases hz), fun z2 hz => by cases hz; exact K⟩ hP hD hS hl
def f_X2_begin (s_p1_size s_t_families s_t_queued : Int32) (r_t_fitting r_t_kindBy r_t_least r_t_queue : jA) (x1 : Int32) : Option (Int32 × Int32 × jA × jA × jA × jA) :=
  jV (s_t_families + (1 : Int32)) fun v1 =>
  jM (f_X11_set r_t_least x1 x1) fun r2 =>
  jM (f_X11_set r_t_fitting x1 (((1 : Int32) <<< (s_p1_size &&& 31)) - (1 : Int32))) fun r3 =>
  jM (f_X2_begin_l37 s_p1_size v1 s_t_queued r3 r2 r_t_queue x1 r_t_kindBy (0 : Int32)) fun e6 =>
  jM (f_X11_set r_t_queue s_t_queued x1) fun r7 =>
  jV (s_t_queued + (1 : Int32)) fun v8 =>
  some (v1, v8, r3, e6, r2, r7)
set_option maxHeartbeats 4000000 in
set_option maxRecDepth 100000 in
theorem t_X2_begin {p : Program} {l : Launch} {e : Env} {s : State} {m : MethodId} {args : Array Value} {below : List Frame} {meth : Method} {c : Code} {A : Nat → Prop} {Q : State → Prop} (G : jGt) (D : va_G) (cI cB cZ : ClassId) (a_p1 a_t a_t_fitting a_t_kindBy a_t_least a_t_queue : Nat) (u_p1_wife u_p1_child u_p1_husband u_p1_father u_t_against u_t_agreeing u_t_best : Value) (u_t_count u_t_known s_p1_size : Int32) (s_t_families s_t_queued : Int32) (r_t_fitting r_t_kindBy r_t_least r_t_queue : jA) (x1 : Int32) (C : jCx p s m args c cX2_begin 4 gX2_begin RX2 G D (jT cI cB cZ) A) {o : Int32 × Int32 × jA × jA × jA × jA} (hf : f_X2_begin s_p1_size s_t_families s_t_queued r_t_fitting r_t_kindBy r_t_least r_t_queue x1 = some o) (K : ∀ (H : Heap) (locs : List Loc) (pc : Nat) (ls : Array Slot), va_P D vwCl (w_X2_begin cI cB cZ a_p1 a_t a_t_fitting a_t_kindBy a_t_least a_t_queue u_p1_wife u_p1_child u_p1_husband u_p1_father u_t_against u_t_agreeing u_t_best u_t_count u_t_known s_p1_size o.1 o.2.1 o.2.2.1 o.2.2.2.1 o.2.2.2.2.1 o.2.2.2.2.2) H → va_S A s.heap H locs → decode cX2_begin pc = .ok (.return_, 1) → W p l e rX2_begin s m args below meth c H locs 0 0 Q (F0 m pc ls [])) {H : Heap} {locs : List Loc} {ls : Array Slot} (hP : va_P D vwCl (w_X2_begin cI cB cZ a_p1 a_t a_t_fitting a_t_kindBy a_t_least a_t_queue u_p1_wife u_p1_child u_p1_husband u_p1_father u_t_against u_t_agreeing u_t_best u_t_count u_t_known s_p1_size s_t_families s_t_queued r_t_fitting r_t_kindBy r_t_least r_t_queue) H) (hD : va_D A (w_X2_begin cI cB cZ a_p1 a_t a_t_fitting a_t_kindBy a_t_least a_t_queue u_p1_wife u_p1_child u_p1_husband u_p1_father u_t_against u_t_agreeing u_t_best u_t_count u_t_known s_p1_size s_t_families s_t_queued r_t_fitting r_t_kindBy r_t_least r_t_queue)) (hS : va_S A s.heap H locs) (hl : lv_has ls 4 [(0, .ref a_t), (1, .int x1), (2, .ref a_p1)]) : W p l e rX2_begin s m args below meth c H locs 0 0 Q (F0 m 0 ls []) := by
  obtain ⟨⟨hx, hb, hml, hown, hts⟩, hK, hN, hA⟩ := C
  have C : jCx p s m args c cX2_begin 4 gX2_begin RX2 G D (jT cI cB cZ) A := ⟨⟨hx, hb, hml, hown, hts⟩, hK, hN, hA⟩
  unfold f_X2_begin at hf
  refine lv_aload_n hx hb dX2_begin_0 rfl (lv_at hl 0 rfl) ?_
  refine lv_dup hx hb dX2_begin_1 rfl ?_
  refine va_get (D := D) (ci := 1) (v := .int s_t_families) (C := RX2) (T := TX2) (N := 11) hx hb hts iw_X2 hown hK hP 1 rfl rfl 9 (by decide) (hts _ (wG_in k_fl_X2_44 rfl)) (fun _ h9 => h9) rfl dX2_begin_2 ?_
  refine lv_iconst (v := (1 : Int32)) hx hb dX2_begin_5 (by decide) ?_
  refine lv_iadd hx hb dX2_begin_6 ?_
  obtain ⟨v1, hv1, hf⟩ := jV_some hf
  refine jtop hv1 ?_
  refine va_put (D := D) (ci := 1) (v := .int v1) (ty := .int) (C := RX2) (T := TX2) (N := 11) hx hb hts iw_X2 tyX2 tyX2_ok nmX2 hown hK hP hD hS 1 rfl rfl 9 (by decide) (hts _ (wG_in k_fl_X2_44 rfl)) (fun _ h9 => h9) rfl (tyX2_ok 9 (by decide)) rfl rfl (Nat.le_of_ble_eq_true rfl) dX2_begin_7 (fun H locs hP hD hS => ?_)
  have hP : va_P D vwCl (w_X2_begin cI cB cZ a_p1 a_t a_t_fitting a_t_kindBy a_t_least a_t_queue u_p1_wife u_p1_child u_p1_husband u_p1_father u_t_against u_t_agreeing u_t_best u_t_count u_t_known s_p1_size v1 s_t_queued r_t_fitting r_t_kindBy r_t_least r_t_queue) H := hP
  have hD : va_D A (w_X2_begin cI cB cZ a_p1 a_t a_t_fitting a_t_kindBy a_t_least a_t_queue u_p1_wife u_p1_child u_p1_husband u_p1_father u_t_against u_t_agreeing u_t_best u_t_count u_t_known s_p1_size v1 s_t_queued r_t_fitting r_t_kindBy r_t_least r_t_queue) := hD
  refine lv_aload_n hx hb dX2_begin_10 rfl (lv_at hl 0 rfl) ?_
  refine va_get (D := D) (ci := 1) (v := .ref a_t_least) (C := RX2) (T := TX2) (N := 11) hx hb hts iw_X2 hown hK hP 1 rfl rfl 0 (by decide) (hts _ (wG_in k_fl_X2_11 rfl)) (fun _ h9 => h9) rfl dX2_begin_11 ?_
  refine lv_iload_n hx hb dX2_begin_14 rfl (lv_at hl 1 rfl) ?_
  refine lv_iload_n hx hb dX2_begin_15 rfl (lv_at hl 1 rfl) ?_
  obtain ⟨r2, hgr2, hf⟩ := jM_some hf
  refine jcN_v (As := [.ref a_t_least, .int x1, .int x1]) (rest := []) ⟨hx, hb, hml, hown, hts⟩ hK hN hA (c_X11_set l G D cI cB cZ a_t_least r_t_least x1 x1 hgr2) ⟨va_cnB 3 hts (wG_good k_co_X11_set) rfl rfl rfl (jN_l nl_X2_77 hN) (hts _ (wG_in k_in_X11 rfl)) hd_X11_set.2 ⟨Nat.le_of_ble_eq_true rfl, Nat.le_of_ble_eq_true rfl⟩, hts _ (wG_in k_st_X11_set rfl), trivial⟩ hP hD hS [4] rfl rfl rfl rfl hl.1 rfl (Nat.le_of_ble_eq_true rfl) dX2_begin_16 ⟨Nat.le_of_ble_eq_true rfl, Nat.le_of_ble_eq_true rfl⟩ (fun H locs hP hD hS => ?_)
  have hP : va_P D vwCl (w_X2_begin cI cB cZ a_p1 a_t a_t_fitting a_t_kindBy a_t_least a_t_queue u_p1_wife u_p1_child u_p1_husband u_p1_father u_t_against u_t_agreeing u_t_best u_t_count u_t_known s_p1_size v1 s_t_queued r_t_fitting r_t_kindBy r2 r_t_queue) H := hP
  have hD : va_D A (w_X2_begin cI cB cZ a_p1 a_t a_t_fitting a_t_kindBy a_t_least a_t_queue u_p1_wife u_p1_child u_p1_husband u_p1_father u_t_against u_t_agreeing u_t_best u_t_count u_t_known s_p1_size v1 s_t_queued r_t_fitting r_t_kindBy r2 r_t_queue) := hD
  refine lv_aload_n hx hb dX2_begin_19 rfl (lv_at hl 0 rfl) ?_
  refine va_get (D := D) (ci := 1) (v := .ref a_t_fitting) (C := RX2) (T := TX2) (N := 11) hx hb hts iw_X2 hown hK hP 1 rfl rfl 5 (by decide) (hts _ (wG_in k_fl_X2_26 rfl)) (fun _ h9 => h9) rfl dX2_begin_20 ?_
  refine lv_iload_n hx hb dX2_begin_23 rfl (lv_at hl 1 rfl) ?_
  refine lv_iconst (v := (1 : Int32)) hx hb dX2_begin_24 (by decide) ?_
  refine lv_aload_n hx hb dX2_begin_25 rfl (lv_at hl 2 rfl) ?_
  refine va_get (D := D) (ci := 9) (v := .int s_p1_size) (C := RX10) (T := TX10) (N := 5) hx hb hts iw_X10 hown hK hP 0 rfl rfl 4 (by decide) (hts _ (wG_in k_fl_X2_81 rfl)) (fun _ h9 => h9) rfl dX2_begin_26 ?_
  refine lv_ishl hx hb dX2_begin_29 ?_
  refine lv_iconst (v := (1 : Int32)) hx hb dX2_begin_30 (by decide) ?_
  refine lv_isub hx hb dX2_begin_31 ?_
  obtain ⟨r3, hgr3, hf⟩ := jM_some hf
  refine jcN_v (As := [.ref a_t_fitting, .int x1, .int (((1 : Int32) <<< (s_p1_size &&& 31)) - (1 : Int32))]) (rest := []) ⟨hx, hb, hml, hown, hts⟩ hK hN hA (c_X11_set l G D cI cB cZ a_t_fitting r_t_fitting x1 (((1 : Int32) <<< (s_p1_size &&& 31)) - (1 : Int32)) hgr3) ⟨va_cnB 3 hts (wG_good k_co_X11_set) rfl rfl rfl (jN_l nl_X2_77 hN) (hts _ (wG_in k_in_X11 rfl)) hd_X11_set.2 ⟨Nat.le_of_ble_eq_true rfl, Nat.le_of_ble_eq_true rfl⟩, hts _ (wG_in k_st_X11_set rfl), trivial⟩ hP hD hS [2] rfl rfl rfl rfl hl.1 rfl (Nat.le_of_ble_eq_true rfl) dX2_begin_32 ⟨Nat.le_of_ble_eq_true rfl, Nat.le_of_ble_eq_true rfl⟩ (fun H locs hP hD hS => ?_)
  have hP : va_P D vwCl (w_X2_begin cI cB cZ a_p1 a_t a_t_fitting a_t_kindBy a_t_least a_t_queue u_p1_wife u_p1_child u_p1_husband u_p1_father u_t_against u_t_agreeing u_t_best u_t_count u_t_known s_p1_size v1 s_t_queued r3 r_t_kindBy r2 r_t_queue) H := hP
  have hD : va_D A (w_X2_begin cI cB cZ a_p1 a_t a_t_fitting a_t_kindBy a_t_least a_t_queue u_p1_wife u_p1_child u_p1_husband u_p1_father u_t_against u_t_agreeing u_t_best u_t_count u_t_known s_p1_size v1 s_t_queued r3 r_t_kindBy r2 r_t_queue) := hD
  refine lv_iconst (v := (0 : Int32)) hx hb dX2_begin_35 (by decide) ?_
  refine lv_istore_n (lv' := [(3, .int (0 : Int32)), (0, .ref a_t), (1, .int x1), (2, .ref a_p1)]) hx hb dX2_begin_36 rfl hl (by decide) rfl (fun ls hl => ?_)
  obtain ⟨e6, hg6, hf⟩ := jM_some hf
  refine t_X2_begin_l37 G D cI cB cZ a_p1 a_t a_t_fitting a_t_kindBy a_t_least a_t_queue u_p1_wife u_p1_child u_p1_husband u_p1_father u_t_against u_t_agreeing u_t_best u_t_count u_t_known s_p1_size v1 s_t_queued r3 r2 r_t_queue x1 C jF r_t_kindBy (0 : Int32) hg6 ?_ _ _ _ hP hD hS (lv_sub hl [1, 2, 3, 0] rfl)
  intro H locs ls hP hD hS hl
  refine lv_aload_n hx hb dX2_begin_65 rfl (lv_at hl 0 rfl) ?_
  refine va_get (D := D) (ci := 1) (v := .ref a_t_queue) (C := RX2) (T := TX2) (N := 11) hx hb hts iw_X2 hown hK hP 1 rfl rfl 1 (by decide) (hts _ (wG_in k_fl_X2_17 rfl)) (fun _ h9 => h9) rfl dX2_begin_66 ?_
  refine lv_aload_n hx hb dX2_begin_69 rfl (lv_at hl 0 rfl) ?_
  refine va_get (D := D) (ci := 1) (v := .int s_t_queued) (C := RX2) (T := TX2) (N := 11) hx hb hts iw_X2 hown hK hP 1 rfl rfl 2 (by decide) (hts _ (wG_in k_fl_X2_47 rfl)) (fun _ h9 => h9) rfl dX2_begin_70 ?_
  refine lv_iload_n hx hb dX2_begin_73 rfl (lv_at hl 1 rfl) ?_
  obtain ⟨r7, hgr7, hf⟩ := jM_some hf
  refine jcN_v (As := [.ref a_t_queue, .int s_t_queued, .int x1]) (rest := []) ⟨hx, hb, hml, hown, hts⟩ hK hN hA (c_X11_set l G D cI cB cZ a_t_queue r_t_queue s_t_queued x1 hgr7) ⟨va_cnB 3 hts (wG_good k_co_X11_set) rfl rfl rfl (jN_l nl_X2_77 hN) (hts _ (wG_in k_in_X11 rfl)) hd_X11_set.2 ⟨Nat.le_of_ble_eq_true rfl, Nat.le_of_ble_eq_true rfl⟩, hts _ (wG_in k_st_X11_set rfl), trivial⟩ hP hD hS [5] rfl rfl rfl rfl hl.1 rfl (Nat.le_of_ble_eq_true rfl) dX2_begin_74 ⟨Nat.le_of_ble_eq_true rfl, Nat.le_of_ble_eq_true rfl⟩ (fun H locs hP hD hS => ?_)
  have hP : va_P D vwCl (w_X2_begin cI cB cZ a_p1 a_t a_t_fitting a_t_kindBy a_t_least a_t_queue u_p1_wife u_p1_child u_p1_husband u_p1_father u_t_against u_t_agreeing u_t_best u_t_count u_t_known s_p1_size v1 s_t_queued r3 e6 r2 r7) H := hP
  have hD : va_D A (w_X2_begin cI cB cZ a_p1 a_t a_t_fitting a_t_kindBy a_t_least a_t_queue u_p1_wife u_p1_child u_p1_husband u_p1_father u_t_against u_t_agreeing u_t_best u_t_count u_t_known s_p1_size v1 s_t_queued r3 e6 r2 r7) := hD
  refine lv_aload_n hx hb dX2_begin_77 rfl (lv_at hl 0 rfl) ?_
  refine lv_dup hx hb dX2_begin_78 rfl ?_
  refine va_get (D := D) (ci := 1) (v := .int s_t_queued) (C := RX2) (T := TX2) (N := 11) hx hb hts iw_X2 hown hK hP 1 rfl rfl 2 (by decide) (hts _ (wG_in k_fl_X2_47 rfl)) (fun _ h9 => h9) rfl dX2_begin_79 ?_
  refine lv_iconst (v := (1 : Int32)) hx hb dX2_begin_82 (by decide) ?_
  refine lv_iadd hx hb dX2_begin_83 ?_
  obtain ⟨v8, hv8, hf⟩ := jV_some hf
  refine jtop hv8 ?_
  refine va_put (D := D) (ci := 1) (v := .int v8) (ty := .int) (C := RX2) (T := TX2) (N := 11) hx hb hts iw_X2 tyX2 tyX2_ok nmX2 hown hK hP hD hS 1 rfl rfl 2 (by decide) (hts _ (wG_in k_fl_X2_47 rfl)) (fun _ h9 => h9) rfl (tyX2_ok 2 (by decide)) rfl rfl (Nat.le_of_ble_eq_true rfl) dX2_begin_84 (fun H locs hP hD hS => ?_)
  have hP : va_P D vwCl (w_X2_begin cI cB cZ a_p1 a_t a_t_fitting a_t_kindBy a_t_least a_t_queue u_p1_wife u_p1_child u_p1_husband u_p1_father u_t_against u_t_agreeing u_t_best u_t_count u_t_known s_p1_size v1 v8 r3 e6 r2 r7) H := hP
  have hD : va_D A (w_X2_begin cI cB cZ a_p1 a_t a_t_fitting a_t_kindBy a_t_least a_t_queue u_p1_wife u_p1_child u_p1_husband u_p1_father u_t_against u_t_agreeing u_t_best u_t_count u_t_known s_p1_size v1 v8 r3 e6 r2 r7) := hD
  have ho := Option.some.inj hf
  subst ho
  exact K _ _ _ _ hP hS dX2_begin_87
set_option maxHeartbeats 4000000 in
set_option maxRecDepth 100000 in
theorem c_X2_begin (l : Launch) (G : jGt) (D : va_G) (cI cB cZ : ClassId) (a_p1 a_t a_t_fitting a_t_kindBy a_t_least a_t_queue : Nat) (u_p1_wife u_p1_child u_p1_husband u_p1_father u_t_against u_t_agreeing u_t_best : Value) (u_t_count u_t_known s_p1_size : Int32) (s_t_families s_t_queued : Int32) (r_t_fitting r_t_kindBy r_t_least r_t_queue : jA) (x1 : Int32) {o : Int32 × Int32 × jA × jA × jA × jA} (hf : f_X2_begin s_p1_size s_t_families s_t_queued r_t_fitting r_t_kindBy r_t_least r_t_queue x1 = some o) : jMv l yX2_begin gX2_begin rX2_begin G D (jT cI cB cZ) [.ref a_t, .int x1, .ref a_p1] (w_X2_begin cI cB cZ a_p1 a_t a_t_fitting a_t_kindBy a_t_least a_t_queue u_p1_wife u_p1_child u_p1_husband u_p1_father u_t_against u_t_agreeing u_t_best u_t_count u_t_known s_p1_size s_t_families s_t_queued r_t_fitting r_t_kindBy r_t_least r_t_queue) (w_X2_begin cI cB cZ a_p1 a_t a_t_fitting a_t_kindBy a_t_least a_t_queue u_p1_wife u_p1_child u_p1_husband u_p1_father u_t_against u_t_agreeing u_t_best u_t_count u_t_known s_p1_size o.1 o.2.1 o.2.2.1 o.2.2.2.1 o.2.2.2.2.1 o.2.2.2.2.2) := by
  refine jmk_v RX2 rfl (by decide +kernel) rfl (Nat.le_of_ble_eq_true rfl) rfl ?_
  intro p e s m args below meth c ls A Q C hP hD hS hl K
  exact t_X2_begin G D cI cB cZ a_p1 a_t a_t_fitting a_t_kindBy a_t_least a_t_queue u_p1_wife u_p1_child u_p1_husband u_p1_father u_t_against u_t_agreeing u_t_best u_t_count u_t_known s_p1_size s_t_families s_t_queued r_t_fitting r_t_kindBy r_t_least r_t_queue x1 C hf K hP hD hS hl
abbrev rX4_has : Room := { frames := 0, cells := 0, slots := 0, locals := 0 }
abbrev gX4_has : List Cond := wG yX4_has cX4_has 2 (some .boolean)
def w_X4_has (cI cB cZ : ClassId) (a_t : Nat) (u_t_sex u_t_mother u_t_father u_t_parentsDay u_t_man u_t_woman u_t_weddingDay : Value) (u_t_weddings : Int32) (u_t_teller u_t_tellingKind u_t_tellingDay : Value) (u_t_tellings u_t_today u_t_seenTo s_t_count : Int32) : va_W := [(a_t, .inr (3, (oX4 u_t_sex u_t_mother u_t_father u_t_parentsDay s_t_count u_t_man u_t_woman u_t_weddingDay u_t_weddings u_t_teller u_t_tellingKind u_t_tellingDay u_t_tellings u_t_today u_t_seenTo)))]
def f_X4_has (s_t_count x1 : Int32) : Option (Int32) :=
  if x1 < 0 then
  some (0 : Int32)
  else
  if s_t_count ≤ x1 then
  some (0 : Int32)
  else
  some (1 : Int32)
set_option maxHeartbeats 4000000 in
set_option maxRecDepth 100000 in
theorem t_X4_has {p : Program} {l : Launch} {e : Env} {s : State} {m : MethodId} {args : Array Value} {below : List Frame} {meth : Method} {c : Code} {A : Nat → Prop} {Q : State → Prop} (G : jGt) (D : va_G) (cI cB cZ : ClassId) (a_t : Nat) (u_t_sex u_t_mother u_t_father u_t_parentsDay u_t_man u_t_woman u_t_weddingDay : Value) (u_t_weddings : Int32) (u_t_teller u_t_tellingKind u_t_tellingDay : Value) (u_t_tellings u_t_today u_t_seenTo s_t_count : Int32) (x1 : Int32) (C : jCx p s m args c cX4_has 2 gX4_has RX4 G D (jT cI cB cZ) A) {o : Int32} (hf : f_X4_has s_t_count x1 = some o) (K : ∀ (H : Heap) (locs : List Loc) (pc : Nat) (ls : Array Slot), (o = 0 ∨ o = 1) → va_P D vwCl (w_X4_has cI cB cZ a_t u_t_sex u_t_mother u_t_father u_t_parentsDay u_t_man u_t_woman u_t_weddingDay u_t_weddings u_t_teller u_t_tellingKind u_t_tellingDay u_t_tellings u_t_today u_t_seenTo s_t_count) H → va_S A s.heap H locs → decode cX4_has pc = .ok (.ireturn, 1) → W p l e rX4_has s m args below meth c H locs 0 0 Q (F0 m pc ls [.int o])) {H : Heap} {locs : List Loc} {ls : Array Slot} (hP : va_P D vwCl (w_X4_has cI cB cZ a_t u_t_sex u_t_mother u_t_father u_t_parentsDay u_t_man u_t_woman u_t_weddingDay u_t_weddings u_t_teller u_t_tellingKind u_t_tellingDay u_t_tellings u_t_today u_t_seenTo s_t_count) H) (hD : va_D A (w_X4_has cI cB cZ a_t u_t_sex u_t_mother u_t_father u_t_parentsDay u_t_man u_t_woman u_t_weddingDay u_t_weddings u_t_teller u_t_tellingKind u_t_tellingDay u_t_tellings u_t_today u_t_seenTo s_t_count)) (hS : va_S A s.heap H locs) (hl : lv_has ls 2 [(0, .ref a_t), (1, .int x1)]) : W p l e rX4_has s m args below meth c H locs 0 0 Q (F0 m 0 ls []) := by
  obtain ⟨⟨hx, hb, hml, hown, hts⟩, hK, hN, hA⟩ := C
  have C : jCx p s m args c cX4_has 2 gX4_has RX4 G D (jT cI cB cZ) A := ⟨⟨hx, hb, hml, hown, hts⟩, hK, hN, hA⟩
  unfold f_X4_has at hf
  refine lv_iload_n hx hb dX4_has_0 rfl (lv_at hl 1 rfl) ?_
  refine lv_if_lt (tgt := 16) hx hb dX4_has_1 (by decide) (fun c1 => ?_) (fun c1 => ?_)
  · replace hf := jif_t c1 hf
    refine lv_iconst (v := (0 : Int32)) hx hb dX4_has_16 (by decide) ?_
    have ho := Option.some.inj hf
    subst ho
    exact K _ _ _ _ (Or.inl rfl) hP hS dX4_has_17
  · replace hf := jif_f c1 hf
    refine lv_iload_n hx hb dX4_has_4 rfl (lv_at hl 1 rfl) ?_
    refine lv_aload_n hx hb dX4_has_5 rfl (lv_at hl 0 rfl) ?_
    refine va_get (D := D) (ci := 3) (v := .int s_t_count) (C := RX4) (T := TX4) (N := 15) hx hb hts iw_X4 hown hK hP 0 rfl rfl 4 (by decide) (hts _ (wG_in k_fl_X4_52 rfl)) (fun _ h9 => h9) rfl dX4_has_6 ?_
    refine lv_icmp_ge (tgt := 16) hx hb dX4_has_9 (by decide) (fun c2 => ?_) (fun c2 => ?_)
    · replace hf := jif_t c2 hf
      refine lv_iconst (v := (0 : Int32)) hx hb dX4_has_16 (by decide) ?_
      have ho := Option.some.inj hf
      subst ho
      exact K _ _ _ _ (Or.inl rfl) hP hS dX4_has_17
    · replace hf := jif_f c2 hf
      refine lv_iconst (v := (1 : Int32)) hx hb dX4_has_12 (by decide) ?_
      refine lv_goto (tgt := 17) hx hb dX4_has_13 (by decide) ?_
      have ho := Option.some.inj hf
      subst ho
      exact K _ _ _ _ (Or.inr rfl) hP hS dX4_has_17
set_option maxHeartbeats 4000000 in
set_option maxRecDepth 100000 in
theorem c_X4_has (l : Launch) (G : jGt) (D : va_G) (cI cB cZ : ClassId) (a_t : Nat) (u_t_sex u_t_mother u_t_father u_t_parentsDay u_t_man u_t_woman u_t_weddingDay : Value) (u_t_weddings : Int32) (u_t_teller u_t_tellingKind u_t_tellingDay : Value) (u_t_tellings u_t_today u_t_seenTo s_t_count : Int32) (x1 : Int32) {o : Int32} (hf : f_X4_has s_t_count x1 = some o) : jMi l yX4_has gX4_has rX4_has G D (jT cI cB cZ) [.ref a_t, .int x1] (w_X4_has cI cB cZ a_t u_t_sex u_t_mother u_t_father u_t_parentsDay u_t_man u_t_woman u_t_weddingDay u_t_weddings u_t_teller u_t_tellingKind u_t_tellingDay u_t_tellings u_t_today u_t_seenTo s_t_count) (w_X4_has cI cB cZ a_t u_t_sex u_t_mother u_t_father u_t_parentsDay u_t_man u_t_woman u_t_weddingDay u_t_weddings u_t_teller u_t_tellingKind u_t_tellingDay u_t_tellings u_t_today u_t_seenTo s_t_count) o := by
  refine jmk_z RX4 rfl (by decide +kernel) rfl (Nat.le_of_ble_eq_true rfl) rfl ?_
  intro p e s m args below meth c ls A Q C hP hD hS hl K
  exact t_X4_has G D cI cB cZ a_t u_t_sex u_t_mother u_t_father u_t_parentsDay u_t_man u_t_woman u_t_weddingDay u_t_weddings u_t_teller u_t_tellingKind u_t_tellingDay u_t_tellings u_t_today u_t_seenTo s_t_count x1 C hf K hP hD hS hl
abbrev rX4_isSeen : Room := { frames := 0, cells := 0, slots := 0, locals := 0 }
abbrev gX4_isSeen : List Cond := wG yX4_isSeen cX4_isSeen 2 (some .boolean)
def w_X4_isSeen (cI cB cZ : ClassId) (a_t : Nat) (u_t_sex u_t_mother u_t_father u_t_parentsDay : Value) (u_t_count : Int32) (u_t_man u_t_woman u_t_weddingDay : Value) (u_t_weddings : Int32) (u_t_teller u_t_tellingKind u_t_tellingDay : Value) (u_t_tellings u_t_today s_t_seenTo : Int32) : va_W := [(a_t, .inr (3, (oX4 u_t_sex u_t_mother u_t_father u_t_parentsDay u_t_count u_t_man u_t_woman u_t_weddingDay u_t_weddings u_t_teller u_t_tellingKind u_t_tellingDay u_t_tellings u_t_today s_t_seenTo)))]
def f_X4_isSeen_j16  : Option (Int32) :=
  some (1 : Int32)
set_option maxHeartbeats 4000000 in
set_option maxRecDepth 100000 in
theorem t_X4_isSeen_j16 {p : Program} {l : Launch} {e : Env} {s : State} {m : MethodId} {args : Array Value} {below : List Frame} {meth : Method} {c : Code} {A : Nat → Prop} {Q : State → Prop} (G : jGt) (D : va_G) (cI cB cZ : ClassId) (a_t : Nat) (u_t_sex u_t_mother u_t_father u_t_parentsDay : Value) (u_t_count : Int32) (u_t_man u_t_woman u_t_weddingDay : Value) (u_t_weddings : Int32) (u_t_teller u_t_tellingKind u_t_tellingDay : Value) (u_t_tellings u_t_today s_t_seenTo : Int32)  (C : jCx p s m args c cX4_isSeen 2 gX4_isSeen RX4 G D (jT cI cB cZ) A) {o : Int32} (hf : f_X4_isSeen_j16  = some o) (K : ∀ (H : Heap) (locs : List Loc) (pc : Nat) (ls : Array Slot), (o = 0 ∨ o = 1) → va_P D vwCl (w_X4_isSeen cI cB cZ a_t u_t_sex u_t_mother u_t_father u_t_parentsDay u_t_count u_t_man u_t_woman u_t_weddingDay u_t_weddings u_t_teller u_t_tellingKind u_t_tellingDay u_t_tellings u_t_today s_t_seenTo) H → va_S A s.heap H locs → decode cX4_isSeen pc = .ok (.ireturn, 1) → W p l e rX4_isSeen s m args below meth c H locs 0 0 Q (F0 m pc ls [.int o])) {H : Heap} {locs : List Loc} {ls : Array Slot} (hP : va_P D vwCl (w_X4_isSeen cI cB cZ a_t u_t_sex u_t_mother u_t_father u_t_parentsDay u_t_count u_t_man u_t_woman u_t_weddingDay u_t_weddings u_t_teller u_t_tellingKind u_t_tellingDay u_t_tellings u_t_today s_t_seenTo) H) (hD : va_D A (w_X4_isSeen cI cB cZ a_t u_t_sex u_t_mother u_t_father u_t_parentsDay u_t_count u_t_man u_t_woman u_t_weddingDay u_t_weddings u_t_teller u_t_tellingKind u_t_tellingDay u_t_tellings u_t_today s_t_seenTo)) (hS : va_S A s.heap H locs) (hl : lv_has ls 2 []) : W p l e rX4_isSeen s m args below meth c H locs 0 0 Q (F0 m 16 ls []) := by
  obtain ⟨⟨hx, hb, hml, hown, hts⟩, hK, hN, hA⟩ := C
  have C : jCx p s m args c cX4_isSeen 2 gX4_isSeen RX4 G D (jT cI cB cZ) A := ⟨⟨hx, hb, hml, hown, hts⟩, hK, hN, hA⟩
  unfold f_X4_isSeen_j16 at hf
  refine lv_iconst (v := (1 : Int32)) hx hb dX4_isSeen_16 (by decide) ?_
  refine lv_goto (tgt := 21) hx hb dX4_isSeen_17 (by decide) ?_
  have ho := Option.some.inj hf
  subst ho
  exact K _ _ _ _ (Or.inr rfl) hP hS dX4_isSeen_21
def f_X4_isSeen (s_t_seenTo x1 : Int32) : Option (Int32) :=
  if s_t_seenTo = (-1 : Int32) then
  f_X4_isSeen_j16 
  else
  if s_t_seenTo < x1 then
  some (0 : Int32)
  else
  f_X4_isSeen_j16 
set_option maxHeartbeats 4000000 in
set_option maxRecDepth 100000 in
theorem t_X4_isSeen {p : Program} {l : Launch} {e : Env} {s : State} {m : MethodId} {args : Array Value} {below : List Frame} {meth : Method} {c : Code} {A : Nat → Prop} {Q : State → Prop} (G : jGt) (D : va_G) (cI cB cZ : ClassId) (a_t : Nat) (u_t_sex u_t_mother u_t_father u_t_parentsDay : Value) (u_t_count : Int32) (u_t_man u_t_woman u_t_weddingDay : Value) (u_t_weddings : Int32) (u_t_teller u_t_tellingKind u_t_tellingDay : Value) (u_t_tellings u_t_today s_t_seenTo : Int32) (x1 : Int32) (C : jCx p s m args c cX4_isSeen 2 gX4_isSeen RX4 G D (jT cI cB cZ) A) {o : Int32} (hf : f_X4_isSeen s_t_seenTo x1 = some o) (K : ∀ (H : Heap) (locs : List Loc) (pc : Nat) (ls : Array Slot), (o = 0 ∨ o = 1) → va_P D vwCl (w_X4_isSeen cI cB cZ a_t u_t_sex u_t_mother u_t_father u_t_parentsDay u_t_count u_t_man u_t_woman u_t_weddingDay u_t_weddings u_t_teller u_t_tellingKind u_t_tellingDay u_t_tellings u_t_today s_t_seenTo) H → va_S A s.heap H locs → decode cX4_isSeen pc = .ok (.ireturn, 1) → W p l e rX4_isSeen s m args below meth c H locs 0 0 Q (F0 m pc ls [.int o])) {H : Heap} {locs : List Loc} {ls : Array Slot} (hP : va_P D vwCl (w_X4_isSeen cI cB cZ a_t u_t_sex u_t_mother u_t_father u_t_parentsDay u_t_count u_t_man u_t_woman u_t_weddingDay u_t_weddings u_t_teller u_t_tellingKind u_t_tellingDay u_t_tellings u_t_today s_t_seenTo) H) (hD : va_D A (w_X4_isSeen cI cB cZ a_t u_t_sex u_t_mother u_t_father u_t_parentsDay u_t_count u_t_man u_t_woman u_t_weddingDay u_t_weddings u_t_teller u_t_tellingKind u_t_tellingDay u_t_tellings u_t_today s_t_seenTo)) (hS : va_S A s.heap H locs) (hl : lv_has ls 2 [(0, .ref a_t), (1, .int x1)]) : W p l e rX4_isSeen s m args below meth c H locs 0 0 Q (F0 m 0 ls []) := by
  obtain ⟨⟨hx, hb, hml, hown, hts⟩, hK, hN, hA⟩ := C
  have C : jCx p s m args c cX4_isSeen 2 gX4_isSeen RX4 G D (jT cI cB cZ) A := ⟨⟨hx, hb, hml, hown, hts⟩, hK, hN, hA⟩
  unfold f_X4_isSeen at hf
  refine lv_aload_n hx hb dX4_isSeen_0 rfl (lv_at hl 0 rfl) ?_
  refine va_get (D := D) (ci := 3) (v := .int s_t_seenTo) (C := RX4) (T := TX4) (N := 15) hx hb hts iw_X4 hown hK hP 0 rfl rfl 14 (by decide) (hts _ (wG_in k_fl_X4_42 rfl)) (fun _ h9 => h9) rfl dX4_isSeen_1 ?_
  refine lv_iconst (v := (-1 : Int32)) hx hb dX4_isSeen_4 (by decide) ?_
  refine lv_icmp_eq (tgt := 16) hx hb dX4_isSeen_5 (by decide) (fun c1 => ?_) (fun c1 => ?_)
  · replace hf := jif_t c1 hf
    exact t_X4_isSeen_j16 G D cI cB cZ a_t u_t_sex u_t_mother u_t_father u_t_parentsDay u_t_count u_t_man u_t_woman u_t_weddingDay u_t_weddings u_t_teller u_t_tellingKind u_t_tellingDay u_t_tellings u_t_today s_t_seenTo  C hf K hP hD hS (lv_sub hl [] rfl)
  · replace hf := jif_f c1 hf
    refine lv_iload_n hx hb dX4_isSeen_8 rfl (lv_at hl 1 rfl) ?_
    refine lv_aload_n hx hb dX4_isSeen_9 rfl (lv_at hl 0 rfl) ?_
    refine va_get (D := D) (ci := 3) (v := .int s_t_seenTo) (C := RX4) (T := TX4) (N := 15) hx hb hts iw_X4 hown hK hP 0 rfl rfl 14 (by decide) (hts _ (wG_in k_fl_X4_42 rfl)) (fun _ h9 => h9) rfl dX4_isSeen_10 ?_
    refine lv_icmp_gt (tgt := 20) hx hb dX4_isSeen_13 (by decide) (fun c2 => ?_) (fun c2 => ?_)
    · replace hf := jif_t c2 hf
      refine lv_iconst (v := (0 : Int32)) hx hb dX4_isSeen_20 (by decide) ?_
      have ho := Option.some.inj hf
      subst ho
      exact K _ _ _ _ (Or.inl rfl) hP hS dX4_isSeen_21
    · replace hf := jif_f c2 hf
      exact t_X4_isSeen_j16 G D cI cB cZ a_t u_t_sex u_t_mother u_t_father u_t_parentsDay u_t_count u_t_man u_t_woman u_t_weddingDay u_t_weddings u_t_teller u_t_tellingKind u_t_tellingDay u_t_tellings u_t_today s_t_seenTo  C hf K hP hD hS (lv_sub hl [] rfl)
set_option maxHeartbeats 4000000 in
set_option maxRecDepth 100000 in
theorem c_X4_isSeen (l : Launch) (G : jGt) (D : va_G) (cI cB cZ : ClassId) (a_t : Nat) (u_t_sex u_t_mother u_t_father u_t_parentsDay : Value) (u_t_count : Int32) (u_t_man u_t_woman u_t_weddingDay : Value) (u_t_weddings : Int32) (u_t_teller u_t_tellingKind u_t_tellingDay : Value) (u_t_tellings u_t_today s_t_seenTo : Int32) (x1 : Int32) {o : Int32} (hf : f_X4_isSeen s_t_seenTo x1 = some o) : jMi l yX4_isSeen gX4_isSeen rX4_isSeen G D (jT cI cB cZ) [.ref a_t, .int x1] (w_X4_isSeen cI cB cZ a_t u_t_sex u_t_mother u_t_father u_t_parentsDay u_t_count u_t_man u_t_woman u_t_weddingDay u_t_weddings u_t_teller u_t_tellingKind u_t_tellingDay u_t_tellings u_t_today s_t_seenTo) (w_X4_isSeen cI cB cZ a_t u_t_sex u_t_mother u_t_father u_t_parentsDay u_t_count u_t_man u_t_woman u_t_weddingDay u_t_weddings u_t_teller u_t_tellingKind u_t_tellingDay u_t_tellings u_t_today s_t_seenTo) o := by
  refine jmk_z RX4 rfl (by decide +kernel) rfl (Nat.le_of_ble_eq_true rfl) rfl ?_
  intro p e s m args below meth c ls A Q C hP hD hS hl K
  exact t_X4_isSeen G D cI cB cZ a_t u_t_sex u_t_mother u_t_father u_t_parentsDay u_t_count u_t_man u_t_woman u_t_weddingDay u_t_weddings u_t_teller u_t_tellingKind u_t_tellingDay u_t_tellings u_t_today s_t_seenTo x1 C hf K hP hD hS hl
abbrev rX4_parentSeen : Room := { frames := 1, cells := 0, slots := 0, locals := 21 }
abbrev gX4_parentSeen : List Cond := wG yX4_parentSeen cX4_parentSeen 4 (some .int)
def w_X4_parentSeen (cI cB cZ : ClassId) (a_t a_t_father a_t_mother a_t_parentsDay : Nat) (u_t_sex u_t_man u_t_woman u_t_weddingDay : Value) (u_t_weddings : Int32) (u_t_teller u_t_tellingKind u_t_tellingDay : Value) (u_t_tellings u_t_today s_t_count s_t_seenTo : Int32) (r_t_father r_t_mother r_t_parentsDay : jA) : va_W := [(a_t, .inr (3, (oX4 u_t_sex (.ref a_t_mother) (.ref a_t_father) (.ref a_t_parentsDay) s_t_count u_t_man u_t_woman u_t_weddingDay u_t_weddings u_t_teller u_t_tellingKind u_t_tellingDay u_t_tellings u_t_today s_t_seenTo))), (a_t_father, .inl (cI, r_t_father.1, .inl r_t_father.2)), (a_t_mother, .inl (cI, r_t_mother.1, .inl r_t_mother.2)), (a_t_parentsDay, .inl (cI, r_t_parentsDay.1, .inl r_t_parentsDay.2))]
def f_X4_parentSeen_j51 (r_t_father : jA) (x1 : Int32) : Option (Int32) :=
  jM (f_X11_entry r_t_father x1) fun r7 =>
  some r7
set_option maxHeartbeats 4000000 in
set_option maxRecDepth 100000 in
theorem t_X4_parentSeen_j51 {p : Program} {l : Launch} {e : Env} {s : State} {m : MethodId} {args : Array Value} {below : List Frame} {meth : Method} {c : Code} {A : Nat → Prop} {Q : State → Prop} (G : jGt) (D : va_G) (cI cB cZ : ClassId) (a_t a_t_father a_t_mother a_t_parentsDay : Nat) (u_t_sex u_t_man u_t_woman u_t_weddingDay : Value) (u_t_weddings : Int32) (u_t_teller u_t_tellingKind u_t_tellingDay : Value) (u_t_tellings u_t_today s_t_count s_t_seenTo : Int32) (r_t_father r_t_mother r_t_parentsDay : jA) (x1 : Int32) (C : jCx p s m args c cX4_parentSeen 4 gX4_parentSeen RX4 G D (jT cI cB cZ) A) {o : Int32} (hf : f_X4_parentSeen_j51 r_t_father x1 = some o) (K : ∀ (H : Heap) (locs : List Loc) (pc : Nat) (ls : Array Slot), va_P D vwCl (w_X4_parentSeen cI cB cZ a_t a_t_father a_t_mother a_t_parentsDay u_t_sex u_t_man u_t_woman u_t_weddingDay u_t_weddings u_t_teller u_t_tellingKind u_t_tellingDay u_t_tellings u_t_today s_t_count s_t_seenTo r_t_father r_t_mother r_t_parentsDay) H → va_S A s.heap H locs → decode cX4_parentSeen pc = .ok (.ireturn, 1) → W p l e rX4_parentSeen s m args below meth c H locs 0 0 Q (F0 m pc ls [.int o])) {H : Heap} {locs : List Loc} {ls : Array Slot} (hP : va_P D vwCl (w_X4_parentSeen cI cB cZ a_t a_t_father a_t_mother a_t_parentsDay u_t_sex u_t_man u_t_woman u_t_weddingDay u_t_weddings u_t_teller u_t_tellingKind u_t_tellingDay u_t_tellings u_t_today s_t_count s_t_seenTo r_t_father r_t_mother r_t_parentsDay) H) (hD : va_D A (w_X4_parentSeen cI cB cZ a_t a_t_father a_t_mother a_t_parentsDay u_t_sex u_t_man u_t_woman u_t_weddingDay u_t_weddings u_t_teller u_t_tellingKind u_t_tellingDay u_t_tellings u_t_today s_t_count s_t_seenTo r_t_father r_t_mother r_t_parentsDay)) (hS : va_S A s.heap H locs) (hl : lv_has ls 4 [(1, .int x1)]) : W p l e rX4_parentSeen s m args below meth c H locs 0 0 Q (F0 m 51 ls [.ref a_t_father]) := by
  obtain ⟨⟨hx, hb, hml, hown, hts⟩, hK, hN, hA⟩ := C
  have C : jCx p s m args c cX4_parentSeen 4 gX4_parentSeen RX4 G D (jT cI cB cZ) A := ⟨⟨hx, hb, hml, hown, hts⟩, hK, hN, hA⟩
  unfold f_X4_parentSeen_j51 at hf
  refine lv_iload_n hx hb dX4_parentSeen_51 rfl (lv_at hl 0 rfl) ?_
  obtain ⟨r7, hgr7, hf⟩ := jM_some hf
  refine jcN_i0 (As := [.ref a_t_father, .int x1]) (rest := []) ⟨hx, hb, hml, hown, hts⟩ hK hN hA (c_X11_entry l G D cI cB cZ a_t_father r_t_father x1 hgr7) ⟨va_cnB 2 hts (wG_good k_co_X11_entry) rfl rfl rfl (jN_l nl_X4_68 hN) (hts _ (wG_in k_in_X11 rfl)) hd_X11_entry.2 ⟨Nat.le_of_ble_eq_true rfl, Nat.le_of_ble_eq_true rfl⟩, hts _ (wG_in k_st_X11_entry rfl), trivial⟩ hP hD hS [1] rfl rfl rfl rfl hl.1 rfl (Nat.le_of_ble_eq_true rfl) dX4_parentSeen_52 ⟨Nat.le_of_ble_eq_true rfl, Nat.le_of_ble_eq_true rfl⟩ (fun H locs hP hD hS => ?_)
  have ho := Option.some.inj hf
  subst ho
  exact K _ _ _ _ hP hS dX4_parentSeen_55
def f_X4_parentSeen_j51b (r_t_mother : jA) (x1 : Int32) : Option (Int32) :=
  jM (f_X11_entry r_t_mother x1) fun r8 =>
  some r8
set_option maxHeartbeats 4000000 in
set_option maxRecDepth 100000 in
theorem t_X4_parentSeen_j51b {p : Program} {l : Launch} {e : Env} {s : State} {m : MethodId} {args : Array Value} {below : List Frame} {meth : Method} {c : Code} {A : Nat → Prop} {Q : State → Prop} (G : jGt) (D : va_G) (cI cB cZ : ClassId) (a_t a_t_father a_t_mother a_t_parentsDay : Nat) (u_t_sex u_t_man u_t_woman u_t_weddingDay : Value) (u_t_weddings : Int32) (u_t_teller u_t_tellingKind u_t_tellingDay : Value) (u_t_tellings u_t_today s_t_count s_t_seenTo : Int32) (r_t_father r_t_mother r_t_parentsDay : jA) (x1 : Int32) (C : jCx p s m args c cX4_parentSeen 4 gX4_parentSeen RX4 G D (jT cI cB cZ) A) {o : Int32} (hf : f_X4_parentSeen_j51b r_t_mother x1 = some o) (K : ∀ (H : Heap) (locs : List Loc) (pc : Nat) (ls : Array Slot), va_P D vwCl (w_X4_parentSeen cI cB cZ a_t a_t_father a_t_mother a_t_parentsDay u_t_sex u_t_man u_t_woman u_t_weddingDay u_t_weddings u_t_teller u_t_tellingKind u_t_tellingDay u_t_tellings u_t_today s_t_count s_t_seenTo r_t_father r_t_mother r_t_parentsDay) H → va_S A s.heap H locs → decode cX4_parentSeen pc = .ok (.ireturn, 1) → W p l e rX4_parentSeen s m args below meth c H locs 0 0 Q (F0 m pc ls [.int o])) {H : Heap} {locs : List Loc} {ls : Array Slot} (hP : va_P D vwCl (w_X4_parentSeen cI cB cZ a_t a_t_father a_t_mother a_t_parentsDay u_t_sex u_t_man u_t_woman u_t_weddingDay u_t_weddings u_t_teller u_t_tellingKind u_t_tellingDay u_t_tellings u_t_today s_t_count s_t_seenTo r_t_father r_t_mother r_t_parentsDay) H) (hD : va_D A (w_X4_parentSeen cI cB cZ a_t a_t_father a_t_mother a_t_parentsDay u_t_sex u_t_man u_t_woman u_t_weddingDay u_t_weddings u_t_teller u_t_tellingKind u_t_tellingDay u_t_tellings u_t_today s_t_count s_t_seenTo r_t_father r_t_mother r_t_parentsDay)) (hS : va_S A s.heap H locs) (hl : lv_has ls 4 [(1, .int x1)]) : W p l e rX4_parentSeen s m args below meth c H locs 0 0 Q (F0 m 51 ls [.ref a_t_mother]) := by
  obtain ⟨⟨hx, hb, hml, hown, hts⟩, hK, hN, hA⟩ := C
  have C : jCx p s m args c cX4_parentSeen 4 gX4_parentSeen RX4 G D (jT cI cB cZ) A := ⟨⟨hx, hb, hml, hown, hts⟩, hK, hN, hA⟩
  unfold f_X4_parentSeen_j51b at hf
  refine lv_iload_n hx hb dX4_parentSeen_51 rfl (lv_at hl 0 rfl) ?_
  obtain ⟨r8, hgr8, hf⟩ := jM_some hf
  refine jcN_i0 (As := [.ref a_t_mother, .int x1]) (rest := []) ⟨hx, hb, hml, hown, hts⟩ hK hN hA (c_X11_entry l G D cI cB cZ a_t_mother r_t_mother x1 hgr8) ⟨va_cnB 2 hts (wG_good k_co_X11_entry) rfl rfl rfl (jN_l nl_X4_68 hN) (hts _ (wG_in k_in_X11 rfl)) hd_X11_entry.2 ⟨Nat.le_of_ble_eq_true rfl, Nat.le_of_ble_eq_true rfl⟩, hts _ (wG_in k_st_X11_entry rfl), trivial⟩ hP hD hS [2] rfl rfl rfl rfl hl.1 rfl (Nat.le_of_ble_eq_true rfl) dX4_parentSeen_52 ⟨Nat.le_of_ble_eq_true rfl, Nat.le_of_ble_eq_true rfl⟩ (fun H locs hP hD hS => ?_)
  have ho := Option.some.inj hf
  subst ho
  exact K _ _ _ _ hP hS dX4_parentSeen_55
def f_X4_parentSeen_j20 (s_t_seenTo : Int32) (r_t_father r_t_mother : jA) (x1 x2 k0 : Int32) : Option (Int32) :=
  if k0 = (-1 : Int32) then
  some (-1 : Int32)
  else
  jM (f_X4_isSeen s_t_seenTo k0) fun r4 =>
  if r4 = 0 then
  some (-1 : Int32)
  else
  if x2 = 0 then
  f_X4_parentSeen_j51b r_t_mother x1
  else
  f_X4_parentSeen_j51 r_t_father x1
set_option maxHeartbeats 4000000 in
set_option maxRecDepth 100000 in
theorem t_X4_parentSeen_j20 {p : Program} {l : Launch} {e : Env} {s : State} {m : MethodId} {args : Array Value} {below : List Frame} {meth : Method} {c : Code} {A : Nat → Prop} {Q : State → Prop} (G : jGt) (D : va_G) (cI cB cZ : ClassId) (a_t a_t_father a_t_mother a_t_parentsDay : Nat) (u_t_sex u_t_man u_t_woman u_t_weddingDay : Value) (u_t_weddings : Int32) (u_t_teller u_t_tellingKind u_t_tellingDay : Value) (u_t_tellings u_t_today s_t_count s_t_seenTo : Int32) (r_t_father r_t_mother r_t_parentsDay : jA) (x1 x2 k0 : Int32) (C : jCx p s m args c cX4_parentSeen 4 gX4_parentSeen RX4 G D (jT cI cB cZ) A) {o : Int32} (hf : f_X4_parentSeen_j20 s_t_seenTo r_t_father r_t_mother x1 x2 k0 = some o) (K : ∀ (H : Heap) (locs : List Loc) (pc : Nat) (ls : Array Slot), va_P D vwCl (w_X4_parentSeen cI cB cZ a_t a_t_father a_t_mother a_t_parentsDay u_t_sex u_t_man u_t_woman u_t_weddingDay u_t_weddings u_t_teller u_t_tellingKind u_t_tellingDay u_t_tellings u_t_today s_t_count s_t_seenTo r_t_father r_t_mother r_t_parentsDay) H → va_S A s.heap H locs → decode cX4_parentSeen pc = .ok (.ireturn, 1) → W p l e rX4_parentSeen s m args below meth c H locs 0 0 Q (F0 m pc ls [.int o])) {H : Heap} {locs : List Loc} {ls : Array Slot} (hP : va_P D vwCl (w_X4_parentSeen cI cB cZ a_t a_t_father a_t_mother a_t_parentsDay u_t_sex u_t_man u_t_woman u_t_weddingDay u_t_weddings u_t_teller u_t_tellingKind u_t_tellingDay u_t_tellings u_t_today s_t_count s_t_seenTo r_t_father r_t_mother r_t_parentsDay) H) (hD : va_D A (w_X4_parentSeen cI cB cZ a_t a_t_father a_t_mother a_t_parentsDay u_t_sex u_t_man u_t_woman u_t_weddingDay u_t_weddings u_t_teller u_t_tellingKind u_t_tellingDay u_t_tellings u_t_today s_t_count s_t_seenTo r_t_father r_t_mother r_t_parentsDay)) (hS : va_S A s.heap H locs) (hl : lv_has ls 4 [(0, .ref a_t), (1, .int x1), (2, .int x2)]) : W p l e rX4_parentSeen s m args below meth c H locs 0 0 Q (F0 m 20 ls [.int k0]) := by
  obtain ⟨⟨hx, hb, hml, hown, hts⟩, hK, hN, hA⟩ := C
  have C : jCx p s m args c cX4_parentSeen 4 gX4_parentSeen RX4 G D (jT cI cB cZ) A := ⟨⟨hx, hb, hml, hown, hts⟩, hK, hN, hA⟩
  unfold f_X4_parentSeen_j20 at hf
  refine lv_istore_n (lv' := [(3, .int k0), (0, .ref a_t), (1, .int x1), (2, .int x2)]) hx hb dX4_parentSeen_20 rfl hl (by decide) rfl (fun ls hl => ?_)
  refine lv_iload_n hx hb dX4_parentSeen_21 rfl (lv_at hl 0 rfl) ?_
  refine lv_iconst (v := (-1 : Int32)) hx hb dX4_parentSeen_22 (by decide) ?_
  refine lv_icmp_eq (tgt := 34) hx hb dX4_parentSeen_23 (by decide) (fun c3 => ?_) (fun c3 => ?_)
  · replace hf := jif_t c3 hf
    refine lv_iconst (v := (-1 : Int32)) hx hb dX4_parentSeen_34 (by decide) ?_
    have ho := Option.some.inj hf
    subst ho
    exact K _ _ _ _ hP hS dX4_parentSeen_35
  · replace hf := jif_f c3 hf
    refine lv_aload_n hx hb dX4_parentSeen_26 rfl (lv_at hl 1 rfl) ?_
    refine lv_iload_n hx hb dX4_parentSeen_27 rfl (lv_at hl 0 rfl) ?_
    obtain ⟨r4, hgr4, hf⟩ := jM_some hf
    refine jcV_i0 (As := [.int k0]) (rest := []) ⟨hx, hb, hml, hown, hts⟩ hK hN hA (c_X4_isSeen l G D cI cB cZ a_t u_t_sex (.ref a_t_mother) (.ref a_t_father) (.ref a_t_parentsDay) s_t_count u_t_man u_t_woman u_t_weddingDay u_t_weddings u_t_teller u_t_tellingKind u_t_tellingDay u_t_tellings u_t_today s_t_seenTo k0 hgr4) (cwV 1 hts (wG_V k_ml_X4_84 k_im_X4_isSeen k_se_X4_isSeen k_in_X4 k_co_X4_isSeen) rfl rfl rfl hd_X4_isSeen ⟨Nat.le_of_ble_eq_true rfl, Nat.le_of_ble_eq_true rfl⟩) hP hD hS [0] rfl rfl rfl (ci := 3) rfl 0 rfl rfl rfl hl.1 rfl (Nat.le_of_ble_eq_true rfl) dX4_parentSeen_28 ⟨Nat.le_of_ble_eq_true rfl, Nat.le_of_ble_eq_true rfl⟩ (fun H locs hP hD hS => ?_)
    refine lv_if_ne (tgt := 36) hx hb dX4_parentSeen_31 (by decide) (fun c5 => ?_) (fun c5 => ?_)
    · replace hf := jif_f c5 hf
      refine lv_iload_n hx hb dX4_parentSeen_36 rfl (lv_at hl 3 rfl) ?_
      refine lv_if_ne (tgt := 47) hx hb dX4_parentSeen_37 (by decide) (fun c6 => ?_) (fun c6 => ?_)
      · replace hf := jif_f c6 hf
        refine lv_aload_n hx hb dX4_parentSeen_47 rfl (lv_at hl 1 rfl) ?_
        refine va_get (D := D) (ci := 3) (v := .ref a_t_father) (C := RX4) (T := TX4) (N := 15) hx hb hts iw_X4 hown hK hP 0 rfl rfl 2 (by decide) (hts _ (wG_in k_fl_X4_18 rfl)) (fun _ h9 => h9) rfl dX4_parentSeen_48 ?_
        exact t_X4_parentSeen_j51 G D cI cB cZ a_t a_t_father a_t_mother a_t_parentsDay u_t_sex u_t_man u_t_woman u_t_weddingDay u_t_weddings u_t_teller u_t_tellingKind u_t_tellingDay u_t_tellings u_t_today s_t_count s_t_seenTo r_t_father r_t_mother r_t_parentsDay x1 C hf K hP hD hS (lv_sub hl [2] rfl)
      · replace hf := jif_t c6 hf
        refine lv_aload_n hx hb dX4_parentSeen_40 rfl (lv_at hl 1 rfl) ?_
        refine va_get (D := D) (ci := 3) (v := .ref a_t_mother) (C := RX4) (T := TX4) (N := 15) hx hb hts iw_X4 hown hK hP 0 rfl rfl 1 (by decide) (hts _ (wG_in k_fl_X4_15 rfl)) (fun _ h9 => h9) rfl dX4_parentSeen_41 ?_
        refine lv_goto (tgt := 51) hx hb dX4_parentSeen_44 (by decide) ?_
        exact t_X4_parentSeen_j51b G D cI cB cZ a_t a_t_father a_t_mother a_t_parentsDay u_t_sex u_t_man u_t_woman u_t_weddingDay u_t_weddings u_t_teller u_t_tellingKind u_t_tellingDay u_t_tellings u_t_today s_t_count s_t_seenTo r_t_father r_t_mother r_t_parentsDay x1 C hf K hP hD hS (lv_sub hl [2] rfl)
    · replace hf := jif_t c5 hf
      refine lv_iconst (v := (-1 : Int32)) hx hb dX4_parentSeen_34 (by decide) ?_
      have ho := Option.some.inj hf
      subst ho
      exact K _ _ _ _ hP hS dX4_parentSeen_35
def f_X4_parentSeen (s_t_count s_t_seenTo : Int32) (r_t_father r_t_mother r_t_parentsDay : jA) (x1 x2 : Int32) : Option (Int32) :=
  jM (f_X4_has s_t_count x1) fun r1 =>
  if r1 = 0 then
  f_X4_parentSeen_j20 s_t_seenTo r_t_father r_t_mother x1 x2 (-1 : Int32)
  else
  jM (f_X11_entry r_t_parentsDay x1) fun r9 =>
  f_X4_parentSeen_j20 s_t_seenTo r_t_father r_t_mother x1 x2 r9
set_option maxHeartbeats 4000000 in
set_option maxRecDepth 100000 in
theorem t_X4_parentSeen {p : Program} {l : Launch} {e : Env} {s : State} {m : MethodId} {args : Array Value} {below : List Frame} {meth : Method} {c : Code} {A : Nat → Prop} {Q : State → Prop} (G : jGt) (D : va_G) (cI cB cZ : ClassId) (a_t a_t_father a_t_mother a_t_parentsDay : Nat) (u_t_sex u_t_man u_t_woman u_t_weddingDay : Value) (u_t_weddings : Int32) (u_t_teller u_t_tellingKind u_t_tellingDay : Value) (u_t_tellings u_t_today s_t_count s_t_seenTo : Int32) (r_t_father r_t_mother r_t_parentsDay : jA) (x1 x2 : Int32) (C : jCx p s m args c cX4_parentSeen 4 gX4_parentSeen RX4 G D (jT cI cB cZ) A) {o : Int32} (hf : f_X4_parentSeen s_t_count s_t_seenTo r_t_father r_t_mother r_t_parentsDay x1 x2 = some o) (K : ∀ (H : Heap) (locs : List Loc) (pc : Nat) (ls : Array Slot), va_P D vwCl (w_X4_parentSeen cI cB cZ a_t a_t_father a_t_mother a_t_parentsDay u_t_sex u_t_man u_t_woman u_t_weddingDay u_t_weddings u_t_teller u_t_tellingKind u_t_tellingDay u_t_tellings u_t_today s_t_count s_t_seenTo r_t_father r_t_mother r_t_parentsDay) H → va_S A s.heap H locs → decode cX4_parentSeen pc = .ok (.ireturn, 1) → W p l e rX4_parentSeen s m args below meth c H locs 0 0 Q (F0 m pc ls [.int o])) {H : Heap} {locs : List Loc} {ls : Array Slot} (hP : va_P D vwCl (w_X4_parentSeen cI cB cZ a_t a_t_father a_t_mother a_t_parentsDay u_t_sex u_t_man u_t_woman u_t_weddingDay u_t_weddings u_t_teller u_t_tellingKind u_t_tellingDay u_t_tellings u_t_today s_t_count s_t_seenTo r_t_father r_t_mother r_t_parentsDay) H) (hD : va_D A (w_X4_parentSeen cI cB cZ a_t a_t_father a_t_mother a_t_parentsDay u_t_sex u_t_man u_t_woman u_t_weddingDay u_t_weddings u_t_teller u_t_tellingKind u_t_tellingDay u_t_tellings u_t_today s_t_count s_t_seenTo r_t_father r_t_mother r_t_parentsDay)) (hS : va_S A s.heap H locs) (hl : lv_has ls 4 [(0, .ref a_t), (1, .int x1), (2, .int x2)]) : W p l e rX4_parentSeen s m args below meth c H locs 0 0 Q (F0 m 0 ls []) := by
  obtain ⟨⟨hx, hb, hml, hown, hts⟩, hK, hN, hA⟩ := C
  have C : jCx p s m args c cX4_parentSeen 4 gX4_parentSeen RX4 G D (jT cI cB cZ) A := ⟨⟨hx, hb, hml, hown, hts⟩, hK, hN, hA⟩
  unfold f_X4_parentSeen at hf
  refine lv_aload_n hx hb dX4_parentSeen_0 rfl (lv_at hl 0 rfl) ?_
  refine lv_iload_n hx hb dX4_parentSeen_1 rfl (lv_at hl 1 rfl) ?_
  obtain ⟨r1, hgr1, hf⟩ := jM_some hf
  refine jcV_i0 (As := [.int x1]) (rest := []) ⟨hx, hb, hml, hown, hts⟩ hK hN hA (c_X4_has l G D cI cB cZ a_t u_t_sex (.ref a_t_mother) (.ref a_t_father) (.ref a_t_parentsDay) u_t_man u_t_woman u_t_weddingDay u_t_weddings u_t_teller u_t_tellingKind u_t_tellingDay u_t_tellings u_t_today s_t_seenTo s_t_count x1 hgr1) (cwV 1 hts (wG_V k_ml_X4_64 k_im_X4_has k_se_X4_has k_in_X4 k_co_X4_has) rfl rfl rfl hd_X4_has ⟨Nat.le_of_ble_eq_true rfl, Nat.le_of_ble_eq_true rfl⟩) hP hD hS [0] rfl rfl rfl (ci := 3) rfl 0 rfl rfl rfl hl.1 rfl (Nat.le_of_ble_eq_true rfl) dX4_parentSeen_2 ⟨Nat.le_of_ble_eq_true rfl, Nat.le_of_ble_eq_true rfl⟩ (fun H locs hP hD hS => ?_)
  refine lv_if_eq (tgt := 19) hx hb dX4_parentSeen_5 (by decide) (fun c2 => ?_) (fun c2 => ?_)
  · replace hf := jif_t c2 hf
    refine lv_iconst (v := (-1 : Int32)) hx hb dX4_parentSeen_19 (by decide) ?_
    exact t_X4_parentSeen_j20 G D cI cB cZ a_t a_t_father a_t_mother a_t_parentsDay u_t_sex u_t_man u_t_woman u_t_weddingDay u_t_weddings u_t_teller u_t_tellingKind u_t_tellingDay u_t_tellings u_t_today s_t_count s_t_seenTo r_t_father r_t_mother r_t_parentsDay x1 x2 (-1 : Int32) C hf K hP hD hS (lv_sub hl [0, 1, 2] rfl)
  · replace hf := jif_f c2 hf
    refine lv_aload_n hx hb dX4_parentSeen_8 rfl (lv_at hl 0 rfl) ?_
    refine va_get (D := D) (ci := 3) (v := .ref a_t_parentsDay) (C := RX4) (T := TX4) (N := 15) hx hb hts iw_X4 hown hK hP 0 rfl rfl 3 (by decide) (hts _ (wG_in k_fl_X4_21 rfl)) (fun _ h9 => h9) rfl dX4_parentSeen_9 ?_
    refine lv_iload_n hx hb dX4_parentSeen_12 rfl (lv_at hl 1 rfl) ?_
    obtain ⟨r9, hgr9, hf⟩ := jM_some hf
    refine jcN_i0 (As := [.ref a_t_parentsDay, .int x1]) (rest := []) ⟨hx, hb, hml, hown, hts⟩ hK hN hA (c_X11_entry l G D cI cB cZ a_t_parentsDay r_t_parentsDay x1 hgr9) ⟨va_cnB 2 hts (wG_good k_co_X11_entry) rfl rfl rfl (jN_l nl_X4_68 hN) (hts _ (wG_in k_in_X11 rfl)) hd_X11_entry.2 ⟨Nat.le_of_ble_eq_true rfl, Nat.le_of_ble_eq_true rfl⟩, hts _ (wG_in k_st_X11_entry rfl), trivial⟩ hP hD hS [3] rfl rfl rfl rfl hl.1 rfl (Nat.le_of_ble_eq_true rfl) dX4_parentSeen_13 ⟨Nat.le_of_ble_eq_true rfl, Nat.le_of_ble_eq_true rfl⟩ (fun H locs hP hD hS => ?_)
    refine lv_goto (tgt := 20) hx hb dX4_parentSeen_16 (by decide) ?_
    exact t_X4_parentSeen_j20 G D cI cB cZ a_t a_t_father a_t_mother a_t_parentsDay u_t_sex u_t_man u_t_woman u_t_weddingDay u_t_weddings u_t_teller u_t_tellingKind u_t_tellingDay u_t_tellings u_t_today s_t_count s_t_seenTo r_t_father r_t_mother r_t_parentsDay x1 x2 r9 C hf K hP hD hS (lv_sub hl [0, 1, 2] rfl)
set_option maxHeartbeats 4000000 in
set_option maxRecDepth 100000 in
theorem c_X4_parentSeen (l : Launch) (G : jGt) (D : va_G) (cI cB cZ : ClassId) (a_t a_t_father a_t_mother a_t_parentsDay : Nat) (u_t_sex u_t_man u_t_woman u_t_weddingDay : Value) (u_t_weddings : Int32) (u_t_teller u_t_tellingKind u_t_tellingDay : Value) (u_t_tellings u_t_today s_t_count s_t_seenTo : Int32) (r_t_father r_t_mother r_t_parentsDay : jA) (x1 x2 : Int32) {o : Int32} (hf : f_X4_parentSeen s_t_count s_t_seenTo r_t_father r_t_mother r_t_parentsDay x1 x2 = some o) : jMi l yX4_parentSeen gX4_parentSeen rX4_parentSeen G D (jT cI cB cZ) [.ref a_t, .int x1, .int x2] (w_X4_parentSeen cI cB cZ a_t a_t_father a_t_mother a_t_parentsDay u_t_sex u_t_man u_t_woman u_t_weddingDay u_t_weddings u_t_teller u_t_tellingKind u_t_tellingDay u_t_tellings u_t_today s_t_count s_t_seenTo r_t_father r_t_mother r_t_parentsDay) (w_X4_parentSeen cI cB cZ a_t a_t_father a_t_mother a_t_parentsDay u_t_sex u_t_man u_t_woman u_t_weddingDay u_t_weddings u_t_teller u_t_tellingKind u_t_tellingDay u_t_tellings u_t_today s_t_count s_t_seenTo r_t_father r_t_mother r_t_parentsDay) o := by
  refine jmk_i RX4 rfl (by decide +kernel) rfl (Nat.le_of_ble_eq_true rfl) rfl ?_
  intro p e s m args below meth c ls A Q C hP hD hS hl K
  exact t_X4_parentSeen G D cI cB cZ a_t a_t_father a_t_mother a_t_parentsDay u_t_sex u_t_man u_t_woman u_t_weddingDay u_t_weddings u_t_teller u_t_tellingKind u_t_tellingDay u_t_tellings u_t_today s_t_count s_t_seenTo r_t_father r_t_mother r_t_parentsDay x1 x2 C hf K hP hD hS hl
abbrev rX4_sexOf : Room := { frames := 1, cells := 0, slots := 0, locals := 21 }
abbrev gX4_sexOf : List Cond := wG yX4_sexOf cX4_sexOf 2 (some .int)
def w_X4_sexOf (cI cB cZ : ClassId) (a_t a_t_sex : Nat) (u_t_mother u_t_father u_t_parentsDay u_t_man u_t_woman u_t_weddingDay : Value) (u_t_weddings : Int32) (u_t_teller u_t_tellingKind u_t_tellingDay : Value) (u_t_tellings u_t_today u_t_seenTo s_t_count : Int32) (r_t_sex : jA) : va_W := [(a_t, .inr (3, (oX4 (.ref a_t_sex) u_t_mother u_t_father u_t_parentsDay s_t_count u_t_man u_t_woman u_t_weddingDay u_t_weddings u_t_teller u_t_tellingKind u_t_tellingDay u_t_tellings u_t_today u_t_seenTo))), (a_t_sex, .inl (cI, r_t_sex.1, .inl r_t_sex.2))]
def f_X4_sexOf (s_t_count : Int32) (r_t_sex : jA) (x1 : Int32) : Option (Int32) :=
  jM (f_X4_has s_t_count x1) fun r1 =>
  if r1 = 0 then
  some (-1 : Int32)
  else
  jM (f_X11_entry r_t_sex x1) fun r3 =>
  some r3
set_option maxHeartbeats 4000000 in
set_option maxRecDepth 100000 in
theorem t_X4_sexOf {p : Program} {l : Launch} {e : Env} {s : State} {m : MethodId} {args : Array Value} {below : List Frame} {meth : Method} {c : Code} {A : Nat → Prop} {Q : State → Prop} (G : jGt) (D : va_G) (cI cB cZ : ClassId) (a_t a_t_sex : Nat) (u_t_mother u_t_father u_t_parentsDay u_t_man u_t_woman u_t_weddingDay : Value) (u_t_weddings : Int32) (u_t_teller u_t_tellingKind u_t_tellingDay : Value) (u_t_tellings u_t_today u_t_seenTo s_t_count : Int32) (r_t_sex : jA) (x1 : Int32) (C : jCx p s m args c cX4_sexOf 2 gX4_sexOf RX4 G D (jT cI cB cZ) A) {o : Int32} (hf : f_X4_sexOf s_t_count r_t_sex x1 = some o) (K : ∀ (H : Heap) (locs : List Loc) (pc : Nat) (ls : Array Slot), va_P D vwCl (w_X4_sexOf cI cB cZ a_t a_t_sex u_t_mother u_t_father u_t_parentsDay u_t_man u_t_woman u_t_weddingDay u_t_weddings u_t_teller u_t_tellingKind u_t_tellingDay u_t_tellings u_t_today u_t_seenTo s_t_count r_t_sex) H → va_S A s.heap H locs → decode cX4_sexOf pc = .ok (.ireturn, 1) → W p l e rX4_sexOf s m args below meth c H locs 0 0 Q (F0 m pc ls [.int o])) {H : Heap} {locs : List Loc} {ls : Array Slot} (hP : va_P D vwCl (w_X4_sexOf cI cB cZ a_t a_t_sex u_t_mother u_t_father u_t_parentsDay u_t_man u_t_woman u_t_weddingDay u_t_weddings u_t_teller u_t_tellingKind u_t_tellingDay u_t_tellings u_t_today u_t_seenTo s_t_count r_t_sex) H) (hD : va_D A (w_X4_sexOf cI cB cZ a_t a_t_sex u_t_mother u_t_father u_t_parentsDay u_t_man u_t_woman u_t_weddingDay u_t_weddings u_t_teller u_t_tellingKind u_t_tellingDay u_t_tellings u_t_today u_t_seenTo s_t_count r_t_sex)) (hS : va_S A s.heap H locs) (hl : lv_has ls 2 [(0, .ref a_t), (1, .int x1)]) : W p l e rX4_sexOf s m args below meth c H locs 0 0 Q (F0 m 0 ls []) := by
  obtain ⟨⟨hx, hb, hml, hown, hts⟩, hK, hN, hA⟩ := C
  have C : jCx p s m args c cX4_sexOf 2 gX4_sexOf RX4 G D (jT cI cB cZ) A := ⟨⟨hx, hb, hml, hown, hts⟩, hK, hN, hA⟩
  unfold f_X4_sexOf at hf
  refine lv_aload_n hx hb dX4_sexOf_0 rfl (lv_at hl 0 rfl) ?_
  refine lv_iload_n hx hb dX4_sexOf_1 rfl (lv_at hl 1 rfl) ?_
  obtain ⟨r1, hgr1, hf⟩ := jM_some hf
  refine jcV_i0 (As := [.int x1]) (rest := []) ⟨hx, hb, hml, hown, hts⟩ hK hN hA (c_X4_has l G D cI cB cZ a_t (.ref a_t_sex) u_t_mother u_t_father u_t_parentsDay u_t_man u_t_woman u_t_weddingDay u_t_weddings u_t_teller u_t_tellingKind u_t_tellingDay u_t_tellings u_t_today u_t_seenTo s_t_count x1 hgr1) (cwV 1 hts (wG_V k_ml_X4_64 k_im_X4_has k_se_X4_has k_in_X4 k_co_X4_has) rfl rfl rfl hd_X4_has ⟨Nat.le_of_ble_eq_true rfl, Nat.le_of_ble_eq_true rfl⟩) hP hD hS [0] rfl rfl rfl (ci := 3) rfl 0 rfl rfl rfl hl.1 rfl (Nat.le_of_ble_eq_true rfl) dX4_sexOf_2 ⟨Nat.le_of_ble_eq_true rfl, Nat.le_of_ble_eq_true rfl⟩ (fun H locs hP hD hS => ?_)
  refine lv_if_eq (tgt := 19) hx hb dX4_sexOf_5 (by decide) (fun c2 => ?_) (fun c2 => ?_)
  · replace hf := jif_t c2 hf
    refine lv_iconst (v := (-1 : Int32)) hx hb dX4_sexOf_19 (by decide) ?_
    have ho := Option.some.inj hf
    subst ho
    exact K _ _ _ _ hP hS dX4_sexOf_20
  · replace hf := jif_f c2 hf
    refine lv_aload_n hx hb dX4_sexOf_8 rfl (lv_at hl 0 rfl) ?_
    refine va_get (D := D) (ci := 3) (v := .ref a_t_sex) (C := RX4) (T := TX4) (N := 15) hx hb hts iw_X4 hown hK hP 0 rfl rfl 0 (by decide) (hts _ (wG_in k_fl_X4_11 rfl)) (fun _ h9 => h9) rfl dX4_sexOf_9 ?_
    refine lv_iload_n hx hb dX4_sexOf_12 rfl (lv_at hl 1 rfl) ?_
    obtain ⟨r3, hgr3, hf⟩ := jM_some hf
    refine jcN_i0 (As := [.ref a_t_sex, .int x1]) (rest := []) ⟨hx, hb, hml, hown, hts⟩ hK hN hA (c_X11_entry l G D cI cB cZ a_t_sex r_t_sex x1 hgr3) ⟨va_cnB 2 hts (wG_good k_co_X11_entry) rfl rfl rfl (jN_l nl_X4_68 hN) (hts _ (wG_in k_in_X11 rfl)) hd_X11_entry.2 ⟨Nat.le_of_ble_eq_true rfl, Nat.le_of_ble_eq_true rfl⟩, hts _ (wG_in k_st_X11_entry rfl), trivial⟩ hP hD hS [1] rfl rfl rfl rfl hl.1 rfl (Nat.le_of_ble_eq_true rfl) dX4_sexOf_13 ⟨Nat.le_of_ble_eq_true rfl, Nat.le_of_ble_eq_true rfl⟩ (fun H locs hP hD hS => ?_)
    refine lv_goto (tgt := 20) hx hb dX4_sexOf_16 (by decide) ?_
    have ho := Option.some.inj hf
    subst ho
    exact K _ _ _ _ hP hS dX4_sexOf_20
set_option maxHeartbeats 4000000 in
set_option maxRecDepth 100000 in
theorem c_X4_sexOf (l : Launch) (G : jGt) (D : va_G) (cI cB cZ : ClassId) (a_t a_t_sex : Nat) (u_t_mother u_t_father u_t_parentsDay u_t_man u_t_woman u_t_weddingDay : Value) (u_t_weddings : Int32) (u_t_teller u_t_tellingKind u_t_tellingDay : Value) (u_t_tellings u_t_today u_t_seenTo s_t_count : Int32) (r_t_sex : jA) (x1 : Int32) {o : Int32} (hf : f_X4_sexOf s_t_count r_t_sex x1 = some o) : jMi l yX4_sexOf gX4_sexOf rX4_sexOf G D (jT cI cB cZ) [.ref a_t, .int x1] (w_X4_sexOf cI cB cZ a_t a_t_sex u_t_mother u_t_father u_t_parentsDay u_t_man u_t_woman u_t_weddingDay u_t_weddings u_t_teller u_t_tellingKind u_t_tellingDay u_t_tellings u_t_today u_t_seenTo s_t_count r_t_sex) (w_X4_sexOf cI cB cZ a_t a_t_sex u_t_mother u_t_father u_t_parentsDay u_t_man u_t_woman u_t_weddingDay u_t_weddings u_t_teller u_t_tellingKind u_t_tellingDay u_t_tellings u_t_today u_t_seenTo s_t_count r_t_sex) o := by
  refine jmk_i RX4 rfl (by decide +kernel) rfl (Nat.le_of_ble_eq_true rfl) rfl ?_
  intro p e s m args below meth c ls A Q C hP hD hS hl K
  exact t_X4_sexOf G D cI cB cZ a_t a_t_sex u_t_mother u_t_father u_t_parentsDay u_t_man u_t_woman u_t_weddingDay u_t_weddings u_t_teller u_t_tellingKind u_t_tellingDay u_t_tellings u_t_today u_t_seenTo s_t_count r_t_sex x1 C hf K hP hD hS hl
abbrev rX2_kindOf : Room := { frames := 1, cells := 0, slots := 0, locals := 21 }
abbrev gX2_kindOf : List Cond := wG yX2_kindOf cX2_kindOf 3 (some .int)
def w_X2_kindOf (cI cB cZ : ClassId) (a_t a_t_kindBy : Nat) (u_t_least u_t_queue : Value) (u_t_queued : Int32) (u_t_against u_t_fitting u_t_agreeing u_t_best : Value) (u_t_count u_t_families u_t_known : Int32) (r_t_kindBy : jA) : va_W := [(a_t, .inr (1, (oX2 u_t_least u_t_queue u_t_queued (.ref a_t_kindBy) u_t_against u_t_fitting u_t_agreeing u_t_best u_t_count u_t_families u_t_known))), (a_t_kindBy, .inl (cI, r_t_kindBy.1, .inl r_t_kindBy.2))]
def f_X2_kindOf (r_t_kindBy : jA) (x1 x2 : Int32) : Option (Int32) :=
  jM (f_X11_entry r_t_kindBy ((x1 * (8 : Int32)) + x2)) fun r1 =>
  some r1
set_option maxHeartbeats 4000000 in
set_option maxRecDepth 100000 in
theorem t_X2_kindOf {p : Program} {l : Launch} {e : Env} {s : State} {m : MethodId} {args : Array Value} {below : List Frame} {meth : Method} {c : Code} {A : Nat → Prop} {Q : State → Prop} (G : jGt) (D : va_G) (cI cB cZ : ClassId) (a_t a_t_kindBy : Nat) (u_t_least u_t_queue : Value) (u_t_queued : Int32) (u_t_against u_t_fitting u_t_agreeing u_t_best : Value) (u_t_count u_t_families u_t_known : Int32) (r_t_kindBy : jA) (x1 x2 : Int32) (C : jCx p s m args c cX2_kindOf 3 gX2_kindOf RX2 G D (jT cI cB cZ) A) {o : Int32} (hf : f_X2_kindOf r_t_kindBy x1 x2 = some o) (K : ∀ (H : Heap) (locs : List Loc) (pc : Nat) (ls : Array Slot), va_P D vwCl (w_X2_kindOf cI cB cZ a_t a_t_kindBy u_t_least u_t_queue u_t_queued u_t_against u_t_fitting u_t_agreeing u_t_best u_t_count u_t_families u_t_known r_t_kindBy) H → va_S A s.heap H locs → decode cX2_kindOf pc = .ok (.ireturn, 1) → W p l e rX2_kindOf s m args below meth c H locs 0 0 Q (F0 m pc ls [.int o])) {H : Heap} {locs : List Loc} {ls : Array Slot} (hP : va_P D vwCl (w_X2_kindOf cI cB cZ a_t a_t_kindBy u_t_least u_t_queue u_t_queued u_t_against u_t_fitting u_t_agreeing u_t_best u_t_count u_t_families u_t_known r_t_kindBy) H) (hD : va_D A (w_X2_kindOf cI cB cZ a_t a_t_kindBy u_t_least u_t_queue u_t_queued u_t_against u_t_fitting u_t_agreeing u_t_best u_t_count u_t_families u_t_known r_t_kindBy)) (hS : va_S A s.heap H locs) (hl : lv_has ls 3 [(0, .ref a_t), (1, .int x1), (2, .int x2)]) : W p l e rX2_kindOf s m args below meth c H locs 0 0 Q (F0 m 0 ls []) := by
  obtain ⟨⟨hx, hb, hml, hown, hts⟩, hK, hN, hA⟩ := C
  have C : jCx p s m args c cX2_kindOf 3 gX2_kindOf RX2 G D (jT cI cB cZ) A := ⟨⟨hx, hb, hml, hown, hts⟩, hK, hN, hA⟩
  unfold f_X2_kindOf at hf
  refine lv_aload_n hx hb dX2_kindOf_0 rfl (lv_at hl 0 rfl) ?_
  refine va_get (D := D) (ci := 1) (v := .ref a_t_kindBy) (C := RX2) (T := TX2) (N := 11) hx hb hts iw_X2 hown hK hP 0 rfl rfl 3 (by decide) (hts _ (wG_in k_fl_X2_20 rfl)) (fun _ h9 => h9) rfl dX2_kindOf_1 ?_
  refine lv_iload_n hx hb dX2_kindOf_4 rfl (lv_at hl 1 rfl) ?_
  refine lv_bipush (v := (8 : Int32)) hx hb dX2_kindOf_5 (by decide) ?_
  refine lv_imul hx hb dX2_kindOf_7 ?_
  refine lv_iload_n hx hb dX2_kindOf_8 rfl (lv_at hl 2 rfl) ?_
  refine lv_iadd hx hb dX2_kindOf_9 ?_
  obtain ⟨r1, hgr1, hf⟩ := jM_some hf
  refine jcN_i0 (As := [.ref a_t_kindBy, .int ((x1 * (8 : Int32)) + x2)]) (rest := []) ⟨hx, hb, hml, hown, hts⟩ hK hN hA (c_X11_entry l G D cI cB cZ a_t_kindBy r_t_kindBy ((x1 * (8 : Int32)) + x2) hgr1) ⟨va_cnB 2 hts (wG_good k_co_X11_entry) rfl rfl rfl (jN_l nl_X2_86 hN) (hts _ (wG_in k_in_X11 rfl)) hd_X11_entry.2 ⟨Nat.le_of_ble_eq_true rfl, Nat.le_of_ble_eq_true rfl⟩, hts _ (wG_in k_st_X11_entry rfl), trivial⟩ hP hD hS [1] rfl rfl rfl rfl hl.1 rfl (Nat.le_of_ble_eq_true rfl) dX2_kindOf_10 ⟨Nat.le_of_ble_eq_true rfl, Nat.le_of_ble_eq_true rfl⟩ (fun H locs hP hD hS => ?_)
  have ho := Option.some.inj hf
  subst ho
  exact K _ _ _ _ hP hS dX2_kindOf_13
set_option maxHeartbeats 4000000 in
set_option maxRecDepth 100000 in
theorem c_X2_kindOf (l : Launch) (G : jGt) (D : va_G) (cI cB cZ : ClassId) (a_t a_t_kindBy : Nat) (u_t_least u_t_queue : Value) (u_t_queued : Int32) (u_t_against u_t_fitting u_t_agreeing u_t_best : Value) (u_t_count u_t_families u_t_known : Int32) (r_t_kindBy : jA) (x1 x2 : Int32) {o : Int32} (hf : f_X2_kindOf r_t_kindBy x1 x2 = some o) : jMi l yX2_kindOf gX2_kindOf rX2_kindOf G D (jT cI cB cZ) [.ref a_t, .int x1, .int x2] (w_X2_kindOf cI cB cZ a_t a_t_kindBy u_t_least u_t_queue u_t_queued u_t_against u_t_fitting u_t_agreeing u_t_best u_t_count u_t_families u_t_known r_t_kindBy) (w_X2_kindOf cI cB cZ a_t a_t_kindBy u_t_least u_t_queue u_t_queued u_t_against u_t_fitting u_t_agreeing u_t_best u_t_count u_t_families u_t_known r_t_kindBy) o := by
  refine jmk_i RX2 rfl (by decide +kernel) rfl (Nat.le_of_ble_eq_true rfl) rfl ?_
  intro p e s m args below meth c ls A Q C hP hD hS hl K
  exact t_X2_kindOf G D cI cB cZ a_t a_t_kindBy u_t_least u_t_queue u_t_queued u_t_against u_t_fitting u_t_agreeing u_t_best u_t_count u_t_families u_t_known r_t_kindBy x1 x2 C hf K hP hD hS hl
abbrev rX2_join : Room := { frames := 2, cells := 0, slots := 0, locals := 43 }
abbrev gX2_join : List Cond := wG yX2_join cX2_join 8 none
def w_X2_join (cI cB cZ : ClassId) (a_p3 a_p4 a_t a_p3_sex a_p4_child a_p4_father a_p4_husband a_p4_wife a_t_kindBy a_t_least a_t_queue : Nat) (u_p3_mother u_p3_father u_p3_parentsDay u_p3_man u_p3_woman u_p3_weddingDay : Value) (u_p3_weddings : Int32) (u_p3_teller u_p3_tellingKind u_p3_tellingDay : Value) (u_p3_tellings u_p3_today u_p3_seenTo : Int32) (u_t_against u_t_fitting u_t_agreeing u_t_best : Value) (u_t_count u_t_families u_t_known s_p3_count s_p4_size s_t_queued : Int32) (r_p3_sex r_p4_child r_p4_father r_p4_husband r_p4_wife r_t_kindBy r_t_least r_t_queue : jA) : va_W := [(a_p3, .inr (3, (oX4 (.ref a_p3_sex) u_p3_mother u_p3_father u_p3_parentsDay s_p3_count u_p3_man u_p3_woman u_p3_weddingDay u_p3_weddings u_p3_teller u_p3_tellingKind u_p3_tellingDay u_p3_tellings u_p3_today u_p3_seenTo))), (a_p4, .inr (9, (oX10 (.ref a_p4_wife) (.ref a_p4_child) (.ref a_p4_husband) (.ref a_p4_father) s_p4_size))), (a_t, .inr (1, (oX2 (.ref a_t_least) (.ref a_t_queue) s_t_queued (.ref a_t_kindBy) u_t_against u_t_fitting u_t_agreeing u_t_best u_t_count u_t_families u_t_known))), (a_p3_sex, .inl (cI, r_p3_sex.1, .inl r_p3_sex.2)), (a_p4_child, .inl (cI, r_p4_child.1, .inl r_p4_child.2)), (a_p4_father, .inl (cI, r_p4_father.1, .inl r_p4_father.2)), (a_p4_husband, .inl (cI, r_p4_husband.1, .inl r_p4_husband.2)), (a_p4_wife, .inl (cI, r_p4_wife.1, .inl r_p4_wife.2)), (a_t_kindBy, .inl (cI, r_t_kindBy.1, .inl r_t_kindBy.2)), (a_t_least, .inl (cI, r_t_least.1, .inl r_t_least.2)), (a_t_queue, .inl (cI, r_t_queue.1, .inl r_t_queue.2))]
def f_X2_join_b49 (s_p4_size : Int32) (r_p4_child r_p4_father r_p4_husband r_p4_wife : jA) (s_t_queued : Int32) (r_t_kindBy r_t_least r_t_queue : jA) (x1 x2 x3 x6 x7 : Int32) : Option ((jA × Int32) ⊕ ((jA))) :=
  if s_p4_size ≤ x7 then
  some (Sum.inr r_t_kindBy)
  else
  jM (f_X2_kindOf r_t_kindBy x1 x7) fun r9 =>
  jM (f_X10_step r_p4_child r_p4_father r_p4_husband r_p4_wife x3 x6 r9) fun r10 =>
  jM (f_X11_set r_t_kindBy ((x2 * (8 : Int32)) + x7) r10) fun r11 =>
  some (Sum.inl (r11, (x7 + 1)))
set_option maxHeartbeats 4000000 in
set_option maxRecDepth 100000 in
theorem t_X2_join_b49 {p : Program} {l : Launch} {e : Env} {s : State} {m : MethodId} {args : Array Value} {below : List Frame} {meth : Method} {c : Code} {A : Nat → Prop} {Q : State → Prop} (G : jGt) (D : va_G) (cI cB cZ : ClassId) (a_p3 a_p4 a_t a_p3_sex a_p4_child a_p4_father a_p4_husband a_p4_wife a_t_kindBy a_t_least a_t_queue : Nat) (u_p3_mother u_p3_father u_p3_parentsDay u_p3_man u_p3_woman u_p3_weddingDay : Value) (u_p3_weddings : Int32) (u_p3_teller u_p3_tellingKind u_p3_tellingDay : Value) (u_p3_tellings u_p3_today u_p3_seenTo : Int32) (u_t_against u_t_fitting u_t_agreeing u_t_best : Value) (u_t_count u_t_families u_t_known s_p3_count s_p4_size : Int32) (r_p3_sex r_p4_child r_p4_father r_p4_husband r_p4_wife : jA) (s_t_queued : Int32) (r_t_kindBy r_t_least r_t_queue : jA) (x1 x2 x3 x6 x7 : Int32) (C : jCx p s m args c cX2_join 8 gX2_join RX2 G D (jT cI cB cZ) A) {o : (jA × Int32) ⊕ ((jA))} (hf : f_X2_join_b49 s_p4_size r_p4_child r_p4_father r_p4_husband r_p4_wife s_t_queued r_t_kindBy r_t_least r_t_queue x1 x2 x3 x6 x7 = some o) (K : (∀ z, o = Sum.inl z → ∀ (H : Heap) (locs : List Loc) (ls : Array Slot), va_P D vwCl (w_X2_join cI cB cZ a_p3 a_p4 a_t a_p3_sex a_p4_child a_p4_father a_p4_husband a_p4_wife a_t_kindBy a_t_least a_t_queue u_p3_mother u_p3_father u_p3_parentsDay u_p3_man u_p3_woman u_p3_weddingDay u_p3_weddings u_p3_teller u_p3_tellingKind u_p3_tellingDay u_p3_tellings u_p3_today u_p3_seenTo u_t_against u_t_fitting u_t_agreeing u_t_best u_t_count u_t_families u_t_known s_p3_count s_p4_size s_t_queued r_p3_sex r_p4_child r_p4_father r_p4_husband r_p4_wife z.1 r_t_least r_t_queue) H → va_D A (w_X2_join cI cB cZ a_p3 a_p4 a_t a_p3_sex a_p4_child a_p4_father a_p4_husband a_p4_wife a_t_kindBy a_t_least a_t_queue u_p3_mother u_p3_father u_p3_parentsDay u_p3_man u_p3_woman u_p3_weddingDay u_p3_weddings u_p3_teller u_p3_tellingKind u_p3_tellingDay u_p3_tellings u_p3_today u_p3_seenTo u_t_against u_t_fitting u_t_agreeing u_t_best u_t_count u_t_families u_t_known s_p3_count s_p4_size s_t_queued r_p3_sex r_p4_child r_p4_father r_p4_husband r_p4_wife z.1 r_t_least r_t_queue) → va_S A s.heap H locs → lv_has ls 8 [(0, .ref a_t), (1, .int x1), (2, .int x2), (3, .int x3), (5, .ref a_p4), (6, .int x6), (7, .int z.2)] → W p l e rX2_join s m args below meth c H locs 0 0 Q (F0 m 49 ls [])) ∧ (∀ z, o = Sum.inr z → ∀ (H : Heap) (locs : List Loc) (ls : Array Slot), va_P D vwCl (w_X2_join cI cB cZ a_p3 a_p4 a_t a_p3_sex a_p4_child a_p4_father a_p4_husband a_p4_wife a_t_kindBy a_t_least a_t_queue u_p3_mother u_p3_father u_p3_parentsDay u_p3_man u_p3_woman u_p3_weddingDay u_p3_weddings u_p3_teller u_p3_tellingKind u_p3_tellingDay u_p3_tellings u_p3_today u_p3_seenTo u_t_against u_t_fitting u_t_agreeing u_t_best u_t_count u_t_families u_t_known s_p3_count s_p4_size s_t_queued r_p3_sex r_p4_child r_p4_father r_p4_husband r_p4_wife z r_t_least r_t_queue) H → va_D A (w_X2_join cI cB cZ a_p3 a_p4 a_t a_p3_sex a_p4_child a_p4_father a_p4_husband a_p4_wife a_t_kindBy a_t_least a_t_queue u_p3_mother u_p3_father u_p3_parentsDay u_p3_man u_p3_woman u_p3_weddingDay u_p3_weddings u_p3_teller u_p3_tellingKind u_p3_tellingDay u_p3_tellings u_p3_today u_p3_seenTo u_t_against u_t_fitting u_t_agreeing u_t_best u_t_count u_t_families u_t_known s_p3_count s_p4_size s_t_queued r_p3_sex r_p4_child r_p4_father r_p4_husband r_p4_wife z r_t_least r_t_queue) → va_S A s.heap H locs → lv_has ls 8 [(0, .ref a_t), (2, .int x2)] → W p l e rX2_join s m args below meth c H locs 0 0 Q (F0 m 94 ls []))) {H : Heap} {locs : List Loc} {ls : Array Slot} (hP : va_P D vwCl (w_X2_join cI cB cZ a_p3 a_p4 a_t a_p3_sex a_p4_child a_p4_father a_p4_husband a_p4_wife a_t_kindBy a_t_least a_t_queue u_p3_mother u_p3_father u_p3_parentsDay u_p3_man u_p3_woman u_p3_weddingDay u_p3_weddings u_p3_teller u_p3_tellingKind u_p3_tellingDay u_p3_tellings u_p3_today u_p3_seenTo u_t_against u_t_fitting u_t_agreeing u_t_best u_t_count u_t_families u_t_known s_p3_count s_p4_size s_t_queued r_p3_sex r_p4_child r_p4_father r_p4_husband r_p4_wife r_t_kindBy r_t_least r_t_queue) H) (hD : va_D A (w_X2_join cI cB cZ a_p3 a_p4 a_t a_p3_sex a_p4_child a_p4_father a_p4_husband a_p4_wife a_t_kindBy a_t_least a_t_queue u_p3_mother u_p3_father u_p3_parentsDay u_p3_man u_p3_woman u_p3_weddingDay u_p3_weddings u_p3_teller u_p3_tellingKind u_p3_tellingDay u_p3_tellings u_p3_today u_p3_seenTo u_t_against u_t_fitting u_t_agreeing u_t_best u_t_count u_t_families u_t_known s_p3_count s_p4_size s_t_queued r_p3_sex r_p4_child r_p4_father r_p4_husband r_p4_wife r_t_kindBy r_t_least r_t_queue)) (hS : va_S A s.heap H locs) (hl : lv_has ls 8 [(0, .ref a_t), (1, .int x1), (2, .int x2), (3, .int x3), (5, .ref a_p4), (6, .int x6), (7, .int x7)]) : W p l e rX2_join s m args below meth c H locs 0 0 Q (F0 m 49 ls []) := by
  obtain ⟨⟨hx, hb, hml, hown, hts⟩, hK, hN, hA⟩ := C
  have C : jCx p s m args c cX2_join 8 gX2_join RX2 G D (jT cI cB cZ) A := ⟨⟨hx, hb, hml, hown, hts⟩, hK, hN, hA⟩
  unfold f_X2_join_b49 at hf
  refine lv_iload hx hb dX2_join_49 (lv_at hl 6 rfl) ?_
  refine lv_aload hx hb dX2_join_51 (lv_at hl 4 rfl) ?_
  refine va_get (D := D) (ci := 9) (v := .int s_p4_size) (C := RX10) (T := TX10) (N := 5) hx hb hts iw_X10 hown hK hP 1 rfl rfl 4 (by decide) (hts _ (wG_in k_fl_X2_81 rfl)) (fun _ h9 => h9) rfl dX2_join_53 ?_
  refine lv_icmp_ge (tgt := 94) hx hb dX2_join_56 (by decide) (fun c8 => ?_) (fun c8 => ?_)
  · replace hf := jif_t c8 hf
    have ho := Option.some.inj hf
    exact (K.2 _ ho.symm) _ _ _ hP hD hS (lv_sub hl [0, 2] rfl)
  · replace hf := jif_f c8 hf
    refine lv_aload_n hx hb dX2_join_59 rfl (lv_at hl 0 rfl) ?_
    refine va_get (D := D) (ci := 1) (v := .ref a_t_kindBy) (C := RX2) (T := TX2) (N := 11) hx hb hts iw_X2 hown hK hP 2 rfl rfl 3 (by decide) (hts _ (wG_in k_fl_X2_20 rfl)) (fun _ h9 => h9) rfl dX2_join_60 ?_
    refine lv_iload_n hx hb dX2_join_63 rfl (lv_at hl 2 rfl) ?_
    refine lv_bipush (v := (8 : Int32)) hx hb dX2_join_64 (by decide) ?_
    refine lv_imul hx hb dX2_join_66 ?_
    refine lv_iload hx hb dX2_join_67 (lv_at hl 6 rfl) ?_
    refine lv_iadd hx hb dX2_join_69 ?_
    refine lv_aload hx hb dX2_join_70 (lv_at hl 4 rfl) ?_
    refine lv_iload_n hx hb dX2_join_72 rfl (lv_at hl 3 rfl) ?_
    refine lv_iload hx hb dX2_join_73 (lv_at hl 5 rfl) ?_
    refine lv_aload_n hx hb dX2_join_75 rfl (lv_at hl 0 rfl) ?_
    refine lv_iload_n hx hb dX2_join_76 rfl (lv_at hl 1 rfl) ?_
    refine lv_iload hx hb dX2_join_77 (lv_at hl 6 rfl) ?_
    obtain ⟨r9, hgr9, hf⟩ := jM_some hf
    refine jcV_i0 (As := [.int x1, .int x7]) (rest := [.int x6, .int x3, .ref a_p4, .int ((x2 * (8 : Int32)) + x7), .ref a_t_kindBy]) ⟨hx, hb, hml, hown, hts⟩ hK hN hA (c_X2_kindOf l G D cI cB cZ a_t a_t_kindBy (.ref a_t_least) (.ref a_t_queue) s_t_queued u_t_against u_t_fitting u_t_agreeing u_t_best u_t_count u_t_families u_t_known r_t_kindBy x1 x7 hgr9) (cwV 2 hts (wG_V k_ml_X2_114 k_im_X2_kindOf k_se_X2_kindOf k_in_X2 k_co_X2_kindOf) rfl rfl rfl hd_X2_kindOf ⟨Nat.le_of_ble_eq_true rfl, Nat.le_of_ble_eq_true rfl⟩) hP hD hS [2, 8] rfl rfl rfl (ci := 1) rfl 2 rfl rfl rfl hl.1 rfl (Nat.le_of_ble_eq_true rfl) dX2_join_79 ⟨Nat.le_of_ble_eq_true rfl, Nat.le_of_ble_eq_true rfl⟩ (fun H locs hP hD hS => ?_)
    obtain ⟨r10, hgr10, hf⟩ := jM_some hf
    refine jcV_i0 (As := [.int x3, .int x6, .int r9]) (rest := [.int ((x2 * (8 : Int32)) + x7), .ref a_t_kindBy]) ⟨hx, hb, hml, hown, hts⟩ hK hN hA (c_X10_step l G D cI cB cZ a_p4 a_p4_child a_p4_father a_p4_husband a_p4_wife s_p4_size r_p4_child r_p4_father r_p4_husband r_p4_wife x3 x6 r9 hgr10) (cwV 3 hts (wG_V k_ml_X2_117 k_im_X10_step k_se_X10_step k_in_X10 k_co_X10_step) rfl rfl rfl hd_X10_step ⟨Nat.le_of_ble_eq_true rfl, Nat.le_of_ble_eq_true rfl⟩) hP hD hS [1, 4, 5, 6, 7] rfl rfl rfl (ci := 9) rfl 1 rfl rfl rfl hl.1 rfl (Nat.le_of_ble_eq_true rfl) dX2_join_82 ⟨Nat.le_of_ble_eq_true rfl, Nat.le_of_ble_eq_true rfl⟩ (fun H locs hP hD hS => ?_)
    obtain ⟨r11, hgr11, hf⟩ := jM_some hf
    refine jcN_v (As := [.ref a_t_kindBy, .int ((x2 * (8 : Int32)) + x7), .int r10]) (rest := []) ⟨hx, hb, hml, hown, hts⟩ hK hN hA (c_X11_set l G D cI cB cZ a_t_kindBy r_t_kindBy ((x2 * (8 : Int32)) + x7) r10 hgr11) ⟨va_cnB 3 hts (wG_good k_co_X11_set) rfl rfl rfl (jN_l nl_X2_77 hN) (hts _ (wG_in k_in_X11 rfl)) hd_X11_set.2 ⟨Nat.le_of_ble_eq_true rfl, Nat.le_of_ble_eq_true rfl⟩, hts _ (wG_in k_st_X11_set rfl), trivial⟩ hP hD hS [8] rfl rfl rfl rfl hl.1 rfl (Nat.le_of_ble_eq_true rfl) dX2_join_85 ⟨Nat.le_of_ble_eq_true rfl, Nat.le_of_ble_eq_true rfl⟩ (fun H locs hP hD hS => ?_)
    have hP : va_P D vwCl (w_X2_join cI cB cZ a_p3 a_p4 a_t a_p3_sex a_p4_child a_p4_father a_p4_husband a_p4_wife a_t_kindBy a_t_least a_t_queue u_p3_mother u_p3_father u_p3_parentsDay u_p3_man u_p3_woman u_p3_weddingDay u_p3_weddings u_p3_teller u_p3_tellingKind u_p3_tellingDay u_p3_tellings u_p3_today u_p3_seenTo u_t_against u_t_fitting u_t_agreeing u_t_best u_t_count u_t_families u_t_known s_p3_count s_p4_size s_t_queued r_p3_sex r_p4_child r_p4_father r_p4_husband r_p4_wife r11 r_t_least r_t_queue) H := hP
    have hD : va_D A (w_X2_join cI cB cZ a_p3 a_p4 a_t a_p3_sex a_p4_child a_p4_father a_p4_husband a_p4_wife a_t_kindBy a_t_least a_t_queue u_p3_mother u_p3_father u_p3_parentsDay u_p3_man u_p3_woman u_p3_weddingDay u_p3_weddings u_p3_teller u_p3_tellingKind u_p3_tellingDay u_p3_tellings u_p3_today u_p3_seenTo u_t_against u_t_fitting u_t_agreeing u_t_best u_t_count u_t_families u_t_known s_p3_count s_p4_size s_t_queued r_p3_sex r_p4_child r_p4_father r_p4_husband r_p4_wife r11 r_t_least r_t_queue) := hD
    refine lv_iinc (v := (x7 + 1)) (lv' := [(7, .int (x7 + 1)), (0, .ref a_t), (1, .int x1), (2, .int x2), (3, .int x3), (5, .ref a_p4), (6, .int x6)]) hx hb dX2_join_88 hl (k := 6) rfl (by first | rfl | decide) (by decide) rfl (fun ls hl => ?_)
    refine lv_goto (tgt := 49) hx hb dX2_join_91 (by decide) ?_
    have ho := Option.some.inj hf
    exact K.1 _ ho.symm _ _ _ hP hD hS (lv_sub hl [1, 2, 3, 4, 5, 6, 0] rfl)
def f_X2_join_l49 (s_p4_size : Int32) (r_p4_child r_p4_father r_p4_husband r_p4_wife : jA) (s_t_queued : Int32) (r_t_least r_t_queue : jA) (x1 x2 x3 x6 : Int32) (r_t_kindBy : jA) (x7 : Int32) : Option ((jA)) :=
  jI (fun z => f_X2_join_b49 s_p4_size r_p4_child r_p4_father r_p4_husband r_p4_wife s_t_queued z.1 r_t_least r_t_queue x1 x2 x3 x6 z.2) jF (r_t_kindBy, x7)
set_option maxHeartbeats 4000000 in
set_option maxRecDepth 100000 in
theorem t_X2_join_l49 {p : Program} {l : Launch} {e : Env} {s : State} {m : MethodId} {args : Array Value} {below : List Frame} {meth : Method} {c : Code} {A : Nat → Prop} {Q : State → Prop} (G : jGt) (D : va_G) (cI cB cZ : ClassId) (a_p3 a_p4 a_t a_p3_sex a_p4_child a_p4_father a_p4_husband a_p4_wife a_t_kindBy a_t_least a_t_queue : Nat) (u_p3_mother u_p3_father u_p3_parentsDay u_p3_man u_p3_woman u_p3_weddingDay : Value) (u_p3_weddings : Int32) (u_p3_teller u_p3_tellingKind u_p3_tellingDay : Value) (u_p3_tellings u_p3_today u_p3_seenTo : Int32) (u_t_against u_t_fitting u_t_agreeing u_t_best : Value) (u_t_count u_t_families u_t_known s_p3_count s_p4_size : Int32) (r_p3_sex r_p4_child r_p4_father r_p4_husband r_p4_wife : jA) (s_t_queued : Int32) (r_t_least r_t_queue : jA) (x1 x2 x3 x6 : Int32) (C : jCx p s m args c cX2_join 8 gX2_join RX2 G D (jT cI cB cZ) A) : ∀ (n : Nat) (r_t_kindBy : jA) (x7 : Int32) {eo : (jA)}, jI (fun z => f_X2_join_b49 s_p4_size r_p4_child r_p4_father r_p4_husband r_p4_wife s_t_queued z.1 r_t_least r_t_queue x1 x2 x3 x6 z.2) n (r_t_kindBy, x7) = some eo → (∀ (H : Heap) (locs : List Loc) (ls : Array Slot), va_P D vwCl (w_X2_join cI cB cZ a_p3 a_p4 a_t a_p3_sex a_p4_child a_p4_father a_p4_husband a_p4_wife a_t_kindBy a_t_least a_t_queue u_p3_mother u_p3_father u_p3_parentsDay u_p3_man u_p3_woman u_p3_weddingDay u_p3_weddings u_p3_teller u_p3_tellingKind u_p3_tellingDay u_p3_tellings u_p3_today u_p3_seenTo u_t_against u_t_fitting u_t_agreeing u_t_best u_t_count u_t_families u_t_known s_p3_count s_p4_size s_t_queued r_p3_sex r_p4_child r_p4_father r_p4_husband r_p4_wife eo r_t_least r_t_queue) H → va_D A (w_X2_join cI cB cZ a_p3 a_p4 a_t a_p3_sex a_p4_child a_p4_father a_p4_husband a_p4_wife a_t_kindBy a_t_least a_t_queue u_p3_mother u_p3_father u_p3_parentsDay u_p3_man u_p3_woman u_p3_weddingDay u_p3_weddings u_p3_teller u_p3_tellingKind u_p3_tellingDay u_p3_tellings u_p3_today u_p3_seenTo u_t_against u_t_fitting u_t_agreeing u_t_best u_t_count u_t_families u_t_known s_p3_count s_p4_size s_t_queued r_p3_sex r_p4_child r_p4_father r_p4_husband r_p4_wife eo r_t_least r_t_queue) → va_S A s.heap H locs → lv_has ls 8 [(0, .ref a_t), (2, .int x2)] → W p l e rX2_join s m args below meth c H locs 0 0 Q (F0 m 94 ls [])) → ∀ (H : Heap) (locs : List Loc) (ls : Array Slot), va_P D vwCl (w_X2_join cI cB cZ a_p3 a_p4 a_t a_p3_sex a_p4_child a_p4_father a_p4_husband a_p4_wife a_t_kindBy a_t_least a_t_queue u_p3_mother u_p3_father u_p3_parentsDay u_p3_man u_p3_woman u_p3_weddingDay u_p3_weddings u_p3_teller u_p3_tellingKind u_p3_tellingDay u_p3_tellings u_p3_today u_p3_seenTo u_t_against u_t_fitting u_t_agreeing u_t_best u_t_count u_t_families u_t_known s_p3_count s_p4_size s_t_queued r_p3_sex r_p4_child r_p4_father r_p4_husband r_p4_wife r_t_kindBy r_t_least r_t_queue) H → va_D A (w_X2_join cI cB cZ a_p3 a_p4 a_t a_p3_sex a_p4_child a_p4_father a_p4_husband a_p4_wife a_t_kindBy a_t_least a_t_queue u_p3_mother u_p3_father u_p3_parentsDay u_p3_man u_p3_woman u_p3_weddingDay u_p3_weddings u_p3_teller u_p3_tellingKind u_p3_tellingDay u_p3_tellings u_p3_today u_p3_seenTo u_t_against u_t_fitting u_t_agreeing u_t_best u_t_count u_t_families u_t_known s_p3_count s_p4_size s_t_queued r_p3_sex r_p4_child r_p4_father r_p4_husband r_p4_wife r_t_kindBy r_t_least r_t_queue) → va_S A s.heap H locs → lv_has ls 8 [(0, .ref a_t), (1, .int x1), (2, .int x2), (3, .int x3), (5, .ref a_p4), (6, .int x6), (7, .int x7)] → W p l e rX2_join s m args below meth c H locs 0 0 Q (F0 m 49 ls []) := by
  intro n
  induction n with
  | zero =>
    intro r_t_kindBy x7 eo hf
    exact (jI_zero hf).elim
  | succ n ih =>
    intro r_t_kindBy x7 eo hf K H locs ls hP hD hS hl
    obtain ⟨o, hb1, ho⟩ := jI_some hf
    rcases ho with ⟨z, rfl, hf2⟩ | rfl
    · exact t_X2_join_b49 G D cI cB cZ a_p3 a_p4 a_t a_p3_sex a_p4_child a_p4_father a_p4_husband a_p4_wife a_t_kindBy a_t_least a_t_queue u_p3_mother u_p3_father u_p3_parentsDay u_p3_man u_p3_woman u_p3_weddingDay u_p3_weddings u_p3_teller u_p3_tellingKind u_p3_tellingDay u_p3_tellings u_p3_today u_p3_seenTo u_t_against u_t_fitting u_t_agreeing u_t_best u_t_count u_t_families u_t_known s_p3_count s_p4_size r_p3_sex r_p4_child r_p4_father r_p4_husband r_p4_wife s_t_queued r_t_kindBy r_t_least r_t_queue x1 x2 x3 x6 x7 C hb1 ⟨fun z2 hz H locs ls hP hD hS hl => by cases hz; exact ih z.1 z.2 hf2 K H locs ls hP hD hS hl, fun z2 hz => by cases hz⟩ hP hD hS hl
    · exact t_X2_join_b49 G D cI cB cZ a_p3 a_p4 a_t a_p3_sex a_p4_child a_p4_father a_p4_husband a_p4_wife a_t_kindBy a_t_least a_t_queue u_p3_mother u_p3_father u_p3_parentsDay u_p3_man u_p3_woman u_p3_weddingDay u_p3_weddings u_p3_teller u_p3_tellingKind u_p3_tellingDay u_p3_tellings u_p3_today u_p3_seenTo u_t_against u_t_fitting u_t_agreeing u_t_best u_t_count u_t_families u_t_known s_p3_count s_p4_size r_p3_sex r_p4_child r_p4_father r_p4_husband r_p4_wife s_t_queued r_t_kindBy r_t_least r_t_queue x1 x2 x3 x6 x7 C hb1 ⟨fun z2 hz => (by cases hz), fun z2 hz => by cases hz; exact K⟩ hP hD hS hl
def f_X2_join (s_p3_count s_p4_size : Int32) (r_p3_sex r_p4_child r_p4_father r_p4_husband r_p4_wife : jA) (s_t_queued : Int32) (r_t_kindBy r_t_least r_t_queue : jA) (x1 x2 x3 : Int32) : Option (Int32 × jA × jA × jA) :=
  jM (f_X4_has s_p3_count x2) fun r1 =>
  if r1 = 0 then
  some (s_t_queued, r_t_kindBy, r_t_least, r_t_queue)
  else
  jM (f_X11_entry r_t_least x2) fun r3 =>
  if r3 = (-1 : Int32) then
  jM (f_X11_entry r_t_least x1) fun r5 =>
  jM (f_X11_set r_t_least x2 r5) fun r6 =>
  jM (f_X4_sexOf s_p3_count r_p3_sex x1) fun r7 =>
  jM (f_X2_join_l49 s_p4_size r_p4_child r_p4_father r_p4_husband r_p4_wife s_t_queued r6 r_t_queue x1 x2 x3 r7 r_t_kindBy (0 : Int32)) fun e12 =>
  jM (f_X11_set r_t_queue s_t_queued x2) fun r13 =>
  jV (s_t_queued + (1 : Int32)) fun v14 =>
  some (v14, e12, r6, r13)
  else
  some (s_t_queued, r_t_kindBy, r_t_least, r_t_queue)
set_option maxHeartbeats 4000000 in
set_option maxRecDepth 100000 in
theorem t_X2_join {p : Program} {l : Launch} {e : Env} {s : State} {m : MethodId} {args : Array Value} {below : List Frame} {meth : Method} {c : Code} {A : Nat → Prop} {Q : State → Prop} (G : jGt) (D : va_G) (cI cB cZ : ClassId) (a_p3 a_p4 a_t a_p3_sex a_p4_child a_p4_father a_p4_husband a_p4_wife a_t_kindBy a_t_least a_t_queue : Nat) (u_p3_mother u_p3_father u_p3_parentsDay u_p3_man u_p3_woman u_p3_weddingDay : Value) (u_p3_weddings : Int32) (u_p3_teller u_p3_tellingKind u_p3_tellingDay : Value) (u_p3_tellings u_p3_today u_p3_seenTo : Int32) (u_t_against u_t_fitting u_t_agreeing u_t_best : Value) (u_t_count u_t_families u_t_known s_p3_count s_p4_size : Int32) (r_p3_sex r_p4_child r_p4_father r_p4_husband r_p4_wife : jA) (s_t_queued : Int32) (r_t_kindBy r_t_least r_t_queue : jA) (x1 x2 x3 : Int32) (C : jCx p s m args c cX2_join 8 gX2_join RX2 G D (jT cI cB cZ) A) {o : Int32 × jA × jA × jA} (hf : f_X2_join s_p3_count s_p4_size r_p3_sex r_p4_child r_p4_father r_p4_husband r_p4_wife s_t_queued r_t_kindBy r_t_least r_t_queue x1 x2 x3 = some o) (K : ∀ (H : Heap) (locs : List Loc) (pc : Nat) (ls : Array Slot), va_P D vwCl (w_X2_join cI cB cZ a_p3 a_p4 a_t a_p3_sex a_p4_child a_p4_father a_p4_husband a_p4_wife a_t_kindBy a_t_least a_t_queue u_p3_mother u_p3_father u_p3_parentsDay u_p3_man u_p3_woman u_p3_weddingDay u_p3_weddings u_p3_teller u_p3_tellingKind u_p3_tellingDay u_p3_tellings u_p3_today u_p3_seenTo u_t_against u_t_fitting u_t_agreeing u_t_best u_t_count u_t_families u_t_known s_p3_count s_p4_size o.1 r_p3_sex r_p4_child r_p4_father r_p4_husband r_p4_wife o.2.1 o.2.2.1 o.2.2.2) H → va_S A s.heap H locs → decode cX2_join pc = .ok (.return_, 1) → W p l e rX2_join s m args below meth c H locs 0 0 Q (F0 m pc ls [])) {H : Heap} {locs : List Loc} {ls : Array Slot} (hP : va_P D vwCl (w_X2_join cI cB cZ a_p3 a_p4 a_t a_p3_sex a_p4_child a_p4_father a_p4_husband a_p4_wife a_t_kindBy a_t_least a_t_queue u_p3_mother u_p3_father u_p3_parentsDay u_p3_man u_p3_woman u_p3_weddingDay u_p3_weddings u_p3_teller u_p3_tellingKind u_p3_tellingDay u_p3_tellings u_p3_today u_p3_seenTo u_t_against u_t_fitting u_t_agreeing u_t_best u_t_count u_t_families u_t_known s_p3_count s_p4_size s_t_queued r_p3_sex r_p4_child r_p4_father r_p4_husband r_p4_wife r_t_kindBy r_t_least r_t_queue) H) (hD : va_D A (w_X2_join cI cB cZ a_p3 a_p4 a_t a_p3_sex a_p4_child a_p4_father a_p4_husband a_p4_wife a_t_kindBy a_t_least a_t_queue u_p3_mother u_p3_father u_p3_parentsDay u_p3_man u_p3_woman u_p3_weddingDay u_p3_weddings u_p3_teller u_p3_tellingKind u_p3_tellingDay u_p3_tellings u_p3_today u_p3_seenTo u_t_against u_t_fitting u_t_agreeing u_t_best u_t_count u_t_families u_t_known s_p3_count s_p4_size s_t_queued r_p3_sex r_p4_child r_p4_father r_p4_husband r_p4_wife r_t_kindBy r_t_least r_t_queue)) (hS : va_S A s.heap H locs) (hl : lv_has ls 8 [(0, .ref a_t), (1, .int x1), (2, .int x2), (3, .int x3), (4, .ref a_p3), (5, .ref a_p4)]) : W p l e rX2_join s m args below meth c H locs 0 0 Q (F0 m 0 ls []) := by
  obtain ⟨⟨hx, hb, hml, hown, hts⟩, hK, hN, hA⟩ := C
  have C : jCx p s m args c cX2_join 8 gX2_join RX2 G D (jT cI cB cZ) A := ⟨⟨hx, hb, hml, hown, hts⟩, hK, hN, hA⟩
  unfold f_X2_join at hf
  refine lv_aload hx hb dX2_join_0 (lv_at hl 4 rfl) ?_
  refine lv_iload_n hx hb dX2_join_2 rfl (lv_at hl 2 rfl) ?_
  obtain ⟨r1, hgr1, hf⟩ := jM_some hf
  refine jcV_i0 (As := [.int x2]) (rest := []) ⟨hx, hb, hml, hown, hts⟩ hK hN hA (c_X4_has l G D cI cB cZ a_p3 (.ref a_p3_sex) u_p3_mother u_p3_father u_p3_parentsDay u_p3_man u_p3_woman u_p3_weddingDay u_p3_weddings u_p3_teller u_p3_tellingKind u_p3_tellingDay u_p3_tellings u_p3_today u_p3_seenTo s_p3_count x2 hgr1) (cwV 1 hts (wG_V k_ml_X2_110 k_im_X4_has k_se_X4_has k_in_X4 k_co_X4_has) rfl rfl rfl hd_X4_has ⟨Nat.le_of_ble_eq_true rfl, Nat.le_of_ble_eq_true rfl⟩) hP hD hS [0] rfl rfl rfl (ci := 3) rfl 0 rfl rfl rfl hl.1 rfl (Nat.le_of_ble_eq_true rfl) dX2_join_3 ⟨Nat.le_of_ble_eq_true rfl, Nat.le_of_ble_eq_true rfl⟩ (fun H locs hP hD hS => ?_)
  refine lv_if_eq (tgt := 21) hx hb dX2_join_6 (by decide) (fun c2 => ?_) (fun c2 => ?_)
  · replace hf := jif_t c2 hf
    have ho := Option.some.inj hf
    subst ho
    exact K _ _ _ _ hP hS dX2_join_21
  · replace hf := jif_f c2 hf
    refine lv_aload_n hx hb dX2_join_9 rfl (lv_at hl 0 rfl) ?_
    refine va_get (D := D) (ci := 1) (v := .ref a_t_least) (C := RX2) (T := TX2) (N := 11) hx hb hts iw_X2 hown hK hP 2 rfl rfl 0 (by decide) (hts _ (wG_in k_fl_X2_11 rfl)) (fun _ h9 => h9) rfl dX2_join_10 ?_
    refine lv_iload_n hx hb dX2_join_13 rfl (lv_at hl 2 rfl) ?_
    obtain ⟨r3, hgr3, hf⟩ := jM_some hf
    refine jcN_i0 (As := [.ref a_t_least, .int x2]) (rest := []) ⟨hx, hb, hml, hown, hts⟩ hK hN hA (c_X11_entry l G D cI cB cZ a_t_least r_t_least x2 hgr3) ⟨va_cnB 2 hts (wG_good k_co_X11_entry) rfl rfl rfl (jN_l nl_X2_86 hN) (hts _ (wG_in k_in_X11 rfl)) hd_X11_entry.2 ⟨Nat.le_of_ble_eq_true rfl, Nat.le_of_ble_eq_true rfl⟩, hts _ (wG_in k_st_X11_entry rfl), trivial⟩ hP hD hS [9] rfl rfl rfl rfl hl.1 rfl (Nat.le_of_ble_eq_true rfl) dX2_join_14 ⟨Nat.le_of_ble_eq_true rfl, Nat.le_of_ble_eq_true rfl⟩ (fun H locs hP hD hS => ?_)
    refine lv_iconst (v := (-1 : Int32)) hx hb dX2_join_17 (by decide) ?_
    refine lv_icmp_eq (tgt := 22) hx hb dX2_join_18 (by decide) (fun c4 => ?_) (fun c4 => ?_)
    · replace hf := jif_t c4 hf
      refine lv_aload_n hx hb dX2_join_22 rfl (lv_at hl 0 rfl) ?_
      refine va_get (D := D) (ci := 1) (v := .ref a_t_least) (C := RX2) (T := TX2) (N := 11) hx hb hts iw_X2 hown hK hP 2 rfl rfl 0 (by decide) (hts _ (wG_in k_fl_X2_11 rfl)) (fun _ h9 => h9) rfl dX2_join_23 ?_
      refine lv_iload_n hx hb dX2_join_26 rfl (lv_at hl 2 rfl) ?_
      refine lv_aload_n hx hb dX2_join_27 rfl (lv_at hl 0 rfl) ?_
      refine va_get (D := D) (ci := 1) (v := .ref a_t_least) (C := RX2) (T := TX2) (N := 11) hx hb hts iw_X2 hown hK hP 2 rfl rfl 0 (by decide) (hts _ (wG_in k_fl_X2_11 rfl)) (fun _ h9 => h9) rfl dX2_join_28 ?_
      refine lv_iload_n hx hb dX2_join_31 rfl (lv_at hl 1 rfl) ?_
      obtain ⟨r5, hgr5, hf⟩ := jM_some hf
      refine jcN_i0 (As := [.ref a_t_least, .int x1]) (rest := [.int x2, .ref a_t_least]) ⟨hx, hb, hml, hown, hts⟩ hK hN hA (c_X11_entry l G D cI cB cZ a_t_least r_t_least x1 hgr5) ⟨va_cnB 2 hts (wG_good k_co_X11_entry) rfl rfl rfl (jN_l nl_X2_86 hN) (hts _ (wG_in k_in_X11 rfl)) hd_X11_entry.2 ⟨Nat.le_of_ble_eq_true rfl, Nat.le_of_ble_eq_true rfl⟩, hts _ (wG_in k_st_X11_entry rfl), trivial⟩ hP hD hS [9] rfl rfl rfl rfl hl.1 rfl (Nat.le_of_ble_eq_true rfl) dX2_join_32 ⟨Nat.le_of_ble_eq_true rfl, Nat.le_of_ble_eq_true rfl⟩ (fun H locs hP hD hS => ?_)
      obtain ⟨r6, hgr6, hf⟩ := jM_some hf
      refine jcN_v (As := [.ref a_t_least, .int x2, .int r5]) (rest := []) ⟨hx, hb, hml, hown, hts⟩ hK hN hA (c_X11_set l G D cI cB cZ a_t_least r_t_least x2 r5 hgr6) ⟨va_cnB 3 hts (wG_good k_co_X11_set) rfl rfl rfl (jN_l nl_X2_77 hN) (hts _ (wG_in k_in_X11 rfl)) hd_X11_set.2 ⟨Nat.le_of_ble_eq_true rfl, Nat.le_of_ble_eq_true rfl⟩, hts _ (wG_in k_st_X11_set rfl), trivial⟩ hP hD hS [9] rfl rfl rfl rfl hl.1 rfl (Nat.le_of_ble_eq_true rfl) dX2_join_35 ⟨Nat.le_of_ble_eq_true rfl, Nat.le_of_ble_eq_true rfl⟩ (fun H locs hP hD hS => ?_)
      have hP : va_P D vwCl (w_X2_join cI cB cZ a_p3 a_p4 a_t a_p3_sex a_p4_child a_p4_father a_p4_husband a_p4_wife a_t_kindBy a_t_least a_t_queue u_p3_mother u_p3_father u_p3_parentsDay u_p3_man u_p3_woman u_p3_weddingDay u_p3_weddings u_p3_teller u_p3_tellingKind u_p3_tellingDay u_p3_tellings u_p3_today u_p3_seenTo u_t_against u_t_fitting u_t_agreeing u_t_best u_t_count u_t_families u_t_known s_p3_count s_p4_size s_t_queued r_p3_sex r_p4_child r_p4_father r_p4_husband r_p4_wife r_t_kindBy r6 r_t_queue) H := hP
      have hD : va_D A (w_X2_join cI cB cZ a_p3 a_p4 a_t a_p3_sex a_p4_child a_p4_father a_p4_husband a_p4_wife a_t_kindBy a_t_least a_t_queue u_p3_mother u_p3_father u_p3_parentsDay u_p3_man u_p3_woman u_p3_weddingDay u_p3_weddings u_p3_teller u_p3_tellingKind u_p3_tellingDay u_p3_tellings u_p3_today u_p3_seenTo u_t_against u_t_fitting u_t_agreeing u_t_best u_t_count u_t_families u_t_known s_p3_count s_p4_size s_t_queued r_p3_sex r_p4_child r_p4_father r_p4_husband r_p4_wife r_t_kindBy r6 r_t_queue) := hD
      refine lv_aload hx hb dX2_join_38 (lv_at hl 4 rfl) ?_
      refine lv_iload_n hx hb dX2_join_40 rfl (lv_at hl 1 rfl) ?_
      obtain ⟨r7, hgr7, hf⟩ := jM_some hf
      refine jcV_i0 (As := [.int x1]) (rest := []) ⟨hx, hb, hml, hown, hts⟩ hK hN hA (c_X4_sexOf l G D cI cB cZ a_p3 a_p3_sex u_p3_mother u_p3_father u_p3_parentsDay u_p3_man u_p3_woman u_p3_weddingDay u_p3_weddings u_p3_teller u_p3_tellingKind u_p3_tellingDay u_p3_tellings u_p3_today u_p3_seenTo s_p3_count r_p3_sex x1 hgr7) (cwV 1 hts (wG_V k_ml_X2_100 k_im_X4_sexOf k_se_X4_sexOf k_in_X4 k_co_X4_sexOf) rfl rfl rfl hd_X4_sexOf ⟨Nat.le_of_ble_eq_true rfl, Nat.le_of_ble_eq_true rfl⟩) hP hD hS [0, 3] rfl rfl rfl (ci := 3) rfl 0 rfl rfl rfl hl.1 rfl (Nat.le_of_ble_eq_true rfl) dX2_join_41 ⟨Nat.le_of_ble_eq_true rfl, Nat.le_of_ble_eq_true rfl⟩ (fun H locs hP hD hS => ?_)
      refine lv_istore (lv' := [(6, .int r7), (0, .ref a_t), (1, .int x1), (2, .int x2), (3, .int x3), (4, .ref a_p3), (5, .ref a_p4)]) hx hb dX2_join_44 hl (by decide) rfl (fun ls hl => ?_)
      refine lv_iconst (v := (0 : Int32)) hx hb dX2_join_46 (by decide) ?_
      refine lv_istore (lv' := [(7, .int (0 : Int32)), (6, .int r7), (0, .ref a_t), (1, .int x1), (2, .int x2), (3, .int x3), (4, .ref a_p3), (5, .ref a_p4)]) hx hb dX2_join_47 hl (by decide) rfl (fun ls hl => ?_)
      obtain ⟨e12, hg12, hf⟩ := jM_some hf
      refine t_X2_join_l49 G D cI cB cZ a_p3 a_p4 a_t a_p3_sex a_p4_child a_p4_father a_p4_husband a_p4_wife a_t_kindBy a_t_least a_t_queue u_p3_mother u_p3_father u_p3_parentsDay u_p3_man u_p3_woman u_p3_weddingDay u_p3_weddings u_p3_teller u_p3_tellingKind u_p3_tellingDay u_p3_tellings u_p3_today u_p3_seenTo u_t_against u_t_fitting u_t_agreeing u_t_best u_t_count u_t_families u_t_known s_p3_count s_p4_size r_p3_sex r_p4_child r_p4_father r_p4_husband r_p4_wife s_t_queued r6 r_t_queue x1 x2 x3 r7 C jF r_t_kindBy (0 : Int32) hg12 ?_ _ _ _ hP hD hS (lv_sub hl [2, 3, 4, 5, 7, 1, 0] rfl)
      intro H locs ls hP hD hS hl
      refine lv_aload_n hx hb dX2_join_94 rfl (lv_at hl 0 rfl) ?_
      refine va_get (D := D) (ci := 1) (v := .ref a_t_queue) (C := RX2) (T := TX2) (N := 11) hx hb hts iw_X2 hown hK hP 2 rfl rfl 1 (by decide) (hts _ (wG_in k_fl_X2_17 rfl)) (fun _ h9 => h9) rfl dX2_join_95 ?_
      refine lv_aload_n hx hb dX2_join_98 rfl (lv_at hl 0 rfl) ?_
      refine va_get (D := D) (ci := 1) (v := .int s_t_queued) (C := RX2) (T := TX2) (N := 11) hx hb hts iw_X2 hown hK hP 2 rfl rfl 2 (by decide) (hts _ (wG_in k_fl_X2_47 rfl)) (fun _ h9 => h9) rfl dX2_join_99 ?_
      refine lv_iload_n hx hb dX2_join_102 rfl (lv_at hl 1 rfl) ?_
      obtain ⟨r13, hgr13, hf⟩ := jM_some hf
      refine jcN_v (As := [.ref a_t_queue, .int s_t_queued, .int x2]) (rest := []) ⟨hx, hb, hml, hown, hts⟩ hK hN hA (c_X11_set l G D cI cB cZ a_t_queue r_t_queue s_t_queued x2 hgr13) ⟨va_cnB 3 hts (wG_good k_co_X11_set) rfl rfl rfl (jN_l nl_X2_77 hN) (hts _ (wG_in k_in_X11 rfl)) hd_X11_set.2 ⟨Nat.le_of_ble_eq_true rfl, Nat.le_of_ble_eq_true rfl⟩, hts _ (wG_in k_st_X11_set rfl), trivial⟩ hP hD hS [10] rfl rfl rfl rfl hl.1 rfl (Nat.le_of_ble_eq_true rfl) dX2_join_103 ⟨Nat.le_of_ble_eq_true rfl, Nat.le_of_ble_eq_true rfl⟩ (fun H locs hP hD hS => ?_)
      have hP : va_P D vwCl (w_X2_join cI cB cZ a_p3 a_p4 a_t a_p3_sex a_p4_child a_p4_father a_p4_husband a_p4_wife a_t_kindBy a_t_least a_t_queue u_p3_mother u_p3_father u_p3_parentsDay u_p3_man u_p3_woman u_p3_weddingDay u_p3_weddings u_p3_teller u_p3_tellingKind u_p3_tellingDay u_p3_tellings u_p3_today u_p3_seenTo u_t_against u_t_fitting u_t_agreeing u_t_best u_t_count u_t_families u_t_known s_p3_count s_p4_size s_t_queued r_p3_sex r_p4_child r_p4_father r_p4_husband r_p4_wife e12 r6 r13) H := hP
      have hD : va_D A (w_X2_join cI cB cZ a_p3 a_p4 a_t a_p3_sex a_p4_child a_p4_father a_p4_husband a_p4_wife a_t_kindBy a_t_least a_t_queue u_p3_mother u_p3_father u_p3_parentsDay u_p3_man u_p3_woman u_p3_weddingDay u_p3_weddings u_p3_teller u_p3_tellingKind u_p3_tellingDay u_p3_tellings u_p3_today u_p3_seenTo u_t_against u_t_fitting u_t_agreeing u_t_best u_t_count u_t_families u_t_known s_p3_count s_p4_size s_t_queued r_p3_sex r_p4_child r_p4_father r_p4_husband r_p4_wife e12 r6 r13) := hD
      refine lv_aload_n hx hb dX2_join_106 rfl (lv_at hl 0 rfl) ?_
      refine lv_dup hx hb dX2_join_107 rfl ?_
      refine va_get (D := D) (ci := 1) (v := .int s_t_queued) (C := RX2) (T := TX2) (N := 11) hx hb hts iw_X2 hown hK hP 2 rfl rfl 2 (by decide) (hts _ (wG_in k_fl_X2_47 rfl)) (fun _ h9 => h9) rfl dX2_join_108 ?_
      refine lv_iconst (v := (1 : Int32)) hx hb dX2_join_111 (by decide) ?_
      refine lv_iadd hx hb dX2_join_112 ?_
      obtain ⟨v14, hv14, hf⟩ := jV_some hf
      refine jtop hv14 ?_
      refine va_put (D := D) (ci := 1) (v := .int v14) (ty := .int) (C := RX2) (T := TX2) (N := 11) hx hb hts iw_X2 tyX2 tyX2_ok nmX2 hown hK hP hD hS 2 rfl rfl 2 (by decide) (hts _ (wG_in k_fl_X2_47 rfl)) (fun _ h9 => h9) rfl (tyX2_ok 2 (by decide)) rfl rfl (Nat.le_of_ble_eq_true rfl) dX2_join_113 (fun H locs hP hD hS => ?_)
      have hP : va_P D vwCl (w_X2_join cI cB cZ a_p3 a_p4 a_t a_p3_sex a_p4_child a_p4_father a_p4_husband a_p4_wife a_t_kindBy a_t_least a_t_queue u_p3_mother u_p3_father u_p3_parentsDay u_p3_man u_p3_woman u_p3_weddingDay u_p3_weddings u_p3_teller u_p3_tellingKind u_p3_tellingDay u_p3_tellings u_p3_today u_p3_seenTo u_t_against u_t_fitting u_t_agreeing u_t_best u_t_count u_t_families u_t_known s_p3_count s_p4_size v14 r_p3_sex r_p4_child r_p4_father r_p4_husband r_p4_wife e12 r6 r13) H := hP
      have hD : va_D A (w_X2_join cI cB cZ a_p3 a_p4 a_t a_p3_sex a_p4_child a_p4_father a_p4_husband a_p4_wife a_t_kindBy a_t_least a_t_queue u_p3_mother u_p3_father u_p3_parentsDay u_p3_man u_p3_woman u_p3_weddingDay u_p3_weddings u_p3_teller u_p3_tellingKind u_p3_tellingDay u_p3_tellings u_p3_today u_p3_seenTo u_t_against u_t_fitting u_t_agreeing u_t_best u_t_count u_t_families u_t_known s_p3_count s_p4_size v14 r_p3_sex r_p4_child r_p4_father r_p4_husband r_p4_wife e12 r6 r13) := hD
      have ho := Option.some.inj hf
      subst ho
      exact K _ _ _ _ hP hS dX2_join_116
    · replace hf := jif_f c4 hf
      have ho := Option.some.inj hf
      subst ho
      exact K _ _ _ _ hP hS dX2_join_21
set_option maxHeartbeats 4000000 in
set_option maxRecDepth 100000 in
theorem c_X2_join (l : Launch) (G : jGt) (D : va_G) (cI cB cZ : ClassId) (a_p3 a_p4 a_t a_p3_sex a_p4_child a_p4_father a_p4_husband a_p4_wife a_t_kindBy a_t_least a_t_queue : Nat) (u_p3_mother u_p3_father u_p3_parentsDay u_p3_man u_p3_woman u_p3_weddingDay : Value) (u_p3_weddings : Int32) (u_p3_teller u_p3_tellingKind u_p3_tellingDay : Value) (u_p3_tellings u_p3_today u_p3_seenTo : Int32) (u_t_against u_t_fitting u_t_agreeing u_t_best : Value) (u_t_count u_t_families u_t_known s_p3_count s_p4_size : Int32) (r_p3_sex r_p4_child r_p4_father r_p4_husband r_p4_wife : jA) (s_t_queued : Int32) (r_t_kindBy r_t_least r_t_queue : jA) (x1 x2 x3 : Int32) {o : Int32 × jA × jA × jA} (hf : f_X2_join s_p3_count s_p4_size r_p3_sex r_p4_child r_p4_father r_p4_husband r_p4_wife s_t_queued r_t_kindBy r_t_least r_t_queue x1 x2 x3 = some o) : jMv l yX2_join gX2_join rX2_join G D (jT cI cB cZ) [.ref a_t, .int x1, .int x2, .int x3, .ref a_p3, .ref a_p4] (w_X2_join cI cB cZ a_p3 a_p4 a_t a_p3_sex a_p4_child a_p4_father a_p4_husband a_p4_wife a_t_kindBy a_t_least a_t_queue u_p3_mother u_p3_father u_p3_parentsDay u_p3_man u_p3_woman u_p3_weddingDay u_p3_weddings u_p3_teller u_p3_tellingKind u_p3_tellingDay u_p3_tellings u_p3_today u_p3_seenTo u_t_against u_t_fitting u_t_agreeing u_t_best u_t_count u_t_families u_t_known s_p3_count s_p4_size s_t_queued r_p3_sex r_p4_child r_p4_father r_p4_husband r_p4_wife r_t_kindBy r_t_least r_t_queue) (w_X2_join cI cB cZ a_p3 a_p4 a_t a_p3_sex a_p4_child a_p4_father a_p4_husband a_p4_wife a_t_kindBy a_t_least a_t_queue u_p3_mother u_p3_father u_p3_parentsDay u_p3_man u_p3_woman u_p3_weddingDay u_p3_weddings u_p3_teller u_p3_tellingKind u_p3_tellingDay u_p3_tellings u_p3_today u_p3_seenTo u_t_against u_t_fitting u_t_agreeing u_t_best u_t_count u_t_families u_t_known s_p3_count s_p4_size o.1 r_p3_sex r_p4_child r_p4_father r_p4_husband r_p4_wife o.2.1 o.2.2.1 o.2.2.2) := by
  refine jmk_v RX2 rfl (by decide +kernel) rfl (Nat.le_of_ble_eq_true rfl) rfl ?_
  intro p e s m args below meth c ls A Q C hP hD hS hl K
  exact t_X2_join G D cI cB cZ a_p3 a_p4 a_t a_p3_sex a_p4_child a_p4_father a_p4_husband a_p4_wife a_t_kindBy a_t_least a_t_queue u_p3_mother u_p3_father u_p3_parentsDay u_p3_man u_p3_woman u_p3_weddingDay u_p3_weddings u_p3_teller u_p3_tellingKind u_p3_tellingDay u_p3_tellings u_p3_today u_p3_seenTo u_t_against u_t_fitting u_t_agreeing u_t_best u_t_count u_t_families u_t_known s_p3_count s_p4_size r_p3_sex r_p4_child r_p4_father r_p4_husband r_p4_wife s_t_queued r_t_kindBy r_t_least r_t_queue x1 x2 x3 C hf K hP hD hS hl
abbrev rX4_spouseSeen : Room := { frames := 1, cells := 0, slots := 0, locals := 21 }
abbrev gX4_spouseSeen : List Cond := wG yX4_spouseSeen cX4_spouseSeen 3 (some .int)
def w_X4_spouseSeen (cI cB cZ : ClassId) (a_t a_t_man a_t_weddingDay a_t_woman : Nat) (u_t_sex u_t_mother u_t_father u_t_parentsDay : Value) (u_t_count : Int32) (u_t_teller u_t_tellingKind u_t_tellingDay : Value) (u_t_tellings u_t_today s_t_seenTo s_t_weddings : Int32) (r_t_man r_t_weddingDay r_t_woman : jA) : va_W := [(a_t, .inr (3, (oX4 u_t_sex u_t_mother u_t_father u_t_parentsDay u_t_count (.ref a_t_man) (.ref a_t_woman) (.ref a_t_weddingDay) s_t_weddings u_t_teller u_t_tellingKind u_t_tellingDay u_t_tellings u_t_today s_t_seenTo))), (a_t_man, .inl (cI, r_t_man.1, .inl r_t_man.2)), (a_t_weddingDay, .inl (cI, r_t_weddingDay.1, .inl r_t_weddingDay.2)), (a_t_woman, .inl (cI, r_t_woman.1, .inl r_t_woman.2))]
def f_X4_spouseSeen_j44 (r_t_man : jA) (x1 : Int32) : Option (Int32) :=
  jM (f_X11_entry r_t_man x1) fun r7 =>
  some r7
set_option maxHeartbeats 4000000 in
set_option maxRecDepth 100000 in
theorem t_X4_spouseSeen_j44 {p : Program} {l : Launch} {e : Env} {s : State} {m : MethodId} {args : Array Value} {below : List Frame} {meth : Method} {c : Code} {A : Nat → Prop} {Q : State → Prop} (G : jGt) (D : va_G) (cI cB cZ : ClassId) (a_t a_t_man a_t_weddingDay a_t_woman : Nat) (u_t_sex u_t_mother u_t_father u_t_parentsDay : Value) (u_t_count : Int32) (u_t_teller u_t_tellingKind u_t_tellingDay : Value) (u_t_tellings u_t_today s_t_seenTo s_t_weddings : Int32) (r_t_man r_t_weddingDay r_t_woman : jA) (x1 : Int32) (C : jCx p s m args c cX4_spouseSeen 3 gX4_spouseSeen RX4 G D (jT cI cB cZ) A) {o : Int32} (hf : f_X4_spouseSeen_j44 r_t_man x1 = some o) (K : ∀ (H : Heap) (locs : List Loc) (pc : Nat) (ls : Array Slot), va_P D vwCl (w_X4_spouseSeen cI cB cZ a_t a_t_man a_t_weddingDay a_t_woman u_t_sex u_t_mother u_t_father u_t_parentsDay u_t_count u_t_teller u_t_tellingKind u_t_tellingDay u_t_tellings u_t_today s_t_seenTo s_t_weddings r_t_man r_t_weddingDay r_t_woman) H → va_S A s.heap H locs → decode cX4_spouseSeen pc = .ok (.ireturn, 1) → W p l e rX4_spouseSeen s m args below meth c H locs 0 0 Q (F0 m pc ls [.int o])) {H : Heap} {locs : List Loc} {ls : Array Slot} (hP : va_P D vwCl (w_X4_spouseSeen cI cB cZ a_t a_t_man a_t_weddingDay a_t_woman u_t_sex u_t_mother u_t_father u_t_parentsDay u_t_count u_t_teller u_t_tellingKind u_t_tellingDay u_t_tellings u_t_today s_t_seenTo s_t_weddings r_t_man r_t_weddingDay r_t_woman) H) (hD : va_D A (w_X4_spouseSeen cI cB cZ a_t a_t_man a_t_weddingDay a_t_woman u_t_sex u_t_mother u_t_father u_t_parentsDay u_t_count u_t_teller u_t_tellingKind u_t_tellingDay u_t_tellings u_t_today s_t_seenTo s_t_weddings r_t_man r_t_weddingDay r_t_woman)) (hS : va_S A s.heap H locs) (hl : lv_has ls 3 [(1, .int x1)]) : W p l e rX4_spouseSeen s m args below meth c H locs 0 0 Q (F0 m 44 ls [.ref a_t_man]) := by
  obtain ⟨⟨hx, hb, hml, hown, hts⟩, hK, hN, hA⟩ := C
  have C : jCx p s m args c cX4_spouseSeen 3 gX4_spouseSeen RX4 G D (jT cI cB cZ) A := ⟨⟨hx, hb, hml, hown, hts⟩, hK, hN, hA⟩
  unfold f_X4_spouseSeen_j44 at hf
  refine lv_iload_n hx hb dX4_spouseSeen_44 rfl (lv_at hl 0 rfl) ?_
  obtain ⟨r7, hgr7, hf⟩ := jM_some hf
  refine jcN_i0 (As := [.ref a_t_man, .int x1]) (rest := []) ⟨hx, hb, hml, hown, hts⟩ hK hN hA (c_X11_entry l G D cI cB cZ a_t_man r_t_man x1 hgr7) ⟨va_cnB 2 hts (wG_good k_co_X11_entry) rfl rfl rfl (jN_l nl_X4_68 hN) (hts _ (wG_in k_in_X11 rfl)) hd_X11_entry.2 ⟨Nat.le_of_ble_eq_true rfl, Nat.le_of_ble_eq_true rfl⟩, hts _ (wG_in k_st_X11_entry rfl), trivial⟩ hP hD hS [1] rfl rfl rfl rfl hl.1 rfl (Nat.le_of_ble_eq_true rfl) dX4_spouseSeen_45 ⟨Nat.le_of_ble_eq_true rfl, Nat.le_of_ble_eq_true rfl⟩ (fun H locs hP hD hS => ?_)
  have ho := Option.some.inj hf
  subst ho
  exact K _ _ _ _ hP hS dX4_spouseSeen_48
def f_X4_spouseSeen_j44b (r_t_woman : jA) (x1 : Int32) : Option (Int32) :=
  jM (f_X11_entry r_t_woman x1) fun r8 =>
  some r8
set_option maxHeartbeats 4000000 in
set_option maxRecDepth 100000 in
theorem t_X4_spouseSeen_j44b {p : Program} {l : Launch} {e : Env} {s : State} {m : MethodId} {args : Array Value} {below : List Frame} {meth : Method} {c : Code} {A : Nat → Prop} {Q : State → Prop} (G : jGt) (D : va_G) (cI cB cZ : ClassId) (a_t a_t_man a_t_weddingDay a_t_woman : Nat) (u_t_sex u_t_mother u_t_father u_t_parentsDay : Value) (u_t_count : Int32) (u_t_teller u_t_tellingKind u_t_tellingDay : Value) (u_t_tellings u_t_today s_t_seenTo s_t_weddings : Int32) (r_t_man r_t_weddingDay r_t_woman : jA) (x1 : Int32) (C : jCx p s m args c cX4_spouseSeen 3 gX4_spouseSeen RX4 G D (jT cI cB cZ) A) {o : Int32} (hf : f_X4_spouseSeen_j44b r_t_woman x1 = some o) (K : ∀ (H : Heap) (locs : List Loc) (pc : Nat) (ls : Array Slot), va_P D vwCl (w_X4_spouseSeen cI cB cZ a_t a_t_man a_t_weddingDay a_t_woman u_t_sex u_t_mother u_t_father u_t_parentsDay u_t_count u_t_teller u_t_tellingKind u_t_tellingDay u_t_tellings u_t_today s_t_seenTo s_t_weddings r_t_man r_t_weddingDay r_t_woman) H → va_S A s.heap H locs → decode cX4_spouseSeen pc = .ok (.ireturn, 1) → W p l e rX4_spouseSeen s m args below meth c H locs 0 0 Q (F0 m pc ls [.int o])) {H : Heap} {locs : List Loc} {ls : Array Slot} (hP : va_P D vwCl (w_X4_spouseSeen cI cB cZ a_t a_t_man a_t_weddingDay a_t_woman u_t_sex u_t_mother u_t_father u_t_parentsDay u_t_count u_t_teller u_t_tellingKind u_t_tellingDay u_t_tellings u_t_today s_t_seenTo s_t_weddings r_t_man r_t_weddingDay r_t_woman) H) (hD : va_D A (w_X4_spouseSeen cI cB cZ a_t a_t_man a_t_weddingDay a_t_woman u_t_sex u_t_mother u_t_father u_t_parentsDay u_t_count u_t_teller u_t_tellingKind u_t_tellingDay u_t_tellings u_t_today s_t_seenTo s_t_weddings r_t_man r_t_weddingDay r_t_woman)) (hS : va_S A s.heap H locs) (hl : lv_has ls 3 [(1, .int x1)]) : W p l e rX4_spouseSeen s m args below meth c H locs 0 0 Q (F0 m 44 ls [.ref a_t_woman]) := by
  obtain ⟨⟨hx, hb, hml, hown, hts⟩, hK, hN, hA⟩ := C
  have C : jCx p s m args c cX4_spouseSeen 3 gX4_spouseSeen RX4 G D (jT cI cB cZ) A := ⟨⟨hx, hb, hml, hown, hts⟩, hK, hN, hA⟩
  unfold f_X4_spouseSeen_j44b at hf
  refine lv_iload_n hx hb dX4_spouseSeen_44 rfl (lv_at hl 0 rfl) ?_
  obtain ⟨r8, hgr8, hf⟩ := jM_some hf
  refine jcN_i0 (As := [.ref a_t_woman, .int x1]) (rest := []) ⟨hx, hb, hml, hown, hts⟩ hK hN hA (c_X11_entry l G D cI cB cZ a_t_woman r_t_woman x1 hgr8) ⟨va_cnB 2 hts (wG_good k_co_X11_entry) rfl rfl rfl (jN_l nl_X4_68 hN) (hts _ (wG_in k_in_X11 rfl)) hd_X11_entry.2 ⟨Nat.le_of_ble_eq_true rfl, Nat.le_of_ble_eq_true rfl⟩, hts _ (wG_in k_st_X11_entry rfl), trivial⟩ hP hD hS [3] rfl rfl rfl rfl hl.1 rfl (Nat.le_of_ble_eq_true rfl) dX4_spouseSeen_45 ⟨Nat.le_of_ble_eq_true rfl, Nat.le_of_ble_eq_true rfl⟩ (fun H locs hP hD hS => ?_)
  have ho := Option.some.inj hf
  subst ho
  exact K _ _ _ _ hP hS dX4_spouseSeen_48
def f_X4_spouseSeen (s_t_seenTo s_t_weddings : Int32) (r_t_man r_t_weddingDay r_t_woman : jA) (x1 x2 : Int32) : Option (Int32) :=
  if x1 < 0 then
  some (-1 : Int32)
  else
  if s_t_weddings ≤ x1 then
  some (-1 : Int32)
  else
  jM (f_X11_entry r_t_weddingDay x1) fun r3 =>
  jM (f_X4_isSeen s_t_seenTo r3) fun r4 =>
  if r4 = 0 then
  some (-1 : Int32)
  else
  if x2 = 0 then
  f_X4_spouseSeen_j44b r_t_woman x1
  else
  f_X4_spouseSeen_j44 r_t_man x1
set_option maxHeartbeats 4000000 in
set_option maxRecDepth 100000 in
theorem t_X4_spouseSeen {p : Program} {l : Launch} {e : Env} {s : State} {m : MethodId} {args : Array Value} {below : List Frame} {meth : Method} {c : Code} {A : Nat → Prop} {Q : State → Prop} (G : jGt) (D : va_G) (cI cB cZ : ClassId) (a_t a_t_man a_t_weddingDay a_t_woman : Nat) (u_t_sex u_t_mother u_t_father u_t_parentsDay : Value) (u_t_count : Int32) (u_t_teller u_t_tellingKind u_t_tellingDay : Value) (u_t_tellings u_t_today s_t_seenTo s_t_weddings : Int32) (r_t_man r_t_weddingDay r_t_woman : jA) (x1 x2 : Int32) (C : jCx p s m args c cX4_spouseSeen 3 gX4_spouseSeen RX4 G D (jT cI cB cZ) A) {o : Int32} (hf : f_X4_spouseSeen s_t_seenTo s_t_weddings r_t_man r_t_weddingDay r_t_woman x1 x2 = some o) (K : ∀ (H : Heap) (locs : List Loc) (pc : Nat) (ls : Array Slot), va_P D vwCl (w_X4_spouseSeen cI cB cZ a_t a_t_man a_t_weddingDay a_t_woman u_t_sex u_t_mother u_t_father u_t_parentsDay u_t_count u_t_teller u_t_tellingKind u_t_tellingDay u_t_tellings u_t_today s_t_seenTo s_t_weddings r_t_man r_t_weddingDay r_t_woman) H → va_S A s.heap H locs → decode cX4_spouseSeen pc = .ok (.ireturn, 1) → W p l e rX4_spouseSeen s m args below meth c H locs 0 0 Q (F0 m pc ls [.int o])) {H : Heap} {locs : List Loc} {ls : Array Slot} (hP : va_P D vwCl (w_X4_spouseSeen cI cB cZ a_t a_t_man a_t_weddingDay a_t_woman u_t_sex u_t_mother u_t_father u_t_parentsDay u_t_count u_t_teller u_t_tellingKind u_t_tellingDay u_t_tellings u_t_today s_t_seenTo s_t_weddings r_t_man r_t_weddingDay r_t_woman) H) (hD : va_D A (w_X4_spouseSeen cI cB cZ a_t a_t_man a_t_weddingDay a_t_woman u_t_sex u_t_mother u_t_father u_t_parentsDay u_t_count u_t_teller u_t_tellingKind u_t_tellingDay u_t_tellings u_t_today s_t_seenTo s_t_weddings r_t_man r_t_weddingDay r_t_woman)) (hS : va_S A s.heap H locs) (hl : lv_has ls 3 [(0, .ref a_t), (1, .int x1), (2, .int x2)]) : W p l e rX4_spouseSeen s m args below meth c H locs 0 0 Q (F0 m 0 ls []) := by
  obtain ⟨⟨hx, hb, hml, hown, hts⟩, hK, hN, hA⟩ := C
  have C : jCx p s m args c cX4_spouseSeen 3 gX4_spouseSeen RX4 G D (jT cI cB cZ) A := ⟨⟨hx, hb, hml, hown, hts⟩, hK, hN, hA⟩
  unfold f_X4_spouseSeen at hf
  refine lv_iload_n hx hb dX4_spouseSeen_0 rfl (lv_at hl 1 rfl) ?_
  refine lv_if_lt (tgt := 27) hx hb dX4_spouseSeen_1 (by decide) (fun c1 => ?_) (fun c1 => ?_)
  · replace hf := jif_t c1 hf
    refine lv_iconst (v := (-1 : Int32)) hx hb dX4_spouseSeen_27 (by decide) ?_
    have ho := Option.some.inj hf
    subst ho
    exact K _ _ _ _ hP hS dX4_spouseSeen_28
  · replace hf := jif_f c1 hf
    refine lv_iload_n hx hb dX4_spouseSeen_4 rfl (lv_at hl 1 rfl) ?_
    refine lv_aload_n hx hb dX4_spouseSeen_5 rfl (lv_at hl 0 rfl) ?_
    refine va_get (D := D) (ci := 3) (v := .int s_t_weddings) (C := RX4) (T := TX4) (N := 15) hx hb hts iw_X4 hown hK hP 0 rfl rfl 8 (by decide) (hts _ (wG_in k_fl_X4_55 rfl)) (fun _ h9 => h9) rfl dX4_spouseSeen_6 ?_
    refine lv_icmp_ge (tgt := 27) hx hb dX4_spouseSeen_9 (by decide) (fun c2 => ?_) (fun c2 => ?_)
    · replace hf := jif_t c2 hf
      refine lv_iconst (v := (-1 : Int32)) hx hb dX4_spouseSeen_27 (by decide) ?_
      have ho := Option.some.inj hf
      subst ho
      exact K _ _ _ _ hP hS dX4_spouseSeen_28
    · replace hf := jif_f c2 hf
      refine lv_aload_n hx hb dX4_spouseSeen_12 rfl (lv_at hl 0 rfl) ?_
      refine lv_aload_n hx hb dX4_spouseSeen_13 rfl (lv_at hl 0 rfl) ?_
      refine va_get (D := D) (ci := 3) (v := .ref a_t_weddingDay) (C := RX4) (T := TX4) (N := 15) hx hb hts iw_X4 hown hK hP 0 rfl rfl 7 (by decide) (hts _ (wG_in k_fl_X4_30 rfl)) (fun _ h9 => h9) rfl dX4_spouseSeen_14 ?_
      refine lv_iload_n hx hb dX4_spouseSeen_17 rfl (lv_at hl 1 rfl) ?_
      obtain ⟨r3, hgr3, hf⟩ := jM_some hf
      refine jcN_i0 (As := [.ref a_t_weddingDay, .int x1]) (rest := [.ref a_t]) ⟨hx, hb, hml, hown, hts⟩ hK hN hA (c_X11_entry l G D cI cB cZ a_t_weddingDay r_t_weddingDay x1 hgr3) ⟨va_cnB 2 hts (wG_good k_co_X11_entry) rfl rfl rfl (jN_l nl_X4_68 hN) (hts _ (wG_in k_in_X11 rfl)) hd_X11_entry.2 ⟨Nat.le_of_ble_eq_true rfl, Nat.le_of_ble_eq_true rfl⟩, hts _ (wG_in k_st_X11_entry rfl), trivial⟩ hP hD hS [2] rfl rfl rfl rfl hl.1 rfl (Nat.le_of_ble_eq_true rfl) dX4_spouseSeen_18 ⟨Nat.le_of_ble_eq_true rfl, Nat.le_of_ble_eq_true rfl⟩ (fun H locs hP hD hS => ?_)
      obtain ⟨r4, hgr4, hf⟩ := jM_some hf
      refine jcV_i0 (As := [.int r3]) (rest := []) ⟨hx, hb, hml, hown, hts⟩ hK hN hA (c_X4_isSeen l G D cI cB cZ a_t u_t_sex u_t_mother u_t_father u_t_parentsDay u_t_count (.ref a_t_man) (.ref a_t_woman) (.ref a_t_weddingDay) s_t_weddings u_t_teller u_t_tellingKind u_t_tellingDay u_t_tellings u_t_today s_t_seenTo r3 hgr4) (cwV 1 hts (wG_V k_ml_X4_84 k_im_X4_isSeen k_se_X4_isSeen k_in_X4 k_co_X4_isSeen) rfl rfl rfl hd_X4_isSeen ⟨Nat.le_of_ble_eq_true rfl, Nat.le_of_ble_eq_true rfl⟩) hP hD hS [0] rfl rfl rfl (ci := 3) rfl 0 rfl rfl rfl hl.1 rfl (Nat.le_of_ble_eq_true rfl) dX4_spouseSeen_21 ⟨Nat.le_of_ble_eq_true rfl, Nat.le_of_ble_eq_true rfl⟩ (fun H locs hP hD hS => ?_)
      refine lv_if_ne (tgt := 29) hx hb dX4_spouseSeen_24 (by decide) (fun c5 => ?_) (fun c5 => ?_)
      · replace hf := jif_f c5 hf
        refine lv_iload_n hx hb dX4_spouseSeen_29 rfl (lv_at hl 2 rfl) ?_
        refine lv_if_ne (tgt := 40) hx hb dX4_spouseSeen_30 (by decide) (fun c6 => ?_) (fun c6 => ?_)
        · replace hf := jif_f c6 hf
          refine lv_aload_n hx hb dX4_spouseSeen_40 rfl (lv_at hl 0 rfl) ?_
          refine va_get (D := D) (ci := 3) (v := .ref a_t_man) (C := RX4) (T := TX4) (N := 15) hx hb hts iw_X4 hown hK hP 0 rfl rfl 5 (by decide) (hts _ (wG_in k_fl_X4_24 rfl)) (fun _ h9 => h9) rfl dX4_spouseSeen_41 ?_
          exact t_X4_spouseSeen_j44 G D cI cB cZ a_t a_t_man a_t_weddingDay a_t_woman u_t_sex u_t_mother u_t_father u_t_parentsDay u_t_count u_t_teller u_t_tellingKind u_t_tellingDay u_t_tellings u_t_today s_t_seenTo s_t_weddings r_t_man r_t_weddingDay r_t_woman x1 C hf K hP hD hS (lv_sub hl [1] rfl)
        · replace hf := jif_t c6 hf
          refine lv_aload_n hx hb dX4_spouseSeen_33 rfl (lv_at hl 0 rfl) ?_
          refine va_get (D := D) (ci := 3) (v := .ref a_t_woman) (C := RX4) (T := TX4) (N := 15) hx hb hts iw_X4 hown hK hP 0 rfl rfl 6 (by decide) (hts _ (wG_in k_fl_X4_27 rfl)) (fun _ h9 => h9) rfl dX4_spouseSeen_34 ?_
          refine lv_goto (tgt := 44) hx hb dX4_spouseSeen_37 (by decide) ?_
          exact t_X4_spouseSeen_j44b G D cI cB cZ a_t a_t_man a_t_weddingDay a_t_woman u_t_sex u_t_mother u_t_father u_t_parentsDay u_t_count u_t_teller u_t_tellingKind u_t_tellingDay u_t_tellings u_t_today s_t_seenTo s_t_weddings r_t_man r_t_weddingDay r_t_woman x1 C hf K hP hD hS (lv_sub hl [1] rfl)
      · replace hf := jif_t c5 hf
        refine lv_iconst (v := (-1 : Int32)) hx hb dX4_spouseSeen_27 (by decide) ?_
        have ho := Option.some.inj hf
        subst ho
        exact K _ _ _ _ hP hS dX4_spouseSeen_28
set_option maxHeartbeats 4000000 in
set_option maxRecDepth 100000 in
theorem c_X4_spouseSeen (l : Launch) (G : jGt) (D : va_G) (cI cB cZ : ClassId) (a_t a_t_man a_t_weddingDay a_t_woman : Nat) (u_t_sex u_t_mother u_t_father u_t_parentsDay : Value) (u_t_count : Int32) (u_t_teller u_t_tellingKind u_t_tellingDay : Value) (u_t_tellings u_t_today s_t_seenTo s_t_weddings : Int32) (r_t_man r_t_weddingDay r_t_woman : jA) (x1 x2 : Int32) {o : Int32} (hf : f_X4_spouseSeen s_t_seenTo s_t_weddings r_t_man r_t_weddingDay r_t_woman x1 x2 = some o) : jMi l yX4_spouseSeen gX4_spouseSeen rX4_spouseSeen G D (jT cI cB cZ) [.ref a_t, .int x1, .int x2] (w_X4_spouseSeen cI cB cZ a_t a_t_man a_t_weddingDay a_t_woman u_t_sex u_t_mother u_t_father u_t_parentsDay u_t_count u_t_teller u_t_tellingKind u_t_tellingDay u_t_tellings u_t_today s_t_seenTo s_t_weddings r_t_man r_t_weddingDay r_t_woman) (w_X4_spouseSeen cI cB cZ a_t a_t_man a_t_weddingDay a_t_woman u_t_sex u_t_mother u_t_father u_t_parentsDay u_t_count u_t_teller u_t_tellingKind u_t_tellingDay u_t_tellings u_t_today s_t_seenTo s_t_weddings r_t_man r_t_weddingDay r_t_woman) o := by
  refine jmk_i RX4 rfl (by decide +kernel) rfl (Nat.le_of_ble_eq_true rfl) rfl ?_
  intro p e s m args below meth c ls A Q C hP hD hS hl K
  exact t_X4_spouseSeen G D cI cB cZ a_t a_t_man a_t_weddingDay a_t_woman u_t_sex u_t_mother u_t_father u_t_parentsDay u_t_count u_t_teller u_t_tellingKind u_t_tellingDay u_t_tellings u_t_today s_t_seenTo s_t_weddings r_t_man r_t_weddingDay r_t_woman x1 x2 C hf K hP hD hS hl

abbrev rX12_child : Room := { frames := 2, cells := 0, slots := 0, locals := 42 }
abbrev gX12_child : List Cond := wG yX12_child cX12_child 3 (some .int)
def w_X12_child (cI cB cZ : ClassId) (a_t : Nat) (aX : Nat → Nat) (u_t_ahead u_t_length u_t_begins u_t_sort u_t_value u_t_letters : Int32) (u_t_word : Int64) (u_t_wrongAt u_t_laterFault u_t_laterPlace u_t_newClasses u_t_newLines u_t_turns u_t_shortest u_t_orders u_t_rowNumber u_t_ties s_t_code s_t_n : Int32) (r_t_child r_t_childBack r_t_childRow r_t_classes r_t_weds r_t_wedsBack r_t_wedsRow : jA) : va_W := [(a_t, .inr (11, (oX12 aX s_t_code s_t_n u_t_ahead u_t_length u_t_begins u_t_sort u_t_value u_t_letters u_t_word u_t_wrongAt u_t_laterFault u_t_laterPlace u_t_newClasses u_t_newLines u_t_turns u_t_shortest u_t_orders u_t_rowNumber u_t_ties))), ((aX 33), .inl (cI, r_t_child.1, .inl r_t_child.2)), ((aX 35), .inl (cI, r_t_childBack.1, .inl r_t_childBack.2)), ((aX 7), .inl (cI, r_t_childRow.1, .inl r_t_childRow.2)), ((aX 5), .inl (cI, r_t_classes.1, .inl r_t_classes.2)), ((aX 32), .inl (cI, r_t_weds.1, .inl r_t_weds.2)), ((aX 34), .inl (cI, r_t_wedsBack.1, .inl r_t_wedsBack.2)), ((aX 6), .inl (cI, r_t_wedsRow.1, .inl r_t_wedsRow.2))]
def f_X12_child_j37 (s_t_code s_t_n : Int32) (r_t_child r_t_childBack r_t_weds r_t_wedsBack : jA) (k1 k2 : Int32) : Option (Int32 × Int32 × Int32 × jA × jA × jA × jA) :=
  jM (f_X12_childOf r_t_child r_t_wedsBack k1 k2) fun r6 =>
  some (r6, s_t_code, s_t_n, r_t_child, r_t_childBack, r_t_weds, r_t_wedsBack)
set_option maxHeartbeats 4000000 in
set_option maxRecDepth 100000 in
theorem t_X12_child_j37 {p : Program} {l : Launch} {e : Env} {s : State} {m : MethodId} {args : Array Value} {below : List Frame} {meth : Method} {c : Code} {A : Nat → Prop} {Q : State → Prop} (G : jGt) (D : va_G) (cI cB cZ : ClassId) (a_t : Nat) (aX : Nat → Nat) (u_t_ahead u_t_length u_t_begins u_t_sort u_t_value u_t_letters : Int32) (u_t_word : Int64) (u_t_wrongAt u_t_laterFault u_t_laterPlace u_t_newClasses u_t_newLines u_t_turns u_t_shortest u_t_orders u_t_rowNumber u_t_ties : Int32) (r_t_childRow r_t_classes r_t_wedsRow : jA) (s_t_code s_t_n : Int32) (r_t_child r_t_childBack r_t_weds r_t_wedsBack : jA) (k1 k2 : Int32) (C : jCx p s m args c cX12_child 3 gX12_child RX12 G D (jT cI cB cZ) A) {o : Int32 × Int32 × Int32 × jA × jA × jA × jA} (hf : f_X12_child_j37 s_t_code s_t_n r_t_child r_t_childBack r_t_weds r_t_wedsBack k1 k2 = some o) (K : ∀ (H : Heap) (locs : List Loc) (pc : Nat) (ls : Array Slot), va_P D vwCl (w_X12_child cI cB cZ a_t aX u_t_ahead u_t_length u_t_begins u_t_sort u_t_value u_t_letters u_t_word u_t_wrongAt u_t_laterFault u_t_laterPlace u_t_newClasses u_t_newLines u_t_turns u_t_shortest u_t_orders u_t_rowNumber u_t_ties o.2.1 o.2.2.1 o.2.2.2.1 o.2.2.2.2.1 r_t_childRow r_t_classes o.2.2.2.2.2.1 o.2.2.2.2.2.2 r_t_wedsRow) H → va_S A s.heap H locs → decode cX12_child pc = .ok (.ireturn, 1) → W p l e rX12_child s m args below meth c H locs 0 0 Q (F0 m pc ls [.int o.1])) {H : Heap} {locs : List Loc} {ls : Array Slot} (hP : va_P D vwCl (w_X12_child cI cB cZ a_t aX u_t_ahead u_t_length u_t_begins u_t_sort u_t_value u_t_letters u_t_word u_t_wrongAt u_t_laterFault u_t_laterPlace u_t_newClasses u_t_newLines u_t_turns u_t_shortest u_t_orders u_t_rowNumber u_t_ties s_t_code s_t_n r_t_child r_t_childBack r_t_childRow r_t_classes r_t_weds r_t_wedsBack r_t_wedsRow) H) (hD : va_D A (w_X12_child cI cB cZ a_t aX u_t_ahead u_t_length u_t_begins u_t_sort u_t_value u_t_letters u_t_word u_t_wrongAt u_t_laterFault u_t_laterPlace u_t_newClasses u_t_newLines u_t_turns u_t_shortest u_t_orders u_t_rowNumber u_t_ties s_t_code s_t_n r_t_child r_t_childBack r_t_childRow r_t_classes r_t_weds r_t_wedsBack r_t_wedsRow)) (hS : va_S A s.heap H locs) (hl : lv_has ls 3 []) : W p l e rX12_child s m args below meth c H locs 0 0 Q (F0 m 37 ls [.int k2, .int k1, .ref a_t]) := by
  obtain ⟨⟨hx, hb, hml, hown, hts⟩, hK, hN, hA⟩ := C
  have C : jCx p s m args c cX12_child 3 gX12_child RX12 G D (jT cI cB cZ) A := ⟨⟨hx, hb, hml, hown, hts⟩, hK, hN, hA⟩
  unfold f_X12_child_j37 at hf
  obtain ⟨r6, hgr6, hf⟩ := jM_some hf
  refine jcV_i0 (As := [.int k1, .int k2]) (rest := []) ⟨hx, hb, hml, hown, hts⟩ hK hN hA (c_X12_childOf l G D cI cB cZ a_t aX s_t_code s_t_n u_t_ahead u_t_length u_t_begins u_t_sort u_t_value u_t_letters u_t_word u_t_wrongAt u_t_laterFault u_t_laterPlace u_t_newClasses u_t_newLines u_t_turns u_t_shortest u_t_orders u_t_rowNumber u_t_ties r_t_child r_t_wedsBack k1 k2 hgr6) (cwV 2 hts (wG_V k_ml_X12_195 k_im_X12_childOf k_se_X12_childOf k_in_X12 k_co_X12_childOf) rfl rfl rfl hd_X12_childOf ⟨Nat.le_of_ble_eq_true rfl, Nat.le_of_ble_eq_true rfl⟩) hP hD hS [0, 1, 6] rfl rfl rfl (ci := 11) rfl 0 rfl rfl rfl hl.1 rfl (Nat.le_of_ble_eq_true rfl) dX12_child_37 ⟨Nat.le_of_ble_eq_true rfl, Nat.le_of_ble_eq_true rfl⟩ (fun H locs hP hD hS => ?_)
  refine lv_goto (tgt := 44) hx hb dX12_child_40 (by decide) ?_
  have ho := Option.some.inj hf
  subst ho
  exact K _ _ _ _ hP hS dX12_child_44
def f_X12_child (r_t_childRow r_t_classes r_t_wedsRow : jA) (s_t_code s_t_n : Int32) (r_t_child r_t_childBack r_t_weds r_t_wedsBack : jA) (x1 x2 : Int32) : Option (Int32 × Int32 × Int32 × jA × jA × jA × jA) :=
  jM (f_X12_bring r_t_childRow r_t_classes r_t_wedsRow s_t_n r_t_child r_t_childBack r_t_weds r_t_wedsBack) fun r1 =>
  if r1.1 = 0 then
  some ((-1 : Int32), (0 : Int32), r1.2.1, r1.2.2.1, r1.2.2.2.1, r1.2.2.2.2.1, r1.2.2.2.2.2)
  else
  jM (f_X12_in x1 (0 : Int32) (r1.2.1 - (1 : Int32))) fun r3 =>
  if r3 = 0 then
  some ((-1 : Int32), (0 : Int32), r1.2.1, r1.2.2.1, r1.2.2.2.1, r1.2.2.2.2.1, r1.2.2.2.2.2)
  else
  if x2 = 0 then
  f_X12_child_j37 (0 : Int32) r1.2.1 r1.2.2.1 r1.2.2.2.1 r1.2.2.2.2.1 r1.2.2.2.2.2 x1 (1 : Int32)
  else
  f_X12_child_j37 (0 : Int32) r1.2.1 r1.2.2.1 r1.2.2.2.1 r1.2.2.2.2.1 r1.2.2.2.2.2 x1 (0 : Int32)
set_option maxHeartbeats 4000000 in
set_option maxRecDepth 100000 in
theorem t_X12_child {p : Program} {l : Launch} {e : Env} {s : State} {m : MethodId} {args : Array Value} {below : List Frame} {meth : Method} {c : Code} {A : Nat → Prop} {Q : State → Prop} (G : jGt) (D : va_G) (cI cB cZ : ClassId) (a_t : Nat) (aX : Nat → Nat) (u_t_ahead u_t_length u_t_begins u_t_sort u_t_value u_t_letters : Int32) (u_t_word : Int64) (u_t_wrongAt u_t_laterFault u_t_laterPlace u_t_newClasses u_t_newLines u_t_turns u_t_shortest u_t_orders u_t_rowNumber u_t_ties : Int32) (r_t_childRow r_t_classes r_t_wedsRow : jA) (s_t_code s_t_n : Int32) (r_t_child r_t_childBack r_t_weds r_t_wedsBack : jA) (x1 x2 : Int32) (C : jCx p s m args c cX12_child 3 gX12_child RX12 G D (jT cI cB cZ) A) {o : Int32 × Int32 × Int32 × jA × jA × jA × jA} (hf : f_X12_child r_t_childRow r_t_classes r_t_wedsRow s_t_code s_t_n r_t_child r_t_childBack r_t_weds r_t_wedsBack x1 x2 = some o) (K : ∀ (H : Heap) (locs : List Loc) (pc : Nat) (ls : Array Slot), va_P D vwCl (w_X12_child cI cB cZ a_t aX u_t_ahead u_t_length u_t_begins u_t_sort u_t_value u_t_letters u_t_word u_t_wrongAt u_t_laterFault u_t_laterPlace u_t_newClasses u_t_newLines u_t_turns u_t_shortest u_t_orders u_t_rowNumber u_t_ties o.2.1 o.2.2.1 o.2.2.2.1 o.2.2.2.2.1 r_t_childRow r_t_classes o.2.2.2.2.2.1 o.2.2.2.2.2.2 r_t_wedsRow) H → va_S A s.heap H locs → decode cX12_child pc = .ok (.ireturn, 1) → W p l e rX12_child s m args below meth c H locs 0 0 Q (F0 m pc ls [.int o.1])) {H : Heap} {locs : List Loc} {ls : Array Slot} (hP : va_P D vwCl (w_X12_child cI cB cZ a_t aX u_t_ahead u_t_length u_t_begins u_t_sort u_t_value u_t_letters u_t_word u_t_wrongAt u_t_laterFault u_t_laterPlace u_t_newClasses u_t_newLines u_t_turns u_t_shortest u_t_orders u_t_rowNumber u_t_ties s_t_code s_t_n r_t_child r_t_childBack r_t_childRow r_t_classes r_t_weds r_t_wedsBack r_t_wedsRow) H) (hD : va_D A (w_X12_child cI cB cZ a_t aX u_t_ahead u_t_length u_t_begins u_t_sort u_t_value u_t_letters u_t_word u_t_wrongAt u_t_laterFault u_t_laterPlace u_t_newClasses u_t_newLines u_t_turns u_t_shortest u_t_orders u_t_rowNumber u_t_ties s_t_code s_t_n r_t_child r_t_childBack r_t_childRow r_t_classes r_t_weds r_t_wedsBack r_t_wedsRow)) (hS : va_S A s.heap H locs) (hl : lv_has ls 3 [(0, .ref a_t), (1, .int x1), (2, .int x2)]) : W p l e rX12_child s m args below meth c H locs 0 0 Q (F0 m 0 ls []) := by
  obtain ⟨⟨hx, hb, hml, hown, hts⟩, hK, hN, hA⟩ := C
  have C : jCx p s m args c cX12_child 3 gX12_child RX12 G D (jT cI cB cZ) A := ⟨⟨hx, hb, hml, hown, hts⟩, hK, hN, hA⟩
  unfold f_X12_child at hf
  refine lv_aload_n hx hb dX12_child_0 rfl (lv_at hl 0 rfl) ?_
  refine lv_iconst (v := (0 : Int32)) hx hb dX12_child_1 (by decide) ?_
  refine va_put (D := D) (ci := 11) (v := .int (0 : Int32)) (ty := .int) (C := RX12) (T := TX12) (N := 74) hx hb hts iw_X12 tyX12 tyX12_ok nmX12 hown hK hP hD hS 0 rfl rfl 0 (by decide) (hts _ (wG_in k_fl_X12_177 rfl)) (fun _ h9 => h9) rfl (tyX12_ok 0 (by decide)) rfl rfl (Nat.le_of_ble_eq_true rfl) dX12_child_2 (fun H locs hP hD hS => ?_)
  have hP : va_P D vwCl (w_X12_child cI cB cZ a_t aX u_t_ahead u_t_length u_t_begins u_t_sort u_t_value u_t_letters u_t_word u_t_wrongAt u_t_laterFault u_t_laterPlace u_t_newClasses u_t_newLines u_t_turns u_t_shortest u_t_orders u_t_rowNumber u_t_ties (0 : Int32) s_t_n r_t_child r_t_childBack r_t_childRow r_t_classes r_t_weds r_t_wedsBack r_t_wedsRow) H := hP
  have hD : va_D A (w_X12_child cI cB cZ a_t aX u_t_ahead u_t_length u_t_begins u_t_sort u_t_value u_t_letters u_t_word u_t_wrongAt u_t_laterFault u_t_laterPlace u_t_newClasses u_t_newLines u_t_turns u_t_shortest u_t_orders u_t_rowNumber u_t_ties (0 : Int32) s_t_n r_t_child r_t_childBack r_t_childRow r_t_classes r_t_weds r_t_wedsBack r_t_wedsRow) := hD
  refine lv_aload_n hx hb dX12_child_5 rfl (lv_at hl 0 rfl) ?_
  obtain ⟨r1, hgr1, hf⟩ := jM_some hf
  refine jcV_i (As := []) (rest := []) ⟨hx, hb, hml, hown, hts⟩ hK hN hA (c_X12_bring l G D cI cB cZ a_t aX (0 : Int32) u_t_ahead u_t_length u_t_begins u_t_sort u_t_value u_t_letters u_t_word u_t_wrongAt u_t_laterFault u_t_laterPlace u_t_newClasses u_t_newLines u_t_turns u_t_shortest u_t_orders u_t_rowNumber u_t_ties r_t_childRow r_t_classes r_t_wedsRow s_t_n r_t_child r_t_childBack r_t_weds r_t_wedsBack hgr1) (cwV 0 hts (wG_V k_ml_X12_338 k_im_X12_bring k_se_X12_bring k_in_X12 k_co_X12_bring) rfl rfl rfl hd_X12_bring ⟨Nat.le_of_ble_eq_true rfl, Nat.le_of_ble_eq_true rfl⟩) hP hD hS [0, 1, 2, 3, 4, 5, 6, 7] rfl rfl rfl (ci := 11) rfl 0 rfl rfl rfl hl.1 rfl (Nat.le_of_ble_eq_true rfl) dX12_child_6 ⟨Nat.le_of_ble_eq_true rfl, Nat.le_of_ble_eq_true rfl⟩ (fun H locs hP hD hS => ?_)
  have hP : va_P D vwCl (w_X12_child cI cB cZ a_t aX u_t_ahead u_t_length u_t_begins u_t_sort u_t_value u_t_letters u_t_word u_t_wrongAt u_t_laterFault u_t_laterPlace u_t_newClasses u_t_newLines u_t_turns u_t_shortest u_t_orders u_t_rowNumber u_t_ties (0 : Int32) r1.2.1 r1.2.2.1 r1.2.2.2.1 r_t_childRow r_t_classes r1.2.2.2.2.1 r1.2.2.2.2.2 r_t_wedsRow) H := hP
  have hD : va_D A (w_X12_child cI cB cZ a_t aX u_t_ahead u_t_length u_t_begins u_t_sort u_t_value u_t_letters u_t_word u_t_wrongAt u_t_laterFault u_t_laterPlace u_t_newClasses u_t_newLines u_t_turns u_t_shortest u_t_orders u_t_rowNumber u_t_ties (0 : Int32) r1.2.1 r1.2.2.1 r1.2.2.2.1 r_t_childRow r_t_classes r1.2.2.2.2.1 r1.2.2.2.2.2 r_t_wedsRow) := hD
  refine lv_if_eq (tgt := 43) hx hb dX12_child_9 (by decide) (fun c2 => ?_) (fun c2 => ?_)
  · replace hf := jif_t c2 hf
    refine lv_iconst (v := (-1 : Int32)) hx hb dX12_child_43 (by decide) ?_
    have ho := Option.some.inj hf
    subst ho
    exact K _ _ _ _ hP hS dX12_child_44
  · replace hf := jif_f c2 hf
    refine lv_iload_n hx hb dX12_child_12 rfl (lv_at hl 1 rfl) ?_
    refine lv_iconst (v := (0 : Int32)) hx hb dX12_child_13 (by decide) ?_
    refine lv_aload_n hx hb dX12_child_14 rfl (lv_at hl 0 rfl) ?_
    refine va_get (D := D) (ci := 11) (v := .int r1.2.1) (C := RX12) (T := TX12) (N := 74) hx hb hts iw_X12 hown hK hP 0 rfl rfl 31 (by decide) (hts _ (wG_in k_fl_X12_189 rfl)) (fun _ h9 => h9) rfl dX12_child_15 ?_
    refine lv_iconst (v := (1 : Int32)) hx hb dX12_child_18 (by decide) ?_
    refine lv_isub hx hb dX12_child_19 ?_
    obtain ⟨r3, hgr3, hf⟩ := jM_some hf
    refine jcS_i0 (As := [.int x1, .int (0 : Int32), .int (r1.2.1 - (1 : Int32))]) (rest := []) ⟨hx, hb, hml, hown, hts⟩ hK hN hA (c_X12_in l G D cI cB cZ x1 (0 : Int32) (r1.2.1 - (1 : Int32)) hgr3) (va_cwS 3 hts (wG_S k_ml_X12_231 k_st_X12_in k_in_X12 k_co_X12_in) rfl rfl rfl hd_X12_in.2 ⟨Nat.le_of_ble_eq_true rfl, Nat.le_of_ble_eq_true rfl⟩) hP hD hS [] rfl rfl rfl rfl hl.1 rfl (Nat.le_of_ble_eq_true rfl) dX12_child_20 ⟨Nat.le_of_ble_eq_true rfl, Nat.le_of_ble_eq_true rfl⟩ (fun H locs hP hD hS => ?_)
    refine lv_if_eq (tgt := 43) hx hb dX12_child_23 (by decide) (fun c4 => ?_) (fun c4 => ?_)
    · replace hf := jif_t c4 hf
      refine lv_iconst (v := (-1 : Int32)) hx hb dX12_child_43 (by decide) ?_
      have ho := Option.some.inj hf
      subst ho
      exact K _ _ _ _ hP hS dX12_child_44
    · replace hf := jif_f c4 hf
      refine lv_aload_n hx hb dX12_child_26 rfl (lv_at hl 0 rfl) ?_
      refine lv_iload_n hx hb dX12_child_27 rfl (lv_at hl 1 rfl) ?_
      refine lv_iload_n hx hb dX12_child_28 rfl (lv_at hl 2 rfl) ?_
      refine lv_if_eq (tgt := 36) hx hb dX12_child_29 (by decide) (fun c5 => ?_) (fun c5 => ?_)
      · replace hf := jif_t c5 hf
        refine lv_iconst (v := (1 : Int32)) hx hb dX12_child_36 (by decide) ?_
        exact t_X12_child_j37 G D cI cB cZ a_t aX u_t_ahead u_t_length u_t_begins u_t_sort u_t_value u_t_letters u_t_word u_t_wrongAt u_t_laterFault u_t_laterPlace u_t_newClasses u_t_newLines u_t_turns u_t_shortest u_t_orders u_t_rowNumber u_t_ties r_t_childRow r_t_classes r_t_wedsRow (0 : Int32) r1.2.1 r1.2.2.1 r1.2.2.2.1 r1.2.2.2.2.1 r1.2.2.2.2.2 x1 (1 : Int32) C hf K hP hD hS (lv_sub hl [] rfl)
      · replace hf := jif_f c5 hf
        refine lv_iconst (v := (0 : Int32)) hx hb dX12_child_32 (by decide) ?_
        refine lv_goto (tgt := 37) hx hb dX12_child_33 (by decide) ?_
        exact t_X12_child_j37 G D cI cB cZ a_t aX u_t_ahead u_t_length u_t_begins u_t_sort u_t_value u_t_letters u_t_word u_t_wrongAt u_t_laterFault u_t_laterPlace u_t_newClasses u_t_newLines u_t_turns u_t_shortest u_t_orders u_t_rowNumber u_t_ties r_t_childRow r_t_classes r_t_wedsRow (0 : Int32) r1.2.1 r1.2.2.1 r1.2.2.2.1 r1.2.2.2.2.1 r1.2.2.2.2.2 x1 (0 : Int32) C hf K hP hD hS (lv_sub hl [] rfl)
set_option maxHeartbeats 4000000 in
set_option maxRecDepth 100000 in
theorem c_X12_child (l : Launch) (G : jGt) (D : va_G) (cI cB cZ : ClassId) (a_t : Nat) (aX : Nat → Nat) (u_t_ahead u_t_length u_t_begins u_t_sort u_t_value u_t_letters : Int32) (u_t_word : Int64) (u_t_wrongAt u_t_laterFault u_t_laterPlace u_t_newClasses u_t_newLines u_t_turns u_t_shortest u_t_orders u_t_rowNumber u_t_ties : Int32) (r_t_childRow r_t_classes r_t_wedsRow : jA) (s_t_code s_t_n : Int32) (r_t_child r_t_childBack r_t_weds r_t_wedsBack : jA) (x1 x2 : Int32) {o : Int32 × Int32 × Int32 × jA × jA × jA × jA} (hf : f_X12_child r_t_childRow r_t_classes r_t_wedsRow s_t_code s_t_n r_t_child r_t_childBack r_t_weds r_t_wedsBack x1 x2 = some o) : jMi l yX12_child gX12_child rX12_child G D (jT cI cB cZ) [.ref a_t, .int x1, .int x2] (w_X12_child cI cB cZ a_t aX u_t_ahead u_t_length u_t_begins u_t_sort u_t_value u_t_letters u_t_word u_t_wrongAt u_t_laterFault u_t_laterPlace u_t_newClasses u_t_newLines u_t_turns u_t_shortest u_t_orders u_t_rowNumber u_t_ties s_t_code s_t_n r_t_child r_t_childBack r_t_childRow r_t_classes r_t_weds r_t_wedsBack r_t_wedsRow) (w_X12_child cI cB cZ a_t aX u_t_ahead u_t_length u_t_begins u_t_sort u_t_value u_t_letters u_t_word u_t_wrongAt u_t_laterFault u_t_laterPlace u_t_newClasses u_t_newLines u_t_turns u_t_shortest u_t_orders u_t_rowNumber u_t_ties o.2.1 o.2.2.1 o.2.2.2.1 o.2.2.2.2.1 r_t_childRow r_t_classes o.2.2.2.2.2.1 o.2.2.2.2.2.2 r_t_wedsRow) o.1 := by
  refine jmk_i RX12 rfl (by decide +kernel) rfl (Nat.le_of_ble_eq_true rfl) rfl ?_
  intro p e s m args below meth c ls A Q C hP hD hS hl K
  exact t_X12_child G D cI cB cZ a_t aX u_t_ahead u_t_length u_t_begins u_t_sort u_t_value u_t_letters u_t_word u_t_wrongAt u_t_laterFault u_t_laterPlace u_t_newClasses u_t_newLines u_t_turns u_t_shortest u_t_orders u_t_rowNumber u_t_ties r_t_childRow r_t_classes r_t_wedsRow s_t_code s_t_n r_t_child r_t_childBack r_t_weds r_t_wedsBack x1 x2 C hf K hP hD hS hl
abbrev rX12_self : Room := { frames := 0, cells := 0, slots := 0, locals := 0 }
abbrev gX12_self : List Cond := wG yX12_self cX12_self 3 (some .int)
def w_X12_self (cI cB cZ : ClassId) (a_t : Nat) (aX : Nat → Nat) (u_t_code u_t_ahead u_t_length u_t_begins u_t_sort u_t_value u_t_letters : Int32) (u_t_word : Int64) (u_t_wrongAt u_t_laterFault u_t_laterPlace u_t_newClasses u_t_newLines u_t_turns u_t_shortest u_t_orders u_t_rowNumber u_t_ties s_t_n : Int32) : va_W := [(a_t, .inr (11, (oX12 aX u_t_code s_t_n u_t_ahead u_t_length u_t_begins u_t_sort u_t_value u_t_letters u_t_word u_t_wrongAt u_t_laterFault u_t_laterPlace u_t_newClasses u_t_newLines u_t_turns u_t_shortest u_t_orders u_t_rowNumber u_t_ties)))]
def f_X12_self_b4 (s_t_n x1 x2 : Int32) : Option ((Int32 × Int32) ⊕ ((Int32))) :=
  if s_t_n ≤ x2 then
  some (Sum.inr x1)
  else
  jV (x1 ||| (x2 <<< (((3 : Int32) * x2) &&& 31))) fun v2 =>
  some (Sum.inl (v2, (x2 + 1)))
set_option maxHeartbeats 4000000 in
set_option maxRecDepth 100000 in
theorem t_X12_self_b4 {p : Program} {l : Launch} {e : Env} {s : State} {m : MethodId} {args : Array Value} {below : List Frame} {meth : Method} {c : Code} {A : Nat → Prop} {Q : State → Prop} (G : jGt) (D : va_G) (cI cB cZ : ClassId) (a_t : Nat) (aX : Nat → Nat) (u_t_code u_t_ahead u_t_length u_t_begins u_t_sort u_t_value u_t_letters : Int32) (u_t_word : Int64) (u_t_wrongAt u_t_laterFault u_t_laterPlace u_t_newClasses u_t_newLines u_t_turns u_t_shortest u_t_orders u_t_rowNumber u_t_ties s_t_n : Int32) (x1 x2 : Int32) (C : jCx p s m args c cX12_self 3 gX12_self RX12 G D (jT cI cB cZ) A) {o : (Int32 × Int32) ⊕ ((Int32))} (hf : f_X12_self_b4 s_t_n x1 x2 = some o) (K : (∀ z, o = Sum.inl z → ∀ (H : Heap) (locs : List Loc) (ls : Array Slot), va_P D vwCl (w_X12_self cI cB cZ a_t aX u_t_code u_t_ahead u_t_length u_t_begins u_t_sort u_t_value u_t_letters u_t_word u_t_wrongAt u_t_laterFault u_t_laterPlace u_t_newClasses u_t_newLines u_t_turns u_t_shortest u_t_orders u_t_rowNumber u_t_ties s_t_n) H → va_D A (w_X12_self cI cB cZ a_t aX u_t_code u_t_ahead u_t_length u_t_begins u_t_sort u_t_value u_t_letters u_t_word u_t_wrongAt u_t_laterFault u_t_laterPlace u_t_newClasses u_t_newLines u_t_turns u_t_shortest u_t_orders u_t_rowNumber u_t_ties s_t_n) → va_S A s.heap H locs → lv_has ls 3 [(0, .ref a_t), (1, .int z.1), (2, .int z.2)] → W p l e rX12_self s m args below meth c H locs 0 0 Q (F0 m 4 ls [])) ∧ (∀ z, o = Sum.inr z → ∀ (H : Heap) (locs : List Loc) (ls : Array Slot), va_P D vwCl (w_X12_self cI cB cZ a_t aX u_t_code u_t_ahead u_t_length u_t_begins u_t_sort u_t_value u_t_letters u_t_word u_t_wrongAt u_t_laterFault u_t_laterPlace u_t_newClasses u_t_newLines u_t_turns u_t_shortest u_t_orders u_t_rowNumber u_t_ties s_t_n) H → va_D A (w_X12_self cI cB cZ a_t aX u_t_code u_t_ahead u_t_length u_t_begins u_t_sort u_t_value u_t_letters u_t_word u_t_wrongAt u_t_laterFault u_t_laterPlace u_t_newClasses u_t_newLines u_t_turns u_t_shortest u_t_orders u_t_rowNumber u_t_ties s_t_n) → va_S A s.heap H locs → lv_has ls 3 [(1, .int z)] → W p l e rX12_self s m args below meth c H locs 0 0 Q (F0 m 26 ls []))) {H : Heap} {locs : List Loc} {ls : Array Slot} (hP : va_P D vwCl (w_X12_self cI cB cZ a_t aX u_t_code u_t_ahead u_t_length u_t_begins u_t_sort u_t_value u_t_letters u_t_word u_t_wrongAt u_t_laterFault u_t_laterPlace u_t_newClasses u_t_newLines u_t_turns u_t_shortest u_t_orders u_t_rowNumber u_t_ties s_t_n) H) (hD : va_D A (w_X12_self cI cB cZ a_t aX u_t_code u_t_ahead u_t_length u_t_begins u_t_sort u_t_value u_t_letters u_t_word u_t_wrongAt u_t_laterFault u_t_laterPlace u_t_newClasses u_t_newLines u_t_turns u_t_shortest u_t_orders u_t_rowNumber u_t_ties s_t_n)) (hS : va_S A s.heap H locs) (hl : lv_has ls 3 [(0, .ref a_t), (1, .int x1), (2, .int x2)]) : W p l e rX12_self s m args below meth c H locs 0 0 Q (F0 m 4 ls []) := by
  obtain ⟨⟨hx, hb, hml, hown, hts⟩, hK, hN, hA⟩ := C
  have C : jCx p s m args c cX12_self 3 gX12_self RX12 G D (jT cI cB cZ) A := ⟨⟨hx, hb, hml, hown, hts⟩, hK, hN, hA⟩
  unfold f_X12_self_b4 at hf
  refine lv_iload_n hx hb dX12_self_4 rfl (lv_at hl 2 rfl) ?_
  refine lv_aload_n hx hb dX12_self_5 rfl (lv_at hl 0 rfl) ?_
  refine va_get (D := D) (ci := 11) (v := .int s_t_n) (C := RX12) (T := TX12) (N := 74) hx hb hts iw_X12 hown hK hP 0 rfl rfl 31 (by decide) (hts _ (wG_in k_fl_X12_189 rfl)) (fun _ h9 => h9) rfl dX12_self_6 ?_
  refine lv_icmp_ge (tgt := 26) hx hb dX12_self_9 (by decide) (fun c1 => ?_) (fun c1 => ?_)
  · replace hf := jif_t c1 hf
    have ho := Option.some.inj hf
    exact (K.2 _ ho.symm) _ _ _ hP hD hS (lv_sub hl [1] rfl)
  · replace hf := jif_f c1 hf
    refine lv_iload_n hx hb dX12_self_12 rfl (lv_at hl 1 rfl) ?_
    refine lv_iload_n hx hb dX12_self_13 rfl (lv_at hl 2 rfl) ?_
    refine lv_iconst (v := (3 : Int32)) hx hb dX12_self_14 (by decide) ?_
    refine lv_iload_n hx hb dX12_self_15 rfl (lv_at hl 2 rfl) ?_
    refine lv_imul hx hb dX12_self_16 ?_
    refine lv_ishl hx hb dX12_self_17 ?_
    refine lv_ior hx hb dX12_self_18 ?_
    obtain ⟨v2, hv2, hf⟩ := jV_some hf
    refine jtop hv2 ?_
    refine lv_istore_n (lv' := [(1, .int v2), (0, .ref a_t), (2, .int x2)]) hx hb dX12_self_19 rfl hl (by decide) rfl (fun ls hl => ?_)
    refine lv_iinc (v := (x2 + 1)) (lv' := [(2, .int (x2 + 1)), (1, .int v2), (0, .ref a_t)]) hx hb dX12_self_20 hl (k := 2) rfl (by first | rfl | decide) (by decide) rfl (fun ls hl => ?_)
    refine lv_goto (tgt := 4) hx hb dX12_self_23 (by decide) ?_
    have ho := Option.some.inj hf
    exact K.1 _ ho.symm _ _ _ hP hD hS (lv_sub hl [2, 1, 0] rfl)
def f_X12_self_l4 (s_t_n x1 x2 : Int32) : Option ((Int32)) :=
  jI (fun z => f_X12_self_b4 s_t_n z.1 z.2) jF (x1, x2)
set_option maxHeartbeats 4000000 in
set_option maxRecDepth 100000 in
theorem t_X12_self_l4 {p : Program} {l : Launch} {e : Env} {s : State} {m : MethodId} {args : Array Value} {below : List Frame} {meth : Method} {c : Code} {A : Nat → Prop} {Q : State → Prop} (G : jGt) (D : va_G) (cI cB cZ : ClassId) (a_t : Nat) (aX : Nat → Nat) (u_t_code u_t_ahead u_t_length u_t_begins u_t_sort u_t_value u_t_letters : Int32) (u_t_word : Int64) (u_t_wrongAt u_t_laterFault u_t_laterPlace u_t_newClasses u_t_newLines u_t_turns u_t_shortest u_t_orders u_t_rowNumber u_t_ties s_t_n : Int32)  (C : jCx p s m args c cX12_self 3 gX12_self RX12 G D (jT cI cB cZ) A) : ∀ (n : Nat) (x1 x2 : Int32) {eo : (Int32)}, jI (fun z => f_X12_self_b4 s_t_n z.1 z.2) n (x1, x2) = some eo → (∀ (H : Heap) (locs : List Loc) (ls : Array Slot), va_P D vwCl (w_X12_self cI cB cZ a_t aX u_t_code u_t_ahead u_t_length u_t_begins u_t_sort u_t_value u_t_letters u_t_word u_t_wrongAt u_t_laterFault u_t_laterPlace u_t_newClasses u_t_newLines u_t_turns u_t_shortest u_t_orders u_t_rowNumber u_t_ties s_t_n) H → va_D A (w_X12_self cI cB cZ a_t aX u_t_code u_t_ahead u_t_length u_t_begins u_t_sort u_t_value u_t_letters u_t_word u_t_wrongAt u_t_laterFault u_t_laterPlace u_t_newClasses u_t_newLines u_t_turns u_t_shortest u_t_orders u_t_rowNumber u_t_ties s_t_n) → va_S A s.heap H locs → lv_has ls 3 [(1, .int eo)] → W p l e rX12_self s m args below meth c H locs 0 0 Q (F0 m 26 ls [])) → ∀ (H : Heap) (locs : List Loc) (ls : Array Slot), va_P D vwCl (w_X12_self cI cB cZ a_t aX u_t_code u_t_ahead u_t_length u_t_begins u_t_sort u_t_value u_t_letters u_t_word u_t_wrongAt u_t_laterFault u_t_laterPlace u_t_newClasses u_t_newLines u_t_turns u_t_shortest u_t_orders u_t_rowNumber u_t_ties s_t_n) H → va_D A (w_X12_self cI cB cZ a_t aX u_t_code u_t_ahead u_t_length u_t_begins u_t_sort u_t_value u_t_letters u_t_word u_t_wrongAt u_t_laterFault u_t_laterPlace u_t_newClasses u_t_newLines u_t_turns u_t_shortest u_t_orders u_t_rowNumber u_t_ties s_t_n) → va_S A s.heap H locs → lv_has ls 3 [(0, .ref a_t), (1, .int x1), (2, .int x2)] → W p l e rX12_self s m args below meth c H locs 0 0 Q (F0 m 4 ls []) := by
  intro n
  induction n with
  | zero =>
    intro x1 x2 eo hf
    exact (jI_zero hf).elim
  | succ n ih =>
    intro x1 x2 eo hf K H locs ls hP hD hS hl
    obtain ⟨o, hb1, ho⟩ := jI_some hf
    rcases ho with ⟨z, rfl, hf2⟩ | rfl
    · exact t_X12_self_b4 G D cI cB cZ a_t aX u_t_code u_t_ahead u_t_length u_t_begins u_t_sort u_t_value u_t_letters u_t_word u_t_wrongAt u_t_laterFault u_t_laterPlace u_t_newClasses u_t_newLines u_t_turns u_t_shortest u_t_orders u_t_rowNumber u_t_ties s_t_n x1 x2 C hb1 ⟨fun z2 hz H locs ls hP hD hS hl => by cases hz; exact ih z.1 z.2 hf2 K H locs ls hP hD hS hl, fun z2 hz => by cases hz⟩ hP hD hS hl
    · exact t_X12_self_b4 G D cI cB cZ a_t aX u_t_code u_t_ahead u_t_length u_t_begins u_t_sort u_t_value u_t_letters u_t_word u_t_wrongAt u_t_laterFault u_t_laterPlace u_t_newClasses u_t_newLines u_t_turns u_t_shortest u_t_orders u_t_rowNumber u_t_ties s_t_n x1 x2 C hb1 ⟨fun z2 hz => (by cases hz), fun z2 hz => by cases hz; exact K⟩ hP hD hS hl
def f_X12_self (s_t_n : Int32) : Option (Int32) :=
  jM (f_X12_self_l4 s_t_n (0 : Int32) (0 : Int32)) fun e3 =>
  some e3
set_option maxHeartbeats 4000000 in
set_option maxRecDepth 100000 in
theorem t_X12_self {p : Program} {l : Launch} {e : Env} {s : State} {m : MethodId} {args : Array Value} {below : List Frame} {meth : Method} {c : Code} {A : Nat → Prop} {Q : State → Prop} (G : jGt) (D : va_G) (cI cB cZ : ClassId) (a_t : Nat) (aX : Nat → Nat) (u_t_code u_t_ahead u_t_length u_t_begins u_t_sort u_t_value u_t_letters : Int32) (u_t_word : Int64) (u_t_wrongAt u_t_laterFault u_t_laterPlace u_t_newClasses u_t_newLines u_t_turns u_t_shortest u_t_orders u_t_rowNumber u_t_ties s_t_n : Int32)  (C : jCx p s m args c cX12_self 3 gX12_self RX12 G D (jT cI cB cZ) A) {o : Int32} (hf : f_X12_self s_t_n = some o) (K : ∀ (H : Heap) (locs : List Loc) (pc : Nat) (ls : Array Slot), va_P D vwCl (w_X12_self cI cB cZ a_t aX u_t_code u_t_ahead u_t_length u_t_begins u_t_sort u_t_value u_t_letters u_t_word u_t_wrongAt u_t_laterFault u_t_laterPlace u_t_newClasses u_t_newLines u_t_turns u_t_shortest u_t_orders u_t_rowNumber u_t_ties s_t_n) H → va_S A s.heap H locs → decode cX12_self pc = .ok (.ireturn, 1) → W p l e rX12_self s m args below meth c H locs 0 0 Q (F0 m pc ls [.int o])) {H : Heap} {locs : List Loc} {ls : Array Slot} (hP : va_P D vwCl (w_X12_self cI cB cZ a_t aX u_t_code u_t_ahead u_t_length u_t_begins u_t_sort u_t_value u_t_letters u_t_word u_t_wrongAt u_t_laterFault u_t_laterPlace u_t_newClasses u_t_newLines u_t_turns u_t_shortest u_t_orders u_t_rowNumber u_t_ties s_t_n) H) (hD : va_D A (w_X12_self cI cB cZ a_t aX u_t_code u_t_ahead u_t_length u_t_begins u_t_sort u_t_value u_t_letters u_t_word u_t_wrongAt u_t_laterFault u_t_laterPlace u_t_newClasses u_t_newLines u_t_turns u_t_shortest u_t_orders u_t_rowNumber u_t_ties s_t_n)) (hS : va_S A s.heap H locs) (hl : lv_has ls 3 [(0, .ref a_t)]) : W p l e rX12_self s m args below meth c H locs 0 0 Q (F0 m 0 ls []) := by
  obtain ⟨⟨hx, hb, hml, hown, hts⟩, hK, hN, hA⟩ := C
  have C : jCx p s m args c cX12_self 3 gX12_self RX12 G D (jT cI cB cZ) A := ⟨⟨hx, hb, hml, hown, hts⟩, hK, hN, hA⟩
  unfold f_X12_self at hf
  refine lv_iconst (v := (0 : Int32)) hx hb dX12_self_0 (by decide) ?_
  refine lv_istore_n (lv' := [(1, .int (0 : Int32)), (0, .ref a_t)]) hx hb dX12_self_1 rfl hl (by decide) rfl (fun ls hl => ?_)
  refine lv_iconst (v := (0 : Int32)) hx hb dX12_self_2 (by decide) ?_
  refine lv_istore_n (lv' := [(2, .int (0 : Int32)), (1, .int (0 : Int32)), (0, .ref a_t)]) hx hb dX12_self_3 rfl hl (by decide) rfl (fun ls hl => ?_)
  obtain ⟨e3, hg3, hf⟩ := jM_some hf
  refine t_X12_self_l4 G D cI cB cZ a_t aX u_t_code u_t_ahead u_t_length u_t_begins u_t_sort u_t_value u_t_letters u_t_word u_t_wrongAt u_t_laterFault u_t_laterPlace u_t_newClasses u_t_newLines u_t_turns u_t_shortest u_t_orders u_t_rowNumber u_t_ties s_t_n  C jF (0 : Int32) (0 : Int32) hg3 ?_ _ _ _ hP hD hS (lv_sub hl [2, 1, 0] rfl)
  intro H locs ls hP hD hS hl
  refine lv_iload_n hx hb dX12_self_26 rfl (lv_at hl 0 rfl) ?_
  have ho := Option.some.inj hf
  subst ho
  exact K _ _ _ _ hP hS dX12_self_27
set_option maxHeartbeats 4000000 in
set_option maxRecDepth 100000 in
theorem c_X12_self (l : Launch) (G : jGt) (D : va_G) (cI cB cZ : ClassId) (a_t : Nat) (aX : Nat → Nat) (u_t_code u_t_ahead u_t_length u_t_begins u_t_sort u_t_value u_t_letters : Int32) (u_t_word : Int64) (u_t_wrongAt u_t_laterFault u_t_laterPlace u_t_newClasses u_t_newLines u_t_turns u_t_shortest u_t_orders u_t_rowNumber u_t_ties s_t_n : Int32)  {o : Int32} (hf : f_X12_self s_t_n = some o) : jMi l yX12_self gX12_self rX12_self G D (jT cI cB cZ) [.ref a_t] (w_X12_self cI cB cZ a_t aX u_t_code u_t_ahead u_t_length u_t_begins u_t_sort u_t_value u_t_letters u_t_word u_t_wrongAt u_t_laterFault u_t_laterPlace u_t_newClasses u_t_newLines u_t_turns u_t_shortest u_t_orders u_t_rowNumber u_t_ties s_t_n) (w_X12_self cI cB cZ a_t aX u_t_code u_t_ahead u_t_length u_t_begins u_t_sort u_t_value u_t_letters u_t_word u_t_wrongAt u_t_laterFault u_t_laterPlace u_t_newClasses u_t_newLines u_t_turns u_t_shortest u_t_orders u_t_rowNumber u_t_ties s_t_n) o := by
  refine jmk_i RX12 rfl (by decide +kernel) rfl (Nat.le_of_ble_eq_true rfl) rfl ?_
  intro p e s m args below meth c ls A Q C hP hD hS hl K
  exact t_X12_self G D cI cB cZ a_t aX u_t_code u_t_ahead u_t_length u_t_begins u_t_sort u_t_value u_t_letters u_t_word u_t_wrongAt u_t_laterFault u_t_laterPlace u_t_newClasses u_t_newLines u_t_turns u_t_shortest u_t_orders u_t_rowNumber u_t_ties s_t_n  C hf K hP hD hS hl
abbrev rX12_at : Room := { frames := 0, cells := 0, slots := 0, locals := 0 }
abbrev gX12_at : List Cond := wG yX12_at cX12_at 3 (some .int)
def w_X12_at (cI cB cZ : ClassId) (a_t : Nat) (aX : Nat → Nat) (u_t_code u_t_n u_t_ahead u_t_length u_t_begins u_t_sort u_t_value u_t_letters : Int32) (u_t_word : Int64) (u_t_wrongAt u_t_laterFault u_t_laterPlace u_t_newClasses u_t_newLines u_t_turns u_t_shortest u_t_orders u_t_rowNumber u_t_ties : Int32) : va_W := [(a_t, .inr (11, (oX12 aX u_t_code u_t_n u_t_ahead u_t_length u_t_begins u_t_sort u_t_value u_t_letters u_t_word u_t_wrongAt u_t_laterFault u_t_laterPlace u_t_newClasses u_t_newLines u_t_turns u_t_shortest u_t_orders u_t_rowNumber u_t_ties)))]
def f_X12_at (x1 x2 : Int32) : Option (Int32) :=
  some ((x1 >>> (((3 : Int32) * x2) &&& 31)) &&& (7 : Int32))
set_option maxHeartbeats 4000000 in
set_option maxRecDepth 100000 in
theorem t_X12_at {p : Program} {l : Launch} {e : Env} {s : State} {m : MethodId} {args : Array Value} {below : List Frame} {meth : Method} {c : Code} {A : Nat → Prop} {Q : State → Prop} (G : jGt) (D : va_G) (cI cB cZ : ClassId) (a_t : Nat) (aX : Nat → Nat) (u_t_code u_t_n u_t_ahead u_t_length u_t_begins u_t_sort u_t_value u_t_letters : Int32) (u_t_word : Int64) (u_t_wrongAt u_t_laterFault u_t_laterPlace u_t_newClasses u_t_newLines u_t_turns u_t_shortest u_t_orders u_t_rowNumber u_t_ties : Int32) (x1 x2 : Int32) (C : jCx p s m args c cX12_at 3 gX12_at RX12 G D (jT cI cB cZ) A) {o : Int32} (hf : f_X12_at x1 x2 = some o) (K : ∀ (H : Heap) (locs : List Loc) (pc : Nat) (ls : Array Slot), va_P D vwCl (w_X12_at cI cB cZ a_t aX u_t_code u_t_n u_t_ahead u_t_length u_t_begins u_t_sort u_t_value u_t_letters u_t_word u_t_wrongAt u_t_laterFault u_t_laterPlace u_t_newClasses u_t_newLines u_t_turns u_t_shortest u_t_orders u_t_rowNumber u_t_ties) H → va_S A s.heap H locs → decode cX12_at pc = .ok (.ireturn, 1) → W p l e rX12_at s m args below meth c H locs 0 0 Q (F0 m pc ls [.int o])) {H : Heap} {locs : List Loc} {ls : Array Slot} (hP : va_P D vwCl (w_X12_at cI cB cZ a_t aX u_t_code u_t_n u_t_ahead u_t_length u_t_begins u_t_sort u_t_value u_t_letters u_t_word u_t_wrongAt u_t_laterFault u_t_laterPlace u_t_newClasses u_t_newLines u_t_turns u_t_shortest u_t_orders u_t_rowNumber u_t_ties) H) (hD : va_D A (w_X12_at cI cB cZ a_t aX u_t_code u_t_n u_t_ahead u_t_length u_t_begins u_t_sort u_t_value u_t_letters u_t_word u_t_wrongAt u_t_laterFault u_t_laterPlace u_t_newClasses u_t_newLines u_t_turns u_t_shortest u_t_orders u_t_rowNumber u_t_ties)) (hS : va_S A s.heap H locs) (hl : lv_has ls 3 [(0, .ref a_t), (1, .int x1), (2, .int x2)]) : W p l e rX12_at s m args below meth c H locs 0 0 Q (F0 m 0 ls []) := by
  obtain ⟨⟨hx, hb, hml, hown, hts⟩, hK, hN, hA⟩ := C
  have C : jCx p s m args c cX12_at 3 gX12_at RX12 G D (jT cI cB cZ) A := ⟨⟨hx, hb, hml, hown, hts⟩, hK, hN, hA⟩
  unfold f_X12_at at hf
  refine lv_iload_n hx hb dX12_at_0 rfl (lv_at hl 1 rfl) ?_
  refine lv_iconst (v := (3 : Int32)) hx hb dX12_at_1 (by decide) ?_
  refine lv_iload_n hx hb dX12_at_2 rfl (lv_at hl 2 rfl) ?_
  refine lv_imul hx hb dX12_at_3 ?_
  refine lv_ishr hx hb dX12_at_4 ?_
  refine lv_bipush (v := (7 : Int32)) hx hb dX12_at_5 (by decide) ?_
  refine lv_iand hx hb dX12_at_7 ?_
  have ho := Option.some.inj hf
  subst ho
  exact K _ _ _ _ hP hS dX12_at_8
set_option maxHeartbeats 4000000 in
set_option maxRecDepth 100000 in
theorem c_X12_at (l : Launch) (G : jGt) (D : va_G) (cI cB cZ : ClassId) (a_t : Nat) (aX : Nat → Nat) (u_t_code u_t_n u_t_ahead u_t_length u_t_begins u_t_sort u_t_value u_t_letters : Int32) (u_t_word : Int64) (u_t_wrongAt u_t_laterFault u_t_laterPlace u_t_newClasses u_t_newLines u_t_turns u_t_shortest u_t_orders u_t_rowNumber u_t_ties : Int32) (x1 x2 : Int32) {o : Int32} (hf : f_X12_at x1 x2 = some o) : jMi l yX12_at gX12_at rX12_at G D (jT cI cB cZ) [.ref a_t, .int x1, .int x2] (w_X12_at cI cB cZ a_t aX u_t_code u_t_n u_t_ahead u_t_length u_t_begins u_t_sort u_t_value u_t_letters u_t_word u_t_wrongAt u_t_laterFault u_t_laterPlace u_t_newClasses u_t_newLines u_t_turns u_t_shortest u_t_orders u_t_rowNumber u_t_ties) (w_X12_at cI cB cZ a_t aX u_t_code u_t_n u_t_ahead u_t_length u_t_begins u_t_sort u_t_value u_t_letters u_t_word u_t_wrongAt u_t_laterFault u_t_laterPlace u_t_newClasses u_t_newLines u_t_turns u_t_shortest u_t_orders u_t_rowNumber u_t_ties) o := by
  refine jmk_i RX12 rfl (by decide +kernel) rfl (Nat.le_of_ble_eq_true rfl) rfl ?_
  intro p e s m args below meth c ls A Q C hP hD hS hl K
  exact t_X12_at G D cI cB cZ a_t aX u_t_code u_t_n u_t_ahead u_t_length u_t_begins u_t_sort u_t_value u_t_letters u_t_word u_t_wrongAt u_t_laterFault u_t_laterPlace u_t_newClasses u_t_newLines u_t_turns u_t_shortest u_t_orders u_t_rowNumber u_t_ties x1 x2 C hf K hP hD hS hl
abbrev rX12_behind : Room := { frames := 1, cells := 0, slots := 0, locals := 22 }
abbrev gX12_behind : List Cond := wG yX12_behind cX12_behind 5 (some .int)
def w_X12_behind (cI cB cZ : ClassId) (a_p1 a_t : Nat) (aX : Nat → Nat) (u_t_code u_t_ahead u_t_length u_t_begins u_t_sort u_t_value u_t_letters : Int32) (u_t_word : Int64) (u_t_wrongAt u_t_laterFault u_t_laterPlace u_t_newClasses u_t_newLines u_t_turns u_t_shortest u_t_orders u_t_rowNumber u_t_ties : Int32) (r_p1 : jA) (s_t_n : Int32) : va_W := [(a_p1, .inl (cI, r_p1.1, .inl r_p1.2)), (a_t, .inr (11, (oX12 aX u_t_code s_t_n u_t_ahead u_t_length u_t_begins u_t_sort u_t_value u_t_letters u_t_word u_t_wrongAt u_t_laterFault u_t_laterPlace u_t_newClasses u_t_newLines u_t_turns u_t_shortest u_t_orders u_t_rowNumber u_t_ties)))]
def f_X12_behind_b5 (r_p1 : jA) (s_t_n x1 x3 x4 : Int32) : Option ((Int32 × Int32) ⊕ ((Int32))) :=
  if s_t_n ≤ x4 then
  some (Sum.inr x3)
  else
  jM (f_X12_at x1 x4) fun r2 =>
  jL r_p1 r2 fun v3 =>
  jV (x3 ||| (v3 <<< (((3 : Int32) * x4) &&& 31))) fun v4 =>
  some (Sum.inl (v4, (x4 + 1)))
set_option maxHeartbeats 4000000 in
set_option maxRecDepth 100000 in
theorem t_X12_behind_b5 {p : Program} {l : Launch} {e : Env} {s : State} {m : MethodId} {args : Array Value} {below : List Frame} {meth : Method} {c : Code} {A : Nat → Prop} {Q : State → Prop} (G : jGt) (D : va_G) (cI cB cZ : ClassId) (a_p1 a_t : Nat) (aX : Nat → Nat) (u_t_code u_t_ahead u_t_length u_t_begins u_t_sort u_t_value u_t_letters : Int32) (u_t_word : Int64) (u_t_wrongAt u_t_laterFault u_t_laterPlace u_t_newClasses u_t_newLines u_t_turns u_t_shortest u_t_orders u_t_rowNumber u_t_ties : Int32) (r_p1 : jA) (s_t_n : Int32) (x1 x3 x4 : Int32) (C : jCx p s m args c cX12_behind 5 gX12_behind RX12 G D (jT cI cB cZ) A) {o : (Int32 × Int32) ⊕ ((Int32))} (hf : f_X12_behind_b5 r_p1 s_t_n x1 x3 x4 = some o) (K : (∀ z, o = Sum.inl z → ∀ (H : Heap) (locs : List Loc) (ls : Array Slot), va_P D vwCl (w_X12_behind cI cB cZ a_p1 a_t aX u_t_code u_t_ahead u_t_length u_t_begins u_t_sort u_t_value u_t_letters u_t_word u_t_wrongAt u_t_laterFault u_t_laterPlace u_t_newClasses u_t_newLines u_t_turns u_t_shortest u_t_orders u_t_rowNumber u_t_ties r_p1 s_t_n) H → va_D A (w_X12_behind cI cB cZ a_p1 a_t aX u_t_code u_t_ahead u_t_length u_t_begins u_t_sort u_t_value u_t_letters u_t_word u_t_wrongAt u_t_laterFault u_t_laterPlace u_t_newClasses u_t_newLines u_t_turns u_t_shortest u_t_orders u_t_rowNumber u_t_ties r_p1 s_t_n) → va_S A s.heap H locs → lv_has ls 5 [(0, .ref a_t), (1, .int x1), (2, .ref a_p1), (3, .int z.1), (4, .int z.2)] → W p l e rX12_behind s m args below meth c H locs 0 0 Q (F0 m 5 ls [])) ∧ (∀ z, o = Sum.inr z → ∀ (H : Heap) (locs : List Loc) (ls : Array Slot), va_P D vwCl (w_X12_behind cI cB cZ a_p1 a_t aX u_t_code u_t_ahead u_t_length u_t_begins u_t_sort u_t_value u_t_letters u_t_word u_t_wrongAt u_t_laterFault u_t_laterPlace u_t_newClasses u_t_newLines u_t_turns u_t_shortest u_t_orders u_t_rowNumber u_t_ties r_p1 s_t_n) H → va_D A (w_X12_behind cI cB cZ a_p1 a_t aX u_t_code u_t_ahead u_t_length u_t_begins u_t_sort u_t_value u_t_letters u_t_word u_t_wrongAt u_t_laterFault u_t_laterPlace u_t_newClasses u_t_newLines u_t_turns u_t_shortest u_t_orders u_t_rowNumber u_t_ties r_p1 s_t_n) → va_S A s.heap H locs → lv_has ls 5 [(3, .int z)] → W p l e rX12_behind s m args below meth c H locs 0 0 Q (F0 m 37 ls []))) {H : Heap} {locs : List Loc} {ls : Array Slot} (hP : va_P D vwCl (w_X12_behind cI cB cZ a_p1 a_t aX u_t_code u_t_ahead u_t_length u_t_begins u_t_sort u_t_value u_t_letters u_t_word u_t_wrongAt u_t_laterFault u_t_laterPlace u_t_newClasses u_t_newLines u_t_turns u_t_shortest u_t_orders u_t_rowNumber u_t_ties r_p1 s_t_n) H) (hD : va_D A (w_X12_behind cI cB cZ a_p1 a_t aX u_t_code u_t_ahead u_t_length u_t_begins u_t_sort u_t_value u_t_letters u_t_word u_t_wrongAt u_t_laterFault u_t_laterPlace u_t_newClasses u_t_newLines u_t_turns u_t_shortest u_t_orders u_t_rowNumber u_t_ties r_p1 s_t_n)) (hS : va_S A s.heap H locs) (hl : lv_has ls 5 [(0, .ref a_t), (1, .int x1), (2, .ref a_p1), (3, .int x3), (4, .int x4)]) : W p l e rX12_behind s m args below meth c H locs 0 0 Q (F0 m 5 ls []) := by
  obtain ⟨⟨hx, hb, hml, hown, hts⟩, hK, hN, hA⟩ := C
  have C : jCx p s m args c cX12_behind 5 gX12_behind RX12 G D (jT cI cB cZ) A := ⟨⟨hx, hb, hml, hown, hts⟩, hK, hN, hA⟩
  unfold f_X12_behind_b5 at hf
  refine lv_iload hx hb dX12_behind_5 (lv_at hl 4 rfl) ?_
  refine lv_aload_n hx hb dX12_behind_7 rfl (lv_at hl 0 rfl) ?_
  refine va_get (D := D) (ci := 11) (v := .int s_t_n) (C := RX12) (T := TX12) (N := 74) hx hb hts iw_X12 hown hK hP 1 rfl rfl 31 (by decide) (hts _ (wG_in k_fl_X12_189 rfl)) (fun _ h9 => h9) rfl dX12_behind_8 ?_
  refine lv_icmp_ge (tgt := 37) hx hb dX12_behind_11 (by decide) (fun c1 => ?_) (fun c1 => ?_)
  · replace hf := jif_t c1 hf
    have ho := Option.some.inj hf
    exact (K.2 _ ho.symm) _ _ _ hP hD hS (lv_sub hl [3] rfl)
  · replace hf := jif_f c1 hf
    refine lv_iload_n hx hb dX12_behind_14 rfl (lv_at hl 3 rfl) ?_
    refine lv_aload_n hx hb dX12_behind_15 rfl (lv_at hl 2 rfl) ?_
    refine lv_aload_n hx hb dX12_behind_16 rfl (lv_at hl 0 rfl) ?_
    refine lv_iload_n hx hb dX12_behind_17 rfl (lv_at hl 1 rfl) ?_
    refine lv_iload hx hb dX12_behind_18 (lv_at hl 4 rfl) ?_
    obtain ⟨r2, hgr2, hf⟩ := jM_some hf
    refine jcV_i0 (As := [.int x1, .int x4]) (rest := [.ref a_p1, .int x3]) ⟨hx, hb, hml, hown, hts⟩ hK hN hA (c_X12_at l G D cI cB cZ a_t aX u_t_code s_t_n u_t_ahead u_t_length u_t_begins u_t_sort u_t_value u_t_letters u_t_word u_t_wrongAt u_t_laterFault u_t_laterPlace u_t_newClasses u_t_newLines u_t_turns u_t_shortest u_t_orders u_t_rowNumber u_t_ties x1 x4 hgr2) (cwV 2 hts (wG_V k_ml_X12_365 k_im_X12_at k_se_X12_at k_in_X12 k_co_X12_at) rfl rfl rfl hd_X12_at ⟨Nat.le_of_ble_eq_true rfl, Nat.le_of_ble_eq_true rfl⟩) hP hD hS [1] rfl rfl rfl (ci := 11) rfl 1 rfl rfl rfl hl.1 rfl (Nat.le_of_ble_eq_true rfl) dX12_behind_20 ⟨Nat.le_of_ble_eq_true rfl, Nat.le_of_ble_eq_true rfl⟩ (fun H locs hP hD hS => ?_)
    obtain ⟨v3, hv3, iv3, hf⟩ := jL_some hf
    refine ja_iald (P := r_p1) hx hb hK hP 0 0 rfl rfl hv3 iv3 dX12_behind_23 ?_
    refine lv_iconst (v := (3 : Int32)) hx hb dX12_behind_24 (by decide) ?_
    refine lv_iload hx hb dX12_behind_25 (lv_at hl 4 rfl) ?_
    refine lv_imul hx hb dX12_behind_27 ?_
    refine lv_ishl hx hb dX12_behind_28 ?_
    refine lv_ior hx hb dX12_behind_29 ?_
    obtain ⟨v4, hv4, hf⟩ := jV_some hf
    refine jtop hv4 ?_
    refine lv_istore_n (lv' := [(3, .int v4), (0, .ref a_t), (1, .int x1), (2, .ref a_p1), (4, .int x4)]) hx hb dX12_behind_30 rfl hl (by decide) rfl (fun ls hl => ?_)
    refine lv_iinc (v := (x4 + 1)) (lv' := [(4, .int (x4 + 1)), (3, .int v4), (0, .ref a_t), (1, .int x1), (2, .ref a_p1)]) hx hb dX12_behind_31 hl (k := 4) rfl (by first | rfl | decide) (by decide) rfl (fun ls hl => ?_)
    refine lv_goto (tgt := 5) hx hb dX12_behind_34 (by decide) ?_
    have ho := Option.some.inj hf
    exact K.1 _ ho.symm _ _ _ hP hD hS (lv_sub hl [2, 3, 4, 1, 0] rfl)
def f_X12_behind_l5 (r_p1 : jA) (s_t_n x1 x3 x4 : Int32) : Option ((Int32)) :=
  jI (fun z => f_X12_behind_b5 r_p1 s_t_n x1 z.1 z.2) jF (x3, x4)
set_option maxHeartbeats 4000000 in
set_option maxRecDepth 100000 in
theorem t_X12_behind_l5 {p : Program} {l : Launch} {e : Env} {s : State} {m : MethodId} {args : Array Value} {below : List Frame} {meth : Method} {c : Code} {A : Nat → Prop} {Q : State → Prop} (G : jGt) (D : va_G) (cI cB cZ : ClassId) (a_p1 a_t : Nat) (aX : Nat → Nat) (u_t_code u_t_ahead u_t_length u_t_begins u_t_sort u_t_value u_t_letters : Int32) (u_t_word : Int64) (u_t_wrongAt u_t_laterFault u_t_laterPlace u_t_newClasses u_t_newLines u_t_turns u_t_shortest u_t_orders u_t_rowNumber u_t_ties : Int32) (r_p1 : jA) (s_t_n : Int32) (x1 : Int32) (C : jCx p s m args c cX12_behind 5 gX12_behind RX12 G D (jT cI cB cZ) A) : ∀ (n : Nat) (x3 x4 : Int32) {eo : (Int32)}, jI (fun z => f_X12_behind_b5 r_p1 s_t_n x1 z.1 z.2) n (x3, x4) = some eo → (∀ (H : Heap) (locs : List Loc) (ls : Array Slot), va_P D vwCl (w_X12_behind cI cB cZ a_p1 a_t aX u_t_code u_t_ahead u_t_length u_t_begins u_t_sort u_t_value u_t_letters u_t_word u_t_wrongAt u_t_laterFault u_t_laterPlace u_t_newClasses u_t_newLines u_t_turns u_t_shortest u_t_orders u_t_rowNumber u_t_ties r_p1 s_t_n) H → va_D A (w_X12_behind cI cB cZ a_p1 a_t aX u_t_code u_t_ahead u_t_length u_t_begins u_t_sort u_t_value u_t_letters u_t_word u_t_wrongAt u_t_laterFault u_t_laterPlace u_t_newClasses u_t_newLines u_t_turns u_t_shortest u_t_orders u_t_rowNumber u_t_ties r_p1 s_t_n) → va_S A s.heap H locs → lv_has ls 5 [(3, .int eo)] → W p l e rX12_behind s m args below meth c H locs 0 0 Q (F0 m 37 ls [])) → ∀ (H : Heap) (locs : List Loc) (ls : Array Slot), va_P D vwCl (w_X12_behind cI cB cZ a_p1 a_t aX u_t_code u_t_ahead u_t_length u_t_begins u_t_sort u_t_value u_t_letters u_t_word u_t_wrongAt u_t_laterFault u_t_laterPlace u_t_newClasses u_t_newLines u_t_turns u_t_shortest u_t_orders u_t_rowNumber u_t_ties r_p1 s_t_n) H → va_D A (w_X12_behind cI cB cZ a_p1 a_t aX u_t_code u_t_ahead u_t_length u_t_begins u_t_sort u_t_value u_t_letters u_t_word u_t_wrongAt u_t_laterFault u_t_laterPlace u_t_newClasses u_t_newLines u_t_turns u_t_shortest u_t_orders u_t_rowNumber u_t_ties r_p1 s_t_n) → va_S A s.heap H locs → lv_has ls 5 [(0, .ref a_t), (1, .int x1), (2, .ref a_p1), (3, .int x3), (4, .int x4)] → W p l e rX12_behind s m args below meth c H locs 0 0 Q (F0 m 5 ls []) := by
  intro n
  induction n with
  | zero =>
    intro x3 x4 eo hf
    exact (jI_zero hf).elim
  | succ n ih =>
    intro x3 x4 eo hf K H locs ls hP hD hS hl
    obtain ⟨o, hb1, ho⟩ := jI_some hf
    rcases ho with ⟨z, rfl, hf2⟩ | rfl
    · exact t_X12_behind_b5 G D cI cB cZ a_p1 a_t aX u_t_code u_t_ahead u_t_length u_t_begins u_t_sort u_t_value u_t_letters u_t_word u_t_wrongAt u_t_laterFault u_t_laterPlace u_t_newClasses u_t_newLines u_t_turns u_t_shortest u_t_orders u_t_rowNumber u_t_ties r_p1 s_t_n x1 x3 x4 C hb1 ⟨fun z2 hz H locs ls hP hD hS hl => by cases hz; exact ih z.1 z.2 hf2 K H locs ls hP hD hS hl, fun z2 hz => by cases hz⟩ hP hD hS hl
    · exact t_X12_behind_b5 G D cI cB cZ a_p1 a_t aX u_t_code u_t_ahead u_t_length u_t_begins u_t_sort u_t_value u_t_letters u_t_word u_t_wrongAt u_t_laterFault u_t_laterPlace u_t_newClasses u_t_newLines u_t_turns u_t_shortest u_t_orders u_t_rowNumber u_t_ties r_p1 s_t_n x1 x3 x4 C hb1 ⟨fun z2 hz => (by cases hz), fun z2 hz => by cases hz; exact K⟩ hP hD hS hl
def f_X12_behind (r_p1 : jA) (s_t_n x1 : Int32) : Option (Int32) :=
  jM (f_X12_behind_l5 r_p1 s_t_n x1 (0 : Int32) (0 : Int32)) fun e5 =>
  some e5
set_option maxHeartbeats 4000000 in
set_option maxRecDepth 100000 in
theorem t_X12_behind {p : Program} {l : Launch} {e : Env} {s : State} {m : MethodId} {args : Array Value} {below : List Frame} {meth : Method} {c : Code} {A : Nat → Prop} {Q : State → Prop} (G : jGt) (D : va_G) (cI cB cZ : ClassId) (a_p1 a_t : Nat) (aX : Nat → Nat) (u_t_code u_t_ahead u_t_length u_t_begins u_t_sort u_t_value u_t_letters : Int32) (u_t_word : Int64) (u_t_wrongAt u_t_laterFault u_t_laterPlace u_t_newClasses u_t_newLines u_t_turns u_t_shortest u_t_orders u_t_rowNumber u_t_ties : Int32) (r_p1 : jA) (s_t_n : Int32) (x1 : Int32) (C : jCx p s m args c cX12_behind 5 gX12_behind RX12 G D (jT cI cB cZ) A) {o : Int32} (hf : f_X12_behind r_p1 s_t_n x1 = some o) (K : ∀ (H : Heap) (locs : List Loc) (pc : Nat) (ls : Array Slot), va_P D vwCl (w_X12_behind cI cB cZ a_p1 a_t aX u_t_code u_t_ahead u_t_length u_t_begins u_t_sort u_t_value u_t_letters u_t_word u_t_wrongAt u_t_laterFault u_t_laterPlace u_t_newClasses u_t_newLines u_t_turns u_t_shortest u_t_orders u_t_rowNumber u_t_ties r_p1 s_t_n) H → va_S A s.heap H locs → decode cX12_behind pc = .ok (.ireturn, 1) → W p l e rX12_behind s m args below meth c H locs 0 0 Q (F0 m pc ls [.int o])) {H : Heap} {locs : List Loc} {ls : Array Slot} (hP : va_P D vwCl (w_X12_behind cI cB cZ a_p1 a_t aX u_t_code u_t_ahead u_t_length u_t_begins u_t_sort u_t_value u_t_letters u_t_word u_t_wrongAt u_t_laterFault u_t_laterPlace u_t_newClasses u_t_newLines u_t_turns u_t_shortest u_t_orders u_t_rowNumber u_t_ties r_p1 s_t_n) H) (hD : va_D A (w_X12_behind cI cB cZ a_p1 a_t aX u_t_code u_t_ahead u_t_length u_t_begins u_t_sort u_t_value u_t_letters u_t_word u_t_wrongAt u_t_laterFault u_t_laterPlace u_t_newClasses u_t_newLines u_t_turns u_t_shortest u_t_orders u_t_rowNumber u_t_ties r_p1 s_t_n)) (hS : va_S A s.heap H locs) (hl : lv_has ls 5 [(0, .ref a_t), (1, .int x1), (2, .ref a_p1)]) : W p l e rX12_behind s m args below meth c H locs 0 0 Q (F0 m 0 ls []) := by
  obtain ⟨⟨hx, hb, hml, hown, hts⟩, hK, hN, hA⟩ := C
  have C : jCx p s m args c cX12_behind 5 gX12_behind RX12 G D (jT cI cB cZ) A := ⟨⟨hx, hb, hml, hown, hts⟩, hK, hN, hA⟩
  unfold f_X12_behind at hf
  refine lv_iconst (v := (0 : Int32)) hx hb dX12_behind_0 (by decide) ?_
  refine lv_istore_n (lv' := [(3, .int (0 : Int32)), (0, .ref a_t), (1, .int x1), (2, .ref a_p1)]) hx hb dX12_behind_1 rfl hl (by decide) rfl (fun ls hl => ?_)
  refine lv_iconst (v := (0 : Int32)) hx hb dX12_behind_2 (by decide) ?_
  refine lv_istore (lv' := [(4, .int (0 : Int32)), (3, .int (0 : Int32)), (0, .ref a_t), (1, .int x1), (2, .ref a_p1)]) hx hb dX12_behind_3 hl (by decide) rfl (fun ls hl => ?_)
  obtain ⟨e5, hg5, hf⟩ := jM_some hf
  refine t_X12_behind_l5 G D cI cB cZ a_p1 a_t aX u_t_code u_t_ahead u_t_length u_t_begins u_t_sort u_t_value u_t_letters u_t_word u_t_wrongAt u_t_laterFault u_t_laterPlace u_t_newClasses u_t_newLines u_t_turns u_t_shortest u_t_orders u_t_rowNumber u_t_ties r_p1 s_t_n x1 C jF (0 : Int32) (0 : Int32) hg5 ?_ _ _ _ hP hD hS (lv_sub hl [2, 3, 4, 1, 0] rfl)
  intro H locs ls hP hD hS hl
  refine lv_iload_n hx hb dX12_behind_37 rfl (lv_at hl 0 rfl) ?_
  have ho := Option.some.inj hf
  subst ho
  exact K _ _ _ _ hP hS dX12_behind_38
set_option maxHeartbeats 4000000 in
set_option maxRecDepth 100000 in
theorem c_X12_behind (l : Launch) (G : jGt) (D : va_G) (cI cB cZ : ClassId) (a_p1 a_t : Nat) (aX : Nat → Nat) (u_t_code u_t_ahead u_t_length u_t_begins u_t_sort u_t_value u_t_letters : Int32) (u_t_word : Int64) (u_t_wrongAt u_t_laterFault u_t_laterPlace u_t_newClasses u_t_newLines u_t_turns u_t_shortest u_t_orders u_t_rowNumber u_t_ties : Int32) (r_p1 : jA) (s_t_n : Int32) (x1 : Int32) {o : Int32} (hf : f_X12_behind r_p1 s_t_n x1 = some o) : jMi l yX12_behind gX12_behind rX12_behind G D (jT cI cB cZ) [.ref a_t, .int x1, .ref a_p1] (w_X12_behind cI cB cZ a_p1 a_t aX u_t_code u_t_ahead u_t_length u_t_begins u_t_sort u_t_value u_t_letters u_t_word u_t_wrongAt u_t_laterFault u_t_laterPlace u_t_newClasses u_t_newLines u_t_turns u_t_shortest u_t_orders u_t_rowNumber u_t_ties r_p1 s_t_n) (w_X12_behind cI cB cZ a_p1 a_t aX u_t_code u_t_ahead u_t_length u_t_begins u_t_sort u_t_value u_t_letters u_t_word u_t_wrongAt u_t_laterFault u_t_laterPlace u_t_newClasses u_t_newLines u_t_turns u_t_shortest u_t_orders u_t_rowNumber u_t_ties r_p1 s_t_n) o := by
  refine jmk_i RX12 rfl (by decide +kernel) rfl (Nat.le_of_ble_eq_true rfl) rfl ?_
  intro p e s m args below meth c ls A Q C hP hD hS hl K
  exact t_X12_behind G D cI cB cZ a_p1 a_t aX u_t_code u_t_ahead u_t_length u_t_begins u_t_sort u_t_value u_t_letters u_t_word u_t_wrongAt u_t_laterFault u_t_laterPlace u_t_newClasses u_t_newLines u_t_turns u_t_shortest u_t_orders u_t_rowNumber u_t_ties r_p1 s_t_n x1 C hf K hP hD hS hl
abbrev rX12_indexOf : Room := { frames := 0, cells := 0, slots := 0, locals := 0 }
abbrev gX12_indexOf : List Cond := wG yX12_indexOf cX12_indexOf 3 (some .int)
def w_X12_indexOf (cI cB cZ : ClassId) (a_t : Nat) (aX : Nat → Nat) (u_t_code u_t_n u_t_ahead u_t_length u_t_begins u_t_sort u_t_value u_t_letters : Int32) (u_t_word : Int64) (u_t_wrongAt u_t_laterFault u_t_laterPlace u_t_newClasses u_t_newLines u_t_shortest u_t_orders u_t_rowNumber u_t_ties s_t_turns : Int32) (r_t_turn : jA) : va_W := [(a_t, .inr (11, (oX12 aX u_t_code u_t_n u_t_ahead u_t_length u_t_begins u_t_sort u_t_value u_t_letters u_t_word u_t_wrongAt u_t_laterFault u_t_laterPlace u_t_newClasses u_t_newLines s_t_turns u_t_shortest u_t_orders u_t_rowNumber u_t_ties))), ((aX 55), .inl (cI, r_t_turn.1, .inl r_t_turn.2))]
def f_X12_indexOf_b2 (s_t_turns : Int32) (r_t_turn : jA) (x1 x2 : Int32) : Option ((Int32) ⊕ ((Int32) ⊕ ((Unit)))) :=
  if s_t_turns ≤ x2 then
  some (Sum.inr (Sum.inr ()))
  else
  jL r_t_turn x2 fun v2 =>
  if v2 = x1 then
  some (Sum.inr (Sum.inl x2))
  else
  some (Sum.inl (x2 + 1))
set_option maxHeartbeats 4000000 in
set_option maxRecDepth 100000 in
theorem t_X12_indexOf_b2 {p : Program} {l : Launch} {e : Env} {s : State} {m : MethodId} {args : Array Value} {below : List Frame} {meth : Method} {c : Code} {A : Nat → Prop} {Q : State → Prop} (G : jGt) (D : va_G) (cI cB cZ : ClassId) (a_t : Nat) (aX : Nat → Nat) (u_t_code u_t_n u_t_ahead u_t_length u_t_begins u_t_sort u_t_value u_t_letters : Int32) (u_t_word : Int64) (u_t_wrongAt u_t_laterFault u_t_laterPlace u_t_newClasses u_t_newLines u_t_shortest u_t_orders u_t_rowNumber u_t_ties s_t_turns : Int32) (r_t_turn : jA) (x1 x2 : Int32) (C : jCx p s m args c cX12_indexOf 3 gX12_indexOf RX12 G D (jT cI cB cZ) A) {o : (Int32) ⊕ ((Int32) ⊕ ((Unit)))} (hf : f_X12_indexOf_b2 s_t_turns r_t_turn x1 x2 = some o) (K : (∀ z, o = Sum.inl z → ∀ (H : Heap) (locs : List Loc) (ls : Array Slot), va_P D vwCl (w_X12_indexOf cI cB cZ a_t aX u_t_code u_t_n u_t_ahead u_t_length u_t_begins u_t_sort u_t_value u_t_letters u_t_word u_t_wrongAt u_t_laterFault u_t_laterPlace u_t_newClasses u_t_newLines u_t_shortest u_t_orders u_t_rowNumber u_t_ties s_t_turns r_t_turn) H → va_D A (w_X12_indexOf cI cB cZ a_t aX u_t_code u_t_n u_t_ahead u_t_length u_t_begins u_t_sort u_t_value u_t_letters u_t_word u_t_wrongAt u_t_laterFault u_t_laterPlace u_t_newClasses u_t_newLines u_t_shortest u_t_orders u_t_rowNumber u_t_ties s_t_turns r_t_turn) → va_S A s.heap H locs → lv_has ls 3 [(0, .ref a_t), (1, .int x1), (2, .int z)] → W p l e rX12_indexOf s m args below meth c H locs 0 0 Q (F0 m 2 ls [])) ∧ (∀ z, o = Sum.inr z → (∀ y0, z = Sum.inl y0 → ∀ (H : Heap) (locs : List Loc) (ls : Array Slot), va_P D vwCl (w_X12_indexOf cI cB cZ a_t aX u_t_code u_t_n u_t_ahead u_t_length u_t_begins u_t_sort u_t_value u_t_letters u_t_word u_t_wrongAt u_t_laterFault u_t_laterPlace u_t_newClasses u_t_newLines u_t_shortest u_t_orders u_t_rowNumber u_t_ties s_t_turns r_t_turn) H → va_D A (w_X12_indexOf cI cB cZ a_t aX u_t_code u_t_n u_t_ahead u_t_length u_t_begins u_t_sort u_t_value u_t_letters u_t_word u_t_wrongAt u_t_laterFault u_t_laterPlace u_t_newClasses u_t_newLines u_t_shortest u_t_orders u_t_rowNumber u_t_ties s_t_turns r_t_turn) → va_S A s.heap H locs → lv_has ls 3 [(2, .int y0)] → W p l e rX12_indexOf s m args below meth c H locs 0 0 Q (F0 m 20 ls [])) ∧ (∀ z0, z = Sum.inr z0 → ∀ (H : Heap) (locs : List Loc) (ls : Array Slot), va_P D vwCl (w_X12_indexOf cI cB cZ a_t aX u_t_code u_t_n u_t_ahead u_t_length u_t_begins u_t_sort u_t_value u_t_letters u_t_word u_t_wrongAt u_t_laterFault u_t_laterPlace u_t_newClasses u_t_newLines u_t_shortest u_t_orders u_t_rowNumber u_t_ties s_t_turns r_t_turn) H → va_D A (w_X12_indexOf cI cB cZ a_t aX u_t_code u_t_n u_t_ahead u_t_length u_t_begins u_t_sort u_t_value u_t_letters u_t_word u_t_wrongAt u_t_laterFault u_t_laterPlace u_t_newClasses u_t_newLines u_t_shortest u_t_orders u_t_rowNumber u_t_ties s_t_turns r_t_turn) → va_S A s.heap H locs → lv_has ls 3 [] → W p l e rX12_indexOf s m args below meth c H locs 0 0 Q (F0 m 28 ls [])))) {H : Heap} {locs : List Loc} {ls : Array Slot} (hP : va_P D vwCl (w_X12_indexOf cI cB cZ a_t aX u_t_code u_t_n u_t_ahead u_t_length u_t_begins u_t_sort u_t_value u_t_letters u_t_word u_t_wrongAt u_t_laterFault u_t_laterPlace u_t_newClasses u_t_newLines u_t_shortest u_t_orders u_t_rowNumber u_t_ties s_t_turns r_t_turn) H) (hD : va_D A (w_X12_indexOf cI cB cZ a_t aX u_t_code u_t_n u_t_ahead u_t_length u_t_begins u_t_sort u_t_value u_t_letters u_t_word u_t_wrongAt u_t_laterFault u_t_laterPlace u_t_newClasses u_t_newLines u_t_shortest u_t_orders u_t_rowNumber u_t_ties s_t_turns r_t_turn)) (hS : va_S A s.heap H locs) (hl : lv_has ls 3 [(0, .ref a_t), (1, .int x1), (2, .int x2)]) : W p l e rX12_indexOf s m args below meth c H locs 0 0 Q (F0 m 2 ls []) := by
  obtain ⟨⟨hx, hb, hml, hown, hts⟩, hK, hN, hA⟩ := C
  have C : jCx p s m args c cX12_indexOf 3 gX12_indexOf RX12 G D (jT cI cB cZ) A := ⟨⟨hx, hb, hml, hown, hts⟩, hK, hN, hA⟩
  unfold f_X12_indexOf_b2 at hf
  refine lv_iload_n hx hb dX12_indexOf_2 rfl (lv_at hl 2 rfl) ?_
  refine lv_aload_n hx hb dX12_indexOf_3 rfl (lv_at hl 0 rfl) ?_
  refine va_get (D := D) (ci := 11) (v := .int s_t_turns) (C := RX12) (T := TX12) (N := 74) hx hb hts iw_X12 hown hK hP 0 rfl rfl 54 (by decide) (hts _ (wG_in k_fl_X12_344 rfl)) (fun _ h9 => h9) rfl dX12_indexOf_4 ?_
  refine lv_icmp_ge (tgt := 28) hx hb dX12_indexOf_7 (by decide) (fun c1 => ?_) (fun c1 => ?_)
  · replace hf := jif_t c1 hf
    have ho := Option.some.inj hf
    exact ((K.2 _ ho.symm).2 _ rfl) _ _ _ hP hD hS (lv_sub hl [] rfl)
  · replace hf := jif_f c1 hf
    refine lv_aload_n hx hb dX12_indexOf_10 rfl (lv_at hl 0 rfl) ?_
    refine va_get (D := D) (ci := 11) (v := .ref (aX 55)) (C := RX12) (T := TX12) (N := 74) hx hb hts iw_X12 hown hK hP 0 rfl rfl 55 (by decide) (hts _ (wG_in k_fl_X12_131 rfl)) (fun _ h9 => h9) rfl dX12_indexOf_11 ?_
    refine lv_iload_n hx hb dX12_indexOf_14 rfl (lv_at hl 2 rfl) ?_
    obtain ⟨v2, hv2, iv2, hf⟩ := jL_some hf
    refine ja_iald (P := r_t_turn) hx hb hK hP 1 0 rfl rfl hv2 iv2 dX12_indexOf_15 ?_
    refine lv_iload_n hx hb dX12_indexOf_16 rfl (lv_at hl 1 rfl) ?_
    refine lv_icmp_ne (tgt := 22) hx hb dX12_indexOf_17 (by decide) (fun c3 => ?_) (fun c3 => ?_)
    · replace hf := jif_f c3 hf
      refine lv_iinc (v := (x2 + 1)) (lv' := [(2, .int (x2 + 1)), (0, .ref a_t), (1, .int x1)]) hx hb dX12_indexOf_22 hl (k := 2) rfl (by first | rfl | decide) (by decide) rfl (fun ls hl => ?_)
      refine lv_goto (tgt := 2) hx hb dX12_indexOf_25 (by decide) ?_
      have ho := Option.some.inj hf
      exact K.1 _ ho.symm _ _ _ hP hD hS (lv_sub hl [1, 2, 0] rfl)
    · replace hf := jif_t c3 hf
      have ho := Option.some.inj hf
      exact ((K.2 _ ho.symm).1 _ rfl) _ _ _ hP hD hS (lv_sub hl [2] rfl)
def f_X12_indexOf_l2 (s_t_turns : Int32) (r_t_turn : jA) (x1 x2 : Int32) : Option ((Int32) ⊕ ((Unit))) :=
  jI (fun z => f_X12_indexOf_b2 s_t_turns r_t_turn x1 z) jF x2
set_option maxHeartbeats 4000000 in
set_option maxRecDepth 100000 in
theorem t_X12_indexOf_l2 {p : Program} {l : Launch} {e : Env} {s : State} {m : MethodId} {args : Array Value} {below : List Frame} {meth : Method} {c : Code} {A : Nat → Prop} {Q : State → Prop} (G : jGt) (D : va_G) (cI cB cZ : ClassId) (a_t : Nat) (aX : Nat → Nat) (u_t_code u_t_n u_t_ahead u_t_length u_t_begins u_t_sort u_t_value u_t_letters : Int32) (u_t_word : Int64) (u_t_wrongAt u_t_laterFault u_t_laterPlace u_t_newClasses u_t_newLines u_t_shortest u_t_orders u_t_rowNumber u_t_ties s_t_turns : Int32) (r_t_turn : jA) (x1 : Int32) (C : jCx p s m args c cX12_indexOf 3 gX12_indexOf RX12 G D (jT cI cB cZ) A) : ∀ (n : Nat) (x2 : Int32) {eo : (Int32) ⊕ ((Unit))}, jI (fun z => f_X12_indexOf_b2 s_t_turns r_t_turn x1 z) n x2 = some eo → ((∀ y0, eo = Sum.inl y0 → ∀ (H : Heap) (locs : List Loc) (ls : Array Slot), va_P D vwCl (w_X12_indexOf cI cB cZ a_t aX u_t_code u_t_n u_t_ahead u_t_length u_t_begins u_t_sort u_t_value u_t_letters u_t_word u_t_wrongAt u_t_laterFault u_t_laterPlace u_t_newClasses u_t_newLines u_t_shortest u_t_orders u_t_rowNumber u_t_ties s_t_turns r_t_turn) H → va_D A (w_X12_indexOf cI cB cZ a_t aX u_t_code u_t_n u_t_ahead u_t_length u_t_begins u_t_sort u_t_value u_t_letters u_t_word u_t_wrongAt u_t_laterFault u_t_laterPlace u_t_newClasses u_t_newLines u_t_shortest u_t_orders u_t_rowNumber u_t_ties s_t_turns r_t_turn) → va_S A s.heap H locs → lv_has ls 3 [(2, .int y0)] → W p l e rX12_indexOf s m args below meth c H locs 0 0 Q (F0 m 20 ls [])) ∧ (∀ z0, eo = Sum.inr z0 → ∀ (H : Heap) (locs : List Loc) (ls : Array Slot), va_P D vwCl (w_X12_indexOf cI cB cZ a_t aX u_t_code u_t_n u_t_ahead u_t_length u_t_begins u_t_sort u_t_value u_t_letters u_t_word u_t_wrongAt u_t_laterFault u_t_laterPlace u_t_newClasses u_t_newLines u_t_shortest u_t_orders u_t_rowNumber u_t_ties s_t_turns r_t_turn) H → va_D A (w_X12_indexOf cI cB cZ a_t aX u_t_code u_t_n u_t_ahead u_t_length u_t_begins u_t_sort u_t_value u_t_letters u_t_word u_t_wrongAt u_t_laterFault u_t_laterPlace u_t_newClasses u_t_newLines u_t_shortest u_t_orders u_t_rowNumber u_t_ties s_t_turns r_t_turn) → va_S A s.heap H locs → lv_has ls 3 [] → W p l e rX12_indexOf s m args below meth c H locs 0 0 Q (F0 m 28 ls []))) → ∀ (H : Heap) (locs : List Loc) (ls : Array Slot), va_P D vwCl (w_X12_indexOf cI cB cZ a_t aX u_t_code u_t_n u_t_ahead u_t_length u_t_begins u_t_sort u_t_value u_t_letters u_t_word u_t_wrongAt u_t_laterFault u_t_laterPlace u_t_newClasses u_t_newLines u_t_shortest u_t_orders u_t_rowNumber u_t_ties s_t_turns r_t_turn) H → va_D A (w_X12_indexOf cI cB cZ a_t aX u_t_code u_t_n u_t_ahead u_t_length u_t_begins u_t_sort u_t_value u_t_letters u_t_word u_t_wrongAt u_t_laterFault u_t_laterPlace u_t_newClasses u_t_newLines u_t_shortest u_t_orders u_t_rowNumber u_t_ties s_t_turns r_t_turn) → va_S A s.heap H locs → lv_has ls 3 [(0, .ref a_t), (1, .int x1), (2, .int x2)] → W p l e rX12_indexOf s m args below meth c H locs 0 0 Q (F0 m 2 ls []) := by
  intro n
  induction n with
  | zero =>
    intro x2 eo hf
    exact (jI_zero hf).elim
  | succ n ih =>
    intro x2 eo hf K H locs ls hP hD hS hl
    obtain ⟨o, hb1, ho⟩ := jI_some hf
    rcases ho with ⟨z, rfl, hf2⟩ | rfl
    · exact t_X12_indexOf_b2 G D cI cB cZ a_t aX u_t_code u_t_n u_t_ahead u_t_length u_t_begins u_t_sort u_t_value u_t_letters u_t_word u_t_wrongAt u_t_laterFault u_t_laterPlace u_t_newClasses u_t_newLines u_t_shortest u_t_orders u_t_rowNumber u_t_ties s_t_turns r_t_turn x1 x2 C hb1 ⟨fun z2 hz H locs ls hP hD hS hl => by cases hz; exact ih z hf2 K H locs ls hP hD hS hl, fun z2 hz => by cases hz⟩ hP hD hS hl
    · exact t_X12_indexOf_b2 G D cI cB cZ a_t aX u_t_code u_t_n u_t_ahead u_t_length u_t_begins u_t_sort u_t_value u_t_letters u_t_word u_t_wrongAt u_t_laterFault u_t_laterPlace u_t_newClasses u_t_newLines u_t_shortest u_t_orders u_t_rowNumber u_t_ties s_t_turns r_t_turn x1 x2 C hb1 ⟨fun z2 hz => (by cases hz), fun z2 hz => by cases hz; exact K⟩ hP hD hS hl
def f_X12_indexOf (s_t_turns : Int32) (r_t_turn : jA) (x1 : Int32) : Option (Int32) :=
  jM (f_X12_indexOf_l2 s_t_turns r_t_turn x1 (0 : Int32)) fun e4 =>
  Sum.elim (fun y5 =>
  some y5) (fun w6 =>
  some (-1 : Int32)) e4
set_option maxHeartbeats 4000000 in
set_option maxRecDepth 100000 in
theorem t_X12_indexOf {p : Program} {l : Launch} {e : Env} {s : State} {m : MethodId} {args : Array Value} {below : List Frame} {meth : Method} {c : Code} {A : Nat → Prop} {Q : State → Prop} (G : jGt) (D : va_G) (cI cB cZ : ClassId) (a_t : Nat) (aX : Nat → Nat) (u_t_code u_t_n u_t_ahead u_t_length u_t_begins u_t_sort u_t_value u_t_letters : Int32) (u_t_word : Int64) (u_t_wrongAt u_t_laterFault u_t_laterPlace u_t_newClasses u_t_newLines u_t_shortest u_t_orders u_t_rowNumber u_t_ties s_t_turns : Int32) (r_t_turn : jA) (x1 : Int32) (C : jCx p s m args c cX12_indexOf 3 gX12_indexOf RX12 G D (jT cI cB cZ) A) {o : Int32} (hf : f_X12_indexOf s_t_turns r_t_turn x1 = some o) (K : ∀ (H : Heap) (locs : List Loc) (pc : Nat) (ls : Array Slot), va_P D vwCl (w_X12_indexOf cI cB cZ a_t aX u_t_code u_t_n u_t_ahead u_t_length u_t_begins u_t_sort u_t_value u_t_letters u_t_word u_t_wrongAt u_t_laterFault u_t_laterPlace u_t_newClasses u_t_newLines u_t_shortest u_t_orders u_t_rowNumber u_t_ties s_t_turns r_t_turn) H → va_S A s.heap H locs → decode cX12_indexOf pc = .ok (.ireturn, 1) → W p l e rX12_indexOf s m args below meth c H locs 0 0 Q (F0 m pc ls [.int o])) {H : Heap} {locs : List Loc} {ls : Array Slot} (hP : va_P D vwCl (w_X12_indexOf cI cB cZ a_t aX u_t_code u_t_n u_t_ahead u_t_length u_t_begins u_t_sort u_t_value u_t_letters u_t_word u_t_wrongAt u_t_laterFault u_t_laterPlace u_t_newClasses u_t_newLines u_t_shortest u_t_orders u_t_rowNumber u_t_ties s_t_turns r_t_turn) H) (hD : va_D A (w_X12_indexOf cI cB cZ a_t aX u_t_code u_t_n u_t_ahead u_t_length u_t_begins u_t_sort u_t_value u_t_letters u_t_word u_t_wrongAt u_t_laterFault u_t_laterPlace u_t_newClasses u_t_newLines u_t_shortest u_t_orders u_t_rowNumber u_t_ties s_t_turns r_t_turn)) (hS : va_S A s.heap H locs) (hl : lv_has ls 3 [(0, .ref a_t), (1, .int x1)]) : W p l e rX12_indexOf s m args below meth c H locs 0 0 Q (F0 m 0 ls []) := by
  obtain ⟨⟨hx, hb, hml, hown, hts⟩, hK, hN, hA⟩ := C
  have C : jCx p s m args c cX12_indexOf 3 gX12_indexOf RX12 G D (jT cI cB cZ) A := ⟨⟨hx, hb, hml, hown, hts⟩, hK, hN, hA⟩
  unfold f_X12_indexOf at hf
  refine lv_iconst (v := (0 : Int32)) hx hb dX12_indexOf_0 (by decide) ?_
  refine lv_istore_n (lv' := [(2, .int (0 : Int32)), (0, .ref a_t), (1, .int x1)]) hx hb dX12_indexOf_1 rfl hl (by decide) rfl (fun ls hl => ?_)
  obtain ⟨e4, hg4, hf⟩ := jM_some hf
  refine t_X12_indexOf_l2 G D cI cB cZ a_t aX u_t_code u_t_n u_t_ahead u_t_length u_t_begins u_t_sort u_t_value u_t_letters u_t_word u_t_wrongAt u_t_laterFault u_t_laterPlace u_t_newClasses u_t_newLines u_t_shortest u_t_orders u_t_rowNumber u_t_ties s_t_turns r_t_turn x1 C jF (0 : Int32) hg4 ?_ _ _ _ hP hD hS (lv_sub hl [1, 2, 0] rfl)
  refine ⟨fun y5 hy => ?_, fun w6 hy => ?_⟩
  · replace hf := jE_l hy hf
    intro H locs ls hP hD hS hl
    refine lv_iload_n hx hb dX12_indexOf_20 rfl (lv_at hl 0 rfl) ?_
    have ho := Option.some.inj hf
    subst ho
    exact K _ _ _ _ hP hS dX12_indexOf_21
  · replace hf := jE_r hy hf
    intro H locs ls hP hD hS hl
    refine lv_iconst (v := (-1 : Int32)) hx hb dX12_indexOf_28 (by decide) ?_
    have ho := Option.some.inj hf
    subst ho
    exact K _ _ _ _ hP hS dX12_indexOf_29
set_option maxHeartbeats 4000000 in
set_option maxRecDepth 100000 in
theorem c_X12_indexOf (l : Launch) (G : jGt) (D : va_G) (cI cB cZ : ClassId) (a_t : Nat) (aX : Nat → Nat) (u_t_code u_t_n u_t_ahead u_t_length u_t_begins u_t_sort u_t_value u_t_letters : Int32) (u_t_word : Int64) (u_t_wrongAt u_t_laterFault u_t_laterPlace u_t_newClasses u_t_newLines u_t_shortest u_t_orders u_t_rowNumber u_t_ties s_t_turns : Int32) (r_t_turn : jA) (x1 : Int32) {o : Int32} (hf : f_X12_indexOf s_t_turns r_t_turn x1 = some o) : jMi l yX12_indexOf gX12_indexOf rX12_indexOf G D (jT cI cB cZ) [.ref a_t, .int x1] (w_X12_indexOf cI cB cZ a_t aX u_t_code u_t_n u_t_ahead u_t_length u_t_begins u_t_sort u_t_value u_t_letters u_t_word u_t_wrongAt u_t_laterFault u_t_laterPlace u_t_newClasses u_t_newLines u_t_shortest u_t_orders u_t_rowNumber u_t_ties s_t_turns r_t_turn) (w_X12_indexOf cI cB cZ a_t aX u_t_code u_t_n u_t_ahead u_t_length u_t_begins u_t_sort u_t_value u_t_letters u_t_word u_t_wrongAt u_t_laterFault u_t_laterPlace u_t_newClasses u_t_newLines u_t_shortest u_t_orders u_t_rowNumber u_t_ties s_t_turns r_t_turn) o := by
  refine jmk_i RX12 rfl (by decide +kernel) rfl (Nat.le_of_ble_eq_true rfl) rfl ?_
  intro p e s m args below meth c ls A Q C hP hD hS hl K
  exact t_X12_indexOf G D cI cB cZ a_t aX u_t_code u_t_n u_t_ahead u_t_length u_t_begins u_t_sort u_t_value u_t_letters u_t_word u_t_wrongAt u_t_laterFault u_t_laterPlace u_t_newClasses u_t_newLines u_t_shortest u_t_orders u_t_rowNumber u_t_ties s_t_turns r_t_turn x1 C hf K hP hD hS hl
abbrev rX12_findTurns : Room := { frames := 2, cells := 0, slots := 0, locals := 46 }
abbrev gX12_findTurns : List Cond := wG yX12_findTurns cX12_findTurns 4 none
def w_X12_findTurns (cI cB cZ : ClassId) (a_t : Nat) (aX : Nat → Nat) (u_t_code u_t_ahead u_t_length u_t_begins u_t_sort u_t_value u_t_letters : Int32) (u_t_word : Int64) (u_t_wrongAt u_t_laterFault u_t_laterPlace u_t_newClasses u_t_newLines u_t_shortest u_t_orders u_t_rowNumber u_t_ties s_t_n s_t_turns : Int32) (r_t_child r_t_turn r_t_weds : jA) : va_W := [(a_t, .inr (11, (oX12 aX u_t_code s_t_n u_t_ahead u_t_length u_t_begins u_t_sort u_t_value u_t_letters u_t_word u_t_wrongAt u_t_laterFault u_t_laterPlace u_t_newClasses u_t_newLines s_t_turns u_t_shortest u_t_orders u_t_rowNumber u_t_ties))), ((aX 33), .inl (cI, r_t_child.1, .inl r_t_child.2)), ((aX 55), .inl (cI, r_t_turn.1, .inl r_t_turn.2)), ((aX 32), .inl (cI, r_t_weds.1, .inl r_t_weds.2))]
def f_X12_findTurns_j123 (s_t_turns : Int32) (r_t_turn : jA) (x1 : Int32) : Option ((Int32 × jA × Int32) ⊕ ((Int32 × jA))) :=
  some (Sum.inl (s_t_turns, r_t_turn, (x1 + 1)))
set_option maxHeartbeats 4000000 in
set_option maxRecDepth 100000 in
theorem t_X12_findTurns_j123 {p : Program} {l : Launch} {e : Env} {s : State} {m : MethodId} {args : Array Value} {below : List Frame} {meth : Method} {c : Code} {A : Nat → Prop} {Q : State → Prop} (G : jGt) (D : va_G) (cI cB cZ : ClassId) (a_t : Nat) (aX : Nat → Nat) (u_t_code u_t_ahead u_t_length u_t_begins u_t_sort u_t_value u_t_letters : Int32) (u_t_word : Int64) (u_t_wrongAt u_t_laterFault u_t_laterPlace u_t_newClasses u_t_newLines u_t_shortest u_t_orders u_t_rowNumber u_t_ties s_t_n : Int32) (r_t_child r_t_weds : jA) (s_t_turns : Int32) (r_t_turn : jA) (x1 : Int32) (C : jCx p s m args c cX12_findTurns 4 gX12_findTurns RX12 G D (jT cI cB cZ) A) {o : (Int32 × jA × Int32) ⊕ ((Int32 × jA))} (hf : f_X12_findTurns_j123 s_t_turns r_t_turn x1 = some o) (K : (∀ z, o = Sum.inl z → ∀ (H : Heap) (locs : List Loc) (ls : Array Slot), va_P D vwCl (w_X12_findTurns cI cB cZ a_t aX u_t_code u_t_ahead u_t_length u_t_begins u_t_sort u_t_value u_t_letters u_t_word u_t_wrongAt u_t_laterFault u_t_laterPlace u_t_newClasses u_t_newLines u_t_shortest u_t_orders u_t_rowNumber u_t_ties s_t_n z.1 r_t_child z.2.1 r_t_weds) H → va_D A (w_X12_findTurns cI cB cZ a_t aX u_t_code u_t_ahead u_t_length u_t_begins u_t_sort u_t_value u_t_letters u_t_word u_t_wrongAt u_t_laterFault u_t_laterPlace u_t_newClasses u_t_newLines u_t_shortest u_t_orders u_t_rowNumber u_t_ties s_t_n z.1 r_t_child z.2.1 r_t_weds) → va_S A s.heap H locs → lv_has ls 4 [(0, .ref a_t), (1, .int z.2.2)] → W p l e rX12_findTurns s m args below meth c H locs 0 0 Q (F0 m 17 ls [])) ∧ (∀ z, o = Sum.inr z → ∀ (H : Heap) (locs : List Loc) (ls : Array Slot), va_P D vwCl (w_X12_findTurns cI cB cZ a_t aX u_t_code u_t_ahead u_t_length u_t_begins u_t_sort u_t_value u_t_letters u_t_word u_t_wrongAt u_t_laterFault u_t_laterPlace u_t_newClasses u_t_newLines u_t_shortest u_t_orders u_t_rowNumber u_t_ties s_t_n z.1 r_t_child z.2 r_t_weds) H → va_D A (w_X12_findTurns cI cB cZ a_t aX u_t_code u_t_ahead u_t_length u_t_begins u_t_sort u_t_value u_t_letters u_t_word u_t_wrongAt u_t_laterFault u_t_laterPlace u_t_newClasses u_t_newLines u_t_shortest u_t_orders u_t_rowNumber u_t_ties s_t_n z.1 r_t_child z.2 r_t_weds) → va_S A s.heap H locs → lv_has ls 4 [] → W p l e rX12_findTurns s m args below meth c H locs 0 0 Q (F0 m 129 ls []))) {H : Heap} {locs : List Loc} {ls : Array Slot} (hP : va_P D vwCl (w_X12_findTurns cI cB cZ a_t aX u_t_code u_t_ahead u_t_length u_t_begins u_t_sort u_t_value u_t_letters u_t_word u_t_wrongAt u_t_laterFault u_t_laterPlace u_t_newClasses u_t_newLines u_t_shortest u_t_orders u_t_rowNumber u_t_ties s_t_n s_t_turns r_t_child r_t_turn r_t_weds) H) (hD : va_D A (w_X12_findTurns cI cB cZ a_t aX u_t_code u_t_ahead u_t_length u_t_begins u_t_sort u_t_value u_t_letters u_t_word u_t_wrongAt u_t_laterFault u_t_laterPlace u_t_newClasses u_t_newLines u_t_shortest u_t_orders u_t_rowNumber u_t_ties s_t_n s_t_turns r_t_child r_t_turn r_t_weds)) (hS : va_S A s.heap H locs) (hl : lv_has ls 4 [(0, .ref a_t), (1, .int x1)]) : W p l e rX12_findTurns s m args below meth c H locs 0 0 Q (F0 m 123 ls []) := by
  obtain ⟨⟨hx, hb, hml, hown, hts⟩, hK, hN, hA⟩ := C
  have C : jCx p s m args c cX12_findTurns 4 gX12_findTurns RX12 G D (jT cI cB cZ) A := ⟨⟨hx, hb, hml, hown, hts⟩, hK, hN, hA⟩
  unfold f_X12_findTurns_j123 at hf
  refine lv_iinc (v := (x1 + 1)) (lv' := [(1, .int (x1 + 1)), (0, .ref a_t)]) hx hb dX12_findTurns_123 hl (k := 1) rfl (by first | rfl | decide) (by decide) rfl (fun ls hl => ?_)
  refine lv_goto (tgt := 17) hx hb dX12_findTurns_126 (by decide) ?_
  have ho := Option.some.inj hf
  exact K.1 _ ho.symm _ _ _ hP hD hS (lv_sub hl [1, 0] rfl)
def f_X12_findTurns_j79 (s_t_n : Int32) (r_t_child : jA) (s_t_turns : Int32) (r_t_turn : jA) (x1 : Int32) : Option ((Int32 × jA × Int32) ⊕ ((Int32 × jA))) :=
  jL r_t_turn x1 fun v9 =>
  jM (f_X12_behind r_t_child s_t_n v9) fun r10 =>
  jM (f_X12_indexOf s_t_turns r_t_turn r10) fun r11 =>
  if r11 = (-1 : Int32) then
  jS r_t_turn s_t_turns r10 fun q13 =>
  jV (s_t_turns + (1 : Int32)) fun v14 =>
  f_X12_findTurns_j123 v14 q13 x1
  else
  f_X12_findTurns_j123 s_t_turns r_t_turn x1
set_option maxHeartbeats 4000000 in
set_option maxRecDepth 100000 in
theorem t_X12_findTurns_j79 {p : Program} {l : Launch} {e : Env} {s : State} {m : MethodId} {args : Array Value} {below : List Frame} {meth : Method} {c : Code} {A : Nat → Prop} {Q : State → Prop} (G : jGt) (D : va_G) (cI cB cZ : ClassId) (a_t : Nat) (aX : Nat → Nat) (u_t_code u_t_ahead u_t_length u_t_begins u_t_sort u_t_value u_t_letters : Int32) (u_t_word : Int64) (u_t_wrongAt u_t_laterFault u_t_laterPlace u_t_newClasses u_t_newLines u_t_shortest u_t_orders u_t_rowNumber u_t_ties s_t_n : Int32) (r_t_child r_t_weds : jA) (s_t_turns : Int32) (r_t_turn : jA) (x1 : Int32) (C : jCx p s m args c cX12_findTurns 4 gX12_findTurns RX12 G D (jT cI cB cZ) A) {o : (Int32 × jA × Int32) ⊕ ((Int32 × jA))} (hf : f_X12_findTurns_j79 s_t_n r_t_child s_t_turns r_t_turn x1 = some o) (K : (∀ z, o = Sum.inl z → ∀ (H : Heap) (locs : List Loc) (ls : Array Slot), va_P D vwCl (w_X12_findTurns cI cB cZ a_t aX u_t_code u_t_ahead u_t_length u_t_begins u_t_sort u_t_value u_t_letters u_t_word u_t_wrongAt u_t_laterFault u_t_laterPlace u_t_newClasses u_t_newLines u_t_shortest u_t_orders u_t_rowNumber u_t_ties s_t_n z.1 r_t_child z.2.1 r_t_weds) H → va_D A (w_X12_findTurns cI cB cZ a_t aX u_t_code u_t_ahead u_t_length u_t_begins u_t_sort u_t_value u_t_letters u_t_word u_t_wrongAt u_t_laterFault u_t_laterPlace u_t_newClasses u_t_newLines u_t_shortest u_t_orders u_t_rowNumber u_t_ties s_t_n z.1 r_t_child z.2.1 r_t_weds) → va_S A s.heap H locs → lv_has ls 4 [(0, .ref a_t), (1, .int z.2.2)] → W p l e rX12_findTurns s m args below meth c H locs 0 0 Q (F0 m 17 ls [])) ∧ (∀ z, o = Sum.inr z → ∀ (H : Heap) (locs : List Loc) (ls : Array Slot), va_P D vwCl (w_X12_findTurns cI cB cZ a_t aX u_t_code u_t_ahead u_t_length u_t_begins u_t_sort u_t_value u_t_letters u_t_word u_t_wrongAt u_t_laterFault u_t_laterPlace u_t_newClasses u_t_newLines u_t_shortest u_t_orders u_t_rowNumber u_t_ties s_t_n z.1 r_t_child z.2 r_t_weds) H → va_D A (w_X12_findTurns cI cB cZ a_t aX u_t_code u_t_ahead u_t_length u_t_begins u_t_sort u_t_value u_t_letters u_t_word u_t_wrongAt u_t_laterFault u_t_laterPlace u_t_newClasses u_t_newLines u_t_shortest u_t_orders u_t_rowNumber u_t_ties s_t_n z.1 r_t_child z.2 r_t_weds) → va_S A s.heap H locs → lv_has ls 4 [] → W p l e rX12_findTurns s m args below meth c H locs 0 0 Q (F0 m 129 ls []))) {H : Heap} {locs : List Loc} {ls : Array Slot} (hP : va_P D vwCl (w_X12_findTurns cI cB cZ a_t aX u_t_code u_t_ahead u_t_length u_t_begins u_t_sort u_t_value u_t_letters u_t_word u_t_wrongAt u_t_laterFault u_t_laterPlace u_t_newClasses u_t_newLines u_t_shortest u_t_orders u_t_rowNumber u_t_ties s_t_n s_t_turns r_t_child r_t_turn r_t_weds) H) (hD : va_D A (w_X12_findTurns cI cB cZ a_t aX u_t_code u_t_ahead u_t_length u_t_begins u_t_sort u_t_value u_t_letters u_t_word u_t_wrongAt u_t_laterFault u_t_laterPlace u_t_newClasses u_t_newLines u_t_shortest u_t_orders u_t_rowNumber u_t_ties s_t_n s_t_turns r_t_child r_t_turn r_t_weds)) (hS : va_S A s.heap H locs) (hl : lv_has ls 4 [(0, .ref a_t), (1, .int x1)]) : W p l e rX12_findTurns s m args below meth c H locs 0 0 Q (F0 m 79 ls []) := by
  obtain ⟨⟨hx, hb, hml, hown, hts⟩, hK, hN, hA⟩ := C
  have C : jCx p s m args c cX12_findTurns 4 gX12_findTurns RX12 G D (jT cI cB cZ) A := ⟨⟨hx, hb, hml, hown, hts⟩, hK, hN, hA⟩
  unfold f_X12_findTurns_j79 at hf
  refine lv_aload_n hx hb dX12_findTurns_79 rfl (lv_at hl 0 rfl) ?_
  refine lv_aload_n hx hb dX12_findTurns_80 rfl (lv_at hl 0 rfl) ?_
  refine va_get (D := D) (ci := 11) (v := .ref (aX 55)) (C := RX12) (T := TX12) (N := 74) hx hb hts iw_X12 hown hK hP 0 rfl rfl 55 (by decide) (hts _ (wG_in k_fl_X12_131 rfl)) (fun _ h9 => h9) rfl dX12_findTurns_81 ?_
  refine lv_iload_n hx hb dX12_findTurns_84 rfl (lv_at hl 1 rfl) ?_
  obtain ⟨v9, hv9, iv9, hf⟩ := jL_some hf
  refine ja_iald (P := r_t_turn) hx hb hK hP 2 0 rfl rfl hv9 iv9 dX12_findTurns_85 ?_
  refine lv_aload_n hx hb dX12_findTurns_86 rfl (lv_at hl 0 rfl) ?_
  refine va_get (D := D) (ci := 11) (v := .ref (aX 33)) (C := RX12) (T := TX12) (N := 74) hx hb hts iw_X12 hown hK hP 0 rfl rfl 33 (by decide) (hts _ (wG_in k_fl_X12_104 rfl)) (fun _ h9 => h9) rfl dX12_findTurns_87 ?_
  obtain ⟨r10, hgr10, hf⟩ := jM_some hf
  refine jcV_i0 (As := [.int v9, .ref (aX 33)]) (rest := []) ⟨hx, hb, hml, hown, hts⟩ hK hN hA (c_X12_behind l G D cI cB cZ (aX 33) a_t aX u_t_code u_t_ahead u_t_length u_t_begins u_t_sort u_t_value u_t_letters u_t_word u_t_wrongAt u_t_laterFault u_t_laterPlace u_t_newClasses u_t_newLines s_t_turns u_t_shortest u_t_orders u_t_rowNumber u_t_ties r_t_child s_t_n v9 hgr10) (cwV 2 hts (wG_V k_ml_X12_371 k_im_X12_behind k_se_X12_behind k_in_X12 k_co_X12_behind) rfl rfl rfl hd_X12_behind ⟨Nat.le_of_ble_eq_true rfl, Nat.le_of_ble_eq_true rfl⟩) hP hD hS [1, 0] rfl rfl rfl (ci := 11) rfl 0 rfl rfl rfl hl.1 rfl (Nat.le_of_ble_eq_true rfl) dX12_findTurns_90 ⟨Nat.le_of_ble_eq_true rfl, Nat.le_of_ble_eq_true rfl⟩ (fun H locs hP hD hS => ?_)
  refine lv_istore_n (lv' := [(3, .int r10), (0, .ref a_t), (1, .int x1)]) hx hb dX12_findTurns_93 rfl hl (by decide) rfl (fun ls hl => ?_)
  refine lv_aload_n hx hb dX12_findTurns_94 rfl (lv_at hl 1 rfl) ?_
  refine lv_iload_n hx hb dX12_findTurns_95 rfl (lv_at hl 0 rfl) ?_
  obtain ⟨r11, hgr11, hf⟩ := jM_some hf
  refine jcV_i0 (As := [.int r10]) (rest := []) ⟨hx, hb, hml, hown, hts⟩ hK hN hA (c_X12_indexOf l G D cI cB cZ a_t aX u_t_code s_t_n u_t_ahead u_t_length u_t_begins u_t_sort u_t_value u_t_letters u_t_word u_t_wrongAt u_t_laterFault u_t_laterPlace u_t_newClasses u_t_newLines u_t_shortest u_t_orders u_t_rowNumber u_t_ties s_t_turns r_t_turn r10 hgr11) (cwV 1 hts (wG_V k_ml_X12_375 k_im_X12_indexOf k_se_X12_indexOf k_in_X12 k_co_X12_indexOf) rfl rfl rfl hd_X12_indexOf ⟨Nat.le_of_ble_eq_true rfl, Nat.le_of_ble_eq_true rfl⟩) hP hD hS [0, 2] rfl rfl rfl (ci := 11) rfl 0 rfl rfl rfl hl.1 rfl (Nat.le_of_ble_eq_true rfl) dX12_findTurns_96 ⟨Nat.le_of_ble_eq_true rfl, Nat.le_of_ble_eq_true rfl⟩ (fun H locs hP hD hS => ?_)
  refine lv_iconst (v := (-1 : Int32)) hx hb dX12_findTurns_99 (by decide) ?_
  refine lv_icmp_ne (tgt := 123) hx hb dX12_findTurns_100 (by decide) (fun c12 => ?_) (fun c12 => ?_)
  · replace hf := jif_f c12 hf
    exact t_X12_findTurns_j123 G D cI cB cZ a_t aX u_t_code u_t_ahead u_t_length u_t_begins u_t_sort u_t_value u_t_letters u_t_word u_t_wrongAt u_t_laterFault u_t_laterPlace u_t_newClasses u_t_newLines u_t_shortest u_t_orders u_t_rowNumber u_t_ties s_t_n r_t_child r_t_weds s_t_turns r_t_turn x1 C hf K hP hD hS (lv_sub hl [1, 2] rfl)
  · replace hf := jif_t c12 hf
    refine lv_aload_n hx hb dX12_findTurns_103 rfl (lv_at hl 1 rfl) ?_
    refine va_get (D := D) (ci := 11) (v := .ref (aX 55)) (C := RX12) (T := TX12) (N := 74) hx hb hts iw_X12 hown hK hP 0 rfl rfl 55 (by decide) (hts _ (wG_in k_fl_X12_131 rfl)) (fun _ h9 => h9) rfl dX12_findTurns_104 ?_
    refine lv_aload_n hx hb dX12_findTurns_107 rfl (lv_at hl 1 rfl) ?_
    refine va_get (D := D) (ci := 11) (v := .int s_t_turns) (C := RX12) (T := TX12) (N := 74) hx hb hts iw_X12 hown hK hP 0 rfl rfl 54 (by decide) (hts _ (wG_in k_fl_X12_344 rfl)) (fun _ h9 => h9) rfl dX12_findTurns_108 ?_
    refine lv_iload_n hx hb dX12_findTurns_111 rfl (lv_at hl 0 rfl) ?_
    obtain ⟨q13, hq13, iq13, hf⟩ := jS_some hf
    refine ja_iast (P := r_t_turn) (P' := q13) hx hb hK hP hD hS 2 0 rfl rfl hq13 iq13 dX12_findTurns_112 (fun H locs hP hD hS => ?_)
    have hP : va_P D vwCl (w_X12_findTurns cI cB cZ a_t aX u_t_code u_t_ahead u_t_length u_t_begins u_t_sort u_t_value u_t_letters u_t_word u_t_wrongAt u_t_laterFault u_t_laterPlace u_t_newClasses u_t_newLines u_t_shortest u_t_orders u_t_rowNumber u_t_ties s_t_n s_t_turns r_t_child q13 r_t_weds) H := hP
    have hD : va_D A (w_X12_findTurns cI cB cZ a_t aX u_t_code u_t_ahead u_t_length u_t_begins u_t_sort u_t_value u_t_letters u_t_word u_t_wrongAt u_t_laterFault u_t_laterPlace u_t_newClasses u_t_newLines u_t_shortest u_t_orders u_t_rowNumber u_t_ties s_t_n s_t_turns r_t_child q13 r_t_weds) := hD
    refine lv_aload_n hx hb dX12_findTurns_113 rfl (lv_at hl 1 rfl) ?_
    refine lv_dup hx hb dX12_findTurns_114 rfl ?_
    refine va_get (D := D) (ci := 11) (v := .int s_t_turns) (C := RX12) (T := TX12) (N := 74) hx hb hts iw_X12 hown hK hP 0 rfl rfl 54 (by decide) (hts _ (wG_in k_fl_X12_344 rfl)) (fun _ h9 => h9) rfl dX12_findTurns_115 ?_
    refine lv_iconst (v := (1 : Int32)) hx hb dX12_findTurns_118 (by decide) ?_
    refine lv_iadd hx hb dX12_findTurns_119 ?_
    obtain ⟨v14, hv14, hf⟩ := jV_some hf
    refine jtop hv14 ?_
    refine va_put (D := D) (ci := 11) (v := .int v14) (ty := .int) (C := RX12) (T := TX12) (N := 74) hx hb hts iw_X12 tyX12 tyX12_ok nmX12 hown hK hP hD hS 0 rfl rfl 54 (by decide) (hts _ (wG_in k_fl_X12_344 rfl)) (fun _ h9 => h9) rfl (tyX12_ok 54 (by decide)) rfl rfl (Nat.le_of_ble_eq_true rfl) dX12_findTurns_120 (fun H locs hP hD hS => ?_)
    have hP : va_P D vwCl (w_X12_findTurns cI cB cZ a_t aX u_t_code u_t_ahead u_t_length u_t_begins u_t_sort u_t_value u_t_letters u_t_word u_t_wrongAt u_t_laterFault u_t_laterPlace u_t_newClasses u_t_newLines u_t_shortest u_t_orders u_t_rowNumber u_t_ties s_t_n v14 r_t_child q13 r_t_weds) H := hP
    have hD : va_D A (w_X12_findTurns cI cB cZ a_t aX u_t_code u_t_ahead u_t_length u_t_begins u_t_sort u_t_value u_t_letters u_t_word u_t_wrongAt u_t_laterFault u_t_laterPlace u_t_newClasses u_t_newLines u_t_shortest u_t_orders u_t_rowNumber u_t_ties s_t_n v14 r_t_child q13 r_t_weds) := hD
    exact t_X12_findTurns_j123 G D cI cB cZ a_t aX u_t_code u_t_ahead u_t_length u_t_begins u_t_sort u_t_value u_t_letters u_t_word u_t_wrongAt u_t_laterFault u_t_laterPlace u_t_newClasses u_t_newLines u_t_shortest u_t_orders u_t_rowNumber u_t_ties s_t_n r_t_child r_t_weds v14 q13 x1 C hf K hP hD hS (lv_sub hl [1, 2] rfl)
def f_X12_findTurns_b17 (s_t_n : Int32) (r_t_child r_t_weds : jA) (s_t_turns : Int32) (r_t_turn : jA) (x1 : Int32) : Option ((Int32 × jA × Int32) ⊕ ((Int32 × jA))) :=
  if s_t_turns ≤ x1 then
  some (Sum.inr (s_t_turns, r_t_turn))
  else
  if (500 : Int32) < s_t_turns then
  some (Sum.inr (s_t_turns, r_t_turn))
  else
  jL r_t_turn x1 fun v5 =>
  jM (f_X12_behind r_t_weds s_t_n v5) fun r6 =>
  jM (f_X12_indexOf s_t_turns r_t_turn r6) fun r7 =>
  if r7 = (-1 : Int32) then
  jS r_t_turn s_t_turns r6 fun q15 =>
  jV (s_t_turns + (1 : Int32)) fun v16 =>
  f_X12_findTurns_j79 s_t_n r_t_child v16 q15 x1
  else
  f_X12_findTurns_j79 s_t_n r_t_child s_t_turns r_t_turn x1
set_option maxHeartbeats 4000000 in
set_option maxRecDepth 100000 in
theorem t_X12_findTurns_b17 {p : Program} {l : Launch} {e : Env} {s : State} {m : MethodId} {args : Array Value} {below : List Frame} {meth : Method} {c : Code} {A : Nat → Prop} {Q : State → Prop} (G : jGt) (D : va_G) (cI cB cZ : ClassId) (a_t : Nat) (aX : Nat → Nat) (u_t_code u_t_ahead u_t_length u_t_begins u_t_sort u_t_value u_t_letters : Int32) (u_t_word : Int64) (u_t_wrongAt u_t_laterFault u_t_laterPlace u_t_newClasses u_t_newLines u_t_shortest u_t_orders u_t_rowNumber u_t_ties s_t_n : Int32) (r_t_child r_t_weds : jA) (s_t_turns : Int32) (r_t_turn : jA) (x1 : Int32) (C : jCx p s m args c cX12_findTurns 4 gX12_findTurns RX12 G D (jT cI cB cZ) A) {o : (Int32 × jA × Int32) ⊕ ((Int32 × jA))} (hf : f_X12_findTurns_b17 s_t_n r_t_child r_t_weds s_t_turns r_t_turn x1 = some o) (K : (∀ z, o = Sum.inl z → ∀ (H : Heap) (locs : List Loc) (ls : Array Slot), va_P D vwCl (w_X12_findTurns cI cB cZ a_t aX u_t_code u_t_ahead u_t_length u_t_begins u_t_sort u_t_value u_t_letters u_t_word u_t_wrongAt u_t_laterFault u_t_laterPlace u_t_newClasses u_t_newLines u_t_shortest u_t_orders u_t_rowNumber u_t_ties s_t_n z.1 r_t_child z.2.1 r_t_weds) H → va_D A (w_X12_findTurns cI cB cZ a_t aX u_t_code u_t_ahead u_t_length u_t_begins u_t_sort u_t_value u_t_letters u_t_word u_t_wrongAt u_t_laterFault u_t_laterPlace u_t_newClasses u_t_newLines u_t_shortest u_t_orders u_t_rowNumber u_t_ties s_t_n z.1 r_t_child z.2.1 r_t_weds) → va_S A s.heap H locs → lv_has ls 4 [(0, .ref a_t), (1, .int z.2.2)] → W p l e rX12_findTurns s m args below meth c H locs 0 0 Q (F0 m 17 ls [])) ∧ (∀ z, o = Sum.inr z → ∀ (H : Heap) (locs : List Loc) (ls : Array Slot), va_P D vwCl (w_X12_findTurns cI cB cZ a_t aX u_t_code u_t_ahead u_t_length u_t_begins u_t_sort u_t_value u_t_letters u_t_word u_t_wrongAt u_t_laterFault u_t_laterPlace u_t_newClasses u_t_newLines u_t_shortest u_t_orders u_t_rowNumber u_t_ties s_t_n z.1 r_t_child z.2 r_t_weds) H → va_D A (w_X12_findTurns cI cB cZ a_t aX u_t_code u_t_ahead u_t_length u_t_begins u_t_sort u_t_value u_t_letters u_t_word u_t_wrongAt u_t_laterFault u_t_laterPlace u_t_newClasses u_t_newLines u_t_shortest u_t_orders u_t_rowNumber u_t_ties s_t_n z.1 r_t_child z.2 r_t_weds) → va_S A s.heap H locs → lv_has ls 4 [] → W p l e rX12_findTurns s m args below meth c H locs 0 0 Q (F0 m 129 ls []))) {H : Heap} {locs : List Loc} {ls : Array Slot} (hP : va_P D vwCl (w_X12_findTurns cI cB cZ a_t aX u_t_code u_t_ahead u_t_length u_t_begins u_t_sort u_t_value u_t_letters u_t_word u_t_wrongAt u_t_laterFault u_t_laterPlace u_t_newClasses u_t_newLines u_t_shortest u_t_orders u_t_rowNumber u_t_ties s_t_n s_t_turns r_t_child r_t_turn r_t_weds) H) (hD : va_D A (w_X12_findTurns cI cB cZ a_t aX u_t_code u_t_ahead u_t_length u_t_begins u_t_sort u_t_value u_t_letters u_t_word u_t_wrongAt u_t_laterFault u_t_laterPlace u_t_newClasses u_t_newLines u_t_shortest u_t_orders u_t_rowNumber u_t_ties s_t_n s_t_turns r_t_child r_t_turn r_t_weds)) (hS : va_S A s.heap H locs) (hl : lv_has ls 4 [(0, .ref a_t), (1, .int x1)]) : W p l e rX12_findTurns s m args below meth c H locs 0 0 Q (F0 m 17 ls []) := by
  obtain ⟨⟨hx, hb, hml, hown, hts⟩, hK, hN, hA⟩ := C
  have C : jCx p s m args c cX12_findTurns 4 gX12_findTurns RX12 G D (jT cI cB cZ) A := ⟨⟨hx, hb, hml, hown, hts⟩, hK, hN, hA⟩
  unfold f_X12_findTurns_b17 at hf
  refine lv_iload_n hx hb dX12_findTurns_17 rfl (lv_at hl 1 rfl) ?_
  refine lv_aload_n hx hb dX12_findTurns_18 rfl (lv_at hl 0 rfl) ?_
  refine va_get (D := D) (ci := 11) (v := .int s_t_turns) (C := RX12) (T := TX12) (N := 74) hx hb hts iw_X12 hown hK hP 0 rfl rfl 54 (by decide) (hts _ (wG_in k_fl_X12_344 rfl)) (fun _ h9 => h9) rfl dX12_findTurns_19 ?_
  refine lv_icmp_ge (tgt := 129) hx hb dX12_findTurns_22 (by decide) (fun c3 => ?_) (fun c3 => ?_)
  · replace hf := jif_t c3 hf
    have ho := Option.some.inj hf
    exact (K.2 _ ho.symm) _ _ _ hP hD hS (lv_sub hl [] rfl)
  · replace hf := jif_f c3 hf
    refine lv_aload_n hx hb dX12_findTurns_25 rfl (lv_at hl 0 rfl) ?_
    refine va_get (D := D) (ci := 11) (v := .int s_t_turns) (C := RX12) (T := TX12) (N := 74) hx hb hts iw_X12 hown hK hP 0 rfl rfl 54 (by decide) (hts _ (wG_in k_fl_X12_344 rfl)) (fun _ h9 => h9) rfl dX12_findTurns_26 ?_
    refine lv_sipush (v := (500 : Int32)) hx hb dX12_findTurns_29 (by decide) ?_
    refine lv_icmp_gt (tgt := 129) hx hb dX12_findTurns_32 (by decide) (fun c4 => ?_) (fun c4 => ?_)
    · replace hf := jif_t c4 hf
      have ho := Option.some.inj hf
      exact (K.2 _ ho.symm) _ _ _ hP hD hS (lv_sub hl [] rfl)
    · replace hf := jif_f c4 hf
      refine lv_aload_n hx hb dX12_findTurns_35 rfl (lv_at hl 0 rfl) ?_
      refine lv_aload_n hx hb dX12_findTurns_36 rfl (lv_at hl 0 rfl) ?_
      refine va_get (D := D) (ci := 11) (v := .ref (aX 55)) (C := RX12) (T := TX12) (N := 74) hx hb hts iw_X12 hown hK hP 0 rfl rfl 55 (by decide) (hts _ (wG_in k_fl_X12_131 rfl)) (fun _ h9 => h9) rfl dX12_findTurns_37 ?_
      refine lv_iload_n hx hb dX12_findTurns_40 rfl (lv_at hl 1 rfl) ?_
      obtain ⟨v5, hv5, iv5, hf⟩ := jL_some hf
      refine ja_iald (P := r_t_turn) hx hb hK hP 2 0 rfl rfl hv5 iv5 dX12_findTurns_41 ?_
      refine lv_aload_n hx hb dX12_findTurns_42 rfl (lv_at hl 0 rfl) ?_
      refine va_get (D := D) (ci := 11) (v := .ref (aX 32)) (C := RX12) (T := TX12) (N := 74) hx hb hts iw_X12 hown hK hP 0 rfl rfl 32 (by decide) (hts _ (wG_in k_fl_X12_101 rfl)) (fun _ h9 => h9) rfl dX12_findTurns_43 ?_
      obtain ⟨r6, hgr6, hf⟩ := jM_some hf
      refine jcV_i0 (As := [.int v5, .ref (aX 32)]) (rest := []) ⟨hx, hb, hml, hown, hts⟩ hK hN hA (c_X12_behind l G D cI cB cZ (aX 32) a_t aX u_t_code u_t_ahead u_t_length u_t_begins u_t_sort u_t_value u_t_letters u_t_word u_t_wrongAt u_t_laterFault u_t_laterPlace u_t_newClasses u_t_newLines s_t_turns u_t_shortest u_t_orders u_t_rowNumber u_t_ties r_t_weds s_t_n v5 hgr6) (cwV 2 hts (wG_V k_ml_X12_371 k_im_X12_behind k_se_X12_behind k_in_X12 k_co_X12_behind) rfl rfl rfl hd_X12_behind ⟨Nat.le_of_ble_eq_true rfl, Nat.le_of_ble_eq_true rfl⟩) hP hD hS [3, 0] rfl rfl rfl (ci := 11) rfl 0 rfl rfl rfl hl.1 rfl (Nat.le_of_ble_eq_true rfl) dX12_findTurns_46 ⟨Nat.le_of_ble_eq_true rfl, Nat.le_of_ble_eq_true rfl⟩ (fun H locs hP hD hS => ?_)
      refine lv_istore_n (lv' := [(2, .int r6), (0, .ref a_t), (1, .int x1)]) hx hb dX12_findTurns_49 rfl hl (by decide) rfl (fun ls hl => ?_)
      refine lv_aload_n hx hb dX12_findTurns_50 rfl (lv_at hl 1 rfl) ?_
      refine lv_iload_n hx hb dX12_findTurns_51 rfl (lv_at hl 0 rfl) ?_
      obtain ⟨r7, hgr7, hf⟩ := jM_some hf
      refine jcV_i0 (As := [.int r6]) (rest := []) ⟨hx, hb, hml, hown, hts⟩ hK hN hA (c_X12_indexOf l G D cI cB cZ a_t aX u_t_code s_t_n u_t_ahead u_t_length u_t_begins u_t_sort u_t_value u_t_letters u_t_word u_t_wrongAt u_t_laterFault u_t_laterPlace u_t_newClasses u_t_newLines u_t_shortest u_t_orders u_t_rowNumber u_t_ties s_t_turns r_t_turn r6 hgr7) (cwV 1 hts (wG_V k_ml_X12_375 k_im_X12_indexOf k_se_X12_indexOf k_in_X12 k_co_X12_indexOf) rfl rfl rfl hd_X12_indexOf ⟨Nat.le_of_ble_eq_true rfl, Nat.le_of_ble_eq_true rfl⟩) hP hD hS [0, 2] rfl rfl rfl (ci := 11) rfl 0 rfl rfl rfl hl.1 rfl (Nat.le_of_ble_eq_true rfl) dX12_findTurns_52 ⟨Nat.le_of_ble_eq_true rfl, Nat.le_of_ble_eq_true rfl⟩ (fun H locs hP hD hS => ?_)
      refine lv_iconst (v := (-1 : Int32)) hx hb dX12_findTurns_55 (by decide) ?_
      refine lv_icmp_ne (tgt := 79) hx hb dX12_findTurns_56 (by decide) (fun c8 => ?_) (fun c8 => ?_)
      · replace hf := jif_f c8 hf
        exact t_X12_findTurns_j79 G D cI cB cZ a_t aX u_t_code u_t_ahead u_t_length u_t_begins u_t_sort u_t_value u_t_letters u_t_word u_t_wrongAt u_t_laterFault u_t_laterPlace u_t_newClasses u_t_newLines u_t_shortest u_t_orders u_t_rowNumber u_t_ties s_t_n r_t_child r_t_weds s_t_turns r_t_turn x1 C hf K hP hD hS (lv_sub hl [1, 2] rfl)
      · replace hf := jif_t c8 hf
        refine lv_aload_n hx hb dX12_findTurns_59 rfl (lv_at hl 1 rfl) ?_
        refine va_get (D := D) (ci := 11) (v := .ref (aX 55)) (C := RX12) (T := TX12) (N := 74) hx hb hts iw_X12 hown hK hP 0 rfl rfl 55 (by decide) (hts _ (wG_in k_fl_X12_131 rfl)) (fun _ h9 => h9) rfl dX12_findTurns_60 ?_
        refine lv_aload_n hx hb dX12_findTurns_63 rfl (lv_at hl 1 rfl) ?_
        refine va_get (D := D) (ci := 11) (v := .int s_t_turns) (C := RX12) (T := TX12) (N := 74) hx hb hts iw_X12 hown hK hP 0 rfl rfl 54 (by decide) (hts _ (wG_in k_fl_X12_344 rfl)) (fun _ h9 => h9) rfl dX12_findTurns_64 ?_
        refine lv_iload_n hx hb dX12_findTurns_67 rfl (lv_at hl 0 rfl) ?_
        obtain ⟨q15, hq15, iq15, hf⟩ := jS_some hf
        refine ja_iast (P := r_t_turn) (P' := q15) hx hb hK hP hD hS 2 0 rfl rfl hq15 iq15 dX12_findTurns_68 (fun H locs hP hD hS => ?_)
        have hP : va_P D vwCl (w_X12_findTurns cI cB cZ a_t aX u_t_code u_t_ahead u_t_length u_t_begins u_t_sort u_t_value u_t_letters u_t_word u_t_wrongAt u_t_laterFault u_t_laterPlace u_t_newClasses u_t_newLines u_t_shortest u_t_orders u_t_rowNumber u_t_ties s_t_n s_t_turns r_t_child q15 r_t_weds) H := hP
        have hD : va_D A (w_X12_findTurns cI cB cZ a_t aX u_t_code u_t_ahead u_t_length u_t_begins u_t_sort u_t_value u_t_letters u_t_word u_t_wrongAt u_t_laterFault u_t_laterPlace u_t_newClasses u_t_newLines u_t_shortest u_t_orders u_t_rowNumber u_t_ties s_t_n s_t_turns r_t_child q15 r_t_weds) := hD
        refine lv_aload_n hx hb dX12_findTurns_69 rfl (lv_at hl 1 rfl) ?_
        refine lv_dup hx hb dX12_findTurns_70 rfl ?_
        refine va_get (D := D) (ci := 11) (v := .int s_t_turns) (C := RX12) (T := TX12) (N := 74) hx hb hts iw_X12 hown hK hP 0 rfl rfl 54 (by decide) (hts _ (wG_in k_fl_X12_344 rfl)) (fun _ h9 => h9) rfl dX12_findTurns_71 ?_
        refine lv_iconst (v := (1 : Int32)) hx hb dX12_findTurns_74 (by decide) ?_
        refine lv_iadd hx hb dX12_findTurns_75 ?_
        obtain ⟨v16, hv16, hf⟩ := jV_some hf
        refine jtop hv16 ?_
        refine va_put (D := D) (ci := 11) (v := .int v16) (ty := .int) (C := RX12) (T := TX12) (N := 74) hx hb hts iw_X12 tyX12 tyX12_ok nmX12 hown hK hP hD hS 0 rfl rfl 54 (by decide) (hts _ (wG_in k_fl_X12_344 rfl)) (fun _ h9 => h9) rfl (tyX12_ok 54 (by decide)) rfl rfl (Nat.le_of_ble_eq_true rfl) dX12_findTurns_76 (fun H locs hP hD hS => ?_)
        have hP : va_P D vwCl (w_X12_findTurns cI cB cZ a_t aX u_t_code u_t_ahead u_t_length u_t_begins u_t_sort u_t_value u_t_letters u_t_word u_t_wrongAt u_t_laterFault u_t_laterPlace u_t_newClasses u_t_newLines u_t_shortest u_t_orders u_t_rowNumber u_t_ties s_t_n v16 r_t_child q15 r_t_weds) H := hP
        have hD : va_D A (w_X12_findTurns cI cB cZ a_t aX u_t_code u_t_ahead u_t_length u_t_begins u_t_sort u_t_value u_t_letters u_t_word u_t_wrongAt u_t_laterFault u_t_laterPlace u_t_newClasses u_t_newLines u_t_shortest u_t_orders u_t_rowNumber u_t_ties s_t_n v16 r_t_child q15 r_t_weds) := hD
        exact t_X12_findTurns_j79 G D cI cB cZ a_t aX u_t_code u_t_ahead u_t_length u_t_begins u_t_sort u_t_value u_t_letters u_t_word u_t_wrongAt u_t_laterFault u_t_laterPlace u_t_newClasses u_t_newLines u_t_shortest u_t_orders u_t_rowNumber u_t_ties s_t_n r_t_child r_t_weds v16 q15 x1 C hf K hP hD hS (lv_sub hl [1, 2] rfl)
def f_X12_findTurns_l17 (s_t_n : Int32) (r_t_child r_t_weds : jA) (s_t_turns : Int32) (r_t_turn : jA) (x1 : Int32) : Option ((Int32 × jA)) :=
  jI (fun z => f_X12_findTurns_b17 s_t_n r_t_child r_t_weds z.1 z.2.1 z.2.2) jF (s_t_turns, r_t_turn, x1)
set_option maxHeartbeats 4000000 in
set_option maxRecDepth 100000 in
theorem t_X12_findTurns_l17 {p : Program} {l : Launch} {e : Env} {s : State} {m : MethodId} {args : Array Value} {below : List Frame} {meth : Method} {c : Code} {A : Nat → Prop} {Q : State → Prop} (G : jGt) (D : va_G) (cI cB cZ : ClassId) (a_t : Nat) (aX : Nat → Nat) (u_t_code u_t_ahead u_t_length u_t_begins u_t_sort u_t_value u_t_letters : Int32) (u_t_word : Int64) (u_t_wrongAt u_t_laterFault u_t_laterPlace u_t_newClasses u_t_newLines u_t_shortest u_t_orders u_t_rowNumber u_t_ties s_t_n : Int32) (r_t_child r_t_weds : jA)  (C : jCx p s m args c cX12_findTurns 4 gX12_findTurns RX12 G D (jT cI cB cZ) A) : ∀ (n : Nat) (s_t_turns : Int32) (r_t_turn : jA) (x1 : Int32) {eo : (Int32 × jA)}, jI (fun z => f_X12_findTurns_b17 s_t_n r_t_child r_t_weds z.1 z.2.1 z.2.2) n (s_t_turns, r_t_turn, x1) = some eo → (∀ (H : Heap) (locs : List Loc) (ls : Array Slot), va_P D vwCl (w_X12_findTurns cI cB cZ a_t aX u_t_code u_t_ahead u_t_length u_t_begins u_t_sort u_t_value u_t_letters u_t_word u_t_wrongAt u_t_laterFault u_t_laterPlace u_t_newClasses u_t_newLines u_t_shortest u_t_orders u_t_rowNumber u_t_ties s_t_n eo.1 r_t_child eo.2 r_t_weds) H → va_D A (w_X12_findTurns cI cB cZ a_t aX u_t_code u_t_ahead u_t_length u_t_begins u_t_sort u_t_value u_t_letters u_t_word u_t_wrongAt u_t_laterFault u_t_laterPlace u_t_newClasses u_t_newLines u_t_shortest u_t_orders u_t_rowNumber u_t_ties s_t_n eo.1 r_t_child eo.2 r_t_weds) → va_S A s.heap H locs → lv_has ls 4 [] → W p l e rX12_findTurns s m args below meth c H locs 0 0 Q (F0 m 129 ls [])) → ∀ (H : Heap) (locs : List Loc) (ls : Array Slot), va_P D vwCl (w_X12_findTurns cI cB cZ a_t aX u_t_code u_t_ahead u_t_length u_t_begins u_t_sort u_t_value u_t_letters u_t_word u_t_wrongAt u_t_laterFault u_t_laterPlace u_t_newClasses u_t_newLines u_t_shortest u_t_orders u_t_rowNumber u_t_ties s_t_n s_t_turns r_t_child r_t_turn r_t_weds) H → va_D A (w_X12_findTurns cI cB cZ a_t aX u_t_code u_t_ahead u_t_length u_t_begins u_t_sort u_t_value u_t_letters u_t_word u_t_wrongAt u_t_laterFault u_t_laterPlace u_t_newClasses u_t_newLines u_t_shortest u_t_orders u_t_rowNumber u_t_ties s_t_n s_t_turns r_t_child r_t_turn r_t_weds) → va_S A s.heap H locs → lv_has ls 4 [(0, .ref a_t), (1, .int x1)] → W p l e rX12_findTurns s m args below meth c H locs 0 0 Q (F0 m 17 ls []) := by
  intro n
  induction n with
  | zero =>
    intro s_t_turns r_t_turn x1 eo hf
    exact (jI_zero hf).elim
  | succ n ih =>
    intro s_t_turns r_t_turn x1 eo hf K H locs ls hP hD hS hl
    obtain ⟨o, hb1, ho⟩ := jI_some hf
    rcases ho with ⟨z, rfl, hf2⟩ | rfl
    · exact t_X12_findTurns_b17 G D cI cB cZ a_t aX u_t_code u_t_ahead u_t_length u_t_begins u_t_sort u_t_value u_t_letters u_t_word u_t_wrongAt u_t_laterFault u_t_laterPlace u_t_newClasses u_t_newLines u_t_shortest u_t_orders u_t_rowNumber u_t_ties s_t_n r_t_child r_t_weds s_t_turns r_t_turn x1 C hb1 ⟨fun z2 hz H locs ls hP hD hS hl => by cases hz; exact ih z.1 z.2.1 z.2.2 hf2 K H locs ls hP hD hS hl, fun z2 hz => by cases hz⟩ hP hD hS hl
    · exact t_X12_findTurns_b17 G D cI cB cZ a_t aX u_t_code u_t_ahead u_t_length u_t_begins u_t_sort u_t_value u_t_letters u_t_word u_t_wrongAt u_t_laterFault u_t_laterPlace u_t_newClasses u_t_newLines u_t_shortest u_t_orders u_t_rowNumber u_t_ties s_t_n r_t_child r_t_weds s_t_turns r_t_turn x1 C hb1 ⟨fun z2 hz => (by cases hz), fun z2 hz => by cases hz; exact K⟩ hP hD hS hl
def f_X12_findTurns (s_t_n : Int32) (r_t_child r_t_weds : jA) (s_t_turns : Int32) (r_t_turn : jA) : Option (Int32 × jA) :=
  jM (f_X12_self s_t_n) fun r1 =>
  jS r_t_turn (0 : Int32) r1 fun q2 =>
  jM (f_X12_findTurns_l17 s_t_n r_t_child r_t_weds (1 : Int32) q2 (0 : Int32)) fun e17 =>
  some (e17.1, e17.2)
set_option maxHeartbeats 4000000 in
set_option maxRecDepth 100000 in
theorem t_X12_findTurns {p : Program} {l : Launch} {e : Env} {s : State} {m : MethodId} {args : Array Value} {below : List Frame} {meth : Method} {c : Code} {A : Nat → Prop} {Q : State → Prop} (G : jGt) (D : va_G) (cI cB cZ : ClassId) (a_t : Nat) (aX : Nat → Nat) (u_t_code u_t_ahead u_t_length u_t_begins u_t_sort u_t_value u_t_letters : Int32) (u_t_word : Int64) (u_t_wrongAt u_t_laterFault u_t_laterPlace u_t_newClasses u_t_newLines u_t_shortest u_t_orders u_t_rowNumber u_t_ties s_t_n : Int32) (r_t_child r_t_weds : jA) (s_t_turns : Int32) (r_t_turn : jA) (C : jCx p s m args c cX12_findTurns 4 gX12_findTurns RX12 G D (jT cI cB cZ) A) {o : Int32 × jA} (hf : f_X12_findTurns s_t_n r_t_child r_t_weds s_t_turns r_t_turn = some o) (K : ∀ (H : Heap) (locs : List Loc) (pc : Nat) (ls : Array Slot), va_P D vwCl (w_X12_findTurns cI cB cZ a_t aX u_t_code u_t_ahead u_t_length u_t_begins u_t_sort u_t_value u_t_letters u_t_word u_t_wrongAt u_t_laterFault u_t_laterPlace u_t_newClasses u_t_newLines u_t_shortest u_t_orders u_t_rowNumber u_t_ties s_t_n o.1 r_t_child o.2 r_t_weds) H → va_S A s.heap H locs → decode cX12_findTurns pc = .ok (.return_, 1) → W p l e rX12_findTurns s m args below meth c H locs 0 0 Q (F0 m pc ls [])) {H : Heap} {locs : List Loc} {ls : Array Slot} (hP : va_P D vwCl (w_X12_findTurns cI cB cZ a_t aX u_t_code u_t_ahead u_t_length u_t_begins u_t_sort u_t_value u_t_letters u_t_word u_t_wrongAt u_t_laterFault u_t_laterPlace u_t_newClasses u_t_newLines u_t_shortest u_t_orders u_t_rowNumber u_t_ties s_t_n s_t_turns r_t_child r_t_turn r_t_weds) H) (hD : va_D A (w_X12_findTurns cI cB cZ a_t aX u_t_code u_t_ahead u_t_length u_t_begins u_t_sort u_t_value u_t_letters u_t_word u_t_wrongAt u_t_laterFault u_t_laterPlace u_t_newClasses u_t_newLines u_t_shortest u_t_orders u_t_rowNumber u_t_ties s_t_n s_t_turns r_t_child r_t_turn r_t_weds)) (hS : va_S A s.heap H locs) (hl : lv_has ls 4 [(0, .ref a_t)]) : W p l e rX12_findTurns s m args below meth c H locs 0 0 Q (F0 m 0 ls []) := by
  obtain ⟨⟨hx, hb, hml, hown, hts⟩, hK, hN, hA⟩ := C
  have C : jCx p s m args c cX12_findTurns 4 gX12_findTurns RX12 G D (jT cI cB cZ) A := ⟨⟨hx, hb, hml, hown, hts⟩, hK, hN, hA⟩
  unfold f_X12_findTurns at hf
  refine lv_aload_n hx hb dX12_findTurns_0 rfl (lv_at hl 0 rfl) ?_
  refine lv_iconst (v := (1 : Int32)) hx hb dX12_findTurns_1 (by decide) ?_
  refine va_put (D := D) (ci := 11) (v := .int (1 : Int32)) (ty := .int) (C := RX12) (T := TX12) (N := 74) hx hb hts iw_X12 tyX12 tyX12_ok nmX12 hown hK hP hD hS 0 rfl rfl 54 (by decide) (hts _ (wG_in k_fl_X12_344 rfl)) (fun _ h9 => h9) rfl (tyX12_ok 54 (by decide)) rfl rfl (Nat.le_of_ble_eq_true rfl) dX12_findTurns_2 (fun H locs hP hD hS => ?_)
  have hP : va_P D vwCl (w_X12_findTurns cI cB cZ a_t aX u_t_code u_t_ahead u_t_length u_t_begins u_t_sort u_t_value u_t_letters u_t_word u_t_wrongAt u_t_laterFault u_t_laterPlace u_t_newClasses u_t_newLines u_t_shortest u_t_orders u_t_rowNumber u_t_ties s_t_n (1 : Int32) r_t_child r_t_turn r_t_weds) H := hP
  have hD : va_D A (w_X12_findTurns cI cB cZ a_t aX u_t_code u_t_ahead u_t_length u_t_begins u_t_sort u_t_value u_t_letters u_t_word u_t_wrongAt u_t_laterFault u_t_laterPlace u_t_newClasses u_t_newLines u_t_shortest u_t_orders u_t_rowNumber u_t_ties s_t_n (1 : Int32) r_t_child r_t_turn r_t_weds) := hD
  refine lv_aload_n hx hb dX12_findTurns_5 rfl (lv_at hl 0 rfl) ?_
  refine va_get (D := D) (ci := 11) (v := .ref (aX 55)) (C := RX12) (T := TX12) (N := 74) hx hb hts iw_X12 hown hK hP 0 rfl rfl 55 (by decide) (hts _ (wG_in k_fl_X12_131 rfl)) (fun _ h9 => h9) rfl dX12_findTurns_6 ?_
  refine lv_iconst (v := (0 : Int32)) hx hb dX12_findTurns_9 (by decide) ?_
  refine lv_aload_n hx hb dX12_findTurns_10 rfl (lv_at hl 0 rfl) ?_
  obtain ⟨r1, hgr1, hf⟩ := jM_some hf
  refine jcV_i0 (As := []) (rest := [.int (0 : Int32), .ref (aX 55)]) ⟨hx, hb, hml, hown, hts⟩ hK hN hA (c_X12_self l G D cI cB cZ a_t aX u_t_code u_t_ahead u_t_length u_t_begins u_t_sort u_t_value u_t_letters u_t_word u_t_wrongAt u_t_laterFault u_t_laterPlace u_t_newClasses u_t_newLines (1 : Int32) u_t_shortest u_t_orders u_t_rowNumber u_t_ties s_t_n hgr1) (cwV 0 hts (wG_V k_ml_X12_368 k_im_X12_self k_se_X12_self k_in_X12 k_co_X12_self) rfl rfl rfl hd_X12_self ⟨Nat.le_of_ble_eq_true rfl, Nat.le_of_ble_eq_true rfl⟩) hP hD hS [0] rfl rfl rfl (ci := 11) rfl 0 rfl rfl rfl hl.1 rfl (Nat.le_of_ble_eq_true rfl) dX12_findTurns_11 ⟨Nat.le_of_ble_eq_true rfl, Nat.le_of_ble_eq_true rfl⟩ (fun H locs hP hD hS => ?_)
  obtain ⟨q2, hq2, iq2, hf⟩ := jS_some hf
  refine ja_iast (P := r_t_turn) (P' := q2) hx hb hK hP hD hS 2 0 rfl rfl hq2 iq2 dX12_findTurns_14 (fun H locs hP hD hS => ?_)
  have hP : va_P D vwCl (w_X12_findTurns cI cB cZ a_t aX u_t_code u_t_ahead u_t_length u_t_begins u_t_sort u_t_value u_t_letters u_t_word u_t_wrongAt u_t_laterFault u_t_laterPlace u_t_newClasses u_t_newLines u_t_shortest u_t_orders u_t_rowNumber u_t_ties s_t_n (1 : Int32) r_t_child q2 r_t_weds) H := hP
  have hD : va_D A (w_X12_findTurns cI cB cZ a_t aX u_t_code u_t_ahead u_t_length u_t_begins u_t_sort u_t_value u_t_letters u_t_word u_t_wrongAt u_t_laterFault u_t_laterPlace u_t_newClasses u_t_newLines u_t_shortest u_t_orders u_t_rowNumber u_t_ties s_t_n (1 : Int32) r_t_child q2 r_t_weds) := hD
  refine lv_iconst (v := (0 : Int32)) hx hb dX12_findTurns_15 (by decide) ?_
  refine lv_istore_n (lv' := [(1, .int (0 : Int32)), (0, .ref a_t)]) hx hb dX12_findTurns_16 rfl hl (by decide) rfl (fun ls hl => ?_)
  obtain ⟨e17, hg17, hf⟩ := jM_some hf
  refine t_X12_findTurns_l17 G D cI cB cZ a_t aX u_t_code u_t_ahead u_t_length u_t_begins u_t_sort u_t_value u_t_letters u_t_word u_t_wrongAt u_t_laterFault u_t_laterPlace u_t_newClasses u_t_newLines u_t_shortest u_t_orders u_t_rowNumber u_t_ties s_t_n r_t_child r_t_weds  C jF (1 : Int32) q2 (0 : Int32) hg17 ?_ _ _ _ hP hD hS (lv_sub hl [1, 0] rfl)
  intro H locs ls hP hD hS hl
  have ho := Option.some.inj hf
  subst ho
  exact K _ _ _ _ hP hS dX12_findTurns_129
set_option maxHeartbeats 4000000 in
set_option maxRecDepth 100000 in
theorem c_X12_findTurns (l : Launch) (G : jGt) (D : va_G) (cI cB cZ : ClassId) (a_t : Nat) (aX : Nat → Nat) (u_t_code u_t_ahead u_t_length u_t_begins u_t_sort u_t_value u_t_letters : Int32) (u_t_word : Int64) (u_t_wrongAt u_t_laterFault u_t_laterPlace u_t_newClasses u_t_newLines u_t_shortest u_t_orders u_t_rowNumber u_t_ties s_t_n : Int32) (r_t_child r_t_weds : jA) (s_t_turns : Int32) (r_t_turn : jA) {o : Int32 × jA} (hf : f_X12_findTurns s_t_n r_t_child r_t_weds s_t_turns r_t_turn = some o) : jMv l yX12_findTurns gX12_findTurns rX12_findTurns G D (jT cI cB cZ) [.ref a_t] (w_X12_findTurns cI cB cZ a_t aX u_t_code u_t_ahead u_t_length u_t_begins u_t_sort u_t_value u_t_letters u_t_word u_t_wrongAt u_t_laterFault u_t_laterPlace u_t_newClasses u_t_newLines u_t_shortest u_t_orders u_t_rowNumber u_t_ties s_t_n s_t_turns r_t_child r_t_turn r_t_weds) (w_X12_findTurns cI cB cZ a_t aX u_t_code u_t_ahead u_t_length u_t_begins u_t_sort u_t_value u_t_letters u_t_word u_t_wrongAt u_t_laterFault u_t_laterPlace u_t_newClasses u_t_newLines u_t_shortest u_t_orders u_t_rowNumber u_t_ties s_t_n o.1 r_t_child o.2 r_t_weds) := by
  refine jmk_v RX12 rfl (by decide +kernel) rfl (Nat.le_of_ble_eq_true rfl) rfl ?_
  intro p e s m args below meth c ls A Q C hP hD hS hl K
  exact t_X12_findTurns G D cI cB cZ a_t aX u_t_code u_t_ahead u_t_length u_t_begins u_t_sort u_t_value u_t_letters u_t_word u_t_wrongAt u_t_laterFault u_t_laterPlace u_t_newClasses u_t_newLines u_t_shortest u_t_orders u_t_rowNumber u_t_ties s_t_n r_t_child r_t_weds s_t_turns r_t_turn C hf K hP hD hS hl
abbrev rX12_is : Room := { frames := 6, cells := 0, slots := 0, locals := 142 }
abbrev gX12_is : List Cond := wG yX12_is cX12_is 2 (some .boolean)
def w_X12_is (cI cB cZ : ClassId) (a_t : Nat) (aX : Nat → Nat) (u_t_ahead u_t_length u_t_begins u_t_sort u_t_value u_t_letters : Int32) (u_t_word : Int64) (u_t_wrongAt u_t_laterFault u_t_laterPlace u_t_newClasses u_t_newLines u_t_shortest u_t_orders u_t_rowNumber u_t_ties s_t_code s_t_n s_t_turns : Int32) (r_t_child r_t_childBack r_t_childRow r_t_classes r_t_lineKind r_t_lineLong r_t_lineWord r_t_lines r_t_turn r_t_weds r_t_wedsBack r_t_wedsRow : jA) : va_W := [(a_t, .inr (11, (oX12 aX s_t_code s_t_n u_t_ahead u_t_length u_t_begins u_t_sort u_t_value u_t_letters u_t_word u_t_wrongAt u_t_laterFault u_t_laterPlace u_t_newClasses u_t_newLines s_t_turns u_t_shortest u_t_orders u_t_rowNumber u_t_ties))), ((aX 33), .inl (cI, r_t_child.1, .inl r_t_child.2)), ((aX 35), .inl (cI, r_t_childBack.1, .inl r_t_childBack.2)), ((aX 7), .inl (cI, r_t_childRow.1, .inl r_t_childRow.2)), ((aX 5), .inl (cI, r_t_classes.1, .inl r_t_classes.2)), ((aX 9), .inl (cI, r_t_lineKind.1, .inl r_t_lineKind.2)), ((aX 11), .inl (cI, r_t_lineLong.1, .inl r_t_lineLong.2)), ((aX 10), .inl (cB, r_t_lineWord.1, .inl r_t_lineWord.2)), ((aX 8), .inl (cI, r_t_lines.1, .inl r_t_lines.2)), ((aX 55), .inl (cI, r_t_turn.1, .inl r_t_turn.2)), ((aX 32), .inl (cI, r_t_weds.1, .inl r_t_weds.2)), ((aX 34), .inl (cI, r_t_wedsBack.1, .inl r_t_wedsBack.2)), ((aX 6), .inl (cI, r_t_wedsRow.1, .inl r_t_wedsRow.2))]
def f_X12_is (r_t_childRow r_t_classes r_t_lineKind r_t_lineLong r_t_lineWord r_t_lines r_t_wedsRow : jA) (s_t_code s_t_n s_t_turns : Int32) (r_t_child r_t_childBack r_t_turn r_t_weds r_t_wedsBack : jA) (x1 : Int32) : Option (Int32 × Int32 × Int32 × Int32 × jA × jA × jA × jA × jA) :=
  jM (f_X12_bring r_t_childRow r_t_classes r_t_wedsRow s_t_n r_t_child r_t_childBack r_t_weds r_t_wedsBack) fun r1 =>
  if r1.1 = 0 then
  some ((0 : Int32), (0 : Int32), r1.2.1, s_t_turns, r1.2.2.1, r1.2.2.2.1, r_t_turn, r1.2.2.2.2.1, r1.2.2.2.2.2)
  else
  if x1 = (0 : Int32) then
  jM (f_X12_isProper r1.2.1 r1.2.2.1 r1.2.2.2.2.1) fun r4 =>
  jZ r4 (some (r4, (0 : Int32), r1.2.1, s_t_turns, r1.2.2.1, r1.2.2.2.1, r_t_turn, r1.2.2.2.2.1, r1.2.2.2.2.2))
  else if x1 = (1 : Int32) then
  jM (f_X12_findTurns r1.2.1 r1.2.2.1 r1.2.2.2.2.1 s_t_turns r_t_turn) fun r6 =>
  if r6.1 = r1.2.1 then
  jM (f_X12_isProper r1.2.1 r1.2.2.1 r1.2.2.2.2.1) fun r8 =>
  if r8 = 0 then
  some ((0 : Int32), (0 : Int32), r1.2.1, r6.1, r1.2.2.1, r1.2.2.2.1, r6.2, r1.2.2.2.2.1, r1.2.2.2.2.2)
  else
  some ((1 : Int32), (0 : Int32), r1.2.1, r6.1, r1.2.2.1, r1.2.2.2.1, r6.2, r1.2.2.2.2.1, r1.2.2.2.2.2)
  else
  some ((0 : Int32), (0 : Int32), r1.2.1, r6.1, r1.2.2.1, r1.2.2.2.1, r6.2, r1.2.2.2.2.1, r1.2.2.2.2.2)
  else if x1 = (2 : Int32) then
  jM (f_X12_isLawful r1.2.1 r1.2.2.1 r1.2.2.2.1 r_t_lineKind r_t_lineLong r_t_lineWord r_t_lines r1.2.2.2.2.1 r1.2.2.2.2.2) fun r11 =>
  jZ r11 (some (r11, (0 : Int32), r1.2.1, s_t_turns, r1.2.2.1, r1.2.2.2.1, r_t_turn, r1.2.2.2.2.1, r1.2.2.2.2.2))
  else some ((0 : Int32), (0 : Int32), r1.2.1, s_t_turns, r1.2.2.1, r1.2.2.2.1, r_t_turn, r1.2.2.2.2.1, r1.2.2.2.2.2)
set_option maxHeartbeats 4000000 in
set_option maxRecDepth 100000 in
theorem t_X12_is {p : Program} {l : Launch} {e : Env} {s : State} {m : MethodId} {args : Array Value} {below : List Frame} {meth : Method} {c : Code} {A : Nat → Prop} {Q : State → Prop} (G : jGt) (D : va_G) (cI cB cZ : ClassId) (a_t : Nat) (aX : Nat → Nat) (u_t_ahead u_t_length u_t_begins u_t_sort u_t_value u_t_letters : Int32) (u_t_word : Int64) (u_t_wrongAt u_t_laterFault u_t_laterPlace u_t_newClasses u_t_newLines u_t_shortest u_t_orders u_t_rowNumber u_t_ties : Int32) (r_t_childRow r_t_classes r_t_lineKind r_t_lineLong r_t_lineWord r_t_lines r_t_wedsRow : jA) (s_t_code s_t_n s_t_turns : Int32) (r_t_child r_t_childBack r_t_turn r_t_weds r_t_wedsBack : jA) (x1 : Int32) (C : jCx p s m args c cX12_is 2 gX12_is RX12 G D (jT cI cB cZ) A) {o : Int32 × Int32 × Int32 × Int32 × jA × jA × jA × jA × jA} (hf : f_X12_is r_t_childRow r_t_classes r_t_lineKind r_t_lineLong r_t_lineWord r_t_lines r_t_wedsRow s_t_code s_t_n s_t_turns r_t_child r_t_childBack r_t_turn r_t_weds r_t_wedsBack x1 = some o) (K : ∀ (H : Heap) (locs : List Loc) (pc : Nat) (ls : Array Slot), (o.1 = 0 ∨ o.1 = 1) → va_P D vwCl (w_X12_is cI cB cZ a_t aX u_t_ahead u_t_length u_t_begins u_t_sort u_t_value u_t_letters u_t_word u_t_wrongAt u_t_laterFault u_t_laterPlace u_t_newClasses u_t_newLines u_t_shortest u_t_orders u_t_rowNumber u_t_ties o.2.1 o.2.2.1 o.2.2.2.1 o.2.2.2.2.1 o.2.2.2.2.2.1 r_t_childRow r_t_classes r_t_lineKind r_t_lineLong r_t_lineWord r_t_lines o.2.2.2.2.2.2.1 o.2.2.2.2.2.2.2.1 o.2.2.2.2.2.2.2.2 r_t_wedsRow) H → va_S A s.heap H locs → decode cX12_is pc = .ok (.ireturn, 1) → W p l e rX12_is s m args below meth c H locs 0 0 Q (F0 m pc ls [.int o.1])) {H : Heap} {locs : List Loc} {ls : Array Slot} (hP : va_P D vwCl (w_X12_is cI cB cZ a_t aX u_t_ahead u_t_length u_t_begins u_t_sort u_t_value u_t_letters u_t_word u_t_wrongAt u_t_laterFault u_t_laterPlace u_t_newClasses u_t_newLines u_t_shortest u_t_orders u_t_rowNumber u_t_ties s_t_code s_t_n s_t_turns r_t_child r_t_childBack r_t_childRow r_t_classes r_t_lineKind r_t_lineLong r_t_lineWord r_t_lines r_t_turn r_t_weds r_t_wedsBack r_t_wedsRow) H) (hD : va_D A (w_X12_is cI cB cZ a_t aX u_t_ahead u_t_length u_t_begins u_t_sort u_t_value u_t_letters u_t_word u_t_wrongAt u_t_laterFault u_t_laterPlace u_t_newClasses u_t_newLines u_t_shortest u_t_orders u_t_rowNumber u_t_ties s_t_code s_t_n s_t_turns r_t_child r_t_childBack r_t_childRow r_t_classes r_t_lineKind r_t_lineLong r_t_lineWord r_t_lines r_t_turn r_t_weds r_t_wedsBack r_t_wedsRow)) (hS : va_S A s.heap H locs) (hl : lv_has ls 2 [(0, .ref a_t), (1, .int x1)]) : W p l e rX12_is s m args below meth c H locs 0 0 Q (F0 m 0 ls []) := by
  obtain ⟨⟨hx, hb, hml, hown, hts⟩, hK, hN, hA⟩ := C
  have C : jCx p s m args c cX12_is 2 gX12_is RX12 G D (jT cI cB cZ) A := ⟨⟨hx, hb, hml, hown, hts⟩, hK, hN, hA⟩
  unfold f_X12_is at hf
  refine lv_aload_n hx hb dX12_is_0 rfl (lv_at hl 0 rfl) ?_
  refine lv_iconst (v := (0 : Int32)) hx hb dX12_is_1 (by decide) ?_
  refine va_put (D := D) (ci := 11) (v := .int (0 : Int32)) (ty := .int) (C := RX12) (T := TX12) (N := 74) hx hb hts iw_X12 tyX12 tyX12_ok nmX12 hown hK hP hD hS 0 rfl rfl 0 (by decide) (hts _ (wG_in k_fl_X12_177 rfl)) (fun _ h9 => h9) rfl (tyX12_ok 0 (by decide)) rfl rfl (Nat.le_of_ble_eq_true rfl) dX12_is_2 (fun H locs hP hD hS => ?_)
  have hP : va_P D vwCl (w_X12_is cI cB cZ a_t aX u_t_ahead u_t_length u_t_begins u_t_sort u_t_value u_t_letters u_t_word u_t_wrongAt u_t_laterFault u_t_laterPlace u_t_newClasses u_t_newLines u_t_shortest u_t_orders u_t_rowNumber u_t_ties (0 : Int32) s_t_n s_t_turns r_t_child r_t_childBack r_t_childRow r_t_classes r_t_lineKind r_t_lineLong r_t_lineWord r_t_lines r_t_turn r_t_weds r_t_wedsBack r_t_wedsRow) H := hP
  have hD : va_D A (w_X12_is cI cB cZ a_t aX u_t_ahead u_t_length u_t_begins u_t_sort u_t_value u_t_letters u_t_word u_t_wrongAt u_t_laterFault u_t_laterPlace u_t_newClasses u_t_newLines u_t_shortest u_t_orders u_t_rowNumber u_t_ties (0 : Int32) s_t_n s_t_turns r_t_child r_t_childBack r_t_childRow r_t_classes r_t_lineKind r_t_lineLong r_t_lineWord r_t_lines r_t_turn r_t_weds r_t_wedsBack r_t_wedsRow) := hD
  refine lv_aload_n hx hb dX12_is_5 rfl (lv_at hl 0 rfl) ?_
  obtain ⟨r1, hgr1, hf⟩ := jM_some hf
  refine jcV_i (As := []) (rest := []) ⟨hx, hb, hml, hown, hts⟩ hK hN hA (c_X12_bring l G D cI cB cZ a_t aX (0 : Int32) u_t_ahead u_t_length u_t_begins u_t_sort u_t_value u_t_letters u_t_word u_t_wrongAt u_t_laterFault u_t_laterPlace u_t_newClasses u_t_newLines s_t_turns u_t_shortest u_t_orders u_t_rowNumber u_t_ties r_t_childRow r_t_classes r_t_wedsRow s_t_n r_t_child r_t_childBack r_t_weds r_t_wedsBack hgr1) (cwV 0 hts (wG_V k_ml_X12_338 k_im_X12_bring k_se_X12_bring k_in_X12 k_co_X12_bring) rfl rfl rfl hd_X12_bring ⟨Nat.le_of_ble_eq_true rfl, Nat.le_of_ble_eq_true rfl⟩) hP hD hS [0, 1, 2, 3, 4, 10, 11, 12] rfl rfl rfl (ci := 11) rfl 0 rfl rfl rfl hl.1 rfl (Nat.le_of_ble_eq_true rfl) dX12_is_6 ⟨Nat.le_of_ble_eq_true rfl, Nat.le_of_ble_eq_true rfl⟩ (fun H locs hP hD hS => ?_)
  have hP : va_P D vwCl (w_X12_is cI cB cZ a_t aX u_t_ahead u_t_length u_t_begins u_t_sort u_t_value u_t_letters u_t_word u_t_wrongAt u_t_laterFault u_t_laterPlace u_t_newClasses u_t_newLines u_t_shortest u_t_orders u_t_rowNumber u_t_ties (0 : Int32) r1.2.1 s_t_turns r1.2.2.1 r1.2.2.2.1 r_t_childRow r_t_classes r_t_lineKind r_t_lineLong r_t_lineWord r_t_lines r_t_turn r1.2.2.2.2.1 r1.2.2.2.2.2 r_t_wedsRow) H := hP
  have hD : va_D A (w_X12_is cI cB cZ a_t aX u_t_ahead u_t_length u_t_begins u_t_sort u_t_value u_t_letters u_t_word u_t_wrongAt u_t_laterFault u_t_laterPlace u_t_newClasses u_t_newLines u_t_shortest u_t_orders u_t_rowNumber u_t_ties (0 : Int32) r1.2.1 s_t_turns r1.2.2.1 r1.2.2.2.1 r_t_childRow r_t_classes r_t_lineKind r_t_lineLong r_t_lineWord r_t_lines r_t_turn r1.2.2.2.2.1 r1.2.2.2.2.2 r_t_wedsRow) := hD
  refine lv_if_ne (tgt := 14) hx hb dX12_is_9 (by decide) (fun c2 => ?_) (fun c2 => ?_)
  · replace hf := jif_f c2 hf
    refine lv_iload_n hx hb dX12_is_14 rfl (lv_at hl 1 rfl) ?_
    by_cases c3 : x1 = (0 : Int32)
    · replace hf := jif_t c3 hf
      refine lv_tableIn (tgt := 40) hx hb dX12_is_15 (by rw [c3]; decide) (by rw [c3]; decide) (by rw [c3]; rfl) (by decide) ?_
      refine lv_aload_n hx hb dX12_is_40 rfl (lv_at hl 0 rfl) ?_
      obtain ⟨r4, hgr4, hf⟩ := jM_some hf
      refine jcV_i0 (As := []) (rest := []) ⟨hx, hb, hml, hown, hts⟩ hK hN hA (c_X12_isProper l G D cI cB cZ a_t aX (0 : Int32) u_t_ahead u_t_length u_t_begins u_t_sort u_t_value u_t_letters u_t_word u_t_wrongAt u_t_laterFault u_t_laterPlace u_t_newClasses u_t_newLines s_t_turns u_t_shortest u_t_orders u_t_rowNumber u_t_ties r1.2.1 r1.2.2.1 r1.2.2.2.2.1 hgr4) (cwV 0 hts (wG_V k_ml_X12_219 k_im_X12_isProper k_se_X12_isProper k_in_X12 k_co_X12_isProper) rfl rfl rfl hd_X12_isProper ⟨Nat.le_of_ble_eq_true rfl, Nat.le_of_ble_eq_true rfl⟩) hP hD hS [0, 1, 10] rfl rfl rfl (ci := 11) rfl 0 rfl rfl rfl hl.1 rfl (Nat.le_of_ble_eq_true rfl) dX12_is_41 ⟨Nat.le_of_ble_eq_true rfl, Nat.le_of_ble_eq_true rfl⟩ (fun H locs hP hD hS => ?_)
      obtain ⟨hz, hf⟩ := jZ_some hf
      have ho := Option.some.inj hf
      subst ho
      exact K _ _ _ _ hz hP hS dX12_is_44
    replace hf := jif_f c3 hf
    by_cases c5 : x1 = (1 : Int32)
    · replace hf := jif_t c5 hf
      refine lv_tableIn (tgt := 45) hx hb dX12_is_15 (by rw [c5]; decide) (by rw [c5]; decide) (by rw [c5]; rfl) (by decide) ?_
      refine lv_aload_n hx hb dX12_is_45 rfl (lv_at hl 0 rfl) ?_
      obtain ⟨r6, hgr6, hf⟩ := jM_some hf
      refine jcV_v (As := []) (rest := []) ⟨hx, hb, hml, hown, hts⟩ hK hN hA (c_X12_findTurns l G D cI cB cZ a_t aX (0 : Int32) u_t_ahead u_t_length u_t_begins u_t_sort u_t_value u_t_letters u_t_word u_t_wrongAt u_t_laterFault u_t_laterPlace u_t_newClasses u_t_newLines u_t_shortest u_t_orders u_t_rowNumber u_t_ties r1.2.1 r1.2.2.1 r1.2.2.2.2.1 s_t_turns r_t_turn hgr6) (cwV 0 hts (wG_V k_ml_X12_341 k_im_X12_findTurns k_se_X12_findTurns k_in_X12 k_co_X12_findTurns) rfl rfl rfl hd_X12_findTurns ⟨Nat.le_of_ble_eq_true rfl, Nat.le_of_ble_eq_true rfl⟩) hP hD hS [0, 1, 9, 10] rfl rfl rfl (ci := 11) rfl 0 rfl rfl rfl hl.1 rfl (Nat.le_of_ble_eq_true rfl) dX12_is_46 ⟨Nat.le_of_ble_eq_true rfl, Nat.le_of_ble_eq_true rfl⟩ (fun H locs hP hD hS => ?_)
      have hP : va_P D vwCl (w_X12_is cI cB cZ a_t aX u_t_ahead u_t_length u_t_begins u_t_sort u_t_value u_t_letters u_t_word u_t_wrongAt u_t_laterFault u_t_laterPlace u_t_newClasses u_t_newLines u_t_shortest u_t_orders u_t_rowNumber u_t_ties (0 : Int32) r1.2.1 r6.1 r1.2.2.1 r1.2.2.2.1 r_t_childRow r_t_classes r_t_lineKind r_t_lineLong r_t_lineWord r_t_lines r6.2 r1.2.2.2.2.1 r1.2.2.2.2.2 r_t_wedsRow) H := hP
      have hD : va_D A (w_X12_is cI cB cZ a_t aX u_t_ahead u_t_length u_t_begins u_t_sort u_t_value u_t_letters u_t_word u_t_wrongAt u_t_laterFault u_t_laterPlace u_t_newClasses u_t_newLines u_t_shortest u_t_orders u_t_rowNumber u_t_ties (0 : Int32) r1.2.1 r6.1 r1.2.2.1 r1.2.2.2.1 r_t_childRow r_t_classes r_t_lineKind r_t_lineLong r_t_lineWord r_t_lines r6.2 r1.2.2.2.2.1 r1.2.2.2.2.2 r_t_wedsRow) := hD
      refine lv_aload_n hx hb dX12_is_49 rfl (lv_at hl 0 rfl) ?_
      refine va_get (D := D) (ci := 11) (v := .int r6.1) (C := RX12) (T := TX12) (N := 74) hx hb hts iw_X12 hown hK hP 0 rfl rfl 54 (by decide) (hts _ (wG_in k_fl_X12_344 rfl)) (fun _ h9 => h9) rfl dX12_is_50 ?_
      refine lv_aload_n hx hb dX12_is_53 rfl (lv_at hl 0 rfl) ?_
      refine va_get (D := D) (ci := 11) (v := .int r1.2.1) (C := RX12) (T := TX12) (N := 74) hx hb hts iw_X12 hown hK hP 0 rfl rfl 31 (by decide) (hts _ (wG_in k_fl_X12_189 rfl)) (fun _ h9 => h9) rfl dX12_is_54 ?_
      refine lv_icmp_ne (tgt := 71) hx hb dX12_is_57 (by decide) (fun c7 => ?_) (fun c7 => ?_)
      · replace hf := jif_f c7 hf
        refine lv_iconst (v := (0 : Int32)) hx hb dX12_is_71 (by decide) ?_
        have ho := Option.some.inj hf
        subst ho
        exact K _ _ _ _ (Or.inl rfl) hP hS dX12_is_72
      · replace hf := jif_t c7 hf
        refine lv_aload_n hx hb dX12_is_60 rfl (lv_at hl 0 rfl) ?_
        obtain ⟨r8, hgr8, hf⟩ := jM_some hf
        refine jcV_i0 (As := []) (rest := []) ⟨hx, hb, hml, hown, hts⟩ hK hN hA (c_X12_isProper l G D cI cB cZ a_t aX (0 : Int32) u_t_ahead u_t_length u_t_begins u_t_sort u_t_value u_t_letters u_t_word u_t_wrongAt u_t_laterFault u_t_laterPlace u_t_newClasses u_t_newLines r6.1 u_t_shortest u_t_orders u_t_rowNumber u_t_ties r1.2.1 r1.2.2.1 r1.2.2.2.2.1 hgr8) (cwV 0 hts (wG_V k_ml_X12_219 k_im_X12_isProper k_se_X12_isProper k_in_X12 k_co_X12_isProper) rfl rfl rfl hd_X12_isProper ⟨Nat.le_of_ble_eq_true rfl, Nat.le_of_ble_eq_true rfl⟩) hP hD hS [0, 1, 10] rfl rfl rfl (ci := 11) rfl 0 rfl rfl rfl hl.1 rfl (Nat.le_of_ble_eq_true rfl) dX12_is_61 ⟨Nat.le_of_ble_eq_true rfl, Nat.le_of_ble_eq_true rfl⟩ (fun H locs hP hD hS => ?_)
        refine lv_if_eq (tgt := 71) hx hb dX12_is_64 (by decide) (fun c9 => ?_) (fun c9 => ?_)
        · replace hf := jif_t c9 hf
          refine lv_iconst (v := (0 : Int32)) hx hb dX12_is_71 (by decide) ?_
          have ho := Option.some.inj hf
          subst ho
          exact K _ _ _ _ (Or.inl rfl) hP hS dX12_is_72
        · replace hf := jif_f c9 hf
          refine lv_iconst (v := (1 : Int32)) hx hb dX12_is_67 (by decide) ?_
          refine lv_goto (tgt := 72) hx hb dX12_is_68 (by decide) ?_
          have ho := Option.some.inj hf
          subst ho
          exact K _ _ _ _ (Or.inr rfl) hP hS dX12_is_72
    replace hf := jif_f c5 hf
    by_cases c10 : x1 = (2 : Int32)
    · replace hf := jif_t c10 hf
      refine lv_tableIn (tgt := 73) hx hb dX12_is_15 (by rw [c10]; decide) (by rw [c10]; decide) (by rw [c10]; rfl) (by decide) ?_
      refine lv_aload_n hx hb dX12_is_73 rfl (lv_at hl 0 rfl) ?_
      obtain ⟨r11, hgr11, hf⟩ := jM_some hf
      refine jcV_i0 (As := []) (rest := []) ⟨hx, hb, hml, hown, hts⟩ hK hN hA (c_X12_isLawful l G D cI cB cZ a_t aX (0 : Int32) u_t_ahead u_t_length u_t_begins u_t_sort u_t_value u_t_letters u_t_word u_t_wrongAt u_t_laterFault u_t_laterPlace u_t_newClasses u_t_newLines s_t_turns u_t_shortest u_t_orders u_t_rowNumber u_t_ties r1.2.1 r1.2.2.1 r1.2.2.2.1 r_t_lineKind r_t_lineLong r_t_lineWord r_t_lines r1.2.2.2.2.1 r1.2.2.2.2.2 hgr11) (cwV 0 hts (wG_V k_ml_X12_347 k_im_X12_isLawful k_se_X12_isLawful k_in_X12 k_co_X12_isLawful) rfl rfl rfl hd_X12_isLawful ⟨Nat.le_of_ble_eq_true rfl, Nat.le_of_ble_eq_true rfl⟩) hP hD hS [0, 1, 2, 5, 6, 7, 8, 10, 11] rfl rfl rfl (ci := 11) rfl 0 rfl rfl rfl hl.1 rfl (Nat.le_of_ble_eq_true rfl) dX12_is_74 ⟨Nat.le_of_ble_eq_true rfl, Nat.le_of_ble_eq_true rfl⟩ (fun H locs hP hD hS => ?_)
      obtain ⟨hz, hf⟩ := jZ_some hf
      have ho := Option.some.inj hf
      subst ho
      exact K _ _ _ _ hz hP hS dX12_is_77
    replace hf := jif_f c10 hf
    refine lv_tableOut (tgt := 78) hx hb dX12_is_15 (jtab_out (lo := 0) (n := 3) (fun k hk => match k, hk with | 0, _ => c3 | 1, _ => c5 | 2, _ => c10 | (k + 3), h => absurd h (by omega))) (by decide) ?_
    refine lv_iconst (v := (0 : Int32)) hx hb dX12_is_78 (by decide) ?_
    have ho := Option.some.inj hf
    subst ho
    exact K _ _ _ _ (Or.inl rfl) hP hS dX12_is_79
  · replace hf := jif_t c2 hf
    refine lv_iconst (v := (0 : Int32)) hx hb dX12_is_12 (by decide) ?_
    have ho := Option.some.inj hf
    subst ho
    exact K _ _ _ _ (Or.inl rfl) hP hS dX12_is_13
set_option maxHeartbeats 4000000 in
set_option maxRecDepth 100000 in
theorem c_X12_is (l : Launch) (G : jGt) (D : va_G) (cI cB cZ : ClassId) (a_t : Nat) (aX : Nat → Nat) (u_t_ahead u_t_length u_t_begins u_t_sort u_t_value u_t_letters : Int32) (u_t_word : Int64) (u_t_wrongAt u_t_laterFault u_t_laterPlace u_t_newClasses u_t_newLines u_t_shortest u_t_orders u_t_rowNumber u_t_ties : Int32) (r_t_childRow r_t_classes r_t_lineKind r_t_lineLong r_t_lineWord r_t_lines r_t_wedsRow : jA) (s_t_code s_t_n s_t_turns : Int32) (r_t_child r_t_childBack r_t_turn r_t_weds r_t_wedsBack : jA) (x1 : Int32) {o : Int32 × Int32 × Int32 × Int32 × jA × jA × jA × jA × jA} (hf : f_X12_is r_t_childRow r_t_classes r_t_lineKind r_t_lineLong r_t_lineWord r_t_lines r_t_wedsRow s_t_code s_t_n s_t_turns r_t_child r_t_childBack r_t_turn r_t_weds r_t_wedsBack x1 = some o) : jMi l yX12_is gX12_is rX12_is G D (jT cI cB cZ) [.ref a_t, .int x1] (w_X12_is cI cB cZ a_t aX u_t_ahead u_t_length u_t_begins u_t_sort u_t_value u_t_letters u_t_word u_t_wrongAt u_t_laterFault u_t_laterPlace u_t_newClasses u_t_newLines u_t_shortest u_t_orders u_t_rowNumber u_t_ties s_t_code s_t_n s_t_turns r_t_child r_t_childBack r_t_childRow r_t_classes r_t_lineKind r_t_lineLong r_t_lineWord r_t_lines r_t_turn r_t_weds r_t_wedsBack r_t_wedsRow) (w_X12_is cI cB cZ a_t aX u_t_ahead u_t_length u_t_begins u_t_sort u_t_value u_t_letters u_t_word u_t_wrongAt u_t_laterFault u_t_laterPlace u_t_newClasses u_t_newLines u_t_shortest u_t_orders u_t_rowNumber u_t_ties o.2.1 o.2.2.1 o.2.2.2.1 o.2.2.2.2.1 o.2.2.2.2.2.1 r_t_childRow r_t_classes r_t_lineKind r_t_lineLong r_t_lineWord r_t_lines o.2.2.2.2.2.2.1 o.2.2.2.2.2.2.2.1 o.2.2.2.2.2.2.2.2 r_t_wedsRow) o.1 := by
  refine jmk_z RX12 rfl (by decide +kernel) rfl (Nat.le_of_ble_eq_true rfl) rfl ?_
  intro p e s m args below meth c ls A Q C hP hD hS hl K
  exact t_X12_is G D cI cB cZ a_t aX u_t_ahead u_t_length u_t_begins u_t_sort u_t_value u_t_letters u_t_word u_t_wrongAt u_t_laterFault u_t_laterPlace u_t_newClasses u_t_newLines u_t_shortest u_t_orders u_t_rowNumber u_t_ties r_t_childRow r_t_classes r_t_lineKind r_t_lineLong r_t_lineWord r_t_lines r_t_wedsRow s_t_code s_t_n s_t_turns r_t_child r_t_childBack r_t_turn r_t_weds r_t_wedsBack x1 C hf K hP hD hS hl
abbrev rX12_broken : Room := { frames := 5, cells := 0, slots := 0, locals := 122 }
abbrev gX12_broken : List Cond := wG yX12_broken cX12_broken 1 (some .int)
def w_X12_broken (cI cB cZ : ClassId) (a_t : Nat) (aX : Nat → Nat) (u_t_ahead u_t_length u_t_begins u_t_sort u_t_value u_t_letters : Int32) (u_t_word : Int64) (u_t_wrongAt u_t_laterFault u_t_laterPlace u_t_newClasses u_t_newLines u_t_turns u_t_shortest u_t_orders u_t_rowNumber u_t_ties s_t_code s_t_n : Int32) (r_t_child r_t_childBack r_t_childRow r_t_classes r_t_lineKind r_t_lineLong r_t_lineWord r_t_lines r_t_weds r_t_wedsBack r_t_wedsRow : jA) : va_W := [(a_t, .inr (11, (oX12 aX s_t_code s_t_n u_t_ahead u_t_length u_t_begins u_t_sort u_t_value u_t_letters u_t_word u_t_wrongAt u_t_laterFault u_t_laterPlace u_t_newClasses u_t_newLines u_t_turns u_t_shortest u_t_orders u_t_rowNumber u_t_ties))), ((aX 33), .inl (cI, r_t_child.1, .inl r_t_child.2)), ((aX 35), .inl (cI, r_t_childBack.1, .inl r_t_childBack.2)), ((aX 7), .inl (cI, r_t_childRow.1, .inl r_t_childRow.2)), ((aX 5), .inl (cI, r_t_classes.1, .inl r_t_classes.2)), ((aX 9), .inl (cI, r_t_lineKind.1, .inl r_t_lineKind.2)), ((aX 11), .inl (cI, r_t_lineLong.1, .inl r_t_lineLong.2)), ((aX 10), .inl (cB, r_t_lineWord.1, .inl r_t_lineWord.2)), ((aX 8), .inl (cI, r_t_lines.1, .inl r_t_lines.2)), ((aX 32), .inl (cI, r_t_weds.1, .inl r_t_weds.2)), ((aX 34), .inl (cI, r_t_wedsBack.1, .inl r_t_wedsBack.2)), ((aX 6), .inl (cI, r_t_wedsRow.1, .inl r_t_wedsRow.2))]
def f_X12_broken (r_t_childRow r_t_classes r_t_lineKind r_t_lineLong r_t_lineWord r_t_lines r_t_wedsRow : jA) (s_t_code s_t_n : Int32) (r_t_child r_t_childBack r_t_weds r_t_wedsBack : jA) : Option (Int32 × Int32 × Int32 × jA × jA × jA × jA) :=
  jM (f_X12_bring r_t_childRow r_t_classes r_t_wedsRow s_t_n r_t_child r_t_childBack r_t_weds r_t_wedsBack) fun r1 =>
  if r1.1 = 0 then
  some ((-1 : Int32), (0 : Int32), r1.2.1, r1.2.2.1, r1.2.2.2.1, r1.2.2.2.2.1, r1.2.2.2.2.2)
  else
  jM (f_X12_firstBroken r1.2.1 r1.2.2.1 r1.2.2.2.1 r_t_lineKind r_t_lineLong r_t_lineWord r_t_lines r1.2.2.2.2.1 r1.2.2.2.2.2) fun r3 =>
  some (r3, (0 : Int32), r1.2.1, r1.2.2.1, r1.2.2.2.1, r1.2.2.2.2.1, r1.2.2.2.2.2)
set_option maxHeartbeats 4000000 in
set_option maxRecDepth 100000 in
theorem t_X12_broken {p : Program} {l : Launch} {e : Env} {s : State} {m : MethodId} {args : Array Value} {below : List Frame} {meth : Method} {c : Code} {A : Nat → Prop} {Q : State → Prop} (G : jGt) (D : va_G) (cI cB cZ : ClassId) (a_t : Nat) (aX : Nat → Nat) (u_t_ahead u_t_length u_t_begins u_t_sort u_t_value u_t_letters : Int32) (u_t_word : Int64) (u_t_wrongAt u_t_laterFault u_t_laterPlace u_t_newClasses u_t_newLines u_t_turns u_t_shortest u_t_orders u_t_rowNumber u_t_ties : Int32) (r_t_childRow r_t_classes r_t_lineKind r_t_lineLong r_t_lineWord r_t_lines r_t_wedsRow : jA) (s_t_code s_t_n : Int32) (r_t_child r_t_childBack r_t_weds r_t_wedsBack : jA) (C : jCx p s m args c cX12_broken 1 gX12_broken RX12 G D (jT cI cB cZ) A) {o : Int32 × Int32 × Int32 × jA × jA × jA × jA} (hf : f_X12_broken r_t_childRow r_t_classes r_t_lineKind r_t_lineLong r_t_lineWord r_t_lines r_t_wedsRow s_t_code s_t_n r_t_child r_t_childBack r_t_weds r_t_wedsBack = some o) (K : ∀ (H : Heap) (locs : List Loc) (pc : Nat) (ls : Array Slot), va_P D vwCl (w_X12_broken cI cB cZ a_t aX u_t_ahead u_t_length u_t_begins u_t_sort u_t_value u_t_letters u_t_word u_t_wrongAt u_t_laterFault u_t_laterPlace u_t_newClasses u_t_newLines u_t_turns u_t_shortest u_t_orders u_t_rowNumber u_t_ties o.2.1 o.2.2.1 o.2.2.2.1 o.2.2.2.2.1 r_t_childRow r_t_classes r_t_lineKind r_t_lineLong r_t_lineWord r_t_lines o.2.2.2.2.2.1 o.2.2.2.2.2.2 r_t_wedsRow) H → va_S A s.heap H locs → decode cX12_broken pc = .ok (.ireturn, 1) → W p l e rX12_broken s m args below meth c H locs 0 0 Q (F0 m pc ls [.int o.1])) {H : Heap} {locs : List Loc} {ls : Array Slot} (hP : va_P D vwCl (w_X12_broken cI cB cZ a_t aX u_t_ahead u_t_length u_t_begins u_t_sort u_t_value u_t_letters u_t_word u_t_wrongAt u_t_laterFault u_t_laterPlace u_t_newClasses u_t_newLines u_t_turns u_t_shortest u_t_orders u_t_rowNumber u_t_ties s_t_code s_t_n r_t_child r_t_childBack r_t_childRow r_t_classes r_t_lineKind r_t_lineLong r_t_lineWord r_t_lines r_t_weds r_t_wedsBack r_t_wedsRow) H) (hD : va_D A (w_X12_broken cI cB cZ a_t aX u_t_ahead u_t_length u_t_begins u_t_sort u_t_value u_t_letters u_t_word u_t_wrongAt u_t_laterFault u_t_laterPlace u_t_newClasses u_t_newLines u_t_turns u_t_shortest u_t_orders u_t_rowNumber u_t_ties s_t_code s_t_n r_t_child r_t_childBack r_t_childRow r_t_classes r_t_lineKind r_t_lineLong r_t_lineWord r_t_lines r_t_weds r_t_wedsBack r_t_wedsRow)) (hS : va_S A s.heap H locs) (hl : lv_has ls 1 [(0, .ref a_t)]) : W p l e rX12_broken s m args below meth c H locs 0 0 Q (F0 m 0 ls []) := by
  obtain ⟨⟨hx, hb, hml, hown, hts⟩, hK, hN, hA⟩ := C
  have C : jCx p s m args c cX12_broken 1 gX12_broken RX12 G D (jT cI cB cZ) A := ⟨⟨hx, hb, hml, hown, hts⟩, hK, hN, hA⟩
  unfold f_X12_broken at hf
  refine lv_aload_n hx hb dX12_broken_0 rfl (lv_at hl 0 rfl) ?_
  refine lv_iconst (v := (0 : Int32)) hx hb dX12_broken_1 (by decide) ?_
  refine va_put (D := D) (ci := 11) (v := .int (0 : Int32)) (ty := .int) (C := RX12) (T := TX12) (N := 74) hx hb hts iw_X12 tyX12 tyX12_ok nmX12 hown hK hP hD hS 0 rfl rfl 0 (by decide) (hts _ (wG_in k_fl_X12_177 rfl)) (fun _ h9 => h9) rfl (tyX12_ok 0 (by decide)) rfl rfl (Nat.le_of_ble_eq_true rfl) dX12_broken_2 (fun H locs hP hD hS => ?_)
  have hP : va_P D vwCl (w_X12_broken cI cB cZ a_t aX u_t_ahead u_t_length u_t_begins u_t_sort u_t_value u_t_letters u_t_word u_t_wrongAt u_t_laterFault u_t_laterPlace u_t_newClasses u_t_newLines u_t_turns u_t_shortest u_t_orders u_t_rowNumber u_t_ties (0 : Int32) s_t_n r_t_child r_t_childBack r_t_childRow r_t_classes r_t_lineKind r_t_lineLong r_t_lineWord r_t_lines r_t_weds r_t_wedsBack r_t_wedsRow) H := hP
  have hD : va_D A (w_X12_broken cI cB cZ a_t aX u_t_ahead u_t_length u_t_begins u_t_sort u_t_value u_t_letters u_t_word u_t_wrongAt u_t_laterFault u_t_laterPlace u_t_newClasses u_t_newLines u_t_turns u_t_shortest u_t_orders u_t_rowNumber u_t_ties (0 : Int32) s_t_n r_t_child r_t_childBack r_t_childRow r_t_classes r_t_lineKind r_t_lineLong r_t_lineWord r_t_lines r_t_weds r_t_wedsBack r_t_wedsRow) := hD
  refine lv_aload_n hx hb dX12_broken_5 rfl (lv_at hl 0 rfl) ?_
  obtain ⟨r1, hgr1, hf⟩ := jM_some hf
  refine jcV_i (As := []) (rest := []) ⟨hx, hb, hml, hown, hts⟩ hK hN hA (c_X12_bring l G D cI cB cZ a_t aX (0 : Int32) u_t_ahead u_t_length u_t_begins u_t_sort u_t_value u_t_letters u_t_word u_t_wrongAt u_t_laterFault u_t_laterPlace u_t_newClasses u_t_newLines u_t_turns u_t_shortest u_t_orders u_t_rowNumber u_t_ties r_t_childRow r_t_classes r_t_wedsRow s_t_n r_t_child r_t_childBack r_t_weds r_t_wedsBack hgr1) (cwV 0 hts (wG_V k_ml_X12_338 k_im_X12_bring k_se_X12_bring k_in_X12 k_co_X12_bring) rfl rfl rfl hd_X12_bring ⟨Nat.le_of_ble_eq_true rfl, Nat.le_of_ble_eq_true rfl⟩) hP hD hS [0, 1, 2, 3, 4, 9, 10, 11] rfl rfl rfl (ci := 11) rfl 0 rfl rfl rfl hl.1 rfl (Nat.le_of_ble_eq_true rfl) dX12_broken_6 ⟨Nat.le_of_ble_eq_true rfl, Nat.le_of_ble_eq_true rfl⟩ (fun H locs hP hD hS => ?_)
  have hP : va_P D vwCl (w_X12_broken cI cB cZ a_t aX u_t_ahead u_t_length u_t_begins u_t_sort u_t_value u_t_letters u_t_word u_t_wrongAt u_t_laterFault u_t_laterPlace u_t_newClasses u_t_newLines u_t_turns u_t_shortest u_t_orders u_t_rowNumber u_t_ties (0 : Int32) r1.2.1 r1.2.2.1 r1.2.2.2.1 r_t_childRow r_t_classes r_t_lineKind r_t_lineLong r_t_lineWord r_t_lines r1.2.2.2.2.1 r1.2.2.2.2.2 r_t_wedsRow) H := hP
  have hD : va_D A (w_X12_broken cI cB cZ a_t aX u_t_ahead u_t_length u_t_begins u_t_sort u_t_value u_t_letters u_t_word u_t_wrongAt u_t_laterFault u_t_laterPlace u_t_newClasses u_t_newLines u_t_turns u_t_shortest u_t_orders u_t_rowNumber u_t_ties (0 : Int32) r1.2.1 r1.2.2.1 r1.2.2.2.1 r_t_childRow r_t_classes r_t_lineKind r_t_lineLong r_t_lineWord r_t_lines r1.2.2.2.2.1 r1.2.2.2.2.2 r_t_wedsRow) := hD
  refine lv_if_eq (tgt := 19) hx hb dX12_broken_9 (by decide) (fun c2 => ?_) (fun c2 => ?_)
  · replace hf := jif_t c2 hf
    refine lv_iconst (v := (-1 : Int32)) hx hb dX12_broken_19 (by decide) ?_
    have ho := Option.some.inj hf
    subst ho
    exact K _ _ _ _ hP hS dX12_broken_20
  · replace hf := jif_f c2 hf
    refine lv_aload_n hx hb dX12_broken_12 rfl (lv_at hl 0 rfl) ?_
    obtain ⟨r3, hgr3, hf⟩ := jM_some hf
    refine jcV_i0 (As := []) (rest := []) ⟨hx, hb, hml, hown, hts⟩ hK hN hA (c_X12_firstBroken l G D cI cB cZ a_t aX (0 : Int32) u_t_ahead u_t_length u_t_begins u_t_sort u_t_value u_t_letters u_t_word u_t_wrongAt u_t_laterFault u_t_laterPlace u_t_newClasses u_t_newLines u_t_turns u_t_shortest u_t_orders u_t_rowNumber u_t_ties r1.2.1 r1.2.2.1 r1.2.2.2.1 r_t_lineKind r_t_lineLong r_t_lineWord r_t_lines r1.2.2.2.2.1 r1.2.2.2.2.2 hgr3) (cwV 0 hts (wG_V k_ml_X12_223 k_im_X12_firstBroken k_se_X12_firstBroken k_in_X12 k_co_X12_firstBroken) rfl rfl rfl hd_X12_firstBroken ⟨Nat.le_of_ble_eq_true rfl, Nat.le_of_ble_eq_true rfl⟩) hP hD hS [0, 1, 2, 5, 6, 7, 8, 9, 10] rfl rfl rfl (ci := 11) rfl 0 rfl rfl rfl hl.1 rfl (Nat.le_of_ble_eq_true rfl) dX12_broken_13 ⟨Nat.le_of_ble_eq_true rfl, Nat.le_of_ble_eq_true rfl⟩ (fun H locs hP hD hS => ?_)
    refine lv_goto (tgt := 20) hx hb dX12_broken_16 (by decide) ?_
    have ho := Option.some.inj hf
    subst ho
    exact K _ _ _ _ hP hS dX12_broken_20
set_option maxHeartbeats 4000000 in
set_option maxRecDepth 100000 in
theorem c_X12_broken (l : Launch) (G : jGt) (D : va_G) (cI cB cZ : ClassId) (a_t : Nat) (aX : Nat → Nat) (u_t_ahead u_t_length u_t_begins u_t_sort u_t_value u_t_letters : Int32) (u_t_word : Int64) (u_t_wrongAt u_t_laterFault u_t_laterPlace u_t_newClasses u_t_newLines u_t_turns u_t_shortest u_t_orders u_t_rowNumber u_t_ties : Int32) (r_t_childRow r_t_classes r_t_lineKind r_t_lineLong r_t_lineWord r_t_lines r_t_wedsRow : jA) (s_t_code s_t_n : Int32) (r_t_child r_t_childBack r_t_weds r_t_wedsBack : jA) {o : Int32 × Int32 × Int32 × jA × jA × jA × jA} (hf : f_X12_broken r_t_childRow r_t_classes r_t_lineKind r_t_lineLong r_t_lineWord r_t_lines r_t_wedsRow s_t_code s_t_n r_t_child r_t_childBack r_t_weds r_t_wedsBack = some o) : jMi l yX12_broken gX12_broken rX12_broken G D (jT cI cB cZ) [.ref a_t] (w_X12_broken cI cB cZ a_t aX u_t_ahead u_t_length u_t_begins u_t_sort u_t_value u_t_letters u_t_word u_t_wrongAt u_t_laterFault u_t_laterPlace u_t_newClasses u_t_newLines u_t_turns u_t_shortest u_t_orders u_t_rowNumber u_t_ties s_t_code s_t_n r_t_child r_t_childBack r_t_childRow r_t_classes r_t_lineKind r_t_lineLong r_t_lineWord r_t_lines r_t_weds r_t_wedsBack r_t_wedsRow) (w_X12_broken cI cB cZ a_t aX u_t_ahead u_t_length u_t_begins u_t_sort u_t_value u_t_letters u_t_word u_t_wrongAt u_t_laterFault u_t_laterPlace u_t_newClasses u_t_newLines u_t_turns u_t_shortest u_t_orders u_t_rowNumber u_t_ties o.2.1 o.2.2.1 o.2.2.2.1 o.2.2.2.2.1 r_t_childRow r_t_classes r_t_lineKind r_t_lineLong r_t_lineWord r_t_lines o.2.2.2.2.2.1 o.2.2.2.2.2.2 r_t_wedsRow) o.1 := by
  refine jmk_i RX12 rfl (by decide +kernel) rfl (Nat.le_of_ble_eq_true rfl) rfl ?_
  intro p e s m args below meth c ls A Q C hP hD hS hl K
  exact t_X12_broken G D cI cB cZ a_t aX u_t_ahead u_t_length u_t_begins u_t_sort u_t_value u_t_letters u_t_word u_t_wrongAt u_t_laterFault u_t_laterPlace u_t_newClasses u_t_newLines u_t_turns u_t_shortest u_t_orders u_t_rowNumber u_t_ties r_t_childRow r_t_classes r_t_lineKind r_t_lineLong r_t_lineWord r_t_lines r_t_wedsRow s_t_code s_t_n r_t_child r_t_childBack r_t_weds r_t_wedsBack C hf K hP hD hS hl
abbrev rX12_isKinWord : Room := { frames := 1, cells := 0, slots := 0, locals := 22 }
abbrev gX12_isKinWord : List Cond := wG yX12_isKinWord cX12_isKinWord 2 (some .boolean)
def w_X12_isKinWord (cI cB cZ : ClassId) (a_t : Nat) (aX : Nat → Nat) (u_t_code u_t_n u_t_ahead u_t_length u_t_begins u_t_sort u_t_value u_t_letters : Int32) (u_t_word : Int64) (u_t_wrongAt u_t_laterFault u_t_laterPlace u_t_newClasses u_t_newLines u_t_turns u_t_shortest u_t_orders u_t_rowNumber u_t_ties : Int32) (r_t_words : jA) : va_W := [(a_t, .inr (11, (oX12 aX u_t_code u_t_n u_t_ahead u_t_length u_t_begins u_t_sort u_t_value u_t_letters u_t_word u_t_wrongAt u_t_laterFault u_t_laterPlace u_t_newClasses u_t_newLines u_t_turns u_t_shortest u_t_orders u_t_rowNumber u_t_ties))), ((aX 12), .inl (cI, r_t_words.1, .inl r_t_words.2))]
def f_X12_isKinWord (r_t_words : jA) (x1 : Int32) : Option (Int32) :=
  jL r_t_words (0 : Int32) fun v1 =>
  jM (f_X12_in x1 (0 : Int32) (v1 - (1 : Int32))) fun r2 =>
  jZ r2 (some r2)
set_option maxHeartbeats 4000000 in
set_option maxRecDepth 100000 in
theorem t_X12_isKinWord {p : Program} {l : Launch} {e : Env} {s : State} {m : MethodId} {args : Array Value} {below : List Frame} {meth : Method} {c : Code} {A : Nat → Prop} {Q : State → Prop} (G : jGt) (D : va_G) (cI cB cZ : ClassId) (a_t : Nat) (aX : Nat → Nat) (u_t_code u_t_n u_t_ahead u_t_length u_t_begins u_t_sort u_t_value u_t_letters : Int32) (u_t_word : Int64) (u_t_wrongAt u_t_laterFault u_t_laterPlace u_t_newClasses u_t_newLines u_t_turns u_t_shortest u_t_orders u_t_rowNumber u_t_ties : Int32) (r_t_words : jA) (x1 : Int32) (C : jCx p s m args c cX12_isKinWord 2 gX12_isKinWord RX12 G D (jT cI cB cZ) A) {o : Int32} (hf : f_X12_isKinWord r_t_words x1 = some o) (K : ∀ (H : Heap) (locs : List Loc) (pc : Nat) (ls : Array Slot), (o = 0 ∨ o = 1) → va_P D vwCl (w_X12_isKinWord cI cB cZ a_t aX u_t_code u_t_n u_t_ahead u_t_length u_t_begins u_t_sort u_t_value u_t_letters u_t_word u_t_wrongAt u_t_laterFault u_t_laterPlace u_t_newClasses u_t_newLines u_t_turns u_t_shortest u_t_orders u_t_rowNumber u_t_ties r_t_words) H → va_S A s.heap H locs → decode cX12_isKinWord pc = .ok (.ireturn, 1) → W p l e rX12_isKinWord s m args below meth c H locs 0 0 Q (F0 m pc ls [.int o])) {H : Heap} {locs : List Loc} {ls : Array Slot} (hP : va_P D vwCl (w_X12_isKinWord cI cB cZ a_t aX u_t_code u_t_n u_t_ahead u_t_length u_t_begins u_t_sort u_t_value u_t_letters u_t_word u_t_wrongAt u_t_laterFault u_t_laterPlace u_t_newClasses u_t_newLines u_t_turns u_t_shortest u_t_orders u_t_rowNumber u_t_ties r_t_words) H) (hD : va_D A (w_X12_isKinWord cI cB cZ a_t aX u_t_code u_t_n u_t_ahead u_t_length u_t_begins u_t_sort u_t_value u_t_letters u_t_word u_t_wrongAt u_t_laterFault u_t_laterPlace u_t_newClasses u_t_newLines u_t_turns u_t_shortest u_t_orders u_t_rowNumber u_t_ties r_t_words)) (hS : va_S A s.heap H locs) (hl : lv_has ls 2 [(0, .ref a_t), (1, .int x1)]) : W p l e rX12_isKinWord s m args below meth c H locs 0 0 Q (F0 m 0 ls []) := by
  obtain ⟨⟨hx, hb, hml, hown, hts⟩, hK, hN, hA⟩ := C
  have C : jCx p s m args c cX12_isKinWord 2 gX12_isKinWord RX12 G D (jT cI cB cZ) A := ⟨⟨hx, hb, hml, hown, hts⟩, hK, hN, hA⟩
  unfold f_X12_isKinWord at hf
  refine lv_iload_n hx hb dX12_isKinWord_0 rfl (lv_at hl 1 rfl) ?_
  refine lv_iconst (v := (0 : Int32)) hx hb dX12_isKinWord_1 (by decide) ?_
  refine lv_aload_n hx hb dX12_isKinWord_2 rfl (lv_at hl 0 rfl) ?_
  refine va_get (D := D) (ci := 11) (v := .ref (aX 12)) (C := RX12) (T := TX12) (N := 74) hx hb hts iw_X12 hown hK hP 0 rfl rfl 12 (by decide) (hts _ (wG_in k_fl_X12_44 rfl)) (fun _ h9 => h9) rfl dX12_isKinWord_3 ?_
  refine lv_iconst (v := (0 : Int32)) hx hb dX12_isKinWord_6 (by decide) ?_
  obtain ⟨v1, hv1, iv1, hf⟩ := jL_some hf
  refine ja_iald (P := r_t_words) hx hb hK hP 1 0 rfl rfl hv1 iv1 dX12_isKinWord_7 ?_
  refine lv_iconst (v := (1 : Int32)) hx hb dX12_isKinWord_8 (by decide) ?_
  refine lv_isub hx hb dX12_isKinWord_9 ?_
  obtain ⟨r2, hgr2, hf⟩ := jM_some hf
  refine jcS_i0 (As := [.int x1, .int (0 : Int32), .int (v1 - (1 : Int32))]) (rest := []) ⟨hx, hb, hml, hown, hts⟩ hK hN hA (c_X12_in l G D cI cB cZ x1 (0 : Int32) (v1 - (1 : Int32)) hgr2) (va_cwS 3 hts (wG_S k_ml_X12_231 k_st_X12_in k_in_X12 k_co_X12_in) rfl rfl rfl hd_X12_in.2 ⟨Nat.le_of_ble_eq_true rfl, Nat.le_of_ble_eq_true rfl⟩) hP hD hS [] rfl rfl rfl rfl hl.1 rfl (Nat.le_of_ble_eq_true rfl) dX12_isKinWord_10 ⟨Nat.le_of_ble_eq_true rfl, Nat.le_of_ble_eq_true rfl⟩ (fun H locs hP hD hS => ?_)
  obtain ⟨hz, hf⟩ := jZ_some hf
  have ho := Option.some.inj hf
  subst ho
  exact K _ _ _ _ hz hP hS dX12_isKinWord_13
set_option maxHeartbeats 4000000 in
set_option maxRecDepth 100000 in
theorem c_X12_isKinWord (l : Launch) (G : jGt) (D : va_G) (cI cB cZ : ClassId) (a_t : Nat) (aX : Nat → Nat) (u_t_code u_t_n u_t_ahead u_t_length u_t_begins u_t_sort u_t_value u_t_letters : Int32) (u_t_word : Int64) (u_t_wrongAt u_t_laterFault u_t_laterPlace u_t_newClasses u_t_newLines u_t_turns u_t_shortest u_t_orders u_t_rowNumber u_t_ties : Int32) (r_t_words : jA) (x1 : Int32) {o : Int32} (hf : f_X12_isKinWord r_t_words x1 = some o) : jMi l yX12_isKinWord gX12_isKinWord rX12_isKinWord G D (jT cI cB cZ) [.ref a_t, .int x1] (w_X12_isKinWord cI cB cZ a_t aX u_t_code u_t_n u_t_ahead u_t_length u_t_begins u_t_sort u_t_value u_t_letters u_t_word u_t_wrongAt u_t_laterFault u_t_laterPlace u_t_newClasses u_t_newLines u_t_turns u_t_shortest u_t_orders u_t_rowNumber u_t_ties r_t_words) (w_X12_isKinWord cI cB cZ a_t aX u_t_code u_t_n u_t_ahead u_t_length u_t_begins u_t_sort u_t_value u_t_letters u_t_word u_t_wrongAt u_t_laterFault u_t_laterPlace u_t_newClasses u_t_newLines u_t_turns u_t_shortest u_t_orders u_t_rowNumber u_t_ties r_t_words) o := by
  refine jmk_z RX12 rfl (by decide +kernel) rfl (Nat.le_of_ble_eq_true rfl) rfl ?_
  intro p e s m args below meth c ls A Q C hP hD hS hl K
  exact t_X12_isKinWord G D cI cB cZ a_t aX u_t_code u_t_n u_t_ahead u_t_length u_t_begins u_t_sort u_t_value u_t_letters u_t_word u_t_wrongAt u_t_laterFault u_t_laterPlace u_t_newClasses u_t_newLines u_t_turns u_t_shortest u_t_orders u_t_rowNumber u_t_ties r_t_words x1 C hf K hP hD hS hl
abbrev rX12_leadsFrom : Room := { frames := 3, cells := 0, slots := 0, locals := 73 }
abbrev gX12_leadsFrom : List Cond := wG yX12_leadsFrom cX12_leadsFrom 3 (some .int)
def w_X12_leadsFrom (cI cB cZ : ClassId) (a_t : Nat) (aX : Nat → Nat) (u_t_code u_t_n u_t_ahead u_t_length u_t_begins u_t_sort u_t_value u_t_letters : Int32) (u_t_word : Int64) (u_t_wrongAt u_t_laterFault u_t_laterPlace u_t_newClasses u_t_newLines u_t_turns u_t_shortest u_t_orders u_t_rowNumber u_t_ties : Int32) (r_t_child r_t_childBack r_t_weds r_t_wedsBack r_t_wordLetter r_t_wordLong r_t_wordSex : jA) : va_W := [(a_t, .inr (11, (oX12 aX u_t_code u_t_n u_t_ahead u_t_length u_t_begins u_t_sort u_t_value u_t_letters u_t_word u_t_wrongAt u_t_laterFault u_t_laterPlace u_t_newClasses u_t_newLines u_t_turns u_t_shortest u_t_orders u_t_rowNumber u_t_ties))), ((aX 33), .inl (cI, r_t_child.1, .inl r_t_child.2)), ((aX 35), .inl (cI, r_t_childBack.1, .inl r_t_childBack.2)), ((aX 32), .inl (cI, r_t_weds.1, .inl r_t_weds.2)), ((aX 34), .inl (cI, r_t_wedsBack.1, .inl r_t_wedsBack.2)), ((aX 15), .inl (cB, r_t_wordLetter.1, .inl r_t_wordLetter.2)), ((aX 14), .inl (cI, r_t_wordLong.1, .inl r_t_wordLong.2)), ((aX 13), .inl (cI, r_t_wordSex.1, .inl r_t_wordSex.2))]
def f_X12_leadsFrom (r_t_child r_t_childBack r_t_weds r_t_wedsBack r_t_wordLetter r_t_wordLong r_t_wordSex : jA) (x1 x2 : Int32) : Option (Int32) :=
  jL r_t_wordLong x1 fun v1 =>
  jL r_t_wordSex x1 fun v2 =>
  jM (f_X12_walk r_t_wordLetter r_t_child r_t_childBack r_t_weds r_t_wedsBack ((8 : Int32) * x1) v1 v2 x2) fun r3 =>
  some r3
set_option maxHeartbeats 4000000 in
set_option maxRecDepth 100000 in
theorem t_X12_leadsFrom {p : Program} {l : Launch} {e : Env} {s : State} {m : MethodId} {args : Array Value} {below : List Frame} {meth : Method} {c : Code} {A : Nat → Prop} {Q : State → Prop} (G : jGt) (D : va_G) (cI cB cZ : ClassId) (a_t : Nat) (aX : Nat → Nat) (u_t_code u_t_n u_t_ahead u_t_length u_t_begins u_t_sort u_t_value u_t_letters : Int32) (u_t_word : Int64) (u_t_wrongAt u_t_laterFault u_t_laterPlace u_t_newClasses u_t_newLines u_t_turns u_t_shortest u_t_orders u_t_rowNumber u_t_ties : Int32) (r_t_child r_t_childBack r_t_weds r_t_wedsBack r_t_wordLetter r_t_wordLong r_t_wordSex : jA) (x1 x2 : Int32) (C : jCx p s m args c cX12_leadsFrom 3 gX12_leadsFrom RX12 G D (jT cI cB cZ) A) {o : Int32} (hf : f_X12_leadsFrom r_t_child r_t_childBack r_t_weds r_t_wedsBack r_t_wordLetter r_t_wordLong r_t_wordSex x1 x2 = some o) (K : ∀ (H : Heap) (locs : List Loc) (pc : Nat) (ls : Array Slot), va_P D vwCl (w_X12_leadsFrom cI cB cZ a_t aX u_t_code u_t_n u_t_ahead u_t_length u_t_begins u_t_sort u_t_value u_t_letters u_t_word u_t_wrongAt u_t_laterFault u_t_laterPlace u_t_newClasses u_t_newLines u_t_turns u_t_shortest u_t_orders u_t_rowNumber u_t_ties r_t_child r_t_childBack r_t_weds r_t_wedsBack r_t_wordLetter r_t_wordLong r_t_wordSex) H → va_S A s.heap H locs → decode cX12_leadsFrom pc = .ok (.ireturn, 1) → W p l e rX12_leadsFrom s m args below meth c H locs 0 0 Q (F0 m pc ls [.int o])) {H : Heap} {locs : List Loc} {ls : Array Slot} (hP : va_P D vwCl (w_X12_leadsFrom cI cB cZ a_t aX u_t_code u_t_n u_t_ahead u_t_length u_t_begins u_t_sort u_t_value u_t_letters u_t_word u_t_wrongAt u_t_laterFault u_t_laterPlace u_t_newClasses u_t_newLines u_t_turns u_t_shortest u_t_orders u_t_rowNumber u_t_ties r_t_child r_t_childBack r_t_weds r_t_wedsBack r_t_wordLetter r_t_wordLong r_t_wordSex) H) (hD : va_D A (w_X12_leadsFrom cI cB cZ a_t aX u_t_code u_t_n u_t_ahead u_t_length u_t_begins u_t_sort u_t_value u_t_letters u_t_word u_t_wrongAt u_t_laterFault u_t_laterPlace u_t_newClasses u_t_newLines u_t_turns u_t_shortest u_t_orders u_t_rowNumber u_t_ties r_t_child r_t_childBack r_t_weds r_t_wedsBack r_t_wordLetter r_t_wordLong r_t_wordSex)) (hS : va_S A s.heap H locs) (hl : lv_has ls 3 [(0, .ref a_t), (1, .int x1), (2, .int x2)]) : W p l e rX12_leadsFrom s m args below meth c H locs 0 0 Q (F0 m 0 ls []) := by
  obtain ⟨⟨hx, hb, hml, hown, hts⟩, hK, hN, hA⟩ := C
  have C : jCx p s m args c cX12_leadsFrom 3 gX12_leadsFrom RX12 G D (jT cI cB cZ) A := ⟨⟨hx, hb, hml, hown, hts⟩, hK, hN, hA⟩
  unfold f_X12_leadsFrom at hf
  refine lv_aload_n hx hb dX12_leadsFrom_0 rfl (lv_at hl 0 rfl) ?_
  refine lv_aload_n hx hb dX12_leadsFrom_1 rfl (lv_at hl 0 rfl) ?_
  refine va_get (D := D) (ci := 11) (v := .ref (aX 15)) (C := RX12) (T := TX12) (N := 74) hx hb hts iw_X12 hown hK hP 0 rfl rfl 15 (by decide) (hts _ (wG_in k_fl_X12_53 rfl)) (fun _ h9 => h9) rfl dX12_leadsFrom_2 ?_
  refine lv_bipush (v := (8 : Int32)) hx hb dX12_leadsFrom_5 (by decide) ?_
  refine lv_iload_n hx hb dX12_leadsFrom_7 rfl (lv_at hl 1 rfl) ?_
  refine lv_imul hx hb dX12_leadsFrom_8 ?_
  refine lv_aload_n hx hb dX12_leadsFrom_9 rfl (lv_at hl 0 rfl) ?_
  refine va_get (D := D) (ci := 11) (v := .ref (aX 14)) (C := RX12) (T := TX12) (N := 74) hx hb hts iw_X12 hown hK hP 0 rfl rfl 14 (by decide) (hts _ (wG_in k_fl_X12_50 rfl)) (fun _ h9 => h9) rfl dX12_leadsFrom_10 ?_
  refine lv_iload_n hx hb dX12_leadsFrom_13 rfl (lv_at hl 1 rfl) ?_
  obtain ⟨v1, hv1, iv1, hf⟩ := jL_some hf
  refine ja_iald (P := r_t_wordLong) hx hb hK hP 6 0 rfl rfl hv1 iv1 dX12_leadsFrom_14 ?_
  refine lv_aload_n hx hb dX12_leadsFrom_15 rfl (lv_at hl 0 rfl) ?_
  refine va_get (D := D) (ci := 11) (v := .ref (aX 13)) (C := RX12) (T := TX12) (N := 74) hx hb hts iw_X12 hown hK hP 0 rfl rfl 13 (by decide) (hts _ (wG_in k_fl_X12_47 rfl)) (fun _ h9 => h9) rfl dX12_leadsFrom_16 ?_
  refine lv_iload_n hx hb dX12_leadsFrom_19 rfl (lv_at hl 1 rfl) ?_
  obtain ⟨v2, hv2, iv2, hf⟩ := jL_some hf
  refine ja_iald (P := r_t_wordSex) hx hb hK hP 7 0 rfl rfl hv2 iv2 dX12_leadsFrom_20 ?_
  refine lv_iload_n hx hb dX12_leadsFrom_21 rfl (lv_at hl 2 rfl) ?_
  obtain ⟨r3, hgr3, hf⟩ := jM_some hf
  refine jcV_i0 (As := [.ref (aX 15), .int ((8 : Int32) * x1), .int v1, .int v2, .int x2]) (rest := []) ⟨hx, hb, hml, hown, hts⟩ hK hN hA (c_X12_walk l G D cI cB cZ (aX 15) a_t aX u_t_code u_t_n u_t_ahead u_t_length u_t_begins u_t_sort u_t_value u_t_letters u_t_word u_t_wrongAt u_t_laterFault u_t_laterPlace u_t_newClasses u_t_newLines u_t_turns u_t_shortest u_t_orders u_t_rowNumber u_t_ties r_t_wordLetter r_t_child r_t_childBack r_t_weds r_t_wedsBack ((8 : Int32) * x1) v1 v2 x2 hgr3) (cwV 5 hts (wG_V k_ml_X12_211 k_im_X12_walk k_se_X12_walk k_in_X12 k_co_X12_walk) rfl rfl rfl hd_X12_walk ⟨Nat.le_of_ble_eq_true rfl, Nat.le_of_ble_eq_true rfl⟩) hP hD hS [5, 0, 1, 2, 3, 4] rfl rfl rfl (ci := 11) rfl 0 rfl rfl rfl hl.1 rfl (Nat.le_of_ble_eq_true rfl) dX12_leadsFrom_22 ⟨Nat.le_of_ble_eq_true rfl, Nat.le_of_ble_eq_true rfl⟩ (fun H locs hP hD hS => ?_)
  have ho := Option.some.inj hf
  subst ho
  exact K _ _ _ _ hP hS dX12_leadsFrom_25
set_option maxHeartbeats 4000000 in
set_option maxRecDepth 100000 in
theorem c_X12_leadsFrom (l : Launch) (G : jGt) (D : va_G) (cI cB cZ : ClassId) (a_t : Nat) (aX : Nat → Nat) (u_t_code u_t_n u_t_ahead u_t_length u_t_begins u_t_sort u_t_value u_t_letters : Int32) (u_t_word : Int64) (u_t_wrongAt u_t_laterFault u_t_laterPlace u_t_newClasses u_t_newLines u_t_turns u_t_shortest u_t_orders u_t_rowNumber u_t_ties : Int32) (r_t_child r_t_childBack r_t_weds r_t_wedsBack r_t_wordLetter r_t_wordLong r_t_wordSex : jA) (x1 x2 : Int32) {o : Int32} (hf : f_X12_leadsFrom r_t_child r_t_childBack r_t_weds r_t_wedsBack r_t_wordLetter r_t_wordLong r_t_wordSex x1 x2 = some o) : jMi l yX12_leadsFrom gX12_leadsFrom rX12_leadsFrom G D (jT cI cB cZ) [.ref a_t, .int x1, .int x2] (w_X12_leadsFrom cI cB cZ a_t aX u_t_code u_t_n u_t_ahead u_t_length u_t_begins u_t_sort u_t_value u_t_letters u_t_word u_t_wrongAt u_t_laterFault u_t_laterPlace u_t_newClasses u_t_newLines u_t_turns u_t_shortest u_t_orders u_t_rowNumber u_t_ties r_t_child r_t_childBack r_t_weds r_t_wedsBack r_t_wordLetter r_t_wordLong r_t_wordSex) (w_X12_leadsFrom cI cB cZ a_t aX u_t_code u_t_n u_t_ahead u_t_length u_t_begins u_t_sort u_t_value u_t_letters u_t_word u_t_wrongAt u_t_laterFault u_t_laterPlace u_t_newClasses u_t_newLines u_t_turns u_t_shortest u_t_orders u_t_rowNumber u_t_ties r_t_child r_t_childBack r_t_weds r_t_wedsBack r_t_wordLetter r_t_wordLong r_t_wordSex) o := by
  refine jmk_i RX12 rfl (by decide +kernel) rfl (Nat.le_of_ble_eq_true rfl) rfl ?_
  intro p e s m args below meth c ls A Q C hP hD hS hl K
  exact t_X12_leadsFrom G D cI cB cZ a_t aX u_t_code u_t_n u_t_ahead u_t_length u_t_begins u_t_sort u_t_value u_t_letters u_t_word u_t_wrongAt u_t_laterFault u_t_laterPlace u_t_newClasses u_t_newLines u_t_turns u_t_shortest u_t_orders u_t_rowNumber u_t_ties r_t_child r_t_childBack r_t_weds r_t_wedsBack r_t_wordLetter r_t_wordLong r_t_wordSex x1 x2 C hf K hP hD hS hl

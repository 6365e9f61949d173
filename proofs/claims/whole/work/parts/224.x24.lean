abbrev rX12_turnsOf : Room := { frames := 3, cells := 0, slots := 0, locals := 69 }
abbrev gX12_turnsOf : List Cond := wG yX12_turnsOf cX12_turnsOf 1 (some .int)
def w_X12_turnsOf (cI cB cZ : ClassId) (a_t : Nat) (aX : Nat → Nat) (u_t_ahead u_t_length u_t_begins u_t_sort u_t_value u_t_letters : Int32) (u_t_word : Int64) (u_t_wrongAt u_t_laterFault u_t_laterPlace u_t_newClasses u_t_newLines u_t_shortest u_t_orders u_t_rowNumber u_t_ties s_t_code s_t_n s_t_turns : Int32) (r_t_child r_t_childBack r_t_childRow r_t_classes r_t_turn r_t_weds r_t_wedsBack r_t_wedsRow : jA) : va_W := [(a_t, .inr (11, (oX12 aX s_t_code s_t_n u_t_ahead u_t_length u_t_begins u_t_sort u_t_value u_t_letters u_t_word u_t_wrongAt u_t_laterFault u_t_laterPlace u_t_newClasses u_t_newLines s_t_turns u_t_shortest u_t_orders u_t_rowNumber u_t_ties))), ((aX 33), .inl (cI, r_t_child.1, .inl r_t_child.2)), ((aX 35), .inl (cI, r_t_childBack.1, .inl r_t_childBack.2)), ((aX 7), .inl (cI, r_t_childRow.1, .inl r_t_childRow.2)), ((aX 5), .inl (cI, r_t_classes.1, .inl r_t_classes.2)), ((aX 55), .inl (cI, r_t_turn.1, .inl r_t_turn.2)), ((aX 32), .inl (cI, r_t_weds.1, .inl r_t_weds.2)), ((aX 34), .inl (cI, r_t_wedsBack.1, .inl r_t_wedsBack.2)), ((aX 6), .inl (cI, r_t_wedsRow.1, .inl r_t_wedsRow.2))]
def f_X12_turnsOf (r_t_childRow r_t_classes r_t_wedsRow : jA) (s_t_code s_t_n s_t_turns : Int32) (r_t_child r_t_childBack r_t_turn r_t_weds r_t_wedsBack : jA) : Option (Int32 × Int32 × Int32 × Int32 × jA × jA × jA × jA × jA) :=
  jM (f_X12_bring r_t_childRow r_t_classes r_t_wedsRow s_t_n r_t_child r_t_childBack r_t_weds r_t_wedsBack) fun r1 =>
  if r1.1 = 0 then
  some ((-1 : Int32), (0 : Int32), r1.2.1, s_t_turns, r1.2.2.1, r1.2.2.2.1, r_t_turn, r1.2.2.2.2.1, r1.2.2.2.2.2)
  else
  jM (f_X12_findTurns r1.2.1 r1.2.2.1 r1.2.2.2.2.1 s_t_turns r_t_turn) fun r3 =>
  jM (f_X12_areMany r3.1) fun r4 =>
  if r4 = 0 then
  some (r3.1, (0 : Int32), r1.2.1, r3.1, r1.2.2.1, r1.2.2.2.1, r3.2, r1.2.2.2.2.1, r1.2.2.2.2.2)
  else
  some ((-2 : Int32), (0 : Int32), r1.2.1, r3.1, r1.2.2.1, r1.2.2.2.1, r3.2, r1.2.2.2.2.1, r1.2.2.2.2.2)
set_option maxHeartbeats 4000000 in
set_option maxRecDepth 100000 in
theorem t_X12_turnsOf {p : Program} {l : Launch} {e : Env} {s : State} {m : MethodId} {args : Array Value} {below : List Frame} {meth : Method} {c : Code} {A : Nat → Prop} {Q : State → Prop} (G : jGt) (D : va_G) (cI cB cZ : ClassId) (a_t : Nat) (aX : Nat → Nat) (u_t_ahead u_t_length u_t_begins u_t_sort u_t_value u_t_letters : Int32) (u_t_word : Int64) (u_t_wrongAt u_t_laterFault u_t_laterPlace u_t_newClasses u_t_newLines u_t_shortest u_t_orders u_t_rowNumber u_t_ties : Int32) (r_t_childRow r_t_classes r_t_wedsRow : jA) (s_t_code s_t_n s_t_turns : Int32) (r_t_child r_t_childBack r_t_turn r_t_weds r_t_wedsBack : jA) (C : jCx p s m args c cX12_turnsOf 1 gX12_turnsOf RX12 G D (jT cI cB cZ) A) {o : Int32 × Int32 × Int32 × Int32 × jA × jA × jA × jA × jA} (hf : f_X12_turnsOf r_t_childRow r_t_classes r_t_wedsRow s_t_code s_t_n s_t_turns r_t_child r_t_childBack r_t_turn r_t_weds r_t_wedsBack = some o) (K : ∀ (H : Heap) (locs : List Loc) (pc : Nat) (ls : Array Slot), va_P D vwCl (w_X12_turnsOf cI cB cZ a_t aX u_t_ahead u_t_length u_t_begins u_t_sort u_t_value u_t_letters u_t_word u_t_wrongAt u_t_laterFault u_t_laterPlace u_t_newClasses u_t_newLines u_t_shortest u_t_orders u_t_rowNumber u_t_ties o.2.1 o.2.2.1 o.2.2.2.1 o.2.2.2.2.1 o.2.2.2.2.2.1 r_t_childRow r_t_classes o.2.2.2.2.2.2.1 o.2.2.2.2.2.2.2.1 o.2.2.2.2.2.2.2.2 r_t_wedsRow) H → va_S A s.heap H locs → decode cX12_turnsOf pc = .ok (.ireturn, 1) → W p l e rX12_turnsOf s m args below meth c H locs 0 0 Q (F0 m pc ls [.int o.1])) {H : Heap} {locs : List Loc} {ls : Array Slot} (hP : va_P D vwCl (w_X12_turnsOf cI cB cZ a_t aX u_t_ahead u_t_length u_t_begins u_t_sort u_t_value u_t_letters u_t_word u_t_wrongAt u_t_laterFault u_t_laterPlace u_t_newClasses u_t_newLines u_t_shortest u_t_orders u_t_rowNumber u_t_ties s_t_code s_t_n s_t_turns r_t_child r_t_childBack r_t_childRow r_t_classes r_t_turn r_t_weds r_t_wedsBack r_t_wedsRow) H) (hD : va_D A (w_X12_turnsOf cI cB cZ a_t aX u_t_ahead u_t_length u_t_begins u_t_sort u_t_value u_t_letters u_t_word u_t_wrongAt u_t_laterFault u_t_laterPlace u_t_newClasses u_t_newLines u_t_shortest u_t_orders u_t_rowNumber u_t_ties s_t_code s_t_n s_t_turns r_t_child r_t_childBack r_t_childRow r_t_classes r_t_turn r_t_weds r_t_wedsBack r_t_wedsRow)) (hS : va_S A s.heap H locs) (hl : lv_has ls 1 [(0, .ref a_t)]) : W p l e rX12_turnsOf s m args below meth c H locs 0 0 Q (F0 m 0 ls []) := by
  obtain ⟨⟨hx, hb, hml, hown, hts⟩, hK, hN, hA⟩ := C
  have C : jCx p s m args c cX12_turnsOf 1 gX12_turnsOf RX12 G D (jT cI cB cZ) A := ⟨⟨hx, hb, hml, hown, hts⟩, hK, hN, hA⟩
  unfold f_X12_turnsOf at hf
  refine lv_aload_n hx hb dX12_turnsOf_0 rfl (lv_at hl 0 rfl) ?_
  refine lv_iconst (v := (0 : Int32)) hx hb dX12_turnsOf_1 (by decide) ?_
  refine va_put (D := D) (ci := 11) (v := .int (0 : Int32)) (ty := .int) (C := RX12) (T := TX12) (N := 74) hx hb hts iw_X12 tyX12 tyX12_ok nmX12 hown hK hP hD hS 0 rfl rfl 0 (by decide) (hts _ (wG_in k_fl_X12_177 rfl)) (fun _ h9 => h9) rfl (tyX12_ok 0 (by decide)) rfl rfl (Nat.le_of_ble_eq_true rfl) dX12_turnsOf_2 (fun H locs hP hD hS => ?_)
  have hP : va_P D vwCl (w_X12_turnsOf cI cB cZ a_t aX u_t_ahead u_t_length u_t_begins u_t_sort u_t_value u_t_letters u_t_word u_t_wrongAt u_t_laterFault u_t_laterPlace u_t_newClasses u_t_newLines u_t_shortest u_t_orders u_t_rowNumber u_t_ties (0 : Int32) s_t_n s_t_turns r_t_child r_t_childBack r_t_childRow r_t_classes r_t_turn r_t_weds r_t_wedsBack r_t_wedsRow) H := hP
  have hD : va_D A (w_X12_turnsOf cI cB cZ a_t aX u_t_ahead u_t_length u_t_begins u_t_sort u_t_value u_t_letters u_t_word u_t_wrongAt u_t_laterFault u_t_laterPlace u_t_newClasses u_t_newLines u_t_shortest u_t_orders u_t_rowNumber u_t_ties (0 : Int32) s_t_n s_t_turns r_t_child r_t_childBack r_t_childRow r_t_classes r_t_turn r_t_weds r_t_wedsBack r_t_wedsRow) := hD
  refine lv_aload_n hx hb dX12_turnsOf_5 rfl (lv_at hl 0 rfl) ?_
  obtain ⟨r1, hgr1, hf⟩ := jM_some hf
  refine jcV_i (As := []) (rest := []) ⟨hx, hb, hml, hown, hts⟩ hK hN hA (c_X12_bring l G D cI cB cZ a_t aX (0 : Int32) u_t_ahead u_t_length u_t_begins u_t_sort u_t_value u_t_letters u_t_word u_t_wrongAt u_t_laterFault u_t_laterPlace u_t_newClasses u_t_newLines s_t_turns u_t_shortest u_t_orders u_t_rowNumber u_t_ties r_t_childRow r_t_classes r_t_wedsRow s_t_n r_t_child r_t_childBack r_t_weds r_t_wedsBack hgr1) (cwV 0 hts (wG_V k_ml_X12_338 k_im_X12_bring k_se_X12_bring k_in_X12 k_co_X12_bring) rfl rfl rfl hd_X12_bring ⟨Nat.le_of_ble_eq_true rfl, Nat.le_of_ble_eq_true rfl⟩) hP hD hS [0, 1, 2, 3, 4, 6, 7, 8] rfl rfl rfl (ci := 11) rfl 0 rfl rfl rfl hl.1 rfl (Nat.le_of_ble_eq_true rfl) dX12_turnsOf_6 ⟨Nat.le_of_ble_eq_true rfl, Nat.le_of_ble_eq_true rfl⟩ (fun H locs hP hD hS => ?_)
  have hP : va_P D vwCl (w_X12_turnsOf cI cB cZ a_t aX u_t_ahead u_t_length u_t_begins u_t_sort u_t_value u_t_letters u_t_word u_t_wrongAt u_t_laterFault u_t_laterPlace u_t_newClasses u_t_newLines u_t_shortest u_t_orders u_t_rowNumber u_t_ties (0 : Int32) r1.2.1 s_t_turns r1.2.2.1 r1.2.2.2.1 r_t_childRow r_t_classes r_t_turn r1.2.2.2.2.1 r1.2.2.2.2.2 r_t_wedsRow) H := hP
  have hD : va_D A (w_X12_turnsOf cI cB cZ a_t aX u_t_ahead u_t_length u_t_begins u_t_sort u_t_value u_t_letters u_t_word u_t_wrongAt u_t_laterFault u_t_laterPlace u_t_newClasses u_t_newLines u_t_shortest u_t_orders u_t_rowNumber u_t_ties (0 : Int32) r1.2.1 s_t_turns r1.2.2.1 r1.2.2.2.1 r_t_childRow r_t_classes r_t_turn r1.2.2.2.2.1 r1.2.2.2.2.2 r_t_wedsRow) := hD
  refine lv_if_ne (tgt := 14) hx hb dX12_turnsOf_9 (by decide) (fun c2 => ?_) (fun c2 => ?_)
  · replace hf := jif_f c2 hf
    refine lv_aload_n hx hb dX12_turnsOf_14 rfl (lv_at hl 0 rfl) ?_
    obtain ⟨r3, hgr3, hf⟩ := jM_some hf
    refine jcV_v (As := []) (rest := []) ⟨hx, hb, hml, hown, hts⟩ hK hN hA (c_X12_findTurns l G D cI cB cZ a_t aX (0 : Int32) u_t_ahead u_t_length u_t_begins u_t_sort u_t_value u_t_letters u_t_word u_t_wrongAt u_t_laterFault u_t_laterPlace u_t_newClasses u_t_newLines u_t_shortest u_t_orders u_t_rowNumber u_t_ties r1.2.1 r1.2.2.1 r1.2.2.2.2.1 s_t_turns r_t_turn hgr3) (cwV 0 hts (wG_V k_ml_X12_341 k_im_X12_findTurns k_se_X12_findTurns k_in_X12 k_co_X12_findTurns) rfl rfl rfl hd_X12_findTurns ⟨Nat.le_of_ble_eq_true rfl, Nat.le_of_ble_eq_true rfl⟩) hP hD hS [0, 1, 5, 6] rfl rfl rfl (ci := 11) rfl 0 rfl rfl rfl hl.1 rfl (Nat.le_of_ble_eq_true rfl) dX12_turnsOf_15 ⟨Nat.le_of_ble_eq_true rfl, Nat.le_of_ble_eq_true rfl⟩ (fun H locs hP hD hS => ?_)
    have hP : va_P D vwCl (w_X12_turnsOf cI cB cZ a_t aX u_t_ahead u_t_length u_t_begins u_t_sort u_t_value u_t_letters u_t_word u_t_wrongAt u_t_laterFault u_t_laterPlace u_t_newClasses u_t_newLines u_t_shortest u_t_orders u_t_rowNumber u_t_ties (0 : Int32) r1.2.1 r3.1 r1.2.2.1 r1.2.2.2.1 r_t_childRow r_t_classes r3.2 r1.2.2.2.2.1 r1.2.2.2.2.2 r_t_wedsRow) H := hP
    have hD : va_D A (w_X12_turnsOf cI cB cZ a_t aX u_t_ahead u_t_length u_t_begins u_t_sort u_t_value u_t_letters u_t_word u_t_wrongAt u_t_laterFault u_t_laterPlace u_t_newClasses u_t_newLines u_t_shortest u_t_orders u_t_rowNumber u_t_ties (0 : Int32) r1.2.1 r3.1 r1.2.2.1 r1.2.2.2.1 r_t_childRow r_t_classes r3.2 r1.2.2.2.2.1 r1.2.2.2.2.2 r_t_wedsRow) := hD
    refine lv_aload_n hx hb dX12_turnsOf_18 rfl (lv_at hl 0 rfl) ?_
    obtain ⟨r4, hgr4, hf⟩ := jM_some hf
    refine jcV_i0 (As := []) (rest := []) ⟨hx, hb, hml, hown, hts⟩ hK hN hA (c_X12_areMany l G D cI cB cZ a_t aX (0 : Int32) r1.2.1 u_t_ahead u_t_length u_t_begins u_t_sort u_t_value u_t_letters u_t_word u_t_wrongAt u_t_laterFault u_t_laterPlace u_t_newClasses u_t_newLines u_t_shortest u_t_orders u_t_rowNumber u_t_ties r3.1 hgr4) (cwV 0 hts (wG_V k_ml_X12_378 k_im_X12_areMany k_se_X12_areMany k_in_X12 k_co_X12_areMany) rfl rfl rfl hd_X12_areMany ⟨Nat.le_of_ble_eq_true rfl, Nat.le_of_ble_eq_true rfl⟩) hP hD hS [0] rfl rfl rfl (ci := 11) rfl 0 rfl rfl rfl hl.1 rfl (Nat.le_of_ble_eq_true rfl) dX12_turnsOf_19 ⟨Nat.le_of_ble_eq_true rfl, Nat.le_of_ble_eq_true rfl⟩ (fun H locs hP hD hS => ?_)
    refine lv_if_eq (tgt := 30) hx hb dX12_turnsOf_22 (by decide) (fun c5 => ?_) (fun c5 => ?_)
    · replace hf := jif_t c5 hf
      refine lv_aload_n hx hb dX12_turnsOf_30 rfl (lv_at hl 0 rfl) ?_
      refine va_get (D := D) (ci := 11) (v := .int r3.1) (C := RX12) (T := TX12) (N := 74) hx hb hts iw_X12 hown hK hP 0 rfl rfl 54 (by decide) (hts _ (wG_in k_fl_X12_344 rfl)) (fun _ h9 => h9) rfl dX12_turnsOf_31 ?_
      have ho := Option.some.inj hf
      subst ho
      exact K _ _ _ _ hP hS dX12_turnsOf_34
    · replace hf := jif_f c5 hf
      refine lv_bipush (v := (-2 : Int32)) hx hb dX12_turnsOf_25 (by decide) ?_
      refine lv_goto (tgt := 34) hx hb dX12_turnsOf_27 (by decide) ?_
      have ho := Option.some.inj hf
      subst ho
      exact K _ _ _ _ hP hS dX12_turnsOf_34
  · replace hf := jif_t c2 hf
    refine lv_iconst (v := (-1 : Int32)) hx hb dX12_turnsOf_12 (by decide) ?_
    have ho := Option.some.inj hf
    subst ho
    exact K _ _ _ _ hP hS dX12_turnsOf_13
set_option maxHeartbeats 4000000 in
set_option maxRecDepth 100000 in
theorem c_X12_turnsOf (l : Launch) (G : jGt) (D : va_G) (cI cB cZ : ClassId) (a_t : Nat) (aX : Nat → Nat) (u_t_ahead u_t_length u_t_begins u_t_sort u_t_value u_t_letters : Int32) (u_t_word : Int64) (u_t_wrongAt u_t_laterFault u_t_laterPlace u_t_newClasses u_t_newLines u_t_shortest u_t_orders u_t_rowNumber u_t_ties : Int32) (r_t_childRow r_t_classes r_t_wedsRow : jA) (s_t_code s_t_n s_t_turns : Int32) (r_t_child r_t_childBack r_t_turn r_t_weds r_t_wedsBack : jA) {o : Int32 × Int32 × Int32 × Int32 × jA × jA × jA × jA × jA} (hf : f_X12_turnsOf r_t_childRow r_t_classes r_t_wedsRow s_t_code s_t_n s_t_turns r_t_child r_t_childBack r_t_turn r_t_weds r_t_wedsBack = some o) : jMi l yX12_turnsOf gX12_turnsOf rX12_turnsOf G D (jT cI cB cZ) [.ref a_t] (w_X12_turnsOf cI cB cZ a_t aX u_t_ahead u_t_length u_t_begins u_t_sort u_t_value u_t_letters u_t_word u_t_wrongAt u_t_laterFault u_t_laterPlace u_t_newClasses u_t_newLines u_t_shortest u_t_orders u_t_rowNumber u_t_ties s_t_code s_t_n s_t_turns r_t_child r_t_childBack r_t_childRow r_t_classes r_t_turn r_t_weds r_t_wedsBack r_t_wedsRow) (w_X12_turnsOf cI cB cZ a_t aX u_t_ahead u_t_length u_t_begins u_t_sort u_t_value u_t_letters u_t_word u_t_wrongAt u_t_laterFault u_t_laterPlace u_t_newClasses u_t_newLines u_t_shortest u_t_orders u_t_rowNumber u_t_ties o.2.1 o.2.2.1 o.2.2.2.1 o.2.2.2.2.1 o.2.2.2.2.2.1 r_t_childRow r_t_classes o.2.2.2.2.2.2.1 o.2.2.2.2.2.2.2.1 o.2.2.2.2.2.2.2.2 r_t_wedsRow) o.1 := by
  refine jmk_i RX12 rfl (by decide +kernel) rfl (Nat.le_of_ble_eq_true rfl) rfl ?_
  intro p e s m args below meth c ls A Q C hP hD hS hl K
  exact t_X12_turnsOf G D cI cB cZ a_t aX u_t_ahead u_t_length u_t_begins u_t_sort u_t_value u_t_letters u_t_word u_t_wrongAt u_t_laterFault u_t_laterPlace u_t_newClasses u_t_newLines u_t_shortest u_t_orders u_t_rowNumber u_t_ties r_t_childRow r_t_classes r_t_wedsRow s_t_code s_t_n s_t_turns r_t_child r_t_childBack r_t_turn r_t_weds r_t_wedsBack C hf K hP hD hS hl
abbrev rX12_comes : Room := { frames := 2, cells := 0, slots := 0, locals := 42 }
abbrev gX12_comes : List Cond := wG yX12_comes cX12_comes 8 (some .int)
def w_X12_comes (cI cB cZ : ClassId) (a_t : Nat) (aX : Nat → Nat) (u_t_ahead u_t_length u_t_begins u_t_sort u_t_value u_t_letters : Int32) (u_t_word : Int64) (u_t_wrongAt u_t_laterFault u_t_laterPlace u_t_newClasses u_t_newLines u_t_turns u_t_shortest u_t_orders u_t_rowNumber u_t_ties s_t_code s_t_n : Int32) (r_t_child r_t_childBack r_t_childRow r_t_classes r_t_weds r_t_wedsBack r_t_wedsRow : jA) : va_W := [(a_t, .inr (11, (oX12 aX s_t_code s_t_n u_t_ahead u_t_length u_t_begins u_t_sort u_t_value u_t_letters u_t_word u_t_wrongAt u_t_laterFault u_t_laterPlace u_t_newClasses u_t_newLines u_t_turns u_t_shortest u_t_orders u_t_rowNumber u_t_ties))), ((aX 33), .inl (cI, r_t_child.1, .inl r_t_child.2)), ((aX 35), .inl (cI, r_t_childBack.1, .inl r_t_childBack.2)), ((aX 7), .inl (cI, r_t_childRow.1, .inl r_t_childRow.2)), ((aX 5), .inl (cI, r_t_classes.1, .inl r_t_classes.2)), ((aX 32), .inl (cI, r_t_weds.1, .inl r_t_weds.2)), ((aX 34), .inl (cI, r_t_wedsBack.1, .inl r_t_wedsBack.2)), ((aX 6), .inl (cI, r_t_wedsRow.1, .inl r_t_wedsRow.2))]
def f_X12_comes_j88 (s_t_code s_t_n : Int32) (r_t_child r_t_childBack r_t_weds r_t_wedsBack : jA) (x1 x2 x3 x6 k0 k1 : Int32) : Option ((Int32 × Int32) ⊕ ((Int32))) :=
  jV (k0 ||| (k1 <<< (((3 : Int32) * x6) &&& 31))) fun v11 =>
  some (Sum.inl (v11, (x6 + 1)))
set_option maxHeartbeats 4000000 in
set_option maxRecDepth 100000 in
theorem t_X12_comes_j88 {p : Program} {l : Launch} {e : Env} {s : State} {m : MethodId} {args : Array Value} {below : List Frame} {meth : Method} {c : Code} {A : Nat → Prop} {Q : State → Prop} (G : jGt) (D : va_G) (cI cB cZ : ClassId) (a_t : Nat) (aX : Nat → Nat) (u_t_ahead u_t_length u_t_begins u_t_sort u_t_value u_t_letters : Int32) (u_t_word : Int64) (u_t_wrongAt u_t_laterFault u_t_laterPlace u_t_newClasses u_t_newLines u_t_turns u_t_shortest u_t_orders u_t_rowNumber u_t_ties : Int32) (r_t_childRow r_t_classes r_t_wedsRow : jA) (s_t_code s_t_n : Int32) (r_t_child r_t_childBack r_t_weds r_t_wedsBack : jA) (x1 x2 x3 x6 k0 k1 : Int32) (C : jCx p s m args c cX12_comes 8 gX12_comes RX12 G D (jT cI cB cZ) A) {o : (Int32 × Int32) ⊕ ((Int32))} (hf : f_X12_comes_j88 s_t_code s_t_n r_t_child r_t_childBack r_t_weds r_t_wedsBack x1 x2 x3 x6 k0 k1 = some o) (K : (∀ z, o = Sum.inl z → ∀ (H : Heap) (locs : List Loc) (ls : Array Slot), va_P D vwCl (w_X12_comes cI cB cZ a_t aX u_t_ahead u_t_length u_t_begins u_t_sort u_t_value u_t_letters u_t_word u_t_wrongAt u_t_laterFault u_t_laterPlace u_t_newClasses u_t_newLines u_t_turns u_t_shortest u_t_orders u_t_rowNumber u_t_ties s_t_code s_t_n r_t_child r_t_childBack r_t_childRow r_t_classes r_t_weds r_t_wedsBack r_t_wedsRow) H → va_D A (w_X12_comes cI cB cZ a_t aX u_t_ahead u_t_length u_t_begins u_t_sort u_t_value u_t_letters u_t_word u_t_wrongAt u_t_laterFault u_t_laterPlace u_t_newClasses u_t_newLines u_t_turns u_t_shortest u_t_orders u_t_rowNumber u_t_ties s_t_code s_t_n r_t_child r_t_childBack r_t_childRow r_t_classes r_t_weds r_t_wedsBack r_t_wedsRow) → va_S A s.heap H locs → lv_has ls 8 [(0, .ref a_t), (1, .int x1), (2, .int x2), (3, .int x3), (5, .int z.1), (6, .int z.2)] → W p l e rX12_comes s m args below meth c H locs 0 0 Q (F0 m 44 ls [])) ∧ (∀ z, o = Sum.inr z → ∀ (H : Heap) (locs : List Loc) (ls : Array Slot), va_P D vwCl (w_X12_comes cI cB cZ a_t aX u_t_ahead u_t_length u_t_begins u_t_sort u_t_value u_t_letters u_t_word u_t_wrongAt u_t_laterFault u_t_laterPlace u_t_newClasses u_t_newLines u_t_turns u_t_shortest u_t_orders u_t_rowNumber u_t_ties s_t_code s_t_n r_t_child r_t_childBack r_t_childRow r_t_classes r_t_weds r_t_wedsBack r_t_wedsRow) H → va_D A (w_X12_comes cI cB cZ a_t aX u_t_ahead u_t_length u_t_begins u_t_sort u_t_value u_t_letters u_t_word u_t_wrongAt u_t_laterFault u_t_laterPlace u_t_newClasses u_t_newLines u_t_turns u_t_shortest u_t_orders u_t_rowNumber u_t_ties s_t_code s_t_n r_t_child r_t_childBack r_t_childRow r_t_classes r_t_weds r_t_wedsBack r_t_wedsRow) → va_S A s.heap H locs → lv_has ls 8 [(0, .ref a_t), (1, .int x1), (2, .int x2), (5, .int z)] → W p l e rX12_comes s m args below meth c H locs 0 0 Q (F0 m 102 ls []))) {H : Heap} {locs : List Loc} {ls : Array Slot} (hP : va_P D vwCl (w_X12_comes cI cB cZ a_t aX u_t_ahead u_t_length u_t_begins u_t_sort u_t_value u_t_letters u_t_word u_t_wrongAt u_t_laterFault u_t_laterPlace u_t_newClasses u_t_newLines u_t_turns u_t_shortest u_t_orders u_t_rowNumber u_t_ties s_t_code s_t_n r_t_child r_t_childBack r_t_childRow r_t_classes r_t_weds r_t_wedsBack r_t_wedsRow) H) (hD : va_D A (w_X12_comes cI cB cZ a_t aX u_t_ahead u_t_length u_t_begins u_t_sort u_t_value u_t_letters u_t_word u_t_wrongAt u_t_laterFault u_t_laterPlace u_t_newClasses u_t_newLines u_t_turns u_t_shortest u_t_orders u_t_rowNumber u_t_ties s_t_code s_t_n r_t_child r_t_childBack r_t_childRow r_t_classes r_t_weds r_t_wedsBack r_t_wedsRow)) (hS : va_S A s.heap H locs) (hl : lv_has ls 8 [(0, .ref a_t), (1, .int x1), (2, .int x2), (3, .int x3), (6, .int x6)]) : W p l e rX12_comes s m args below meth c H locs 0 0 Q (F0 m 88 ls [.int k1, .int k0]) := by
  obtain ⟨⟨hx, hb, hml, hown, hts⟩, hK, hN, hA⟩ := C
  have C : jCx p s m args c cX12_comes 8 gX12_comes RX12 G D (jT cI cB cZ) A := ⟨⟨hx, hb, hml, hown, hts⟩, hK, hN, hA⟩
  unfold f_X12_comes_j88 at hf
  refine lv_iconst (v := (3 : Int32)) hx hb dX12_comes_88 (by decide) ?_
  refine lv_iload hx hb dX12_comes_89 (lv_at hl 4 rfl) ?_
  refine lv_imul hx hb dX12_comes_91 ?_
  refine lv_ishl hx hb dX12_comes_92 ?_
  refine lv_ior hx hb dX12_comes_93 ?_
  obtain ⟨v11, hv11, hf⟩ := jV_some hf
  refine jtop hv11 ?_
  refine lv_istore (lv' := [(5, .int v11), (0, .ref a_t), (1, .int x1), (2, .int x2), (3, .int x3), (6, .int x6)]) hx hb dX12_comes_94 hl (by decide) rfl (fun ls hl => ?_)
  refine lv_iinc (v := (x6 + 1)) (lv' := [(6, .int (x6 + 1)), (5, .int v11), (0, .ref a_t), (1, .int x1), (2, .int x2), (3, .int x3)]) hx hb dX12_comes_96 hl (k := 5) rfl (by first | rfl | decide) (by decide) rfl (fun ls hl => ?_)
  refine lv_goto (tgt := 44) hx hb dX12_comes_99 (by decide) ?_
  have ho := Option.some.inj hf
  exact K.1 _ ho.symm _ _ _ hP hD hS (lv_sub hl [2, 3, 4, 5, 1, 0] rfl)
def f_X12_comes_b44 (s_t_code s_t_n : Int32) (r_t_child r_t_childBack r_t_weds r_t_wedsBack : jA) (x1 x2 x3 x5 x6 : Int32) : Option ((Int32 × Int32) ⊕ ((Int32))) :=
  if s_t_n ≤ x6 then
  some (Sum.inr x5)
  else
  jM (f_X12_at x3 x6) fun r8 =>
  if x1 = (2 : Int32) then
  jL r_t_weds r8 fun v12 =>
  f_X12_comes_j88 s_t_code s_t_n r_t_child r_t_childBack r_t_weds r_t_wedsBack x1 x2 x3 x6 x5 v12
  else
  jM (f_X12_childOf r_t_child r_t_wedsBack r8 ((1 : Int32) - x1)) fun r10 =>
  f_X12_comes_j88 s_t_code s_t_n r_t_child r_t_childBack r_t_weds r_t_wedsBack x1 x2 x3 x6 x5 r10
set_option maxHeartbeats 4000000 in
set_option maxRecDepth 100000 in
theorem t_X12_comes_b44 {p : Program} {l : Launch} {e : Env} {s : State} {m : MethodId} {args : Array Value} {below : List Frame} {meth : Method} {c : Code} {A : Nat → Prop} {Q : State → Prop} (G : jGt) (D : va_G) (cI cB cZ : ClassId) (a_t : Nat) (aX : Nat → Nat) (u_t_ahead u_t_length u_t_begins u_t_sort u_t_value u_t_letters : Int32) (u_t_word : Int64) (u_t_wrongAt u_t_laterFault u_t_laterPlace u_t_newClasses u_t_newLines u_t_turns u_t_shortest u_t_orders u_t_rowNumber u_t_ties : Int32) (r_t_childRow r_t_classes r_t_wedsRow : jA) (s_t_code s_t_n : Int32) (r_t_child r_t_childBack r_t_weds r_t_wedsBack : jA) (x1 x2 x3 x5 x6 : Int32) (C : jCx p s m args c cX12_comes 8 gX12_comes RX12 G D (jT cI cB cZ) A) {o : (Int32 × Int32) ⊕ ((Int32))} (hf : f_X12_comes_b44 s_t_code s_t_n r_t_child r_t_childBack r_t_weds r_t_wedsBack x1 x2 x3 x5 x6 = some o) (K : (∀ z, o = Sum.inl z → ∀ (H : Heap) (locs : List Loc) (ls : Array Slot), va_P D vwCl (w_X12_comes cI cB cZ a_t aX u_t_ahead u_t_length u_t_begins u_t_sort u_t_value u_t_letters u_t_word u_t_wrongAt u_t_laterFault u_t_laterPlace u_t_newClasses u_t_newLines u_t_turns u_t_shortest u_t_orders u_t_rowNumber u_t_ties s_t_code s_t_n r_t_child r_t_childBack r_t_childRow r_t_classes r_t_weds r_t_wedsBack r_t_wedsRow) H → va_D A (w_X12_comes cI cB cZ a_t aX u_t_ahead u_t_length u_t_begins u_t_sort u_t_value u_t_letters u_t_word u_t_wrongAt u_t_laterFault u_t_laterPlace u_t_newClasses u_t_newLines u_t_turns u_t_shortest u_t_orders u_t_rowNumber u_t_ties s_t_code s_t_n r_t_child r_t_childBack r_t_childRow r_t_classes r_t_weds r_t_wedsBack r_t_wedsRow) → va_S A s.heap H locs → lv_has ls 8 [(0, .ref a_t), (1, .int x1), (2, .int x2), (3, .int x3), (5, .int z.1), (6, .int z.2)] → W p l e rX12_comes s m args below meth c H locs 0 0 Q (F0 m 44 ls [])) ∧ (∀ z, o = Sum.inr z → ∀ (H : Heap) (locs : List Loc) (ls : Array Slot), va_P D vwCl (w_X12_comes cI cB cZ a_t aX u_t_ahead u_t_length u_t_begins u_t_sort u_t_value u_t_letters u_t_word u_t_wrongAt u_t_laterFault u_t_laterPlace u_t_newClasses u_t_newLines u_t_turns u_t_shortest u_t_orders u_t_rowNumber u_t_ties s_t_code s_t_n r_t_child r_t_childBack r_t_childRow r_t_classes r_t_weds r_t_wedsBack r_t_wedsRow) H → va_D A (w_X12_comes cI cB cZ a_t aX u_t_ahead u_t_length u_t_begins u_t_sort u_t_value u_t_letters u_t_word u_t_wrongAt u_t_laterFault u_t_laterPlace u_t_newClasses u_t_newLines u_t_turns u_t_shortest u_t_orders u_t_rowNumber u_t_ties s_t_code s_t_n r_t_child r_t_childBack r_t_childRow r_t_classes r_t_weds r_t_wedsBack r_t_wedsRow) → va_S A s.heap H locs → lv_has ls 8 [(0, .ref a_t), (1, .int x1), (2, .int x2), (5, .int z)] → W p l e rX12_comes s m args below meth c H locs 0 0 Q (F0 m 102 ls []))) {H : Heap} {locs : List Loc} {ls : Array Slot} (hP : va_P D vwCl (w_X12_comes cI cB cZ a_t aX u_t_ahead u_t_length u_t_begins u_t_sort u_t_value u_t_letters u_t_word u_t_wrongAt u_t_laterFault u_t_laterPlace u_t_newClasses u_t_newLines u_t_turns u_t_shortest u_t_orders u_t_rowNumber u_t_ties s_t_code s_t_n r_t_child r_t_childBack r_t_childRow r_t_classes r_t_weds r_t_wedsBack r_t_wedsRow) H) (hD : va_D A (w_X12_comes cI cB cZ a_t aX u_t_ahead u_t_length u_t_begins u_t_sort u_t_value u_t_letters u_t_word u_t_wrongAt u_t_laterFault u_t_laterPlace u_t_newClasses u_t_newLines u_t_turns u_t_shortest u_t_orders u_t_rowNumber u_t_ties s_t_code s_t_n r_t_child r_t_childBack r_t_childRow r_t_classes r_t_weds r_t_wedsBack r_t_wedsRow)) (hS : va_S A s.heap H locs) (hl : lv_has ls 8 [(0, .ref a_t), (1, .int x1), (2, .int x2), (3, .int x3), (5, .int x5), (6, .int x6)]) : W p l e rX12_comes s m args below meth c H locs 0 0 Q (F0 m 44 ls []) := by
  obtain ⟨⟨hx, hb, hml, hown, hts⟩, hK, hN, hA⟩ := C
  have C : jCx p s m args c cX12_comes 8 gX12_comes RX12 G D (jT cI cB cZ) A := ⟨⟨hx, hb, hml, hown, hts⟩, hK, hN, hA⟩
  unfold f_X12_comes_b44 at hf
  refine lv_iload hx hb dX12_comes_44 (lv_at hl 5 rfl) ?_
  refine lv_aload_n hx hb dX12_comes_46 rfl (lv_at hl 0 rfl) ?_
  refine va_get (D := D) (ci := 11) (v := .int s_t_n) (C := RX12) (T := TX12) (N := 74) hx hb hts iw_X12 hown hK hP 0 rfl rfl 31 (by decide) (hts _ (wG_in k_fl_X12_189 rfl)) (fun _ h9 => h9) rfl dX12_comes_47 ?_
  refine lv_icmp_ge (tgt := 102) hx hb dX12_comes_50 (by decide) (fun c7 => ?_) (fun c7 => ?_)
  · replace hf := jif_t c7 hf
    have ho := Option.some.inj hf
    exact (K.2 _ ho.symm) _ _ _ hP hD hS (lv_sub hl [0, 1, 2, 4] rfl)
  · replace hf := jif_f c7 hf
    refine lv_aload_n hx hb dX12_comes_53 rfl (lv_at hl 0 rfl) ?_
    refine lv_iload_n hx hb dX12_comes_54 rfl (lv_at hl 3 rfl) ?_
    refine lv_iload hx hb dX12_comes_55 (lv_at hl 5 rfl) ?_
    obtain ⟨r8, hgr8, hf⟩ := jM_some hf
    refine jcV_i0 (As := [.int x3, .int x6]) (rest := []) ⟨hx, hb, hml, hown, hts⟩ hK hN hA (c_X12_at l G D cI cB cZ a_t aX s_t_code s_t_n u_t_ahead u_t_length u_t_begins u_t_sort u_t_value u_t_letters u_t_word u_t_wrongAt u_t_laterFault u_t_laterPlace u_t_newClasses u_t_newLines u_t_turns u_t_shortest u_t_orders u_t_rowNumber u_t_ties x3 x6 hgr8) (cwV 2 hts (wG_V k_ml_X12_365 k_im_X12_at k_se_X12_at k_in_X12 k_co_X12_at) rfl rfl rfl hd_X12_at ⟨Nat.le_of_ble_eq_true rfl, Nat.le_of_ble_eq_true rfl⟩) hP hD hS [0] rfl rfl rfl (ci := 11) rfl 0 rfl rfl rfl hl.1 rfl (Nat.le_of_ble_eq_true rfl) dX12_comes_57 ⟨Nat.le_of_ble_eq_true rfl, Nat.le_of_ble_eq_true rfl⟩ (fun H locs hP hD hS => ?_)
    refine lv_istore (lv' := [(7, .int r8), (0, .ref a_t), (1, .int x1), (2, .int x2), (3, .int x3), (5, .int x5), (6, .int x6)]) hx hb dX12_comes_60 hl (by decide) rfl (fun ls hl => ?_)
    refine lv_iload hx hb dX12_comes_62 (lv_at hl 5 rfl) ?_
    refine lv_iload_n hx hb dX12_comes_64 rfl (lv_at hl 2 rfl) ?_
    refine lv_iconst (v := (2 : Int32)) hx hb dX12_comes_65 (by decide) ?_
    refine lv_icmp_ne (tgt := 79) hx hb dX12_comes_66 (by decide) (fun c9 => ?_) (fun c9 => ?_)
    · replace hf := jif_f c9 hf
      refine lv_aload_n hx hb dX12_comes_79 rfl (lv_at hl 1 rfl) ?_
      refine lv_iload hx hb dX12_comes_80 (lv_at hl 0 rfl) ?_
      refine lv_iconst (v := (1 : Int32)) hx hb dX12_comes_82 (by decide) ?_
      refine lv_iload_n hx hb dX12_comes_83 rfl (lv_at hl 2 rfl) ?_
      refine lv_isub hx hb dX12_comes_84 ?_
      obtain ⟨r10, hgr10, hf⟩ := jM_some hf
      refine jcV_i0 (As := [.int r8, .int ((1 : Int32) - x1)]) (rest := [.int x5]) ⟨hx, hb, hml, hown, hts⟩ hK hN hA (c_X12_childOf l G D cI cB cZ a_t aX s_t_code s_t_n u_t_ahead u_t_length u_t_begins u_t_sort u_t_value u_t_letters u_t_word u_t_wrongAt u_t_laterFault u_t_laterPlace u_t_newClasses u_t_newLines u_t_turns u_t_shortest u_t_orders u_t_rowNumber u_t_ties r_t_child r_t_wedsBack r8 ((1 : Int32) - x1) hgr10) (cwV 2 hts (wG_V k_ml_X12_195 k_im_X12_childOf k_se_X12_childOf k_in_X12 k_co_X12_childOf) rfl rfl rfl hd_X12_childOf ⟨Nat.le_of_ble_eq_true rfl, Nat.le_of_ble_eq_true rfl⟩) hP hD hS [0, 1, 6] rfl rfl rfl (ci := 11) rfl 0 rfl rfl rfl hl.1 rfl (Nat.le_of_ble_eq_true rfl) dX12_comes_85 ⟨Nat.le_of_ble_eq_true rfl, Nat.le_of_ble_eq_true rfl⟩ (fun H locs hP hD hS => ?_)
      exact t_X12_comes_j88 G D cI cB cZ a_t aX u_t_ahead u_t_length u_t_begins u_t_sort u_t_value u_t_letters u_t_word u_t_wrongAt u_t_laterFault u_t_laterPlace u_t_newClasses u_t_newLines u_t_turns u_t_shortest u_t_orders u_t_rowNumber u_t_ties r_t_childRow r_t_classes r_t_wedsRow s_t_code s_t_n r_t_child r_t_childBack r_t_weds r_t_wedsBack x1 x2 x3 x6 x5 r10 C hf K hP hD hS (lv_sub hl [1, 2, 3, 4, 6] rfl)
    · replace hf := jif_t c9 hf
      refine lv_aload_n hx hb dX12_comes_69 rfl (lv_at hl 1 rfl) ?_
      refine va_get (D := D) (ci := 11) (v := .ref (aX 32)) (C := RX12) (T := TX12) (N := 74) hx hb hts iw_X12 hown hK hP 0 rfl rfl 32 (by decide) (hts _ (wG_in k_fl_X12_101 rfl)) (fun _ h9 => h9) rfl dX12_comes_70 ?_
      refine lv_iload hx hb dX12_comes_73 (lv_at hl 0 rfl) ?_
      obtain ⟨v12, hv12, iv12, hf⟩ := jL_some hf
      refine ja_iald (P := r_t_weds) hx hb hK hP 5 0 rfl rfl hv12 iv12 dX12_comes_75 ?_
      refine lv_goto (tgt := 88) hx hb dX12_comes_76 (by decide) ?_
      exact t_X12_comes_j88 G D cI cB cZ a_t aX u_t_ahead u_t_length u_t_begins u_t_sort u_t_value u_t_letters u_t_word u_t_wrongAt u_t_laterFault u_t_laterPlace u_t_newClasses u_t_newLines u_t_turns u_t_shortest u_t_orders u_t_rowNumber u_t_ties r_t_childRow r_t_classes r_t_wedsRow s_t_code s_t_n r_t_child r_t_childBack r_t_weds r_t_wedsBack x1 x2 x3 x6 x5 v12 C hf K hP hD hS (lv_sub hl [1, 2, 3, 4, 6] rfl)
def f_X12_comes_l44 (s_t_code s_t_n : Int32) (r_t_child r_t_childBack r_t_weds r_t_wedsBack : jA) (x1 x2 x3 x5 x6 : Int32) : Option ((Int32)) :=
  jI (fun z => f_X12_comes_b44 s_t_code s_t_n r_t_child r_t_childBack r_t_weds r_t_wedsBack x1 x2 x3 z.1 z.2) jF (x5, x6)
set_option maxHeartbeats 4000000 in
set_option maxRecDepth 100000 in
theorem t_X12_comes_l44 {p : Program} {l : Launch} {e : Env} {s : State} {m : MethodId} {args : Array Value} {below : List Frame} {meth : Method} {c : Code} {A : Nat → Prop} {Q : State → Prop} (G : jGt) (D : va_G) (cI cB cZ : ClassId) (a_t : Nat) (aX : Nat → Nat) (u_t_ahead u_t_length u_t_begins u_t_sort u_t_value u_t_letters : Int32) (u_t_word : Int64) (u_t_wrongAt u_t_laterFault u_t_laterPlace u_t_newClasses u_t_newLines u_t_turns u_t_shortest u_t_orders u_t_rowNumber u_t_ties : Int32) (r_t_childRow r_t_classes r_t_wedsRow : jA) (s_t_code s_t_n : Int32) (r_t_child r_t_childBack r_t_weds r_t_wedsBack : jA) (x1 x2 x3 : Int32) (C : jCx p s m args c cX12_comes 8 gX12_comes RX12 G D (jT cI cB cZ) A) : ∀ (n : Nat) (x5 x6 : Int32) {eo : (Int32)}, jI (fun z => f_X12_comes_b44 s_t_code s_t_n r_t_child r_t_childBack r_t_weds r_t_wedsBack x1 x2 x3 z.1 z.2) n (x5, x6) = some eo → (∀ (H : Heap) (locs : List Loc) (ls : Array Slot), va_P D vwCl (w_X12_comes cI cB cZ a_t aX u_t_ahead u_t_length u_t_begins u_t_sort u_t_value u_t_letters u_t_word u_t_wrongAt u_t_laterFault u_t_laterPlace u_t_newClasses u_t_newLines u_t_turns u_t_shortest u_t_orders u_t_rowNumber u_t_ties s_t_code s_t_n r_t_child r_t_childBack r_t_childRow r_t_classes r_t_weds r_t_wedsBack r_t_wedsRow) H → va_D A (w_X12_comes cI cB cZ a_t aX u_t_ahead u_t_length u_t_begins u_t_sort u_t_value u_t_letters u_t_word u_t_wrongAt u_t_laterFault u_t_laterPlace u_t_newClasses u_t_newLines u_t_turns u_t_shortest u_t_orders u_t_rowNumber u_t_ties s_t_code s_t_n r_t_child r_t_childBack r_t_childRow r_t_classes r_t_weds r_t_wedsBack r_t_wedsRow) → va_S A s.heap H locs → lv_has ls 8 [(0, .ref a_t), (1, .int x1), (2, .int x2), (5, .int eo)] → W p l e rX12_comes s m args below meth c H locs 0 0 Q (F0 m 102 ls [])) → ∀ (H : Heap) (locs : List Loc) (ls : Array Slot), va_P D vwCl (w_X12_comes cI cB cZ a_t aX u_t_ahead u_t_length u_t_begins u_t_sort u_t_value u_t_letters u_t_word u_t_wrongAt u_t_laterFault u_t_laterPlace u_t_newClasses u_t_newLines u_t_turns u_t_shortest u_t_orders u_t_rowNumber u_t_ties s_t_code s_t_n r_t_child r_t_childBack r_t_childRow r_t_classes r_t_weds r_t_wedsBack r_t_wedsRow) H → va_D A (w_X12_comes cI cB cZ a_t aX u_t_ahead u_t_length u_t_begins u_t_sort u_t_value u_t_letters u_t_word u_t_wrongAt u_t_laterFault u_t_laterPlace u_t_newClasses u_t_newLines u_t_turns u_t_shortest u_t_orders u_t_rowNumber u_t_ties s_t_code s_t_n r_t_child r_t_childBack r_t_childRow r_t_classes r_t_weds r_t_wedsBack r_t_wedsRow) → va_S A s.heap H locs → lv_has ls 8 [(0, .ref a_t), (1, .int x1), (2, .int x2), (3, .int x3), (5, .int x5), (6, .int x6)] → W p l e rX12_comes s m args below meth c H locs 0 0 Q (F0 m 44 ls []) := by
  intro n
  induction n with
  | zero =>
    intro x5 x6 eo hf
    exact (jI_zero hf).elim
  | succ n ih =>
    intro x5 x6 eo hf K H locs ls hP hD hS hl
    obtain ⟨o, hb1, ho⟩ := jI_some hf
    rcases ho with ⟨z, rfl, hf2⟩ | rfl
    · exact t_X12_comes_b44 G D cI cB cZ a_t aX u_t_ahead u_t_length u_t_begins u_t_sort u_t_value u_t_letters u_t_word u_t_wrongAt u_t_laterFault u_t_laterPlace u_t_newClasses u_t_newLines u_t_turns u_t_shortest u_t_orders u_t_rowNumber u_t_ties r_t_childRow r_t_classes r_t_wedsRow s_t_code s_t_n r_t_child r_t_childBack r_t_weds r_t_wedsBack x1 x2 x3 x5 x6 C hb1 ⟨fun z2 hz H locs ls hP hD hS hl => by cases hz; exact ih z.1 z.2 hf2 K H locs ls hP hD hS hl, fun z2 hz => by cases hz⟩ hP hD hS hl
    · exact t_X12_comes_b44 G D cI cB cZ a_t aX u_t_ahead u_t_length u_t_begins u_t_sort u_t_value u_t_letters u_t_word u_t_wrongAt u_t_laterFault u_t_laterPlace u_t_newClasses u_t_newLines u_t_turns u_t_shortest u_t_orders u_t_rowNumber u_t_ties r_t_childRow r_t_classes r_t_wedsRow s_t_code s_t_n r_t_child r_t_childBack r_t_weds r_t_wedsBack x1 x2 x3 x5 x6 C hb1 ⟨fun z2 hz => (by cases hz), fun z2 hz => by cases hz; exact K⟩ hP hD hS hl
def f_X12_comes_j121 (s_t_code s_t_n : Int32) (r_t_child r_t_childBack r_t_weds r_t_wedsBack : jA) (x1 x2 x3 k0 : Int32) : Option ((Int32 × Int32 × Int32) ⊕ ((Int32))) :=
  some (Sum.inl (x2, x3, k0))
set_option maxHeartbeats 4000000 in
set_option maxRecDepth 100000 in
theorem t_X12_comes_j121 {p : Program} {l : Launch} {e : Env} {s : State} {m : MethodId} {args : Array Value} {below : List Frame} {meth : Method} {c : Code} {A : Nat → Prop} {Q : State → Prop} (G : jGt) (D : va_G) (cI cB cZ : ClassId) (a_t : Nat) (aX : Nat → Nat) (u_t_ahead u_t_length u_t_begins u_t_sort u_t_value u_t_letters : Int32) (u_t_word : Int64) (u_t_wrongAt u_t_laterFault u_t_laterPlace u_t_newClasses u_t_newLines u_t_turns u_t_shortest u_t_orders u_t_rowNumber u_t_ties : Int32) (r_t_childRow r_t_classes r_t_wedsRow : jA) (s_t_code s_t_n : Int32) (r_t_child r_t_childBack r_t_weds r_t_wedsBack : jA) (x1 x2 x3 k0 : Int32) (C : jCx p s m args c cX12_comes 8 gX12_comes RX12 G D (jT cI cB cZ) A) {o : (Int32 × Int32 × Int32) ⊕ ((Int32))} (hf : f_X12_comes_j121 s_t_code s_t_n r_t_child r_t_childBack r_t_weds r_t_wedsBack x1 x2 x3 k0 = some o) (K : (∀ z, o = Sum.inl z → ∀ (H : Heap) (locs : List Loc) (ls : Array Slot), va_P D vwCl (w_X12_comes cI cB cZ a_t aX u_t_ahead u_t_length u_t_begins u_t_sort u_t_value u_t_letters u_t_word u_t_wrongAt u_t_laterFault u_t_laterPlace u_t_newClasses u_t_newLines u_t_turns u_t_shortest u_t_orders u_t_rowNumber u_t_ties s_t_code s_t_n r_t_child r_t_childBack r_t_childRow r_t_classes r_t_weds r_t_wedsBack r_t_wedsRow) H → va_D A (w_X12_comes cI cB cZ a_t aX u_t_ahead u_t_length u_t_begins u_t_sort u_t_value u_t_letters u_t_word u_t_wrongAt u_t_laterFault u_t_laterPlace u_t_newClasses u_t_newLines u_t_turns u_t_shortest u_t_orders u_t_rowNumber u_t_ties s_t_code s_t_n r_t_child r_t_childBack r_t_childRow r_t_classes r_t_weds r_t_wedsBack r_t_wedsRow) → va_S A s.heap H locs → lv_has ls 8 [(0, .ref a_t), (1, .int x1), (2, .int z.1), (3, .int z.2.1), (4, .int z.2.2)] → W p l e rX12_comes s m args below meth c H locs 0 0 Q (F0 m 33 ls [])) ∧ (∀ z, o = Sum.inr z → ∀ (H : Heap) (locs : List Loc) (ls : Array Slot), va_P D vwCl (w_X12_comes cI cB cZ a_t aX u_t_ahead u_t_length u_t_begins u_t_sort u_t_value u_t_letters u_t_word u_t_wrongAt u_t_laterFault u_t_laterPlace u_t_newClasses u_t_newLines u_t_turns u_t_shortest u_t_orders u_t_rowNumber u_t_ties s_t_code s_t_n r_t_child r_t_childBack r_t_childRow r_t_classes r_t_weds r_t_wedsBack r_t_wedsRow) H → va_D A (w_X12_comes cI cB cZ a_t aX u_t_ahead u_t_length u_t_begins u_t_sort u_t_value u_t_letters u_t_word u_t_wrongAt u_t_laterFault u_t_laterPlace u_t_newClasses u_t_newLines u_t_turns u_t_shortest u_t_orders u_t_rowNumber u_t_ties s_t_code s_t_n r_t_child r_t_childBack r_t_childRow r_t_classes r_t_weds r_t_wedsBack r_t_wedsRow) → va_S A s.heap H locs → lv_has ls 8 [(2, .int z)] → W p l e rX12_comes s m args below meth c H locs 0 0 Q (F0 m 126 ls []))) {H : Heap} {locs : List Loc} {ls : Array Slot} (hP : va_P D vwCl (w_X12_comes cI cB cZ a_t aX u_t_ahead u_t_length u_t_begins u_t_sort u_t_value u_t_letters u_t_word u_t_wrongAt u_t_laterFault u_t_laterPlace u_t_newClasses u_t_newLines u_t_turns u_t_shortest u_t_orders u_t_rowNumber u_t_ties s_t_code s_t_n r_t_child r_t_childBack r_t_childRow r_t_classes r_t_weds r_t_wedsBack r_t_wedsRow) H) (hD : va_D A (w_X12_comes cI cB cZ a_t aX u_t_ahead u_t_length u_t_begins u_t_sort u_t_value u_t_letters u_t_word u_t_wrongAt u_t_laterFault u_t_laterPlace u_t_newClasses u_t_newLines u_t_turns u_t_shortest u_t_orders u_t_rowNumber u_t_ties s_t_code s_t_n r_t_child r_t_childBack r_t_childRow r_t_classes r_t_weds r_t_wedsBack r_t_wedsRow)) (hS : va_S A s.heap H locs) (hl : lv_has ls 8 [(0, .ref a_t), (1, .int x1), (2, .int x2), (3, .int x3)]) : W p l e rX12_comes s m args below meth c H locs 0 0 Q (F0 m 121 ls [.int k0]) := by
  obtain ⟨⟨hx, hb, hml, hown, hts⟩, hK, hN, hA⟩ := C
  have C : jCx p s m args c cX12_comes 8 gX12_comes RX12 G D (jT cI cB cZ) A := ⟨⟨hx, hb, hml, hown, hts⟩, hK, hN, hA⟩
  unfold f_X12_comes_j121 at hf
  refine lv_istore (lv' := [(4, .int k0), (0, .ref a_t), (1, .int x1), (2, .int x2), (3, .int x3)]) hx hb dX12_comes_121 hl (by decide) rfl (fun ls hl => ?_)
  refine lv_goto (tgt := 33) hx hb dX12_comes_123 (by decide) ?_
  have ho := Option.some.inj hf
  exact K.1 _ ho.symm _ _ _ hP hD hS (lv_sub hl [1, 2, 3, 4, 0] rfl)
def f_X12_comes_b33 (s_t_code s_t_n : Int32) (r_t_child r_t_childBack r_t_weds r_t_wedsBack : jA) (x1 x2 x3 x4 : Int32) : Option ((Int32 × Int32 × Int32) ⊕ ((Int32))) :=
  if x4 = 0 then
  jM (f_X12_comes_l44 s_t_code s_t_n r_t_child r_t_childBack r_t_weds r_t_wedsBack x1 x2 x3 (0 : Int32) (0 : Int32)) fun e13 =>
  jM (f_X12_self s_t_n) fun r14 =>
  if e13 = r14 then
  f_X12_comes_j121 s_t_code s_t_n r_t_child r_t_childBack r_t_weds r_t_wedsBack x1 (x2 + 1) e13 (1 : Int32)
  else
  f_X12_comes_j121 s_t_code s_t_n r_t_child r_t_childBack r_t_weds r_t_wedsBack x1 (x2 + 1) e13 (0 : Int32)
  else
  some (Sum.inr x2)
set_option maxHeartbeats 4000000 in
set_option maxRecDepth 100000 in
theorem t_X12_comes_b33 {p : Program} {l : Launch} {e : Env} {s : State} {m : MethodId} {args : Array Value} {below : List Frame} {meth : Method} {c : Code} {A : Nat → Prop} {Q : State → Prop} (G : jGt) (D : va_G) (cI cB cZ : ClassId) (a_t : Nat) (aX : Nat → Nat) (u_t_ahead u_t_length u_t_begins u_t_sort u_t_value u_t_letters : Int32) (u_t_word : Int64) (u_t_wrongAt u_t_laterFault u_t_laterPlace u_t_newClasses u_t_newLines u_t_turns u_t_shortest u_t_orders u_t_rowNumber u_t_ties : Int32) (r_t_childRow r_t_classes r_t_wedsRow : jA) (s_t_code s_t_n : Int32) (r_t_child r_t_childBack r_t_weds r_t_wedsBack : jA) (x1 x2 x3 x4 : Int32) (C : jCx p s m args c cX12_comes 8 gX12_comes RX12 G D (jT cI cB cZ) A) {o : (Int32 × Int32 × Int32) ⊕ ((Int32))} (hf : f_X12_comes_b33 s_t_code s_t_n r_t_child r_t_childBack r_t_weds r_t_wedsBack x1 x2 x3 x4 = some o) (K : (∀ z, o = Sum.inl z → ∀ (H : Heap) (locs : List Loc) (ls : Array Slot), va_P D vwCl (w_X12_comes cI cB cZ a_t aX u_t_ahead u_t_length u_t_begins u_t_sort u_t_value u_t_letters u_t_word u_t_wrongAt u_t_laterFault u_t_laterPlace u_t_newClasses u_t_newLines u_t_turns u_t_shortest u_t_orders u_t_rowNumber u_t_ties s_t_code s_t_n r_t_child r_t_childBack r_t_childRow r_t_classes r_t_weds r_t_wedsBack r_t_wedsRow) H → va_D A (w_X12_comes cI cB cZ a_t aX u_t_ahead u_t_length u_t_begins u_t_sort u_t_value u_t_letters u_t_word u_t_wrongAt u_t_laterFault u_t_laterPlace u_t_newClasses u_t_newLines u_t_turns u_t_shortest u_t_orders u_t_rowNumber u_t_ties s_t_code s_t_n r_t_child r_t_childBack r_t_childRow r_t_classes r_t_weds r_t_wedsBack r_t_wedsRow) → va_S A s.heap H locs → lv_has ls 8 [(0, .ref a_t), (1, .int x1), (2, .int z.1), (3, .int z.2.1), (4, .int z.2.2)] → W p l e rX12_comes s m args below meth c H locs 0 0 Q (F0 m 33 ls [])) ∧ (∀ z, o = Sum.inr z → ∀ (H : Heap) (locs : List Loc) (ls : Array Slot), va_P D vwCl (w_X12_comes cI cB cZ a_t aX u_t_ahead u_t_length u_t_begins u_t_sort u_t_value u_t_letters u_t_word u_t_wrongAt u_t_laterFault u_t_laterPlace u_t_newClasses u_t_newLines u_t_turns u_t_shortest u_t_orders u_t_rowNumber u_t_ties s_t_code s_t_n r_t_child r_t_childBack r_t_childRow r_t_classes r_t_weds r_t_wedsBack r_t_wedsRow) H → va_D A (w_X12_comes cI cB cZ a_t aX u_t_ahead u_t_length u_t_begins u_t_sort u_t_value u_t_letters u_t_word u_t_wrongAt u_t_laterFault u_t_laterPlace u_t_newClasses u_t_newLines u_t_turns u_t_shortest u_t_orders u_t_rowNumber u_t_ties s_t_code s_t_n r_t_child r_t_childBack r_t_childRow r_t_classes r_t_weds r_t_wedsBack r_t_wedsRow) → va_S A s.heap H locs → lv_has ls 8 [(2, .int z)] → W p l e rX12_comes s m args below meth c H locs 0 0 Q (F0 m 126 ls []))) {H : Heap} {locs : List Loc} {ls : Array Slot} (hP : va_P D vwCl (w_X12_comes cI cB cZ a_t aX u_t_ahead u_t_length u_t_begins u_t_sort u_t_value u_t_letters u_t_word u_t_wrongAt u_t_laterFault u_t_laterPlace u_t_newClasses u_t_newLines u_t_turns u_t_shortest u_t_orders u_t_rowNumber u_t_ties s_t_code s_t_n r_t_child r_t_childBack r_t_childRow r_t_classes r_t_weds r_t_wedsBack r_t_wedsRow) H) (hD : va_D A (w_X12_comes cI cB cZ a_t aX u_t_ahead u_t_length u_t_begins u_t_sort u_t_value u_t_letters u_t_word u_t_wrongAt u_t_laterFault u_t_laterPlace u_t_newClasses u_t_newLines u_t_turns u_t_shortest u_t_orders u_t_rowNumber u_t_ties s_t_code s_t_n r_t_child r_t_childBack r_t_childRow r_t_classes r_t_weds r_t_wedsBack r_t_wedsRow)) (hS : va_S A s.heap H locs) (hl : lv_has ls 8 [(0, .ref a_t), (1, .int x1), (2, .int x2), (3, .int x3), (4, .int x4)]) : W p l e rX12_comes s m args below meth c H locs 0 0 Q (F0 m 33 ls []) := by
  obtain ⟨⟨hx, hb, hml, hown, hts⟩, hK, hN, hA⟩ := C
  have C : jCx p s m args c cX12_comes 8 gX12_comes RX12 G D (jT cI cB cZ) A := ⟨⟨hx, hb, hml, hown, hts⟩, hK, hN, hA⟩
  unfold f_X12_comes_b33 at hf
  refine lv_iload hx hb dX12_comes_33 (lv_at hl 4 rfl) ?_
  refine lv_if_ne (tgt := 126) hx hb dX12_comes_35 (by decide) (fun c6 => ?_) (fun c6 => ?_)
  · replace hf := jif_f c6 hf
    have ho := Option.some.inj hf
    exact (K.2 _ ho.symm) _ _ _ hP hD hS (lv_sub hl [2] rfl)
  · replace hf := jif_t c6 hf
    refine lv_iconst (v := (0 : Int32)) hx hb dX12_comes_38 (by decide) ?_
    refine lv_istore (lv' := [(5, .int (0 : Int32)), (0, .ref a_t), (1, .int x1), (2, .int x2), (3, .int x3), (4, .int x4)]) hx hb dX12_comes_39 hl (by decide) rfl (fun ls hl => ?_)
    refine lv_iconst (v := (0 : Int32)) hx hb dX12_comes_41 (by decide) ?_
    refine lv_istore (lv' := [(6, .int (0 : Int32)), (5, .int (0 : Int32)), (0, .ref a_t), (1, .int x1), (2, .int x2), (3, .int x3), (4, .int x4)]) hx hb dX12_comes_42 hl (by decide) rfl (fun ls hl => ?_)
    obtain ⟨e13, hg13, hf⟩ := jM_some hf
    refine t_X12_comes_l44 G D cI cB cZ a_t aX u_t_ahead u_t_length u_t_begins u_t_sort u_t_value u_t_letters u_t_word u_t_wrongAt u_t_laterFault u_t_laterPlace u_t_newClasses u_t_newLines u_t_turns u_t_shortest u_t_orders u_t_rowNumber u_t_ties r_t_childRow r_t_classes r_t_wedsRow s_t_code s_t_n r_t_child r_t_childBack r_t_weds r_t_wedsBack x1 x2 x3 C jF (0 : Int32) (0 : Int32) hg13 ?_ _ _ _ hP hD hS (lv_sub hl [2, 3, 4, 5, 1, 0] rfl)
    intro H locs ls hP hD hS hl
    refine lv_iload hx hb dX12_comes_102 (lv_at hl 3 rfl) ?_
    refine lv_istore_n (lv' := [(3, .int e13), (0, .ref a_t), (1, .int x1), (2, .int x2), (5, .int e13)]) hx hb dX12_comes_104 rfl hl (by decide) rfl (fun ls hl => ?_)
    refine lv_iinc (v := (x2 + 1)) (lv' := [(2, .int (x2 + 1)), (3, .int e13), (0, .ref a_t), (1, .int x1), (5, .int e13)]) hx hb dX12_comes_105 hl (k := 3) rfl (by first | rfl | decide) (by decide) rfl (fun ls hl => ?_)
    refine lv_iload_n hx hb dX12_comes_108 rfl (lv_at hl 1 rfl) ?_
    refine lv_aload_n hx hb dX12_comes_109 rfl (lv_at hl 2 rfl) ?_
    obtain ⟨r14, hgr14, hf⟩ := jM_some hf
    refine jcV_i0 (As := []) (rest := [.int e13]) ⟨hx, hb, hml, hown, hts⟩ hK hN hA (c_X12_self l G D cI cB cZ a_t aX s_t_code u_t_ahead u_t_length u_t_begins u_t_sort u_t_value u_t_letters u_t_word u_t_wrongAt u_t_laterFault u_t_laterPlace u_t_newClasses u_t_newLines u_t_turns u_t_shortest u_t_orders u_t_rowNumber u_t_ties s_t_n hgr14) (cwV 0 hts (wG_V k_ml_X12_368 k_im_X12_self k_se_X12_self k_in_X12 k_co_X12_self) rfl rfl rfl hd_X12_self ⟨Nat.le_of_ble_eq_true rfl, Nat.le_of_ble_eq_true rfl⟩) hP hD hS [0] rfl rfl rfl (ci := 11) rfl 0 rfl rfl rfl hl.1 rfl (Nat.le_of_ble_eq_true rfl) dX12_comes_110 ⟨Nat.le_of_ble_eq_true rfl, Nat.le_of_ble_eq_true rfl⟩ (fun H locs hP hD hS => ?_)
    refine lv_icmp_ne (tgt := 120) hx hb dX12_comes_113 (by decide) (fun c15 => ?_) (fun c15 => ?_)
    · replace hf := jif_f c15 hf
      refine lv_iconst (v := (0 : Int32)) hx hb dX12_comes_120 (by decide) ?_
      exact t_X12_comes_j121 G D cI cB cZ a_t aX u_t_ahead u_t_length u_t_begins u_t_sort u_t_value u_t_letters u_t_word u_t_wrongAt u_t_laterFault u_t_laterPlace u_t_newClasses u_t_newLines u_t_turns u_t_shortest u_t_orders u_t_rowNumber u_t_ties r_t_childRow r_t_classes r_t_wedsRow s_t_code s_t_n r_t_child r_t_childBack r_t_weds r_t_wedsBack x1 (x2 + 1) e13 (0 : Int32) C hf K hP hD hS (lv_sub hl [2, 3, 0, 1] rfl)
    · replace hf := jif_t c15 hf
      refine lv_iconst (v := (1 : Int32)) hx hb dX12_comes_116 (by decide) ?_
      refine lv_goto (tgt := 121) hx hb dX12_comes_117 (by decide) ?_
      exact t_X12_comes_j121 G D cI cB cZ a_t aX u_t_ahead u_t_length u_t_begins u_t_sort u_t_value u_t_letters u_t_word u_t_wrongAt u_t_laterFault u_t_laterPlace u_t_newClasses u_t_newLines u_t_turns u_t_shortest u_t_orders u_t_rowNumber u_t_ties r_t_childRow r_t_classes r_t_wedsRow s_t_code s_t_n r_t_child r_t_childBack r_t_weds r_t_wedsBack x1 (x2 + 1) e13 (1 : Int32) C hf K hP hD hS (lv_sub hl [2, 3, 0, 1] rfl)
def f_X12_comes_l33 (s_t_code s_t_n : Int32) (r_t_child r_t_childBack r_t_weds r_t_wedsBack : jA) (x1 x2 x3 x4 : Int32) : Option ((Int32)) :=
  jI (fun z => f_X12_comes_b33 s_t_code s_t_n r_t_child r_t_childBack r_t_weds r_t_wedsBack x1 z.1 z.2.1 z.2.2) jF (x2, x3, x4)
set_option maxHeartbeats 4000000 in
set_option maxRecDepth 100000 in
theorem t_X12_comes_l33 {p : Program} {l : Launch} {e : Env} {s : State} {m : MethodId} {args : Array Value} {below : List Frame} {meth : Method} {c : Code} {A : Nat → Prop} {Q : State → Prop} (G : jGt) (D : va_G) (cI cB cZ : ClassId) (a_t : Nat) (aX : Nat → Nat) (u_t_ahead u_t_length u_t_begins u_t_sort u_t_value u_t_letters : Int32) (u_t_word : Int64) (u_t_wrongAt u_t_laterFault u_t_laterPlace u_t_newClasses u_t_newLines u_t_turns u_t_shortest u_t_orders u_t_rowNumber u_t_ties : Int32) (r_t_childRow r_t_classes r_t_wedsRow : jA) (s_t_code s_t_n : Int32) (r_t_child r_t_childBack r_t_weds r_t_wedsBack : jA) (x1 : Int32) (C : jCx p s m args c cX12_comes 8 gX12_comes RX12 G D (jT cI cB cZ) A) : ∀ (n : Nat) (x2 x3 x4 : Int32) {eo : (Int32)}, jI (fun z => f_X12_comes_b33 s_t_code s_t_n r_t_child r_t_childBack r_t_weds r_t_wedsBack x1 z.1 z.2.1 z.2.2) n (x2, x3, x4) = some eo → (∀ (H : Heap) (locs : List Loc) (ls : Array Slot), va_P D vwCl (w_X12_comes cI cB cZ a_t aX u_t_ahead u_t_length u_t_begins u_t_sort u_t_value u_t_letters u_t_word u_t_wrongAt u_t_laterFault u_t_laterPlace u_t_newClasses u_t_newLines u_t_turns u_t_shortest u_t_orders u_t_rowNumber u_t_ties s_t_code s_t_n r_t_child r_t_childBack r_t_childRow r_t_classes r_t_weds r_t_wedsBack r_t_wedsRow) H → va_D A (w_X12_comes cI cB cZ a_t aX u_t_ahead u_t_length u_t_begins u_t_sort u_t_value u_t_letters u_t_word u_t_wrongAt u_t_laterFault u_t_laterPlace u_t_newClasses u_t_newLines u_t_turns u_t_shortest u_t_orders u_t_rowNumber u_t_ties s_t_code s_t_n r_t_child r_t_childBack r_t_childRow r_t_classes r_t_weds r_t_wedsBack r_t_wedsRow) → va_S A s.heap H locs → lv_has ls 8 [(2, .int eo)] → W p l e rX12_comes s m args below meth c H locs 0 0 Q (F0 m 126 ls [])) → ∀ (H : Heap) (locs : List Loc) (ls : Array Slot), va_P D vwCl (w_X12_comes cI cB cZ a_t aX u_t_ahead u_t_length u_t_begins u_t_sort u_t_value u_t_letters u_t_word u_t_wrongAt u_t_laterFault u_t_laterPlace u_t_newClasses u_t_newLines u_t_turns u_t_shortest u_t_orders u_t_rowNumber u_t_ties s_t_code s_t_n r_t_child r_t_childBack r_t_childRow r_t_classes r_t_weds r_t_wedsBack r_t_wedsRow) H → va_D A (w_X12_comes cI cB cZ a_t aX u_t_ahead u_t_length u_t_begins u_t_sort u_t_value u_t_letters u_t_word u_t_wrongAt u_t_laterFault u_t_laterPlace u_t_newClasses u_t_newLines u_t_turns u_t_shortest u_t_orders u_t_rowNumber u_t_ties s_t_code s_t_n r_t_child r_t_childBack r_t_childRow r_t_classes r_t_weds r_t_wedsBack r_t_wedsRow) → va_S A s.heap H locs → lv_has ls 8 [(0, .ref a_t), (1, .int x1), (2, .int x2), (3, .int x3), (4, .int x4)] → W p l e rX12_comes s m args below meth c H locs 0 0 Q (F0 m 33 ls []) := by
  intro n
  induction n with
  | zero =>
    intro x2 x3 x4 eo hf
    exact (jI_zero hf).elim
  | succ n ih =>
    intro x2 x3 x4 eo hf K H locs ls hP hD hS hl
    obtain ⟨o, hb1, ho⟩ := jI_some hf
    rcases ho with ⟨z, rfl, hf2⟩ | rfl
    · exact t_X12_comes_b33 G D cI cB cZ a_t aX u_t_ahead u_t_length u_t_begins u_t_sort u_t_value u_t_letters u_t_word u_t_wrongAt u_t_laterFault u_t_laterPlace u_t_newClasses u_t_newLines u_t_turns u_t_shortest u_t_orders u_t_rowNumber u_t_ties r_t_childRow r_t_classes r_t_wedsRow s_t_code s_t_n r_t_child r_t_childBack r_t_weds r_t_wedsBack x1 x2 x3 x4 C hb1 ⟨fun z2 hz H locs ls hP hD hS hl => by cases hz; exact ih z.1 z.2.1 z.2.2 hf2 K H locs ls hP hD hS hl, fun z2 hz => by cases hz⟩ hP hD hS hl
    · exact t_X12_comes_b33 G D cI cB cZ a_t aX u_t_ahead u_t_length u_t_begins u_t_sort u_t_value u_t_letters u_t_word u_t_wrongAt u_t_laterFault u_t_laterPlace u_t_newClasses u_t_newLines u_t_turns u_t_shortest u_t_orders u_t_rowNumber u_t_ties r_t_childRow r_t_classes r_t_wedsRow s_t_code s_t_n r_t_child r_t_childBack r_t_weds r_t_wedsBack x1 x2 x3 x4 C hb1 ⟨fun z2 hz => (by cases hz), fun z2 hz => by cases hz; exact K⟩ hP hD hS hl
def f_X12_comes (r_t_childRow r_t_classes r_t_wedsRow : jA) (s_t_code s_t_n : Int32) (r_t_child r_t_childBack r_t_weds r_t_wedsBack : jA) (x1 : Int32) : Option (Int32 × Int32 × Int32 × jA × jA × jA × jA) :=
  jM (f_X12_in x1 (0 : Int32) (2 : Int32)) fun r1 =>
  if r1 = 0 then
  some ((-1 : Int32), (0 : Int32), s_t_n, r_t_child, r_t_childBack, r_t_weds, r_t_wedsBack)
  else
  jM (f_X12_bring r_t_childRow r_t_classes r_t_wedsRow s_t_n r_t_child r_t_childBack r_t_weds r_t_wedsBack) fun r3 =>
  if r3.1 = 0 then
  some ((-1 : Int32), (0 : Int32), r3.2.1, r3.2.2.1, r3.2.2.2.1, r3.2.2.2.2.1, r3.2.2.2.2.2)
  else
  jM (f_X12_self r3.2.1) fun r5 =>
  jM (f_X12_comes_l33 (0 : Int32) r3.2.1 r3.2.2.1 r3.2.2.2.1 r3.2.2.2.2.1 r3.2.2.2.2.2 x1 (0 : Int32) r5 (0 : Int32)) fun e16 =>
  some (e16, (0 : Int32), r3.2.1, r3.2.2.1, r3.2.2.2.1, r3.2.2.2.2.1, r3.2.2.2.2.2)
set_option maxHeartbeats 4000000 in
set_option maxRecDepth 100000 in
theorem t_X12_comes {p : Program} {l : Launch} {e : Env} {s : State} {m : MethodId} {args : Array Value} {below : List Frame} {meth : Method} {c : Code} {A : Nat → Prop} {Q : State → Prop} (G : jGt) (D : va_G) (cI cB cZ : ClassId) (a_t : Nat) (aX : Nat → Nat) (u_t_ahead u_t_length u_t_begins u_t_sort u_t_value u_t_letters : Int32) (u_t_word : Int64) (u_t_wrongAt u_t_laterFault u_t_laterPlace u_t_newClasses u_t_newLines u_t_turns u_t_shortest u_t_orders u_t_rowNumber u_t_ties : Int32) (r_t_childRow r_t_classes r_t_wedsRow : jA) (s_t_code s_t_n : Int32) (r_t_child r_t_childBack r_t_weds r_t_wedsBack : jA) (x1 : Int32) (C : jCx p s m args c cX12_comes 8 gX12_comes RX12 G D (jT cI cB cZ) A) {o : Int32 × Int32 × Int32 × jA × jA × jA × jA} (hf : f_X12_comes r_t_childRow r_t_classes r_t_wedsRow s_t_code s_t_n r_t_child r_t_childBack r_t_weds r_t_wedsBack x1 = some o) (K : ∀ (H : Heap) (locs : List Loc) (pc : Nat) (ls : Array Slot), va_P D vwCl (w_X12_comes cI cB cZ a_t aX u_t_ahead u_t_length u_t_begins u_t_sort u_t_value u_t_letters u_t_word u_t_wrongAt u_t_laterFault u_t_laterPlace u_t_newClasses u_t_newLines u_t_turns u_t_shortest u_t_orders u_t_rowNumber u_t_ties o.2.1 o.2.2.1 o.2.2.2.1 o.2.2.2.2.1 r_t_childRow r_t_classes o.2.2.2.2.2.1 o.2.2.2.2.2.2 r_t_wedsRow) H → va_S A s.heap H locs → decode cX12_comes pc = .ok (.ireturn, 1) → W p l e rX12_comes s m args below meth c H locs 0 0 Q (F0 m pc ls [.int o.1])) {H : Heap} {locs : List Loc} {ls : Array Slot} (hP : va_P D vwCl (w_X12_comes cI cB cZ a_t aX u_t_ahead u_t_length u_t_begins u_t_sort u_t_value u_t_letters u_t_word u_t_wrongAt u_t_laterFault u_t_laterPlace u_t_newClasses u_t_newLines u_t_turns u_t_shortest u_t_orders u_t_rowNumber u_t_ties s_t_code s_t_n r_t_child r_t_childBack r_t_childRow r_t_classes r_t_weds r_t_wedsBack r_t_wedsRow) H) (hD : va_D A (w_X12_comes cI cB cZ a_t aX u_t_ahead u_t_length u_t_begins u_t_sort u_t_value u_t_letters u_t_word u_t_wrongAt u_t_laterFault u_t_laterPlace u_t_newClasses u_t_newLines u_t_turns u_t_shortest u_t_orders u_t_rowNumber u_t_ties s_t_code s_t_n r_t_child r_t_childBack r_t_childRow r_t_classes r_t_weds r_t_wedsBack r_t_wedsRow)) (hS : va_S A s.heap H locs) (hl : lv_has ls 8 [(0, .ref a_t), (1, .int x1)]) : W p l e rX12_comes s m args below meth c H locs 0 0 Q (F0 m 0 ls []) := by
  obtain ⟨⟨hx, hb, hml, hown, hts⟩, hK, hN, hA⟩ := C
  have C : jCx p s m args c cX12_comes 8 gX12_comes RX12 G D (jT cI cB cZ) A := ⟨⟨hx, hb, hml, hown, hts⟩, hK, hN, hA⟩
  unfold f_X12_comes at hf
  refine lv_aload_n hx hb dX12_comes_0 rfl (lv_at hl 0 rfl) ?_
  refine lv_iconst (v := (0 : Int32)) hx hb dX12_comes_1 (by decide) ?_
  refine va_put (D := D) (ci := 11) (v := .int (0 : Int32)) (ty := .int) (C := RX12) (T := TX12) (N := 74) hx hb hts iw_X12 tyX12 tyX12_ok nmX12 hown hK hP hD hS 0 rfl rfl 0 (by decide) (hts _ (wG_in k_fl_X12_177 rfl)) (fun _ h9 => h9) rfl (tyX12_ok 0 (by decide)) rfl rfl (Nat.le_of_ble_eq_true rfl) dX12_comes_2 (fun H locs hP hD hS => ?_)
  have hP : va_P D vwCl (w_X12_comes cI cB cZ a_t aX u_t_ahead u_t_length u_t_begins u_t_sort u_t_value u_t_letters u_t_word u_t_wrongAt u_t_laterFault u_t_laterPlace u_t_newClasses u_t_newLines u_t_turns u_t_shortest u_t_orders u_t_rowNumber u_t_ties (0 : Int32) s_t_n r_t_child r_t_childBack r_t_childRow r_t_classes r_t_weds r_t_wedsBack r_t_wedsRow) H := hP
  have hD : va_D A (w_X12_comes cI cB cZ a_t aX u_t_ahead u_t_length u_t_begins u_t_sort u_t_value u_t_letters u_t_word u_t_wrongAt u_t_laterFault u_t_laterPlace u_t_newClasses u_t_newLines u_t_turns u_t_shortest u_t_orders u_t_rowNumber u_t_ties (0 : Int32) s_t_n r_t_child r_t_childBack r_t_childRow r_t_classes r_t_weds r_t_wedsBack r_t_wedsRow) := hD
  refine lv_iload_n hx hb dX12_comes_5 rfl (lv_at hl 1 rfl) ?_
  refine lv_iconst (v := (0 : Int32)) hx hb dX12_comes_6 (by decide) ?_
  refine lv_iconst (v := (2 : Int32)) hx hb dX12_comes_7 (by decide) ?_
  obtain ⟨r1, hgr1, hf⟩ := jM_some hf
  refine jcS_i0 (As := [.int x1, .int (0 : Int32), .int (2 : Int32)]) (rest := []) ⟨hx, hb, hml, hown, hts⟩ hK hN hA (c_X12_in l G D cI cB cZ x1 (0 : Int32) (2 : Int32) hgr1) (va_cwS 3 hts (wG_S k_ml_X12_231 k_st_X12_in k_in_X12 k_co_X12_in) rfl rfl rfl hd_X12_in.2 ⟨Nat.le_of_ble_eq_true rfl, Nat.le_of_ble_eq_true rfl⟩) hP hD hS [] rfl rfl rfl rfl hl.1 rfl (Nat.le_of_ble_eq_true rfl) dX12_comes_8 ⟨Nat.le_of_ble_eq_true rfl, Nat.le_of_ble_eq_true rfl⟩ (fun H locs hP hD hS => ?_)
  refine lv_if_eq (tgt := 21) hx hb dX12_comes_11 (by decide) (fun c2 => ?_) (fun c2 => ?_)
  · replace hf := jif_t c2 hf
    refine lv_iconst (v := (-1 : Int32)) hx hb dX12_comes_21 (by decide) ?_
    have ho := Option.some.inj hf
    subst ho
    exact K _ _ _ _ hP hS dX12_comes_22
  · replace hf := jif_f c2 hf
    refine lv_aload_n hx hb dX12_comes_14 rfl (lv_at hl 0 rfl) ?_
    obtain ⟨r3, hgr3, hf⟩ := jM_some hf
    refine jcV_i (As := []) (rest := []) ⟨hx, hb, hml, hown, hts⟩ hK hN hA (c_X12_bring l G D cI cB cZ a_t aX (0 : Int32) u_t_ahead u_t_length u_t_begins u_t_sort u_t_value u_t_letters u_t_word u_t_wrongAt u_t_laterFault u_t_laterPlace u_t_newClasses u_t_newLines u_t_turns u_t_shortest u_t_orders u_t_rowNumber u_t_ties r_t_childRow r_t_classes r_t_wedsRow s_t_n r_t_child r_t_childBack r_t_weds r_t_wedsBack hgr3) (cwV 0 hts (wG_V k_ml_X12_338 k_im_X12_bring k_se_X12_bring k_in_X12 k_co_X12_bring) rfl rfl rfl hd_X12_bring ⟨Nat.le_of_ble_eq_true rfl, Nat.le_of_ble_eq_true rfl⟩) hP hD hS [0, 1, 2, 3, 4, 5, 6, 7] rfl rfl rfl (ci := 11) rfl 0 rfl rfl rfl hl.1 rfl (Nat.le_of_ble_eq_true rfl) dX12_comes_15 ⟨Nat.le_of_ble_eq_true rfl, Nat.le_of_ble_eq_true rfl⟩ (fun H locs hP hD hS => ?_)
    have hP : va_P D vwCl (w_X12_comes cI cB cZ a_t aX u_t_ahead u_t_length u_t_begins u_t_sort u_t_value u_t_letters u_t_word u_t_wrongAt u_t_laterFault u_t_laterPlace u_t_newClasses u_t_newLines u_t_turns u_t_shortest u_t_orders u_t_rowNumber u_t_ties (0 : Int32) r3.2.1 r3.2.2.1 r3.2.2.2.1 r_t_childRow r_t_classes r3.2.2.2.2.1 r3.2.2.2.2.2 r_t_wedsRow) H := hP
    have hD : va_D A (w_X12_comes cI cB cZ a_t aX u_t_ahead u_t_length u_t_begins u_t_sort u_t_value u_t_letters u_t_word u_t_wrongAt u_t_laterFault u_t_laterPlace u_t_newClasses u_t_newLines u_t_turns u_t_shortest u_t_orders u_t_rowNumber u_t_ties (0 : Int32) r3.2.1 r3.2.2.1 r3.2.2.2.1 r_t_childRow r_t_classes r3.2.2.2.2.1 r3.2.2.2.2.2 r_t_wedsRow) := hD
    refine lv_if_ne (tgt := 23) hx hb dX12_comes_18 (by decide) (fun c4 => ?_) (fun c4 => ?_)
    · replace hf := jif_f c4 hf
      refine lv_iconst (v := (0 : Int32)) hx hb dX12_comes_23 (by decide) ?_
      refine lv_istore_n (lv' := [(2, .int (0 : Int32)), (0, .ref a_t), (1, .int x1)]) hx hb dX12_comes_24 rfl hl (by decide) rfl (fun ls hl => ?_)
      refine lv_aload_n hx hb dX12_comes_25 rfl (lv_at hl 1 rfl) ?_
      obtain ⟨r5, hgr5, hf⟩ := jM_some hf
      refine jcV_i0 (As := []) (rest := []) ⟨hx, hb, hml, hown, hts⟩ hK hN hA (c_X12_self l G D cI cB cZ a_t aX (0 : Int32) u_t_ahead u_t_length u_t_begins u_t_sort u_t_value u_t_letters u_t_word u_t_wrongAt u_t_laterFault u_t_laterPlace u_t_newClasses u_t_newLines u_t_turns u_t_shortest u_t_orders u_t_rowNumber u_t_ties r3.2.1 hgr5) (cwV 0 hts (wG_V k_ml_X12_368 k_im_X12_self k_se_X12_self k_in_X12 k_co_X12_self) rfl rfl rfl hd_X12_self ⟨Nat.le_of_ble_eq_true rfl, Nat.le_of_ble_eq_true rfl⟩) hP hD hS [0] rfl rfl rfl (ci := 11) rfl 0 rfl rfl rfl hl.1 rfl (Nat.le_of_ble_eq_true rfl) dX12_comes_26 ⟨Nat.le_of_ble_eq_true rfl, Nat.le_of_ble_eq_true rfl⟩ (fun H locs hP hD hS => ?_)
      refine lv_istore_n (lv' := [(3, .int r5), (2, .int (0 : Int32)), (0, .ref a_t), (1, .int x1)]) hx hb dX12_comes_29 rfl hl (by decide) rfl (fun ls hl => ?_)
      refine lv_iconst (v := (0 : Int32)) hx hb dX12_comes_30 (by decide) ?_
      refine lv_istore (lv' := [(4, .int (0 : Int32)), (3, .int r5), (2, .int (0 : Int32)), (0, .ref a_t), (1, .int x1)]) hx hb dX12_comes_31 hl (by decide) rfl (fun ls hl => ?_)
      obtain ⟨e16, hg16, hf⟩ := jM_some hf
      refine t_X12_comes_l33 G D cI cB cZ a_t aX u_t_ahead u_t_length u_t_begins u_t_sort u_t_value u_t_letters u_t_word u_t_wrongAt u_t_laterFault u_t_laterPlace u_t_newClasses u_t_newLines u_t_turns u_t_shortest u_t_orders u_t_rowNumber u_t_ties r_t_childRow r_t_classes r_t_wedsRow (0 : Int32) r3.2.1 r3.2.2.1 r3.2.2.2.1 r3.2.2.2.2.1 r3.2.2.2.2.2 x1 C jF (0 : Int32) r5 (0 : Int32) hg16 ?_ _ _ _ hP hD hS (lv_sub hl [3, 4, 2, 1, 0] rfl)
      intro H locs ls hP hD hS hl
      refine lv_iload_n hx hb dX12_comes_126 rfl (lv_at hl 0 rfl) ?_
      have ho := Option.some.inj hf
      subst ho
      exact K _ _ _ _ hP hS dX12_comes_127
    · replace hf := jif_t c4 hf
      refine lv_iconst (v := (-1 : Int32)) hx hb dX12_comes_21 (by decide) ?_
      have ho := Option.some.inj hf
      subst ho
      exact K _ _ _ _ hP hS dX12_comes_22
set_option maxHeartbeats 4000000 in
set_option maxRecDepth 100000 in
theorem c_X12_comes (l : Launch) (G : jGt) (D : va_G) (cI cB cZ : ClassId) (a_t : Nat) (aX : Nat → Nat) (u_t_ahead u_t_length u_t_begins u_t_sort u_t_value u_t_letters : Int32) (u_t_word : Int64) (u_t_wrongAt u_t_laterFault u_t_laterPlace u_t_newClasses u_t_newLines u_t_turns u_t_shortest u_t_orders u_t_rowNumber u_t_ties : Int32) (r_t_childRow r_t_classes r_t_wedsRow : jA) (s_t_code s_t_n : Int32) (r_t_child r_t_childBack r_t_weds r_t_wedsBack : jA) (x1 : Int32) {o : Int32 × Int32 × Int32 × jA × jA × jA × jA} (hf : f_X12_comes r_t_childRow r_t_classes r_t_wedsRow s_t_code s_t_n r_t_child r_t_childBack r_t_weds r_t_wedsBack x1 = some o) : jMi l yX12_comes gX12_comes rX12_comes G D (jT cI cB cZ) [.ref a_t, .int x1] (w_X12_comes cI cB cZ a_t aX u_t_ahead u_t_length u_t_begins u_t_sort u_t_value u_t_letters u_t_word u_t_wrongAt u_t_laterFault u_t_laterPlace u_t_newClasses u_t_newLines u_t_turns u_t_shortest u_t_orders u_t_rowNumber u_t_ties s_t_code s_t_n r_t_child r_t_childBack r_t_childRow r_t_classes r_t_weds r_t_wedsBack r_t_wedsRow) (w_X12_comes cI cB cZ a_t aX u_t_ahead u_t_length u_t_begins u_t_sort u_t_value u_t_letters u_t_word u_t_wrongAt u_t_laterFault u_t_laterPlace u_t_newClasses u_t_newLines u_t_turns u_t_shortest u_t_orders u_t_rowNumber u_t_ties o.2.1 o.2.2.1 o.2.2.2.1 o.2.2.2.2.1 r_t_childRow r_t_classes o.2.2.2.2.2.1 o.2.2.2.2.2.2 r_t_wedsRow) o.1 := by
  refine jmk_i RX12 rfl (by decide +kernel) rfl (Nat.le_of_ble_eq_true rfl) rfl ?_
  intro p e s m args below meth c ls A Q C hP hD hS hl K
  exact t_X12_comes G D cI cB cZ a_t aX u_t_ahead u_t_length u_t_begins u_t_sort u_t_value u_t_letters u_t_word u_t_wrongAt u_t_laterFault u_t_laterPlace u_t_newClasses u_t_newLines u_t_turns u_t_shortest u_t_orders u_t_rowNumber u_t_ties r_t_childRow r_t_classes r_t_wedsRow s_t_code s_t_n r_t_child r_t_childBack r_t_weds r_t_wedsBack x1 C hf K hP hD hS hl
abbrev rX12_isHalf : Room := { frames := 1, cells := 0, slots := 0, locals := 22 }
abbrev gX12_isHalf : List Cond := wG yX12_isHalf cX12_isHalf 8 (some .boolean)
def w_X12_isHalf (cI cB cZ : ClassId) (a_t : Nat) (aX : Nat → Nat) (u_t_code u_t_ahead u_t_length u_t_begins u_t_sort u_t_value u_t_letters : Int32) (u_t_word : Int64) (u_t_wrongAt u_t_laterFault u_t_laterPlace u_t_newClasses u_t_newLines u_t_turns u_t_shortest u_t_orders u_t_rowNumber u_t_ties s_t_n : Int32) (r_t_child r_t_weds r_t_wedsBack : jA) : va_W := [(a_t, .inr (11, (oX12 aX u_t_code s_t_n u_t_ahead u_t_length u_t_begins u_t_sort u_t_value u_t_letters u_t_word u_t_wrongAt u_t_laterFault u_t_laterPlace u_t_newClasses u_t_newLines u_t_turns u_t_shortest u_t_orders u_t_rowNumber u_t_ties))), ((aX 33), .inl (cI, r_t_child.1, .inl r_t_child.2)), ((aX 32), .inl (cI, r_t_weds.1, .inl r_t_weds.2)), ((aX 34), .inl (cI, r_t_wedsBack.1, .inl r_t_wedsBack.2))]
def f_X12_isHalf_b5 (s_t_n x1 x2 x3 x4 : Int32) : Option ((Int32 × Int32) ⊕ ((Int32))) :=
  if s_t_n ≤ x4 then
  some (Sum.inr x3)
  else
  jV (x3 + ((x2 >>> (x4 &&& 31)) &&& (1 : Int32))) fun v2 =>
  some (Sum.inl (v2, (x4 + 1)))
set_option maxHeartbeats 4000000 in
set_option maxRecDepth 100000 in
theorem t_X12_isHalf_b5 {p : Program} {l : Launch} {e : Env} {s : State} {m : MethodId} {args : Array Value} {below : List Frame} {meth : Method} {c : Code} {A : Nat → Prop} {Q : State → Prop} (G : jGt) (D : va_G) (cI cB cZ : ClassId) (a_t : Nat) (aX : Nat → Nat) (u_t_code u_t_ahead u_t_length u_t_begins u_t_sort u_t_value u_t_letters : Int32) (u_t_word : Int64) (u_t_wrongAt u_t_laterFault u_t_laterPlace u_t_newClasses u_t_newLines u_t_turns u_t_shortest u_t_orders u_t_rowNumber u_t_ties s_t_n : Int32) (r_t_child r_t_weds r_t_wedsBack : jA) (x1 x2 x3 x4 : Int32) (C : jCx p s m args c cX12_isHalf 8 gX12_isHalf RX12 G D (jT cI cB cZ) A) {o : (Int32 × Int32) ⊕ ((Int32))} (hf : f_X12_isHalf_b5 s_t_n x1 x2 x3 x4 = some o) (K : (∀ z, o = Sum.inl z → ∀ (H : Heap) (locs : List Loc) (ls : Array Slot), va_P D vwCl (w_X12_isHalf cI cB cZ a_t aX u_t_code u_t_ahead u_t_length u_t_begins u_t_sort u_t_value u_t_letters u_t_word u_t_wrongAt u_t_laterFault u_t_laterPlace u_t_newClasses u_t_newLines u_t_turns u_t_shortest u_t_orders u_t_rowNumber u_t_ties s_t_n r_t_child r_t_weds r_t_wedsBack) H → va_D A (w_X12_isHalf cI cB cZ a_t aX u_t_code u_t_ahead u_t_length u_t_begins u_t_sort u_t_value u_t_letters u_t_word u_t_wrongAt u_t_laterFault u_t_laterPlace u_t_newClasses u_t_newLines u_t_turns u_t_shortest u_t_orders u_t_rowNumber u_t_ties s_t_n r_t_child r_t_weds r_t_wedsBack) → va_S A s.heap H locs → lv_has ls 8 [(0, .ref a_t), (1, .int x1), (2, .int x2), (3, .int z.1), (4, .int z.2)] → W p l e rX12_isHalf s m args below meth c H locs 0 0 Q (F0 m 5 ls [])) ∧ (∀ z, o = Sum.inr z → ∀ (H : Heap) (locs : List Loc) (ls : Array Slot), va_P D vwCl (w_X12_isHalf cI cB cZ a_t aX u_t_code u_t_ahead u_t_length u_t_begins u_t_sort u_t_value u_t_letters u_t_word u_t_wrongAt u_t_laterFault u_t_laterPlace u_t_newClasses u_t_newLines u_t_turns u_t_shortest u_t_orders u_t_rowNumber u_t_ties s_t_n r_t_child r_t_weds r_t_wedsBack) H → va_D A (w_X12_isHalf cI cB cZ a_t aX u_t_code u_t_ahead u_t_length u_t_begins u_t_sort u_t_value u_t_letters u_t_word u_t_wrongAt u_t_laterFault u_t_laterPlace u_t_newClasses u_t_newLines u_t_turns u_t_shortest u_t_orders u_t_rowNumber u_t_ties s_t_n r_t_child r_t_weds r_t_wedsBack) → va_S A s.heap H locs → lv_has ls 8 [(0, .ref a_t), (1, .int x1), (2, .int x2), (3, .int z)] → W p l e rX12_isHalf s m args below meth c H locs 0 0 Q (F0 m 29 ls []))) {H : Heap} {locs : List Loc} {ls : Array Slot} (hP : va_P D vwCl (w_X12_isHalf cI cB cZ a_t aX u_t_code u_t_ahead u_t_length u_t_begins u_t_sort u_t_value u_t_letters u_t_word u_t_wrongAt u_t_laterFault u_t_laterPlace u_t_newClasses u_t_newLines u_t_turns u_t_shortest u_t_orders u_t_rowNumber u_t_ties s_t_n r_t_child r_t_weds r_t_wedsBack) H) (hD : va_D A (w_X12_isHalf cI cB cZ a_t aX u_t_code u_t_ahead u_t_length u_t_begins u_t_sort u_t_value u_t_letters u_t_word u_t_wrongAt u_t_laterFault u_t_laterPlace u_t_newClasses u_t_newLines u_t_turns u_t_shortest u_t_orders u_t_rowNumber u_t_ties s_t_n r_t_child r_t_weds r_t_wedsBack)) (hS : va_S A s.heap H locs) (hl : lv_has ls 8 [(0, .ref a_t), (1, .int x1), (2, .int x2), (3, .int x3), (4, .int x4)]) : W p l e rX12_isHalf s m args below meth c H locs 0 0 Q (F0 m 5 ls []) := by
  obtain ⟨⟨hx, hb, hml, hown, hts⟩, hK, hN, hA⟩ := C
  have C : jCx p s m args c cX12_isHalf 8 gX12_isHalf RX12 G D (jT cI cB cZ) A := ⟨⟨hx, hb, hml, hown, hts⟩, hK, hN, hA⟩
  unfold f_X12_isHalf_b5 at hf
  refine lv_iload hx hb dX12_isHalf_5 (lv_at hl 4 rfl) ?_
  refine lv_aload_n hx hb dX12_isHalf_7 rfl (lv_at hl 0 rfl) ?_
  refine va_get (D := D) (ci := 11) (v := .int s_t_n) (C := RX12) (T := TX12) (N := 74) hx hb hts iw_X12 hown hK hP 0 rfl rfl 31 (by decide) (hts _ (wG_in k_fl_X12_189 rfl)) (fun _ h9 => h9) rfl dX12_isHalf_8 ?_
  refine lv_icmp_ge (tgt := 29) hx hb dX12_isHalf_11 (by decide) (fun c1 => ?_) (fun c1 => ?_)
  · replace hf := jif_t c1 hf
    have ho := Option.some.inj hf
    exact (K.2 _ ho.symm) _ _ _ hP hD hS (lv_sub hl [0, 1, 2, 3] rfl)
  · replace hf := jif_f c1 hf
    refine lv_iload_n hx hb dX12_isHalf_14 rfl (lv_at hl 3 rfl) ?_
    refine lv_iload_n hx hb dX12_isHalf_15 rfl (lv_at hl 2 rfl) ?_
    refine lv_iload hx hb dX12_isHalf_16 (lv_at hl 4 rfl) ?_
    refine lv_ishr hx hb dX12_isHalf_18 ?_
    refine lv_iconst (v := (1 : Int32)) hx hb dX12_isHalf_19 (by decide) ?_
    refine lv_iand hx hb dX12_isHalf_20 ?_
    refine lv_iadd hx hb dX12_isHalf_21 ?_
    obtain ⟨v2, hv2, hf⟩ := jV_some hf
    refine jtop hv2 ?_
    refine lv_istore_n (lv' := [(3, .int v2), (0, .ref a_t), (1, .int x1), (2, .int x2), (4, .int x4)]) hx hb dX12_isHalf_22 rfl hl (by decide) rfl (fun ls hl => ?_)
    refine lv_iinc (v := (x4 + 1)) (lv' := [(4, .int (x4 + 1)), (3, .int v2), (0, .ref a_t), (1, .int x1), (2, .int x2)]) hx hb dX12_isHalf_23 hl (k := 4) rfl (by first | rfl | decide) (by decide) rfl (fun ls hl => ?_)
    refine lv_goto (tgt := 5) hx hb dX12_isHalf_26 (by decide) ?_
    have ho := Option.some.inj hf
    exact K.1 _ ho.symm _ _ _ hP hD hS (lv_sub hl [2, 3, 4, 1, 0] rfl)
def f_X12_isHalf_l5 (s_t_n x1 x2 x3 x4 : Int32) : Option ((Int32)) :=
  jI (fun z => f_X12_isHalf_b5 s_t_n x1 x2 z.1 z.2) jF (x3, x4)
set_option maxHeartbeats 4000000 in
set_option maxRecDepth 100000 in
theorem t_X12_isHalf_l5 {p : Program} {l : Launch} {e : Env} {s : State} {m : MethodId} {args : Array Value} {below : List Frame} {meth : Method} {c : Code} {A : Nat → Prop} {Q : State → Prop} (G : jGt) (D : va_G) (cI cB cZ : ClassId) (a_t : Nat) (aX : Nat → Nat) (u_t_code u_t_ahead u_t_length u_t_begins u_t_sort u_t_value u_t_letters : Int32) (u_t_word : Int64) (u_t_wrongAt u_t_laterFault u_t_laterPlace u_t_newClasses u_t_newLines u_t_turns u_t_shortest u_t_orders u_t_rowNumber u_t_ties s_t_n : Int32) (r_t_child r_t_weds r_t_wedsBack : jA) (x1 x2 : Int32) (C : jCx p s m args c cX12_isHalf 8 gX12_isHalf RX12 G D (jT cI cB cZ) A) : ∀ (n : Nat) (x3 x4 : Int32) {eo : (Int32)}, jI (fun z => f_X12_isHalf_b5 s_t_n x1 x2 z.1 z.2) n (x3, x4) = some eo → (∀ (H : Heap) (locs : List Loc) (ls : Array Slot), va_P D vwCl (w_X12_isHalf cI cB cZ a_t aX u_t_code u_t_ahead u_t_length u_t_begins u_t_sort u_t_value u_t_letters u_t_word u_t_wrongAt u_t_laterFault u_t_laterPlace u_t_newClasses u_t_newLines u_t_turns u_t_shortest u_t_orders u_t_rowNumber u_t_ties s_t_n r_t_child r_t_weds r_t_wedsBack) H → va_D A (w_X12_isHalf cI cB cZ a_t aX u_t_code u_t_ahead u_t_length u_t_begins u_t_sort u_t_value u_t_letters u_t_word u_t_wrongAt u_t_laterFault u_t_laterPlace u_t_newClasses u_t_newLines u_t_turns u_t_shortest u_t_orders u_t_rowNumber u_t_ties s_t_n r_t_child r_t_weds r_t_wedsBack) → va_S A s.heap H locs → lv_has ls 8 [(0, .ref a_t), (1, .int x1), (2, .int x2), (3, .int eo)] → W p l e rX12_isHalf s m args below meth c H locs 0 0 Q (F0 m 29 ls [])) → ∀ (H : Heap) (locs : List Loc) (ls : Array Slot), va_P D vwCl (w_X12_isHalf cI cB cZ a_t aX u_t_code u_t_ahead u_t_length u_t_begins u_t_sort u_t_value u_t_letters u_t_word u_t_wrongAt u_t_laterFault u_t_laterPlace u_t_newClasses u_t_newLines u_t_turns u_t_shortest u_t_orders u_t_rowNumber u_t_ties s_t_n r_t_child r_t_weds r_t_wedsBack) H → va_D A (w_X12_isHalf cI cB cZ a_t aX u_t_code u_t_ahead u_t_length u_t_begins u_t_sort u_t_value u_t_letters u_t_word u_t_wrongAt u_t_laterFault u_t_laterPlace u_t_newClasses u_t_newLines u_t_turns u_t_shortest u_t_orders u_t_rowNumber u_t_ties s_t_n r_t_child r_t_weds r_t_wedsBack) → va_S A s.heap H locs → lv_has ls 8 [(0, .ref a_t), (1, .int x1), (2, .int x2), (3, .int x3), (4, .int x4)] → W p l e rX12_isHalf s m args below meth c H locs 0 0 Q (F0 m 5 ls []) := by
  intro n
  induction n with
  | zero =>
    intro x3 x4 eo hf
    exact (jI_zero hf).elim
  | succ n ih =>
    intro x3 x4 eo hf K H locs ls hP hD hS hl
    obtain ⟨o, hb1, ho⟩ := jI_some hf
    rcases ho with ⟨z, rfl, hf2⟩ | rfl
    · exact t_X12_isHalf_b5 G D cI cB cZ a_t aX u_t_code u_t_ahead u_t_length u_t_begins u_t_sort u_t_value u_t_letters u_t_word u_t_wrongAt u_t_laterFault u_t_laterPlace u_t_newClasses u_t_newLines u_t_turns u_t_shortest u_t_orders u_t_rowNumber u_t_ties s_t_n r_t_child r_t_weds r_t_wedsBack x1 x2 x3 x4 C hb1 ⟨fun z2 hz H locs ls hP hD hS hl => by cases hz; exact ih z.1 z.2 hf2 K H locs ls hP hD hS hl, fun z2 hz => by cases hz⟩ hP hD hS hl
    · exact t_X12_isHalf_b5 G D cI cB cZ a_t aX u_t_code u_t_ahead u_t_length u_t_begins u_t_sort u_t_value u_t_letters u_t_word u_t_wrongAt u_t_laterFault u_t_laterPlace u_t_newClasses u_t_newLines u_t_turns u_t_shortest u_t_orders u_t_rowNumber u_t_ties s_t_n r_t_child r_t_weds r_t_wedsBack x1 x2 x3 x4 C hb1 ⟨fun z2 hz => (by cases hz), fun z2 hz => by cases hz; exact K⟩ hP hD hS hl
def f_X12_isHalf_j140 (x1 x2 x4 : Int32) : Option ((Int32) ⊕ ((Unit) ⊕ ((Unit) ⊕ ((Unit))))) :=
  some (Sum.inl (x4 + 1))
set_option maxHeartbeats 4000000 in
set_option maxRecDepth 100000 in
theorem t_X12_isHalf_j140 {p : Program} {l : Launch} {e : Env} {s : State} {m : MethodId} {args : Array Value} {below : List Frame} {meth : Method} {c : Code} {A : Nat → Prop} {Q : State → Prop} (G : jGt) (D : va_G) (cI cB cZ : ClassId) (a_t : Nat) (aX : Nat → Nat) (u_t_code u_t_ahead u_t_length u_t_begins u_t_sort u_t_value u_t_letters : Int32) (u_t_word : Int64) (u_t_wrongAt u_t_laterFault u_t_laterPlace u_t_newClasses u_t_newLines u_t_turns u_t_shortest u_t_orders u_t_rowNumber u_t_ties s_t_n : Int32) (r_t_child r_t_weds r_t_wedsBack : jA) (x1 x2 x4 : Int32) (C : jCx p s m args c cX12_isHalf 8 gX12_isHalf RX12 G D (jT cI cB cZ) A) {o : (Int32) ⊕ ((Unit) ⊕ ((Unit) ⊕ ((Unit))))} (hf : f_X12_isHalf_j140 x1 x2 x4 = some o) (K : (∀ z, o = Sum.inl z → ∀ (H : Heap) (locs : List Loc) (ls : Array Slot), va_P D vwCl (w_X12_isHalf cI cB cZ a_t aX u_t_code u_t_ahead u_t_length u_t_begins u_t_sort u_t_value u_t_letters u_t_word u_t_wrongAt u_t_laterFault u_t_laterPlace u_t_newClasses u_t_newLines u_t_turns u_t_shortest u_t_orders u_t_rowNumber u_t_ties s_t_n r_t_child r_t_weds r_t_wedsBack) H → va_D A (w_X12_isHalf cI cB cZ a_t aX u_t_code u_t_ahead u_t_length u_t_begins u_t_sort u_t_value u_t_letters u_t_word u_t_wrongAt u_t_laterFault u_t_laterPlace u_t_newClasses u_t_newLines u_t_turns u_t_shortest u_t_orders u_t_rowNumber u_t_ties s_t_n r_t_child r_t_weds r_t_wedsBack) → va_S A s.heap H locs → lv_has ls 8 [(0, .ref a_t), (1, .int x1), (2, .int x2), (4, .int z)] → W p l e rX12_isHalf s m args below meth c H locs 0 0 Q (F0 m 50 ls [])) ∧ (∀ z, o = Sum.inr z → (∀ y0, z = Sum.inl y0 → ∀ (H : Heap) (locs : List Loc) (ls : Array Slot), va_P D vwCl (w_X12_isHalf cI cB cZ a_t aX u_t_code u_t_ahead u_t_length u_t_begins u_t_sort u_t_value u_t_letters u_t_word u_t_wrongAt u_t_laterFault u_t_laterPlace u_t_newClasses u_t_newLines u_t_turns u_t_shortest u_t_orders u_t_rowNumber u_t_ties s_t_n r_t_child r_t_weds r_t_wedsBack) H → va_D A (w_X12_isHalf cI cB cZ a_t aX u_t_code u_t_ahead u_t_length u_t_begins u_t_sort u_t_value u_t_letters u_t_word u_t_wrongAt u_t_laterFault u_t_laterPlace u_t_newClasses u_t_newLines u_t_turns u_t_shortest u_t_orders u_t_rowNumber u_t_ties s_t_n r_t_child r_t_weds r_t_wedsBack) → va_S A s.heap H locs → lv_has ls 8 [] → W p l e rX12_isHalf s m args below meth c H locs 0 0 Q (F0 m 121 ls [])) ∧ (∀ z0, z = Sum.inr z0 → (∀ y1, z0 = Sum.inl y1 → ∀ (H : Heap) (locs : List Loc) (ls : Array Slot), va_P D vwCl (w_X12_isHalf cI cB cZ a_t aX u_t_code u_t_ahead u_t_length u_t_begins u_t_sort u_t_value u_t_letters u_t_word u_t_wrongAt u_t_laterFault u_t_laterPlace u_t_newClasses u_t_newLines u_t_turns u_t_shortest u_t_orders u_t_rowNumber u_t_ties s_t_n r_t_child r_t_weds r_t_wedsBack) H → va_D A (w_X12_isHalf cI cB cZ a_t aX u_t_code u_t_ahead u_t_length u_t_begins u_t_sort u_t_value u_t_letters u_t_word u_t_wrongAt u_t_laterFault u_t_laterPlace u_t_newClasses u_t_newLines u_t_turns u_t_shortest u_t_orders u_t_rowNumber u_t_ties s_t_n r_t_child r_t_weds r_t_wedsBack) → va_S A s.heap H locs → lv_has ls 8 [] → W p l e rX12_isHalf s m args below meth c H locs 0 0 Q (F0 m 138 ls [])) ∧ (∀ z1, z0 = Sum.inr z1 → ∀ (H : Heap) (locs : List Loc) (ls : Array Slot), va_P D vwCl (w_X12_isHalf cI cB cZ a_t aX u_t_code u_t_ahead u_t_length u_t_begins u_t_sort u_t_value u_t_letters u_t_word u_t_wrongAt u_t_laterFault u_t_laterPlace u_t_newClasses u_t_newLines u_t_turns u_t_shortest u_t_orders u_t_rowNumber u_t_ties s_t_n r_t_child r_t_weds r_t_wedsBack) H → va_D A (w_X12_isHalf cI cB cZ a_t aX u_t_code u_t_ahead u_t_length u_t_begins u_t_sort u_t_value u_t_letters u_t_word u_t_wrongAt u_t_laterFault u_t_laterPlace u_t_newClasses u_t_newLines u_t_turns u_t_shortest u_t_orders u_t_rowNumber u_t_ties s_t_n r_t_child r_t_weds r_t_wedsBack) → va_S A s.heap H locs → lv_has ls 8 [] → W p l e rX12_isHalf s m args below meth c H locs 0 0 Q (F0 m 146 ls []))))) {H : Heap} {locs : List Loc} {ls : Array Slot} (hP : va_P D vwCl (w_X12_isHalf cI cB cZ a_t aX u_t_code u_t_ahead u_t_length u_t_begins u_t_sort u_t_value u_t_letters u_t_word u_t_wrongAt u_t_laterFault u_t_laterPlace u_t_newClasses u_t_newLines u_t_turns u_t_shortest u_t_orders u_t_rowNumber u_t_ties s_t_n r_t_child r_t_weds r_t_wedsBack) H) (hD : va_D A (w_X12_isHalf cI cB cZ a_t aX u_t_code u_t_ahead u_t_length u_t_begins u_t_sort u_t_value u_t_letters u_t_word u_t_wrongAt u_t_laterFault u_t_laterPlace u_t_newClasses u_t_newLines u_t_turns u_t_shortest u_t_orders u_t_rowNumber u_t_ties s_t_n r_t_child r_t_weds r_t_wedsBack)) (hS : va_S A s.heap H locs) (hl : lv_has ls 8 [(0, .ref a_t), (1, .int x1), (2, .int x2), (4, .int x4)]) : W p l e rX12_isHalf s m args below meth c H locs 0 0 Q (F0 m 140 ls []) := by
  obtain ⟨⟨hx, hb, hml, hown, hts⟩, hK, hN, hA⟩ := C
  have C : jCx p s m args c cX12_isHalf 8 gX12_isHalf RX12 G D (jT cI cB cZ) A := ⟨⟨hx, hb, hml, hown, hts⟩, hK, hN, hA⟩
  unfold f_X12_isHalf_j140 at hf
  refine lv_iinc (v := (x4 + 1)) (lv' := [(4, .int (x4 + 1)), (0, .ref a_t), (1, .int x1), (2, .int x2)]) hx hb dX12_isHalf_140 hl (k := 3) rfl (by first | rfl | decide) (by decide) rfl (fun ls hl => ?_)
  refine lv_goto (tgt := 50) hx hb dX12_isHalf_143 (by decide) ?_
  have ho := Option.some.inj hf
  exact K.1 _ ho.symm _ _ _ hP hD hS (lv_sub hl [1, 2, 3, 0] rfl)
def f_X12_isHalf_j94 (r_t_child r_t_wedsBack : jA) (x1 x2 x4 x5 x6 k0 k2 k3 : Int32) : Option ((Int32) ⊕ ((Unit) ⊕ ((Unit) ⊕ ((Unit))))) :=
  jM (f_X12_childOf r_t_child r_t_wedsBack k2 k3) fun r11 =>
  jV ((k0 >>> (r11 &&& 31)) &&& (1 : Int32)) fun v12 =>
  if x1 = (2 : Int32) then
  if x6 = x5 then
  if v12 = x5 then
  some (Sum.inr (Sum.inl ()))
  else
  f_X12_isHalf_j140 x1 x2 x4
  else
  some (Sum.inr (Sum.inr (Sum.inl ())))
  else
  if x6 = x5 then
  some (Sum.inr (Sum.inr (Sum.inl ())))
  else
  if v12 = x5 then
  f_X12_isHalf_j140 x1 x2 x4
  else
  some (Sum.inr (Sum.inr (Sum.inl ())))
set_option maxHeartbeats 4000000 in
set_option maxRecDepth 100000 in
theorem t_X12_isHalf_j94 {p : Program} {l : Launch} {e : Env} {s : State} {m : MethodId} {args : Array Value} {below : List Frame} {meth : Method} {c : Code} {A : Nat → Prop} {Q : State → Prop} (G : jGt) (D : va_G) (cI cB cZ : ClassId) (a_t : Nat) (aX : Nat → Nat) (u_t_code u_t_ahead u_t_length u_t_begins u_t_sort u_t_value u_t_letters : Int32) (u_t_word : Int64) (u_t_wrongAt u_t_laterFault u_t_laterPlace u_t_newClasses u_t_newLines u_t_turns u_t_shortest u_t_orders u_t_rowNumber u_t_ties s_t_n : Int32) (r_t_child r_t_weds r_t_wedsBack : jA) (x1 x2 x4 x5 x6 k0 k2 k3 : Int32) (C : jCx p s m args c cX12_isHalf 8 gX12_isHalf RX12 G D (jT cI cB cZ) A) {o : (Int32) ⊕ ((Unit) ⊕ ((Unit) ⊕ ((Unit))))} (hf : f_X12_isHalf_j94 r_t_child r_t_wedsBack x1 x2 x4 x5 x6 k0 k2 k3 = some o) (K : (∀ z, o = Sum.inl z → ∀ (H : Heap) (locs : List Loc) (ls : Array Slot), va_P D vwCl (w_X12_isHalf cI cB cZ a_t aX u_t_code u_t_ahead u_t_length u_t_begins u_t_sort u_t_value u_t_letters u_t_word u_t_wrongAt u_t_laterFault u_t_laterPlace u_t_newClasses u_t_newLines u_t_turns u_t_shortest u_t_orders u_t_rowNumber u_t_ties s_t_n r_t_child r_t_weds r_t_wedsBack) H → va_D A (w_X12_isHalf cI cB cZ a_t aX u_t_code u_t_ahead u_t_length u_t_begins u_t_sort u_t_value u_t_letters u_t_word u_t_wrongAt u_t_laterFault u_t_laterPlace u_t_newClasses u_t_newLines u_t_turns u_t_shortest u_t_orders u_t_rowNumber u_t_ties s_t_n r_t_child r_t_weds r_t_wedsBack) → va_S A s.heap H locs → lv_has ls 8 [(0, .ref a_t), (1, .int x1), (2, .int x2), (4, .int z)] → W p l e rX12_isHalf s m args below meth c H locs 0 0 Q (F0 m 50 ls [])) ∧ (∀ z, o = Sum.inr z → (∀ y0, z = Sum.inl y0 → ∀ (H : Heap) (locs : List Loc) (ls : Array Slot), va_P D vwCl (w_X12_isHalf cI cB cZ a_t aX u_t_code u_t_ahead u_t_length u_t_begins u_t_sort u_t_value u_t_letters u_t_word u_t_wrongAt u_t_laterFault u_t_laterPlace u_t_newClasses u_t_newLines u_t_turns u_t_shortest u_t_orders u_t_rowNumber u_t_ties s_t_n r_t_child r_t_weds r_t_wedsBack) H → va_D A (w_X12_isHalf cI cB cZ a_t aX u_t_code u_t_ahead u_t_length u_t_begins u_t_sort u_t_value u_t_letters u_t_word u_t_wrongAt u_t_laterFault u_t_laterPlace u_t_newClasses u_t_newLines u_t_turns u_t_shortest u_t_orders u_t_rowNumber u_t_ties s_t_n r_t_child r_t_weds r_t_wedsBack) → va_S A s.heap H locs → lv_has ls 8 [] → W p l e rX12_isHalf s m args below meth c H locs 0 0 Q (F0 m 121 ls [])) ∧ (∀ z0, z = Sum.inr z0 → (∀ y1, z0 = Sum.inl y1 → ∀ (H : Heap) (locs : List Loc) (ls : Array Slot), va_P D vwCl (w_X12_isHalf cI cB cZ a_t aX u_t_code u_t_ahead u_t_length u_t_begins u_t_sort u_t_value u_t_letters u_t_word u_t_wrongAt u_t_laterFault u_t_laterPlace u_t_newClasses u_t_newLines u_t_turns u_t_shortest u_t_orders u_t_rowNumber u_t_ties s_t_n r_t_child r_t_weds r_t_wedsBack) H → va_D A (w_X12_isHalf cI cB cZ a_t aX u_t_code u_t_ahead u_t_length u_t_begins u_t_sort u_t_value u_t_letters u_t_word u_t_wrongAt u_t_laterFault u_t_laterPlace u_t_newClasses u_t_newLines u_t_turns u_t_shortest u_t_orders u_t_rowNumber u_t_ties s_t_n r_t_child r_t_weds r_t_wedsBack) → va_S A s.heap H locs → lv_has ls 8 [] → W p l e rX12_isHalf s m args below meth c H locs 0 0 Q (F0 m 138 ls [])) ∧ (∀ z1, z0 = Sum.inr z1 → ∀ (H : Heap) (locs : List Loc) (ls : Array Slot), va_P D vwCl (w_X12_isHalf cI cB cZ a_t aX u_t_code u_t_ahead u_t_length u_t_begins u_t_sort u_t_value u_t_letters u_t_word u_t_wrongAt u_t_laterFault u_t_laterPlace u_t_newClasses u_t_newLines u_t_turns u_t_shortest u_t_orders u_t_rowNumber u_t_ties s_t_n r_t_child r_t_weds r_t_wedsBack) H → va_D A (w_X12_isHalf cI cB cZ a_t aX u_t_code u_t_ahead u_t_length u_t_begins u_t_sort u_t_value u_t_letters u_t_word u_t_wrongAt u_t_laterFault u_t_laterPlace u_t_newClasses u_t_newLines u_t_turns u_t_shortest u_t_orders u_t_rowNumber u_t_ties s_t_n r_t_child r_t_weds r_t_wedsBack) → va_S A s.heap H locs → lv_has ls 8 [] → W p l e rX12_isHalf s m args below meth c H locs 0 0 Q (F0 m 146 ls []))))) {H : Heap} {locs : List Loc} {ls : Array Slot} (hP : va_P D vwCl (w_X12_isHalf cI cB cZ a_t aX u_t_code u_t_ahead u_t_length u_t_begins u_t_sort u_t_value u_t_letters u_t_word u_t_wrongAt u_t_laterFault u_t_laterPlace u_t_newClasses u_t_newLines u_t_turns u_t_shortest u_t_orders u_t_rowNumber u_t_ties s_t_n r_t_child r_t_weds r_t_wedsBack) H) (hD : va_D A (w_X12_isHalf cI cB cZ a_t aX u_t_code u_t_ahead u_t_length u_t_begins u_t_sort u_t_value u_t_letters u_t_word u_t_wrongAt u_t_laterFault u_t_laterPlace u_t_newClasses u_t_newLines u_t_turns u_t_shortest u_t_orders u_t_rowNumber u_t_ties s_t_n r_t_child r_t_weds r_t_wedsBack)) (hS : va_S A s.heap H locs) (hl : lv_has ls 8 [(0, .ref a_t), (1, .int x1), (2, .int x2), (4, .int x4), (5, .int x5), (6, .int x6)]) : W p l e rX12_isHalf s m args below meth c H locs 0 0 Q (F0 m 94 ls [.int k3, .int k2, .ref a_t, .int k0]) := by
  obtain ⟨⟨hx, hb, hml, hown, hts⟩, hK, hN, hA⟩ := C
  have C : jCx p s m args c cX12_isHalf 8 gX12_isHalf RX12 G D (jT cI cB cZ) A := ⟨⟨hx, hb, hml, hown, hts⟩, hK, hN, hA⟩
  unfold f_X12_isHalf_j94 at hf
  obtain ⟨r11, hgr11, hf⟩ := jM_some hf
  refine jcV_i0 (As := [.int k2, .int k3]) (rest := [.int k0]) ⟨hx, hb, hml, hown, hts⟩ hK hN hA (c_X12_childOf l G D cI cB cZ a_t aX u_t_code s_t_n u_t_ahead u_t_length u_t_begins u_t_sort u_t_value u_t_letters u_t_word u_t_wrongAt u_t_laterFault u_t_laterPlace u_t_newClasses u_t_newLines u_t_turns u_t_shortest u_t_orders u_t_rowNumber u_t_ties r_t_child r_t_wedsBack k2 k3 hgr11) (cwV 2 hts (wG_V k_ml_X12_195 k_im_X12_childOf k_se_X12_childOf k_in_X12 k_co_X12_childOf) rfl rfl rfl hd_X12_childOf ⟨Nat.le_of_ble_eq_true rfl, Nat.le_of_ble_eq_true rfl⟩) hP hD hS [0, 1, 3] rfl rfl rfl (ci := 11) rfl 0 rfl rfl rfl hl.1 rfl (Nat.le_of_ble_eq_true rfl) dX12_isHalf_94 ⟨Nat.le_of_ble_eq_true rfl, Nat.le_of_ble_eq_true rfl⟩ (fun H locs hP hD hS => ?_)
  refine lv_ishr hx hb dX12_isHalf_97 ?_
  refine lv_iconst (v := (1 : Int32)) hx hb dX12_isHalf_98 (by decide) ?_
  refine lv_iand hx hb dX12_isHalf_99 ?_
  obtain ⟨v12, hv12, hf⟩ := jV_some hf
  refine jtop hv12 ?_
  refine lv_istore (lv' := [(7, .int v12), (0, .ref a_t), (1, .int x1), (2, .int x2), (4, .int x4), (5, .int x5), (6, .int x6)]) hx hb dX12_isHalf_100 hl (by decide) rfl (fun ls hl => ?_)
  refine lv_iload_n hx hb dX12_isHalf_102 rfl (lv_at hl 2 rfl) ?_
  refine lv_iconst (v := (2 : Int32)) hx hb dX12_isHalf_103 (by decide) ?_
  refine lv_icmp_ne (tgt := 124) hx hb dX12_isHalf_104 (by decide) (fun c13 => ?_) (fun c13 => ?_)
  · replace hf := jif_f c13 hf
    refine lv_iload hx hb dX12_isHalf_124 (lv_at hl 6 rfl) ?_
    refine lv_iload hx hb dX12_isHalf_126 (lv_at hl 5 rfl) ?_
    refine lv_icmp_eq (tgt := 138) hx hb dX12_isHalf_128 (by decide) (fun c14 => ?_) (fun c14 => ?_)
    · replace hf := jif_t c14 hf
      have ho := Option.some.inj hf
      exact (((K.2 _ ho.symm).2 _ rfl).1 _ rfl) _ _ _ hP hD hS (lv_sub hl [] rfl)
    · replace hf := jif_f c14 hf
      refine lv_iload hx hb dX12_isHalf_131 (lv_at hl 0 rfl) ?_
      refine lv_iload hx hb dX12_isHalf_133 (lv_at hl 5 rfl) ?_
      refine lv_icmp_eq (tgt := 140) hx hb dX12_isHalf_135 (by decide) (fun c15 => ?_) (fun c15 => ?_)
      · replace hf := jif_t c15 hf
        exact t_X12_isHalf_j140 G D cI cB cZ a_t aX u_t_code u_t_ahead u_t_length u_t_begins u_t_sort u_t_value u_t_letters u_t_word u_t_wrongAt u_t_laterFault u_t_laterPlace u_t_newClasses u_t_newLines u_t_turns u_t_shortest u_t_orders u_t_rowNumber u_t_ties s_t_n r_t_child r_t_weds r_t_wedsBack x1 x2 x4 C hf K hP hD hS (lv_sub hl [1, 2, 3, 4] rfl)
      · replace hf := jif_f c15 hf
        have ho := Option.some.inj hf
        exact (((K.2 _ ho.symm).2 _ rfl).1 _ rfl) _ _ _ hP hD hS (lv_sub hl [] rfl)
  · replace hf := jif_t c13 hf
    refine lv_iload hx hb dX12_isHalf_107 (lv_at hl 6 rfl) ?_
    refine lv_iload hx hb dX12_isHalf_109 (lv_at hl 5 rfl) ?_
    refine lv_icmp_ne (tgt := 138) hx hb dX12_isHalf_111 (by decide) (fun c16 => ?_) (fun c16 => ?_)
    · replace hf := jif_f c16 hf
      have ho := Option.some.inj hf
      exact (((K.2 _ ho.symm).2 _ rfl).1 _ rfl) _ _ _ hP hD hS (lv_sub hl [] rfl)
    · replace hf := jif_t c16 hf
      refine lv_iload hx hb dX12_isHalf_114 (lv_at hl 0 rfl) ?_
      refine lv_iload hx hb dX12_isHalf_116 (lv_at hl 5 rfl) ?_
      refine lv_icmp_ne (tgt := 140) hx hb dX12_isHalf_118 (by decide) (fun c17 => ?_) (fun c17 => ?_)
      · replace hf := jif_f c17 hf
        exact t_X12_isHalf_j140 G D cI cB cZ a_t aX u_t_code u_t_ahead u_t_length u_t_begins u_t_sort u_t_value u_t_letters u_t_word u_t_wrongAt u_t_laterFault u_t_laterPlace u_t_newClasses u_t_newLines u_t_turns u_t_shortest u_t_orders u_t_rowNumber u_t_ties s_t_n r_t_child r_t_weds r_t_wedsBack x1 x2 x4 C hf K hP hD hS (lv_sub hl [1, 2, 3, 4] rfl)
      · replace hf := jif_t c17 hf
        have ho := Option.some.inj hf
        exact ((K.2 _ ho.symm).1 _ rfl) _ _ _ hP hD hS (lv_sub hl [] rfl)
def f_X12_isHalf_b50 (s_t_n : Int32) (r_t_child r_t_weds r_t_wedsBack : jA) (x1 x2 x4 : Int32) : Option ((Int32) ⊕ ((Unit) ⊕ ((Unit) ⊕ ((Unit))))) :=
  if s_t_n ≤ x4 then
  some (Sum.inr (Sum.inr (Sum.inr ())))
  else
  jV ((x2 >>> (x4 &&& 31)) &&& (1 : Int32)) fun v7 =>
  jL r_t_weds x4 fun v8 =>
  jV ((x2 >>> (v8 &&& 31)) &&& (1 : Int32)) fun v9 =>
  if x1 = (1 : Int32) then
  f_X12_isHalf_j94 r_t_child r_t_wedsBack x1 x2 x4 v7 v9 x2 x4 (0 : Int32)
  else
  f_X12_isHalf_j94 r_t_child r_t_wedsBack x1 x2 x4 v7 v9 x2 x4 (1 : Int32)
set_option maxHeartbeats 4000000 in
set_option maxRecDepth 100000 in
theorem t_X12_isHalf_b50 {p : Program} {l : Launch} {e : Env} {s : State} {m : MethodId} {args : Array Value} {below : List Frame} {meth : Method} {c : Code} {A : Nat → Prop} {Q : State → Prop} (G : jGt) (D : va_G) (cI cB cZ : ClassId) (a_t : Nat) (aX : Nat → Nat) (u_t_code u_t_ahead u_t_length u_t_begins u_t_sort u_t_value u_t_letters : Int32) (u_t_word : Int64) (u_t_wrongAt u_t_laterFault u_t_laterPlace u_t_newClasses u_t_newLines u_t_turns u_t_shortest u_t_orders u_t_rowNumber u_t_ties s_t_n : Int32) (r_t_child r_t_weds r_t_wedsBack : jA) (x1 x2 x4 : Int32) (C : jCx p s m args c cX12_isHalf 8 gX12_isHalf RX12 G D (jT cI cB cZ) A) {o : (Int32) ⊕ ((Unit) ⊕ ((Unit) ⊕ ((Unit))))} (hf : f_X12_isHalf_b50 s_t_n r_t_child r_t_weds r_t_wedsBack x1 x2 x4 = some o) (K : (∀ z, o = Sum.inl z → ∀ (H : Heap) (locs : List Loc) (ls : Array Slot), va_P D vwCl (w_X12_isHalf cI cB cZ a_t aX u_t_code u_t_ahead u_t_length u_t_begins u_t_sort u_t_value u_t_letters u_t_word u_t_wrongAt u_t_laterFault u_t_laterPlace u_t_newClasses u_t_newLines u_t_turns u_t_shortest u_t_orders u_t_rowNumber u_t_ties s_t_n r_t_child r_t_weds r_t_wedsBack) H → va_D A (w_X12_isHalf cI cB cZ a_t aX u_t_code u_t_ahead u_t_length u_t_begins u_t_sort u_t_value u_t_letters u_t_word u_t_wrongAt u_t_laterFault u_t_laterPlace u_t_newClasses u_t_newLines u_t_turns u_t_shortest u_t_orders u_t_rowNumber u_t_ties s_t_n r_t_child r_t_weds r_t_wedsBack) → va_S A s.heap H locs → lv_has ls 8 [(0, .ref a_t), (1, .int x1), (2, .int x2), (4, .int z)] → W p l e rX12_isHalf s m args below meth c H locs 0 0 Q (F0 m 50 ls [])) ∧ (∀ z, o = Sum.inr z → (∀ y0, z = Sum.inl y0 → ∀ (H : Heap) (locs : List Loc) (ls : Array Slot), va_P D vwCl (w_X12_isHalf cI cB cZ a_t aX u_t_code u_t_ahead u_t_length u_t_begins u_t_sort u_t_value u_t_letters u_t_word u_t_wrongAt u_t_laterFault u_t_laterPlace u_t_newClasses u_t_newLines u_t_turns u_t_shortest u_t_orders u_t_rowNumber u_t_ties s_t_n r_t_child r_t_weds r_t_wedsBack) H → va_D A (w_X12_isHalf cI cB cZ a_t aX u_t_code u_t_ahead u_t_length u_t_begins u_t_sort u_t_value u_t_letters u_t_word u_t_wrongAt u_t_laterFault u_t_laterPlace u_t_newClasses u_t_newLines u_t_turns u_t_shortest u_t_orders u_t_rowNumber u_t_ties s_t_n r_t_child r_t_weds r_t_wedsBack) → va_S A s.heap H locs → lv_has ls 8 [] → W p l e rX12_isHalf s m args below meth c H locs 0 0 Q (F0 m 121 ls [])) ∧ (∀ z0, z = Sum.inr z0 → (∀ y1, z0 = Sum.inl y1 → ∀ (H : Heap) (locs : List Loc) (ls : Array Slot), va_P D vwCl (w_X12_isHalf cI cB cZ a_t aX u_t_code u_t_ahead u_t_length u_t_begins u_t_sort u_t_value u_t_letters u_t_word u_t_wrongAt u_t_laterFault u_t_laterPlace u_t_newClasses u_t_newLines u_t_turns u_t_shortest u_t_orders u_t_rowNumber u_t_ties s_t_n r_t_child r_t_weds r_t_wedsBack) H → va_D A (w_X12_isHalf cI cB cZ a_t aX u_t_code u_t_ahead u_t_length u_t_begins u_t_sort u_t_value u_t_letters u_t_word u_t_wrongAt u_t_laterFault u_t_laterPlace u_t_newClasses u_t_newLines u_t_turns u_t_shortest u_t_orders u_t_rowNumber u_t_ties s_t_n r_t_child r_t_weds r_t_wedsBack) → va_S A s.heap H locs → lv_has ls 8 [] → W p l e rX12_isHalf s m args below meth c H locs 0 0 Q (F0 m 138 ls [])) ∧ (∀ z1, z0 = Sum.inr z1 → ∀ (H : Heap) (locs : List Loc) (ls : Array Slot), va_P D vwCl (w_X12_isHalf cI cB cZ a_t aX u_t_code u_t_ahead u_t_length u_t_begins u_t_sort u_t_value u_t_letters u_t_word u_t_wrongAt u_t_laterFault u_t_laterPlace u_t_newClasses u_t_newLines u_t_turns u_t_shortest u_t_orders u_t_rowNumber u_t_ties s_t_n r_t_child r_t_weds r_t_wedsBack) H → va_D A (w_X12_isHalf cI cB cZ a_t aX u_t_code u_t_ahead u_t_length u_t_begins u_t_sort u_t_value u_t_letters u_t_word u_t_wrongAt u_t_laterFault u_t_laterPlace u_t_newClasses u_t_newLines u_t_turns u_t_shortest u_t_orders u_t_rowNumber u_t_ties s_t_n r_t_child r_t_weds r_t_wedsBack) → va_S A s.heap H locs → lv_has ls 8 [] → W p l e rX12_isHalf s m args below meth c H locs 0 0 Q (F0 m 146 ls []))))) {H : Heap} {locs : List Loc} {ls : Array Slot} (hP : va_P D vwCl (w_X12_isHalf cI cB cZ a_t aX u_t_code u_t_ahead u_t_length u_t_begins u_t_sort u_t_value u_t_letters u_t_word u_t_wrongAt u_t_laterFault u_t_laterPlace u_t_newClasses u_t_newLines u_t_turns u_t_shortest u_t_orders u_t_rowNumber u_t_ties s_t_n r_t_child r_t_weds r_t_wedsBack) H) (hD : va_D A (w_X12_isHalf cI cB cZ a_t aX u_t_code u_t_ahead u_t_length u_t_begins u_t_sort u_t_value u_t_letters u_t_word u_t_wrongAt u_t_laterFault u_t_laterPlace u_t_newClasses u_t_newLines u_t_turns u_t_shortest u_t_orders u_t_rowNumber u_t_ties s_t_n r_t_child r_t_weds r_t_wedsBack)) (hS : va_S A s.heap H locs) (hl : lv_has ls 8 [(0, .ref a_t), (1, .int x1), (2, .int x2), (4, .int x4)]) : W p l e rX12_isHalf s m args below meth c H locs 0 0 Q (F0 m 50 ls []) := by
  obtain ⟨⟨hx, hb, hml, hown, hts⟩, hK, hN, hA⟩ := C
  have C : jCx p s m args c cX12_isHalf 8 gX12_isHalf RX12 G D (jT cI cB cZ) A := ⟨⟨hx, hb, hml, hown, hts⟩, hK, hN, hA⟩
  unfold f_X12_isHalf_b50 at hf
  refine lv_iload hx hb dX12_isHalf_50 (lv_at hl 3 rfl) ?_
  refine lv_aload_n hx hb dX12_isHalf_52 rfl (lv_at hl 0 rfl) ?_
  refine va_get (D := D) (ci := 11) (v := .int s_t_n) (C := RX12) (T := TX12) (N := 74) hx hb hts iw_X12 hown hK hP 0 rfl rfl 31 (by decide) (hts _ (wG_in k_fl_X12_189 rfl)) (fun _ h9 => h9) rfl dX12_isHalf_53 ?_
  refine lv_icmp_ge (tgt := 146) hx hb dX12_isHalf_56 (by decide) (fun c6 => ?_) (fun c6 => ?_)
  · replace hf := jif_t c6 hf
    have ho := Option.some.inj hf
    exact (((K.2 _ ho.symm).2 _ rfl).2 _ rfl) _ _ _ hP hD hS (lv_sub hl [] rfl)
  · replace hf := jif_f c6 hf
    refine lv_iload_n hx hb dX12_isHalf_59 rfl (lv_at hl 2 rfl) ?_
    refine lv_iload hx hb dX12_isHalf_60 (lv_at hl 3 rfl) ?_
    refine lv_ishr hx hb dX12_isHalf_62 ?_
    refine lv_iconst (v := (1 : Int32)) hx hb dX12_isHalf_63 (by decide) ?_
    refine lv_iand hx hb dX12_isHalf_64 ?_
    obtain ⟨v7, hv7, hf⟩ := jV_some hf
    refine jtop hv7 ?_
    refine lv_istore (lv' := [(5, .int v7), (0, .ref a_t), (1, .int x1), (2, .int x2), (4, .int x4)]) hx hb dX12_isHalf_65 hl (by decide) rfl (fun ls hl => ?_)
    refine lv_iload_n hx hb dX12_isHalf_67 rfl (lv_at hl 3 rfl) ?_
    refine lv_aload_n hx hb dX12_isHalf_68 rfl (lv_at hl 1 rfl) ?_
    refine va_get (D := D) (ci := 11) (v := .ref (aX 32)) (C := RX12) (T := TX12) (N := 74) hx hb hts iw_X12 hown hK hP 0 rfl rfl 32 (by decide) (hts _ (wG_in k_fl_X12_101 rfl)) (fun _ h9 => h9) rfl dX12_isHalf_69 ?_
    refine lv_iload hx hb dX12_isHalf_72 (lv_at hl 4 rfl) ?_
    obtain ⟨v8, hv8, iv8, hf⟩ := jL_some hf
    refine ja_iald (P := r_t_weds) hx hb hK hP 2 0 rfl rfl hv8 iv8 dX12_isHalf_74 ?_
    refine lv_ishr hx hb dX12_isHalf_75 ?_
    refine lv_iconst (v := (1 : Int32)) hx hb dX12_isHalf_76 (by decide) ?_
    refine lv_iand hx hb dX12_isHalf_77 ?_
    obtain ⟨v9, hv9, hf⟩ := jV_some hf
    refine jtop hv9 ?_
    refine lv_istore (lv' := [(6, .int v9), (5, .int v7), (0, .ref a_t), (1, .int x1), (2, .int x2), (4, .int x4)]) hx hb dX12_isHalf_78 hl (by decide) rfl (fun ls hl => ?_)
    refine lv_iload_n hx hb dX12_isHalf_80 rfl (lv_at hl 4 rfl) ?_
    refine lv_aload_n hx hb dX12_isHalf_81 rfl (lv_at hl 2 rfl) ?_
    refine lv_iload hx hb dX12_isHalf_82 (lv_at hl 5 rfl) ?_
    refine lv_iload_n hx hb dX12_isHalf_84 rfl (lv_at hl 3 rfl) ?_
    refine lv_iconst (v := (1 : Int32)) hx hb dX12_isHalf_85 (by decide) ?_
    refine lv_icmp_ne (tgt := 93) hx hb dX12_isHalf_86 (by decide) (fun c10 => ?_) (fun c10 => ?_)
    · replace hf := jif_f c10 hf
      refine lv_iconst (v := (1 : Int32)) hx hb dX12_isHalf_93 (by decide) ?_
      exact t_X12_isHalf_j94 G D cI cB cZ a_t aX u_t_code u_t_ahead u_t_length u_t_begins u_t_sort u_t_value u_t_letters u_t_word u_t_wrongAt u_t_laterFault u_t_laterPlace u_t_newClasses u_t_newLines u_t_turns u_t_shortest u_t_orders u_t_rowNumber u_t_ties s_t_n r_t_child r_t_weds r_t_wedsBack x1 x2 x4 v7 v9 x2 x4 (1 : Int32) C hf K hP hD hS (lv_sub hl [2, 3, 4, 5, 1, 0] rfl)
    · replace hf := jif_t c10 hf
      refine lv_iconst (v := (0 : Int32)) hx hb dX12_isHalf_89 (by decide) ?_
      refine lv_goto (tgt := 94) hx hb dX12_isHalf_90 (by decide) ?_
      exact t_X12_isHalf_j94 G D cI cB cZ a_t aX u_t_code u_t_ahead u_t_length u_t_begins u_t_sort u_t_value u_t_letters u_t_word u_t_wrongAt u_t_laterFault u_t_laterPlace u_t_newClasses u_t_newLines u_t_turns u_t_shortest u_t_orders u_t_rowNumber u_t_ties s_t_n r_t_child r_t_weds r_t_wedsBack x1 x2 x4 v7 v9 x2 x4 (0 : Int32) C hf K hP hD hS (lv_sub hl [2, 3, 4, 5, 1, 0] rfl)
def f_X12_isHalf_l50 (s_t_n : Int32) (r_t_child r_t_weds r_t_wedsBack : jA) (x1 x2 x4 : Int32) : Option ((Unit) ⊕ ((Unit) ⊕ ((Unit)))) :=
  jI (fun z => f_X12_isHalf_b50 s_t_n r_t_child r_t_weds r_t_wedsBack x1 x2 z) jF x4
set_option maxHeartbeats 4000000 in
set_option maxRecDepth 100000 in
theorem t_X12_isHalf_l50 {p : Program} {l : Launch} {e : Env} {s : State} {m : MethodId} {args : Array Value} {below : List Frame} {meth : Method} {c : Code} {A : Nat → Prop} {Q : State → Prop} (G : jGt) (D : va_G) (cI cB cZ : ClassId) (a_t : Nat) (aX : Nat → Nat) (u_t_code u_t_ahead u_t_length u_t_begins u_t_sort u_t_value u_t_letters : Int32) (u_t_word : Int64) (u_t_wrongAt u_t_laterFault u_t_laterPlace u_t_newClasses u_t_newLines u_t_turns u_t_shortest u_t_orders u_t_rowNumber u_t_ties s_t_n : Int32) (r_t_child r_t_weds r_t_wedsBack : jA) (x1 x2 : Int32) (C : jCx p s m args c cX12_isHalf 8 gX12_isHalf RX12 G D (jT cI cB cZ) A) : ∀ (n : Nat) (x4 : Int32) {eo : (Unit) ⊕ ((Unit) ⊕ ((Unit)))}, jI (fun z => f_X12_isHalf_b50 s_t_n r_t_child r_t_weds r_t_wedsBack x1 x2 z) n x4 = some eo → ((∀ y0, eo = Sum.inl y0 → ∀ (H : Heap) (locs : List Loc) (ls : Array Slot), va_P D vwCl (w_X12_isHalf cI cB cZ a_t aX u_t_code u_t_ahead u_t_length u_t_begins u_t_sort u_t_value u_t_letters u_t_word u_t_wrongAt u_t_laterFault u_t_laterPlace u_t_newClasses u_t_newLines u_t_turns u_t_shortest u_t_orders u_t_rowNumber u_t_ties s_t_n r_t_child r_t_weds r_t_wedsBack) H → va_D A (w_X12_isHalf cI cB cZ a_t aX u_t_code u_t_ahead u_t_length u_t_begins u_t_sort u_t_value u_t_letters u_t_word u_t_wrongAt u_t_laterFault u_t_laterPlace u_t_newClasses u_t_newLines u_t_turns u_t_shortest u_t_orders u_t_rowNumber u_t_ties s_t_n r_t_child r_t_weds r_t_wedsBack) → va_S A s.heap H locs → lv_has ls 8 [] → W p l e rX12_isHalf s m args below meth c H locs 0 0 Q (F0 m 121 ls [])) ∧ (∀ z0, eo = Sum.inr z0 → (∀ y1, z0 = Sum.inl y1 → ∀ (H : Heap) (locs : List Loc) (ls : Array Slot), va_P D vwCl (w_X12_isHalf cI cB cZ a_t aX u_t_code u_t_ahead u_t_length u_t_begins u_t_sort u_t_value u_t_letters u_t_word u_t_wrongAt u_t_laterFault u_t_laterPlace u_t_newClasses u_t_newLines u_t_turns u_t_shortest u_t_orders u_t_rowNumber u_t_ties s_t_n r_t_child r_t_weds r_t_wedsBack) H → va_D A (w_X12_isHalf cI cB cZ a_t aX u_t_code u_t_ahead u_t_length u_t_begins u_t_sort u_t_value u_t_letters u_t_word u_t_wrongAt u_t_laterFault u_t_laterPlace u_t_newClasses u_t_newLines u_t_turns u_t_shortest u_t_orders u_t_rowNumber u_t_ties s_t_n r_t_child r_t_weds r_t_wedsBack) → va_S A s.heap H locs → lv_has ls 8 [] → W p l e rX12_isHalf s m args below meth c H locs 0 0 Q (F0 m 138 ls [])) ∧ (∀ z1, z0 = Sum.inr z1 → ∀ (H : Heap) (locs : List Loc) (ls : Array Slot), va_P D vwCl (w_X12_isHalf cI cB cZ a_t aX u_t_code u_t_ahead u_t_length u_t_begins u_t_sort u_t_value u_t_letters u_t_word u_t_wrongAt u_t_laterFault u_t_laterPlace u_t_newClasses u_t_newLines u_t_turns u_t_shortest u_t_orders u_t_rowNumber u_t_ties s_t_n r_t_child r_t_weds r_t_wedsBack) H → va_D A (w_X12_isHalf cI cB cZ a_t aX u_t_code u_t_ahead u_t_length u_t_begins u_t_sort u_t_value u_t_letters u_t_word u_t_wrongAt u_t_laterFault u_t_laterPlace u_t_newClasses u_t_newLines u_t_turns u_t_shortest u_t_orders u_t_rowNumber u_t_ties s_t_n r_t_child r_t_weds r_t_wedsBack) → va_S A s.heap H locs → lv_has ls 8 [] → W p l e rX12_isHalf s m args below meth c H locs 0 0 Q (F0 m 146 ls [])))) → ∀ (H : Heap) (locs : List Loc) (ls : Array Slot), va_P D vwCl (w_X12_isHalf cI cB cZ a_t aX u_t_code u_t_ahead u_t_length u_t_begins u_t_sort u_t_value u_t_letters u_t_word u_t_wrongAt u_t_laterFault u_t_laterPlace u_t_newClasses u_t_newLines u_t_turns u_t_shortest u_t_orders u_t_rowNumber u_t_ties s_t_n r_t_child r_t_weds r_t_wedsBack) H → va_D A (w_X12_isHalf cI cB cZ a_t aX u_t_code u_t_ahead u_t_length u_t_begins u_t_sort u_t_value u_t_letters u_t_word u_t_wrongAt u_t_laterFault u_t_laterPlace u_t_newClasses u_t_newLines u_t_turns u_t_shortest u_t_orders u_t_rowNumber u_t_ties s_t_n r_t_child r_t_weds r_t_wedsBack) → va_S A s.heap H locs → lv_has ls 8 [(0, .ref a_t), (1, .int x1), (2, .int x2), (4, .int x4)] → W p l e rX12_isHalf s m args below meth c H locs 0 0 Q (F0 m 50 ls []) := by
  intro n
  induction n with
  | zero =>
    intro x4 eo hf
    exact (jI_zero hf).elim
  | succ n ih =>
    intro x4 eo hf K H locs ls hP hD hS hl
    obtain ⟨o, hb1, ho⟩ := jI_some hf
    rcases ho with ⟨z, rfl, hf2⟩ | rfl
    · exact t_X12_isHalf_b50 G D cI cB cZ a_t aX u_t_code u_t_ahead u_t_length u_t_begins u_t_sort u_t_value u_t_letters u_t_word u_t_wrongAt u_t_laterFault u_t_laterPlace u_t_newClasses u_t_newLines u_t_turns u_t_shortest u_t_orders u_t_rowNumber u_t_ties s_t_n r_t_child r_t_weds r_t_wedsBack x1 x2 x4 C hb1 ⟨fun z2 hz H locs ls hP hD hS hl => by cases hz; exact ih z hf2 K H locs ls hP hD hS hl, fun z2 hz => by cases hz⟩ hP hD hS hl
    · exact t_X12_isHalf_b50 G D cI cB cZ a_t aX u_t_code u_t_ahead u_t_length u_t_begins u_t_sort u_t_value u_t_letters u_t_word u_t_wrongAt u_t_laterFault u_t_laterPlace u_t_newClasses u_t_newLines u_t_turns u_t_shortest u_t_orders u_t_rowNumber u_t_ties s_t_n r_t_child r_t_weds r_t_wedsBack x1 x2 x4 C hb1 ⟨fun z2 hz => (by cases hz), fun z2 hz => by cases hz; exact K⟩ hP hD hS hl
def f_X12_isHalf (s_t_n : Int32) (r_t_child r_t_weds r_t_wedsBack : jA) (x1 x2 : Int32) : Option (Int32) :=
  jM (f_X12_isHalf_l5 s_t_n x1 x2 (0 : Int32) (0 : Int32)) fun e3 =>
  if ((2 : Int32) * e3) = s_t_n then
  if (x2 &&& (1 : Int32)) = 0 then
  some (0 : Int32)
  else
  jM (f_X12_isHalf_l50 s_t_n r_t_child r_t_weds r_t_wedsBack x1 x2 (0 : Int32)) fun e18 =>
  Sum.elim (fun y19 =>
  some (0 : Int32)) (fun w20 =>
  Sum.elim (fun y21 =>
  some (0 : Int32)) (fun w22 =>
  some (1 : Int32)) w20) e18
  else
  some (0 : Int32)
set_option maxHeartbeats 4000000 in
set_option maxRecDepth 100000 in
theorem t_X12_isHalf {p : Program} {l : Launch} {e : Env} {s : State} {m : MethodId} {args : Array Value} {below : List Frame} {meth : Method} {c : Code} {A : Nat → Prop} {Q : State → Prop} (G : jGt) (D : va_G) (cI cB cZ : ClassId) (a_t : Nat) (aX : Nat → Nat) (u_t_code u_t_ahead u_t_length u_t_begins u_t_sort u_t_value u_t_letters : Int32) (u_t_word : Int64) (u_t_wrongAt u_t_laterFault u_t_laterPlace u_t_newClasses u_t_newLines u_t_turns u_t_shortest u_t_orders u_t_rowNumber u_t_ties s_t_n : Int32) (r_t_child r_t_weds r_t_wedsBack : jA) (x1 x2 : Int32) (C : jCx p s m args c cX12_isHalf 8 gX12_isHalf RX12 G D (jT cI cB cZ) A) {o : Int32} (hf : f_X12_isHalf s_t_n r_t_child r_t_weds r_t_wedsBack x1 x2 = some o) (K : ∀ (H : Heap) (locs : List Loc) (pc : Nat) (ls : Array Slot), (o = 0 ∨ o = 1) → va_P D vwCl (w_X12_isHalf cI cB cZ a_t aX u_t_code u_t_ahead u_t_length u_t_begins u_t_sort u_t_value u_t_letters u_t_word u_t_wrongAt u_t_laterFault u_t_laterPlace u_t_newClasses u_t_newLines u_t_turns u_t_shortest u_t_orders u_t_rowNumber u_t_ties s_t_n r_t_child r_t_weds r_t_wedsBack) H → va_S A s.heap H locs → decode cX12_isHalf pc = .ok (.ireturn, 1) → W p l e rX12_isHalf s m args below meth c H locs 0 0 Q (F0 m pc ls [.int o])) {H : Heap} {locs : List Loc} {ls : Array Slot} (hP : va_P D vwCl (w_X12_isHalf cI cB cZ a_t aX u_t_code u_t_ahead u_t_length u_t_begins u_t_sort u_t_value u_t_letters u_t_word u_t_wrongAt u_t_laterFault u_t_laterPlace u_t_newClasses u_t_newLines u_t_turns u_t_shortest u_t_orders u_t_rowNumber u_t_ties s_t_n r_t_child r_t_weds r_t_wedsBack) H) (hD : va_D A (w_X12_isHalf cI cB cZ a_t aX u_t_code u_t_ahead u_t_length u_t_begins u_t_sort u_t_value u_t_letters u_t_word u_t_wrongAt u_t_laterFault u_t_laterPlace u_t_newClasses u_t_newLines u_t_turns u_t_shortest u_t_orders u_t_rowNumber u_t_ties s_t_n r_t_child r_t_weds r_t_wedsBack)) (hS : va_S A s.heap H locs) (hl : lv_has ls 8 [(0, .ref a_t), (1, .int x1), (2, .int x2)]) : W p l e rX12_isHalf s m args below meth c H locs 0 0 Q (F0 m 0 ls []) := by
  obtain ⟨⟨hx, hb, hml, hown, hts⟩, hK, hN, hA⟩ := C
  have C : jCx p s m args c cX12_isHalf 8 gX12_isHalf RX12 G D (jT cI cB cZ) A := ⟨⟨hx, hb, hml, hown, hts⟩, hK, hN, hA⟩
  unfold f_X12_isHalf at hf
  refine lv_iconst (v := (0 : Int32)) hx hb dX12_isHalf_0 (by decide) ?_
  refine lv_istore_n (lv' := [(3, .int (0 : Int32)), (0, .ref a_t), (1, .int x1), (2, .int x2)]) hx hb dX12_isHalf_1 rfl hl (by decide) rfl (fun ls hl => ?_)
  refine lv_iconst (v := (0 : Int32)) hx hb dX12_isHalf_2 (by decide) ?_
  refine lv_istore (lv' := [(4, .int (0 : Int32)), (3, .int (0 : Int32)), (0, .ref a_t), (1, .int x1), (2, .int x2)]) hx hb dX12_isHalf_3 hl (by decide) rfl (fun ls hl => ?_)
  obtain ⟨e3, hg3, hf⟩ := jM_some hf
  refine t_X12_isHalf_l5 G D cI cB cZ a_t aX u_t_code u_t_ahead u_t_length u_t_begins u_t_sort u_t_value u_t_letters u_t_word u_t_wrongAt u_t_laterFault u_t_laterPlace u_t_newClasses u_t_newLines u_t_turns u_t_shortest u_t_orders u_t_rowNumber u_t_ties s_t_n r_t_child r_t_weds r_t_wedsBack x1 x2 C jF (0 : Int32) (0 : Int32) hg3 ?_ _ _ _ hP hD hS (lv_sub hl [2, 3, 4, 1, 0] rfl)
  intro H locs ls hP hD hS hl
  refine lv_iconst (v := (2 : Int32)) hx hb dX12_isHalf_29 (by decide) ?_
  refine lv_iload_n hx hb dX12_isHalf_30 rfl (lv_at hl 3 rfl) ?_
  refine lv_imul hx hb dX12_isHalf_31 ?_
  refine lv_aload_n hx hb dX12_isHalf_32 rfl (lv_at hl 0 rfl) ?_
  refine va_get (D := D) (ci := 11) (v := .int s_t_n) (C := RX12) (T := TX12) (N := 74) hx hb hts iw_X12 hown hK hP 0 rfl rfl 31 (by decide) (hts _ (wG_in k_fl_X12_189 rfl)) (fun _ h9 => h9) rfl dX12_isHalf_33 ?_
  refine lv_icmp_ne (tgt := 45) hx hb dX12_isHalf_36 (by decide) (fun c4 => ?_) (fun c4 => ?_)
  · replace hf := jif_f c4 hf
    refine lv_iconst (v := (0 : Int32)) hx hb dX12_isHalf_45 (by decide) ?_
    have ho := Option.some.inj hf
    subst ho
    exact K _ _ _ _ (Or.inl rfl) hP hS dX12_isHalf_46
  · replace hf := jif_t c4 hf
    refine lv_iload_n hx hb dX12_isHalf_39 rfl (lv_at hl 2 rfl) ?_
    refine lv_iconst (v := (1 : Int32)) hx hb dX12_isHalf_40 (by decide) ?_
    refine lv_iand hx hb dX12_isHalf_41 ?_
    refine lv_if_ne (tgt := 47) hx hb dX12_isHalf_42 (by decide) (fun c5 => ?_) (fun c5 => ?_)
    · replace hf := jif_f c5 hf
      refine lv_iconst (v := (0 : Int32)) hx hb dX12_isHalf_47 (by decide) ?_
      refine lv_istore (lv' := [(4, .int (0 : Int32)), (0, .ref a_t), (1, .int x1), (2, .int x2), (3, .int e3)]) hx hb dX12_isHalf_48 hl (by decide) rfl (fun ls hl => ?_)
      obtain ⟨e18, hg18, hf⟩ := jM_some hf
      refine t_X12_isHalf_l50 G D cI cB cZ a_t aX u_t_code u_t_ahead u_t_length u_t_begins u_t_sort u_t_value u_t_letters u_t_word u_t_wrongAt u_t_laterFault u_t_laterPlace u_t_newClasses u_t_newLines u_t_turns u_t_shortest u_t_orders u_t_rowNumber u_t_ties s_t_n r_t_child r_t_weds r_t_wedsBack x1 x2 C jF (0 : Int32) hg18 ?_ _ _ _ hP hD hS (lv_sub hl [1, 2, 3, 0] rfl)
      refine ⟨fun y19 hy => ?_, fun w20 hy => ?_⟩
      · replace hf := jE_l hy hf
        intro H locs ls hP hD hS hl
        refine lv_goto (tgt := 138) hx hb dX12_isHalf_121 (by decide) ?_
        refine lv_iconst (v := (0 : Int32)) hx hb dX12_isHalf_138 (by decide) ?_
        have ho := Option.some.inj hf
        subst ho
        exact K _ _ _ _ (Or.inl rfl) hP hS dX12_isHalf_139
      · replace hf := jE_r hy hf
        refine ⟨fun y21 hy => ?_, fun w22 hy => ?_⟩
        · replace hf := jE_l hy hf
          intro H locs ls hP hD hS hl
          refine lv_iconst (v := (0 : Int32)) hx hb dX12_isHalf_138 (by decide) ?_
          have ho := Option.some.inj hf
          subst ho
          exact K _ _ _ _ (Or.inl rfl) hP hS dX12_isHalf_139
        · replace hf := jE_r hy hf
          intro H locs ls hP hD hS hl
          refine lv_iconst (v := (1 : Int32)) hx hb dX12_isHalf_146 (by decide) ?_
          have ho := Option.some.inj hf
          subst ho
          exact K _ _ _ _ (Or.inr rfl) hP hS dX12_isHalf_147
    · replace hf := jif_t c5 hf
      refine lv_iconst (v := (0 : Int32)) hx hb dX12_isHalf_45 (by decide) ?_
      have ho := Option.some.inj hf
      subst ho
      exact K _ _ _ _ (Or.inl rfl) hP hS dX12_isHalf_46
set_option maxHeartbeats 4000000 in
set_option maxRecDepth 100000 in
theorem c_X12_isHalf (l : Launch) (G : jGt) (D : va_G) (cI cB cZ : ClassId) (a_t : Nat) (aX : Nat → Nat) (u_t_code u_t_ahead u_t_length u_t_begins u_t_sort u_t_value u_t_letters : Int32) (u_t_word : Int64) (u_t_wrongAt u_t_laterFault u_t_laterPlace u_t_newClasses u_t_newLines u_t_turns u_t_shortest u_t_orders u_t_rowNumber u_t_ties s_t_n : Int32) (r_t_child r_t_weds r_t_wedsBack : jA) (x1 x2 : Int32) {o : Int32} (hf : f_X12_isHalf s_t_n r_t_child r_t_weds r_t_wedsBack x1 x2 = some o) : jMi l yX12_isHalf gX12_isHalf rX12_isHalf G D (jT cI cB cZ) [.ref a_t, .int x1, .int x2] (w_X12_isHalf cI cB cZ a_t aX u_t_code u_t_ahead u_t_length u_t_begins u_t_sort u_t_value u_t_letters u_t_word u_t_wrongAt u_t_laterFault u_t_laterPlace u_t_newClasses u_t_newLines u_t_turns u_t_shortest u_t_orders u_t_rowNumber u_t_ties s_t_n r_t_child r_t_weds r_t_wedsBack) (w_X12_isHalf cI cB cZ a_t aX u_t_code u_t_ahead u_t_length u_t_begins u_t_sort u_t_value u_t_letters u_t_word u_t_wrongAt u_t_laterFault u_t_laterPlace u_t_newClasses u_t_newLines u_t_turns u_t_shortest u_t_orders u_t_rowNumber u_t_ties s_t_n r_t_child r_t_weds r_t_wedsBack) o := by
  refine jmk_z RX12 rfl (by decide +kernel) rfl (Nat.le_of_ble_eq_true rfl) rfl ?_
  intro p e s m args below meth c ls A Q C hP hD hS hl K
  exact t_X12_isHalf G D cI cB cZ a_t aX u_t_code u_t_ahead u_t_length u_t_begins u_t_sort u_t_value u_t_letters u_t_word u_t_wrongAt u_t_laterFault u_t_laterPlace u_t_newClasses u_t_newLines u_t_turns u_t_shortest u_t_orders u_t_rowNumber u_t_ties s_t_n r_t_child r_t_weds r_t_wedsBack x1 x2 C hf K hP hD hS hl
abbrev rX12_halves : Room := { frames := 2, cells := 0, slots := 0, locals := 49 }
abbrev gX12_halves : List Cond := wG yX12_halves cX12_halves 4 (some .int)
def w_X12_halves (cI cB cZ : ClassId) (a_t : Nat) (aX : Nat → Nat) (u_t_ahead u_t_length u_t_begins u_t_sort u_t_value u_t_letters : Int32) (u_t_word : Int64) (u_t_wrongAt u_t_laterFault u_t_laterPlace u_t_newClasses u_t_newLines u_t_turns u_t_shortest u_t_orders u_t_rowNumber u_t_ties s_t_code s_t_n : Int32) (r_t_child r_t_childBack r_t_childRow r_t_classes r_t_weds r_t_wedsBack r_t_wedsRow : jA) : va_W := [(a_t, .inr (11, (oX12 aX s_t_code s_t_n u_t_ahead u_t_length u_t_begins u_t_sort u_t_value u_t_letters u_t_word u_t_wrongAt u_t_laterFault u_t_laterPlace u_t_newClasses u_t_newLines u_t_turns u_t_shortest u_t_orders u_t_rowNumber u_t_ties))), ((aX 33), .inl (cI, r_t_child.1, .inl r_t_child.2)), ((aX 35), .inl (cI, r_t_childBack.1, .inl r_t_childBack.2)), ((aX 7), .inl (cI, r_t_childRow.1, .inl r_t_childRow.2)), ((aX 5), .inl (cI, r_t_classes.1, .inl r_t_classes.2)), ((aX 32), .inl (cI, r_t_weds.1, .inl r_t_weds.2)), ((aX 34), .inl (cI, r_t_wedsBack.1, .inl r_t_wedsBack.2)), ((aX 6), .inl (cI, r_t_wedsRow.1, .inl r_t_wedsRow.2))]
def f_X12_halves_j52 (s_t_code s_t_n : Int32) (r_t_child r_t_childBack r_t_weds r_t_wedsBack : jA) (x1 x3 k0 k1 : Int32) : Option ((Int32 × Int32) ⊕ ((Int32))) :=
  jV (k0 + k1) fun v8 =>
  some (Sum.inl (v8, (x3 + 1)))
set_option maxHeartbeats 4000000 in
set_option maxRecDepth 100000 in
theorem t_X12_halves_j52 {p : Program} {l : Launch} {e : Env} {s : State} {m : MethodId} {args : Array Value} {below : List Frame} {meth : Method} {c : Code} {A : Nat → Prop} {Q : State → Prop} (G : jGt) (D : va_G) (cI cB cZ : ClassId) (a_t : Nat) (aX : Nat → Nat) (u_t_ahead u_t_length u_t_begins u_t_sort u_t_value u_t_letters : Int32) (u_t_word : Int64) (u_t_wrongAt u_t_laterFault u_t_laterPlace u_t_newClasses u_t_newLines u_t_turns u_t_shortest u_t_orders u_t_rowNumber u_t_ties : Int32) (r_t_childRow r_t_classes r_t_wedsRow : jA) (s_t_code s_t_n : Int32) (r_t_child r_t_childBack r_t_weds r_t_wedsBack : jA) (x1 x3 k0 k1 : Int32) (C : jCx p s m args c cX12_halves 4 gX12_halves RX12 G D (jT cI cB cZ) A) {o : (Int32 × Int32) ⊕ ((Int32))} (hf : f_X12_halves_j52 s_t_code s_t_n r_t_child r_t_childBack r_t_weds r_t_wedsBack x1 x3 k0 k1 = some o) (K : (∀ z, o = Sum.inl z → ∀ (H : Heap) (locs : List Loc) (ls : Array Slot), va_P D vwCl (w_X12_halves cI cB cZ a_t aX u_t_ahead u_t_length u_t_begins u_t_sort u_t_value u_t_letters u_t_word u_t_wrongAt u_t_laterFault u_t_laterPlace u_t_newClasses u_t_newLines u_t_turns u_t_shortest u_t_orders u_t_rowNumber u_t_ties s_t_code s_t_n r_t_child r_t_childBack r_t_childRow r_t_classes r_t_weds r_t_wedsBack r_t_wedsRow) H → va_D A (w_X12_halves cI cB cZ a_t aX u_t_ahead u_t_length u_t_begins u_t_sort u_t_value u_t_letters u_t_word u_t_wrongAt u_t_laterFault u_t_laterPlace u_t_newClasses u_t_newLines u_t_turns u_t_shortest u_t_orders u_t_rowNumber u_t_ties s_t_code s_t_n r_t_child r_t_childBack r_t_childRow r_t_classes r_t_weds r_t_wedsBack r_t_wedsRow) → va_S A s.heap H locs → lv_has ls 4 [(0, .ref a_t), (1, .int x1), (2, .int z.1), (3, .int z.2)] → W p l e rX12_halves s m args below meth c H locs 0 0 Q (F0 m 27 ls [])) ∧ (∀ z, o = Sum.inr z → ∀ (H : Heap) (locs : List Loc) (ls : Array Slot), va_P D vwCl (w_X12_halves cI cB cZ a_t aX u_t_ahead u_t_length u_t_begins u_t_sort u_t_value u_t_letters u_t_word u_t_wrongAt u_t_laterFault u_t_laterPlace u_t_newClasses u_t_newLines u_t_turns u_t_shortest u_t_orders u_t_rowNumber u_t_ties s_t_code s_t_n r_t_child r_t_childBack r_t_childRow r_t_classes r_t_weds r_t_wedsBack r_t_wedsRow) H → va_D A (w_X12_halves cI cB cZ a_t aX u_t_ahead u_t_length u_t_begins u_t_sort u_t_value u_t_letters u_t_word u_t_wrongAt u_t_laterFault u_t_laterPlace u_t_newClasses u_t_newLines u_t_turns u_t_shortest u_t_orders u_t_rowNumber u_t_ties s_t_code s_t_n r_t_child r_t_childBack r_t_childRow r_t_classes r_t_weds r_t_wedsBack r_t_wedsRow) → va_S A s.heap H locs → lv_has ls 4 [(2, .int z)] → W p l e rX12_halves s m args below meth c H locs 0 0 Q (F0 m 60 ls []))) {H : Heap} {locs : List Loc} {ls : Array Slot} (hP : va_P D vwCl (w_X12_halves cI cB cZ a_t aX u_t_ahead u_t_length u_t_begins u_t_sort u_t_value u_t_letters u_t_word u_t_wrongAt u_t_laterFault u_t_laterPlace u_t_newClasses u_t_newLines u_t_turns u_t_shortest u_t_orders u_t_rowNumber u_t_ties s_t_code s_t_n r_t_child r_t_childBack r_t_childRow r_t_classes r_t_weds r_t_wedsBack r_t_wedsRow) H) (hD : va_D A (w_X12_halves cI cB cZ a_t aX u_t_ahead u_t_length u_t_begins u_t_sort u_t_value u_t_letters u_t_word u_t_wrongAt u_t_laterFault u_t_laterPlace u_t_newClasses u_t_newLines u_t_turns u_t_shortest u_t_orders u_t_rowNumber u_t_ties s_t_code s_t_n r_t_child r_t_childBack r_t_childRow r_t_classes r_t_weds r_t_wedsBack r_t_wedsRow)) (hS : va_S A s.heap H locs) (hl : lv_has ls 4 [(0, .ref a_t), (1, .int x1), (3, .int x3)]) : W p l e rX12_halves s m args below meth c H locs 0 0 Q (F0 m 52 ls [.int k1, .int k0]) := by
  obtain ⟨⟨hx, hb, hml, hown, hts⟩, hK, hN, hA⟩ := C
  have C : jCx p s m args c cX12_halves 4 gX12_halves RX12 G D (jT cI cB cZ) A := ⟨⟨hx, hb, hml, hown, hts⟩, hK, hN, hA⟩
  unfold f_X12_halves_j52 at hf
  refine lv_iadd hx hb dX12_halves_52 ?_
  obtain ⟨v8, hv8, hf⟩ := jV_some hf
  refine jtop hv8 ?_
  refine lv_istore_n (lv' := [(2, .int v8), (0, .ref a_t), (1, .int x1), (3, .int x3)]) hx hb dX12_halves_53 rfl hl (by decide) rfl (fun ls hl => ?_)
  refine lv_iinc (v := (x3 + 1)) (lv' := [(3, .int (x3 + 1)), (2, .int v8), (0, .ref a_t), (1, .int x1)]) hx hb dX12_halves_54 hl (k := 3) rfl (by first | rfl | decide) (by decide) rfl (fun ls hl => ?_)
  refine lv_goto (tgt := 27) hx hb dX12_halves_57 (by decide) ?_
  have ho := Option.some.inj hf
  exact K.1 _ ho.symm _ _ _ hP hD hS (lv_sub hl [2, 3, 1, 0] rfl)
def f_X12_halves_b27 (s_t_code s_t_n : Int32) (r_t_child r_t_childBack r_t_weds r_t_wedsBack : jA) (x1 x2 x3 : Int32) : Option ((Int32 × Int32) ⊕ ((Int32))) :=
  if ((1 : Int32) <<< (s_t_n &&& 31)) ≤ x3 then
  some (Sum.inr x2)
  else
  jM (f_X12_isHalf s_t_n r_t_child r_t_weds r_t_wedsBack x1 x3) fun r6 =>
  if r6 = 0 then
  f_X12_halves_j52 s_t_code s_t_n r_t_child r_t_childBack r_t_weds r_t_wedsBack x1 x3 x2 (0 : Int32)
  else
  f_X12_halves_j52 s_t_code s_t_n r_t_child r_t_childBack r_t_weds r_t_wedsBack x1 x3 x2 (1 : Int32)
set_option maxHeartbeats 4000000 in
set_option maxRecDepth 100000 in
theorem t_X12_halves_b27 {p : Program} {l : Launch} {e : Env} {s : State} {m : MethodId} {args : Array Value} {below : List Frame} {meth : Method} {c : Code} {A : Nat → Prop} {Q : State → Prop} (G : jGt) (D : va_G) (cI cB cZ : ClassId) (a_t : Nat) (aX : Nat → Nat) (u_t_ahead u_t_length u_t_begins u_t_sort u_t_value u_t_letters : Int32) (u_t_word : Int64) (u_t_wrongAt u_t_laterFault u_t_laterPlace u_t_newClasses u_t_newLines u_t_turns u_t_shortest u_t_orders u_t_rowNumber u_t_ties : Int32) (r_t_childRow r_t_classes r_t_wedsRow : jA) (s_t_code s_t_n : Int32) (r_t_child r_t_childBack r_t_weds r_t_wedsBack : jA) (x1 x2 x3 : Int32) (C : jCx p s m args c cX12_halves 4 gX12_halves RX12 G D (jT cI cB cZ) A) {o : (Int32 × Int32) ⊕ ((Int32))} (hf : f_X12_halves_b27 s_t_code s_t_n r_t_child r_t_childBack r_t_weds r_t_wedsBack x1 x2 x3 = some o) (K : (∀ z, o = Sum.inl z → ∀ (H : Heap) (locs : List Loc) (ls : Array Slot), va_P D vwCl (w_X12_halves cI cB cZ a_t aX u_t_ahead u_t_length u_t_begins u_t_sort u_t_value u_t_letters u_t_word u_t_wrongAt u_t_laterFault u_t_laterPlace u_t_newClasses u_t_newLines u_t_turns u_t_shortest u_t_orders u_t_rowNumber u_t_ties s_t_code s_t_n r_t_child r_t_childBack r_t_childRow r_t_classes r_t_weds r_t_wedsBack r_t_wedsRow) H → va_D A (w_X12_halves cI cB cZ a_t aX u_t_ahead u_t_length u_t_begins u_t_sort u_t_value u_t_letters u_t_word u_t_wrongAt u_t_laterFault u_t_laterPlace u_t_newClasses u_t_newLines u_t_turns u_t_shortest u_t_orders u_t_rowNumber u_t_ties s_t_code s_t_n r_t_child r_t_childBack r_t_childRow r_t_classes r_t_weds r_t_wedsBack r_t_wedsRow) → va_S A s.heap H locs → lv_has ls 4 [(0, .ref a_t), (1, .int x1), (2, .int z.1), (3, .int z.2)] → W p l e rX12_halves s m args below meth c H locs 0 0 Q (F0 m 27 ls [])) ∧ (∀ z, o = Sum.inr z → ∀ (H : Heap) (locs : List Loc) (ls : Array Slot), va_P D vwCl (w_X12_halves cI cB cZ a_t aX u_t_ahead u_t_length u_t_begins u_t_sort u_t_value u_t_letters u_t_word u_t_wrongAt u_t_laterFault u_t_laterPlace u_t_newClasses u_t_newLines u_t_turns u_t_shortest u_t_orders u_t_rowNumber u_t_ties s_t_code s_t_n r_t_child r_t_childBack r_t_childRow r_t_classes r_t_weds r_t_wedsBack r_t_wedsRow) H → va_D A (w_X12_halves cI cB cZ a_t aX u_t_ahead u_t_length u_t_begins u_t_sort u_t_value u_t_letters u_t_word u_t_wrongAt u_t_laterFault u_t_laterPlace u_t_newClasses u_t_newLines u_t_turns u_t_shortest u_t_orders u_t_rowNumber u_t_ties s_t_code s_t_n r_t_child r_t_childBack r_t_childRow r_t_classes r_t_weds r_t_wedsBack r_t_wedsRow) → va_S A s.heap H locs → lv_has ls 4 [(2, .int z)] → W p l e rX12_halves s m args below meth c H locs 0 0 Q (F0 m 60 ls []))) {H : Heap} {locs : List Loc} {ls : Array Slot} (hP : va_P D vwCl (w_X12_halves cI cB cZ a_t aX u_t_ahead u_t_length u_t_begins u_t_sort u_t_value u_t_letters u_t_word u_t_wrongAt u_t_laterFault u_t_laterPlace u_t_newClasses u_t_newLines u_t_turns u_t_shortest u_t_orders u_t_rowNumber u_t_ties s_t_code s_t_n r_t_child r_t_childBack r_t_childRow r_t_classes r_t_weds r_t_wedsBack r_t_wedsRow) H) (hD : va_D A (w_X12_halves cI cB cZ a_t aX u_t_ahead u_t_length u_t_begins u_t_sort u_t_value u_t_letters u_t_word u_t_wrongAt u_t_laterFault u_t_laterPlace u_t_newClasses u_t_newLines u_t_turns u_t_shortest u_t_orders u_t_rowNumber u_t_ties s_t_code s_t_n r_t_child r_t_childBack r_t_childRow r_t_classes r_t_weds r_t_wedsBack r_t_wedsRow)) (hS : va_S A s.heap H locs) (hl : lv_has ls 4 [(0, .ref a_t), (1, .int x1), (2, .int x2), (3, .int x3)]) : W p l e rX12_halves s m args below meth c H locs 0 0 Q (F0 m 27 ls []) := by
  obtain ⟨⟨hx, hb, hml, hown, hts⟩, hK, hN, hA⟩ := C
  have C : jCx p s m args c cX12_halves 4 gX12_halves RX12 G D (jT cI cB cZ) A := ⟨⟨hx, hb, hml, hown, hts⟩, hK, hN, hA⟩
  unfold f_X12_halves_b27 at hf
  refine lv_iload_n hx hb dX12_halves_27 rfl (lv_at hl 3 rfl) ?_
  refine lv_iconst (v := (1 : Int32)) hx hb dX12_halves_28 (by decide) ?_
  refine lv_aload_n hx hb dX12_halves_29 rfl (lv_at hl 0 rfl) ?_
  refine va_get (D := D) (ci := 11) (v := .int s_t_n) (C := RX12) (T := TX12) (N := 74) hx hb hts iw_X12 hown hK hP 0 rfl rfl 31 (by decide) (hts _ (wG_in k_fl_X12_189 rfl)) (fun _ h9 => h9) rfl dX12_halves_30 ?_
  refine lv_ishl hx hb dX12_halves_33 ?_
  refine lv_icmp_ge (tgt := 60) hx hb dX12_halves_34 (by decide) (fun c5 => ?_) (fun c5 => ?_)
  · replace hf := jif_t c5 hf
    have ho := Option.some.inj hf
    exact (K.2 _ ho.symm) _ _ _ hP hD hS (lv_sub hl [2] rfl)
  · replace hf := jif_f c5 hf
    refine lv_iload_n hx hb dX12_halves_37 rfl (lv_at hl 2 rfl) ?_
    refine lv_aload_n hx hb dX12_halves_38 rfl (lv_at hl 0 rfl) ?_
    refine lv_iload_n hx hb dX12_halves_39 rfl (lv_at hl 1 rfl) ?_
    refine lv_iload_n hx hb dX12_halves_40 rfl (lv_at hl 3 rfl) ?_
    obtain ⟨r6, hgr6, hf⟩ := jM_some hf
    refine jcV_i0 (As := [.int x1, .int x3]) (rest := [.int x2]) ⟨hx, hb, hml, hown, hts⟩ hK hN hA (c_X12_isHalf l G D cI cB cZ a_t aX s_t_code u_t_ahead u_t_length u_t_begins u_t_sort u_t_value u_t_letters u_t_word u_t_wrongAt u_t_laterFault u_t_laterPlace u_t_newClasses u_t_newLines u_t_turns u_t_shortest u_t_orders u_t_rowNumber u_t_ties s_t_n r_t_child r_t_weds r_t_wedsBack x1 x3 hgr6) (cwV 2 hts (wG_V k_ml_X12_384 k_im_X12_isHalf k_se_X12_isHalf k_in_X12 k_co_X12_isHalf) rfl rfl rfl hd_X12_isHalf ⟨Nat.le_of_ble_eq_true rfl, Nat.le_of_ble_eq_true rfl⟩) hP hD hS [0, 1, 5, 6] rfl rfl rfl (ci := 11) rfl 0 rfl rfl rfl hl.1 rfl (Nat.le_of_ble_eq_true rfl) dX12_halves_41 ⟨Nat.le_of_ble_eq_true rfl, Nat.le_of_ble_eq_true rfl⟩ (fun H locs hP hD hS => ?_)
    refine lv_if_eq (tgt := 51) hx hb dX12_halves_44 (by decide) (fun c7 => ?_) (fun c7 => ?_)
    · replace hf := jif_t c7 hf
      refine lv_iconst (v := (0 : Int32)) hx hb dX12_halves_51 (by decide) ?_
      exact t_X12_halves_j52 G D cI cB cZ a_t aX u_t_ahead u_t_length u_t_begins u_t_sort u_t_value u_t_letters u_t_word u_t_wrongAt u_t_laterFault u_t_laterPlace u_t_newClasses u_t_newLines u_t_turns u_t_shortest u_t_orders u_t_rowNumber u_t_ties r_t_childRow r_t_classes r_t_wedsRow s_t_code s_t_n r_t_child r_t_childBack r_t_weds r_t_wedsBack x1 x3 x2 (0 : Int32) C hf K hP hD hS (lv_sub hl [0, 1, 3] rfl)
    · replace hf := jif_f c7 hf
      refine lv_iconst (v := (1 : Int32)) hx hb dX12_halves_47 (by decide) ?_
      refine lv_goto (tgt := 52) hx hb dX12_halves_48 (by decide) ?_
      exact t_X12_halves_j52 G D cI cB cZ a_t aX u_t_ahead u_t_length u_t_begins u_t_sort u_t_value u_t_letters u_t_word u_t_wrongAt u_t_laterFault u_t_laterPlace u_t_newClasses u_t_newLines u_t_turns u_t_shortest u_t_orders u_t_rowNumber u_t_ties r_t_childRow r_t_classes r_t_wedsRow s_t_code s_t_n r_t_child r_t_childBack r_t_weds r_t_wedsBack x1 x3 x2 (1 : Int32) C hf K hP hD hS (lv_sub hl [0, 1, 3] rfl)
def f_X12_halves_l27 (s_t_code s_t_n : Int32) (r_t_child r_t_childBack r_t_weds r_t_wedsBack : jA) (x1 x2 x3 : Int32) : Option ((Int32)) :=
  jI (fun z => f_X12_halves_b27 s_t_code s_t_n r_t_child r_t_childBack r_t_weds r_t_wedsBack x1 z.1 z.2) jF (x2, x3)
set_option maxHeartbeats 4000000 in
set_option maxRecDepth 100000 in
theorem t_X12_halves_l27 {p : Program} {l : Launch} {e : Env} {s : State} {m : MethodId} {args : Array Value} {below : List Frame} {meth : Method} {c : Code} {A : Nat → Prop} {Q : State → Prop} (G : jGt) (D : va_G) (cI cB cZ : ClassId) (a_t : Nat) (aX : Nat → Nat) (u_t_ahead u_t_length u_t_begins u_t_sort u_t_value u_t_letters : Int32) (u_t_word : Int64) (u_t_wrongAt u_t_laterFault u_t_laterPlace u_t_newClasses u_t_newLines u_t_turns u_t_shortest u_t_orders u_t_rowNumber u_t_ties : Int32) (r_t_childRow r_t_classes r_t_wedsRow : jA) (s_t_code s_t_n : Int32) (r_t_child r_t_childBack r_t_weds r_t_wedsBack : jA) (x1 : Int32) (C : jCx p s m args c cX12_halves 4 gX12_halves RX12 G D (jT cI cB cZ) A) : ∀ (n : Nat) (x2 x3 : Int32) {eo : (Int32)}, jI (fun z => f_X12_halves_b27 s_t_code s_t_n r_t_child r_t_childBack r_t_weds r_t_wedsBack x1 z.1 z.2) n (x2, x3) = some eo → (∀ (H : Heap) (locs : List Loc) (ls : Array Slot), va_P D vwCl (w_X12_halves cI cB cZ a_t aX u_t_ahead u_t_length u_t_begins u_t_sort u_t_value u_t_letters u_t_word u_t_wrongAt u_t_laterFault u_t_laterPlace u_t_newClasses u_t_newLines u_t_turns u_t_shortest u_t_orders u_t_rowNumber u_t_ties s_t_code s_t_n r_t_child r_t_childBack r_t_childRow r_t_classes r_t_weds r_t_wedsBack r_t_wedsRow) H → va_D A (w_X12_halves cI cB cZ a_t aX u_t_ahead u_t_length u_t_begins u_t_sort u_t_value u_t_letters u_t_word u_t_wrongAt u_t_laterFault u_t_laterPlace u_t_newClasses u_t_newLines u_t_turns u_t_shortest u_t_orders u_t_rowNumber u_t_ties s_t_code s_t_n r_t_child r_t_childBack r_t_childRow r_t_classes r_t_weds r_t_wedsBack r_t_wedsRow) → va_S A s.heap H locs → lv_has ls 4 [(2, .int eo)] → W p l e rX12_halves s m args below meth c H locs 0 0 Q (F0 m 60 ls [])) → ∀ (H : Heap) (locs : List Loc) (ls : Array Slot), va_P D vwCl (w_X12_halves cI cB cZ a_t aX u_t_ahead u_t_length u_t_begins u_t_sort u_t_value u_t_letters u_t_word u_t_wrongAt u_t_laterFault u_t_laterPlace u_t_newClasses u_t_newLines u_t_turns u_t_shortest u_t_orders u_t_rowNumber u_t_ties s_t_code s_t_n r_t_child r_t_childBack r_t_childRow r_t_classes r_t_weds r_t_wedsBack r_t_wedsRow) H → va_D A (w_X12_halves cI cB cZ a_t aX u_t_ahead u_t_length u_t_begins u_t_sort u_t_value u_t_letters u_t_word u_t_wrongAt u_t_laterFault u_t_laterPlace u_t_newClasses u_t_newLines u_t_turns u_t_shortest u_t_orders u_t_rowNumber u_t_ties s_t_code s_t_n r_t_child r_t_childBack r_t_childRow r_t_classes r_t_weds r_t_wedsBack r_t_wedsRow) → va_S A s.heap H locs → lv_has ls 4 [(0, .ref a_t), (1, .int x1), (2, .int x2), (3, .int x3)] → W p l e rX12_halves s m args below meth c H locs 0 0 Q (F0 m 27 ls []) := by
  intro n
  induction n with
  | zero =>
    intro x2 x3 eo hf
    exact (jI_zero hf).elim
  | succ n ih =>
    intro x2 x3 eo hf K H locs ls hP hD hS hl
    obtain ⟨o, hb1, ho⟩ := jI_some hf
    rcases ho with ⟨z, rfl, hf2⟩ | rfl
    · exact t_X12_halves_b27 G D cI cB cZ a_t aX u_t_ahead u_t_length u_t_begins u_t_sort u_t_value u_t_letters u_t_word u_t_wrongAt u_t_laterFault u_t_laterPlace u_t_newClasses u_t_newLines u_t_turns u_t_shortest u_t_orders u_t_rowNumber u_t_ties r_t_childRow r_t_classes r_t_wedsRow s_t_code s_t_n r_t_child r_t_childBack r_t_weds r_t_wedsBack x1 x2 x3 C hb1 ⟨fun z2 hz H locs ls hP hD hS hl => by cases hz; exact ih z.1 z.2 hf2 K H locs ls hP hD hS hl, fun z2 hz => by cases hz⟩ hP hD hS hl
    · exact t_X12_halves_b27 G D cI cB cZ a_t aX u_t_ahead u_t_length u_t_begins u_t_sort u_t_value u_t_letters u_t_word u_t_wrongAt u_t_laterFault u_t_laterPlace u_t_newClasses u_t_newLines u_t_turns u_t_shortest u_t_orders u_t_rowNumber u_t_ties r_t_childRow r_t_classes r_t_wedsRow s_t_code s_t_n r_t_child r_t_childBack r_t_weds r_t_wedsBack x1 x2 x3 C hb1 ⟨fun z2 hz => (by cases hz), fun z2 hz => by cases hz; exact K⟩ hP hD hS hl
def f_X12_halves (r_t_childRow r_t_classes r_t_wedsRow : jA) (s_t_code s_t_n : Int32) (r_t_child r_t_childBack r_t_weds r_t_wedsBack : jA) (x1 : Int32) : Option (Int32 × Int32 × Int32 × jA × jA × jA × jA) :=
  jM (f_X12_in x1 (0 : Int32) (2 : Int32)) fun r1 =>
  if r1 = 0 then
  some ((-1 : Int32), (0 : Int32), s_t_n, r_t_child, r_t_childBack, r_t_weds, r_t_wedsBack)
  else
  jM (f_X12_bring r_t_childRow r_t_classes r_t_wedsRow s_t_n r_t_child r_t_childBack r_t_weds r_t_wedsBack) fun r3 =>
  if r3.1 = 0 then
  some ((-1 : Int32), (0 : Int32), r3.2.1, r3.2.2.1, r3.2.2.2.1, r3.2.2.2.2.1, r3.2.2.2.2.2)
  else
  jM (f_X12_halves_l27 (0 : Int32) r3.2.1 r3.2.2.1 r3.2.2.2.1 r3.2.2.2.2.1 r3.2.2.2.2.2 x1 (0 : Int32) (0 : Int32)) fun e9 =>
  some (e9, (0 : Int32), r3.2.1, r3.2.2.1, r3.2.2.2.1, r3.2.2.2.2.1, r3.2.2.2.2.2)
set_option maxHeartbeats 4000000 in
set_option maxRecDepth 100000 in
theorem t_X12_halves {p : Program} {l : Launch} {e : Env} {s : State} {m : MethodId} {args : Array Value} {below : List Frame} {meth : Method} {c : Code} {A : Nat → Prop} {Q : State → Prop} (G : jGt) (D : va_G) (cI cB cZ : ClassId) (a_t : Nat) (aX : Nat → Nat) (u_t_ahead u_t_length u_t_begins u_t_sort u_t_value u_t_letters : Int32) (u_t_word : Int64) (u_t_wrongAt u_t_laterFault u_t_laterPlace u_t_newClasses u_t_newLines u_t_turns u_t_shortest u_t_orders u_t_rowNumber u_t_ties : Int32) (r_t_childRow r_t_classes r_t_wedsRow : jA) (s_t_code s_t_n : Int32) (r_t_child r_t_childBack r_t_weds r_t_wedsBack : jA) (x1 : Int32) (C : jCx p s m args c cX12_halves 4 gX12_halves RX12 G D (jT cI cB cZ) A) {o : Int32 × Int32 × Int32 × jA × jA × jA × jA} (hf : f_X12_halves r_t_childRow r_t_classes r_t_wedsRow s_t_code s_t_n r_t_child r_t_childBack r_t_weds r_t_wedsBack x1 = some o) (K : ∀ (H : Heap) (locs : List Loc) (pc : Nat) (ls : Array Slot), va_P D vwCl (w_X12_halves cI cB cZ a_t aX u_t_ahead u_t_length u_t_begins u_t_sort u_t_value u_t_letters u_t_word u_t_wrongAt u_t_laterFault u_t_laterPlace u_t_newClasses u_t_newLines u_t_turns u_t_shortest u_t_orders u_t_rowNumber u_t_ties o.2.1 o.2.2.1 o.2.2.2.1 o.2.2.2.2.1 r_t_childRow r_t_classes o.2.2.2.2.2.1 o.2.2.2.2.2.2 r_t_wedsRow) H → va_S A s.heap H locs → decode cX12_halves pc = .ok (.ireturn, 1) → W p l e rX12_halves s m args below meth c H locs 0 0 Q (F0 m pc ls [.int o.1])) {H : Heap} {locs : List Loc} {ls : Array Slot} (hP : va_P D vwCl (w_X12_halves cI cB cZ a_t aX u_t_ahead u_t_length u_t_begins u_t_sort u_t_value u_t_letters u_t_word u_t_wrongAt u_t_laterFault u_t_laterPlace u_t_newClasses u_t_newLines u_t_turns u_t_shortest u_t_orders u_t_rowNumber u_t_ties s_t_code s_t_n r_t_child r_t_childBack r_t_childRow r_t_classes r_t_weds r_t_wedsBack r_t_wedsRow) H) (hD : va_D A (w_X12_halves cI cB cZ a_t aX u_t_ahead u_t_length u_t_begins u_t_sort u_t_value u_t_letters u_t_word u_t_wrongAt u_t_laterFault u_t_laterPlace u_t_newClasses u_t_newLines u_t_turns u_t_shortest u_t_orders u_t_rowNumber u_t_ties s_t_code s_t_n r_t_child r_t_childBack r_t_childRow r_t_classes r_t_weds r_t_wedsBack r_t_wedsRow)) (hS : va_S A s.heap H locs) (hl : lv_has ls 4 [(0, .ref a_t), (1, .int x1)]) : W p l e rX12_halves s m args below meth c H locs 0 0 Q (F0 m 0 ls []) := by
  obtain ⟨⟨hx, hb, hml, hown, hts⟩, hK, hN, hA⟩ := C
  have C : jCx p s m args c cX12_halves 4 gX12_halves RX12 G D (jT cI cB cZ) A := ⟨⟨hx, hb, hml, hown, hts⟩, hK, hN, hA⟩
  unfold f_X12_halves at hf
  refine lv_aload_n hx hb dX12_halves_0 rfl (lv_at hl 0 rfl) ?_
  refine lv_iconst (v := (0 : Int32)) hx hb dX12_halves_1 (by decide) ?_
  refine va_put (D := D) (ci := 11) (v := .int (0 : Int32)) (ty := .int) (C := RX12) (T := TX12) (N := 74) hx hb hts iw_X12 tyX12 tyX12_ok nmX12 hown hK hP hD hS 0 rfl rfl 0 (by decide) (hts _ (wG_in k_fl_X12_177 rfl)) (fun _ h9 => h9) rfl (tyX12_ok 0 (by decide)) rfl rfl (Nat.le_of_ble_eq_true rfl) dX12_halves_2 (fun H locs hP hD hS => ?_)
  have hP : va_P D vwCl (w_X12_halves cI cB cZ a_t aX u_t_ahead u_t_length u_t_begins u_t_sort u_t_value u_t_letters u_t_word u_t_wrongAt u_t_laterFault u_t_laterPlace u_t_newClasses u_t_newLines u_t_turns u_t_shortest u_t_orders u_t_rowNumber u_t_ties (0 : Int32) s_t_n r_t_child r_t_childBack r_t_childRow r_t_classes r_t_weds r_t_wedsBack r_t_wedsRow) H := hP
  have hD : va_D A (w_X12_halves cI cB cZ a_t aX u_t_ahead u_t_length u_t_begins u_t_sort u_t_value u_t_letters u_t_word u_t_wrongAt u_t_laterFault u_t_laterPlace u_t_newClasses u_t_newLines u_t_turns u_t_shortest u_t_orders u_t_rowNumber u_t_ties (0 : Int32) s_t_n r_t_child r_t_childBack r_t_childRow r_t_classes r_t_weds r_t_wedsBack r_t_wedsRow) := hD
  refine lv_iload_n hx hb dX12_halves_5 rfl (lv_at hl 1 rfl) ?_
  refine lv_iconst (v := (0 : Int32)) hx hb dX12_halves_6 (by decide) ?_
  refine lv_iconst (v := (2 : Int32)) hx hb dX12_halves_7 (by decide) ?_
  obtain ⟨r1, hgr1, hf⟩ := jM_some hf
  refine jcS_i0 (As := [.int x1, .int (0 : Int32), .int (2 : Int32)]) (rest := []) ⟨hx, hb, hml, hown, hts⟩ hK hN hA (c_X12_in l G D cI cB cZ x1 (0 : Int32) (2 : Int32) hgr1) (va_cwS 3 hts (wG_S k_ml_X12_231 k_st_X12_in k_in_X12 k_co_X12_in) rfl rfl rfl hd_X12_in.2 ⟨Nat.le_of_ble_eq_true rfl, Nat.le_of_ble_eq_true rfl⟩) hP hD hS [] rfl rfl rfl rfl hl.1 rfl (Nat.le_of_ble_eq_true rfl) dX12_halves_8 ⟨Nat.le_of_ble_eq_true rfl, Nat.le_of_ble_eq_true rfl⟩ (fun H locs hP hD hS => ?_)
  refine lv_if_eq (tgt := 21) hx hb dX12_halves_11 (by decide) (fun c2 => ?_) (fun c2 => ?_)
  · replace hf := jif_t c2 hf
    refine lv_iconst (v := (-1 : Int32)) hx hb dX12_halves_21 (by decide) ?_
    have ho := Option.some.inj hf
    subst ho
    exact K _ _ _ _ hP hS dX12_halves_22
  · replace hf := jif_f c2 hf
    refine lv_aload_n hx hb dX12_halves_14 rfl (lv_at hl 0 rfl) ?_
    obtain ⟨r3, hgr3, hf⟩ := jM_some hf
    refine jcV_i (As := []) (rest := []) ⟨hx, hb, hml, hown, hts⟩ hK hN hA (c_X12_bring l G D cI cB cZ a_t aX (0 : Int32) u_t_ahead u_t_length u_t_begins u_t_sort u_t_value u_t_letters u_t_word u_t_wrongAt u_t_laterFault u_t_laterPlace u_t_newClasses u_t_newLines u_t_turns u_t_shortest u_t_orders u_t_rowNumber u_t_ties r_t_childRow r_t_classes r_t_wedsRow s_t_n r_t_child r_t_childBack r_t_weds r_t_wedsBack hgr3) (cwV 0 hts (wG_V k_ml_X12_338 k_im_X12_bring k_se_X12_bring k_in_X12 k_co_X12_bring) rfl rfl rfl hd_X12_bring ⟨Nat.le_of_ble_eq_true rfl, Nat.le_of_ble_eq_true rfl⟩) hP hD hS [0, 1, 2, 3, 4, 5, 6, 7] rfl rfl rfl (ci := 11) rfl 0 rfl rfl rfl hl.1 rfl (Nat.le_of_ble_eq_true rfl) dX12_halves_15 ⟨Nat.le_of_ble_eq_true rfl, Nat.le_of_ble_eq_true rfl⟩ (fun H locs hP hD hS => ?_)
    have hP : va_P D vwCl (w_X12_halves cI cB cZ a_t aX u_t_ahead u_t_length u_t_begins u_t_sort u_t_value u_t_letters u_t_word u_t_wrongAt u_t_laterFault u_t_laterPlace u_t_newClasses u_t_newLines u_t_turns u_t_shortest u_t_orders u_t_rowNumber u_t_ties (0 : Int32) r3.2.1 r3.2.2.1 r3.2.2.2.1 r_t_childRow r_t_classes r3.2.2.2.2.1 r3.2.2.2.2.2 r_t_wedsRow) H := hP
    have hD : va_D A (w_X12_halves cI cB cZ a_t aX u_t_ahead u_t_length u_t_begins u_t_sort u_t_value u_t_letters u_t_word u_t_wrongAt u_t_laterFault u_t_laterPlace u_t_newClasses u_t_newLines u_t_turns u_t_shortest u_t_orders u_t_rowNumber u_t_ties (0 : Int32) r3.2.1 r3.2.2.1 r3.2.2.2.1 r_t_childRow r_t_classes r3.2.2.2.2.1 r3.2.2.2.2.2 r_t_wedsRow) := hD
    refine lv_if_ne (tgt := 23) hx hb dX12_halves_18 (by decide) (fun c4 => ?_) (fun c4 => ?_)
    · replace hf := jif_f c4 hf
      refine lv_iconst (v := (0 : Int32)) hx hb dX12_halves_23 (by decide) ?_
      refine lv_istore_n (lv' := [(2, .int (0 : Int32)), (0, .ref a_t), (1, .int x1)]) hx hb dX12_halves_24 rfl hl (by decide) rfl (fun ls hl => ?_)
      refine lv_iconst (v := (0 : Int32)) hx hb dX12_halves_25 (by decide) ?_
      refine lv_istore_n (lv' := [(3, .int (0 : Int32)), (2, .int (0 : Int32)), (0, .ref a_t), (1, .int x1)]) hx hb dX12_halves_26 rfl hl (by decide) rfl (fun ls hl => ?_)
      obtain ⟨e9, hg9, hf⟩ := jM_some hf
      refine t_X12_halves_l27 G D cI cB cZ a_t aX u_t_ahead u_t_length u_t_begins u_t_sort u_t_value u_t_letters u_t_word u_t_wrongAt u_t_laterFault u_t_laterPlace u_t_newClasses u_t_newLines u_t_turns u_t_shortest u_t_orders u_t_rowNumber u_t_ties r_t_childRow r_t_classes r_t_wedsRow (0 : Int32) r3.2.1 r3.2.2.1 r3.2.2.2.1 r3.2.2.2.2.1 r3.2.2.2.2.2 x1 C jF (0 : Int32) (0 : Int32) hg9 ?_ _ _ _ hP hD hS (lv_sub hl [2, 3, 1, 0] rfl)
      intro H locs ls hP hD hS hl
      refine lv_iload_n hx hb dX12_halves_60 rfl (lv_at hl 0 rfl) ?_
      have ho := Option.some.inj hf
      subst ho
      exact K _ _ _ _ hP hS dX12_halves_61
    · replace hf := jif_t c4 hf
      refine lv_iconst (v := (-1 : Int32)) hx hb dX12_halves_21 (by decide) ?_
      have ho := Option.some.inj hf
      subst ho
      exact K _ _ _ _ hP hS dX12_halves_22
set_option maxHeartbeats 4000000 in
set_option maxRecDepth 100000 in
theorem c_X12_halves (l : Launch) (G : jGt) (D : va_G) (cI cB cZ : ClassId) (a_t : Nat) (aX : Nat → Nat) (u_t_ahead u_t_length u_t_begins u_t_sort u_t_value u_t_letters : Int32) (u_t_word : Int64) (u_t_wrongAt u_t_laterFault u_t_laterPlace u_t_newClasses u_t_newLines u_t_turns u_t_shortest u_t_orders u_t_rowNumber u_t_ties : Int32) (r_t_childRow r_t_classes r_t_wedsRow : jA) (s_t_code s_t_n : Int32) (r_t_child r_t_childBack r_t_weds r_t_wedsBack : jA) (x1 : Int32) {o : Int32 × Int32 × Int32 × jA × jA × jA × jA} (hf : f_X12_halves r_t_childRow r_t_classes r_t_wedsRow s_t_code s_t_n r_t_child r_t_childBack r_t_weds r_t_wedsBack x1 = some o) : jMi l yX12_halves gX12_halves rX12_halves G D (jT cI cB cZ) [.ref a_t, .int x1] (w_X12_halves cI cB cZ a_t aX u_t_ahead u_t_length u_t_begins u_t_sort u_t_value u_t_letters u_t_word u_t_wrongAt u_t_laterFault u_t_laterPlace u_t_newClasses u_t_newLines u_t_turns u_t_shortest u_t_orders u_t_rowNumber u_t_ties s_t_code s_t_n r_t_child r_t_childBack r_t_childRow r_t_classes r_t_weds r_t_wedsBack r_t_wedsRow) (w_X12_halves cI cB cZ a_t aX u_t_ahead u_t_length u_t_begins u_t_sort u_t_value u_t_letters u_t_word u_t_wrongAt u_t_laterFault u_t_laterPlace u_t_newClasses u_t_newLines u_t_turns u_t_shortest u_t_orders u_t_rowNumber u_t_ties o.2.1 o.2.2.1 o.2.2.2.1 o.2.2.2.2.1 r_t_childRow r_t_classes o.2.2.2.2.2.1 o.2.2.2.2.2.2 r_t_wedsRow) o.1 := by
  refine jmk_i RX12 rfl (by decide +kernel) rfl (Nat.le_of_ble_eq_true rfl) rfl ?_
  intro p e s m args below meth c ls A Q C hP hD hS hl K
  exact t_X12_halves G D cI cB cZ a_t aX u_t_ahead u_t_length u_t_begins u_t_sort u_t_value u_t_letters u_t_word u_t_wrongAt u_t_laterFault u_t_laterPlace u_t_newClasses u_t_newLines u_t_turns u_t_shortest u_t_orders u_t_rowNumber u_t_ties r_t_childRow r_t_classes r_t_wedsRow s_t_code s_t_n r_t_child r_t_childBack r_t_weds r_t_wedsBack x1 C hf K hP hD hS hl
abbrev rX12_half : Room := { frames := 2, cells := 0, slots := 0, locals := 49 }
abbrev gX12_half : List Cond := wG yX12_half cX12_half 5 (some .int)
def w_X12_half (cI cB cZ : ClassId) (a_t : Nat) (aX : Nat → Nat) (u_t_ahead u_t_length u_t_begins u_t_sort u_t_value u_t_letters : Int32) (u_t_word : Int64) (u_t_wrongAt u_t_laterFault u_t_laterPlace u_t_newClasses u_t_newLines u_t_turns u_t_shortest u_t_orders u_t_rowNumber u_t_ties s_t_code s_t_n : Int32) (r_t_child r_t_childBack r_t_childRow r_t_classes r_t_weds r_t_wedsBack r_t_wedsRow : jA) : va_W := [(a_t, .inr (11, (oX12 aX s_t_code s_t_n u_t_ahead u_t_length u_t_begins u_t_sort u_t_value u_t_letters u_t_word u_t_wrongAt u_t_laterFault u_t_laterPlace u_t_newClasses u_t_newLines u_t_turns u_t_shortest u_t_orders u_t_rowNumber u_t_ties))), ((aX 33), .inl (cI, r_t_child.1, .inl r_t_child.2)), ((aX 35), .inl (cI, r_t_childBack.1, .inl r_t_childBack.2)), ((aX 7), .inl (cI, r_t_childRow.1, .inl r_t_childRow.2)), ((aX 5), .inl (cI, r_t_classes.1, .inl r_t_classes.2)), ((aX 32), .inl (cI, r_t_weds.1, .inl r_t_weds.2)), ((aX 34), .inl (cI, r_t_wedsBack.1, .inl r_t_wedsBack.2)), ((aX 6), .inl (cI, r_t_wedsRow.1, .inl r_t_wedsRow.2))]
def f_X12_half_j60 (s_t_code s_t_n : Int32) (r_t_child r_t_childBack r_t_weds r_t_wedsBack : jA) (x1 x2 x3 x4 : Int32) : Option ((Int32 × Int32) ⊕ ((Int32) ⊕ ((Unit)))) :=
  some (Sum.inl (x3, (x4 + 1)))
set_option maxHeartbeats 4000000 in
set_option maxRecDepth 100000 in
theorem t_X12_half_j60 {p : Program} {l : Launch} {e : Env} {s : State} {m : MethodId} {args : Array Value} {below : List Frame} {meth : Method} {c : Code} {A : Nat → Prop} {Q : State → Prop} (G : jGt) (D : va_G) (cI cB cZ : ClassId) (a_t : Nat) (aX : Nat → Nat) (u_t_ahead u_t_length u_t_begins u_t_sort u_t_value u_t_letters : Int32) (u_t_word : Int64) (u_t_wrongAt u_t_laterFault u_t_laterPlace u_t_newClasses u_t_newLines u_t_turns u_t_shortest u_t_orders u_t_rowNumber u_t_ties : Int32) (r_t_childRow r_t_classes r_t_wedsRow : jA) (s_t_code s_t_n : Int32) (r_t_child r_t_childBack r_t_weds r_t_wedsBack : jA) (x1 x2 x3 x4 : Int32) (C : jCx p s m args c cX12_half 5 gX12_half RX12 G D (jT cI cB cZ) A) {o : (Int32 × Int32) ⊕ ((Int32) ⊕ ((Unit)))} (hf : f_X12_half_j60 s_t_code s_t_n r_t_child r_t_childBack r_t_weds r_t_wedsBack x1 x2 x3 x4 = some o) (K : (∀ z, o = Sum.inl z → ∀ (H : Heap) (locs : List Loc) (ls : Array Slot), va_P D vwCl (w_X12_half cI cB cZ a_t aX u_t_ahead u_t_length u_t_begins u_t_sort u_t_value u_t_letters u_t_word u_t_wrongAt u_t_laterFault u_t_laterPlace u_t_newClasses u_t_newLines u_t_turns u_t_shortest u_t_orders u_t_rowNumber u_t_ties s_t_code s_t_n r_t_child r_t_childBack r_t_childRow r_t_classes r_t_weds r_t_wedsBack r_t_wedsRow) H → va_D A (w_X12_half cI cB cZ a_t aX u_t_ahead u_t_length u_t_begins u_t_sort u_t_value u_t_letters u_t_word u_t_wrongAt u_t_laterFault u_t_laterPlace u_t_newClasses u_t_newLines u_t_turns u_t_shortest u_t_orders u_t_rowNumber u_t_ties s_t_code s_t_n r_t_child r_t_childBack r_t_childRow r_t_classes r_t_weds r_t_wedsBack r_t_wedsRow) → va_S A s.heap H locs → lv_has ls 5 [(0, .ref a_t), (1, .int x1), (2, .int x2), (3, .int z.1), (4, .int z.2)] → W p l e rX12_half s m args below meth c H locs 0 0 Q (F0 m 28 ls [])) ∧ (∀ z, o = Sum.inr z → (∀ y0, z = Sum.inl y0 → ∀ (H : Heap) (locs : List Loc) (ls : Array Slot), va_P D vwCl (w_X12_half cI cB cZ a_t aX u_t_ahead u_t_length u_t_begins u_t_sort u_t_value u_t_letters u_t_word u_t_wrongAt u_t_laterFault u_t_laterPlace u_t_newClasses u_t_newLines u_t_turns u_t_shortest u_t_orders u_t_rowNumber u_t_ties s_t_code s_t_n r_t_child r_t_childBack r_t_childRow r_t_classes r_t_weds r_t_wedsBack r_t_wedsRow) H → va_D A (w_X12_half cI cB cZ a_t aX u_t_ahead u_t_length u_t_begins u_t_sort u_t_value u_t_letters u_t_word u_t_wrongAt u_t_laterFault u_t_laterPlace u_t_newClasses u_t_newLines u_t_turns u_t_shortest u_t_orders u_t_rowNumber u_t_ties s_t_code s_t_n r_t_child r_t_childBack r_t_childRow r_t_classes r_t_weds r_t_wedsBack r_t_wedsRow) → va_S A s.heap H locs → lv_has ls 5 [(4, .int y0)] → W p l e rX12_half s m args below meth c H locs 0 0 Q (F0 m 54 ls [])) ∧ (∀ z0, z = Sum.inr z0 → ∀ (H : Heap) (locs : List Loc) (ls : Array Slot), va_P D vwCl (w_X12_half cI cB cZ a_t aX u_t_ahead u_t_length u_t_begins u_t_sort u_t_value u_t_letters u_t_word u_t_wrongAt u_t_laterFault u_t_laterPlace u_t_newClasses u_t_newLines u_t_turns u_t_shortest u_t_orders u_t_rowNumber u_t_ties s_t_code s_t_n r_t_child r_t_childBack r_t_childRow r_t_classes r_t_weds r_t_wedsBack r_t_wedsRow) H → va_D A (w_X12_half cI cB cZ a_t aX u_t_ahead u_t_length u_t_begins u_t_sort u_t_value u_t_letters u_t_word u_t_wrongAt u_t_laterFault u_t_laterPlace u_t_newClasses u_t_newLines u_t_turns u_t_shortest u_t_orders u_t_rowNumber u_t_ties s_t_code s_t_n r_t_child r_t_childBack r_t_childRow r_t_classes r_t_weds r_t_wedsBack r_t_wedsRow) → va_S A s.heap H locs → lv_has ls 5 [] → W p l e rX12_half s m args below meth c H locs 0 0 Q (F0 m 66 ls [])))) {H : Heap} {locs : List Loc} {ls : Array Slot} (hP : va_P D vwCl (w_X12_half cI cB cZ a_t aX u_t_ahead u_t_length u_t_begins u_t_sort u_t_value u_t_letters u_t_word u_t_wrongAt u_t_laterFault u_t_laterPlace u_t_newClasses u_t_newLines u_t_turns u_t_shortest u_t_orders u_t_rowNumber u_t_ties s_t_code s_t_n r_t_child r_t_childBack r_t_childRow r_t_classes r_t_weds r_t_wedsBack r_t_wedsRow) H) (hD : va_D A (w_X12_half cI cB cZ a_t aX u_t_ahead u_t_length u_t_begins u_t_sort u_t_value u_t_letters u_t_word u_t_wrongAt u_t_laterFault u_t_laterPlace u_t_newClasses u_t_newLines u_t_turns u_t_shortest u_t_orders u_t_rowNumber u_t_ties s_t_code s_t_n r_t_child r_t_childBack r_t_childRow r_t_classes r_t_weds r_t_wedsBack r_t_wedsRow)) (hS : va_S A s.heap H locs) (hl : lv_has ls 5 [(0, .ref a_t), (1, .int x1), (2, .int x2), (3, .int x3), (4, .int x4)]) : W p l e rX12_half s m args below meth c H locs 0 0 Q (F0 m 60 ls []) := by
  obtain ⟨⟨hx, hb, hml, hown, hts⟩, hK, hN, hA⟩ := C
  have C : jCx p s m args c cX12_half 5 gX12_half RX12 G D (jT cI cB cZ) A := ⟨⟨hx, hb, hml, hown, hts⟩, hK, hN, hA⟩
  unfold f_X12_half_j60 at hf
  refine lv_iinc (v := (x4 + 1)) (lv' := [(4, .int (x4 + 1)), (0, .ref a_t), (1, .int x1), (2, .int x2), (3, .int x3)]) hx hb dX12_half_60 hl (k := 4) rfl (by first | rfl | decide) (by decide) rfl (fun ls hl => ?_)
  refine lv_goto (tgt := 28) hx hb dX12_half_63 (by decide) ?_
  have ho := Option.some.inj hf
  exact K.1 _ ho.symm _ _ _ hP hD hS (lv_sub hl [1, 2, 3, 4, 0] rfl)
def f_X12_half_b28 (s_t_code s_t_n : Int32) (r_t_child r_t_childBack r_t_weds r_t_wedsBack : jA) (x1 x2 x3 x4 : Int32) : Option ((Int32 × Int32) ⊕ ((Int32) ⊕ ((Unit)))) :=
  if ((1 : Int32) <<< (s_t_n &&& 31)) ≤ x4 then
  some (Sum.inr (Sum.inr ()))
  else
  jM (f_X12_isHalf s_t_n r_t_child r_t_weds r_t_wedsBack x1 x4) fun r6 =>
  if r6 = 0 then
  f_X12_half_j60 s_t_code s_t_n r_t_child r_t_childBack r_t_weds r_t_wedsBack x1 x2 x3 x4
  else
  if x3 = x2 then
  some (Sum.inr (Sum.inl x4))
  else
  f_X12_half_j60 s_t_code s_t_n r_t_child r_t_childBack r_t_weds r_t_wedsBack x1 x2 (x3 + 1) x4
set_option maxHeartbeats 4000000 in
set_option maxRecDepth 100000 in
theorem t_X12_half_b28 {p : Program} {l : Launch} {e : Env} {s : State} {m : MethodId} {args : Array Value} {below : List Frame} {meth : Method} {c : Code} {A : Nat → Prop} {Q : State → Prop} (G : jGt) (D : va_G) (cI cB cZ : ClassId) (a_t : Nat) (aX : Nat → Nat) (u_t_ahead u_t_length u_t_begins u_t_sort u_t_value u_t_letters : Int32) (u_t_word : Int64) (u_t_wrongAt u_t_laterFault u_t_laterPlace u_t_newClasses u_t_newLines u_t_turns u_t_shortest u_t_orders u_t_rowNumber u_t_ties : Int32) (r_t_childRow r_t_classes r_t_wedsRow : jA) (s_t_code s_t_n : Int32) (r_t_child r_t_childBack r_t_weds r_t_wedsBack : jA) (x1 x2 x3 x4 : Int32) (C : jCx p s m args c cX12_half 5 gX12_half RX12 G D (jT cI cB cZ) A) {o : (Int32 × Int32) ⊕ ((Int32) ⊕ ((Unit)))} (hf : f_X12_half_b28 s_t_code s_t_n r_t_child r_t_childBack r_t_weds r_t_wedsBack x1 x2 x3 x4 = some o) (K : (∀ z, o = Sum.inl z → ∀ (H : Heap) (locs : List Loc) (ls : Array Slot), va_P D vwCl (w_X12_half cI cB cZ a_t aX u_t_ahead u_t_length u_t_begins u_t_sort u_t_value u_t_letters u_t_word u_t_wrongAt u_t_laterFault u_t_laterPlace u_t_newClasses u_t_newLines u_t_turns u_t_shortest u_t_orders u_t_rowNumber u_t_ties s_t_code s_t_n r_t_child r_t_childBack r_t_childRow r_t_classes r_t_weds r_t_wedsBack r_t_wedsRow) H → va_D A (w_X12_half cI cB cZ a_t aX u_t_ahead u_t_length u_t_begins u_t_sort u_t_value u_t_letters u_t_word u_t_wrongAt u_t_laterFault u_t_laterPlace u_t_newClasses u_t_newLines u_t_turns u_t_shortest u_t_orders u_t_rowNumber u_t_ties s_t_code s_t_n r_t_child r_t_childBack r_t_childRow r_t_classes r_t_weds r_t_wedsBack r_t_wedsRow) → va_S A s.heap H locs → lv_has ls 5 [(0, .ref a_t), (1, .int x1), (2, .int x2), (3, .int z.1), (4, .int z.2)] → W p l e rX12_half s m args below meth c H locs 0 0 Q (F0 m 28 ls [])) ∧ (∀ z, o = Sum.inr z → (∀ y0, z = Sum.inl y0 → ∀ (H : Heap) (locs : List Loc) (ls : Array Slot), va_P D vwCl (w_X12_half cI cB cZ a_t aX u_t_ahead u_t_length u_t_begins u_t_sort u_t_value u_t_letters u_t_word u_t_wrongAt u_t_laterFault u_t_laterPlace u_t_newClasses u_t_newLines u_t_turns u_t_shortest u_t_orders u_t_rowNumber u_t_ties s_t_code s_t_n r_t_child r_t_childBack r_t_childRow r_t_classes r_t_weds r_t_wedsBack r_t_wedsRow) H → va_D A (w_X12_half cI cB cZ a_t aX u_t_ahead u_t_length u_t_begins u_t_sort u_t_value u_t_letters u_t_word u_t_wrongAt u_t_laterFault u_t_laterPlace u_t_newClasses u_t_newLines u_t_turns u_t_shortest u_t_orders u_t_rowNumber u_t_ties s_t_code s_t_n r_t_child r_t_childBack r_t_childRow r_t_classes r_t_weds r_t_wedsBack r_t_wedsRow) → va_S A s.heap H locs → lv_has ls 5 [(4, .int y0)] → W p l e rX12_half s m args below meth c H locs 0 0 Q (F0 m 54 ls [])) ∧ (∀ z0, z = Sum.inr z0 → ∀ (H : Heap) (locs : List Loc) (ls : Array Slot), va_P D vwCl (w_X12_half cI cB cZ a_t aX u_t_ahead u_t_length u_t_begins u_t_sort u_t_value u_t_letters u_t_word u_t_wrongAt u_t_laterFault u_t_laterPlace u_t_newClasses u_t_newLines u_t_turns u_t_shortest u_t_orders u_t_rowNumber u_t_ties s_t_code s_t_n r_t_child r_t_childBack r_t_childRow r_t_classes r_t_weds r_t_wedsBack r_t_wedsRow) H → va_D A (w_X12_half cI cB cZ a_t aX u_t_ahead u_t_length u_t_begins u_t_sort u_t_value u_t_letters u_t_word u_t_wrongAt u_t_laterFault u_t_laterPlace u_t_newClasses u_t_newLines u_t_turns u_t_shortest u_t_orders u_t_rowNumber u_t_ties s_t_code s_t_n r_t_child r_t_childBack r_t_childRow r_t_classes r_t_weds r_t_wedsBack r_t_wedsRow) → va_S A s.heap H locs → lv_has ls 5 [] → W p l e rX12_half s m args below meth c H locs 0 0 Q (F0 m 66 ls [])))) {H : Heap} {locs : List Loc} {ls : Array Slot} (hP : va_P D vwCl (w_X12_half cI cB cZ a_t aX u_t_ahead u_t_length u_t_begins u_t_sort u_t_value u_t_letters u_t_word u_t_wrongAt u_t_laterFault u_t_laterPlace u_t_newClasses u_t_newLines u_t_turns u_t_shortest u_t_orders u_t_rowNumber u_t_ties s_t_code s_t_n r_t_child r_t_childBack r_t_childRow r_t_classes r_t_weds r_t_wedsBack r_t_wedsRow) H) (hD : va_D A (w_X12_half cI cB cZ a_t aX u_t_ahead u_t_length u_t_begins u_t_sort u_t_value u_t_letters u_t_word u_t_wrongAt u_t_laterFault u_t_laterPlace u_t_newClasses u_t_newLines u_t_turns u_t_shortest u_t_orders u_t_rowNumber u_t_ties s_t_code s_t_n r_t_child r_t_childBack r_t_childRow r_t_classes r_t_weds r_t_wedsBack r_t_wedsRow)) (hS : va_S A s.heap H locs) (hl : lv_has ls 5 [(0, .ref a_t), (1, .int x1), (2, .int x2), (3, .int x3), (4, .int x4)]) : W p l e rX12_half s m args below meth c H locs 0 0 Q (F0 m 28 ls []) := by
  obtain ⟨⟨hx, hb, hml, hown, hts⟩, hK, hN, hA⟩ := C
  have C : jCx p s m args c cX12_half 5 gX12_half RX12 G D (jT cI cB cZ) A := ⟨⟨hx, hb, hml, hown, hts⟩, hK, hN, hA⟩
  unfold f_X12_half_b28 at hf
  refine lv_iload hx hb dX12_half_28 (lv_at hl 4 rfl) ?_
  refine lv_iconst (v := (1 : Int32)) hx hb dX12_half_30 (by decide) ?_
  refine lv_aload_n hx hb dX12_half_31 rfl (lv_at hl 0 rfl) ?_
  refine va_get (D := D) (ci := 11) (v := .int s_t_n) (C := RX12) (T := TX12) (N := 74) hx hb hts iw_X12 hown hK hP 0 rfl rfl 31 (by decide) (hts _ (wG_in k_fl_X12_189 rfl)) (fun _ h9 => h9) rfl dX12_half_32 ?_
  refine lv_ishl hx hb dX12_half_35 ?_
  refine lv_icmp_ge (tgt := 66) hx hb dX12_half_36 (by decide) (fun c5 => ?_) (fun c5 => ?_)
  · replace hf := jif_t c5 hf
    have ho := Option.some.inj hf
    exact ((K.2 _ ho.symm).2 _ rfl) _ _ _ hP hD hS (lv_sub hl [] rfl)
  · replace hf := jif_f c5 hf
    refine lv_aload_n hx hb dX12_half_39 rfl (lv_at hl 0 rfl) ?_
    refine lv_iload_n hx hb dX12_half_40 rfl (lv_at hl 1 rfl) ?_
    refine lv_iload hx hb dX12_half_41 (lv_at hl 4 rfl) ?_
    obtain ⟨r6, hgr6, hf⟩ := jM_some hf
    refine jcV_i0 (As := [.int x1, .int x4]) (rest := []) ⟨hx, hb, hml, hown, hts⟩ hK hN hA (c_X12_isHalf l G D cI cB cZ a_t aX s_t_code u_t_ahead u_t_length u_t_begins u_t_sort u_t_value u_t_letters u_t_word u_t_wrongAt u_t_laterFault u_t_laterPlace u_t_newClasses u_t_newLines u_t_turns u_t_shortest u_t_orders u_t_rowNumber u_t_ties s_t_n r_t_child r_t_weds r_t_wedsBack x1 x4 hgr6) (cwV 2 hts (wG_V k_ml_X12_384 k_im_X12_isHalf k_se_X12_isHalf k_in_X12 k_co_X12_isHalf) rfl rfl rfl hd_X12_isHalf ⟨Nat.le_of_ble_eq_true rfl, Nat.le_of_ble_eq_true rfl⟩) hP hD hS [0, 1, 5, 6] rfl rfl rfl (ci := 11) rfl 0 rfl rfl rfl hl.1 rfl (Nat.le_of_ble_eq_true rfl) dX12_half_43 ⟨Nat.le_of_ble_eq_true rfl, Nat.le_of_ble_eq_true rfl⟩ (fun H locs hP hD hS => ?_)
    refine lv_if_eq (tgt := 60) hx hb dX12_half_46 (by decide) (fun c7 => ?_) (fun c7 => ?_)
    · replace hf := jif_t c7 hf
      exact t_X12_half_j60 G D cI cB cZ a_t aX u_t_ahead u_t_length u_t_begins u_t_sort u_t_value u_t_letters u_t_word u_t_wrongAt u_t_laterFault u_t_laterPlace u_t_newClasses u_t_newLines u_t_turns u_t_shortest u_t_orders u_t_rowNumber u_t_ties r_t_childRow r_t_classes r_t_wedsRow s_t_code s_t_n r_t_child r_t_childBack r_t_weds r_t_wedsBack x1 x2 x3 x4 C hf K hP hD hS (lv_sub hl [0, 1, 2, 3, 4] rfl)
    · replace hf := jif_f c7 hf
      refine lv_iload_n hx hb dX12_half_49 rfl (lv_at hl 3 rfl) ?_
      refine lv_iload_n hx hb dX12_half_50 rfl (lv_at hl 2 rfl) ?_
      refine lv_icmp_ne (tgt := 57) hx hb dX12_half_51 (by decide) (fun c8 => ?_) (fun c8 => ?_)
      · replace hf := jif_f c8 hf
        refine lv_iinc (v := (x3 + 1)) (lv' := [(3, .int (x3 + 1)), (0, .ref a_t), (1, .int x1), (2, .int x2), (4, .int x4)]) hx hb dX12_half_57 hl (k := 3) rfl (by first | rfl | decide) (by decide) rfl (fun ls hl => ?_)
        exact t_X12_half_j60 G D cI cB cZ a_t aX u_t_ahead u_t_length u_t_begins u_t_sort u_t_value u_t_letters u_t_word u_t_wrongAt u_t_laterFault u_t_laterPlace u_t_newClasses u_t_newLines u_t_turns u_t_shortest u_t_orders u_t_rowNumber u_t_ties r_t_childRow r_t_classes r_t_wedsRow s_t_code s_t_n r_t_child r_t_childBack r_t_weds r_t_wedsBack x1 x2 (x3 + 1) x4 C hf K hP hD hS (lv_sub hl [1, 2, 3, 0, 4] rfl)
      · replace hf := jif_t c8 hf
        have ho := Option.some.inj hf
        exact ((K.2 _ ho.symm).1 _ rfl) _ _ _ hP hD hS (lv_sub hl [4] rfl)
def f_X12_half_l28 (s_t_code s_t_n : Int32) (r_t_child r_t_childBack r_t_weds r_t_wedsBack : jA) (x1 x2 x3 x4 : Int32) : Option ((Int32) ⊕ ((Unit))) :=
  jI (fun z => f_X12_half_b28 s_t_code s_t_n r_t_child r_t_childBack r_t_weds r_t_wedsBack x1 x2 z.1 z.2) jF (x3, x4)
set_option maxHeartbeats 4000000 in
set_option maxRecDepth 100000 in
theorem t_X12_half_l28 {p : Program} {l : Launch} {e : Env} {s : State} {m : MethodId} {args : Array Value} {below : List Frame} {meth : Method} {c : Code} {A : Nat → Prop} {Q : State → Prop} (G : jGt) (D : va_G) (cI cB cZ : ClassId) (a_t : Nat) (aX : Nat → Nat) (u_t_ahead u_t_length u_t_begins u_t_sort u_t_value u_t_letters : Int32) (u_t_word : Int64) (u_t_wrongAt u_t_laterFault u_t_laterPlace u_t_newClasses u_t_newLines u_t_turns u_t_shortest u_t_orders u_t_rowNumber u_t_ties : Int32) (r_t_childRow r_t_classes r_t_wedsRow : jA) (s_t_code s_t_n : Int32) (r_t_child r_t_childBack r_t_weds r_t_wedsBack : jA) (x1 x2 : Int32) (C : jCx p s m args c cX12_half 5 gX12_half RX12 G D (jT cI cB cZ) A) : ∀ (n : Nat) (x3 x4 : Int32) {eo : (Int32) ⊕ ((Unit))}, jI (fun z => f_X12_half_b28 s_t_code s_t_n r_t_child r_t_childBack r_t_weds r_t_wedsBack x1 x2 z.1 z.2) n (x3, x4) = some eo → ((∀ y0, eo = Sum.inl y0 → ∀ (H : Heap) (locs : List Loc) (ls : Array Slot), va_P D vwCl (w_X12_half cI cB cZ a_t aX u_t_ahead u_t_length u_t_begins u_t_sort u_t_value u_t_letters u_t_word u_t_wrongAt u_t_laterFault u_t_laterPlace u_t_newClasses u_t_newLines u_t_turns u_t_shortest u_t_orders u_t_rowNumber u_t_ties s_t_code s_t_n r_t_child r_t_childBack r_t_childRow r_t_classes r_t_weds r_t_wedsBack r_t_wedsRow) H → va_D A (w_X12_half cI cB cZ a_t aX u_t_ahead u_t_length u_t_begins u_t_sort u_t_value u_t_letters u_t_word u_t_wrongAt u_t_laterFault u_t_laterPlace u_t_newClasses u_t_newLines u_t_turns u_t_shortest u_t_orders u_t_rowNumber u_t_ties s_t_code s_t_n r_t_child r_t_childBack r_t_childRow r_t_classes r_t_weds r_t_wedsBack r_t_wedsRow) → va_S A s.heap H locs → lv_has ls 5 [(4, .int y0)] → W p l e rX12_half s m args below meth c H locs 0 0 Q (F0 m 54 ls [])) ∧ (∀ z0, eo = Sum.inr z0 → ∀ (H : Heap) (locs : List Loc) (ls : Array Slot), va_P D vwCl (w_X12_half cI cB cZ a_t aX u_t_ahead u_t_length u_t_begins u_t_sort u_t_value u_t_letters u_t_word u_t_wrongAt u_t_laterFault u_t_laterPlace u_t_newClasses u_t_newLines u_t_turns u_t_shortest u_t_orders u_t_rowNumber u_t_ties s_t_code s_t_n r_t_child r_t_childBack r_t_childRow r_t_classes r_t_weds r_t_wedsBack r_t_wedsRow) H → va_D A (w_X12_half cI cB cZ a_t aX u_t_ahead u_t_length u_t_begins u_t_sort u_t_value u_t_letters u_t_word u_t_wrongAt u_t_laterFault u_t_laterPlace u_t_newClasses u_t_newLines u_t_turns u_t_shortest u_t_orders u_t_rowNumber u_t_ties s_t_code s_t_n r_t_child r_t_childBack r_t_childRow r_t_classes r_t_weds r_t_wedsBack r_t_wedsRow) → va_S A s.heap H locs → lv_has ls 5 [] → W p l e rX12_half s m args below meth c H locs 0 0 Q (F0 m 66 ls []))) → ∀ (H : Heap) (locs : List Loc) (ls : Array Slot), va_P D vwCl (w_X12_half cI cB cZ a_t aX u_t_ahead u_t_length u_t_begins u_t_sort u_t_value u_t_letters u_t_word u_t_wrongAt u_t_laterFault u_t_laterPlace u_t_newClasses u_t_newLines u_t_turns u_t_shortest u_t_orders u_t_rowNumber u_t_ties s_t_code s_t_n r_t_child r_t_childBack r_t_childRow r_t_classes r_t_weds r_t_wedsBack r_t_wedsRow) H → va_D A (w_X12_half cI cB cZ a_t aX u_t_ahead u_t_length u_t_begins u_t_sort u_t_value u_t_letters u_t_word u_t_wrongAt u_t_laterFault u_t_laterPlace u_t_newClasses u_t_newLines u_t_turns u_t_shortest u_t_orders u_t_rowNumber u_t_ties s_t_code s_t_n r_t_child r_t_childBack r_t_childRow r_t_classes r_t_weds r_t_wedsBack r_t_wedsRow) → va_S A s.heap H locs → lv_has ls 5 [(0, .ref a_t), (1, .int x1), (2, .int x2), (3, .int x3), (4, .int x4)] → W p l e rX12_half s m args below meth c H locs 0 0 Q (F0 m 28 ls []) := by
  intro n
  induction n with
  | zero =>
    intro x3 x4 eo hf
    exact (jI_zero hf).elim
  | succ n ih =>
    intro x3 x4 eo hf K H locs ls hP hD hS hl
    obtain ⟨o, hb1, ho⟩ := jI_some hf
    rcases ho with ⟨z, rfl, hf2⟩ | rfl
    · exact t_X12_half_b28 G D cI cB cZ a_t aX u_t_ahead u_t_length u_t_begins u_t_sort u_t_value u_t_letters u_t_word u_t_wrongAt u_t_laterFault u_t_laterPlace u_t_newClasses u_t_newLines u_t_turns u_t_shortest u_t_orders u_t_rowNumber u_t_ties r_t_childRow r_t_classes r_t_wedsRow s_t_code s_t_n r_t_child r_t_childBack r_t_weds r_t_wedsBack x1 x2 x3 x4 C hb1 ⟨fun z2 hz H locs ls hP hD hS hl => by cases hz; exact ih z.1 z.2 hf2 K H locs ls hP hD hS hl, fun z2 hz => by cases hz⟩ hP hD hS hl
    · exact t_X12_half_b28 G D cI cB cZ a_t aX u_t_ahead u_t_length u_t_begins u_t_sort u_t_value u_t_letters u_t_word u_t_wrongAt u_t_laterFault u_t_laterPlace u_t_newClasses u_t_newLines u_t_turns u_t_shortest u_t_orders u_t_rowNumber u_t_ties r_t_childRow r_t_classes r_t_wedsRow s_t_code s_t_n r_t_child r_t_childBack r_t_weds r_t_wedsBack x1 x2 x3 x4 C hb1 ⟨fun z2 hz => (by cases hz), fun z2 hz => by cases hz; exact K⟩ hP hD hS hl
def f_X12_half (r_t_childRow r_t_classes r_t_wedsRow : jA) (s_t_code s_t_n : Int32) (r_t_child r_t_childBack r_t_weds r_t_wedsBack : jA) (x1 x2 : Int32) : Option (Int32 × Int32 × Int32 × jA × jA × jA × jA) :=
  jM (f_X12_in x1 (0 : Int32) (2 : Int32)) fun r1 =>
  if r1 = 0 then
  some ((-1 : Int32), (0 : Int32), s_t_n, r_t_child, r_t_childBack, r_t_weds, r_t_wedsBack)
  else
  jM (f_X12_bring r_t_childRow r_t_classes r_t_wedsRow s_t_n r_t_child r_t_childBack r_t_weds r_t_wedsBack) fun r3 =>
  if r3.1 = 0 then
  some ((-1 : Int32), (0 : Int32), r3.2.1, r3.2.2.1, r3.2.2.2.1, r3.2.2.2.2.1, r3.2.2.2.2.2)
  else
  jM (f_X12_half_l28 (0 : Int32) r3.2.1 r3.2.2.1 r3.2.2.2.1 r3.2.2.2.2.1 r3.2.2.2.2.2 x1 x2 (0 : Int32) (0 : Int32)) fun e9 =>
  Sum.elim (fun y10 =>
  some (y10, (0 : Int32), r3.2.1, r3.2.2.1, r3.2.2.2.1, r3.2.2.2.2.1, r3.2.2.2.2.2)) (fun w11 =>
  some ((-1 : Int32), (0 : Int32), r3.2.1, r3.2.2.1, r3.2.2.2.1, r3.2.2.2.2.1, r3.2.2.2.2.2)) e9
set_option maxHeartbeats 4000000 in
set_option maxRecDepth 100000 in
theorem t_X12_half {p : Program} {l : Launch} {e : Env} {s : State} {m : MethodId} {args : Array Value} {below : List Frame} {meth : Method} {c : Code} {A : Nat → Prop} {Q : State → Prop} (G : jGt) (D : va_G) (cI cB cZ : ClassId) (a_t : Nat) (aX : Nat → Nat) (u_t_ahead u_t_length u_t_begins u_t_sort u_t_value u_t_letters : Int32) (u_t_word : Int64) (u_t_wrongAt u_t_laterFault u_t_laterPlace u_t_newClasses u_t_newLines u_t_turns u_t_shortest u_t_orders u_t_rowNumber u_t_ties : Int32) (r_t_childRow r_t_classes r_t_wedsRow : jA) (s_t_code s_t_n : Int32) (r_t_child r_t_childBack r_t_weds r_t_wedsBack : jA) (x1 x2 : Int32) (C : jCx p s m args c cX12_half 5 gX12_half RX12 G D (jT cI cB cZ) A) {o : Int32 × Int32 × Int32 × jA × jA × jA × jA} (hf : f_X12_half r_t_childRow r_t_classes r_t_wedsRow s_t_code s_t_n r_t_child r_t_childBack r_t_weds r_t_wedsBack x1 x2 = some o) (K : ∀ (H : Heap) (locs : List Loc) (pc : Nat) (ls : Array Slot), va_P D vwCl (w_X12_half cI cB cZ a_t aX u_t_ahead u_t_length u_t_begins u_t_sort u_t_value u_t_letters u_t_word u_t_wrongAt u_t_laterFault u_t_laterPlace u_t_newClasses u_t_newLines u_t_turns u_t_shortest u_t_orders u_t_rowNumber u_t_ties o.2.1 o.2.2.1 o.2.2.2.1 o.2.2.2.2.1 r_t_childRow r_t_classes o.2.2.2.2.2.1 o.2.2.2.2.2.2 r_t_wedsRow) H → va_S A s.heap H locs → decode cX12_half pc = .ok (.ireturn, 1) → W p l e rX12_half s m args below meth c H locs 0 0 Q (F0 m pc ls [.int o.1])) {H : Heap} {locs : List Loc} {ls : Array Slot} (hP : va_P D vwCl (w_X12_half cI cB cZ a_t aX u_t_ahead u_t_length u_t_begins u_t_sort u_t_value u_t_letters u_t_word u_t_wrongAt u_t_laterFault u_t_laterPlace u_t_newClasses u_t_newLines u_t_turns u_t_shortest u_t_orders u_t_rowNumber u_t_ties s_t_code s_t_n r_t_child r_t_childBack r_t_childRow r_t_classes r_t_weds r_t_wedsBack r_t_wedsRow) H) (hD : va_D A (w_X12_half cI cB cZ a_t aX u_t_ahead u_t_length u_t_begins u_t_sort u_t_value u_t_letters u_t_word u_t_wrongAt u_t_laterFault u_t_laterPlace u_t_newClasses u_t_newLines u_t_turns u_t_shortest u_t_orders u_t_rowNumber u_t_ties s_t_code s_t_n r_t_child r_t_childBack r_t_childRow r_t_classes r_t_weds r_t_wedsBack r_t_wedsRow)) (hS : va_S A s.heap H locs) (hl : lv_has ls 5 [(0, .ref a_t), (1, .int x1), (2, .int x2)]) : W p l e rX12_half s m args below meth c H locs 0 0 Q (F0 m 0 ls []) := by
  obtain ⟨⟨hx, hb, hml, hown, hts⟩, hK, hN, hA⟩ := C
  have C : jCx p s m args c cX12_half 5 gX12_half RX12 G D (jT cI cB cZ) A := ⟨⟨hx, hb, hml, hown, hts⟩, hK, hN, hA⟩
  unfold f_X12_half at hf
  refine lv_aload_n hx hb dX12_half_0 rfl (lv_at hl 0 rfl) ?_
  refine lv_iconst (v := (0 : Int32)) hx hb dX12_half_1 (by decide) ?_
  refine va_put (D := D) (ci := 11) (v := .int (0 : Int32)) (ty := .int) (C := RX12) (T := TX12) (N := 74) hx hb hts iw_X12 tyX12 tyX12_ok nmX12 hown hK hP hD hS 0 rfl rfl 0 (by decide) (hts _ (wG_in k_fl_X12_177 rfl)) (fun _ h9 => h9) rfl (tyX12_ok 0 (by decide)) rfl rfl (Nat.le_of_ble_eq_true rfl) dX12_half_2 (fun H locs hP hD hS => ?_)
  have hP : va_P D vwCl (w_X12_half cI cB cZ a_t aX u_t_ahead u_t_length u_t_begins u_t_sort u_t_value u_t_letters u_t_word u_t_wrongAt u_t_laterFault u_t_laterPlace u_t_newClasses u_t_newLines u_t_turns u_t_shortest u_t_orders u_t_rowNumber u_t_ties (0 : Int32) s_t_n r_t_child r_t_childBack r_t_childRow r_t_classes r_t_weds r_t_wedsBack r_t_wedsRow) H := hP
  have hD : va_D A (w_X12_half cI cB cZ a_t aX u_t_ahead u_t_length u_t_begins u_t_sort u_t_value u_t_letters u_t_word u_t_wrongAt u_t_laterFault u_t_laterPlace u_t_newClasses u_t_newLines u_t_turns u_t_shortest u_t_orders u_t_rowNumber u_t_ties (0 : Int32) s_t_n r_t_child r_t_childBack r_t_childRow r_t_classes r_t_weds r_t_wedsBack r_t_wedsRow) := hD
  refine lv_iload_n hx hb dX12_half_5 rfl (lv_at hl 1 rfl) ?_
  refine lv_iconst (v := (0 : Int32)) hx hb dX12_half_6 (by decide) ?_
  refine lv_iconst (v := (2 : Int32)) hx hb dX12_half_7 (by decide) ?_
  obtain ⟨r1, hgr1, hf⟩ := jM_some hf
  refine jcS_i0 (As := [.int x1, .int (0 : Int32), .int (2 : Int32)]) (rest := []) ⟨hx, hb, hml, hown, hts⟩ hK hN hA (c_X12_in l G D cI cB cZ x1 (0 : Int32) (2 : Int32) hgr1) (va_cwS 3 hts (wG_S k_ml_X12_231 k_st_X12_in k_in_X12 k_co_X12_in) rfl rfl rfl hd_X12_in.2 ⟨Nat.le_of_ble_eq_true rfl, Nat.le_of_ble_eq_true rfl⟩) hP hD hS [] rfl rfl rfl rfl hl.1 rfl (Nat.le_of_ble_eq_true rfl) dX12_half_8 ⟨Nat.le_of_ble_eq_true rfl, Nat.le_of_ble_eq_true rfl⟩ (fun H locs hP hD hS => ?_)
  refine lv_if_eq (tgt := 21) hx hb dX12_half_11 (by decide) (fun c2 => ?_) (fun c2 => ?_)
  · replace hf := jif_t c2 hf
    refine lv_iconst (v := (-1 : Int32)) hx hb dX12_half_21 (by decide) ?_
    have ho := Option.some.inj hf
    subst ho
    exact K _ _ _ _ hP hS dX12_half_22
  · replace hf := jif_f c2 hf
    refine lv_aload_n hx hb dX12_half_14 rfl (lv_at hl 0 rfl) ?_
    obtain ⟨r3, hgr3, hf⟩ := jM_some hf
    refine jcV_i (As := []) (rest := []) ⟨hx, hb, hml, hown, hts⟩ hK hN hA (c_X12_bring l G D cI cB cZ a_t aX (0 : Int32) u_t_ahead u_t_length u_t_begins u_t_sort u_t_value u_t_letters u_t_word u_t_wrongAt u_t_laterFault u_t_laterPlace u_t_newClasses u_t_newLines u_t_turns u_t_shortest u_t_orders u_t_rowNumber u_t_ties r_t_childRow r_t_classes r_t_wedsRow s_t_n r_t_child r_t_childBack r_t_weds r_t_wedsBack hgr3) (cwV 0 hts (wG_V k_ml_X12_338 k_im_X12_bring k_se_X12_bring k_in_X12 k_co_X12_bring) rfl rfl rfl hd_X12_bring ⟨Nat.le_of_ble_eq_true rfl, Nat.le_of_ble_eq_true rfl⟩) hP hD hS [0, 1, 2, 3, 4, 5, 6, 7] rfl rfl rfl (ci := 11) rfl 0 rfl rfl rfl hl.1 rfl (Nat.le_of_ble_eq_true rfl) dX12_half_15 ⟨Nat.le_of_ble_eq_true rfl, Nat.le_of_ble_eq_true rfl⟩ (fun H locs hP hD hS => ?_)
    have hP : va_P D vwCl (w_X12_half cI cB cZ a_t aX u_t_ahead u_t_length u_t_begins u_t_sort u_t_value u_t_letters u_t_word u_t_wrongAt u_t_laterFault u_t_laterPlace u_t_newClasses u_t_newLines u_t_turns u_t_shortest u_t_orders u_t_rowNumber u_t_ties (0 : Int32) r3.2.1 r3.2.2.1 r3.2.2.2.1 r_t_childRow r_t_classes r3.2.2.2.2.1 r3.2.2.2.2.2 r_t_wedsRow) H := hP
    have hD : va_D A (w_X12_half cI cB cZ a_t aX u_t_ahead u_t_length u_t_begins u_t_sort u_t_value u_t_letters u_t_word u_t_wrongAt u_t_laterFault u_t_laterPlace u_t_newClasses u_t_newLines u_t_turns u_t_shortest u_t_orders u_t_rowNumber u_t_ties (0 : Int32) r3.2.1 r3.2.2.1 r3.2.2.2.1 r_t_childRow r_t_classes r3.2.2.2.2.1 r3.2.2.2.2.2 r_t_wedsRow) := hD
    refine lv_if_ne (tgt := 23) hx hb dX12_half_18 (by decide) (fun c4 => ?_) (fun c4 => ?_)
    · replace hf := jif_f c4 hf
      refine lv_iconst (v := (0 : Int32)) hx hb dX12_half_23 (by decide) ?_
      refine lv_istore_n (lv' := [(3, .int (0 : Int32)), (0, .ref a_t), (1, .int x1), (2, .int x2)]) hx hb dX12_half_24 rfl hl (by decide) rfl (fun ls hl => ?_)
      refine lv_iconst (v := (0 : Int32)) hx hb dX12_half_25 (by decide) ?_
      refine lv_istore (lv' := [(4, .int (0 : Int32)), (3, .int (0 : Int32)), (0, .ref a_t), (1, .int x1), (2, .int x2)]) hx hb dX12_half_26 hl (by decide) rfl (fun ls hl => ?_)
      obtain ⟨e9, hg9, hf⟩ := jM_some hf
      refine t_X12_half_l28 G D cI cB cZ a_t aX u_t_ahead u_t_length u_t_begins u_t_sort u_t_value u_t_letters u_t_word u_t_wrongAt u_t_laterFault u_t_laterPlace u_t_newClasses u_t_newLines u_t_turns u_t_shortest u_t_orders u_t_rowNumber u_t_ties r_t_childRow r_t_classes r_t_wedsRow (0 : Int32) r3.2.1 r3.2.2.1 r3.2.2.2.1 r3.2.2.2.2.1 r3.2.2.2.2.2 x1 x2 C jF (0 : Int32) (0 : Int32) hg9 ?_ _ _ _ hP hD hS (lv_sub hl [2, 3, 4, 1, 0] rfl)
      refine ⟨fun y10 hy => ?_, fun w11 hy => ?_⟩
      · replace hf := jE_l hy hf
        intro H locs ls hP hD hS hl
        refine lv_iload hx hb dX12_half_54 (lv_at hl 0 rfl) ?_
        have ho := Option.some.inj hf
        subst ho
        exact K _ _ _ _ hP hS dX12_half_56
      · replace hf := jE_r hy hf
        intro H locs ls hP hD hS hl
        refine lv_iconst (v := (-1 : Int32)) hx hb dX12_half_66 (by decide) ?_
        have ho := Option.some.inj hf
        subst ho
        exact K _ _ _ _ hP hS dX12_half_67
    · replace hf := jif_t c4 hf
      refine lv_iconst (v := (-1 : Int32)) hx hb dX12_half_21 (by decide) ?_
      have ho := Option.some.inj hf
      subst ho
      exact K _ _ _ _ hP hS dX12_half_22
set_option maxHeartbeats 4000000 in
set_option maxRecDepth 100000 in
theorem c_X12_half (l : Launch) (G : jGt) (D : va_G) (cI cB cZ : ClassId) (a_t : Nat) (aX : Nat → Nat) (u_t_ahead u_t_length u_t_begins u_t_sort u_t_value u_t_letters : Int32) (u_t_word : Int64) (u_t_wrongAt u_t_laterFault u_t_laterPlace u_t_newClasses u_t_newLines u_t_turns u_t_shortest u_t_orders u_t_rowNumber u_t_ties : Int32) (r_t_childRow r_t_classes r_t_wedsRow : jA) (s_t_code s_t_n : Int32) (r_t_child r_t_childBack r_t_weds r_t_wedsBack : jA) (x1 x2 : Int32) {o : Int32 × Int32 × Int32 × jA × jA × jA × jA} (hf : f_X12_half r_t_childRow r_t_classes r_t_wedsRow s_t_code s_t_n r_t_child r_t_childBack r_t_weds r_t_wedsBack x1 x2 = some o) : jMi l yX12_half gX12_half rX12_half G D (jT cI cB cZ) [.ref a_t, .int x1, .int x2] (w_X12_half cI cB cZ a_t aX u_t_ahead u_t_length u_t_begins u_t_sort u_t_value u_t_letters u_t_word u_t_wrongAt u_t_laterFault u_t_laterPlace u_t_newClasses u_t_newLines u_t_turns u_t_shortest u_t_orders u_t_rowNumber u_t_ties s_t_code s_t_n r_t_child r_t_childBack r_t_childRow r_t_classes r_t_weds r_t_wedsBack r_t_wedsRow) (w_X12_half cI cB cZ a_t aX u_t_ahead u_t_length u_t_begins u_t_sort u_t_value u_t_letters u_t_word u_t_wrongAt u_t_laterFault u_t_laterPlace u_t_newClasses u_t_newLines u_t_turns u_t_shortest u_t_orders u_t_rowNumber u_t_ties o.2.1 o.2.2.1 o.2.2.2.1 o.2.2.2.2.1 r_t_childRow r_t_classes o.2.2.2.2.2.1 o.2.2.2.2.2.2 r_t_wedsRow) o.1 := by
  refine jmk_i RX12 rfl (by decide +kernel) rfl (Nat.le_of_ble_eq_true rfl) rfl ?_
  intro p e s m args below meth c ls A Q C hP hD hS hl K
  exact t_X12_half G D cI cB cZ a_t aX u_t_ahead u_t_length u_t_begins u_t_sort u_t_value u_t_letters u_t_word u_t_wrongAt u_t_laterFault u_t_laterPlace u_t_newClasses u_t_newLines u_t_turns u_t_shortest u_t_orders u_t_rowNumber u_t_ties r_t_childRow r_t_classes r_t_wedsRow s_t_code s_t_n r_t_child r_t_childBack r_t_weds r_t_wedsBack x1 x2 C hf K hP hD hS hl

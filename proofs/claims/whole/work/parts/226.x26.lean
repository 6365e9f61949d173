abbrev rX12_systems : Room := { frames := 7, cells := 0, slots := 0, locals := 169 }
abbrev gX12_systems : List Cond := wG yX12_systems cX12_systems 2 (some .int)
def w_X12_systems (cI cB cZ : ClassId) (a_t : Nat) (aX : Nat → Nat) (u_t_ahead u_t_length u_t_begins u_t_sort u_t_value u_t_letters : Int32) (u_t_word : Int64) (u_t_wrongAt u_t_laterFault u_t_laterPlace u_t_newClasses u_t_newLines u_t_turns u_t_shortest u_t_ties s_t_code s_t_n s_t_orders s_t_rowNumber : Int32) (r_t_child r_t_childBack r_t_lineKind r_t_lineLong r_t_lineWord r_t_lines r_t_order r_t_weds r_t_wedsBack : jA) : va_W := [(a_t, .inr (11, (oX12 aX s_t_code s_t_n u_t_ahead u_t_length u_t_begins u_t_sort u_t_value u_t_letters u_t_word u_t_wrongAt u_t_laterFault u_t_laterPlace u_t_newClasses u_t_newLines u_t_turns u_t_shortest s_t_orders s_t_rowNumber u_t_ties))), ((aX 33), .inl (cI, r_t_child.1, .inl r_t_child.2)), ((aX 35), .inl (cI, r_t_childBack.1, .inl r_t_childBack.2)), ((aX 9), .inl (cI, r_t_lineKind.1, .inl r_t_lineKind.2)), ((aX 11), .inl (cI, r_t_lineLong.1, .inl r_t_lineLong.2)), ((aX 10), .inl (cB, r_t_lineWord.1, .inl r_t_lineWord.2)), ((aX 8), .inl (cI, r_t_lines.1, .inl r_t_lines.2)), ((aX 64), .inl (cI, r_t_order.1, .inl r_t_order.2)), ((aX 32), .inl (cI, r_t_weds.1, .inl r_t_weds.2)), ((aX 34), .inl (cI, r_t_wedsBack.1, .inl r_t_wedsBack.2))]
def f_X12_systems (r_t_lineKind r_t_lineLong r_t_lineWord r_t_lines : jA) (s_t_code s_t_n s_t_orders s_t_rowNumber : Int32) (r_t_child r_t_childBack r_t_order r_t_weds r_t_wedsBack : jA) (x1 : Int32) : Option (Int32 × Int32 × Int32 × Int32 × Int32 × jA × jA × jA × jA × jA) :=
  jM (f_X12_in x1 (2 : Int32) (5 : Int32)) fun r1 =>
  if r1 = 0 then
  some ((-1 : Int32), (0 : Int32), s_t_n, s_t_orders, s_t_rowNumber, r_t_child, r_t_childBack, r_t_order, r_t_weds, r_t_wedsBack)
  else
  jM (f_X12_goThrough r_t_lineKind r_t_lineLong r_t_lineWord r_t_lines s_t_n s_t_orders s_t_rowNumber r_t_child r_t_childBack r_t_order r_t_weds r_t_wedsBack x1 (0 : Int32) (-1 : Int32) (0 : Int32)) fun r3 =>
  some (r3.1, (0 : Int32), r3.2.1, r3.2.2.1, r3.2.2.2.1, r3.2.2.2.2.1, r3.2.2.2.2.2.1, r3.2.2.2.2.2.2.1, r3.2.2.2.2.2.2.2.1, r3.2.2.2.2.2.2.2.2)
set_option maxHeartbeats 4000000 in
set_option maxRecDepth 100000 in
theorem t_X12_systems {p : Program} {l : Launch} {e : Env} {s : State} {m : MethodId} {args : Array Value} {below : List Frame} {meth : Method} {c : Code} {A : Nat → Prop} {Q : State → Prop} (G : jGt) (D : va_G) (cI cB cZ : ClassId) (a_t : Nat) (aX : Nat → Nat) (u_t_ahead u_t_length u_t_begins u_t_sort u_t_value u_t_letters : Int32) (u_t_word : Int64) (u_t_wrongAt u_t_laterFault u_t_laterPlace u_t_newClasses u_t_newLines u_t_turns u_t_shortest u_t_ties : Int32) (r_t_lineKind r_t_lineLong r_t_lineWord r_t_lines : jA) (s_t_code s_t_n s_t_orders s_t_rowNumber : Int32) (r_t_child r_t_childBack r_t_order r_t_weds r_t_wedsBack : jA) (x1 : Int32) (C : jCx p s m args c cX12_systems 2 gX12_systems RX12 G D (jT cI cB cZ) A) {o : Int32 × Int32 × Int32 × Int32 × Int32 × jA × jA × jA × jA × jA} (hf : f_X12_systems r_t_lineKind r_t_lineLong r_t_lineWord r_t_lines s_t_code s_t_n s_t_orders s_t_rowNumber r_t_child r_t_childBack r_t_order r_t_weds r_t_wedsBack x1 = some o) (K : ∀ (H : Heap) (locs : List Loc) (pc : Nat) (ls : Array Slot), va_P D vwCl (w_X12_systems cI cB cZ a_t aX u_t_ahead u_t_length u_t_begins u_t_sort u_t_value u_t_letters u_t_word u_t_wrongAt u_t_laterFault u_t_laterPlace u_t_newClasses u_t_newLines u_t_turns u_t_shortest u_t_ties o.2.1 o.2.2.1 o.2.2.2.1 o.2.2.2.2.1 o.2.2.2.2.2.1 o.2.2.2.2.2.2.1 r_t_lineKind r_t_lineLong r_t_lineWord r_t_lines o.2.2.2.2.2.2.2.1 o.2.2.2.2.2.2.2.2.1 o.2.2.2.2.2.2.2.2.2) H → va_S A s.heap H locs → decode cX12_systems pc = .ok (.ireturn, 1) → W p l e rX12_systems s m args below meth c H locs 0 0 Q (F0 m pc ls [.int o.1])) {H : Heap} {locs : List Loc} {ls : Array Slot} (hP : va_P D vwCl (w_X12_systems cI cB cZ a_t aX u_t_ahead u_t_length u_t_begins u_t_sort u_t_value u_t_letters u_t_word u_t_wrongAt u_t_laterFault u_t_laterPlace u_t_newClasses u_t_newLines u_t_turns u_t_shortest u_t_ties s_t_code s_t_n s_t_orders s_t_rowNumber r_t_child r_t_childBack r_t_lineKind r_t_lineLong r_t_lineWord r_t_lines r_t_order r_t_weds r_t_wedsBack) H) (hD : va_D A (w_X12_systems cI cB cZ a_t aX u_t_ahead u_t_length u_t_begins u_t_sort u_t_value u_t_letters u_t_word u_t_wrongAt u_t_laterFault u_t_laterPlace u_t_newClasses u_t_newLines u_t_turns u_t_shortest u_t_ties s_t_code s_t_n s_t_orders s_t_rowNumber r_t_child r_t_childBack r_t_lineKind r_t_lineLong r_t_lineWord r_t_lines r_t_order r_t_weds r_t_wedsBack)) (hS : va_S A s.heap H locs) (hl : lv_has ls 2 [(0, .ref a_t), (1, .int x1)]) : W p l e rX12_systems s m args below meth c H locs 0 0 Q (F0 m 0 ls []) := by
  obtain ⟨⟨hx, hb, hml, hown, hts⟩, hK, hN, hA⟩ := C
  have C : jCx p s m args c cX12_systems 2 gX12_systems RX12 G D (jT cI cB cZ) A := ⟨⟨hx, hb, hml, hown, hts⟩, hK, hN, hA⟩
  unfold f_X12_systems at hf
  refine lv_aload_n hx hb dX12_systems_0 rfl (lv_at hl 0 rfl) ?_
  refine lv_iconst (v := (0 : Int32)) hx hb dX12_systems_1 (by decide) ?_
  refine va_put (D := D) (ci := 11) (v := .int (0 : Int32)) (ty := .int) (C := RX12) (T := TX12) (N := 74) hx hb hts iw_X12 tyX12 tyX12_ok nmX12 hown hK hP hD hS 0 rfl rfl 0 (by decide) (hts _ (wG_in k_fl_X12_177 rfl)) (fun _ h9 => h9) rfl (tyX12_ok 0 (by decide)) rfl rfl (Nat.le_of_ble_eq_true rfl) dX12_systems_2 (fun H locs hP hD hS => ?_)
  have hP : va_P D vwCl (w_X12_systems cI cB cZ a_t aX u_t_ahead u_t_length u_t_begins u_t_sort u_t_value u_t_letters u_t_word u_t_wrongAt u_t_laterFault u_t_laterPlace u_t_newClasses u_t_newLines u_t_turns u_t_shortest u_t_ties (0 : Int32) s_t_n s_t_orders s_t_rowNumber r_t_child r_t_childBack r_t_lineKind r_t_lineLong r_t_lineWord r_t_lines r_t_order r_t_weds r_t_wedsBack) H := hP
  have hD : va_D A (w_X12_systems cI cB cZ a_t aX u_t_ahead u_t_length u_t_begins u_t_sort u_t_value u_t_letters u_t_word u_t_wrongAt u_t_laterFault u_t_laterPlace u_t_newClasses u_t_newLines u_t_turns u_t_shortest u_t_ties (0 : Int32) s_t_n s_t_orders s_t_rowNumber r_t_child r_t_childBack r_t_lineKind r_t_lineLong r_t_lineWord r_t_lines r_t_order r_t_weds r_t_wedsBack) := hD
  refine lv_iload_n hx hb dX12_systems_5 rfl (lv_at hl 1 rfl) ?_
  refine lv_iconst (v := (2 : Int32)) hx hb dX12_systems_6 (by decide) ?_
  refine lv_iconst (v := (5 : Int32)) hx hb dX12_systems_7 (by decide) ?_
  obtain ⟨r1, hgr1, hf⟩ := jM_some hf
  refine jcS_i0 (As := [.int x1, .int (2 : Int32), .int (5 : Int32)]) (rest := []) ⟨hx, hb, hml, hown, hts⟩ hK hN hA (c_X12_in l G D cI cB cZ x1 (2 : Int32) (5 : Int32) hgr1) (va_cwS 3 hts (wG_S k_ml_X12_231 k_st_X12_in k_in_X12 k_co_X12_in) rfl rfl rfl hd_X12_in.2 ⟨Nat.le_of_ble_eq_true rfl, Nat.le_of_ble_eq_true rfl⟩) hP hD hS [] rfl rfl rfl rfl hl.1 rfl (Nat.le_of_ble_eq_true rfl) dX12_systems_8 ⟨Nat.le_of_ble_eq_true rfl, Nat.le_of_ble_eq_true rfl⟩ (fun H locs hP hD hS => ?_)
  refine lv_if_eq (tgt := 25) hx hb dX12_systems_11 (by decide) (fun c2 => ?_) (fun c2 => ?_)
  · replace hf := jif_t c2 hf
    refine lv_iconst (v := (-1 : Int32)) hx hb dX12_systems_25 (by decide) ?_
    have ho := Option.some.inj hf
    subst ho
    exact K _ _ _ _ hP hS dX12_systems_26
  · replace hf := jif_f c2 hf
    refine lv_aload_n hx hb dX12_systems_14 rfl (lv_at hl 0 rfl) ?_
    refine lv_iload_n hx hb dX12_systems_15 rfl (lv_at hl 1 rfl) ?_
    refine lv_iconst (v := (0 : Int32)) hx hb dX12_systems_16 (by decide) ?_
    refine lv_iconst (v := (-1 : Int32)) hx hb dX12_systems_17 (by decide) ?_
    refine lv_iconst (v := (0 : Int32)) hx hb dX12_systems_18 (by decide) ?_
    obtain ⟨r3, hgr3, hf⟩ := jM_some hf
    refine jcV_i (As := [.int x1, .int (0 : Int32), .int (-1 : Int32), .int (0 : Int32)]) (rest := []) ⟨hx, hb, hml, hown, hts⟩ hK hN hA (c_X12_goThrough l G D cI cB cZ a_t aX (0 : Int32) u_t_ahead u_t_length u_t_begins u_t_sort u_t_value u_t_letters u_t_word u_t_wrongAt u_t_laterFault u_t_laterPlace u_t_newClasses u_t_newLines u_t_turns u_t_shortest u_t_ties r_t_lineKind r_t_lineLong r_t_lineWord r_t_lines s_t_n s_t_orders s_t_rowNumber r_t_child r_t_childBack r_t_order r_t_weds r_t_wedsBack x1 (0 : Int32) (-1 : Int32) (0 : Int32) hgr3) (cwV 4 hts (wG_V k_ml_X12_403 k_im_X12_goThrough k_se_X12_goThrough k_in_X12 k_co_X12_goThrough) rfl rfl rfl hd_X12_goThrough ⟨Nat.le_of_ble_eq_true rfl, Nat.le_of_ble_eq_true rfl⟩) hP hD hS [0, 1, 2, 3, 4, 5, 6, 7, 8, 9] rfl rfl rfl (ci := 11) rfl 0 rfl rfl rfl hl.1 rfl (Nat.le_of_ble_eq_true rfl) dX12_systems_19 ⟨Nat.le_of_ble_eq_true rfl, Nat.le_of_ble_eq_true rfl⟩ (fun H locs hP hD hS => ?_)
    have hP : va_P D vwCl (w_X12_systems cI cB cZ a_t aX u_t_ahead u_t_length u_t_begins u_t_sort u_t_value u_t_letters u_t_word u_t_wrongAt u_t_laterFault u_t_laterPlace u_t_newClasses u_t_newLines u_t_turns u_t_shortest u_t_ties (0 : Int32) r3.2.1 r3.2.2.1 r3.2.2.2.1 r3.2.2.2.2.1 r3.2.2.2.2.2.1 r_t_lineKind r_t_lineLong r_t_lineWord r_t_lines r3.2.2.2.2.2.2.1 r3.2.2.2.2.2.2.2.1 r3.2.2.2.2.2.2.2.2) H := hP
    have hD : va_D A (w_X12_systems cI cB cZ a_t aX u_t_ahead u_t_length u_t_begins u_t_sort u_t_value u_t_letters u_t_word u_t_wrongAt u_t_laterFault u_t_laterPlace u_t_newClasses u_t_newLines u_t_turns u_t_shortest u_t_ties (0 : Int32) r3.2.1 r3.2.2.1 r3.2.2.2.1 r3.2.2.2.2.1 r3.2.2.2.2.2.1 r_t_lineKind r_t_lineLong r_t_lineWord r_t_lines r3.2.2.2.2.2.2.1 r3.2.2.2.2.2.2.2.1 r3.2.2.2.2.2.2.2.2) := hD
    refine lv_goto (tgt := 26) hx hb dX12_systems_22 (by decide) ?_
    have ho := Option.some.inj hf
    subst ho
    exact K _ _ _ _ hP hS dX12_systems_26
set_option maxHeartbeats 4000000 in
set_option maxRecDepth 100000 in
theorem c_X12_systems (l : Launch) (G : jGt) (D : va_G) (cI cB cZ : ClassId) (a_t : Nat) (aX : Nat → Nat) (u_t_ahead u_t_length u_t_begins u_t_sort u_t_value u_t_letters : Int32) (u_t_word : Int64) (u_t_wrongAt u_t_laterFault u_t_laterPlace u_t_newClasses u_t_newLines u_t_turns u_t_shortest u_t_ties : Int32) (r_t_lineKind r_t_lineLong r_t_lineWord r_t_lines : jA) (s_t_code s_t_n s_t_orders s_t_rowNumber : Int32) (r_t_child r_t_childBack r_t_order r_t_weds r_t_wedsBack : jA) (x1 : Int32) {o : Int32 × Int32 × Int32 × Int32 × Int32 × jA × jA × jA × jA × jA} (hf : f_X12_systems r_t_lineKind r_t_lineLong r_t_lineWord r_t_lines s_t_code s_t_n s_t_orders s_t_rowNumber r_t_child r_t_childBack r_t_order r_t_weds r_t_wedsBack x1 = some o) : jMi l yX12_systems gX12_systems rX12_systems G D (jT cI cB cZ) [.ref a_t, .int x1] (w_X12_systems cI cB cZ a_t aX u_t_ahead u_t_length u_t_begins u_t_sort u_t_value u_t_letters u_t_word u_t_wrongAt u_t_laterFault u_t_laterPlace u_t_newClasses u_t_newLines u_t_turns u_t_shortest u_t_ties s_t_code s_t_n s_t_orders s_t_rowNumber r_t_child r_t_childBack r_t_lineKind r_t_lineLong r_t_lineWord r_t_lines r_t_order r_t_weds r_t_wedsBack) (w_X12_systems cI cB cZ a_t aX u_t_ahead u_t_length u_t_begins u_t_sort u_t_value u_t_letters u_t_word u_t_wrongAt u_t_laterFault u_t_laterPlace u_t_newClasses u_t_newLines u_t_turns u_t_shortest u_t_ties o.2.1 o.2.2.1 o.2.2.2.1 o.2.2.2.2.1 o.2.2.2.2.2.1 o.2.2.2.2.2.2.1 r_t_lineKind r_t_lineLong r_t_lineWord r_t_lines o.2.2.2.2.2.2.2.1 o.2.2.2.2.2.2.2.2.1 o.2.2.2.2.2.2.2.2.2) o.1 := by
  refine jmk_i RX12 rfl (by decide +kernel) rfl (Nat.le_of_ble_eq_true rfl) rfl ?_
  intro p e s m args below meth c ls A Q C hP hD hS hl K
  exact t_X12_systems G D cI cB cZ a_t aX u_t_ahead u_t_length u_t_begins u_t_sort u_t_value u_t_letters u_t_word u_t_wrongAt u_t_laterFault u_t_laterPlace u_t_newClasses u_t_newLines u_t_turns u_t_shortest u_t_ties r_t_lineKind r_t_lineLong r_t_lineWord r_t_lines s_t_code s_t_n s_t_orders s_t_rowNumber r_t_child r_t_childBack r_t_order r_t_weds r_t_wedsBack x1 C hf K hP hD hS hl
abbrev rX12_kinds : Room := { frames := 7, cells := 0, slots := 0, locals := 169 }
abbrev gX12_kinds : List Cond := wG yX12_kinds cX12_kinds 2 (some .int)
def w_X12_kinds (cI cB cZ : ClassId) (a_t : Nat) (aX : Nat → Nat) (u_t_ahead u_t_length u_t_begins u_t_sort u_t_value u_t_letters : Int32) (u_t_word : Int64) (u_t_wrongAt u_t_laterFault u_t_laterPlace u_t_newClasses u_t_newLines u_t_turns u_t_shortest u_t_ties s_t_code s_t_n s_t_orders s_t_rowNumber : Int32) (r_t_child r_t_childBack r_t_lineKind r_t_lineLong r_t_lineWord r_t_lines r_t_order r_t_weds r_t_wedsBack : jA) : va_W := [(a_t, .inr (11, (oX12 aX s_t_code s_t_n u_t_ahead u_t_length u_t_begins u_t_sort u_t_value u_t_letters u_t_word u_t_wrongAt u_t_laterFault u_t_laterPlace u_t_newClasses u_t_newLines u_t_turns u_t_shortest s_t_orders s_t_rowNumber u_t_ties))), ((aX 33), .inl (cI, r_t_child.1, .inl r_t_child.2)), ((aX 35), .inl (cI, r_t_childBack.1, .inl r_t_childBack.2)), ((aX 9), .inl (cI, r_t_lineKind.1, .inl r_t_lineKind.2)), ((aX 11), .inl (cI, r_t_lineLong.1, .inl r_t_lineLong.2)), ((aX 10), .inl (cB, r_t_lineWord.1, .inl r_t_lineWord.2)), ((aX 8), .inl (cI, r_t_lines.1, .inl r_t_lines.2)), ((aX 64), .inl (cI, r_t_order.1, .inl r_t_order.2)), ((aX 32), .inl (cI, r_t_weds.1, .inl r_t_weds.2)), ((aX 34), .inl (cI, r_t_wedsBack.1, .inl r_t_wedsBack.2))]
def f_X12_kinds (r_t_lineKind r_t_lineLong r_t_lineWord r_t_lines : jA) (s_t_code s_t_n s_t_orders s_t_rowNumber : Int32) (r_t_child r_t_childBack r_t_order r_t_weds r_t_wedsBack : jA) (x1 : Int32) : Option (Int32 × Int32 × Int32 × Int32 × Int32 × jA × jA × jA × jA × jA) :=
  jM (f_X12_in x1 (2 : Int32) (5 : Int32)) fun r1 =>
  if r1 = 0 then
  some ((-1 : Int32), (0 : Int32), s_t_n, s_t_orders, s_t_rowNumber, r_t_child, r_t_childBack, r_t_order, r_t_weds, r_t_wedsBack)
  else
  jM (f_X12_goThrough r_t_lineKind r_t_lineLong r_t_lineWord r_t_lines s_t_n s_t_orders s_t_rowNumber r_t_child r_t_childBack r_t_order r_t_weds r_t_wedsBack x1 (1 : Int32) (-1 : Int32) (0 : Int32)) fun r3 =>
  some (r3.1, (0 : Int32), r3.2.1, r3.2.2.1, r3.2.2.2.1, r3.2.2.2.2.1, r3.2.2.2.2.2.1, r3.2.2.2.2.2.2.1, r3.2.2.2.2.2.2.2.1, r3.2.2.2.2.2.2.2.2)
set_option maxHeartbeats 4000000 in
set_option maxRecDepth 100000 in
theorem t_X12_kinds {p : Program} {l : Launch} {e : Env} {s : State} {m : MethodId} {args : Array Value} {below : List Frame} {meth : Method} {c : Code} {A : Nat → Prop} {Q : State → Prop} (G : jGt) (D : va_G) (cI cB cZ : ClassId) (a_t : Nat) (aX : Nat → Nat) (u_t_ahead u_t_length u_t_begins u_t_sort u_t_value u_t_letters : Int32) (u_t_word : Int64) (u_t_wrongAt u_t_laterFault u_t_laterPlace u_t_newClasses u_t_newLines u_t_turns u_t_shortest u_t_ties : Int32) (r_t_lineKind r_t_lineLong r_t_lineWord r_t_lines : jA) (s_t_code s_t_n s_t_orders s_t_rowNumber : Int32) (r_t_child r_t_childBack r_t_order r_t_weds r_t_wedsBack : jA) (x1 : Int32) (C : jCx p s m args c cX12_kinds 2 gX12_kinds RX12 G D (jT cI cB cZ) A) {o : Int32 × Int32 × Int32 × Int32 × Int32 × jA × jA × jA × jA × jA} (hf : f_X12_kinds r_t_lineKind r_t_lineLong r_t_lineWord r_t_lines s_t_code s_t_n s_t_orders s_t_rowNumber r_t_child r_t_childBack r_t_order r_t_weds r_t_wedsBack x1 = some o) (K : ∀ (H : Heap) (locs : List Loc) (pc : Nat) (ls : Array Slot), va_P D vwCl (w_X12_kinds cI cB cZ a_t aX u_t_ahead u_t_length u_t_begins u_t_sort u_t_value u_t_letters u_t_word u_t_wrongAt u_t_laterFault u_t_laterPlace u_t_newClasses u_t_newLines u_t_turns u_t_shortest u_t_ties o.2.1 o.2.2.1 o.2.2.2.1 o.2.2.2.2.1 o.2.2.2.2.2.1 o.2.2.2.2.2.2.1 r_t_lineKind r_t_lineLong r_t_lineWord r_t_lines o.2.2.2.2.2.2.2.1 o.2.2.2.2.2.2.2.2.1 o.2.2.2.2.2.2.2.2.2) H → va_S A s.heap H locs → decode cX12_kinds pc = .ok (.ireturn, 1) → W p l e rX12_kinds s m args below meth c H locs 0 0 Q (F0 m pc ls [.int o.1])) {H : Heap} {locs : List Loc} {ls : Array Slot} (hP : va_P D vwCl (w_X12_kinds cI cB cZ a_t aX u_t_ahead u_t_length u_t_begins u_t_sort u_t_value u_t_letters u_t_word u_t_wrongAt u_t_laterFault u_t_laterPlace u_t_newClasses u_t_newLines u_t_turns u_t_shortest u_t_ties s_t_code s_t_n s_t_orders s_t_rowNumber r_t_child r_t_childBack r_t_lineKind r_t_lineLong r_t_lineWord r_t_lines r_t_order r_t_weds r_t_wedsBack) H) (hD : va_D A (w_X12_kinds cI cB cZ a_t aX u_t_ahead u_t_length u_t_begins u_t_sort u_t_value u_t_letters u_t_word u_t_wrongAt u_t_laterFault u_t_laterPlace u_t_newClasses u_t_newLines u_t_turns u_t_shortest u_t_ties s_t_code s_t_n s_t_orders s_t_rowNumber r_t_child r_t_childBack r_t_lineKind r_t_lineLong r_t_lineWord r_t_lines r_t_order r_t_weds r_t_wedsBack)) (hS : va_S A s.heap H locs) (hl : lv_has ls 2 [(0, .ref a_t), (1, .int x1)]) : W p l e rX12_kinds s m args below meth c H locs 0 0 Q (F0 m 0 ls []) := by
  obtain ⟨⟨hx, hb, hml, hown, hts⟩, hK, hN, hA⟩ := C
  have C : jCx p s m args c cX12_kinds 2 gX12_kinds RX12 G D (jT cI cB cZ) A := ⟨⟨hx, hb, hml, hown, hts⟩, hK, hN, hA⟩
  unfold f_X12_kinds at hf
  refine lv_aload_n hx hb dX12_kinds_0 rfl (lv_at hl 0 rfl) ?_
  refine lv_iconst (v := (0 : Int32)) hx hb dX12_kinds_1 (by decide) ?_
  refine va_put (D := D) (ci := 11) (v := .int (0 : Int32)) (ty := .int) (C := RX12) (T := TX12) (N := 74) hx hb hts iw_X12 tyX12 tyX12_ok nmX12 hown hK hP hD hS 0 rfl rfl 0 (by decide) (hts _ (wG_in k_fl_X12_177 rfl)) (fun _ h9 => h9) rfl (tyX12_ok 0 (by decide)) rfl rfl (Nat.le_of_ble_eq_true rfl) dX12_kinds_2 (fun H locs hP hD hS => ?_)
  have hP : va_P D vwCl (w_X12_kinds cI cB cZ a_t aX u_t_ahead u_t_length u_t_begins u_t_sort u_t_value u_t_letters u_t_word u_t_wrongAt u_t_laterFault u_t_laterPlace u_t_newClasses u_t_newLines u_t_turns u_t_shortest u_t_ties (0 : Int32) s_t_n s_t_orders s_t_rowNumber r_t_child r_t_childBack r_t_lineKind r_t_lineLong r_t_lineWord r_t_lines r_t_order r_t_weds r_t_wedsBack) H := hP
  have hD : va_D A (w_X12_kinds cI cB cZ a_t aX u_t_ahead u_t_length u_t_begins u_t_sort u_t_value u_t_letters u_t_word u_t_wrongAt u_t_laterFault u_t_laterPlace u_t_newClasses u_t_newLines u_t_turns u_t_shortest u_t_ties (0 : Int32) s_t_n s_t_orders s_t_rowNumber r_t_child r_t_childBack r_t_lineKind r_t_lineLong r_t_lineWord r_t_lines r_t_order r_t_weds r_t_wedsBack) := hD
  refine lv_iload_n hx hb dX12_kinds_5 rfl (lv_at hl 1 rfl) ?_
  refine lv_iconst (v := (2 : Int32)) hx hb dX12_kinds_6 (by decide) ?_
  refine lv_iconst (v := (5 : Int32)) hx hb dX12_kinds_7 (by decide) ?_
  obtain ⟨r1, hgr1, hf⟩ := jM_some hf
  refine jcS_i0 (As := [.int x1, .int (2 : Int32), .int (5 : Int32)]) (rest := []) ⟨hx, hb, hml, hown, hts⟩ hK hN hA (c_X12_in l G D cI cB cZ x1 (2 : Int32) (5 : Int32) hgr1) (va_cwS 3 hts (wG_S k_ml_X12_231 k_st_X12_in k_in_X12 k_co_X12_in) rfl rfl rfl hd_X12_in.2 ⟨Nat.le_of_ble_eq_true rfl, Nat.le_of_ble_eq_true rfl⟩) hP hD hS [] rfl rfl rfl rfl hl.1 rfl (Nat.le_of_ble_eq_true rfl) dX12_kinds_8 ⟨Nat.le_of_ble_eq_true rfl, Nat.le_of_ble_eq_true rfl⟩ (fun H locs hP hD hS => ?_)
  refine lv_if_eq (tgt := 25) hx hb dX12_kinds_11 (by decide) (fun c2 => ?_) (fun c2 => ?_)
  · replace hf := jif_t c2 hf
    refine lv_iconst (v := (-1 : Int32)) hx hb dX12_kinds_25 (by decide) ?_
    have ho := Option.some.inj hf
    subst ho
    exact K _ _ _ _ hP hS dX12_kinds_26
  · replace hf := jif_f c2 hf
    refine lv_aload_n hx hb dX12_kinds_14 rfl (lv_at hl 0 rfl) ?_
    refine lv_iload_n hx hb dX12_kinds_15 rfl (lv_at hl 1 rfl) ?_
    refine lv_iconst (v := (1 : Int32)) hx hb dX12_kinds_16 (by decide) ?_
    refine lv_iconst (v := (-1 : Int32)) hx hb dX12_kinds_17 (by decide) ?_
    refine lv_iconst (v := (0 : Int32)) hx hb dX12_kinds_18 (by decide) ?_
    obtain ⟨r3, hgr3, hf⟩ := jM_some hf
    refine jcV_i (As := [.int x1, .int (1 : Int32), .int (-1 : Int32), .int (0 : Int32)]) (rest := []) ⟨hx, hb, hml, hown, hts⟩ hK hN hA (c_X12_goThrough l G D cI cB cZ a_t aX (0 : Int32) u_t_ahead u_t_length u_t_begins u_t_sort u_t_value u_t_letters u_t_word u_t_wrongAt u_t_laterFault u_t_laterPlace u_t_newClasses u_t_newLines u_t_turns u_t_shortest u_t_ties r_t_lineKind r_t_lineLong r_t_lineWord r_t_lines s_t_n s_t_orders s_t_rowNumber r_t_child r_t_childBack r_t_order r_t_weds r_t_wedsBack x1 (1 : Int32) (-1 : Int32) (0 : Int32) hgr3) (cwV 4 hts (wG_V k_ml_X12_403 k_im_X12_goThrough k_se_X12_goThrough k_in_X12 k_co_X12_goThrough) rfl rfl rfl hd_X12_goThrough ⟨Nat.le_of_ble_eq_true rfl, Nat.le_of_ble_eq_true rfl⟩) hP hD hS [0, 1, 2, 3, 4, 5, 6, 7, 8, 9] rfl rfl rfl (ci := 11) rfl 0 rfl rfl rfl hl.1 rfl (Nat.le_of_ble_eq_true rfl) dX12_kinds_19 ⟨Nat.le_of_ble_eq_true rfl, Nat.le_of_ble_eq_true rfl⟩ (fun H locs hP hD hS => ?_)
    have hP : va_P D vwCl (w_X12_kinds cI cB cZ a_t aX u_t_ahead u_t_length u_t_begins u_t_sort u_t_value u_t_letters u_t_word u_t_wrongAt u_t_laterFault u_t_laterPlace u_t_newClasses u_t_newLines u_t_turns u_t_shortest u_t_ties (0 : Int32) r3.2.1 r3.2.2.1 r3.2.2.2.1 r3.2.2.2.2.1 r3.2.2.2.2.2.1 r_t_lineKind r_t_lineLong r_t_lineWord r_t_lines r3.2.2.2.2.2.2.1 r3.2.2.2.2.2.2.2.1 r3.2.2.2.2.2.2.2.2) H := hP
    have hD : va_D A (w_X12_kinds cI cB cZ a_t aX u_t_ahead u_t_length u_t_begins u_t_sort u_t_value u_t_letters u_t_word u_t_wrongAt u_t_laterFault u_t_laterPlace u_t_newClasses u_t_newLines u_t_turns u_t_shortest u_t_ties (0 : Int32) r3.2.1 r3.2.2.1 r3.2.2.2.1 r3.2.2.2.2.1 r3.2.2.2.2.2.1 r_t_lineKind r_t_lineLong r_t_lineWord r_t_lines r3.2.2.2.2.2.2.1 r3.2.2.2.2.2.2.2.1 r3.2.2.2.2.2.2.2.2) := hD
    refine lv_goto (tgt := 26) hx hb dX12_kinds_22 (by decide) ?_
    have ho := Option.some.inj hf
    subst ho
    exact K _ _ _ _ hP hS dX12_kinds_26
set_option maxHeartbeats 4000000 in
set_option maxRecDepth 100000 in
theorem c_X12_kinds (l : Launch) (G : jGt) (D : va_G) (cI cB cZ : ClassId) (a_t : Nat) (aX : Nat → Nat) (u_t_ahead u_t_length u_t_begins u_t_sort u_t_value u_t_letters : Int32) (u_t_word : Int64) (u_t_wrongAt u_t_laterFault u_t_laterPlace u_t_newClasses u_t_newLines u_t_turns u_t_shortest u_t_ties : Int32) (r_t_lineKind r_t_lineLong r_t_lineWord r_t_lines : jA) (s_t_code s_t_n s_t_orders s_t_rowNumber : Int32) (r_t_child r_t_childBack r_t_order r_t_weds r_t_wedsBack : jA) (x1 : Int32) {o : Int32 × Int32 × Int32 × Int32 × Int32 × jA × jA × jA × jA × jA} (hf : f_X12_kinds r_t_lineKind r_t_lineLong r_t_lineWord r_t_lines s_t_code s_t_n s_t_orders s_t_rowNumber r_t_child r_t_childBack r_t_order r_t_weds r_t_wedsBack x1 = some o) : jMi l yX12_kinds gX12_kinds rX12_kinds G D (jT cI cB cZ) [.ref a_t, .int x1] (w_X12_kinds cI cB cZ a_t aX u_t_ahead u_t_length u_t_begins u_t_sort u_t_value u_t_letters u_t_word u_t_wrongAt u_t_laterFault u_t_laterPlace u_t_newClasses u_t_newLines u_t_turns u_t_shortest u_t_ties s_t_code s_t_n s_t_orders s_t_rowNumber r_t_child r_t_childBack r_t_lineKind r_t_lineLong r_t_lineWord r_t_lines r_t_order r_t_weds r_t_wedsBack) (w_X12_kinds cI cB cZ a_t aX u_t_ahead u_t_length u_t_begins u_t_sort u_t_value u_t_letters u_t_word u_t_wrongAt u_t_laterFault u_t_laterPlace u_t_newClasses u_t_newLines u_t_turns u_t_shortest u_t_ties o.2.1 o.2.2.1 o.2.2.2.1 o.2.2.2.2.1 o.2.2.2.2.2.1 o.2.2.2.2.2.2.1 r_t_lineKind r_t_lineLong r_t_lineWord r_t_lines o.2.2.2.2.2.2.2.1 o.2.2.2.2.2.2.2.2.1 o.2.2.2.2.2.2.2.2.2) o.1 := by
  refine jmk_i RX12 rfl (by decide +kernel) rfl (Nat.le_of_ble_eq_true rfl) rfl ?_
  intro p e s m args below meth c ls A Q C hP hD hS hl K
  exact t_X12_kinds G D cI cB cZ a_t aX u_t_ahead u_t_length u_t_begins u_t_sort u_t_value u_t_letters u_t_word u_t_wrongAt u_t_laterFault u_t_laterPlace u_t_newClasses u_t_newLines u_t_turns u_t_shortest u_t_ties r_t_lineKind r_t_lineLong r_t_lineWord r_t_lines s_t_code s_t_n s_t_orders s_t_rowNumber r_t_child r_t_childBack r_t_order r_t_weds r_t_wedsBack x1 C hf K hP hD hS hl
abbrev rX12_kind : Room := { frames := 7, cells := 0, slots := 0, locals := 169 }
abbrev gX12_kind : List Cond := wG yX12_kind cX12_kind 5 (some .int)
def w_X12_kind (cI cB cZ : ClassId) (a_t : Nat) (aX : Nat → Nat) (u_t_ahead u_t_length u_t_begins u_t_sort u_t_value u_t_letters : Int32) (u_t_word : Int64) (u_t_wrongAt u_t_laterFault u_t_laterPlace u_t_newClasses u_t_newLines u_t_turns u_t_shortest u_t_ties s_t_code s_t_n s_t_orders s_t_rowNumber : Int32) (r_t_child r_t_childBack r_t_lineKind r_t_lineLong r_t_lineWord r_t_lines r_t_order r_t_weds r_t_wedsBack : jA) : va_W := [(a_t, .inr (11, (oX12 aX s_t_code s_t_n u_t_ahead u_t_length u_t_begins u_t_sort u_t_value u_t_letters u_t_word u_t_wrongAt u_t_laterFault u_t_laterPlace u_t_newClasses u_t_newLines u_t_turns u_t_shortest s_t_orders s_t_rowNumber u_t_ties))), ((aX 33), .inl (cI, r_t_child.1, .inl r_t_child.2)), ((aX 35), .inl (cI, r_t_childBack.1, .inl r_t_childBack.2)), ((aX 9), .inl (cI, r_t_lineKind.1, .inl r_t_lineKind.2)), ((aX 11), .inl (cI, r_t_lineLong.1, .inl r_t_lineLong.2)), ((aX 10), .inl (cB, r_t_lineWord.1, .inl r_t_lineWord.2)), ((aX 8), .inl (cI, r_t_lines.1, .inl r_t_lines.2)), ((aX 64), .inl (cI, r_t_order.1, .inl r_t_order.2)), ((aX 32), .inl (cI, r_t_weds.1, .inl r_t_weds.2)), ((aX 34), .inl (cI, r_t_wedsBack.1, .inl r_t_wedsBack.2))]
def f_X12_kind (r_t_lineKind r_t_lineLong r_t_lineWord r_t_lines : jA) (s_t_code s_t_n s_t_orders s_t_rowNumber : Int32) (r_t_child r_t_childBack r_t_order r_t_weds r_t_wedsBack : jA) (x1 x2 x3 : Int32) : Option (Int32 × Int32 × Int32 × Int32 × Int32 × jA × jA × jA × jA × jA) :=
  jM (f_X12_in x1 (2 : Int32) (5 : Int32)) fun r1 =>
  if r1 = 0 then
  some ((-1 : Int32), (0 : Int32), s_t_n, s_t_orders, s_t_rowNumber, r_t_child, r_t_childBack, r_t_order, r_t_weds, r_t_wedsBack)
  else
  if x2 < 0 then
  some ((-1 : Int32), (0 : Int32), s_t_n, s_t_orders, s_t_rowNumber, r_t_child, r_t_childBack, r_t_order, r_t_weds, r_t_wedsBack)
  else
  jM (f_X12_in x3 (0 : Int32) (((2 : Int32) * x1) - (1 : Int32))) fun r4 =>
  if r4 = 0 then
  some ((-1 : Int32), (0 : Int32), s_t_n, s_t_orders, s_t_rowNumber, r_t_child, r_t_childBack, r_t_order, r_t_weds, r_t_wedsBack)
  else
  jM (f_X12_goThrough r_t_lineKind r_t_lineLong r_t_lineWord r_t_lines s_t_n s_t_orders s_t_rowNumber r_t_child r_t_childBack r_t_order r_t_weds r_t_wedsBack x1 (1 : Int32) x2 x3) fun r6 =>
  if r6.1 ≤ x2 then
  some ((-1 : Int32), (0 : Int32), r6.2.1, r6.2.2.1, r6.2.2.2.1, r6.2.2.2.2.1, r6.2.2.2.2.2.1, r6.2.2.2.2.2.2.1, r6.2.2.2.2.2.2.2.1, r6.2.2.2.2.2.2.2.2)
  else
  some (r6.2.2.2.1, (0 : Int32), r6.2.1, r6.2.2.1, r6.2.2.2.1, r6.2.2.2.2.1, r6.2.2.2.2.2.1, r6.2.2.2.2.2.2.1, r6.2.2.2.2.2.2.2.1, r6.2.2.2.2.2.2.2.2)
set_option maxHeartbeats 4000000 in
set_option maxRecDepth 100000 in
theorem t_X12_kind {p : Program} {l : Launch} {e : Env} {s : State} {m : MethodId} {args : Array Value} {below : List Frame} {meth : Method} {c : Code} {A : Nat → Prop} {Q : State → Prop} (G : jGt) (D : va_G) (cI cB cZ : ClassId) (a_t : Nat) (aX : Nat → Nat) (u_t_ahead u_t_length u_t_begins u_t_sort u_t_value u_t_letters : Int32) (u_t_word : Int64) (u_t_wrongAt u_t_laterFault u_t_laterPlace u_t_newClasses u_t_newLines u_t_turns u_t_shortest u_t_ties : Int32) (r_t_lineKind r_t_lineLong r_t_lineWord r_t_lines : jA) (s_t_code s_t_n s_t_orders s_t_rowNumber : Int32) (r_t_child r_t_childBack r_t_order r_t_weds r_t_wedsBack : jA) (x1 x2 x3 : Int32) (C : jCx p s m args c cX12_kind 5 gX12_kind RX12 G D (jT cI cB cZ) A) {o : Int32 × Int32 × Int32 × Int32 × Int32 × jA × jA × jA × jA × jA} (hf : f_X12_kind r_t_lineKind r_t_lineLong r_t_lineWord r_t_lines s_t_code s_t_n s_t_orders s_t_rowNumber r_t_child r_t_childBack r_t_order r_t_weds r_t_wedsBack x1 x2 x3 = some o) (K : ∀ (H : Heap) (locs : List Loc) (pc : Nat) (ls : Array Slot), va_P D vwCl (w_X12_kind cI cB cZ a_t aX u_t_ahead u_t_length u_t_begins u_t_sort u_t_value u_t_letters u_t_word u_t_wrongAt u_t_laterFault u_t_laterPlace u_t_newClasses u_t_newLines u_t_turns u_t_shortest u_t_ties o.2.1 o.2.2.1 o.2.2.2.1 o.2.2.2.2.1 o.2.2.2.2.2.1 o.2.2.2.2.2.2.1 r_t_lineKind r_t_lineLong r_t_lineWord r_t_lines o.2.2.2.2.2.2.2.1 o.2.2.2.2.2.2.2.2.1 o.2.2.2.2.2.2.2.2.2) H → va_S A s.heap H locs → decode cX12_kind pc = .ok (.ireturn, 1) → W p l e rX12_kind s m args below meth c H locs 0 0 Q (F0 m pc ls [.int o.1])) {H : Heap} {locs : List Loc} {ls : Array Slot} (hP : va_P D vwCl (w_X12_kind cI cB cZ a_t aX u_t_ahead u_t_length u_t_begins u_t_sort u_t_value u_t_letters u_t_word u_t_wrongAt u_t_laterFault u_t_laterPlace u_t_newClasses u_t_newLines u_t_turns u_t_shortest u_t_ties s_t_code s_t_n s_t_orders s_t_rowNumber r_t_child r_t_childBack r_t_lineKind r_t_lineLong r_t_lineWord r_t_lines r_t_order r_t_weds r_t_wedsBack) H) (hD : va_D A (w_X12_kind cI cB cZ a_t aX u_t_ahead u_t_length u_t_begins u_t_sort u_t_value u_t_letters u_t_word u_t_wrongAt u_t_laterFault u_t_laterPlace u_t_newClasses u_t_newLines u_t_turns u_t_shortest u_t_ties s_t_code s_t_n s_t_orders s_t_rowNumber r_t_child r_t_childBack r_t_lineKind r_t_lineLong r_t_lineWord r_t_lines r_t_order r_t_weds r_t_wedsBack)) (hS : va_S A s.heap H locs) (hl : lv_has ls 5 [(0, .ref a_t), (1, .int x1), (2, .int x2), (3, .int x3)]) : W p l e rX12_kind s m args below meth c H locs 0 0 Q (F0 m 0 ls []) := by
  obtain ⟨⟨hx, hb, hml, hown, hts⟩, hK, hN, hA⟩ := C
  have C : jCx p s m args c cX12_kind 5 gX12_kind RX12 G D (jT cI cB cZ) A := ⟨⟨hx, hb, hml, hown, hts⟩, hK, hN, hA⟩
  unfold f_X12_kind at hf
  refine lv_aload_n hx hb dX12_kind_0 rfl (lv_at hl 0 rfl) ?_
  refine lv_iconst (v := (0 : Int32)) hx hb dX12_kind_1 (by decide) ?_
  refine va_put (D := D) (ci := 11) (v := .int (0 : Int32)) (ty := .int) (C := RX12) (T := TX12) (N := 74) hx hb hts iw_X12 tyX12 tyX12_ok nmX12 hown hK hP hD hS 0 rfl rfl 0 (by decide) (hts _ (wG_in k_fl_X12_177 rfl)) (fun _ h9 => h9) rfl (tyX12_ok 0 (by decide)) rfl rfl (Nat.le_of_ble_eq_true rfl) dX12_kind_2 (fun H locs hP hD hS => ?_)
  have hP : va_P D vwCl (w_X12_kind cI cB cZ a_t aX u_t_ahead u_t_length u_t_begins u_t_sort u_t_value u_t_letters u_t_word u_t_wrongAt u_t_laterFault u_t_laterPlace u_t_newClasses u_t_newLines u_t_turns u_t_shortest u_t_ties (0 : Int32) s_t_n s_t_orders s_t_rowNumber r_t_child r_t_childBack r_t_lineKind r_t_lineLong r_t_lineWord r_t_lines r_t_order r_t_weds r_t_wedsBack) H := hP
  have hD : va_D A (w_X12_kind cI cB cZ a_t aX u_t_ahead u_t_length u_t_begins u_t_sort u_t_value u_t_letters u_t_word u_t_wrongAt u_t_laterFault u_t_laterPlace u_t_newClasses u_t_newLines u_t_turns u_t_shortest u_t_ties (0 : Int32) s_t_n s_t_orders s_t_rowNumber r_t_child r_t_childBack r_t_lineKind r_t_lineLong r_t_lineWord r_t_lines r_t_order r_t_weds r_t_wedsBack) := hD
  refine lv_iload_n hx hb dX12_kind_5 rfl (lv_at hl 1 rfl) ?_
  refine lv_iconst (v := (2 : Int32)) hx hb dX12_kind_6 (by decide) ?_
  refine lv_iconst (v := (5 : Int32)) hx hb dX12_kind_7 (by decide) ?_
  obtain ⟨r1, hgr1, hf⟩ := jM_some hf
  refine jcS_i0 (As := [.int x1, .int (2 : Int32), .int (5 : Int32)]) (rest := []) ⟨hx, hb, hml, hown, hts⟩ hK hN hA (c_X12_in l G D cI cB cZ x1 (2 : Int32) (5 : Int32) hgr1) (va_cwS 3 hts (wG_S k_ml_X12_231 k_st_X12_in k_in_X12 k_co_X12_in) rfl rfl rfl hd_X12_in.2 ⟨Nat.le_of_ble_eq_true rfl, Nat.le_of_ble_eq_true rfl⟩) hP hD hS [] rfl rfl rfl rfl hl.1 rfl (Nat.le_of_ble_eq_true rfl) dX12_kind_8 ⟨Nat.le_of_ble_eq_true rfl, Nat.le_of_ble_eq_true rfl⟩ (fun H locs hP hD hS => ?_)
  refine lv_if_eq (tgt := 31) hx hb dX12_kind_11 (by decide) (fun c2 => ?_) (fun c2 => ?_)
  · replace hf := jif_t c2 hf
    refine lv_iconst (v := (-1 : Int32)) hx hb dX12_kind_31 (by decide) ?_
    have ho := Option.some.inj hf
    subst ho
    exact K _ _ _ _ hP hS dX12_kind_32
  · replace hf := jif_f c2 hf
    refine lv_iload_n hx hb dX12_kind_14 rfl (lv_at hl 2 rfl) ?_
    refine lv_if_lt (tgt := 31) hx hb dX12_kind_15 (by decide) (fun c3 => ?_) (fun c3 => ?_)
    · replace hf := jif_t c3 hf
      refine lv_iconst (v := (-1 : Int32)) hx hb dX12_kind_31 (by decide) ?_
      have ho := Option.some.inj hf
      subst ho
      exact K _ _ _ _ hP hS dX12_kind_32
    · replace hf := jif_f c3 hf
      refine lv_iload_n hx hb dX12_kind_18 rfl (lv_at hl 3 rfl) ?_
      refine lv_iconst (v := (0 : Int32)) hx hb dX12_kind_19 (by decide) ?_
      refine lv_iconst (v := (2 : Int32)) hx hb dX12_kind_20 (by decide) ?_
      refine lv_iload_n hx hb dX12_kind_21 rfl (lv_at hl 1 rfl) ?_
      refine lv_imul hx hb dX12_kind_22 ?_
      refine lv_iconst (v := (1 : Int32)) hx hb dX12_kind_23 (by decide) ?_
      refine lv_isub hx hb dX12_kind_24 ?_
      obtain ⟨r4, hgr4, hf⟩ := jM_some hf
      refine jcS_i0 (As := [.int x3, .int (0 : Int32), .int (((2 : Int32) * x1) - (1 : Int32))]) (rest := []) ⟨hx, hb, hml, hown, hts⟩ hK hN hA (c_X12_in l G D cI cB cZ x3 (0 : Int32) (((2 : Int32) * x1) - (1 : Int32)) hgr4) (va_cwS 3 hts (wG_S k_ml_X12_231 k_st_X12_in k_in_X12 k_co_X12_in) rfl rfl rfl hd_X12_in.2 ⟨Nat.le_of_ble_eq_true rfl, Nat.le_of_ble_eq_true rfl⟩) hP hD hS [] rfl rfl rfl rfl hl.1 rfl (Nat.le_of_ble_eq_true rfl) dX12_kind_25 ⟨Nat.le_of_ble_eq_true rfl, Nat.le_of_ble_eq_true rfl⟩ (fun H locs hP hD hS => ?_)
      refine lv_if_ne (tgt := 33) hx hb dX12_kind_28 (by decide) (fun c5 => ?_) (fun c5 => ?_)
      · replace hf := jif_f c5 hf
        refine lv_aload_n hx hb dX12_kind_33 rfl (lv_at hl 0 rfl) ?_
        refine lv_iload_n hx hb dX12_kind_34 rfl (lv_at hl 1 rfl) ?_
        refine lv_iconst (v := (1 : Int32)) hx hb dX12_kind_35 (by decide) ?_
        refine lv_iload_n hx hb dX12_kind_36 rfl (lv_at hl 2 rfl) ?_
        refine lv_iload_n hx hb dX12_kind_37 rfl (lv_at hl 3 rfl) ?_
        obtain ⟨r6, hgr6, hf⟩ := jM_some hf
        refine jcV_i (As := [.int x1, .int (1 : Int32), .int x2, .int x3]) (rest := []) ⟨hx, hb, hml, hown, hts⟩ hK hN hA (c_X12_goThrough l G D cI cB cZ a_t aX (0 : Int32) u_t_ahead u_t_length u_t_begins u_t_sort u_t_value u_t_letters u_t_word u_t_wrongAt u_t_laterFault u_t_laterPlace u_t_newClasses u_t_newLines u_t_turns u_t_shortest u_t_ties r_t_lineKind r_t_lineLong r_t_lineWord r_t_lines s_t_n s_t_orders s_t_rowNumber r_t_child r_t_childBack r_t_order r_t_weds r_t_wedsBack x1 (1 : Int32) x2 x3 hgr6) (cwV 4 hts (wG_V k_ml_X12_403 k_im_X12_goThrough k_se_X12_goThrough k_in_X12 k_co_X12_goThrough) rfl rfl rfl hd_X12_goThrough ⟨Nat.le_of_ble_eq_true rfl, Nat.le_of_ble_eq_true rfl⟩) hP hD hS [0, 1, 2, 3, 4, 5, 6, 7, 8, 9] rfl rfl rfl (ci := 11) rfl 0 rfl rfl rfl hl.1 rfl (Nat.le_of_ble_eq_true rfl) dX12_kind_38 ⟨Nat.le_of_ble_eq_true rfl, Nat.le_of_ble_eq_true rfl⟩ (fun H locs hP hD hS => ?_)
        have hP : va_P D vwCl (w_X12_kind cI cB cZ a_t aX u_t_ahead u_t_length u_t_begins u_t_sort u_t_value u_t_letters u_t_word u_t_wrongAt u_t_laterFault u_t_laterPlace u_t_newClasses u_t_newLines u_t_turns u_t_shortest u_t_ties (0 : Int32) r6.2.1 r6.2.2.1 r6.2.2.2.1 r6.2.2.2.2.1 r6.2.2.2.2.2.1 r_t_lineKind r_t_lineLong r_t_lineWord r_t_lines r6.2.2.2.2.2.2.1 r6.2.2.2.2.2.2.2.1 r6.2.2.2.2.2.2.2.2) H := hP
        have hD : va_D A (w_X12_kind cI cB cZ a_t aX u_t_ahead u_t_length u_t_begins u_t_sort u_t_value u_t_letters u_t_word u_t_wrongAt u_t_laterFault u_t_laterPlace u_t_newClasses u_t_newLines u_t_turns u_t_shortest u_t_ties (0 : Int32) r6.2.1 r6.2.2.1 r6.2.2.2.1 r6.2.2.2.2.1 r6.2.2.2.2.2.1 r_t_lineKind r_t_lineLong r_t_lineWord r_t_lines r6.2.2.2.2.2.2.1 r6.2.2.2.2.2.2.2.1 r6.2.2.2.2.2.2.2.2) := hD
        refine lv_istore (lv' := [(4, .int r6.1), (0, .ref a_t), (1, .int x1), (2, .int x2), (3, .int x3)]) hx hb dX12_kind_41 hl (by decide) rfl (fun ls hl => ?_)
        refine lv_iload_n hx hb dX12_kind_43 rfl (lv_at hl 3 rfl) ?_
        refine lv_iload hx hb dX12_kind_44 (lv_at hl 0 rfl) ?_
        refine lv_icmp_ge (tgt := 56) hx hb dX12_kind_46 (by decide) (fun c7 => ?_) (fun c7 => ?_)
        · replace hf := jif_t c7 hf
          refine lv_iconst (v := (-1 : Int32)) hx hb dX12_kind_56 (by decide) ?_
          have ho := Option.some.inj hf
          subst ho
          exact K _ _ _ _ hP hS dX12_kind_57
        · replace hf := jif_f c7 hf
          refine lv_aload_n hx hb dX12_kind_49 rfl (lv_at hl 1 rfl) ?_
          refine va_get (D := D) (ci := 11) (v := .int r6.2.2.2.1) (C := RX12) (T := TX12) (N := 74) hx hb hts iw_X12 hown hK hP 0 rfl rfl 65 (by decide) (hts _ (wG_in k_fl_X12_393 rfl)) (fun _ h9 => h9) rfl dX12_kind_50 ?_
          refine lv_goto (tgt := 57) hx hb dX12_kind_53 (by decide) ?_
          have ho := Option.some.inj hf
          subst ho
          exact K _ _ _ _ hP hS dX12_kind_57
      · replace hf := jif_t c5 hf
        refine lv_iconst (v := (-1 : Int32)) hx hb dX12_kind_31 (by decide) ?_
        have ho := Option.some.inj hf
        subst ho
        exact K _ _ _ _ hP hS dX12_kind_32
set_option maxHeartbeats 4000000 in
set_option maxRecDepth 100000 in
theorem c_X12_kind (l : Launch) (G : jGt) (D : va_G) (cI cB cZ : ClassId) (a_t : Nat) (aX : Nat → Nat) (u_t_ahead u_t_length u_t_begins u_t_sort u_t_value u_t_letters : Int32) (u_t_word : Int64) (u_t_wrongAt u_t_laterFault u_t_laterPlace u_t_newClasses u_t_newLines u_t_turns u_t_shortest u_t_ties : Int32) (r_t_lineKind r_t_lineLong r_t_lineWord r_t_lines : jA) (s_t_code s_t_n s_t_orders s_t_rowNumber : Int32) (r_t_child r_t_childBack r_t_order r_t_weds r_t_wedsBack : jA) (x1 x2 x3 : Int32) {o : Int32 × Int32 × Int32 × Int32 × Int32 × jA × jA × jA × jA × jA} (hf : f_X12_kind r_t_lineKind r_t_lineLong r_t_lineWord r_t_lines s_t_code s_t_n s_t_orders s_t_rowNumber r_t_child r_t_childBack r_t_order r_t_weds r_t_wedsBack x1 x2 x3 = some o) : jMi l yX12_kind gX12_kind rX12_kind G D (jT cI cB cZ) [.ref a_t, .int x1, .int x2, .int x3] (w_X12_kind cI cB cZ a_t aX u_t_ahead u_t_length u_t_begins u_t_sort u_t_value u_t_letters u_t_word u_t_wrongAt u_t_laterFault u_t_laterPlace u_t_newClasses u_t_newLines u_t_turns u_t_shortest u_t_ties s_t_code s_t_n s_t_orders s_t_rowNumber r_t_child r_t_childBack r_t_lineKind r_t_lineLong r_t_lineWord r_t_lines r_t_order r_t_weds r_t_wedsBack) (w_X12_kind cI cB cZ a_t aX u_t_ahead u_t_length u_t_begins u_t_sort u_t_value u_t_letters u_t_word u_t_wrongAt u_t_laterFault u_t_laterPlace u_t_newClasses u_t_newLines u_t_turns u_t_shortest u_t_ties o.2.1 o.2.2.1 o.2.2.2.1 o.2.2.2.2.1 o.2.2.2.2.2.1 o.2.2.2.2.2.2.1 r_t_lineKind r_t_lineLong r_t_lineWord r_t_lines o.2.2.2.2.2.2.2.1 o.2.2.2.2.2.2.2.2.1 o.2.2.2.2.2.2.2.2.2) o.1 := by
  refine jmk_i RX12 rfl (by decide +kernel) rfl (Nat.le_of_ble_eq_true rfl) rfl ?_
  intro p e s m args below meth c ls A Q C hP hD hS hl K
  exact t_X12_kind G D cI cB cZ a_t aX u_t_ahead u_t_length u_t_begins u_t_sort u_t_value u_t_letters u_t_word u_t_wrongAt u_t_laterFault u_t_laterPlace u_t_newClasses u_t_newLines u_t_turns u_t_shortest u_t_ties r_t_lineKind r_t_lineLong r_t_lineWord r_t_lines s_t_code s_t_n s_t_orders s_t_rowNumber r_t_child r_t_childBack r_t_order r_t_weds r_t_wedsBack x1 x2 x3 C hf K hP hD hS hl
abbrev rX12_isPerson : Room := { frames := 1, cells := 0, slots := 0, locals := 22 }
abbrev gX12_isPerson : List Cond := wG yX12_isPerson cX12_isPerson 2 (some .boolean)
def w_X12_isPerson (cI cB cZ : ClassId) (a_t : Nat) (aX : Nat → Nat) (u_t_code u_t_n u_t_ahead u_t_length u_t_begins u_t_sort u_t_value u_t_letters : Int32) (u_t_word : Int64) (u_t_wrongAt u_t_laterFault u_t_laterPlace u_t_newClasses u_t_newLines u_t_turns u_t_shortest u_t_orders u_t_rowNumber u_t_ties : Int32) (r_t_persons : jA) : va_W := [(a_t, .inr (11, (oX12 aX u_t_code u_t_n u_t_ahead u_t_length u_t_begins u_t_sort u_t_value u_t_letters u_t_word u_t_wrongAt u_t_laterFault u_t_laterPlace u_t_newClasses u_t_newLines u_t_turns u_t_shortest u_t_orders u_t_rowNumber u_t_ties))), ((aX 18), .inl (cI, r_t_persons.1, .inl r_t_persons.2))]
def f_X12_isPerson (r_t_persons : jA) (x1 : Int32) : Option (Int32) :=
  jL r_t_persons (0 : Int32) fun v1 =>
  jM (f_X12_in x1 (0 : Int32) (v1 - (1 : Int32))) fun r2 =>
  jZ r2 (some r2)
set_option maxHeartbeats 4000000 in
set_option maxRecDepth 100000 in
theorem t_X12_isPerson {p : Program} {l : Launch} {e : Env} {s : State} {m : MethodId} {args : Array Value} {below : List Frame} {meth : Method} {c : Code} {A : Nat → Prop} {Q : State → Prop} (G : jGt) (D : va_G) (cI cB cZ : ClassId) (a_t : Nat) (aX : Nat → Nat) (u_t_code u_t_n u_t_ahead u_t_length u_t_begins u_t_sort u_t_value u_t_letters : Int32) (u_t_word : Int64) (u_t_wrongAt u_t_laterFault u_t_laterPlace u_t_newClasses u_t_newLines u_t_turns u_t_shortest u_t_orders u_t_rowNumber u_t_ties : Int32) (r_t_persons : jA) (x1 : Int32) (C : jCx p s m args c cX12_isPerson 2 gX12_isPerson RX12 G D (jT cI cB cZ) A) {o : Int32} (hf : f_X12_isPerson r_t_persons x1 = some o) (K : ∀ (H : Heap) (locs : List Loc) (pc : Nat) (ls : Array Slot), (o = 0 ∨ o = 1) → va_P D vwCl (w_X12_isPerson cI cB cZ a_t aX u_t_code u_t_n u_t_ahead u_t_length u_t_begins u_t_sort u_t_value u_t_letters u_t_word u_t_wrongAt u_t_laterFault u_t_laterPlace u_t_newClasses u_t_newLines u_t_turns u_t_shortest u_t_orders u_t_rowNumber u_t_ties r_t_persons) H → va_S A s.heap H locs → decode cX12_isPerson pc = .ok (.ireturn, 1) → W p l e rX12_isPerson s m args below meth c H locs 0 0 Q (F0 m pc ls [.int o])) {H : Heap} {locs : List Loc} {ls : Array Slot} (hP : va_P D vwCl (w_X12_isPerson cI cB cZ a_t aX u_t_code u_t_n u_t_ahead u_t_length u_t_begins u_t_sort u_t_value u_t_letters u_t_word u_t_wrongAt u_t_laterFault u_t_laterPlace u_t_newClasses u_t_newLines u_t_turns u_t_shortest u_t_orders u_t_rowNumber u_t_ties r_t_persons) H) (hD : va_D A (w_X12_isPerson cI cB cZ a_t aX u_t_code u_t_n u_t_ahead u_t_length u_t_begins u_t_sort u_t_value u_t_letters u_t_word u_t_wrongAt u_t_laterFault u_t_laterPlace u_t_newClasses u_t_newLines u_t_turns u_t_shortest u_t_orders u_t_rowNumber u_t_ties r_t_persons)) (hS : va_S A s.heap H locs) (hl : lv_has ls 2 [(0, .ref a_t), (1, .int x1)]) : W p l e rX12_isPerson s m args below meth c H locs 0 0 Q (F0 m 0 ls []) := by
  obtain ⟨⟨hx, hb, hml, hown, hts⟩, hK, hN, hA⟩ := C
  have C : jCx p s m args c cX12_isPerson 2 gX12_isPerson RX12 G D (jT cI cB cZ) A := ⟨⟨hx, hb, hml, hown, hts⟩, hK, hN, hA⟩
  unfold f_X12_isPerson at hf
  refine lv_iload_n hx hb dX12_isPerson_0 rfl (lv_at hl 1 rfl) ?_
  refine lv_iconst (v := (0 : Int32)) hx hb dX12_isPerson_1 (by decide) ?_
  refine lv_aload_n hx hb dX12_isPerson_2 rfl (lv_at hl 0 rfl) ?_
  refine va_get (D := D) (ci := 11) (v := .ref (aX 18)) (C := RX12) (T := TX12) (N := 74) hx hb hts iw_X12 hown hK hP 0 rfl rfl 18 (by decide) (hts _ (wG_in k_fl_X12_62 rfl)) (fun _ h9 => h9) rfl dX12_isPerson_3 ?_
  refine lv_iconst (v := (0 : Int32)) hx hb dX12_isPerson_6 (by decide) ?_
  obtain ⟨v1, hv1, iv1, hf⟩ := jL_some hf
  refine ja_iald (P := r_t_persons) hx hb hK hP 1 0 rfl rfl hv1 iv1 dX12_isPerson_7 ?_
  refine lv_iconst (v := (1 : Int32)) hx hb dX12_isPerson_8 (by decide) ?_
  refine lv_isub hx hb dX12_isPerson_9 ?_
  obtain ⟨r2, hgr2, hf⟩ := jM_some hf
  refine jcS_i0 (As := [.int x1, .int (0 : Int32), .int (v1 - (1 : Int32))]) (rest := []) ⟨hx, hb, hml, hown, hts⟩ hK hN hA (c_X12_in l G D cI cB cZ x1 (0 : Int32) (v1 - (1 : Int32)) hgr2) (va_cwS 3 hts (wG_S k_ml_X12_231 k_st_X12_in k_in_X12 k_co_X12_in) rfl rfl rfl hd_X12_in.2 ⟨Nat.le_of_ble_eq_true rfl, Nat.le_of_ble_eq_true rfl⟩) hP hD hS [] rfl rfl rfl rfl hl.1 rfl (Nat.le_of_ble_eq_true rfl) dX12_isPerson_10 ⟨Nat.le_of_ble_eq_true rfl, Nat.le_of_ble_eq_true rfl⟩ (fun H locs hP hD hS => ?_)
  obtain ⟨hz, hf⟩ := jZ_some hf
  have ho := Option.some.inj hf
  subst ho
  exact K _ _ _ _ hz hP hS dX12_isPerson_13
set_option maxHeartbeats 4000000 in
set_option maxRecDepth 100000 in
theorem c_X12_isPerson (l : Launch) (G : jGt) (D : va_G) (cI cB cZ : ClassId) (a_t : Nat) (aX : Nat → Nat) (u_t_code u_t_n u_t_ahead u_t_length u_t_begins u_t_sort u_t_value u_t_letters : Int32) (u_t_word : Int64) (u_t_wrongAt u_t_laterFault u_t_laterPlace u_t_newClasses u_t_newLines u_t_turns u_t_shortest u_t_orders u_t_rowNumber u_t_ties : Int32) (r_t_persons : jA) (x1 : Int32) {o : Int32} (hf : f_X12_isPerson r_t_persons x1 = some o) : jMi l yX12_isPerson gX12_isPerson rX12_isPerson G D (jT cI cB cZ) [.ref a_t, .int x1] (w_X12_isPerson cI cB cZ a_t aX u_t_code u_t_n u_t_ahead u_t_length u_t_begins u_t_sort u_t_value u_t_letters u_t_word u_t_wrongAt u_t_laterFault u_t_laterPlace u_t_newClasses u_t_newLines u_t_turns u_t_shortest u_t_orders u_t_rowNumber u_t_ties r_t_persons) (w_X12_isPerson cI cB cZ a_t aX u_t_code u_t_n u_t_ahead u_t_length u_t_begins u_t_sort u_t_value u_t_letters u_t_word u_t_wrongAt u_t_laterFault u_t_laterPlace u_t_newClasses u_t_newLines u_t_turns u_t_shortest u_t_orders u_t_rowNumber u_t_ties r_t_persons) o := by
  refine jmk_z RX12 rfl (by decide +kernel) rfl (Nat.le_of_ble_eq_true rfl) rfl ?_
  intro p e s m args below meth c ls A Q C hP hD hS hl K
  exact t_X12_isPerson G D cI cB cZ a_t aX u_t_code u_t_n u_t_ahead u_t_length u_t_begins u_t_sort u_t_value u_t_letters u_t_word u_t_wrongAt u_t_laterFault u_t_laterPlace u_t_newClasses u_t_newLines u_t_turns u_t_shortest u_t_orders u_t_rowNumber u_t_ties r_t_persons x1 C hf K hP hD hS hl
abbrev rX12_viewDay : Room := { frames := 0, cells := 0, slots := 0, locals := 0 }
abbrev gX12_viewDay : List Cond := wG yX12_viewDay cX12_viewDay 1 (some .int)
def w_X12_viewDay (cI cB cZ : ClassId) (a_t : Nat) (aX : Nat → Nat) (u_t_code u_t_n u_t_ahead u_t_length u_t_begins u_t_sort u_t_value u_t_letters : Int32) (u_t_word : Int64) (u_t_wrongAt u_t_laterFault u_t_laterPlace u_t_newClasses u_t_newLines u_t_turns u_t_shortest u_t_orders u_t_rowNumber u_t_ties : Int32) (r_t_days r_t_viewed : jA) : va_W := [(a_t, .inr (11, (oX12 aX u_t_code u_t_n u_t_ahead u_t_length u_t_begins u_t_sort u_t_value u_t_letters u_t_word u_t_wrongAt u_t_laterFault u_t_laterPlace u_t_newClasses u_t_newLines u_t_turns u_t_shortest u_t_orders u_t_rowNumber u_t_ties))), ((aX 16), .inl (cI, r_t_days.1, .inl r_t_days.2)), ((aX 17), .inl (cI, r_t_viewed.1, .inl r_t_viewed.2))]
def f_X12_viewDay (r_t_days r_t_viewed : jA) : Option (Int32) :=
  jL r_t_viewed (0 : Int32) fun v1 =>
  if v1 = (-1 : Int32) then
  jL r_t_days (0 : Int32) fun v4 =>
  some v4
  else
  jL r_t_viewed (0 : Int32) fun v3 =>
  some v3
set_option maxHeartbeats 4000000 in
set_option maxRecDepth 100000 in
theorem t_X12_viewDay {p : Program} {l : Launch} {e : Env} {s : State} {m : MethodId} {args : Array Value} {below : List Frame} {meth : Method} {c : Code} {A : Nat → Prop} {Q : State → Prop} (G : jGt) (D : va_G) (cI cB cZ : ClassId) (a_t : Nat) (aX : Nat → Nat) (u_t_code u_t_n u_t_ahead u_t_length u_t_begins u_t_sort u_t_value u_t_letters : Int32) (u_t_word : Int64) (u_t_wrongAt u_t_laterFault u_t_laterPlace u_t_newClasses u_t_newLines u_t_turns u_t_shortest u_t_orders u_t_rowNumber u_t_ties : Int32) (r_t_days r_t_viewed : jA)  (C : jCx p s m args c cX12_viewDay 1 gX12_viewDay RX12 G D (jT cI cB cZ) A) {o : Int32} (hf : f_X12_viewDay r_t_days r_t_viewed = some o) (K : ∀ (H : Heap) (locs : List Loc) (pc : Nat) (ls : Array Slot), va_P D vwCl (w_X12_viewDay cI cB cZ a_t aX u_t_code u_t_n u_t_ahead u_t_length u_t_begins u_t_sort u_t_value u_t_letters u_t_word u_t_wrongAt u_t_laterFault u_t_laterPlace u_t_newClasses u_t_newLines u_t_turns u_t_shortest u_t_orders u_t_rowNumber u_t_ties r_t_days r_t_viewed) H → va_S A s.heap H locs → decode cX12_viewDay pc = .ok (.ireturn, 1) → W p l e rX12_viewDay s m args below meth c H locs 0 0 Q (F0 m pc ls [.int o])) {H : Heap} {locs : List Loc} {ls : Array Slot} (hP : va_P D vwCl (w_X12_viewDay cI cB cZ a_t aX u_t_code u_t_n u_t_ahead u_t_length u_t_begins u_t_sort u_t_value u_t_letters u_t_word u_t_wrongAt u_t_laterFault u_t_laterPlace u_t_newClasses u_t_newLines u_t_turns u_t_shortest u_t_orders u_t_rowNumber u_t_ties r_t_days r_t_viewed) H) (hD : va_D A (w_X12_viewDay cI cB cZ a_t aX u_t_code u_t_n u_t_ahead u_t_length u_t_begins u_t_sort u_t_value u_t_letters u_t_word u_t_wrongAt u_t_laterFault u_t_laterPlace u_t_newClasses u_t_newLines u_t_turns u_t_shortest u_t_orders u_t_rowNumber u_t_ties r_t_days r_t_viewed)) (hS : va_S A s.heap H locs) (hl : lv_has ls 1 [(0, .ref a_t)]) : W p l e rX12_viewDay s m args below meth c H locs 0 0 Q (F0 m 0 ls []) := by
  obtain ⟨⟨hx, hb, hml, hown, hts⟩, hK, hN, hA⟩ := C
  have C : jCx p s m args c cX12_viewDay 1 gX12_viewDay RX12 G D (jT cI cB cZ) A := ⟨⟨hx, hb, hml, hown, hts⟩, hK, hN, hA⟩
  unfold f_X12_viewDay at hf
  refine lv_aload_n hx hb dX12_viewDay_0 rfl (lv_at hl 0 rfl) ?_
  refine va_get (D := D) (ci := 11) (v := .ref (aX 17)) (C := RX12) (T := TX12) (N := 74) hx hb hts iw_X12 hown hK hP 0 rfl rfl 17 (by decide) (hts _ (wG_in k_fl_X12_59 rfl)) (fun _ h9 => h9) rfl dX12_viewDay_1 ?_
  refine lv_iconst (v := (0 : Int32)) hx hb dX12_viewDay_4 (by decide) ?_
  obtain ⟨v1, hv1, iv1, hf⟩ := jL_some hf
  refine ja_iald (P := r_t_viewed) hx hb hK hP 2 0 rfl rfl hv1 iv1 dX12_viewDay_5 ?_
  refine lv_iconst (v := (-1 : Int32)) hx hb dX12_viewDay_6 (by decide) ?_
  refine lv_icmp_ne (tgt := 19) hx hb dX12_viewDay_7 (by decide) (fun c2 => ?_) (fun c2 => ?_)
  · replace hf := jif_f c2 hf
    refine lv_aload_n hx hb dX12_viewDay_19 rfl (lv_at hl 0 rfl) ?_
    refine va_get (D := D) (ci := 11) (v := .ref (aX 17)) (C := RX12) (T := TX12) (N := 74) hx hb hts iw_X12 hown hK hP 0 rfl rfl 17 (by decide) (hts _ (wG_in k_fl_X12_59 rfl)) (fun _ h9 => h9) rfl dX12_viewDay_20 ?_
    refine lv_iconst (v := (0 : Int32)) hx hb dX12_viewDay_23 (by decide) ?_
    obtain ⟨v3, hv3, iv3, hf⟩ := jL_some hf
    refine ja_iald (P := r_t_viewed) hx hb hK hP 2 0 rfl rfl hv3 iv3 dX12_viewDay_24 ?_
    have ho := Option.some.inj hf
    subst ho
    exact K _ _ _ _ hP hS dX12_viewDay_25
  · replace hf := jif_t c2 hf
    refine lv_aload_n hx hb dX12_viewDay_10 rfl (lv_at hl 0 rfl) ?_
    refine va_get (D := D) (ci := 11) (v := .ref (aX 16)) (C := RX12) (T := TX12) (N := 74) hx hb hts iw_X12 hown hK hP 0 rfl rfl 16 (by decide) (hts _ (wG_in k_fl_X12_56 rfl)) (fun _ h9 => h9) rfl dX12_viewDay_11 ?_
    refine lv_iconst (v := (0 : Int32)) hx hb dX12_viewDay_14 (by decide) ?_
    obtain ⟨v4, hv4, iv4, hf⟩ := jL_some hf
    refine ja_iald (P := r_t_days) hx hb hK hP 1 0 rfl rfl hv4 iv4 dX12_viewDay_15 ?_
    refine lv_goto (tgt := 25) hx hb dX12_viewDay_16 (by decide) ?_
    have ho := Option.some.inj hf
    subst ho
    exact K _ _ _ _ hP hS dX12_viewDay_25
set_option maxHeartbeats 4000000 in
set_option maxRecDepth 100000 in
theorem c_X12_viewDay (l : Launch) (G : jGt) (D : va_G) (cI cB cZ : ClassId) (a_t : Nat) (aX : Nat → Nat) (u_t_code u_t_n u_t_ahead u_t_length u_t_begins u_t_sort u_t_value u_t_letters : Int32) (u_t_word : Int64) (u_t_wrongAt u_t_laterFault u_t_laterPlace u_t_newClasses u_t_newLines u_t_turns u_t_shortest u_t_orders u_t_rowNumber u_t_ties : Int32) (r_t_days r_t_viewed : jA)  {o : Int32} (hf : f_X12_viewDay r_t_days r_t_viewed = some o) : jMi l yX12_viewDay gX12_viewDay rX12_viewDay G D (jT cI cB cZ) [.ref a_t] (w_X12_viewDay cI cB cZ a_t aX u_t_code u_t_n u_t_ahead u_t_length u_t_begins u_t_sort u_t_value u_t_letters u_t_word u_t_wrongAt u_t_laterFault u_t_laterPlace u_t_newClasses u_t_newLines u_t_turns u_t_shortest u_t_orders u_t_rowNumber u_t_ties r_t_days r_t_viewed) (w_X12_viewDay cI cB cZ a_t aX u_t_code u_t_n u_t_ahead u_t_length u_t_begins u_t_sort u_t_value u_t_letters u_t_word u_t_wrongAt u_t_laterFault u_t_laterPlace u_t_newClasses u_t_newLines u_t_turns u_t_shortest u_t_orders u_t_rowNumber u_t_ties r_t_days r_t_viewed) o := by
  refine jmk_i RX12 rfl (by decide +kernel) rfl (Nat.le_of_ble_eq_true rfl) rfl ?_
  intro p e s m args below meth c ls A Q C hP hD hS hl K
  exact t_X12_viewDay G D cI cB cZ a_t aX u_t_code u_t_n u_t_ahead u_t_length u_t_begins u_t_sort u_t_value u_t_letters u_t_word u_t_wrongAt u_t_laterFault u_t_laterPlace u_t_newClasses u_t_newLines u_t_turns u_t_shortest u_t_orders u_t_rowNumber u_t_ties r_t_days r_t_viewed  C hf K hP hD hS hl
abbrev rX12_person : Room := { frames := 1, cells := 0, slots := 0, locals := 22 }
abbrev gX12_person : List Cond := wG yX12_person cX12_person 3 (some .int)
def w_X12_person (cI cB cZ : ClassId) (a_t : Nat) (aX : Nat → Nat) (u_t_n u_t_ahead u_t_length u_t_begins u_t_sort u_t_value u_t_letters : Int32) (u_t_word : Int64) (u_t_wrongAt u_t_laterFault u_t_laterPlace u_t_newClasses u_t_newLines u_t_turns u_t_shortest u_t_orders u_t_rowNumber u_t_ties s_t_code : Int32) (r_t_fatherOf r_t_motherOf r_t_parentsDay r_t_persons r_t_sexOf : jA) : va_W := [(a_t, .inr (11, (oX12 aX s_t_code u_t_n u_t_ahead u_t_length u_t_begins u_t_sort u_t_value u_t_letters u_t_word u_t_wrongAt u_t_laterFault u_t_laterPlace u_t_newClasses u_t_newLines u_t_turns u_t_shortest u_t_orders u_t_rowNumber u_t_ties))), ((aX 21), .inl (cI, r_t_fatherOf.1, .inl r_t_fatherOf.2)), ((aX 20), .inl (cI, r_t_motherOf.1, .inl r_t_motherOf.2)), ((aX 22), .inl (cI, r_t_parentsDay.1, .inl r_t_parentsDay.2)), ((aX 18), .inl (cI, r_t_persons.1, .inl r_t_persons.2)), ((aX 19), .inl (cI, r_t_sexOf.1, .inl r_t_sexOf.2))]
def f_X12_person (s_t_code : Int32) (r_t_fatherOf r_t_motherOf r_t_parentsDay r_t_persons r_t_sexOf : jA) (x1 : Int32) : Option (Int32 × Int32 × jA × jA × jA × jA × jA) :=
  jL r_t_persons (0 : Int32) fun v1 =>
  if v1 = (24 : Int32) then
  some ((-1 : Int32), (0 : Int32), r_t_fatherOf, r_t_motherOf, r_t_parentsDay, r_t_persons, r_t_sexOf)
  else
  jM (f_X12_in x1 (0 : Int32) (1 : Int32)) fun r3 =>
  if r3 = 0 then
  some ((-1 : Int32), (0 : Int32), r_t_fatherOf, r_t_motherOf, r_t_parentsDay, r_t_persons, r_t_sexOf)
  else
  jL r_t_persons (0 : Int32) fun v5 =>
  jL r_t_persons (0 : Int32) fun v6 =>
  jS r_t_persons (0 : Int32) (v6 + (1 : Int32)) fun q7 =>
  jS r_t_sexOf v5 x1 fun q8 =>
  jS r_t_motherOf v5 (-1 : Int32) fun q9 =>
  jS r_t_fatherOf v5 (-1 : Int32) fun q10 =>
  jS r_t_parentsDay v5 (-1 : Int32) fun q11 =>
  some (v5, (0 : Int32), q10, q9, q11, q7, q8)
set_option maxHeartbeats 4000000 in
set_option maxRecDepth 100000 in
theorem t_X12_person {p : Program} {l : Launch} {e : Env} {s : State} {m : MethodId} {args : Array Value} {below : List Frame} {meth : Method} {c : Code} {A : Nat → Prop} {Q : State → Prop} (G : jGt) (D : va_G) (cI cB cZ : ClassId) (a_t : Nat) (aX : Nat → Nat) (u_t_n u_t_ahead u_t_length u_t_begins u_t_sort u_t_value u_t_letters : Int32) (u_t_word : Int64) (u_t_wrongAt u_t_laterFault u_t_laterPlace u_t_newClasses u_t_newLines u_t_turns u_t_shortest u_t_orders u_t_rowNumber u_t_ties : Int32) (s_t_code : Int32) (r_t_fatherOf r_t_motherOf r_t_parentsDay r_t_persons r_t_sexOf : jA) (x1 : Int32) (C : jCx p s m args c cX12_person 3 gX12_person RX12 G D (jT cI cB cZ) A) {o : Int32 × Int32 × jA × jA × jA × jA × jA} (hf : f_X12_person s_t_code r_t_fatherOf r_t_motherOf r_t_parentsDay r_t_persons r_t_sexOf x1 = some o) (K : ∀ (H : Heap) (locs : List Loc) (pc : Nat) (ls : Array Slot), va_P D vwCl (w_X12_person cI cB cZ a_t aX u_t_n u_t_ahead u_t_length u_t_begins u_t_sort u_t_value u_t_letters u_t_word u_t_wrongAt u_t_laterFault u_t_laterPlace u_t_newClasses u_t_newLines u_t_turns u_t_shortest u_t_orders u_t_rowNumber u_t_ties o.2.1 o.2.2.1 o.2.2.2.1 o.2.2.2.2.1 o.2.2.2.2.2.1 o.2.2.2.2.2.2) H → va_S A s.heap H locs → decode cX12_person pc = .ok (.ireturn, 1) → W p l e rX12_person s m args below meth c H locs 0 0 Q (F0 m pc ls [.int o.1])) {H : Heap} {locs : List Loc} {ls : Array Slot} (hP : va_P D vwCl (w_X12_person cI cB cZ a_t aX u_t_n u_t_ahead u_t_length u_t_begins u_t_sort u_t_value u_t_letters u_t_word u_t_wrongAt u_t_laterFault u_t_laterPlace u_t_newClasses u_t_newLines u_t_turns u_t_shortest u_t_orders u_t_rowNumber u_t_ties s_t_code r_t_fatherOf r_t_motherOf r_t_parentsDay r_t_persons r_t_sexOf) H) (hD : va_D A (w_X12_person cI cB cZ a_t aX u_t_n u_t_ahead u_t_length u_t_begins u_t_sort u_t_value u_t_letters u_t_word u_t_wrongAt u_t_laterFault u_t_laterPlace u_t_newClasses u_t_newLines u_t_turns u_t_shortest u_t_orders u_t_rowNumber u_t_ties s_t_code r_t_fatherOf r_t_motherOf r_t_parentsDay r_t_persons r_t_sexOf)) (hS : va_S A s.heap H locs) (hl : lv_has ls 3 [(0, .ref a_t), (1, .int x1)]) : W p l e rX12_person s m args below meth c H locs 0 0 Q (F0 m 0 ls []) := by
  obtain ⟨⟨hx, hb, hml, hown, hts⟩, hK, hN, hA⟩ := C
  have C : jCx p s m args c cX12_person 3 gX12_person RX12 G D (jT cI cB cZ) A := ⟨⟨hx, hb, hml, hown, hts⟩, hK, hN, hA⟩
  unfold f_X12_person at hf
  refine lv_aload_n hx hb dX12_person_0 rfl (lv_at hl 0 rfl) ?_
  refine lv_iconst (v := (0 : Int32)) hx hb dX12_person_1 (by decide) ?_
  refine va_put (D := D) (ci := 11) (v := .int (0 : Int32)) (ty := .int) (C := RX12) (T := TX12) (N := 74) hx hb hts iw_X12 tyX12 tyX12_ok nmX12 hown hK hP hD hS 0 rfl rfl 0 (by decide) (hts _ (wG_in k_fl_X12_177 rfl)) (fun _ h9 => h9) rfl (tyX12_ok 0 (by decide)) rfl rfl (Nat.le_of_ble_eq_true rfl) dX12_person_2 (fun H locs hP hD hS => ?_)
  have hP : va_P D vwCl (w_X12_person cI cB cZ a_t aX u_t_n u_t_ahead u_t_length u_t_begins u_t_sort u_t_value u_t_letters u_t_word u_t_wrongAt u_t_laterFault u_t_laterPlace u_t_newClasses u_t_newLines u_t_turns u_t_shortest u_t_orders u_t_rowNumber u_t_ties (0 : Int32) r_t_fatherOf r_t_motherOf r_t_parentsDay r_t_persons r_t_sexOf) H := hP
  have hD : va_D A (w_X12_person cI cB cZ a_t aX u_t_n u_t_ahead u_t_length u_t_begins u_t_sort u_t_value u_t_letters u_t_word u_t_wrongAt u_t_laterFault u_t_laterPlace u_t_newClasses u_t_newLines u_t_turns u_t_shortest u_t_orders u_t_rowNumber u_t_ties (0 : Int32) r_t_fatherOf r_t_motherOf r_t_parentsDay r_t_persons r_t_sexOf) := hD
  refine lv_aload_n hx hb dX12_person_5 rfl (lv_at hl 0 rfl) ?_
  refine va_get (D := D) (ci := 11) (v := .ref (aX 18)) (C := RX12) (T := TX12) (N := 74) hx hb hts iw_X12 hown hK hP 0 rfl rfl 18 (by decide) (hts _ (wG_in k_fl_X12_62 rfl)) (fun _ h9 => h9) rfl dX12_person_6 ?_
  refine lv_iconst (v := (0 : Int32)) hx hb dX12_person_9 (by decide) ?_
  obtain ⟨v1, hv1, iv1, hf⟩ := jL_some hf
  refine ja_iald (P := r_t_persons) hx hb hK hP 4 0 rfl rfl hv1 iv1 dX12_person_10 ?_
  refine lv_bipush (v := (24 : Int32)) hx hb dX12_person_11 (by decide) ?_
  refine lv_icmp_eq (tgt := 25) hx hb dX12_person_13 (by decide) (fun c2 => ?_) (fun c2 => ?_)
  · replace hf := jif_t c2 hf
    refine lv_iconst (v := (-1 : Int32)) hx hb dX12_person_25 (by decide) ?_
    have ho := Option.some.inj hf
    subst ho
    exact K _ _ _ _ hP hS dX12_person_26
  · replace hf := jif_f c2 hf
    refine lv_iload_n hx hb dX12_person_16 rfl (lv_at hl 1 rfl) ?_
    refine lv_iconst (v := (0 : Int32)) hx hb dX12_person_17 (by decide) ?_
    refine lv_iconst (v := (1 : Int32)) hx hb dX12_person_18 (by decide) ?_
    obtain ⟨r3, hgr3, hf⟩ := jM_some hf
    refine jcS_i0 (As := [.int x1, .int (0 : Int32), .int (1 : Int32)]) (rest := []) ⟨hx, hb, hml, hown, hts⟩ hK hN hA (c_X12_in l G D cI cB cZ x1 (0 : Int32) (1 : Int32) hgr3) (va_cwS 3 hts (wG_S k_ml_X12_231 k_st_X12_in k_in_X12 k_co_X12_in) rfl rfl rfl hd_X12_in.2 ⟨Nat.le_of_ble_eq_true rfl, Nat.le_of_ble_eq_true rfl⟩) hP hD hS [] rfl rfl rfl rfl hl.1 rfl (Nat.le_of_ble_eq_true rfl) dX12_person_19 ⟨Nat.le_of_ble_eq_true rfl, Nat.le_of_ble_eq_true rfl⟩ (fun H locs hP hD hS => ?_)
    refine lv_if_ne (tgt := 27) hx hb dX12_person_22 (by decide) (fun c4 => ?_) (fun c4 => ?_)
    · replace hf := jif_f c4 hf
      refine lv_aload_n hx hb dX12_person_27 rfl (lv_at hl 0 rfl) ?_
      refine va_get (D := D) (ci := 11) (v := .ref (aX 18)) (C := RX12) (T := TX12) (N := 74) hx hb hts iw_X12 hown hK hP 0 rfl rfl 18 (by decide) (hts _ (wG_in k_fl_X12_62 rfl)) (fun _ h9 => h9) rfl dX12_person_28 ?_
      refine lv_iconst (v := (0 : Int32)) hx hb dX12_person_31 (by decide) ?_
      obtain ⟨v5, hv5, iv5, hf⟩ := jL_some hf
      refine ja_iald (P := r_t_persons) hx hb hK hP 4 0 rfl rfl hv5 iv5 dX12_person_32 ?_
      refine lv_istore_n (lv' := [(2, .int v5), (0, .ref a_t), (1, .int x1)]) hx hb dX12_person_33 rfl hl (by decide) rfl (fun ls hl => ?_)
      refine lv_aload_n hx hb dX12_person_34 rfl (lv_at hl 1 rfl) ?_
      refine va_get (D := D) (ci := 11) (v := .ref (aX 18)) (C := RX12) (T := TX12) (N := 74) hx hb hts iw_X12 hown hK hP 0 rfl rfl 18 (by decide) (hts _ (wG_in k_fl_X12_62 rfl)) (fun _ h9 => h9) rfl dX12_person_35 ?_
      refine lv_iconst (v := (0 : Int32)) hx hb dX12_person_38 (by decide) ?_
      refine lv_dup2_11 hx hb dX12_person_39 rfl rfl ?_
      obtain ⟨v6, hv6, iv6, hf⟩ := jL_some hf
      refine ja_iald (P := r_t_persons) hx hb hK hP 4 0 rfl rfl hv6 iv6 dX12_person_40 ?_
      refine lv_iconst (v := (1 : Int32)) hx hb dX12_person_41 (by decide) ?_
      refine lv_iadd hx hb dX12_person_42 ?_
      obtain ⟨q7, hq7, iq7, hf⟩ := jS_some hf
      refine ja_iast (P := r_t_persons) (P' := q7) hx hb hK hP hD hS 4 0 rfl rfl hq7 iq7 dX12_person_43 (fun H locs hP hD hS => ?_)
      have hP : va_P D vwCl (w_X12_person cI cB cZ a_t aX u_t_n u_t_ahead u_t_length u_t_begins u_t_sort u_t_value u_t_letters u_t_word u_t_wrongAt u_t_laterFault u_t_laterPlace u_t_newClasses u_t_newLines u_t_turns u_t_shortest u_t_orders u_t_rowNumber u_t_ties (0 : Int32) r_t_fatherOf r_t_motherOf r_t_parentsDay q7 r_t_sexOf) H := hP
      have hD : va_D A (w_X12_person cI cB cZ a_t aX u_t_n u_t_ahead u_t_length u_t_begins u_t_sort u_t_value u_t_letters u_t_word u_t_wrongAt u_t_laterFault u_t_laterPlace u_t_newClasses u_t_newLines u_t_turns u_t_shortest u_t_orders u_t_rowNumber u_t_ties (0 : Int32) r_t_fatherOf r_t_motherOf r_t_parentsDay q7 r_t_sexOf) := hD
      refine lv_aload_n hx hb dX12_person_44 rfl (lv_at hl 1 rfl) ?_
      refine va_get (D := D) (ci := 11) (v := .ref (aX 19)) (C := RX12) (T := TX12) (N := 74) hx hb hts iw_X12 hown hK hP 0 rfl rfl 19 (by decide) (hts _ (wG_in k_fl_X12_65 rfl)) (fun _ h9 => h9) rfl dX12_person_45 ?_
      refine lv_iload_n hx hb dX12_person_48 rfl (lv_at hl 0 rfl) ?_
      refine lv_iload_n hx hb dX12_person_49 rfl (lv_at hl 2 rfl) ?_
      obtain ⟨q8, hq8, iq8, hf⟩ := jS_some hf
      refine ja_iast (P := r_t_sexOf) (P' := q8) hx hb hK hP hD hS 5 0 rfl rfl hq8 iq8 dX12_person_50 (fun H locs hP hD hS => ?_)
      have hP : va_P D vwCl (w_X12_person cI cB cZ a_t aX u_t_n u_t_ahead u_t_length u_t_begins u_t_sort u_t_value u_t_letters u_t_word u_t_wrongAt u_t_laterFault u_t_laterPlace u_t_newClasses u_t_newLines u_t_turns u_t_shortest u_t_orders u_t_rowNumber u_t_ties (0 : Int32) r_t_fatherOf r_t_motherOf r_t_parentsDay q7 q8) H := hP
      have hD : va_D A (w_X12_person cI cB cZ a_t aX u_t_n u_t_ahead u_t_length u_t_begins u_t_sort u_t_value u_t_letters u_t_word u_t_wrongAt u_t_laterFault u_t_laterPlace u_t_newClasses u_t_newLines u_t_turns u_t_shortest u_t_orders u_t_rowNumber u_t_ties (0 : Int32) r_t_fatherOf r_t_motherOf r_t_parentsDay q7 q8) := hD
      refine lv_aload_n hx hb dX12_person_51 rfl (lv_at hl 1 rfl) ?_
      refine va_get (D := D) (ci := 11) (v := .ref (aX 20)) (C := RX12) (T := TX12) (N := 74) hx hb hts iw_X12 hown hK hP 0 rfl rfl 20 (by decide) (hts _ (wG_in k_fl_X12_68 rfl)) (fun _ h9 => h9) rfl dX12_person_52 ?_
      refine lv_iload_n hx hb dX12_person_55 rfl (lv_at hl 0 rfl) ?_
      refine lv_iconst (v := (-1 : Int32)) hx hb dX12_person_56 (by decide) ?_
      obtain ⟨q9, hq9, iq9, hf⟩ := jS_some hf
      refine ja_iast (P := r_t_motherOf) (P' := q9) hx hb hK hP hD hS 2 0 rfl rfl hq9 iq9 dX12_person_57 (fun H locs hP hD hS => ?_)
      have hP : va_P D vwCl (w_X12_person cI cB cZ a_t aX u_t_n u_t_ahead u_t_length u_t_begins u_t_sort u_t_value u_t_letters u_t_word u_t_wrongAt u_t_laterFault u_t_laterPlace u_t_newClasses u_t_newLines u_t_turns u_t_shortest u_t_orders u_t_rowNumber u_t_ties (0 : Int32) r_t_fatherOf q9 r_t_parentsDay q7 q8) H := hP
      have hD : va_D A (w_X12_person cI cB cZ a_t aX u_t_n u_t_ahead u_t_length u_t_begins u_t_sort u_t_value u_t_letters u_t_word u_t_wrongAt u_t_laterFault u_t_laterPlace u_t_newClasses u_t_newLines u_t_turns u_t_shortest u_t_orders u_t_rowNumber u_t_ties (0 : Int32) r_t_fatherOf q9 r_t_parentsDay q7 q8) := hD
      refine lv_aload_n hx hb dX12_person_58 rfl (lv_at hl 1 rfl) ?_
      refine va_get (D := D) (ci := 11) (v := .ref (aX 21)) (C := RX12) (T := TX12) (N := 74) hx hb hts iw_X12 hown hK hP 0 rfl rfl 21 (by decide) (hts _ (wG_in k_fl_X12_71 rfl)) (fun _ h9 => h9) rfl dX12_person_59 ?_
      refine lv_iload_n hx hb dX12_person_62 rfl (lv_at hl 0 rfl) ?_
      refine lv_iconst (v := (-1 : Int32)) hx hb dX12_person_63 (by decide) ?_
      obtain ⟨q10, hq10, iq10, hf⟩ := jS_some hf
      refine ja_iast (P := r_t_fatherOf) (P' := q10) hx hb hK hP hD hS 1 0 rfl rfl hq10 iq10 dX12_person_64 (fun H locs hP hD hS => ?_)
      have hP : va_P D vwCl (w_X12_person cI cB cZ a_t aX u_t_n u_t_ahead u_t_length u_t_begins u_t_sort u_t_value u_t_letters u_t_word u_t_wrongAt u_t_laterFault u_t_laterPlace u_t_newClasses u_t_newLines u_t_turns u_t_shortest u_t_orders u_t_rowNumber u_t_ties (0 : Int32) q10 q9 r_t_parentsDay q7 q8) H := hP
      have hD : va_D A (w_X12_person cI cB cZ a_t aX u_t_n u_t_ahead u_t_length u_t_begins u_t_sort u_t_value u_t_letters u_t_word u_t_wrongAt u_t_laterFault u_t_laterPlace u_t_newClasses u_t_newLines u_t_turns u_t_shortest u_t_orders u_t_rowNumber u_t_ties (0 : Int32) q10 q9 r_t_parentsDay q7 q8) := hD
      refine lv_aload_n hx hb dX12_person_65 rfl (lv_at hl 1 rfl) ?_
      refine va_get (D := D) (ci := 11) (v := .ref (aX 22)) (C := RX12) (T := TX12) (N := 74) hx hb hts iw_X12 hown hK hP 0 rfl rfl 22 (by decide) (hts _ (wG_in k_fl_X12_74 rfl)) (fun _ h9 => h9) rfl dX12_person_66 ?_
      refine lv_iload_n hx hb dX12_person_69 rfl (lv_at hl 0 rfl) ?_
      refine lv_iconst (v := (-1 : Int32)) hx hb dX12_person_70 (by decide) ?_
      obtain ⟨q11, hq11, iq11, hf⟩ := jS_some hf
      refine ja_iast (P := r_t_parentsDay) (P' := q11) hx hb hK hP hD hS 3 0 rfl rfl hq11 iq11 dX12_person_71 (fun H locs hP hD hS => ?_)
      have hP : va_P D vwCl (w_X12_person cI cB cZ a_t aX u_t_n u_t_ahead u_t_length u_t_begins u_t_sort u_t_value u_t_letters u_t_word u_t_wrongAt u_t_laterFault u_t_laterPlace u_t_newClasses u_t_newLines u_t_turns u_t_shortest u_t_orders u_t_rowNumber u_t_ties (0 : Int32) q10 q9 q11 q7 q8) H := hP
      have hD : va_D A (w_X12_person cI cB cZ a_t aX u_t_n u_t_ahead u_t_length u_t_begins u_t_sort u_t_value u_t_letters u_t_word u_t_wrongAt u_t_laterFault u_t_laterPlace u_t_newClasses u_t_newLines u_t_turns u_t_shortest u_t_orders u_t_rowNumber u_t_ties (0 : Int32) q10 q9 q11 q7 q8) := hD
      refine lv_iload_n hx hb dX12_person_72 rfl (lv_at hl 0 rfl) ?_
      have ho := Option.some.inj hf
      subst ho
      exact K _ _ _ _ hP hS dX12_person_73
    · replace hf := jif_t c4 hf
      refine lv_iconst (v := (-1 : Int32)) hx hb dX12_person_25 (by decide) ?_
      have ho := Option.some.inj hf
      subst ho
      exact K _ _ _ _ hP hS dX12_person_26
set_option maxHeartbeats 4000000 in
set_option maxRecDepth 100000 in
theorem c_X12_person (l : Launch) (G : jGt) (D : va_G) (cI cB cZ : ClassId) (a_t : Nat) (aX : Nat → Nat) (u_t_n u_t_ahead u_t_length u_t_begins u_t_sort u_t_value u_t_letters : Int32) (u_t_word : Int64) (u_t_wrongAt u_t_laterFault u_t_laterPlace u_t_newClasses u_t_newLines u_t_turns u_t_shortest u_t_orders u_t_rowNumber u_t_ties : Int32) (s_t_code : Int32) (r_t_fatherOf r_t_motherOf r_t_parentsDay r_t_persons r_t_sexOf : jA) (x1 : Int32) {o : Int32 × Int32 × jA × jA × jA × jA × jA} (hf : f_X12_person s_t_code r_t_fatherOf r_t_motherOf r_t_parentsDay r_t_persons r_t_sexOf x1 = some o) : jMi l yX12_person gX12_person rX12_person G D (jT cI cB cZ) [.ref a_t, .int x1] (w_X12_person cI cB cZ a_t aX u_t_n u_t_ahead u_t_length u_t_begins u_t_sort u_t_value u_t_letters u_t_word u_t_wrongAt u_t_laterFault u_t_laterPlace u_t_newClasses u_t_newLines u_t_turns u_t_shortest u_t_orders u_t_rowNumber u_t_ties s_t_code r_t_fatherOf r_t_motherOf r_t_parentsDay r_t_persons r_t_sexOf) (w_X12_person cI cB cZ a_t aX u_t_n u_t_ahead u_t_length u_t_begins u_t_sort u_t_value u_t_letters u_t_word u_t_wrongAt u_t_laterFault u_t_laterPlace u_t_newClasses u_t_newLines u_t_turns u_t_shortest u_t_orders u_t_rowNumber u_t_ties o.2.1 o.2.2.1 o.2.2.2.1 o.2.2.2.2.1 o.2.2.2.2.2.1 o.2.2.2.2.2.2) o.1 := by
  refine jmk_i RX12 rfl (by decide +kernel) rfl (Nat.le_of_ble_eq_true rfl) rfl ?_
  intro p e s m args below meth c ls A Q C hP hD hS hl K
  exact t_X12_person G D cI cB cZ a_t aX u_t_n u_t_ahead u_t_length u_t_begins u_t_sort u_t_value u_t_letters u_t_word u_t_wrongAt u_t_laterFault u_t_laterPlace u_t_newClasses u_t_newLines u_t_turns u_t_shortest u_t_orders u_t_rowNumber u_t_ties s_t_code r_t_fatherOf r_t_motherOf r_t_parentsDay r_t_persons r_t_sexOf x1 C hf K hP hD hS hl
abbrev rX12_parents : Room := { frames := 2, cells := 0, slots := 0, locals := 43 }
abbrev gX12_parents : List Cond := wG yX12_parents cX12_parents 6 (some .boolean)
def w_X12_parents (cI cB cZ : ClassId) (a_t : Nat) (aX : Nat → Nat) (u_t_n u_t_ahead u_t_length u_t_begins u_t_sort u_t_value u_t_letters : Int32) (u_t_word : Int64) (u_t_wrongAt u_t_laterFault u_t_laterPlace u_t_newClasses u_t_newLines u_t_turns u_t_shortest u_t_orders u_t_rowNumber u_t_ties s_t_code : Int32) (r_t_days r_t_fatherOf r_t_motherOf r_t_parentsDay r_t_persons r_t_sexOf : jA) : va_W := [(a_t, .inr (11, (oX12 aX s_t_code u_t_n u_t_ahead u_t_length u_t_begins u_t_sort u_t_value u_t_letters u_t_word u_t_wrongAt u_t_laterFault u_t_laterPlace u_t_newClasses u_t_newLines u_t_turns u_t_shortest u_t_orders u_t_rowNumber u_t_ties))), ((aX 16), .inl (cI, r_t_days.1, .inl r_t_days.2)), ((aX 21), .inl (cI, r_t_fatherOf.1, .inl r_t_fatherOf.2)), ((aX 20), .inl (cI, r_t_motherOf.1, .inl r_t_motherOf.2)), ((aX 22), .inl (cI, r_t_parentsDay.1, .inl r_t_parentsDay.2)), ((aX 18), .inl (cI, r_t_persons.1, .inl r_t_persons.2)), ((aX 19), .inl (cI, r_t_sexOf.1, .inl r_t_sexOf.2))]
def f_X12_parents_j92 (r_t_days : jA) (s_t_code : Int32) (r_t_fatherOf r_t_motherOf r_t_parentsDay : jA) (x1 x2 x3 x4 x5 : Int32) : Option (Int32 × Int32 × jA × jA × jA) :=
  if x4 = 0 then
  some ((0 : Int32), s_t_code, r_t_fatherOf, r_t_motherOf, r_t_parentsDay)
  else
  if x5 = 0 then
  some ((0 : Int32), s_t_code, r_t_fatherOf, r_t_motherOf, r_t_parentsDay)
  else
  jL r_t_parentsDay x1 fun v8 =>
  if v8 = (-1 : Int32) then
  jS r_t_motherOf x1 x2 fun q10 =>
  jS r_t_fatherOf x1 x3 fun q11 =>
  jL r_t_days (0 : Int32) fun v12 =>
  jS r_t_parentsDay x1 v12 fun q13 =>
  some ((1 : Int32), s_t_code, q11, q10, q13)
  else
  some ((0 : Int32), s_t_code, r_t_fatherOf, r_t_motherOf, r_t_parentsDay)
set_option maxHeartbeats 4000000 in
set_option maxRecDepth 100000 in
theorem t_X12_parents_j92 {p : Program} {l : Launch} {e : Env} {s : State} {m : MethodId} {args : Array Value} {below : List Frame} {meth : Method} {c : Code} {A : Nat → Prop} {Q : State → Prop} (G : jGt) (D : va_G) (cI cB cZ : ClassId) (a_t : Nat) (aX : Nat → Nat) (u_t_n u_t_ahead u_t_length u_t_begins u_t_sort u_t_value u_t_letters : Int32) (u_t_word : Int64) (u_t_wrongAt u_t_laterFault u_t_laterPlace u_t_newClasses u_t_newLines u_t_turns u_t_shortest u_t_orders u_t_rowNumber u_t_ties : Int32) (r_t_days r_t_persons r_t_sexOf : jA) (s_t_code : Int32) (r_t_fatherOf r_t_motherOf r_t_parentsDay : jA) (x1 x2 x3 x4 x5 : Int32) (C : jCx p s m args c cX12_parents 6 gX12_parents RX12 G D (jT cI cB cZ) A) {o : Int32 × Int32 × jA × jA × jA} (hf : f_X12_parents_j92 r_t_days s_t_code r_t_fatherOf r_t_motherOf r_t_parentsDay x1 x2 x3 x4 x5 = some o) (K : ∀ (H : Heap) (locs : List Loc) (pc : Nat) (ls : Array Slot), (o.1 = 0 ∨ o.1 = 1) → va_P D vwCl (w_X12_parents cI cB cZ a_t aX u_t_n u_t_ahead u_t_length u_t_begins u_t_sort u_t_value u_t_letters u_t_word u_t_wrongAt u_t_laterFault u_t_laterPlace u_t_newClasses u_t_newLines u_t_turns u_t_shortest u_t_orders u_t_rowNumber u_t_ties o.2.1 r_t_days o.2.2.1 o.2.2.2.1 o.2.2.2.2 r_t_persons r_t_sexOf) H → va_S A s.heap H locs → decode cX12_parents pc = .ok (.ireturn, 1) → W p l e rX12_parents s m args below meth c H locs 0 0 Q (F0 m pc ls [.int o.1])) {H : Heap} {locs : List Loc} {ls : Array Slot} (hP : va_P D vwCl (w_X12_parents cI cB cZ a_t aX u_t_n u_t_ahead u_t_length u_t_begins u_t_sort u_t_value u_t_letters u_t_word u_t_wrongAt u_t_laterFault u_t_laterPlace u_t_newClasses u_t_newLines u_t_turns u_t_shortest u_t_orders u_t_rowNumber u_t_ties s_t_code r_t_days r_t_fatherOf r_t_motherOf r_t_parentsDay r_t_persons r_t_sexOf) H) (hD : va_D A (w_X12_parents cI cB cZ a_t aX u_t_n u_t_ahead u_t_length u_t_begins u_t_sort u_t_value u_t_letters u_t_word u_t_wrongAt u_t_laterFault u_t_laterPlace u_t_newClasses u_t_newLines u_t_turns u_t_shortest u_t_orders u_t_rowNumber u_t_ties s_t_code r_t_days r_t_fatherOf r_t_motherOf r_t_parentsDay r_t_persons r_t_sexOf)) (hS : va_S A s.heap H locs) (hl : lv_has ls 6 [(0, .ref a_t), (1, .int x1), (2, .int x2), (3, .int x3), (4, .int x4), (5, .int x5)]) : W p l e rX12_parents s m args below meth c H locs 0 0 Q (F0 m 92 ls []) := by
  obtain ⟨⟨hx, hb, hml, hown, hts⟩, hK, hN, hA⟩ := C
  have C : jCx p s m args c cX12_parents 6 gX12_parents RX12 G D (jT cI cB cZ) A := ⟨⟨hx, hb, hml, hown, hts⟩, hK, hN, hA⟩
  unfold f_X12_parents_j92 at hf
  refine lv_iload hx hb dX12_parents_92 (lv_at hl 4 rfl) ?_
  refine lv_if_eq (tgt := 112) hx hb dX12_parents_94 (by decide) (fun c6 => ?_) (fun c6 => ?_)
  · replace hf := jif_t c6 hf
    refine lv_iconst (v := (0 : Int32)) hx hb dX12_parents_112 (by decide) ?_
    have ho := Option.some.inj hf
    subst ho
    exact K _ _ _ _ (Or.inl rfl) hP hS dX12_parents_113
  · replace hf := jif_f c6 hf
    refine lv_iload hx hb dX12_parents_97 (lv_at hl 5 rfl) ?_
    refine lv_if_eq (tgt := 112) hx hb dX12_parents_99 (by decide) (fun c7 => ?_) (fun c7 => ?_)
    · replace hf := jif_t c7 hf
      refine lv_iconst (v := (0 : Int32)) hx hb dX12_parents_112 (by decide) ?_
      have ho := Option.some.inj hf
      subst ho
      exact K _ _ _ _ (Or.inl rfl) hP hS dX12_parents_113
    · replace hf := jif_f c7 hf
      refine lv_aload_n hx hb dX12_parents_102 rfl (lv_at hl 0 rfl) ?_
      refine va_get (D := D) (ci := 11) (v := .ref (aX 22)) (C := RX12) (T := TX12) (N := 74) hx hb hts iw_X12 hown hK hP 0 rfl rfl 22 (by decide) (hts _ (wG_in k_fl_X12_74 rfl)) (fun _ h9 => h9) rfl dX12_parents_103 ?_
      refine lv_iload_n hx hb dX12_parents_106 rfl (lv_at hl 1 rfl) ?_
      obtain ⟨v8, hv8, iv8, hf⟩ := jL_some hf
      refine ja_iald (P := r_t_parentsDay) hx hb hK hP 4 0 rfl rfl hv8 iv8 dX12_parents_107 ?_
      refine lv_iconst (v := (-1 : Int32)) hx hb dX12_parents_108 (by decide) ?_
      refine lv_icmp_eq (tgt := 114) hx hb dX12_parents_109 (by decide) (fun c9 => ?_) (fun c9 => ?_)
      · replace hf := jif_t c9 hf
        refine lv_aload_n hx hb dX12_parents_114 rfl (lv_at hl 0 rfl) ?_
        refine va_get (D := D) (ci := 11) (v := .ref (aX 20)) (C := RX12) (T := TX12) (N := 74) hx hb hts iw_X12 hown hK hP 0 rfl rfl 20 (by decide) (hts _ (wG_in k_fl_X12_68 rfl)) (fun _ h9 => h9) rfl dX12_parents_115 ?_
        refine lv_iload_n hx hb dX12_parents_118 rfl (lv_at hl 1 rfl) ?_
        refine lv_iload_n hx hb dX12_parents_119 rfl (lv_at hl 2 rfl) ?_
        obtain ⟨q10, hq10, iq10, hf⟩ := jS_some hf
        refine ja_iast (P := r_t_motherOf) (P' := q10) hx hb hK hP hD hS 3 0 rfl rfl hq10 iq10 dX12_parents_120 (fun H locs hP hD hS => ?_)
        have hP : va_P D vwCl (w_X12_parents cI cB cZ a_t aX u_t_n u_t_ahead u_t_length u_t_begins u_t_sort u_t_value u_t_letters u_t_word u_t_wrongAt u_t_laterFault u_t_laterPlace u_t_newClasses u_t_newLines u_t_turns u_t_shortest u_t_orders u_t_rowNumber u_t_ties s_t_code r_t_days r_t_fatherOf q10 r_t_parentsDay r_t_persons r_t_sexOf) H := hP
        have hD : va_D A (w_X12_parents cI cB cZ a_t aX u_t_n u_t_ahead u_t_length u_t_begins u_t_sort u_t_value u_t_letters u_t_word u_t_wrongAt u_t_laterFault u_t_laterPlace u_t_newClasses u_t_newLines u_t_turns u_t_shortest u_t_orders u_t_rowNumber u_t_ties s_t_code r_t_days r_t_fatherOf q10 r_t_parentsDay r_t_persons r_t_sexOf) := hD
        refine lv_aload_n hx hb dX12_parents_121 rfl (lv_at hl 0 rfl) ?_
        refine va_get (D := D) (ci := 11) (v := .ref (aX 21)) (C := RX12) (T := TX12) (N := 74) hx hb hts iw_X12 hown hK hP 0 rfl rfl 21 (by decide) (hts _ (wG_in k_fl_X12_71 rfl)) (fun _ h9 => h9) rfl dX12_parents_122 ?_
        refine lv_iload_n hx hb dX12_parents_125 rfl (lv_at hl 1 rfl) ?_
        refine lv_iload_n hx hb dX12_parents_126 rfl (lv_at hl 3 rfl) ?_
        obtain ⟨q11, hq11, iq11, hf⟩ := jS_some hf
        refine ja_iast (P := r_t_fatherOf) (P' := q11) hx hb hK hP hD hS 2 0 rfl rfl hq11 iq11 dX12_parents_127 (fun H locs hP hD hS => ?_)
        have hP : va_P D vwCl (w_X12_parents cI cB cZ a_t aX u_t_n u_t_ahead u_t_length u_t_begins u_t_sort u_t_value u_t_letters u_t_word u_t_wrongAt u_t_laterFault u_t_laterPlace u_t_newClasses u_t_newLines u_t_turns u_t_shortest u_t_orders u_t_rowNumber u_t_ties s_t_code r_t_days q11 q10 r_t_parentsDay r_t_persons r_t_sexOf) H := hP
        have hD : va_D A (w_X12_parents cI cB cZ a_t aX u_t_n u_t_ahead u_t_length u_t_begins u_t_sort u_t_value u_t_letters u_t_word u_t_wrongAt u_t_laterFault u_t_laterPlace u_t_newClasses u_t_newLines u_t_turns u_t_shortest u_t_orders u_t_rowNumber u_t_ties s_t_code r_t_days q11 q10 r_t_parentsDay r_t_persons r_t_sexOf) := hD
        refine lv_aload_n hx hb dX12_parents_128 rfl (lv_at hl 0 rfl) ?_
        refine va_get (D := D) (ci := 11) (v := .ref (aX 22)) (C := RX12) (T := TX12) (N := 74) hx hb hts iw_X12 hown hK hP 0 rfl rfl 22 (by decide) (hts _ (wG_in k_fl_X12_74 rfl)) (fun _ h9 => h9) rfl dX12_parents_129 ?_
        refine lv_iload_n hx hb dX12_parents_132 rfl (lv_at hl 1 rfl) ?_
        refine lv_aload_n hx hb dX12_parents_133 rfl (lv_at hl 0 rfl) ?_
        refine va_get (D := D) (ci := 11) (v := .ref (aX 16)) (C := RX12) (T := TX12) (N := 74) hx hb hts iw_X12 hown hK hP 0 rfl rfl 16 (by decide) (hts _ (wG_in k_fl_X12_56 rfl)) (fun _ h9 => h9) rfl dX12_parents_134 ?_
        refine lv_iconst (v := (0 : Int32)) hx hb dX12_parents_137 (by decide) ?_
        obtain ⟨v12, hv12, iv12, hf⟩ := jL_some hf
        refine ja_iald (P := r_t_days) hx hb hK hP 1 0 rfl rfl hv12 iv12 dX12_parents_138 ?_
        obtain ⟨q13, hq13, iq13, hf⟩ := jS_some hf
        refine ja_iast (P := r_t_parentsDay) (P' := q13) hx hb hK hP hD hS 4 0 rfl rfl hq13 iq13 dX12_parents_139 (fun H locs hP hD hS => ?_)
        have hP : va_P D vwCl (w_X12_parents cI cB cZ a_t aX u_t_n u_t_ahead u_t_length u_t_begins u_t_sort u_t_value u_t_letters u_t_word u_t_wrongAt u_t_laterFault u_t_laterPlace u_t_newClasses u_t_newLines u_t_turns u_t_shortest u_t_orders u_t_rowNumber u_t_ties s_t_code r_t_days q11 q10 q13 r_t_persons r_t_sexOf) H := hP
        have hD : va_D A (w_X12_parents cI cB cZ a_t aX u_t_n u_t_ahead u_t_length u_t_begins u_t_sort u_t_value u_t_letters u_t_word u_t_wrongAt u_t_laterFault u_t_laterPlace u_t_newClasses u_t_newLines u_t_turns u_t_shortest u_t_orders u_t_rowNumber u_t_ties s_t_code r_t_days q11 q10 q13 r_t_persons r_t_sexOf) := hD
        refine lv_iconst (v := (1 : Int32)) hx hb dX12_parents_140 (by decide) ?_
        have ho := Option.some.inj hf
        subst ho
        exact K _ _ _ _ (Or.inr rfl) hP hS dX12_parents_141
      · replace hf := jif_f c9 hf
        refine lv_iconst (v := (0 : Int32)) hx hb dX12_parents_112 (by decide) ?_
        have ho := Option.some.inj hf
        subst ho
        exact K _ _ _ _ (Or.inl rfl) hP hS dX12_parents_113
def f_X12_parents_j72 (r_t_days r_t_persons : jA) (s_t_code : Int32) (r_t_fatherOf r_t_motherOf r_t_parentsDay : jA) (x1 x2 x3 x4 k0 : Int32) : Option (Int32 × Int32 × jA × jA × jA) :=
  jM (f_X12_isPerson r_t_persons x1) fun r3 =>
  if r3 = 0 then
  some ((0 : Int32), s_t_code, r_t_fatherOf, r_t_motherOf, r_t_parentsDay)
  else
  if x2 = (-1 : Int32) then
  if x3 = (-1 : Int32) then
  some ((0 : Int32), s_t_code, r_t_fatherOf, r_t_motherOf, r_t_parentsDay)
  else
  f_X12_parents_j92 r_t_days s_t_code r_t_fatherOf r_t_motherOf r_t_parentsDay x1 x2 x3 x4 k0
  else
  f_X12_parents_j92 r_t_days s_t_code r_t_fatherOf r_t_motherOf r_t_parentsDay x1 x2 x3 x4 k0
set_option maxHeartbeats 4000000 in
set_option maxRecDepth 100000 in
theorem t_X12_parents_j72 {p : Program} {l : Launch} {e : Env} {s : State} {m : MethodId} {args : Array Value} {below : List Frame} {meth : Method} {c : Code} {A : Nat → Prop} {Q : State → Prop} (G : jGt) (D : va_G) (cI cB cZ : ClassId) (a_t : Nat) (aX : Nat → Nat) (u_t_n u_t_ahead u_t_length u_t_begins u_t_sort u_t_value u_t_letters : Int32) (u_t_word : Int64) (u_t_wrongAt u_t_laterFault u_t_laterPlace u_t_newClasses u_t_newLines u_t_turns u_t_shortest u_t_orders u_t_rowNumber u_t_ties : Int32) (r_t_days r_t_persons r_t_sexOf : jA) (s_t_code : Int32) (r_t_fatherOf r_t_motherOf r_t_parentsDay : jA) (x1 x2 x3 x4 k0 : Int32) (C : jCx p s m args c cX12_parents 6 gX12_parents RX12 G D (jT cI cB cZ) A) {o : Int32 × Int32 × jA × jA × jA} (hf : f_X12_parents_j72 r_t_days r_t_persons s_t_code r_t_fatherOf r_t_motherOf r_t_parentsDay x1 x2 x3 x4 k0 = some o) (K : ∀ (H : Heap) (locs : List Loc) (pc : Nat) (ls : Array Slot), (o.1 = 0 ∨ o.1 = 1) → va_P D vwCl (w_X12_parents cI cB cZ a_t aX u_t_n u_t_ahead u_t_length u_t_begins u_t_sort u_t_value u_t_letters u_t_word u_t_wrongAt u_t_laterFault u_t_laterPlace u_t_newClasses u_t_newLines u_t_turns u_t_shortest u_t_orders u_t_rowNumber u_t_ties o.2.1 r_t_days o.2.2.1 o.2.2.2.1 o.2.2.2.2 r_t_persons r_t_sexOf) H → va_S A s.heap H locs → decode cX12_parents pc = .ok (.ireturn, 1) → W p l e rX12_parents s m args below meth c H locs 0 0 Q (F0 m pc ls [.int o.1])) {H : Heap} {locs : List Loc} {ls : Array Slot} (hP : va_P D vwCl (w_X12_parents cI cB cZ a_t aX u_t_n u_t_ahead u_t_length u_t_begins u_t_sort u_t_value u_t_letters u_t_word u_t_wrongAt u_t_laterFault u_t_laterPlace u_t_newClasses u_t_newLines u_t_turns u_t_shortest u_t_orders u_t_rowNumber u_t_ties s_t_code r_t_days r_t_fatherOf r_t_motherOf r_t_parentsDay r_t_persons r_t_sexOf) H) (hD : va_D A (w_X12_parents cI cB cZ a_t aX u_t_n u_t_ahead u_t_length u_t_begins u_t_sort u_t_value u_t_letters u_t_word u_t_wrongAt u_t_laterFault u_t_laterPlace u_t_newClasses u_t_newLines u_t_turns u_t_shortest u_t_orders u_t_rowNumber u_t_ties s_t_code r_t_days r_t_fatherOf r_t_motherOf r_t_parentsDay r_t_persons r_t_sexOf)) (hS : va_S A s.heap H locs) (hl : lv_has ls 6 [(0, .ref a_t), (1, .int x1), (2, .int x2), (3, .int x3), (4, .int x4)]) : W p l e rX12_parents s m args below meth c H locs 0 0 Q (F0 m 72 ls [.int k0]) := by
  obtain ⟨⟨hx, hb, hml, hown, hts⟩, hK, hN, hA⟩ := C
  have C : jCx p s m args c cX12_parents 6 gX12_parents RX12 G D (jT cI cB cZ) A := ⟨⟨hx, hb, hml, hown, hts⟩, hK, hN, hA⟩
  unfold f_X12_parents_j72 at hf
  refine lv_istore (lv' := [(5, .int k0), (0, .ref a_t), (1, .int x1), (2, .int x2), (3, .int x3), (4, .int x4)]) hx hb dX12_parents_72 hl (by decide) rfl (fun ls hl => ?_)
  refine lv_aload_n hx hb dX12_parents_74 rfl (lv_at hl 1 rfl) ?_
  refine lv_iload_n hx hb dX12_parents_75 rfl (lv_at hl 2 rfl) ?_
  obtain ⟨r3, hgr3, hf⟩ := jM_some hf
  refine jcV_i0 (As := [.int x1]) (rest := []) ⟨hx, hb, hml, hown, hts⟩ hK hN hA (c_X12_isPerson l G D cI cB cZ a_t aX s_t_code u_t_n u_t_ahead u_t_length u_t_begins u_t_sort u_t_value u_t_letters u_t_word u_t_wrongAt u_t_laterFault u_t_laterPlace u_t_newClasses u_t_newLines u_t_turns u_t_shortest u_t_orders u_t_rowNumber u_t_ties r_t_persons x1 hgr3) (cwV 1 hts (wG_V k_ml_X12_407 k_im_X12_isPerson k_se_X12_isPerson k_in_X12 k_co_X12_isPerson) rfl rfl rfl hd_X12_isPerson ⟨Nat.le_of_ble_eq_true rfl, Nat.le_of_ble_eq_true rfl⟩) hP hD hS [0, 5] rfl rfl rfl (ci := 11) rfl 0 rfl rfl rfl hl.1 rfl (Nat.le_of_ble_eq_true rfl) dX12_parents_76 ⟨Nat.le_of_ble_eq_true rfl, Nat.le_of_ble_eq_true rfl⟩ (fun H locs hP hD hS => ?_)
  refine lv_if_eq (tgt := 112) hx hb dX12_parents_79 (by decide) (fun c4 => ?_) (fun c4 => ?_)
  · replace hf := jif_t c4 hf
    refine lv_iconst (v := (0 : Int32)) hx hb dX12_parents_112 (by decide) ?_
    have ho := Option.some.inj hf
    subst ho
    exact K _ _ _ _ (Or.inl rfl) hP hS dX12_parents_113
  · replace hf := jif_f c4 hf
    refine lv_iload_n hx hb dX12_parents_82 rfl (lv_at hl 3 rfl) ?_
    refine lv_iconst (v := (-1 : Int32)) hx hb dX12_parents_83 (by decide) ?_
    refine lv_icmp_ne (tgt := 92) hx hb dX12_parents_84 (by decide) (fun c5 => ?_) (fun c5 => ?_)
    · replace hf := jif_f c5 hf
      exact t_X12_parents_j92 G D cI cB cZ a_t aX u_t_n u_t_ahead u_t_length u_t_begins u_t_sort u_t_value u_t_letters u_t_word u_t_wrongAt u_t_laterFault u_t_laterPlace u_t_newClasses u_t_newLines u_t_turns u_t_shortest u_t_orders u_t_rowNumber u_t_ties r_t_days r_t_persons r_t_sexOf s_t_code r_t_fatherOf r_t_motherOf r_t_parentsDay x1 x2 x3 x4 k0 C hf K hP hD hS (lv_sub hl [1, 2, 3, 4, 5, 0] rfl)
    · replace hf := jif_t c5 hf
      refine lv_iload_n hx hb dX12_parents_87 rfl (lv_at hl 4 rfl) ?_
      refine lv_iconst (v := (-1 : Int32)) hx hb dX12_parents_88 (by decide) ?_
      refine lv_icmp_eq (tgt := 112) hx hb dX12_parents_89 (by decide) (fun c14 => ?_) (fun c14 => ?_)
      · replace hf := jif_t c14 hf
        refine lv_iconst (v := (0 : Int32)) hx hb dX12_parents_112 (by decide) ?_
        have ho := Option.some.inj hf
        subst ho
        exact K _ _ _ _ (Or.inl rfl) hP hS dX12_parents_113
      · replace hf := jif_f c14 hf
        exact t_X12_parents_j92 G D cI cB cZ a_t aX u_t_n u_t_ahead u_t_length u_t_begins u_t_sort u_t_value u_t_letters u_t_word u_t_wrongAt u_t_laterFault u_t_laterPlace u_t_newClasses u_t_newLines u_t_turns u_t_shortest u_t_orders u_t_rowNumber u_t_ties r_t_days r_t_persons r_t_sexOf s_t_code r_t_fatherOf r_t_motherOf r_t_parentsDay x1 x2 x3 x4 k0 C hf K hP hD hS (lv_sub hl [1, 2, 3, 4, 5, 0] rfl)
def f_X12_parents_j67 (r_t_days r_t_persons : jA) (s_t_code : Int32) (r_t_fatherOf r_t_motherOf r_t_parentsDay : jA) (x1 x2 x3 x4 : Int32) : Option (Int32 × Int32 × jA × jA × jA) :=
  f_X12_parents_j72 r_t_days r_t_persons s_t_code r_t_fatherOf r_t_motherOf r_t_parentsDay x1 x2 x3 x4 (1 : Int32)
set_option maxHeartbeats 4000000 in
set_option maxRecDepth 100000 in
theorem t_X12_parents_j67 {p : Program} {l : Launch} {e : Env} {s : State} {m : MethodId} {args : Array Value} {below : List Frame} {meth : Method} {c : Code} {A : Nat → Prop} {Q : State → Prop} (G : jGt) (D : va_G) (cI cB cZ : ClassId) (a_t : Nat) (aX : Nat → Nat) (u_t_n u_t_ahead u_t_length u_t_begins u_t_sort u_t_value u_t_letters : Int32) (u_t_word : Int64) (u_t_wrongAt u_t_laterFault u_t_laterPlace u_t_newClasses u_t_newLines u_t_turns u_t_shortest u_t_orders u_t_rowNumber u_t_ties : Int32) (r_t_days r_t_persons r_t_sexOf : jA) (s_t_code : Int32) (r_t_fatherOf r_t_motherOf r_t_parentsDay : jA) (x1 x2 x3 x4 : Int32) (C : jCx p s m args c cX12_parents 6 gX12_parents RX12 G D (jT cI cB cZ) A) {o : Int32 × Int32 × jA × jA × jA} (hf : f_X12_parents_j67 r_t_days r_t_persons s_t_code r_t_fatherOf r_t_motherOf r_t_parentsDay x1 x2 x3 x4 = some o) (K : ∀ (H : Heap) (locs : List Loc) (pc : Nat) (ls : Array Slot), (o.1 = 0 ∨ o.1 = 1) → va_P D vwCl (w_X12_parents cI cB cZ a_t aX u_t_n u_t_ahead u_t_length u_t_begins u_t_sort u_t_value u_t_letters u_t_word u_t_wrongAt u_t_laterFault u_t_laterPlace u_t_newClasses u_t_newLines u_t_turns u_t_shortest u_t_orders u_t_rowNumber u_t_ties o.2.1 r_t_days o.2.2.1 o.2.2.2.1 o.2.2.2.2 r_t_persons r_t_sexOf) H → va_S A s.heap H locs → decode cX12_parents pc = .ok (.ireturn, 1) → W p l e rX12_parents s m args below meth c H locs 0 0 Q (F0 m pc ls [.int o.1])) {H : Heap} {locs : List Loc} {ls : Array Slot} (hP : va_P D vwCl (w_X12_parents cI cB cZ a_t aX u_t_n u_t_ahead u_t_length u_t_begins u_t_sort u_t_value u_t_letters u_t_word u_t_wrongAt u_t_laterFault u_t_laterPlace u_t_newClasses u_t_newLines u_t_turns u_t_shortest u_t_orders u_t_rowNumber u_t_ties s_t_code r_t_days r_t_fatherOf r_t_motherOf r_t_parentsDay r_t_persons r_t_sexOf) H) (hD : va_D A (w_X12_parents cI cB cZ a_t aX u_t_n u_t_ahead u_t_length u_t_begins u_t_sort u_t_value u_t_letters u_t_word u_t_wrongAt u_t_laterFault u_t_laterPlace u_t_newClasses u_t_newLines u_t_turns u_t_shortest u_t_orders u_t_rowNumber u_t_ties s_t_code r_t_days r_t_fatherOf r_t_motherOf r_t_parentsDay r_t_persons r_t_sexOf)) (hS : va_S A s.heap H locs) (hl : lv_has ls 6 [(0, .ref a_t), (1, .int x1), (2, .int x2), (3, .int x3), (4, .int x4)]) : W p l e rX12_parents s m args below meth c H locs 0 0 Q (F0 m 67 ls []) := by
  obtain ⟨⟨hx, hb, hml, hown, hts⟩, hK, hN, hA⟩ := C
  have C : jCx p s m args c cX12_parents 6 gX12_parents RX12 G D (jT cI cB cZ) A := ⟨⟨hx, hb, hml, hown, hts⟩, hK, hN, hA⟩
  unfold f_X12_parents_j67 at hf
  refine lv_iconst (v := (1 : Int32)) hx hb dX12_parents_67 (by decide) ?_
  refine lv_goto (tgt := 72) hx hb dX12_parents_68 (by decide) ?_
  exact t_X12_parents_j72 G D cI cB cZ a_t aX u_t_n u_t_ahead u_t_length u_t_begins u_t_sort u_t_value u_t_letters u_t_word u_t_wrongAt u_t_laterFault u_t_laterPlace u_t_newClasses u_t_newLines u_t_turns u_t_shortest u_t_orders u_t_rowNumber u_t_ties r_t_days r_t_persons r_t_sexOf s_t_code r_t_fatherOf r_t_motherOf r_t_parentsDay x1 x2 x3 x4 (1 : Int32) C hf K hP hD hS (lv_sub hl [0, 1, 2, 3, 4] rfl)
def f_X12_parents_j71 (r_t_days r_t_persons : jA) (s_t_code : Int32) (r_t_fatherOf r_t_motherOf r_t_parentsDay : jA) (x1 x2 x3 x4 : Int32) : Option (Int32 × Int32 × jA × jA × jA) :=
  f_X12_parents_j72 r_t_days r_t_persons s_t_code r_t_fatherOf r_t_motherOf r_t_parentsDay x1 x2 x3 x4 (0 : Int32)
set_option maxHeartbeats 4000000 in
set_option maxRecDepth 100000 in
theorem t_X12_parents_j71 {p : Program} {l : Launch} {e : Env} {s : State} {m : MethodId} {args : Array Value} {below : List Frame} {meth : Method} {c : Code} {A : Nat → Prop} {Q : State → Prop} (G : jGt) (D : va_G) (cI cB cZ : ClassId) (a_t : Nat) (aX : Nat → Nat) (u_t_n u_t_ahead u_t_length u_t_begins u_t_sort u_t_value u_t_letters : Int32) (u_t_word : Int64) (u_t_wrongAt u_t_laterFault u_t_laterPlace u_t_newClasses u_t_newLines u_t_turns u_t_shortest u_t_orders u_t_rowNumber u_t_ties : Int32) (r_t_days r_t_persons r_t_sexOf : jA) (s_t_code : Int32) (r_t_fatherOf r_t_motherOf r_t_parentsDay : jA) (x1 x2 x3 x4 : Int32) (C : jCx p s m args c cX12_parents 6 gX12_parents RX12 G D (jT cI cB cZ) A) {o : Int32 × Int32 × jA × jA × jA} (hf : f_X12_parents_j71 r_t_days r_t_persons s_t_code r_t_fatherOf r_t_motherOf r_t_parentsDay x1 x2 x3 x4 = some o) (K : ∀ (H : Heap) (locs : List Loc) (pc : Nat) (ls : Array Slot), (o.1 = 0 ∨ o.1 = 1) → va_P D vwCl (w_X12_parents cI cB cZ a_t aX u_t_n u_t_ahead u_t_length u_t_begins u_t_sort u_t_value u_t_letters u_t_word u_t_wrongAt u_t_laterFault u_t_laterPlace u_t_newClasses u_t_newLines u_t_turns u_t_shortest u_t_orders u_t_rowNumber u_t_ties o.2.1 r_t_days o.2.2.1 o.2.2.2.1 o.2.2.2.2 r_t_persons r_t_sexOf) H → va_S A s.heap H locs → decode cX12_parents pc = .ok (.ireturn, 1) → W p l e rX12_parents s m args below meth c H locs 0 0 Q (F0 m pc ls [.int o.1])) {H : Heap} {locs : List Loc} {ls : Array Slot} (hP : va_P D vwCl (w_X12_parents cI cB cZ a_t aX u_t_n u_t_ahead u_t_length u_t_begins u_t_sort u_t_value u_t_letters u_t_word u_t_wrongAt u_t_laterFault u_t_laterPlace u_t_newClasses u_t_newLines u_t_turns u_t_shortest u_t_orders u_t_rowNumber u_t_ties s_t_code r_t_days r_t_fatherOf r_t_motherOf r_t_parentsDay r_t_persons r_t_sexOf) H) (hD : va_D A (w_X12_parents cI cB cZ a_t aX u_t_n u_t_ahead u_t_length u_t_begins u_t_sort u_t_value u_t_letters u_t_word u_t_wrongAt u_t_laterFault u_t_laterPlace u_t_newClasses u_t_newLines u_t_turns u_t_shortest u_t_orders u_t_rowNumber u_t_ties s_t_code r_t_days r_t_fatherOf r_t_motherOf r_t_parentsDay r_t_persons r_t_sexOf)) (hS : va_S A s.heap H locs) (hl : lv_has ls 6 [(0, .ref a_t), (1, .int x1), (2, .int x2), (3, .int x3), (4, .int x4)]) : W p l e rX12_parents s m args below meth c H locs 0 0 Q (F0 m 71 ls []) := by
  obtain ⟨⟨hx, hb, hml, hown, hts⟩, hK, hN, hA⟩ := C
  have C : jCx p s m args c cX12_parents 6 gX12_parents RX12 G D (jT cI cB cZ) A := ⟨⟨hx, hb, hml, hown, hts⟩, hK, hN, hA⟩
  unfold f_X12_parents_j71 at hf
  refine lv_iconst (v := (0 : Int32)) hx hb dX12_parents_71 (by decide) ?_
  exact t_X12_parents_j72 G D cI cB cZ a_t aX u_t_n u_t_ahead u_t_length u_t_begins u_t_sort u_t_value u_t_letters u_t_word u_t_wrongAt u_t_laterFault u_t_laterPlace u_t_newClasses u_t_newLines u_t_turns u_t_shortest u_t_orders u_t_rowNumber u_t_ties r_t_days r_t_persons r_t_sexOf s_t_code r_t_fatherOf r_t_motherOf r_t_parentsDay x1 x2 x3 x4 (0 : Int32) C hf K hP hD hS (lv_sub hl [0, 1, 2, 3, 4] rfl)
def f_X12_parents_j37 (r_t_days r_t_persons r_t_sexOf : jA) (s_t_code : Int32) (r_t_fatherOf r_t_motherOf r_t_parentsDay : jA) (x1 x2 x3 k0 : Int32) : Option (Int32 × Int32 × jA × jA × jA) :=
  if x3 = (-1 : Int32) then
  f_X12_parents_j67 r_t_days r_t_persons s_t_code r_t_fatherOf r_t_motherOf r_t_parentsDay x1 x2 x3 k0
  else
  jM (f_X12_isPerson r_t_persons x3) fun r15 =>
  if r15 = 0 then
  f_X12_parents_j71 r_t_days r_t_persons s_t_code r_t_fatherOf r_t_motherOf r_t_parentsDay x1 x2 x3 k0
  else
  if x1 ≤ x3 then
  f_X12_parents_j71 r_t_days r_t_persons s_t_code r_t_fatherOf r_t_motherOf r_t_parentsDay x1 x2 x3 k0
  else
  jL r_t_sexOf x3 fun v18 =>
  if v18 = (1 : Int32) then
  f_X12_parents_j67 r_t_days r_t_persons s_t_code r_t_fatherOf r_t_motherOf r_t_parentsDay x1 x2 x3 k0
  else
  f_X12_parents_j71 r_t_days r_t_persons s_t_code r_t_fatherOf r_t_motherOf r_t_parentsDay x1 x2 x3 k0
set_option maxHeartbeats 4000000 in
set_option maxRecDepth 100000 in
theorem t_X12_parents_j37 {p : Program} {l : Launch} {e : Env} {s : State} {m : MethodId} {args : Array Value} {below : List Frame} {meth : Method} {c : Code} {A : Nat → Prop} {Q : State → Prop} (G : jGt) (D : va_G) (cI cB cZ : ClassId) (a_t : Nat) (aX : Nat → Nat) (u_t_n u_t_ahead u_t_length u_t_begins u_t_sort u_t_value u_t_letters : Int32) (u_t_word : Int64) (u_t_wrongAt u_t_laterFault u_t_laterPlace u_t_newClasses u_t_newLines u_t_turns u_t_shortest u_t_orders u_t_rowNumber u_t_ties : Int32) (r_t_days r_t_persons r_t_sexOf : jA) (s_t_code : Int32) (r_t_fatherOf r_t_motherOf r_t_parentsDay : jA) (x1 x2 x3 k0 : Int32) (C : jCx p s m args c cX12_parents 6 gX12_parents RX12 G D (jT cI cB cZ) A) {o : Int32 × Int32 × jA × jA × jA} (hf : f_X12_parents_j37 r_t_days r_t_persons r_t_sexOf s_t_code r_t_fatherOf r_t_motherOf r_t_parentsDay x1 x2 x3 k0 = some o) (K : ∀ (H : Heap) (locs : List Loc) (pc : Nat) (ls : Array Slot), (o.1 = 0 ∨ o.1 = 1) → va_P D vwCl (w_X12_parents cI cB cZ a_t aX u_t_n u_t_ahead u_t_length u_t_begins u_t_sort u_t_value u_t_letters u_t_word u_t_wrongAt u_t_laterFault u_t_laterPlace u_t_newClasses u_t_newLines u_t_turns u_t_shortest u_t_orders u_t_rowNumber u_t_ties o.2.1 r_t_days o.2.2.1 o.2.2.2.1 o.2.2.2.2 r_t_persons r_t_sexOf) H → va_S A s.heap H locs → decode cX12_parents pc = .ok (.ireturn, 1) → W p l e rX12_parents s m args below meth c H locs 0 0 Q (F0 m pc ls [.int o.1])) {H : Heap} {locs : List Loc} {ls : Array Slot} (hP : va_P D vwCl (w_X12_parents cI cB cZ a_t aX u_t_n u_t_ahead u_t_length u_t_begins u_t_sort u_t_value u_t_letters u_t_word u_t_wrongAt u_t_laterFault u_t_laterPlace u_t_newClasses u_t_newLines u_t_turns u_t_shortest u_t_orders u_t_rowNumber u_t_ties s_t_code r_t_days r_t_fatherOf r_t_motherOf r_t_parentsDay r_t_persons r_t_sexOf) H) (hD : va_D A (w_X12_parents cI cB cZ a_t aX u_t_n u_t_ahead u_t_length u_t_begins u_t_sort u_t_value u_t_letters u_t_word u_t_wrongAt u_t_laterFault u_t_laterPlace u_t_newClasses u_t_newLines u_t_turns u_t_shortest u_t_orders u_t_rowNumber u_t_ties s_t_code r_t_days r_t_fatherOf r_t_motherOf r_t_parentsDay r_t_persons r_t_sexOf)) (hS : va_S A s.heap H locs) (hl : lv_has ls 6 [(0, .ref a_t), (1, .int x1), (2, .int x2), (3, .int x3)]) : W p l e rX12_parents s m args below meth c H locs 0 0 Q (F0 m 37 ls [.int k0]) := by
  obtain ⟨⟨hx, hb, hml, hown, hts⟩, hK, hN, hA⟩ := C
  have C : jCx p s m args c cX12_parents 6 gX12_parents RX12 G D (jT cI cB cZ) A := ⟨⟨hx, hb, hml, hown, hts⟩, hK, hN, hA⟩
  unfold f_X12_parents_j37 at hf
  refine lv_istore (lv' := [(4, .int k0), (0, .ref a_t), (1, .int x1), (2, .int x2), (3, .int x3)]) hx hb dX12_parents_37 hl (by decide) rfl (fun ls hl => ?_)
  refine lv_iload_n hx hb dX12_parents_39 rfl (lv_at hl 4 rfl) ?_
  refine lv_iconst (v := (-1 : Int32)) hx hb dX12_parents_40 (by decide) ?_
  refine lv_icmp_eq (tgt := 67) hx hb dX12_parents_41 (by decide) (fun c2 => ?_) (fun c2 => ?_)
  · replace hf := jif_t c2 hf
    exact t_X12_parents_j67 G D cI cB cZ a_t aX u_t_n u_t_ahead u_t_length u_t_begins u_t_sort u_t_value u_t_letters u_t_word u_t_wrongAt u_t_laterFault u_t_laterPlace u_t_newClasses u_t_newLines u_t_turns u_t_shortest u_t_orders u_t_rowNumber u_t_ties r_t_days r_t_persons r_t_sexOf s_t_code r_t_fatherOf r_t_motherOf r_t_parentsDay x1 x2 x3 k0 C hf K hP hD hS (lv_sub hl [1, 2, 3, 4, 0] rfl)
  · replace hf := jif_f c2 hf
    refine lv_aload_n hx hb dX12_parents_44 rfl (lv_at hl 1 rfl) ?_
    refine lv_iload_n hx hb dX12_parents_45 rfl (lv_at hl 4 rfl) ?_
    obtain ⟨r15, hgr15, hf⟩ := jM_some hf
    refine jcV_i0 (As := [.int x3]) (rest := []) ⟨hx, hb, hml, hown, hts⟩ hK hN hA (c_X12_isPerson l G D cI cB cZ a_t aX s_t_code u_t_n u_t_ahead u_t_length u_t_begins u_t_sort u_t_value u_t_letters u_t_word u_t_wrongAt u_t_laterFault u_t_laterPlace u_t_newClasses u_t_newLines u_t_turns u_t_shortest u_t_orders u_t_rowNumber u_t_ties r_t_persons x3 hgr15) (cwV 1 hts (wG_V k_ml_X12_407 k_im_X12_isPerson k_se_X12_isPerson k_in_X12 k_co_X12_isPerson) rfl rfl rfl hd_X12_isPerson ⟨Nat.le_of_ble_eq_true rfl, Nat.le_of_ble_eq_true rfl⟩) hP hD hS [0, 5] rfl rfl rfl (ci := 11) rfl 0 rfl rfl rfl hl.1 rfl (Nat.le_of_ble_eq_true rfl) dX12_parents_46 ⟨Nat.le_of_ble_eq_true rfl, Nat.le_of_ble_eq_true rfl⟩ (fun H locs hP hD hS => ?_)
    refine lv_if_eq (tgt := 71) hx hb dX12_parents_49 (by decide) (fun c16 => ?_) (fun c16 => ?_)
    · replace hf := jif_t c16 hf
      exact t_X12_parents_j71 G D cI cB cZ a_t aX u_t_n u_t_ahead u_t_length u_t_begins u_t_sort u_t_value u_t_letters u_t_word u_t_wrongAt u_t_laterFault u_t_laterPlace u_t_newClasses u_t_newLines u_t_turns u_t_shortest u_t_orders u_t_rowNumber u_t_ties r_t_days r_t_persons r_t_sexOf s_t_code r_t_fatherOf r_t_motherOf r_t_parentsDay x1 x2 x3 k0 C hf K hP hD hS (lv_sub hl [1, 2, 3, 4, 0] rfl)
    · replace hf := jif_f c16 hf
      refine lv_iload_n hx hb dX12_parents_52 rfl (lv_at hl 4 rfl) ?_
      refine lv_iload_n hx hb dX12_parents_53 rfl (lv_at hl 2 rfl) ?_
      refine lv_icmp_ge (tgt := 71) hx hb dX12_parents_54 (by decide) (fun c17 => ?_) (fun c17 => ?_)
      · replace hf := jif_t c17 hf
        exact t_X12_parents_j71 G D cI cB cZ a_t aX u_t_n u_t_ahead u_t_length u_t_begins u_t_sort u_t_value u_t_letters u_t_word u_t_wrongAt u_t_laterFault u_t_laterPlace u_t_newClasses u_t_newLines u_t_turns u_t_shortest u_t_orders u_t_rowNumber u_t_ties r_t_days r_t_persons r_t_sexOf s_t_code r_t_fatherOf r_t_motherOf r_t_parentsDay x1 x2 x3 k0 C hf K hP hD hS (lv_sub hl [1, 2, 3, 4, 0] rfl)
      · replace hf := jif_f c17 hf
        refine lv_aload_n hx hb dX12_parents_57 rfl (lv_at hl 1 rfl) ?_
        refine va_get (D := D) (ci := 11) (v := .ref (aX 19)) (C := RX12) (T := TX12) (N := 74) hx hb hts iw_X12 hown hK hP 0 rfl rfl 19 (by decide) (hts _ (wG_in k_fl_X12_65 rfl)) (fun _ h9 => h9) rfl dX12_parents_58 ?_
        refine lv_iload_n hx hb dX12_parents_61 rfl (lv_at hl 4 rfl) ?_
        obtain ⟨v18, hv18, iv18, hf⟩ := jL_some hf
        refine ja_iald (P := r_t_sexOf) hx hb hK hP 6 0 rfl rfl hv18 iv18 dX12_parents_62 ?_
        refine lv_iconst (v := (1 : Int32)) hx hb dX12_parents_63 (by decide) ?_
        refine lv_icmp_ne (tgt := 71) hx hb dX12_parents_64 (by decide) (fun c19 => ?_) (fun c19 => ?_)
        · replace hf := jif_f c19 hf
          exact t_X12_parents_j71 G D cI cB cZ a_t aX u_t_n u_t_ahead u_t_length u_t_begins u_t_sort u_t_value u_t_letters u_t_word u_t_wrongAt u_t_laterFault u_t_laterPlace u_t_newClasses u_t_newLines u_t_turns u_t_shortest u_t_orders u_t_rowNumber u_t_ties r_t_days r_t_persons r_t_sexOf s_t_code r_t_fatherOf r_t_motherOf r_t_parentsDay x1 x2 x3 k0 C hf K hP hD hS (lv_sub hl [1, 2, 3, 4, 0] rfl)
        · replace hf := jif_t c19 hf
          exact t_X12_parents_j67 G D cI cB cZ a_t aX u_t_n u_t_ahead u_t_length u_t_begins u_t_sort u_t_value u_t_letters u_t_word u_t_wrongAt u_t_laterFault u_t_laterPlace u_t_newClasses u_t_newLines u_t_turns u_t_shortest u_t_orders u_t_rowNumber u_t_ties r_t_days r_t_persons r_t_sexOf s_t_code r_t_fatherOf r_t_motherOf r_t_parentsDay x1 x2 x3 k0 C hf K hP hD hS (lv_sub hl [1, 2, 3, 4, 0] rfl)
def f_X12_parents_j32 (r_t_days r_t_persons r_t_sexOf : jA) (s_t_code : Int32) (r_t_fatherOf r_t_motherOf r_t_parentsDay : jA) (x1 x2 x3 : Int32) : Option (Int32 × Int32 × jA × jA × jA) :=
  f_X12_parents_j37 r_t_days r_t_persons r_t_sexOf s_t_code r_t_fatherOf r_t_motherOf r_t_parentsDay x1 x2 x3 (1 : Int32)
set_option maxHeartbeats 4000000 in
set_option maxRecDepth 100000 in
theorem t_X12_parents_j32 {p : Program} {l : Launch} {e : Env} {s : State} {m : MethodId} {args : Array Value} {below : List Frame} {meth : Method} {c : Code} {A : Nat → Prop} {Q : State → Prop} (G : jGt) (D : va_G) (cI cB cZ : ClassId) (a_t : Nat) (aX : Nat → Nat) (u_t_n u_t_ahead u_t_length u_t_begins u_t_sort u_t_value u_t_letters : Int32) (u_t_word : Int64) (u_t_wrongAt u_t_laterFault u_t_laterPlace u_t_newClasses u_t_newLines u_t_turns u_t_shortest u_t_orders u_t_rowNumber u_t_ties : Int32) (r_t_days r_t_persons r_t_sexOf : jA) (s_t_code : Int32) (r_t_fatherOf r_t_motherOf r_t_parentsDay : jA) (x1 x2 x3 : Int32) (C : jCx p s m args c cX12_parents 6 gX12_parents RX12 G D (jT cI cB cZ) A) {o : Int32 × Int32 × jA × jA × jA} (hf : f_X12_parents_j32 r_t_days r_t_persons r_t_sexOf s_t_code r_t_fatherOf r_t_motherOf r_t_parentsDay x1 x2 x3 = some o) (K : ∀ (H : Heap) (locs : List Loc) (pc : Nat) (ls : Array Slot), (o.1 = 0 ∨ o.1 = 1) → va_P D vwCl (w_X12_parents cI cB cZ a_t aX u_t_n u_t_ahead u_t_length u_t_begins u_t_sort u_t_value u_t_letters u_t_word u_t_wrongAt u_t_laterFault u_t_laterPlace u_t_newClasses u_t_newLines u_t_turns u_t_shortest u_t_orders u_t_rowNumber u_t_ties o.2.1 r_t_days o.2.2.1 o.2.2.2.1 o.2.2.2.2 r_t_persons r_t_sexOf) H → va_S A s.heap H locs → decode cX12_parents pc = .ok (.ireturn, 1) → W p l e rX12_parents s m args below meth c H locs 0 0 Q (F0 m pc ls [.int o.1])) {H : Heap} {locs : List Loc} {ls : Array Slot} (hP : va_P D vwCl (w_X12_parents cI cB cZ a_t aX u_t_n u_t_ahead u_t_length u_t_begins u_t_sort u_t_value u_t_letters u_t_word u_t_wrongAt u_t_laterFault u_t_laterPlace u_t_newClasses u_t_newLines u_t_turns u_t_shortest u_t_orders u_t_rowNumber u_t_ties s_t_code r_t_days r_t_fatherOf r_t_motherOf r_t_parentsDay r_t_persons r_t_sexOf) H) (hD : va_D A (w_X12_parents cI cB cZ a_t aX u_t_n u_t_ahead u_t_length u_t_begins u_t_sort u_t_value u_t_letters u_t_word u_t_wrongAt u_t_laterFault u_t_laterPlace u_t_newClasses u_t_newLines u_t_turns u_t_shortest u_t_orders u_t_rowNumber u_t_ties s_t_code r_t_days r_t_fatherOf r_t_motherOf r_t_parentsDay r_t_persons r_t_sexOf)) (hS : va_S A s.heap H locs) (hl : lv_has ls 6 [(0, .ref a_t), (1, .int x1), (2, .int x2), (3, .int x3)]) : W p l e rX12_parents s m args below meth c H locs 0 0 Q (F0 m 32 ls []) := by
  obtain ⟨⟨hx, hb, hml, hown, hts⟩, hK, hN, hA⟩ := C
  have C : jCx p s m args c cX12_parents 6 gX12_parents RX12 G D (jT cI cB cZ) A := ⟨⟨hx, hb, hml, hown, hts⟩, hK, hN, hA⟩
  unfold f_X12_parents_j32 at hf
  refine lv_iconst (v := (1 : Int32)) hx hb dX12_parents_32 (by decide) ?_
  refine lv_goto (tgt := 37) hx hb dX12_parents_33 (by decide) ?_
  exact t_X12_parents_j37 G D cI cB cZ a_t aX u_t_n u_t_ahead u_t_length u_t_begins u_t_sort u_t_value u_t_letters u_t_word u_t_wrongAt u_t_laterFault u_t_laterPlace u_t_newClasses u_t_newLines u_t_turns u_t_shortest u_t_orders u_t_rowNumber u_t_ties r_t_days r_t_persons r_t_sexOf s_t_code r_t_fatherOf r_t_motherOf r_t_parentsDay x1 x2 x3 (1 : Int32) C hf K hP hD hS (lv_sub hl [0, 1, 2, 3] rfl)
def f_X12_parents_j36 (r_t_days r_t_persons r_t_sexOf : jA) (s_t_code : Int32) (r_t_fatherOf r_t_motherOf r_t_parentsDay : jA) (x1 x2 x3 : Int32) : Option (Int32 × Int32 × jA × jA × jA) :=
  f_X12_parents_j37 r_t_days r_t_persons r_t_sexOf s_t_code r_t_fatherOf r_t_motherOf r_t_parentsDay x1 x2 x3 (0 : Int32)
set_option maxHeartbeats 4000000 in
set_option maxRecDepth 100000 in
theorem t_X12_parents_j36 {p : Program} {l : Launch} {e : Env} {s : State} {m : MethodId} {args : Array Value} {below : List Frame} {meth : Method} {c : Code} {A : Nat → Prop} {Q : State → Prop} (G : jGt) (D : va_G) (cI cB cZ : ClassId) (a_t : Nat) (aX : Nat → Nat) (u_t_n u_t_ahead u_t_length u_t_begins u_t_sort u_t_value u_t_letters : Int32) (u_t_word : Int64) (u_t_wrongAt u_t_laterFault u_t_laterPlace u_t_newClasses u_t_newLines u_t_turns u_t_shortest u_t_orders u_t_rowNumber u_t_ties : Int32) (r_t_days r_t_persons r_t_sexOf : jA) (s_t_code : Int32) (r_t_fatherOf r_t_motherOf r_t_parentsDay : jA) (x1 x2 x3 : Int32) (C : jCx p s m args c cX12_parents 6 gX12_parents RX12 G D (jT cI cB cZ) A) {o : Int32 × Int32 × jA × jA × jA} (hf : f_X12_parents_j36 r_t_days r_t_persons r_t_sexOf s_t_code r_t_fatherOf r_t_motherOf r_t_parentsDay x1 x2 x3 = some o) (K : ∀ (H : Heap) (locs : List Loc) (pc : Nat) (ls : Array Slot), (o.1 = 0 ∨ o.1 = 1) → va_P D vwCl (w_X12_parents cI cB cZ a_t aX u_t_n u_t_ahead u_t_length u_t_begins u_t_sort u_t_value u_t_letters u_t_word u_t_wrongAt u_t_laterFault u_t_laterPlace u_t_newClasses u_t_newLines u_t_turns u_t_shortest u_t_orders u_t_rowNumber u_t_ties o.2.1 r_t_days o.2.2.1 o.2.2.2.1 o.2.2.2.2 r_t_persons r_t_sexOf) H → va_S A s.heap H locs → decode cX12_parents pc = .ok (.ireturn, 1) → W p l e rX12_parents s m args below meth c H locs 0 0 Q (F0 m pc ls [.int o.1])) {H : Heap} {locs : List Loc} {ls : Array Slot} (hP : va_P D vwCl (w_X12_parents cI cB cZ a_t aX u_t_n u_t_ahead u_t_length u_t_begins u_t_sort u_t_value u_t_letters u_t_word u_t_wrongAt u_t_laterFault u_t_laterPlace u_t_newClasses u_t_newLines u_t_turns u_t_shortest u_t_orders u_t_rowNumber u_t_ties s_t_code r_t_days r_t_fatherOf r_t_motherOf r_t_parentsDay r_t_persons r_t_sexOf) H) (hD : va_D A (w_X12_parents cI cB cZ a_t aX u_t_n u_t_ahead u_t_length u_t_begins u_t_sort u_t_value u_t_letters u_t_word u_t_wrongAt u_t_laterFault u_t_laterPlace u_t_newClasses u_t_newLines u_t_turns u_t_shortest u_t_orders u_t_rowNumber u_t_ties s_t_code r_t_days r_t_fatherOf r_t_motherOf r_t_parentsDay r_t_persons r_t_sexOf)) (hS : va_S A s.heap H locs) (hl : lv_has ls 6 [(0, .ref a_t), (1, .int x1), (2, .int x2), (3, .int x3)]) : W p l e rX12_parents s m args below meth c H locs 0 0 Q (F0 m 36 ls []) := by
  obtain ⟨⟨hx, hb, hml, hown, hts⟩, hK, hN, hA⟩ := C
  have C : jCx p s m args c cX12_parents 6 gX12_parents RX12 G D (jT cI cB cZ) A := ⟨⟨hx, hb, hml, hown, hts⟩, hK, hN, hA⟩
  unfold f_X12_parents_j36 at hf
  refine lv_iconst (v := (0 : Int32)) hx hb dX12_parents_36 (by decide) ?_
  exact t_X12_parents_j37 G D cI cB cZ a_t aX u_t_n u_t_ahead u_t_length u_t_begins u_t_sort u_t_value u_t_letters u_t_word u_t_wrongAt u_t_laterFault u_t_laterPlace u_t_newClasses u_t_newLines u_t_turns u_t_shortest u_t_orders u_t_rowNumber u_t_ties r_t_days r_t_persons r_t_sexOf s_t_code r_t_fatherOf r_t_motherOf r_t_parentsDay x1 x2 x3 (0 : Int32) C hf K hP hD hS (lv_sub hl [0, 1, 2, 3] rfl)
def f_X12_parents (r_t_days r_t_persons r_t_sexOf : jA) (s_t_code : Int32) (r_t_fatherOf r_t_motherOf r_t_parentsDay : jA) (x1 x2 x3 : Int32) : Option (Int32 × Int32 × jA × jA × jA) :=
  if x2 = (-1 : Int32) then
  f_X12_parents_j32 r_t_days r_t_persons r_t_sexOf (0 : Int32) r_t_fatherOf r_t_motherOf r_t_parentsDay x1 x2 x3
  else
  jM (f_X12_isPerson r_t_persons x2) fun r20 =>
  if r20 = 0 then
  f_X12_parents_j36 r_t_days r_t_persons r_t_sexOf (0 : Int32) r_t_fatherOf r_t_motherOf r_t_parentsDay x1 x2 x3
  else
  if x1 ≤ x2 then
  f_X12_parents_j36 r_t_days r_t_persons r_t_sexOf (0 : Int32) r_t_fatherOf r_t_motherOf r_t_parentsDay x1 x2 x3
  else
  jL r_t_sexOf x2 fun v23 =>
  if v23 = 0 then
  f_X12_parents_j32 r_t_days r_t_persons r_t_sexOf (0 : Int32) r_t_fatherOf r_t_motherOf r_t_parentsDay x1 x2 x3
  else
  f_X12_parents_j36 r_t_days r_t_persons r_t_sexOf (0 : Int32) r_t_fatherOf r_t_motherOf r_t_parentsDay x1 x2 x3
set_option maxHeartbeats 4000000 in
set_option maxRecDepth 100000 in
theorem t_X12_parents {p : Program} {l : Launch} {e : Env} {s : State} {m : MethodId} {args : Array Value} {below : List Frame} {meth : Method} {c : Code} {A : Nat → Prop} {Q : State → Prop} (G : jGt) (D : va_G) (cI cB cZ : ClassId) (a_t : Nat) (aX : Nat → Nat) (u_t_n u_t_ahead u_t_length u_t_begins u_t_sort u_t_value u_t_letters : Int32) (u_t_word : Int64) (u_t_wrongAt u_t_laterFault u_t_laterPlace u_t_newClasses u_t_newLines u_t_turns u_t_shortest u_t_orders u_t_rowNumber u_t_ties : Int32) (r_t_days r_t_persons r_t_sexOf : jA) (s_t_code : Int32) (r_t_fatherOf r_t_motherOf r_t_parentsDay : jA) (x1 x2 x3 : Int32) (C : jCx p s m args c cX12_parents 6 gX12_parents RX12 G D (jT cI cB cZ) A) {o : Int32 × Int32 × jA × jA × jA} (hf : f_X12_parents r_t_days r_t_persons r_t_sexOf s_t_code r_t_fatherOf r_t_motherOf r_t_parentsDay x1 x2 x3 = some o) (K : ∀ (H : Heap) (locs : List Loc) (pc : Nat) (ls : Array Slot), (o.1 = 0 ∨ o.1 = 1) → va_P D vwCl (w_X12_parents cI cB cZ a_t aX u_t_n u_t_ahead u_t_length u_t_begins u_t_sort u_t_value u_t_letters u_t_word u_t_wrongAt u_t_laterFault u_t_laterPlace u_t_newClasses u_t_newLines u_t_turns u_t_shortest u_t_orders u_t_rowNumber u_t_ties o.2.1 r_t_days o.2.2.1 o.2.2.2.1 o.2.2.2.2 r_t_persons r_t_sexOf) H → va_S A s.heap H locs → decode cX12_parents pc = .ok (.ireturn, 1) → W p l e rX12_parents s m args below meth c H locs 0 0 Q (F0 m pc ls [.int o.1])) {H : Heap} {locs : List Loc} {ls : Array Slot} (hP : va_P D vwCl (w_X12_parents cI cB cZ a_t aX u_t_n u_t_ahead u_t_length u_t_begins u_t_sort u_t_value u_t_letters u_t_word u_t_wrongAt u_t_laterFault u_t_laterPlace u_t_newClasses u_t_newLines u_t_turns u_t_shortest u_t_orders u_t_rowNumber u_t_ties s_t_code r_t_days r_t_fatherOf r_t_motherOf r_t_parentsDay r_t_persons r_t_sexOf) H) (hD : va_D A (w_X12_parents cI cB cZ a_t aX u_t_n u_t_ahead u_t_length u_t_begins u_t_sort u_t_value u_t_letters u_t_word u_t_wrongAt u_t_laterFault u_t_laterPlace u_t_newClasses u_t_newLines u_t_turns u_t_shortest u_t_orders u_t_rowNumber u_t_ties s_t_code r_t_days r_t_fatherOf r_t_motherOf r_t_parentsDay r_t_persons r_t_sexOf)) (hS : va_S A s.heap H locs) (hl : lv_has ls 6 [(0, .ref a_t), (1, .int x1), (2, .int x2), (3, .int x3)]) : W p l e rX12_parents s m args below meth c H locs 0 0 Q (F0 m 0 ls []) := by
  obtain ⟨⟨hx, hb, hml, hown, hts⟩, hK, hN, hA⟩ := C
  have C : jCx p s m args c cX12_parents 6 gX12_parents RX12 G D (jT cI cB cZ) A := ⟨⟨hx, hb, hml, hown, hts⟩, hK, hN, hA⟩
  unfold f_X12_parents at hf
  refine lv_aload_n hx hb dX12_parents_0 rfl (lv_at hl 0 rfl) ?_
  refine lv_iconst (v := (0 : Int32)) hx hb dX12_parents_1 (by decide) ?_
  refine va_put (D := D) (ci := 11) (v := .int (0 : Int32)) (ty := .int) (C := RX12) (T := TX12) (N := 74) hx hb hts iw_X12 tyX12 tyX12_ok nmX12 hown hK hP hD hS 0 rfl rfl 0 (by decide) (hts _ (wG_in k_fl_X12_177 rfl)) (fun _ h9 => h9) rfl (tyX12_ok 0 (by decide)) rfl rfl (Nat.le_of_ble_eq_true rfl) dX12_parents_2 (fun H locs hP hD hS => ?_)
  have hP : va_P D vwCl (w_X12_parents cI cB cZ a_t aX u_t_n u_t_ahead u_t_length u_t_begins u_t_sort u_t_value u_t_letters u_t_word u_t_wrongAt u_t_laterFault u_t_laterPlace u_t_newClasses u_t_newLines u_t_turns u_t_shortest u_t_orders u_t_rowNumber u_t_ties (0 : Int32) r_t_days r_t_fatherOf r_t_motherOf r_t_parentsDay r_t_persons r_t_sexOf) H := hP
  have hD : va_D A (w_X12_parents cI cB cZ a_t aX u_t_n u_t_ahead u_t_length u_t_begins u_t_sort u_t_value u_t_letters u_t_word u_t_wrongAt u_t_laterFault u_t_laterPlace u_t_newClasses u_t_newLines u_t_turns u_t_shortest u_t_orders u_t_rowNumber u_t_ties (0 : Int32) r_t_days r_t_fatherOf r_t_motherOf r_t_parentsDay r_t_persons r_t_sexOf) := hD
  refine lv_iload_n hx hb dX12_parents_5 rfl (lv_at hl 2 rfl) ?_
  refine lv_iconst (v := (-1 : Int32)) hx hb dX12_parents_6 (by decide) ?_
  refine lv_icmp_eq (tgt := 32) hx hb dX12_parents_7 (by decide) (fun c1 => ?_) (fun c1 => ?_)
  · replace hf := jif_t c1 hf
    exact t_X12_parents_j32 G D cI cB cZ a_t aX u_t_n u_t_ahead u_t_length u_t_begins u_t_sort u_t_value u_t_letters u_t_word u_t_wrongAt u_t_laterFault u_t_laterPlace u_t_newClasses u_t_newLines u_t_turns u_t_shortest u_t_orders u_t_rowNumber u_t_ties r_t_days r_t_persons r_t_sexOf (0 : Int32) r_t_fatherOf r_t_motherOf r_t_parentsDay x1 x2 x3 C hf K hP hD hS (lv_sub hl [0, 1, 2, 3] rfl)
  · replace hf := jif_f c1 hf
    refine lv_aload_n hx hb dX12_parents_10 rfl (lv_at hl 0 rfl) ?_
    refine lv_iload_n hx hb dX12_parents_11 rfl (lv_at hl 2 rfl) ?_
    obtain ⟨r20, hgr20, hf⟩ := jM_some hf
    refine jcV_i0 (As := [.int x2]) (rest := []) ⟨hx, hb, hml, hown, hts⟩ hK hN hA (c_X12_isPerson l G D cI cB cZ a_t aX (0 : Int32) u_t_n u_t_ahead u_t_length u_t_begins u_t_sort u_t_value u_t_letters u_t_word u_t_wrongAt u_t_laterFault u_t_laterPlace u_t_newClasses u_t_newLines u_t_turns u_t_shortest u_t_orders u_t_rowNumber u_t_ties r_t_persons x2 hgr20) (cwV 1 hts (wG_V k_ml_X12_407 k_im_X12_isPerson k_se_X12_isPerson k_in_X12 k_co_X12_isPerson) rfl rfl rfl hd_X12_isPerson ⟨Nat.le_of_ble_eq_true rfl, Nat.le_of_ble_eq_true rfl⟩) hP hD hS [0, 5] rfl rfl rfl (ci := 11) rfl 0 rfl rfl rfl hl.1 rfl (Nat.le_of_ble_eq_true rfl) dX12_parents_12 ⟨Nat.le_of_ble_eq_true rfl, Nat.le_of_ble_eq_true rfl⟩ (fun H locs hP hD hS => ?_)
    refine lv_if_eq (tgt := 36) hx hb dX12_parents_15 (by decide) (fun c21 => ?_) (fun c21 => ?_)
    · replace hf := jif_t c21 hf
      exact t_X12_parents_j36 G D cI cB cZ a_t aX u_t_n u_t_ahead u_t_length u_t_begins u_t_sort u_t_value u_t_letters u_t_word u_t_wrongAt u_t_laterFault u_t_laterPlace u_t_newClasses u_t_newLines u_t_turns u_t_shortest u_t_orders u_t_rowNumber u_t_ties r_t_days r_t_persons r_t_sexOf (0 : Int32) r_t_fatherOf r_t_motherOf r_t_parentsDay x1 x2 x3 C hf K hP hD hS (lv_sub hl [0, 1, 2, 3] rfl)
    · replace hf := jif_f c21 hf
      refine lv_iload_n hx hb dX12_parents_18 rfl (lv_at hl 2 rfl) ?_
      refine lv_iload_n hx hb dX12_parents_19 rfl (lv_at hl 1 rfl) ?_
      refine lv_icmp_ge (tgt := 36) hx hb dX12_parents_20 (by decide) (fun c22 => ?_) (fun c22 => ?_)
      · replace hf := jif_t c22 hf
        exact t_X12_parents_j36 G D cI cB cZ a_t aX u_t_n u_t_ahead u_t_length u_t_begins u_t_sort u_t_value u_t_letters u_t_word u_t_wrongAt u_t_laterFault u_t_laterPlace u_t_newClasses u_t_newLines u_t_turns u_t_shortest u_t_orders u_t_rowNumber u_t_ties r_t_days r_t_persons r_t_sexOf (0 : Int32) r_t_fatherOf r_t_motherOf r_t_parentsDay x1 x2 x3 C hf K hP hD hS (lv_sub hl [0, 1, 2, 3] rfl)
      · replace hf := jif_f c22 hf
        refine lv_aload_n hx hb dX12_parents_23 rfl (lv_at hl 0 rfl) ?_
        refine va_get (D := D) (ci := 11) (v := .ref (aX 19)) (C := RX12) (T := TX12) (N := 74) hx hb hts iw_X12 hown hK hP 0 rfl rfl 19 (by decide) (hts _ (wG_in k_fl_X12_65 rfl)) (fun _ h9 => h9) rfl dX12_parents_24 ?_
        refine lv_iload_n hx hb dX12_parents_27 rfl (lv_at hl 2 rfl) ?_
        obtain ⟨v23, hv23, iv23, hf⟩ := jL_some hf
        refine ja_iald (P := r_t_sexOf) hx hb hK hP 6 0 rfl rfl hv23 iv23 dX12_parents_28 ?_
        refine lv_if_ne (tgt := 36) hx hb dX12_parents_29 (by decide) (fun c24 => ?_) (fun c24 => ?_)
        · replace hf := jif_f c24 hf
          exact t_X12_parents_j36 G D cI cB cZ a_t aX u_t_n u_t_ahead u_t_length u_t_begins u_t_sort u_t_value u_t_letters u_t_word u_t_wrongAt u_t_laterFault u_t_laterPlace u_t_newClasses u_t_newLines u_t_turns u_t_shortest u_t_orders u_t_rowNumber u_t_ties r_t_days r_t_persons r_t_sexOf (0 : Int32) r_t_fatherOf r_t_motherOf r_t_parentsDay x1 x2 x3 C hf K hP hD hS (lv_sub hl [0, 1, 2, 3] rfl)
        · replace hf := jif_t c24 hf
          exact t_X12_parents_j32 G D cI cB cZ a_t aX u_t_n u_t_ahead u_t_length u_t_begins u_t_sort u_t_value u_t_letters u_t_word u_t_wrongAt u_t_laterFault u_t_laterPlace u_t_newClasses u_t_newLines u_t_turns u_t_shortest u_t_orders u_t_rowNumber u_t_ties r_t_days r_t_persons r_t_sexOf (0 : Int32) r_t_fatherOf r_t_motherOf r_t_parentsDay x1 x2 x3 C hf K hP hD hS (lv_sub hl [0, 1, 2, 3] rfl)
set_option maxHeartbeats 4000000 in
set_option maxRecDepth 100000 in
theorem c_X12_parents (l : Launch) (G : jGt) (D : va_G) (cI cB cZ : ClassId) (a_t : Nat) (aX : Nat → Nat) (u_t_n u_t_ahead u_t_length u_t_begins u_t_sort u_t_value u_t_letters : Int32) (u_t_word : Int64) (u_t_wrongAt u_t_laterFault u_t_laterPlace u_t_newClasses u_t_newLines u_t_turns u_t_shortest u_t_orders u_t_rowNumber u_t_ties : Int32) (r_t_days r_t_persons r_t_sexOf : jA) (s_t_code : Int32) (r_t_fatherOf r_t_motherOf r_t_parentsDay : jA) (x1 x2 x3 : Int32) {o : Int32 × Int32 × jA × jA × jA} (hf : f_X12_parents r_t_days r_t_persons r_t_sexOf s_t_code r_t_fatherOf r_t_motherOf r_t_parentsDay x1 x2 x3 = some o) : jMi l yX12_parents gX12_parents rX12_parents G D (jT cI cB cZ) [.ref a_t, .int x1, .int x2, .int x3] (w_X12_parents cI cB cZ a_t aX u_t_n u_t_ahead u_t_length u_t_begins u_t_sort u_t_value u_t_letters u_t_word u_t_wrongAt u_t_laterFault u_t_laterPlace u_t_newClasses u_t_newLines u_t_turns u_t_shortest u_t_orders u_t_rowNumber u_t_ties s_t_code r_t_days r_t_fatherOf r_t_motherOf r_t_parentsDay r_t_persons r_t_sexOf) (w_X12_parents cI cB cZ a_t aX u_t_n u_t_ahead u_t_length u_t_begins u_t_sort u_t_value u_t_letters u_t_word u_t_wrongAt u_t_laterFault u_t_laterPlace u_t_newClasses u_t_newLines u_t_turns u_t_shortest u_t_orders u_t_rowNumber u_t_ties o.2.1 r_t_days o.2.2.1 o.2.2.2.1 o.2.2.2.2 r_t_persons r_t_sexOf) o.1 := by
  refine jmk_z RX12 rfl (by decide +kernel) rfl (Nat.le_of_ble_eq_true rfl) rfl ?_
  intro p e s m args below meth c ls A Q C hP hD hS hl K
  exact t_X12_parents G D cI cB cZ a_t aX u_t_n u_t_ahead u_t_length u_t_begins u_t_sort u_t_value u_t_letters u_t_word u_t_wrongAt u_t_laterFault u_t_laterPlace u_t_newClasses u_t_newLines u_t_turns u_t_shortest u_t_orders u_t_rowNumber u_t_ties r_t_days r_t_persons r_t_sexOf s_t_code r_t_fatherOf r_t_motherOf r_t_parentsDay x1 x2 x3 C hf K hP hD hS hl
abbrev rX12_wed : Room := { frames := 2, cells := 0, slots := 0, locals := 43 }
abbrev gX12_wed : List Cond := wG yX12_wed cX12_wed 4 (some .int)
def w_X12_wed (cI cB cZ : ClassId) (a_t : Nat) (aX : Nat → Nat) (u_t_n u_t_ahead u_t_length u_t_begins u_t_sort u_t_value u_t_letters : Int32) (u_t_word : Int64) (u_t_wrongAt u_t_laterFault u_t_laterPlace u_t_newClasses u_t_newLines u_t_turns u_t_shortest u_t_orders u_t_rowNumber u_t_ties s_t_code : Int32) (r_t_days r_t_husband r_t_persons r_t_sexOf r_t_wedDay r_t_weddings r_t_wife : jA) : va_W := [(a_t, .inr (11, (oX12 aX s_t_code u_t_n u_t_ahead u_t_length u_t_begins u_t_sort u_t_value u_t_letters u_t_word u_t_wrongAt u_t_laterFault u_t_laterPlace u_t_newClasses u_t_newLines u_t_turns u_t_shortest u_t_orders u_t_rowNumber u_t_ties))), ((aX 16), .inl (cI, r_t_days.1, .inl r_t_days.2)), ((aX 24), .inl (cI, r_t_husband.1, .inl r_t_husband.2)), ((aX 18), .inl (cI, r_t_persons.1, .inl r_t_persons.2)), ((aX 19), .inl (cI, r_t_sexOf.1, .inl r_t_sexOf.2)), ((aX 26), .inl (cI, r_t_wedDay.1, .inl r_t_wedDay.2)), ((aX 23), .inl (cI, r_t_weddings.1, .inl r_t_weddings.2)), ((aX 25), .inl (cI, r_t_wife.1, .inl r_t_wife.2))]
def f_X12_wed_j87 (s_t_code : Int32) (r_t_husband r_t_wedDay r_t_weddings r_t_wife : jA) (x1 x2 x3 : Int32) : Option ((Int32) ⊕ ((Unit) ⊕ ((Unit)))) :=
  some (Sum.inl (x3 + 1))
set_option maxHeartbeats 4000000 in
set_option maxRecDepth 100000 in
theorem t_X12_wed_j87 {p : Program} {l : Launch} {e : Env} {s : State} {m : MethodId} {args : Array Value} {below : List Frame} {meth : Method} {c : Code} {A : Nat → Prop} {Q : State → Prop} (G : jGt) (D : va_G) (cI cB cZ : ClassId) (a_t : Nat) (aX : Nat → Nat) (u_t_n u_t_ahead u_t_length u_t_begins u_t_sort u_t_value u_t_letters : Int32) (u_t_word : Int64) (u_t_wrongAt u_t_laterFault u_t_laterPlace u_t_newClasses u_t_newLines u_t_turns u_t_shortest u_t_orders u_t_rowNumber u_t_ties : Int32) (r_t_days r_t_persons r_t_sexOf : jA) (s_t_code : Int32) (r_t_husband r_t_wedDay r_t_weddings r_t_wife : jA) (x1 x2 x3 : Int32) (C : jCx p s m args c cX12_wed 4 gX12_wed RX12 G D (jT cI cB cZ) A) {o : (Int32) ⊕ ((Unit) ⊕ ((Unit)))} (hf : f_X12_wed_j87 s_t_code r_t_husband r_t_wedDay r_t_weddings r_t_wife x1 x2 x3 = some o) (K : (∀ z, o = Sum.inl z → ∀ (H : Heap) (locs : List Loc) (ls : Array Slot), va_P D vwCl (w_X12_wed cI cB cZ a_t aX u_t_n u_t_ahead u_t_length u_t_begins u_t_sort u_t_value u_t_letters u_t_word u_t_wrongAt u_t_laterFault u_t_laterPlace u_t_newClasses u_t_newLines u_t_turns u_t_shortest u_t_orders u_t_rowNumber u_t_ties s_t_code r_t_days r_t_husband r_t_persons r_t_sexOf r_t_wedDay r_t_weddings r_t_wife) H → va_D A (w_X12_wed cI cB cZ a_t aX u_t_n u_t_ahead u_t_length u_t_begins u_t_sort u_t_value u_t_letters u_t_word u_t_wrongAt u_t_laterFault u_t_laterPlace u_t_newClasses u_t_newLines u_t_turns u_t_shortest u_t_orders u_t_rowNumber u_t_ties s_t_code r_t_days r_t_husband r_t_persons r_t_sexOf r_t_wedDay r_t_weddings r_t_wife) → va_S A s.heap H locs → lv_has ls 4 [(0, .ref a_t), (1, .int x1), (2, .int x2), (3, .int z)] → W p l e rX12_wed s m args below meth c H locs 0 0 Q (F0 m 55 ls [])) ∧ (∀ z, o = Sum.inr z → (∀ y0, z = Sum.inl y0 → ∀ (H : Heap) (locs : List Loc) (ls : Array Slot), va_P D vwCl (w_X12_wed cI cB cZ a_t aX u_t_n u_t_ahead u_t_length u_t_begins u_t_sort u_t_value u_t_letters u_t_word u_t_wrongAt u_t_laterFault u_t_laterPlace u_t_newClasses u_t_newLines u_t_turns u_t_shortest u_t_orders u_t_rowNumber u_t_ties s_t_code r_t_days r_t_husband r_t_persons r_t_sexOf r_t_wedDay r_t_weddings r_t_wife) H → va_D A (w_X12_wed cI cB cZ a_t aX u_t_n u_t_ahead u_t_length u_t_begins u_t_sort u_t_value u_t_letters u_t_word u_t_wrongAt u_t_laterFault u_t_laterPlace u_t_newClasses u_t_newLines u_t_turns u_t_shortest u_t_orders u_t_rowNumber u_t_ties s_t_code r_t_days r_t_husband r_t_persons r_t_sexOf r_t_wedDay r_t_weddings r_t_wife) → va_S A s.heap H locs → lv_has ls 4 [] → W p l e rX12_wed s m args below meth c H locs 0 0 Q (F0 m 85 ls [])) ∧ (∀ z0, z = Sum.inr z0 → ∀ (H : Heap) (locs : List Loc) (ls : Array Slot), va_P D vwCl (w_X12_wed cI cB cZ a_t aX u_t_n u_t_ahead u_t_length u_t_begins u_t_sort u_t_value u_t_letters u_t_word u_t_wrongAt u_t_laterFault u_t_laterPlace u_t_newClasses u_t_newLines u_t_turns u_t_shortest u_t_orders u_t_rowNumber u_t_ties s_t_code r_t_days r_t_husband r_t_persons r_t_sexOf r_t_wedDay r_t_weddings r_t_wife) H → va_D A (w_X12_wed cI cB cZ a_t aX u_t_n u_t_ahead u_t_length u_t_begins u_t_sort u_t_value u_t_letters u_t_word u_t_wrongAt u_t_laterFault u_t_laterPlace u_t_newClasses u_t_newLines u_t_turns u_t_shortest u_t_orders u_t_rowNumber u_t_ties s_t_code r_t_days r_t_husband r_t_persons r_t_sexOf r_t_wedDay r_t_weddings r_t_wife) → va_S A s.heap H locs → lv_has ls 4 [(0, .ref a_t), (1, .int x1), (2, .int x2)] → W p l e rX12_wed s m args below meth c H locs 0 0 Q (F0 m 93 ls [])))) {H : Heap} {locs : List Loc} {ls : Array Slot} (hP : va_P D vwCl (w_X12_wed cI cB cZ a_t aX u_t_n u_t_ahead u_t_length u_t_begins u_t_sort u_t_value u_t_letters u_t_word u_t_wrongAt u_t_laterFault u_t_laterPlace u_t_newClasses u_t_newLines u_t_turns u_t_shortest u_t_orders u_t_rowNumber u_t_ties s_t_code r_t_days r_t_husband r_t_persons r_t_sexOf r_t_wedDay r_t_weddings r_t_wife) H) (hD : va_D A (w_X12_wed cI cB cZ a_t aX u_t_n u_t_ahead u_t_length u_t_begins u_t_sort u_t_value u_t_letters u_t_word u_t_wrongAt u_t_laterFault u_t_laterPlace u_t_newClasses u_t_newLines u_t_turns u_t_shortest u_t_orders u_t_rowNumber u_t_ties s_t_code r_t_days r_t_husband r_t_persons r_t_sexOf r_t_wedDay r_t_weddings r_t_wife)) (hS : va_S A s.heap H locs) (hl : lv_has ls 4 [(0, .ref a_t), (1, .int x1), (2, .int x2), (3, .int x3)]) : W p l e rX12_wed s m args below meth c H locs 0 0 Q (F0 m 87 ls []) := by
  obtain ⟨⟨hx, hb, hml, hown, hts⟩, hK, hN, hA⟩ := C
  have C : jCx p s m args c cX12_wed 4 gX12_wed RX12 G D (jT cI cB cZ) A := ⟨⟨hx, hb, hml, hown, hts⟩, hK, hN, hA⟩
  unfold f_X12_wed_j87 at hf
  refine lv_iinc (v := (x3 + 1)) (lv' := [(3, .int (x3 + 1)), (0, .ref a_t), (1, .int x1), (2, .int x2)]) hx hb dX12_wed_87 hl (k := 3) rfl (by first | rfl | decide) (by decide) rfl (fun ls hl => ?_)
  refine lv_goto (tgt := 55) hx hb dX12_wed_90 (by decide) ?_
  have ho := Option.some.inj hf
  exact K.1 _ ho.symm _ _ _ hP hD hS (lv_sub hl [1, 2, 3, 0] rfl)
def f_X12_wed_b55 (s_t_code : Int32) (r_t_husband r_t_wedDay r_t_weddings r_t_wife : jA) (x1 x2 x3 : Int32) : Option ((Int32) ⊕ ((Unit) ⊕ ((Unit)))) :=
  jL r_t_weddings (0 : Int32) fun v11 =>
  if v11 ≤ x3 then
  some (Sum.inr (Sum.inr ()))
  else
  jL r_t_husband x3 fun v13 =>
  if v13 = x1 then
  jL r_t_wife x3 fun v15 =>
  if v15 = x2 then
  some (Sum.inr (Sum.inl ()))
  else
  f_X12_wed_j87 s_t_code r_t_husband r_t_wedDay r_t_weddings r_t_wife x1 x2 x3
  else
  f_X12_wed_j87 s_t_code r_t_husband r_t_wedDay r_t_weddings r_t_wife x1 x2 x3
set_option maxHeartbeats 4000000 in
set_option maxRecDepth 100000 in
theorem t_X12_wed_b55 {p : Program} {l : Launch} {e : Env} {s : State} {m : MethodId} {args : Array Value} {below : List Frame} {meth : Method} {c : Code} {A : Nat → Prop} {Q : State → Prop} (G : jGt) (D : va_G) (cI cB cZ : ClassId) (a_t : Nat) (aX : Nat → Nat) (u_t_n u_t_ahead u_t_length u_t_begins u_t_sort u_t_value u_t_letters : Int32) (u_t_word : Int64) (u_t_wrongAt u_t_laterFault u_t_laterPlace u_t_newClasses u_t_newLines u_t_turns u_t_shortest u_t_orders u_t_rowNumber u_t_ties : Int32) (r_t_days r_t_persons r_t_sexOf : jA) (s_t_code : Int32) (r_t_husband r_t_wedDay r_t_weddings r_t_wife : jA) (x1 x2 x3 : Int32) (C : jCx p s m args c cX12_wed 4 gX12_wed RX12 G D (jT cI cB cZ) A) {o : (Int32) ⊕ ((Unit) ⊕ ((Unit)))} (hf : f_X12_wed_b55 s_t_code r_t_husband r_t_wedDay r_t_weddings r_t_wife x1 x2 x3 = some o) (K : (∀ z, o = Sum.inl z → ∀ (H : Heap) (locs : List Loc) (ls : Array Slot), va_P D vwCl (w_X12_wed cI cB cZ a_t aX u_t_n u_t_ahead u_t_length u_t_begins u_t_sort u_t_value u_t_letters u_t_word u_t_wrongAt u_t_laterFault u_t_laterPlace u_t_newClasses u_t_newLines u_t_turns u_t_shortest u_t_orders u_t_rowNumber u_t_ties s_t_code r_t_days r_t_husband r_t_persons r_t_sexOf r_t_wedDay r_t_weddings r_t_wife) H → va_D A (w_X12_wed cI cB cZ a_t aX u_t_n u_t_ahead u_t_length u_t_begins u_t_sort u_t_value u_t_letters u_t_word u_t_wrongAt u_t_laterFault u_t_laterPlace u_t_newClasses u_t_newLines u_t_turns u_t_shortest u_t_orders u_t_rowNumber u_t_ties s_t_code r_t_days r_t_husband r_t_persons r_t_sexOf r_t_wedDay r_t_weddings r_t_wife) → va_S A s.heap H locs → lv_has ls 4 [(0, .ref a_t), (1, .int x1), (2, .int x2), (3, .int z)] → W p l e rX12_wed s m args below meth c H locs 0 0 Q (F0 m 55 ls [])) ∧ (∀ z, o = Sum.inr z → (∀ y0, z = Sum.inl y0 → ∀ (H : Heap) (locs : List Loc) (ls : Array Slot), va_P D vwCl (w_X12_wed cI cB cZ a_t aX u_t_n u_t_ahead u_t_length u_t_begins u_t_sort u_t_value u_t_letters u_t_word u_t_wrongAt u_t_laterFault u_t_laterPlace u_t_newClasses u_t_newLines u_t_turns u_t_shortest u_t_orders u_t_rowNumber u_t_ties s_t_code r_t_days r_t_husband r_t_persons r_t_sexOf r_t_wedDay r_t_weddings r_t_wife) H → va_D A (w_X12_wed cI cB cZ a_t aX u_t_n u_t_ahead u_t_length u_t_begins u_t_sort u_t_value u_t_letters u_t_word u_t_wrongAt u_t_laterFault u_t_laterPlace u_t_newClasses u_t_newLines u_t_turns u_t_shortest u_t_orders u_t_rowNumber u_t_ties s_t_code r_t_days r_t_husband r_t_persons r_t_sexOf r_t_wedDay r_t_weddings r_t_wife) → va_S A s.heap H locs → lv_has ls 4 [] → W p l e rX12_wed s m args below meth c H locs 0 0 Q (F0 m 85 ls [])) ∧ (∀ z0, z = Sum.inr z0 → ∀ (H : Heap) (locs : List Loc) (ls : Array Slot), va_P D vwCl (w_X12_wed cI cB cZ a_t aX u_t_n u_t_ahead u_t_length u_t_begins u_t_sort u_t_value u_t_letters u_t_word u_t_wrongAt u_t_laterFault u_t_laterPlace u_t_newClasses u_t_newLines u_t_turns u_t_shortest u_t_orders u_t_rowNumber u_t_ties s_t_code r_t_days r_t_husband r_t_persons r_t_sexOf r_t_wedDay r_t_weddings r_t_wife) H → va_D A (w_X12_wed cI cB cZ a_t aX u_t_n u_t_ahead u_t_length u_t_begins u_t_sort u_t_value u_t_letters u_t_word u_t_wrongAt u_t_laterFault u_t_laterPlace u_t_newClasses u_t_newLines u_t_turns u_t_shortest u_t_orders u_t_rowNumber u_t_ties s_t_code r_t_days r_t_husband r_t_persons r_t_sexOf r_t_wedDay r_t_weddings r_t_wife) → va_S A s.heap H locs → lv_has ls 4 [(0, .ref a_t), (1, .int x1), (2, .int x2)] → W p l e rX12_wed s m args below meth c H locs 0 0 Q (F0 m 93 ls [])))) {H : Heap} {locs : List Loc} {ls : Array Slot} (hP : va_P D vwCl (w_X12_wed cI cB cZ a_t aX u_t_n u_t_ahead u_t_length u_t_begins u_t_sort u_t_value u_t_letters u_t_word u_t_wrongAt u_t_laterFault u_t_laterPlace u_t_newClasses u_t_newLines u_t_turns u_t_shortest u_t_orders u_t_rowNumber u_t_ties s_t_code r_t_days r_t_husband r_t_persons r_t_sexOf r_t_wedDay r_t_weddings r_t_wife) H) (hD : va_D A (w_X12_wed cI cB cZ a_t aX u_t_n u_t_ahead u_t_length u_t_begins u_t_sort u_t_value u_t_letters u_t_word u_t_wrongAt u_t_laterFault u_t_laterPlace u_t_newClasses u_t_newLines u_t_turns u_t_shortest u_t_orders u_t_rowNumber u_t_ties s_t_code r_t_days r_t_husband r_t_persons r_t_sexOf r_t_wedDay r_t_weddings r_t_wife)) (hS : va_S A s.heap H locs) (hl : lv_has ls 4 [(0, .ref a_t), (1, .int x1), (2, .int x2), (3, .int x3)]) : W p l e rX12_wed s m args below meth c H locs 0 0 Q (F0 m 55 ls []) := by
  obtain ⟨⟨hx, hb, hml, hown, hts⟩, hK, hN, hA⟩ := C
  have C : jCx p s m args c cX12_wed 4 gX12_wed RX12 G D (jT cI cB cZ) A := ⟨⟨hx, hb, hml, hown, hts⟩, hK, hN, hA⟩
  unfold f_X12_wed_b55 at hf
  refine lv_iload_n hx hb dX12_wed_55 rfl (lv_at hl 3 rfl) ?_
  refine lv_aload_n hx hb dX12_wed_56 rfl (lv_at hl 0 rfl) ?_
  refine va_get (D := D) (ci := 11) (v := .ref (aX 23)) (C := RX12) (T := TX12) (N := 74) hx hb hts iw_X12 hown hK hP 0 rfl rfl 23 (by decide) (hts _ (wG_in k_fl_X12_77 rfl)) (fun _ h9 => h9) rfl dX12_wed_57 ?_
  refine lv_iconst (v := (0 : Int32)) hx hb dX12_wed_60 (by decide) ?_
  obtain ⟨v11, hv11, iv11, hf⟩ := jL_some hf
  refine ja_iald (P := r_t_weddings) hx hb hK hP 6 0 rfl rfl hv11 iv11 dX12_wed_61 ?_
  refine lv_icmp_ge (tgt := 93) hx hb dX12_wed_62 (by decide) (fun c12 => ?_) (fun c12 => ?_)
  · replace hf := jif_t c12 hf
    have ho := Option.some.inj hf
    exact ((K.2 _ ho.symm).2 _ rfl) _ _ _ hP hD hS (lv_sub hl [0, 1, 2] rfl)
  · replace hf := jif_f c12 hf
    refine lv_aload_n hx hb dX12_wed_65 rfl (lv_at hl 0 rfl) ?_
    refine va_get (D := D) (ci := 11) (v := .ref (aX 24)) (C := RX12) (T := TX12) (N := 74) hx hb hts iw_X12 hown hK hP 0 rfl rfl 24 (by decide) (hts _ (wG_in k_fl_X12_80 rfl)) (fun _ h9 => h9) rfl dX12_wed_66 ?_
    refine lv_iload_n hx hb dX12_wed_69 rfl (lv_at hl 3 rfl) ?_
    obtain ⟨v13, hv13, iv13, hf⟩ := jL_some hf
    refine ja_iald (P := r_t_husband) hx hb hK hP 2 0 rfl rfl hv13 iv13 dX12_wed_70 ?_
    refine lv_iload_n hx hb dX12_wed_71 rfl (lv_at hl 1 rfl) ?_
    refine lv_icmp_ne (tgt := 87) hx hb dX12_wed_72 (by decide) (fun c14 => ?_) (fun c14 => ?_)
    · replace hf := jif_f c14 hf
      exact t_X12_wed_j87 G D cI cB cZ a_t aX u_t_n u_t_ahead u_t_length u_t_begins u_t_sort u_t_value u_t_letters u_t_word u_t_wrongAt u_t_laterFault u_t_laterPlace u_t_newClasses u_t_newLines u_t_turns u_t_shortest u_t_orders u_t_rowNumber u_t_ties r_t_days r_t_persons r_t_sexOf s_t_code r_t_husband r_t_wedDay r_t_weddings r_t_wife x1 x2 x3 C hf K hP hD hS (lv_sub hl [0, 1, 2, 3] rfl)
    · replace hf := jif_t c14 hf
      refine lv_aload_n hx hb dX12_wed_75 rfl (lv_at hl 0 rfl) ?_
      refine va_get (D := D) (ci := 11) (v := .ref (aX 25)) (C := RX12) (T := TX12) (N := 74) hx hb hts iw_X12 hown hK hP 0 rfl rfl 25 (by decide) (hts _ (wG_in k_fl_X12_83 rfl)) (fun _ h9 => h9) rfl dX12_wed_76 ?_
      refine lv_iload_n hx hb dX12_wed_79 rfl (lv_at hl 3 rfl) ?_
      obtain ⟨v15, hv15, iv15, hf⟩ := jL_some hf
      refine ja_iald (P := r_t_wife) hx hb hK hP 7 0 rfl rfl hv15 iv15 dX12_wed_80 ?_
      refine lv_iload_n hx hb dX12_wed_81 rfl (lv_at hl 2 rfl) ?_
      refine lv_icmp_ne (tgt := 87) hx hb dX12_wed_82 (by decide) (fun c16 => ?_) (fun c16 => ?_)
      · replace hf := jif_f c16 hf
        exact t_X12_wed_j87 G D cI cB cZ a_t aX u_t_n u_t_ahead u_t_length u_t_begins u_t_sort u_t_value u_t_letters u_t_word u_t_wrongAt u_t_laterFault u_t_laterPlace u_t_newClasses u_t_newLines u_t_turns u_t_shortest u_t_orders u_t_rowNumber u_t_ties r_t_days r_t_persons r_t_sexOf s_t_code r_t_husband r_t_wedDay r_t_weddings r_t_wife x1 x2 x3 C hf K hP hD hS (lv_sub hl [0, 1, 2, 3] rfl)
      · replace hf := jif_t c16 hf
        have ho := Option.some.inj hf
        exact ((K.2 _ ho.symm).1 _ rfl) _ _ _ hP hD hS (lv_sub hl [] rfl)
def f_X12_wed_l55 (s_t_code : Int32) (r_t_husband r_t_wedDay r_t_weddings r_t_wife : jA) (x1 x2 x3 : Int32) : Option ((Unit) ⊕ ((Unit))) :=
  jI (fun z => f_X12_wed_b55 s_t_code r_t_husband r_t_wedDay r_t_weddings r_t_wife x1 x2 z) jF x3
set_option maxHeartbeats 4000000 in
set_option maxRecDepth 100000 in
theorem t_X12_wed_l55 {p : Program} {l : Launch} {e : Env} {s : State} {m : MethodId} {args : Array Value} {below : List Frame} {meth : Method} {c : Code} {A : Nat → Prop} {Q : State → Prop} (G : jGt) (D : va_G) (cI cB cZ : ClassId) (a_t : Nat) (aX : Nat → Nat) (u_t_n u_t_ahead u_t_length u_t_begins u_t_sort u_t_value u_t_letters : Int32) (u_t_word : Int64) (u_t_wrongAt u_t_laterFault u_t_laterPlace u_t_newClasses u_t_newLines u_t_turns u_t_shortest u_t_orders u_t_rowNumber u_t_ties : Int32) (r_t_days r_t_persons r_t_sexOf : jA) (s_t_code : Int32) (r_t_husband r_t_wedDay r_t_weddings r_t_wife : jA) (x1 x2 : Int32) (C : jCx p s m args c cX12_wed 4 gX12_wed RX12 G D (jT cI cB cZ) A) : ∀ (n : Nat) (x3 : Int32) {eo : (Unit) ⊕ ((Unit))}, jI (fun z => f_X12_wed_b55 s_t_code r_t_husband r_t_wedDay r_t_weddings r_t_wife x1 x2 z) n x3 = some eo → ((∀ y0, eo = Sum.inl y0 → ∀ (H : Heap) (locs : List Loc) (ls : Array Slot), va_P D vwCl (w_X12_wed cI cB cZ a_t aX u_t_n u_t_ahead u_t_length u_t_begins u_t_sort u_t_value u_t_letters u_t_word u_t_wrongAt u_t_laterFault u_t_laterPlace u_t_newClasses u_t_newLines u_t_turns u_t_shortest u_t_orders u_t_rowNumber u_t_ties s_t_code r_t_days r_t_husband r_t_persons r_t_sexOf r_t_wedDay r_t_weddings r_t_wife) H → va_D A (w_X12_wed cI cB cZ a_t aX u_t_n u_t_ahead u_t_length u_t_begins u_t_sort u_t_value u_t_letters u_t_word u_t_wrongAt u_t_laterFault u_t_laterPlace u_t_newClasses u_t_newLines u_t_turns u_t_shortest u_t_orders u_t_rowNumber u_t_ties s_t_code r_t_days r_t_husband r_t_persons r_t_sexOf r_t_wedDay r_t_weddings r_t_wife) → va_S A s.heap H locs → lv_has ls 4 [] → W p l e rX12_wed s m args below meth c H locs 0 0 Q (F0 m 85 ls [])) ∧ (∀ z0, eo = Sum.inr z0 → ∀ (H : Heap) (locs : List Loc) (ls : Array Slot), va_P D vwCl (w_X12_wed cI cB cZ a_t aX u_t_n u_t_ahead u_t_length u_t_begins u_t_sort u_t_value u_t_letters u_t_word u_t_wrongAt u_t_laterFault u_t_laterPlace u_t_newClasses u_t_newLines u_t_turns u_t_shortest u_t_orders u_t_rowNumber u_t_ties s_t_code r_t_days r_t_husband r_t_persons r_t_sexOf r_t_wedDay r_t_weddings r_t_wife) H → va_D A (w_X12_wed cI cB cZ a_t aX u_t_n u_t_ahead u_t_length u_t_begins u_t_sort u_t_value u_t_letters u_t_word u_t_wrongAt u_t_laterFault u_t_laterPlace u_t_newClasses u_t_newLines u_t_turns u_t_shortest u_t_orders u_t_rowNumber u_t_ties s_t_code r_t_days r_t_husband r_t_persons r_t_sexOf r_t_wedDay r_t_weddings r_t_wife) → va_S A s.heap H locs → lv_has ls 4 [(0, .ref a_t), (1, .int x1), (2, .int x2)] → W p l e rX12_wed s m args below meth c H locs 0 0 Q (F0 m 93 ls []))) → ∀ (H : Heap) (locs : List Loc) (ls : Array Slot), va_P D vwCl (w_X12_wed cI cB cZ a_t aX u_t_n u_t_ahead u_t_length u_t_begins u_t_sort u_t_value u_t_letters u_t_word u_t_wrongAt u_t_laterFault u_t_laterPlace u_t_newClasses u_t_newLines u_t_turns u_t_shortest u_t_orders u_t_rowNumber u_t_ties s_t_code r_t_days r_t_husband r_t_persons r_t_sexOf r_t_wedDay r_t_weddings r_t_wife) H → va_D A (w_X12_wed cI cB cZ a_t aX u_t_n u_t_ahead u_t_length u_t_begins u_t_sort u_t_value u_t_letters u_t_word u_t_wrongAt u_t_laterFault u_t_laterPlace u_t_newClasses u_t_newLines u_t_turns u_t_shortest u_t_orders u_t_rowNumber u_t_ties s_t_code r_t_days r_t_husband r_t_persons r_t_sexOf r_t_wedDay r_t_weddings r_t_wife) → va_S A s.heap H locs → lv_has ls 4 [(0, .ref a_t), (1, .int x1), (2, .int x2), (3, .int x3)] → W p l e rX12_wed s m args below meth c H locs 0 0 Q (F0 m 55 ls []) := by
  intro n
  induction n with
  | zero =>
    intro x3 eo hf
    exact (jI_zero hf).elim
  | succ n ih =>
    intro x3 eo hf K H locs ls hP hD hS hl
    obtain ⟨o, hb1, ho⟩ := jI_some hf
    rcases ho with ⟨z, rfl, hf2⟩ | rfl
    · exact t_X12_wed_b55 G D cI cB cZ a_t aX u_t_n u_t_ahead u_t_length u_t_begins u_t_sort u_t_value u_t_letters u_t_word u_t_wrongAt u_t_laterFault u_t_laterPlace u_t_newClasses u_t_newLines u_t_turns u_t_shortest u_t_orders u_t_rowNumber u_t_ties r_t_days r_t_persons r_t_sexOf s_t_code r_t_husband r_t_wedDay r_t_weddings r_t_wife x1 x2 x3 C hb1 ⟨fun z2 hz H locs ls hP hD hS hl => by cases hz; exact ih z hf2 K H locs ls hP hD hS hl, fun z2 hz => by cases hz⟩ hP hD hS hl
    · exact t_X12_wed_b55 G D cI cB cZ a_t aX u_t_n u_t_ahead u_t_length u_t_begins u_t_sort u_t_value u_t_letters u_t_word u_t_wrongAt u_t_laterFault u_t_laterPlace u_t_newClasses u_t_newLines u_t_turns u_t_shortest u_t_orders u_t_rowNumber u_t_ties r_t_days r_t_persons r_t_sexOf s_t_code r_t_husband r_t_wedDay r_t_weddings r_t_wife x1 x2 x3 C hb1 ⟨fun z2 hz => (by cases hz), fun z2 hz => by cases hz; exact K⟩ hP hD hS hl
def f_X12_wed (r_t_days r_t_persons r_t_sexOf : jA) (s_t_code : Int32) (r_t_husband r_t_wedDay r_t_weddings r_t_wife : jA) (x1 x2 : Int32) : Option (Int32 × Int32 × jA × jA × jA × jA) :=
  jL r_t_weddings (0 : Int32) fun v1 =>
  if v1 = (24 : Int32) then
  some ((-1 : Int32), (0 : Int32), r_t_husband, r_t_wedDay, r_t_weddings, r_t_wife)
  else
  jM (f_X12_isPerson r_t_persons x1) fun r3 =>
  if r3 = 0 then
  some ((-1 : Int32), (0 : Int32), r_t_husband, r_t_wedDay, r_t_weddings, r_t_wife)
  else
  jM (f_X12_isPerson r_t_persons x2) fun r5 =>
  if r5 = 0 then
  some ((-1 : Int32), (0 : Int32), r_t_husband, r_t_wedDay, r_t_weddings, r_t_wife)
  else
  jL r_t_sexOf x1 fun v7 =>
  if v7 = (1 : Int32) then
  jL r_t_sexOf x2 fun v9 =>
  if v9 = 0 then
  jM (f_X12_wed_l55 (0 : Int32) r_t_husband r_t_wedDay r_t_weddings r_t_wife x1 x2 (0 : Int32)) fun e17 =>
  Sum.elim (fun y18 =>
  some ((-1 : Int32), (0 : Int32), r_t_husband, r_t_wedDay, r_t_weddings, r_t_wife)) (fun w19 =>
  jL r_t_weddings (0 : Int32) fun v20 =>
  jL r_t_weddings (0 : Int32) fun v21 =>
  jS r_t_weddings (0 : Int32) (v21 + (1 : Int32)) fun q22 =>
  jS r_t_husband v20 x1 fun q23 =>
  jS r_t_wife v20 x2 fun q24 =>
  jL r_t_days (0 : Int32) fun v25 =>
  jS r_t_wedDay v20 v25 fun q26 =>
  jL q22 (0 : Int32) fun v27 =>
  some (v27, (0 : Int32), q23, q26, q22, q24)) e17
  else
  some ((-1 : Int32), (0 : Int32), r_t_husband, r_t_wedDay, r_t_weddings, r_t_wife)
  else
  some ((-1 : Int32), (0 : Int32), r_t_husband, r_t_wedDay, r_t_weddings, r_t_wife)
set_option maxHeartbeats 4000000 in
set_option maxRecDepth 100000 in
theorem t_X12_wed {p : Program} {l : Launch} {e : Env} {s : State} {m : MethodId} {args : Array Value} {below : List Frame} {meth : Method} {c : Code} {A : Nat → Prop} {Q : State → Prop} (G : jGt) (D : va_G) (cI cB cZ : ClassId) (a_t : Nat) (aX : Nat → Nat) (u_t_n u_t_ahead u_t_length u_t_begins u_t_sort u_t_value u_t_letters : Int32) (u_t_word : Int64) (u_t_wrongAt u_t_laterFault u_t_laterPlace u_t_newClasses u_t_newLines u_t_turns u_t_shortest u_t_orders u_t_rowNumber u_t_ties : Int32) (r_t_days r_t_persons r_t_sexOf : jA) (s_t_code : Int32) (r_t_husband r_t_wedDay r_t_weddings r_t_wife : jA) (x1 x2 : Int32) (C : jCx p s m args c cX12_wed 4 gX12_wed RX12 G D (jT cI cB cZ) A) {o : Int32 × Int32 × jA × jA × jA × jA} (hf : f_X12_wed r_t_days r_t_persons r_t_sexOf s_t_code r_t_husband r_t_wedDay r_t_weddings r_t_wife x1 x2 = some o) (K : ∀ (H : Heap) (locs : List Loc) (pc : Nat) (ls : Array Slot), va_P D vwCl (w_X12_wed cI cB cZ a_t aX u_t_n u_t_ahead u_t_length u_t_begins u_t_sort u_t_value u_t_letters u_t_word u_t_wrongAt u_t_laterFault u_t_laterPlace u_t_newClasses u_t_newLines u_t_turns u_t_shortest u_t_orders u_t_rowNumber u_t_ties o.2.1 r_t_days o.2.2.1 r_t_persons r_t_sexOf o.2.2.2.1 o.2.2.2.2.1 o.2.2.2.2.2) H → va_S A s.heap H locs → decode cX12_wed pc = .ok (.ireturn, 1) → W p l e rX12_wed s m args below meth c H locs 0 0 Q (F0 m pc ls [.int o.1])) {H : Heap} {locs : List Loc} {ls : Array Slot} (hP : va_P D vwCl (w_X12_wed cI cB cZ a_t aX u_t_n u_t_ahead u_t_length u_t_begins u_t_sort u_t_value u_t_letters u_t_word u_t_wrongAt u_t_laterFault u_t_laterPlace u_t_newClasses u_t_newLines u_t_turns u_t_shortest u_t_orders u_t_rowNumber u_t_ties s_t_code r_t_days r_t_husband r_t_persons r_t_sexOf r_t_wedDay r_t_weddings r_t_wife) H) (hD : va_D A (w_X12_wed cI cB cZ a_t aX u_t_n u_t_ahead u_t_length u_t_begins u_t_sort u_t_value u_t_letters u_t_word u_t_wrongAt u_t_laterFault u_t_laterPlace u_t_newClasses u_t_newLines u_t_turns u_t_shortest u_t_orders u_t_rowNumber u_t_ties s_t_code r_t_days r_t_husband r_t_persons r_t_sexOf r_t_wedDay r_t_weddings r_t_wife)) (hS : va_S A s.heap H locs) (hl : lv_has ls 4 [(0, .ref a_t), (1, .int x1), (2, .int x2)]) : W p l e rX12_wed s m args below meth c H locs 0 0 Q (F0 m 0 ls []) := by
  obtain ⟨⟨hx, hb, hml, hown, hts⟩, hK, hN, hA⟩ := C
  have C : jCx p s m args c cX12_wed 4 gX12_wed RX12 G D (jT cI cB cZ) A := ⟨⟨hx, hb, hml, hown, hts⟩, hK, hN, hA⟩
  unfold f_X12_wed at hf
  refine lv_aload_n hx hb dX12_wed_0 rfl (lv_at hl 0 rfl) ?_
  refine lv_iconst (v := (0 : Int32)) hx hb dX12_wed_1 (by decide) ?_
  refine va_put (D := D) (ci := 11) (v := .int (0 : Int32)) (ty := .int) (C := RX12) (T := TX12) (N := 74) hx hb hts iw_X12 tyX12 tyX12_ok nmX12 hown hK hP hD hS 0 rfl rfl 0 (by decide) (hts _ (wG_in k_fl_X12_177 rfl)) (fun _ h9 => h9) rfl (tyX12_ok 0 (by decide)) rfl rfl (Nat.le_of_ble_eq_true rfl) dX12_wed_2 (fun H locs hP hD hS => ?_)
  have hP : va_P D vwCl (w_X12_wed cI cB cZ a_t aX u_t_n u_t_ahead u_t_length u_t_begins u_t_sort u_t_value u_t_letters u_t_word u_t_wrongAt u_t_laterFault u_t_laterPlace u_t_newClasses u_t_newLines u_t_turns u_t_shortest u_t_orders u_t_rowNumber u_t_ties (0 : Int32) r_t_days r_t_husband r_t_persons r_t_sexOf r_t_wedDay r_t_weddings r_t_wife) H := hP
  have hD : va_D A (w_X12_wed cI cB cZ a_t aX u_t_n u_t_ahead u_t_length u_t_begins u_t_sort u_t_value u_t_letters u_t_word u_t_wrongAt u_t_laterFault u_t_laterPlace u_t_newClasses u_t_newLines u_t_turns u_t_shortest u_t_orders u_t_rowNumber u_t_ties (0 : Int32) r_t_days r_t_husband r_t_persons r_t_sexOf r_t_wedDay r_t_weddings r_t_wife) := hD
  refine lv_aload_n hx hb dX12_wed_5 rfl (lv_at hl 0 rfl) ?_
  refine va_get (D := D) (ci := 11) (v := .ref (aX 23)) (C := RX12) (T := TX12) (N := 74) hx hb hts iw_X12 hown hK hP 0 rfl rfl 23 (by decide) (hts _ (wG_in k_fl_X12_77 rfl)) (fun _ h9 => h9) rfl dX12_wed_6 ?_
  refine lv_iconst (v := (0 : Int32)) hx hb dX12_wed_9 (by decide) ?_
  obtain ⟨v1, hv1, iv1, hf⟩ := jL_some hf
  refine ja_iald (P := r_t_weddings) hx hb hK hP 6 0 rfl rfl hv1 iv1 dX12_wed_10 ?_
  refine lv_bipush (v := (24 : Int32)) hx hb dX12_wed_11 (by decide) ?_
  refine lv_icmp_eq (tgt := 51) hx hb dX12_wed_13 (by decide) (fun c2 => ?_) (fun c2 => ?_)
  · replace hf := jif_t c2 hf
    refine lv_iconst (v := (-1 : Int32)) hx hb dX12_wed_51 (by decide) ?_
    have ho := Option.some.inj hf
    subst ho
    exact K _ _ _ _ hP hS dX12_wed_52
  · replace hf := jif_f c2 hf
    refine lv_aload_n hx hb dX12_wed_16 rfl (lv_at hl 0 rfl) ?_
    refine lv_iload_n hx hb dX12_wed_17 rfl (lv_at hl 1 rfl) ?_
    obtain ⟨r3, hgr3, hf⟩ := jM_some hf
    refine jcV_i0 (As := [.int x1]) (rest := []) ⟨hx, hb, hml, hown, hts⟩ hK hN hA (c_X12_isPerson l G D cI cB cZ a_t aX (0 : Int32) u_t_n u_t_ahead u_t_length u_t_begins u_t_sort u_t_value u_t_letters u_t_word u_t_wrongAt u_t_laterFault u_t_laterPlace u_t_newClasses u_t_newLines u_t_turns u_t_shortest u_t_orders u_t_rowNumber u_t_ties r_t_persons x1 hgr3) (cwV 1 hts (wG_V k_ml_X12_407 k_im_X12_isPerson k_se_X12_isPerson k_in_X12 k_co_X12_isPerson) rfl rfl rfl hd_X12_isPerson ⟨Nat.le_of_ble_eq_true rfl, Nat.le_of_ble_eq_true rfl⟩) hP hD hS [0, 3] rfl rfl rfl (ci := 11) rfl 0 rfl rfl rfl hl.1 rfl (Nat.le_of_ble_eq_true rfl) dX12_wed_18 ⟨Nat.le_of_ble_eq_true rfl, Nat.le_of_ble_eq_true rfl⟩ (fun H locs hP hD hS => ?_)
    refine lv_if_eq (tgt := 51) hx hb dX12_wed_21 (by decide) (fun c4 => ?_) (fun c4 => ?_)
    · replace hf := jif_t c4 hf
      refine lv_iconst (v := (-1 : Int32)) hx hb dX12_wed_51 (by decide) ?_
      have ho := Option.some.inj hf
      subst ho
      exact K _ _ _ _ hP hS dX12_wed_52
    · replace hf := jif_f c4 hf
      refine lv_aload_n hx hb dX12_wed_24 rfl (lv_at hl 0 rfl) ?_
      refine lv_iload_n hx hb dX12_wed_25 rfl (lv_at hl 2 rfl) ?_
      obtain ⟨r5, hgr5, hf⟩ := jM_some hf
      refine jcV_i0 (As := [.int x2]) (rest := []) ⟨hx, hb, hml, hown, hts⟩ hK hN hA (c_X12_isPerson l G D cI cB cZ a_t aX (0 : Int32) u_t_n u_t_ahead u_t_length u_t_begins u_t_sort u_t_value u_t_letters u_t_word u_t_wrongAt u_t_laterFault u_t_laterPlace u_t_newClasses u_t_newLines u_t_turns u_t_shortest u_t_orders u_t_rowNumber u_t_ties r_t_persons x2 hgr5) (cwV 1 hts (wG_V k_ml_X12_407 k_im_X12_isPerson k_se_X12_isPerson k_in_X12 k_co_X12_isPerson) rfl rfl rfl hd_X12_isPerson ⟨Nat.le_of_ble_eq_true rfl, Nat.le_of_ble_eq_true rfl⟩) hP hD hS [0, 3] rfl rfl rfl (ci := 11) rfl 0 rfl rfl rfl hl.1 rfl (Nat.le_of_ble_eq_true rfl) dX12_wed_26 ⟨Nat.le_of_ble_eq_true rfl, Nat.le_of_ble_eq_true rfl⟩ (fun H locs hP hD hS => ?_)
      refine lv_if_eq (tgt := 51) hx hb dX12_wed_29 (by decide) (fun c6 => ?_) (fun c6 => ?_)
      · replace hf := jif_t c6 hf
        refine lv_iconst (v := (-1 : Int32)) hx hb dX12_wed_51 (by decide) ?_
        have ho := Option.some.inj hf
        subst ho
        exact K _ _ _ _ hP hS dX12_wed_52
      · replace hf := jif_f c6 hf
        refine lv_aload_n hx hb dX12_wed_32 rfl (lv_at hl 0 rfl) ?_
        refine va_get (D := D) (ci := 11) (v := .ref (aX 19)) (C := RX12) (T := TX12) (N := 74) hx hb hts iw_X12 hown hK hP 0 rfl rfl 19 (by decide) (hts _ (wG_in k_fl_X12_65 rfl)) (fun _ h9 => h9) rfl dX12_wed_33 ?_
        refine lv_iload_n hx hb dX12_wed_36 rfl (lv_at hl 1 rfl) ?_
        obtain ⟨v7, hv7, iv7, hf⟩ := jL_some hf
        refine ja_iald (P := r_t_sexOf) hx hb hK hP 4 0 rfl rfl hv7 iv7 dX12_wed_37 ?_
        refine lv_iconst (v := (1 : Int32)) hx hb dX12_wed_38 (by decide) ?_
        refine lv_icmp_ne (tgt := 51) hx hb dX12_wed_39 (by decide) (fun c8 => ?_) (fun c8 => ?_)
        · replace hf := jif_f c8 hf
          refine lv_iconst (v := (-1 : Int32)) hx hb dX12_wed_51 (by decide) ?_
          have ho := Option.some.inj hf
          subst ho
          exact K _ _ _ _ hP hS dX12_wed_52
        · replace hf := jif_t c8 hf
          refine lv_aload_n hx hb dX12_wed_42 rfl (lv_at hl 0 rfl) ?_
          refine va_get (D := D) (ci := 11) (v := .ref (aX 19)) (C := RX12) (T := TX12) (N := 74) hx hb hts iw_X12 hown hK hP 0 rfl rfl 19 (by decide) (hts _ (wG_in k_fl_X12_65 rfl)) (fun _ h9 => h9) rfl dX12_wed_43 ?_
          refine lv_iload_n hx hb dX12_wed_46 rfl (lv_at hl 2 rfl) ?_
          obtain ⟨v9, hv9, iv9, hf⟩ := jL_some hf
          refine ja_iald (P := r_t_sexOf) hx hb hK hP 4 0 rfl rfl hv9 iv9 dX12_wed_47 ?_
          refine lv_if_eq (tgt := 53) hx hb dX12_wed_48 (by decide) (fun c10 => ?_) (fun c10 => ?_)
          · replace hf := jif_t c10 hf
            refine lv_iconst (v := (0 : Int32)) hx hb dX12_wed_53 (by decide) ?_
            refine lv_istore_n (lv' := [(3, .int (0 : Int32)), (0, .ref a_t), (1, .int x1), (2, .int x2)]) hx hb dX12_wed_54 rfl hl (by decide) rfl (fun ls hl => ?_)
            obtain ⟨e17, hg17, hf⟩ := jM_some hf
            refine t_X12_wed_l55 G D cI cB cZ a_t aX u_t_n u_t_ahead u_t_length u_t_begins u_t_sort u_t_value u_t_letters u_t_word u_t_wrongAt u_t_laterFault u_t_laterPlace u_t_newClasses u_t_newLines u_t_turns u_t_shortest u_t_orders u_t_rowNumber u_t_ties r_t_days r_t_persons r_t_sexOf (0 : Int32) r_t_husband r_t_wedDay r_t_weddings r_t_wife x1 x2 C jF (0 : Int32) hg17 ?_ _ _ _ hP hD hS (lv_sub hl [1, 2, 3, 0] rfl)
            refine ⟨fun y18 hy => ?_, fun w19 hy => ?_⟩
            · replace hf := jE_l hy hf
              intro H locs ls hP hD hS hl
              refine lv_iconst (v := (-1 : Int32)) hx hb dX12_wed_85 (by decide) ?_
              have ho := Option.some.inj hf
              subst ho
              exact K _ _ _ _ hP hS dX12_wed_86
            · replace hf := jE_r hy hf
              intro H locs ls hP hD hS hl
              refine lv_aload_n hx hb dX12_wed_93 rfl (lv_at hl 0 rfl) ?_
              refine va_get (D := D) (ci := 11) (v := .ref (aX 23)) (C := RX12) (T := TX12) (N := 74) hx hb hts iw_X12 hown hK hP 0 rfl rfl 23 (by decide) (hts _ (wG_in k_fl_X12_77 rfl)) (fun _ h9 => h9) rfl dX12_wed_94 ?_
              refine lv_iconst (v := (0 : Int32)) hx hb dX12_wed_97 (by decide) ?_
              obtain ⟨v20, hv20, iv20, hf⟩ := jL_some hf
              refine ja_iald (P := r_t_weddings) hx hb hK hP 6 0 rfl rfl hv20 iv20 dX12_wed_98 ?_
              refine lv_istore_n (lv' := [(3, .int v20), (0, .ref a_t), (1, .int x1), (2, .int x2)]) hx hb dX12_wed_99 rfl hl (by decide) rfl (fun ls hl => ?_)
              refine lv_aload_n hx hb dX12_wed_100 rfl (lv_at hl 1 rfl) ?_
              refine va_get (D := D) (ci := 11) (v := .ref (aX 23)) (C := RX12) (T := TX12) (N := 74) hx hb hts iw_X12 hown hK hP 0 rfl rfl 23 (by decide) (hts _ (wG_in k_fl_X12_77 rfl)) (fun _ h9 => h9) rfl dX12_wed_101 ?_
              refine lv_iconst (v := (0 : Int32)) hx hb dX12_wed_104 (by decide) ?_
              refine lv_dup2_11 hx hb dX12_wed_105 rfl rfl ?_
              obtain ⟨v21, hv21, iv21, hf⟩ := jL_some hf
              refine ja_iald (P := r_t_weddings) hx hb hK hP 6 0 rfl rfl hv21 iv21 dX12_wed_106 ?_
              refine lv_iconst (v := (1 : Int32)) hx hb dX12_wed_107 (by decide) ?_
              refine lv_iadd hx hb dX12_wed_108 ?_
              obtain ⟨q22, hq22, iq22, hf⟩ := jS_some hf
              refine ja_iast (P := r_t_weddings) (P' := q22) hx hb hK hP hD hS 6 0 rfl rfl hq22 iq22 dX12_wed_109 (fun H locs hP hD hS => ?_)
              have hP : va_P D vwCl (w_X12_wed cI cB cZ a_t aX u_t_n u_t_ahead u_t_length u_t_begins u_t_sort u_t_value u_t_letters u_t_word u_t_wrongAt u_t_laterFault u_t_laterPlace u_t_newClasses u_t_newLines u_t_turns u_t_shortest u_t_orders u_t_rowNumber u_t_ties (0 : Int32) r_t_days r_t_husband r_t_persons r_t_sexOf r_t_wedDay q22 r_t_wife) H := hP
              have hD : va_D A (w_X12_wed cI cB cZ a_t aX u_t_n u_t_ahead u_t_length u_t_begins u_t_sort u_t_value u_t_letters u_t_word u_t_wrongAt u_t_laterFault u_t_laterPlace u_t_newClasses u_t_newLines u_t_turns u_t_shortest u_t_orders u_t_rowNumber u_t_ties (0 : Int32) r_t_days r_t_husband r_t_persons r_t_sexOf r_t_wedDay q22 r_t_wife) := hD
              refine lv_aload_n hx hb dX12_wed_110 rfl (lv_at hl 1 rfl) ?_
              refine va_get (D := D) (ci := 11) (v := .ref (aX 24)) (C := RX12) (T := TX12) (N := 74) hx hb hts iw_X12 hown hK hP 0 rfl rfl 24 (by decide) (hts _ (wG_in k_fl_X12_80 rfl)) (fun _ h9 => h9) rfl dX12_wed_111 ?_
              refine lv_iload_n hx hb dX12_wed_114 rfl (lv_at hl 0 rfl) ?_
              refine lv_iload_n hx hb dX12_wed_115 rfl (lv_at hl 2 rfl) ?_
              obtain ⟨q23, hq23, iq23, hf⟩ := jS_some hf
              refine ja_iast (P := r_t_husband) (P' := q23) hx hb hK hP hD hS 2 0 rfl rfl hq23 iq23 dX12_wed_116 (fun H locs hP hD hS => ?_)
              have hP : va_P D vwCl (w_X12_wed cI cB cZ a_t aX u_t_n u_t_ahead u_t_length u_t_begins u_t_sort u_t_value u_t_letters u_t_word u_t_wrongAt u_t_laterFault u_t_laterPlace u_t_newClasses u_t_newLines u_t_turns u_t_shortest u_t_orders u_t_rowNumber u_t_ties (0 : Int32) r_t_days q23 r_t_persons r_t_sexOf r_t_wedDay q22 r_t_wife) H := hP
              have hD : va_D A (w_X12_wed cI cB cZ a_t aX u_t_n u_t_ahead u_t_length u_t_begins u_t_sort u_t_value u_t_letters u_t_word u_t_wrongAt u_t_laterFault u_t_laterPlace u_t_newClasses u_t_newLines u_t_turns u_t_shortest u_t_orders u_t_rowNumber u_t_ties (0 : Int32) r_t_days q23 r_t_persons r_t_sexOf r_t_wedDay q22 r_t_wife) := hD
              refine lv_aload_n hx hb dX12_wed_117 rfl (lv_at hl 1 rfl) ?_
              refine va_get (D := D) (ci := 11) (v := .ref (aX 25)) (C := RX12) (T := TX12) (N := 74) hx hb hts iw_X12 hown hK hP 0 rfl rfl 25 (by decide) (hts _ (wG_in k_fl_X12_83 rfl)) (fun _ h9 => h9) rfl dX12_wed_118 ?_
              refine lv_iload_n hx hb dX12_wed_121 rfl (lv_at hl 0 rfl) ?_
              refine lv_iload_n hx hb dX12_wed_122 rfl (lv_at hl 3 rfl) ?_
              obtain ⟨q24, hq24, iq24, hf⟩ := jS_some hf
              refine ja_iast (P := r_t_wife) (P' := q24) hx hb hK hP hD hS 7 0 rfl rfl hq24 iq24 dX12_wed_123 (fun H locs hP hD hS => ?_)
              have hP : va_P D vwCl (w_X12_wed cI cB cZ a_t aX u_t_n u_t_ahead u_t_length u_t_begins u_t_sort u_t_value u_t_letters u_t_word u_t_wrongAt u_t_laterFault u_t_laterPlace u_t_newClasses u_t_newLines u_t_turns u_t_shortest u_t_orders u_t_rowNumber u_t_ties (0 : Int32) r_t_days q23 r_t_persons r_t_sexOf r_t_wedDay q22 q24) H := hP
              have hD : va_D A (w_X12_wed cI cB cZ a_t aX u_t_n u_t_ahead u_t_length u_t_begins u_t_sort u_t_value u_t_letters u_t_word u_t_wrongAt u_t_laterFault u_t_laterPlace u_t_newClasses u_t_newLines u_t_turns u_t_shortest u_t_orders u_t_rowNumber u_t_ties (0 : Int32) r_t_days q23 r_t_persons r_t_sexOf r_t_wedDay q22 q24) := hD
              refine lv_aload_n hx hb dX12_wed_124 rfl (lv_at hl 1 rfl) ?_
              refine va_get (D := D) (ci := 11) (v := .ref (aX 26)) (C := RX12) (T := TX12) (N := 74) hx hb hts iw_X12 hown hK hP 0 rfl rfl 26 (by decide) (hts _ (wG_in k_fl_X12_86 rfl)) (fun _ h9 => h9) rfl dX12_wed_125 ?_
              refine lv_iload_n hx hb dX12_wed_128 rfl (lv_at hl 0 rfl) ?_
              refine lv_aload_n hx hb dX12_wed_129 rfl (lv_at hl 1 rfl) ?_
              refine va_get (D := D) (ci := 11) (v := .ref (aX 16)) (C := RX12) (T := TX12) (N := 74) hx hb hts iw_X12 hown hK hP 0 rfl rfl 16 (by decide) (hts _ (wG_in k_fl_X12_56 rfl)) (fun _ h9 => h9) rfl dX12_wed_130 ?_
              refine lv_iconst (v := (0 : Int32)) hx hb dX12_wed_133 (by decide) ?_
              obtain ⟨v25, hv25, iv25, hf⟩ := jL_some hf
              refine ja_iald (P := r_t_days) hx hb hK hP 1 0 rfl rfl hv25 iv25 dX12_wed_134 ?_
              obtain ⟨q26, hq26, iq26, hf⟩ := jS_some hf
              refine ja_iast (P := r_t_wedDay) (P' := q26) hx hb hK hP hD hS 5 0 rfl rfl hq26 iq26 dX12_wed_135 (fun H locs hP hD hS => ?_)
              have hP : va_P D vwCl (w_X12_wed cI cB cZ a_t aX u_t_n u_t_ahead u_t_length u_t_begins u_t_sort u_t_value u_t_letters u_t_word u_t_wrongAt u_t_laterFault u_t_laterPlace u_t_newClasses u_t_newLines u_t_turns u_t_shortest u_t_orders u_t_rowNumber u_t_ties (0 : Int32) r_t_days q23 r_t_persons r_t_sexOf q26 q22 q24) H := hP
              have hD : va_D A (w_X12_wed cI cB cZ a_t aX u_t_n u_t_ahead u_t_length u_t_begins u_t_sort u_t_value u_t_letters u_t_word u_t_wrongAt u_t_laterFault u_t_laterPlace u_t_newClasses u_t_newLines u_t_turns u_t_shortest u_t_orders u_t_rowNumber u_t_ties (0 : Int32) r_t_days q23 r_t_persons r_t_sexOf q26 q22 q24) := hD
              refine lv_aload_n hx hb dX12_wed_136 rfl (lv_at hl 1 rfl) ?_
              refine va_get (D := D) (ci := 11) (v := .ref (aX 23)) (C := RX12) (T := TX12) (N := 74) hx hb hts iw_X12 hown hK hP 0 rfl rfl 23 (by decide) (hts _ (wG_in k_fl_X12_77 rfl)) (fun _ h9 => h9) rfl dX12_wed_137 ?_
              refine lv_iconst (v := (0 : Int32)) hx hb dX12_wed_140 (by decide) ?_
              obtain ⟨v27, hv27, iv27, hf⟩ := jL_some hf
              refine ja_iald (P := q22) hx hb hK hP 6 0 rfl rfl hv27 iv27 dX12_wed_141 ?_
              have ho := Option.some.inj hf
              subst ho
              exact K _ _ _ _ hP hS dX12_wed_142
          · replace hf := jif_f c10 hf
            refine lv_iconst (v := (-1 : Int32)) hx hb dX12_wed_51 (by decide) ?_
            have ho := Option.some.inj hf
            subst ho
            exact K _ _ _ _ hP hS dX12_wed_52
set_option maxHeartbeats 4000000 in
set_option maxRecDepth 100000 in
theorem c_X12_wed (l : Launch) (G : jGt) (D : va_G) (cI cB cZ : ClassId) (a_t : Nat) (aX : Nat → Nat) (u_t_n u_t_ahead u_t_length u_t_begins u_t_sort u_t_value u_t_letters : Int32) (u_t_word : Int64) (u_t_wrongAt u_t_laterFault u_t_laterPlace u_t_newClasses u_t_newLines u_t_turns u_t_shortest u_t_orders u_t_rowNumber u_t_ties : Int32) (r_t_days r_t_persons r_t_sexOf : jA) (s_t_code : Int32) (r_t_husband r_t_wedDay r_t_weddings r_t_wife : jA) (x1 x2 : Int32) {o : Int32 × Int32 × jA × jA × jA × jA} (hf : f_X12_wed r_t_days r_t_persons r_t_sexOf s_t_code r_t_husband r_t_wedDay r_t_weddings r_t_wife x1 x2 = some o) : jMi l yX12_wed gX12_wed rX12_wed G D (jT cI cB cZ) [.ref a_t, .int x1, .int x2] (w_X12_wed cI cB cZ a_t aX u_t_n u_t_ahead u_t_length u_t_begins u_t_sort u_t_value u_t_letters u_t_word u_t_wrongAt u_t_laterFault u_t_laterPlace u_t_newClasses u_t_newLines u_t_turns u_t_shortest u_t_orders u_t_rowNumber u_t_ties s_t_code r_t_days r_t_husband r_t_persons r_t_sexOf r_t_wedDay r_t_weddings r_t_wife) (w_X12_wed cI cB cZ a_t aX u_t_n u_t_ahead u_t_length u_t_begins u_t_sort u_t_value u_t_letters u_t_word u_t_wrongAt u_t_laterFault u_t_laterPlace u_t_newClasses u_t_newLines u_t_turns u_t_shortest u_t_orders u_t_rowNumber u_t_ties o.2.1 r_t_days o.2.2.1 r_t_persons r_t_sexOf o.2.2.2.1 o.2.2.2.2.1 o.2.2.2.2.2) o.1 := by
  refine jmk_i RX12 rfl (by decide +kernel) rfl (Nat.le_of_ble_eq_true rfl) rfl ?_
  intro p e s m args below meth c ls A Q C hP hD hS hl K
  exact t_X12_wed G D cI cB cZ a_t aX u_t_n u_t_ahead u_t_length u_t_begins u_t_sort u_t_value u_t_letters u_t_word u_t_wrongAt u_t_laterFault u_t_laterPlace u_t_newClasses u_t_newLines u_t_turns u_t_shortest u_t_orders u_t_rowNumber u_t_ties r_t_days r_t_persons r_t_sexOf s_t_code r_t_husband r_t_wedDay r_t_weddings r_t_wife x1 x2 C hf K hP hD hS hl

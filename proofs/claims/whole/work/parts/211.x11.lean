abbrev rX9_countOf : Room := { frames := 4, cells := 0, slots := 0, locals := 92 }
abbrev gX9_countOf : List Cond := wG yX9_countOf cX9_countOf 2 (some .int)
def w_X9_countOf (cI cB cZ : ClassId) (a_p0 a_t a_p0_child a_p0_wife a_t_byChild a_t_byFather a_t_byHusband a_t_byWife a_t_searched a_t_slot a_t_turn : Nat) (u_p0_husband u_p0_father u_t_before u_t_queue u_t_ways u_t_nextWays : Value) (s_p0_size s_t_children s_t_count s_t_many s_t_size s_t_wives : Int32) (r_p0_child r_p0_wife r_t_byChild r_t_byFather r_t_byHusband r_t_byWife r_t_searched r_t_slot r_t_turn : jA) : va_W := [(a_p0, .inr (9, (oX10 (.ref a_p0_wife) (.ref a_p0_child) u_p0_husband u_p0_father s_p0_size))), (a_t, .inr (8, (oX9 s_t_size s_t_wives s_t_children s_t_count s_t_many (.ref a_t_turn) (.ref a_t_slot) (.ref a_t_byWife) (.ref a_t_byChild) (.ref a_t_byHusband) (.ref a_t_byFather) (.ref a_t_searched) u_t_before u_t_queue u_t_ways u_t_nextWays))), (a_p0_child, .inl (cI, r_p0_child.1, .inl r_p0_child.2)), (a_p0_wife, .inl (cI, r_p0_wife.1, .inl r_p0_wife.2)), (a_t_byChild, .inl (cI, r_t_byChild.1, .inl r_t_byChild.2)), (a_t_byFather, .inl (cI, r_t_byFather.1, .inl r_t_byFather.2)), (a_t_byHusband, .inl (cI, r_t_byHusband.1, .inl r_t_byHusband.2)), (a_t_byWife, .inl (cI, r_t_byWife.1, .inl r_t_byWife.2)), (a_t_searched, .inl (cZ, r_t_searched.1, .inl r_t_searched.2)), (a_t_slot, .inl (cI, r_t_slot.1, .inl r_t_slot.2)), (a_t_turn, .inl (cI, r_t_turn.1, .inl r_t_turn.2))]
def f_X9_countOf (s_p0_size : Int32) (r_p0_child r_p0_wife : jA) (s_t_children s_t_count s_t_many s_t_size s_t_wives : Int32) (r_t_byChild r_t_byFather r_t_byHusband r_t_byWife r_t_searched r_t_slot r_t_turn : jA) : Option (Int32 × Int32 × Int32 × Int32 × Int32 × Int32 × jA × jA × jA × jA × jA × jA × jA) :=
  jM (f_X9_gather s_p0_size r_p0_child r_p0_wife s_t_children s_t_count s_t_many s_t_size s_t_wives r_t_byChild r_t_byFather r_t_byHusband r_t_byWife r_t_searched r_t_slot r_t_turn) fun r1 =>
  if r1.2.2.1 = 0 then
  some (r1.2.1, r1.1, r1.2.1, r1.2.2.1, r1.2.2.2.1, r1.2.2.2.2.1, r1.2.2.2.2.2.1, r1.2.2.2.2.2.2.1, r1.2.2.2.2.2.2.2.1, r1.2.2.2.2.2.2.2.2.1, r1.2.2.2.2.2.2.2.2.2.1, r1.2.2.2.2.2.2.2.2.2.2.1, r1.2.2.2.2.2.2.2.2.2.2.2)
  else
  some ((-2 : Int32), r1.1, r1.2.1, r1.2.2.1, r1.2.2.2.1, r1.2.2.2.2.1, r1.2.2.2.2.2.1, r1.2.2.2.2.2.2.1, r1.2.2.2.2.2.2.2.1, r1.2.2.2.2.2.2.2.2.1, r1.2.2.2.2.2.2.2.2.2.1, r1.2.2.2.2.2.2.2.2.2.2.1, r1.2.2.2.2.2.2.2.2.2.2.2)
set_option maxHeartbeats 4000000 in
set_option maxRecDepth 100000 in
theorem t_X9_countOf {p : Program} {l : Launch} {e : Env} {s : State} {m : MethodId} {args : Array Value} {below : List Frame} {meth : Method} {c : Code} {A : Nat → Prop} {Q : State → Prop} (G : jGt) (D : va_G) (cI cB cZ : ClassId) (a_p0 a_t a_p0_child a_p0_wife a_t_byChild a_t_byFather a_t_byHusband a_t_byWife a_t_searched a_t_slot a_t_turn : Nat) (u_p0_husband u_p0_father u_t_before u_t_queue u_t_ways u_t_nextWays : Value) (s_p0_size : Int32) (r_p0_child r_p0_wife : jA) (s_t_children s_t_count s_t_many s_t_size s_t_wives : Int32) (r_t_byChild r_t_byFather r_t_byHusband r_t_byWife r_t_searched r_t_slot r_t_turn : jA) (C : jCx p s m args c cX9_countOf 2 gX9_countOf RX9 G D (jT cI cB cZ) A) {o : Int32 × Int32 × Int32 × Int32 × Int32 × Int32 × jA × jA × jA × jA × jA × jA × jA} (hf : f_X9_countOf s_p0_size r_p0_child r_p0_wife s_t_children s_t_count s_t_many s_t_size s_t_wives r_t_byChild r_t_byFather r_t_byHusband r_t_byWife r_t_searched r_t_slot r_t_turn = some o) (K : ∀ (H : Heap) (locs : List Loc) (pc : Nat) (ls : Array Slot), va_P D vwCl (w_X9_countOf cI cB cZ a_p0 a_t a_p0_child a_p0_wife a_t_byChild a_t_byFather a_t_byHusband a_t_byWife a_t_searched a_t_slot a_t_turn u_p0_husband u_p0_father u_t_before u_t_queue u_t_ways u_t_nextWays s_p0_size o.2.1 o.2.2.1 o.2.2.2.1 o.2.2.2.2.1 o.2.2.2.2.2.1 r_p0_child r_p0_wife o.2.2.2.2.2.2.1 o.2.2.2.2.2.2.2.1 o.2.2.2.2.2.2.2.2.1 o.2.2.2.2.2.2.2.2.2.1 o.2.2.2.2.2.2.2.2.2.2.1 o.2.2.2.2.2.2.2.2.2.2.2.1 o.2.2.2.2.2.2.2.2.2.2.2.2) H → va_S A s.heap H locs → decode cX9_countOf pc = .ok (.ireturn, 1) → W p l e rX9_countOf s m args below meth c H locs 0 0 Q (F0 m pc ls [.int o.1])) {H : Heap} {locs : List Loc} {ls : Array Slot} (hP : va_P D vwCl (w_X9_countOf cI cB cZ a_p0 a_t a_p0_child a_p0_wife a_t_byChild a_t_byFather a_t_byHusband a_t_byWife a_t_searched a_t_slot a_t_turn u_p0_husband u_p0_father u_t_before u_t_queue u_t_ways u_t_nextWays s_p0_size s_t_children s_t_count s_t_many s_t_size s_t_wives r_p0_child r_p0_wife r_t_byChild r_t_byFather r_t_byHusband r_t_byWife r_t_searched r_t_slot r_t_turn) H) (hD : va_D A (w_X9_countOf cI cB cZ a_p0 a_t a_p0_child a_p0_wife a_t_byChild a_t_byFather a_t_byHusband a_t_byWife a_t_searched a_t_slot a_t_turn u_p0_husband u_p0_father u_t_before u_t_queue u_t_ways u_t_nextWays s_p0_size s_t_children s_t_count s_t_many s_t_size s_t_wives r_p0_child r_p0_wife r_t_byChild r_t_byFather r_t_byHusband r_t_byWife r_t_searched r_t_slot r_t_turn)) (hS : va_S A s.heap H locs) (hl : lv_has ls 2 [(0, .ref a_t), (1, .ref a_p0)]) : W p l e rX9_countOf s m args below meth c H locs 0 0 Q (F0 m 0 ls []) := by
  obtain ⟨⟨hx, hb, hml, hown, hts⟩, hK, hN, hA⟩ := C
  have C : jCx p s m args c cX9_countOf 2 gX9_countOf RX9 G D (jT cI cB cZ) A := ⟨⟨hx, hb, hml, hown, hts⟩, hK, hN, hA⟩
  unfold f_X9_countOf at hf
  refine lv_aload_n hx hb dX9_countOf_0 rfl (lv_at hl 0 rfl) ?_
  refine lv_aload_n hx hb dX9_countOf_1 rfl (lv_at hl 1 rfl) ?_
  obtain ⟨r1, hgr1, hf⟩ := jM_some hf
  refine jcV_v (As := [.ref a_p0]) (rest := []) ⟨hx, hb, hml, hown, hts⟩ hK hN hA (c_X9_gather l G D cI cB cZ a_p0 a_t a_p0_child a_p0_wife a_t_byChild a_t_byFather a_t_byHusband a_t_byWife a_t_searched a_t_slot a_t_turn u_p0_husband u_p0_father u_t_before u_t_queue u_t_ways u_t_nextWays s_p0_size r_p0_child r_p0_wife s_t_children s_t_count s_t_many s_t_size s_t_wives r_t_byChild r_t_byFather r_t_byHusband r_t_byWife r_t_searched r_t_slot r_t_turn hgr1) (cwV 1 hts (wG_V k_ml_X9_48 k_im_X9_gather k_se_X9_gather k_in_X9 k_co_X9_gather) rfl rfl rfl hd_X9_gather ⟨Nat.le_of_ble_eq_true rfl, Nat.le_of_ble_eq_true rfl⟩) hP hD hS [0, 1, 2, 3, 4, 5, 6, 7, 8, 9, 10] rfl rfl rfl (ci := 8) rfl 1 rfl rfl rfl hl.1 rfl (Nat.le_of_ble_eq_true rfl) dX9_countOf_2 ⟨Nat.le_of_ble_eq_true rfl, Nat.le_of_ble_eq_true rfl⟩ (fun H locs hP hD hS => ?_)
  have hP : va_P D vwCl (w_X9_countOf cI cB cZ a_p0 a_t a_p0_child a_p0_wife a_t_byChild a_t_byFather a_t_byHusband a_t_byWife a_t_searched a_t_slot a_t_turn u_p0_husband u_p0_father u_t_before u_t_queue u_t_ways u_t_nextWays s_p0_size r1.1 r1.2.1 r1.2.2.1 r1.2.2.2.1 r1.2.2.2.2.1 r_p0_child r_p0_wife r1.2.2.2.2.2.1 r1.2.2.2.2.2.2.1 r1.2.2.2.2.2.2.2.1 r1.2.2.2.2.2.2.2.2.1 r1.2.2.2.2.2.2.2.2.2.1 r1.2.2.2.2.2.2.2.2.2.2.1 r1.2.2.2.2.2.2.2.2.2.2.2) H := hP
  have hD : va_D A (w_X9_countOf cI cB cZ a_p0 a_t a_p0_child a_p0_wife a_t_byChild a_t_byFather a_t_byHusband a_t_byWife a_t_searched a_t_slot a_t_turn u_p0_husband u_p0_father u_t_before u_t_queue u_t_ways u_t_nextWays s_p0_size r1.1 r1.2.1 r1.2.2.1 r1.2.2.2.1 r1.2.2.2.2.1 r_p0_child r_p0_wife r1.2.2.2.2.2.1 r1.2.2.2.2.2.2.1 r1.2.2.2.2.2.2.2.1 r1.2.2.2.2.2.2.2.2.1 r1.2.2.2.2.2.2.2.2.2.1 r1.2.2.2.2.2.2.2.2.2.2.1 r1.2.2.2.2.2.2.2.2.2.2.2) := hD
  refine lv_aload_n hx hb dX9_countOf_5 rfl (lv_at hl 0 rfl) ?_
  refine va_get (D := D) (ci := 8) (v := .int r1.2.2.1) (C := RX9) (T := TX9) (N := 16) hx hb hts iw_X9 hown hK hP 1 rfl rfl 4 (by decide) (hts _ (wG_in k_fl_X9_52 rfl)) (fun _ h9 => h9) rfl dX9_countOf_6 ?_
  refine lv_if_eq (tgt := 17) hx hb dX9_countOf_9 (by decide) (fun c2 => ?_) (fun c2 => ?_)
  · replace hf := jif_t c2 hf
    refine lv_aload_n hx hb dX9_countOf_17 rfl (lv_at hl 0 rfl) ?_
    refine va_get (D := D) (ci := 8) (v := .int r1.2.1) (C := RX9) (T := TX9) (N := 16) hx hb hts iw_X9 hown hK hP 1 rfl rfl 3 (by decide) (hts _ (wG_in k_fl_X9_56 rfl)) (fun _ h9 => h9) rfl dX9_countOf_18 ?_
    have ho := Option.some.inj hf
    subst ho
    exact K _ _ _ _ hP hS dX9_countOf_21
  · replace hf := jif_f c2 hf
    refine lv_bipush (v := (-2 : Int32)) hx hb dX9_countOf_12 (by decide) ?_
    refine lv_goto (tgt := 21) hx hb dX9_countOf_14 (by decide) ?_
    have ho := Option.some.inj hf
    subst ho
    exact K _ _ _ _ hP hS dX9_countOf_21
set_option maxHeartbeats 4000000 in
set_option maxRecDepth 100000 in
theorem c_X9_countOf (l : Launch) (G : jGt) (D : va_G) (cI cB cZ : ClassId) (a_p0 a_t a_p0_child a_p0_wife a_t_byChild a_t_byFather a_t_byHusband a_t_byWife a_t_searched a_t_slot a_t_turn : Nat) (u_p0_husband u_p0_father u_t_before u_t_queue u_t_ways u_t_nextWays : Value) (s_p0_size : Int32) (r_p0_child r_p0_wife : jA) (s_t_children s_t_count s_t_many s_t_size s_t_wives : Int32) (r_t_byChild r_t_byFather r_t_byHusband r_t_byWife r_t_searched r_t_slot r_t_turn : jA) {o : Int32 × Int32 × Int32 × Int32 × Int32 × Int32 × jA × jA × jA × jA × jA × jA × jA} (hf : f_X9_countOf s_p0_size r_p0_child r_p0_wife s_t_children s_t_count s_t_many s_t_size s_t_wives r_t_byChild r_t_byFather r_t_byHusband r_t_byWife r_t_searched r_t_slot r_t_turn = some o) : jMi l yX9_countOf gX9_countOf rX9_countOf G D (jT cI cB cZ) [.ref a_t, .ref a_p0] (w_X9_countOf cI cB cZ a_p0 a_t a_p0_child a_p0_wife a_t_byChild a_t_byFather a_t_byHusband a_t_byWife a_t_searched a_t_slot a_t_turn u_p0_husband u_p0_father u_t_before u_t_queue u_t_ways u_t_nextWays s_p0_size s_t_children s_t_count s_t_many s_t_size s_t_wives r_p0_child r_p0_wife r_t_byChild r_t_byFather r_t_byHusband r_t_byWife r_t_searched r_t_slot r_t_turn) (w_X9_countOf cI cB cZ a_p0 a_t a_p0_child a_p0_wife a_t_byChild a_t_byFather a_t_byHusband a_t_byWife a_t_searched a_t_slot a_t_turn u_p0_husband u_p0_father u_t_before u_t_queue u_t_ways u_t_nextWays s_p0_size o.2.1 o.2.2.1 o.2.2.2.1 o.2.2.2.2.1 o.2.2.2.2.2.1 r_p0_child r_p0_wife o.2.2.2.2.2.2.1 o.2.2.2.2.2.2.2.1 o.2.2.2.2.2.2.2.2.1 o.2.2.2.2.2.2.2.2.2.1 o.2.2.2.2.2.2.2.2.2.2.1 o.2.2.2.2.2.2.2.2.2.2.2.1 o.2.2.2.2.2.2.2.2.2.2.2.2) o.1 := by
  refine jmk_i RX9 rfl (by decide +kernel) rfl (Nat.le_of_ble_eq_true rfl) rfl ?_
  intro p e s m args below meth c ls A Q C hP hD hS hl K
  exact t_X9_countOf G D cI cB cZ a_p0 a_t a_p0_child a_p0_wife a_t_byChild a_t_byFather a_t_byHusband a_t_byWife a_t_searched a_t_slot a_t_turn u_p0_husband u_p0_father u_t_before u_t_queue u_t_ways u_t_nextWays s_p0_size r_p0_child r_p0_wife s_t_children s_t_count s_t_many s_t_size s_t_wives r_t_byChild r_t_byFather r_t_byHusband r_t_byWife r_t_searched r_t_slot r_t_turn C hf K hP hD hS hl
abbrev rX9_stepTurn : Room := { frames := 1, cells := 0, slots := 0, locals := 21 }
abbrev gX9_stepTurn : List Cond := wG yX9_stepTurn cX9_stepTurn 4 (some .int)
def w_X9_stepTurn (cI cB cZ : ClassId) (a_t a_t_byChild a_t_byFather a_t_byHusband a_t_byWife : Nat) (u_t_size u_t_wives u_t_children u_t_count u_t_many : Int32) (u_t_turn u_t_slot u_t_searched u_t_before u_t_queue u_t_ways u_t_nextWays : Value) (r_t_byChild r_t_byFather r_t_byHusband r_t_byWife : jA) : va_W := [(a_t, .inr (8, (oX9 u_t_size u_t_wives u_t_children u_t_count u_t_many u_t_turn u_t_slot (.ref a_t_byWife) (.ref a_t_byChild) (.ref a_t_byHusband) (.ref a_t_byFather) u_t_searched u_t_before u_t_queue u_t_ways u_t_nextWays))), (a_t_byChild, .inl (cI, r_t_byChild.1, .inl r_t_byChild.2)), (a_t_byFather, .inl (cI, r_t_byFather.1, .inl r_t_byFather.2)), (a_t_byHusband, .inl (cI, r_t_byHusband.1, .inl r_t_byHusband.2)), (a_t_byWife, .inl (cI, r_t_byWife.1, .inl r_t_byWife.2))]
def f_X9_stepTurn_j94 (r_t_byChild : jA) (k1 : Int32) : Option (Int32) :=
  jM (f_X11_entry r_t_byChild k1) fun r9 =>
  some r9
set_option maxHeartbeats 4000000 in
set_option maxRecDepth 100000 in
theorem t_X9_stepTurn_j94 {p : Program} {l : Launch} {e : Env} {s : State} {m : MethodId} {args : Array Value} {below : List Frame} {meth : Method} {c : Code} {A : Nat → Prop} {Q : State → Prop} (G : jGt) (D : va_G) (cI cB cZ : ClassId) (a_t a_t_byChild a_t_byFather a_t_byHusband a_t_byWife : Nat) (u_t_size u_t_wives u_t_children u_t_count u_t_many : Int32) (u_t_turn u_t_slot u_t_searched u_t_before u_t_queue u_t_ways u_t_nextWays : Value) (r_t_byChild r_t_byFather r_t_byHusband r_t_byWife : jA) (k1 : Int32) (C : jCx p s m args c cX9_stepTurn 4 gX9_stepTurn RX9 G D (jT cI cB cZ) A) {o : Int32} (hf : f_X9_stepTurn_j94 r_t_byChild k1 = some o) (K : ∀ (H : Heap) (locs : List Loc) (pc : Nat) (ls : Array Slot), va_P D vwCl (w_X9_stepTurn cI cB cZ a_t a_t_byChild a_t_byFather a_t_byHusband a_t_byWife u_t_size u_t_wives u_t_children u_t_count u_t_many u_t_turn u_t_slot u_t_searched u_t_before u_t_queue u_t_ways u_t_nextWays r_t_byChild r_t_byFather r_t_byHusband r_t_byWife) H → va_S A s.heap H locs → decode cX9_stepTurn pc = .ok (.ireturn, 1) → W p l e rX9_stepTurn s m args below meth c H locs 0 0 Q (F0 m pc ls [.int o])) {H : Heap} {locs : List Loc} {ls : Array Slot} (hP : va_P D vwCl (w_X9_stepTurn cI cB cZ a_t a_t_byChild a_t_byFather a_t_byHusband a_t_byWife u_t_size u_t_wives u_t_children u_t_count u_t_many u_t_turn u_t_slot u_t_searched u_t_before u_t_queue u_t_ways u_t_nextWays r_t_byChild r_t_byFather r_t_byHusband r_t_byWife) H) (hD : va_D A (w_X9_stepTurn cI cB cZ a_t a_t_byChild a_t_byFather a_t_byHusband a_t_byWife u_t_size u_t_wives u_t_children u_t_count u_t_many u_t_turn u_t_slot u_t_searched u_t_before u_t_queue u_t_ways u_t_nextWays r_t_byChild r_t_byFather r_t_byHusband r_t_byWife)) (hS : va_S A s.heap H locs) (hl : lv_has ls 4 []) : W p l e rX9_stepTurn s m args below meth c H locs 0 0 Q (F0 m 94 ls [.int k1, .ref a_t_byChild]) := by
  obtain ⟨⟨hx, hb, hml, hown, hts⟩, hK, hN, hA⟩ := C
  have C : jCx p s m args c cX9_stepTurn 4 gX9_stepTurn RX9 G D (jT cI cB cZ) A := ⟨⟨hx, hb, hml, hown, hts⟩, hK, hN, hA⟩
  unfold f_X9_stepTurn_j94 at hf
  obtain ⟨r9, hgr9, hf⟩ := jM_some hf
  refine jcN_i0 (As := [.ref a_t_byChild, .int k1]) (rest := []) ⟨hx, hb, hml, hown, hts⟩ hK hN hA (c_X11_entry l G D cI cB cZ a_t_byChild r_t_byChild k1 hgr9) ⟨va_cnB 2 hts (wG_good k_co_X11_entry) rfl rfl rfl (jN_l nl_X9_99 hN) (hts _ (wG_in k_in_X11 rfl)) hd_X11_entry.2 ⟨Nat.le_of_ble_eq_true rfl, Nat.le_of_ble_eq_true rfl⟩, hts _ (wG_in k_st_X11_entry rfl), trivial⟩ hP hD hS [1] rfl rfl rfl rfl hl.1 rfl (Nat.le_of_ble_eq_true rfl) dX9_stepTurn_94 ⟨Nat.le_of_ble_eq_true rfl, Nat.le_of_ble_eq_true rfl⟩ (fun H locs hP hD hS => ?_)
  have ho := Option.some.inj hf
  subst ho
  exact K _ _ _ _ hP hS dX9_stepTurn_97
def f_X9_stepTurn_j73 (r_t_byChild r_t_byHusband : jA) (x1 x2 : Int32) : Option (Int32) :=
  if x2 = (1 : Int32) then
  f_X9_stepTurn_j94 r_t_byChild x1
  else
  jM (f_X11_entry r_t_byHusband x1) fun r8 =>
  f_X9_stepTurn_j94 r_t_byChild r8
set_option maxHeartbeats 4000000 in
set_option maxRecDepth 100000 in
theorem t_X9_stepTurn_j73 {p : Program} {l : Launch} {e : Env} {s : State} {m : MethodId} {args : Array Value} {below : List Frame} {meth : Method} {c : Code} {A : Nat → Prop} {Q : State → Prop} (G : jGt) (D : va_G) (cI cB cZ : ClassId) (a_t a_t_byChild a_t_byFather a_t_byHusband a_t_byWife : Nat) (u_t_size u_t_wives u_t_children u_t_count u_t_many : Int32) (u_t_turn u_t_slot u_t_searched u_t_before u_t_queue u_t_ways u_t_nextWays : Value) (r_t_byChild r_t_byFather r_t_byHusband r_t_byWife : jA) (x1 x2 : Int32) (C : jCx p s m args c cX9_stepTurn 4 gX9_stepTurn RX9 G D (jT cI cB cZ) A) {o : Int32} (hf : f_X9_stepTurn_j73 r_t_byChild r_t_byHusband x1 x2 = some o) (K : ∀ (H : Heap) (locs : List Loc) (pc : Nat) (ls : Array Slot), va_P D vwCl (w_X9_stepTurn cI cB cZ a_t a_t_byChild a_t_byFather a_t_byHusband a_t_byWife u_t_size u_t_wives u_t_children u_t_count u_t_many u_t_turn u_t_slot u_t_searched u_t_before u_t_queue u_t_ways u_t_nextWays r_t_byChild r_t_byFather r_t_byHusband r_t_byWife) H → va_S A s.heap H locs → decode cX9_stepTurn pc = .ok (.ireturn, 1) → W p l e rX9_stepTurn s m args below meth c H locs 0 0 Q (F0 m pc ls [.int o])) {H : Heap} {locs : List Loc} {ls : Array Slot} (hP : va_P D vwCl (w_X9_stepTurn cI cB cZ a_t a_t_byChild a_t_byFather a_t_byHusband a_t_byWife u_t_size u_t_wives u_t_children u_t_count u_t_many u_t_turn u_t_slot u_t_searched u_t_before u_t_queue u_t_ways u_t_nextWays r_t_byChild r_t_byFather r_t_byHusband r_t_byWife) H) (hD : va_D A (w_X9_stepTurn cI cB cZ a_t a_t_byChild a_t_byFather a_t_byHusband a_t_byWife u_t_size u_t_wives u_t_children u_t_count u_t_many u_t_turn u_t_slot u_t_searched u_t_before u_t_queue u_t_ways u_t_nextWays r_t_byChild r_t_byFather r_t_byHusband r_t_byWife)) (hS : va_S A s.heap H locs) (hl : lv_has ls 4 [(0, .ref a_t), (1, .int x1), (2, .int x2)]) : W p l e rX9_stepTurn s m args below meth c H locs 0 0 Q (F0 m 73 ls []) := by
  obtain ⟨⟨hx, hb, hml, hown, hts⟩, hK, hN, hA⟩ := C
  have C : jCx p s m args c cX9_stepTurn 4 gX9_stepTurn RX9 G D (jT cI cB cZ) A := ⟨⟨hx, hb, hml, hown, hts⟩, hK, hN, hA⟩
  unfold f_X9_stepTurn_j73 at hf
  refine lv_aload_n hx hb dX9_stepTurn_73 rfl (lv_at hl 0 rfl) ?_
  refine va_get (D := D) (ci := 8) (v := .ref a_t_byChild) (C := RX9) (T := TX9) (N := 16) hx hb hts iw_X9 hown hK hP 0 rfl rfl 8 (by decide) (hts _ (wG_in k_fl_X9_21 rfl)) (fun _ h9 => h9) rfl dX9_stepTurn_74 ?_
  refine lv_iload_n hx hb dX9_stepTurn_77 rfl (lv_at hl 2 rfl) ?_
  refine lv_iconst (v := (1 : Int32)) hx hb dX9_stepTurn_78 (by decide) ?_
  refine lv_icmp_ne (tgt := 86) hx hb dX9_stepTurn_79 (by decide) (fun c7 => ?_) (fun c7 => ?_)
  · replace hf := jif_f c7 hf
    refine lv_aload_n hx hb dX9_stepTurn_86 rfl (lv_at hl 0 rfl) ?_
    refine va_get (D := D) (ci := 8) (v := .ref a_t_byHusband) (C := RX9) (T := TX9) (N := 16) hx hb hts iw_X9 hown hK hP 0 rfl rfl 9 (by decide) (hts _ (wG_in k_fl_X9_24 rfl)) (fun _ h9 => h9) rfl dX9_stepTurn_87 ?_
    refine lv_iload_n hx hb dX9_stepTurn_90 rfl (lv_at hl 1 rfl) ?_
    obtain ⟨r8, hgr8, hf⟩ := jM_some hf
    refine jcN_i0 (As := [.ref a_t_byHusband, .int x1]) (rest := [.ref a_t_byChild]) ⟨hx, hb, hml, hown, hts⟩ hK hN hA (c_X11_entry l G D cI cB cZ a_t_byHusband r_t_byHusband x1 hgr8) ⟨va_cnB 2 hts (wG_good k_co_X11_entry) rfl rfl rfl (jN_l nl_X9_99 hN) (hts _ (wG_in k_in_X11 rfl)) hd_X11_entry.2 ⟨Nat.le_of_ble_eq_true rfl, Nat.le_of_ble_eq_true rfl⟩, hts _ (wG_in k_st_X11_entry rfl), trivial⟩ hP hD hS [3] rfl rfl rfl rfl hl.1 rfl (Nat.le_of_ble_eq_true rfl) dX9_stepTurn_91 ⟨Nat.le_of_ble_eq_true rfl, Nat.le_of_ble_eq_true rfl⟩ (fun H locs hP hD hS => ?_)
    exact t_X9_stepTurn_j94 G D cI cB cZ a_t a_t_byChild a_t_byFather a_t_byHusband a_t_byWife u_t_size u_t_wives u_t_children u_t_count u_t_many u_t_turn u_t_slot u_t_searched u_t_before u_t_queue u_t_ways u_t_nextWays r_t_byChild r_t_byFather r_t_byHusband r_t_byWife r8 C hf K hP hD hS (lv_sub hl [] rfl)
  · replace hf := jif_t c7 hf
    refine lv_iload_n hx hb dX9_stepTurn_82 rfl (lv_at hl 1 rfl) ?_
    refine lv_goto (tgt := 94) hx hb dX9_stepTurn_83 (by decide) ?_
    exact t_X9_stepTurn_j94 G D cI cB cZ a_t a_t_byChild a_t_byFather a_t_byHusband a_t_byWife u_t_size u_t_wives u_t_children u_t_count u_t_many u_t_turn u_t_slot u_t_searched u_t_before u_t_queue u_t_ways u_t_nextWays r_t_byChild r_t_byFather r_t_byHusband r_t_byWife x1 C hf K hP hD hS (lv_sub hl [] rfl)
def f_X9_stepTurn (r_t_byChild r_t_byFather r_t_byHusband r_t_byWife : jA) (x1 x2 x3 : Int32) : Option (Int32) :=
  if x3 = (0 : Int32) then
  jM (f_X11_entry r_t_byFather x1) fun r2 =>
  some r2
  else if x3 = (1 : Int32) then
  jM (f_X11_entry r_t_byFather x1) fun r4 =>
  jM (f_X11_entry r_t_byWife r4) fun r5 =>
  some r5
  else if x3 = (2 : Int32) then
  f_X9_stepTurn_j73 r_t_byChild r_t_byHusband x1 x2
  else if x3 = (3 : Int32) then
  f_X9_stepTurn_j73 r_t_byChild r_t_byHusband x1 x2
  else if x3 = (4 : Int32) then
  some x1
  else if x3 = (5 : Int32) then
  some x1
  else if x3 = (6 : Int32) then
  jM (f_X11_entry r_t_byHusband x1) fun r14 =>
  some r14
  else if x3 = (7 : Int32) then
  jM (f_X11_entry r_t_byWife x1) fun r16 =>
  some r16
  else some x1
set_option maxHeartbeats 4000000 in
set_option maxRecDepth 100000 in
theorem t_X9_stepTurn {p : Program} {l : Launch} {e : Env} {s : State} {m : MethodId} {args : Array Value} {below : List Frame} {meth : Method} {c : Code} {A : Nat → Prop} {Q : State → Prop} (G : jGt) (D : va_G) (cI cB cZ : ClassId) (a_t a_t_byChild a_t_byFather a_t_byHusband a_t_byWife : Nat) (u_t_size u_t_wives u_t_children u_t_count u_t_many : Int32) (u_t_turn u_t_slot u_t_searched u_t_before u_t_queue u_t_ways u_t_nextWays : Value) (r_t_byChild r_t_byFather r_t_byHusband r_t_byWife : jA) (x1 x2 x3 : Int32) (C : jCx p s m args c cX9_stepTurn 4 gX9_stepTurn RX9 G D (jT cI cB cZ) A) {o : Int32} (hf : f_X9_stepTurn r_t_byChild r_t_byFather r_t_byHusband r_t_byWife x1 x2 x3 = some o) (K : ∀ (H : Heap) (locs : List Loc) (pc : Nat) (ls : Array Slot), va_P D vwCl (w_X9_stepTurn cI cB cZ a_t a_t_byChild a_t_byFather a_t_byHusband a_t_byWife u_t_size u_t_wives u_t_children u_t_count u_t_many u_t_turn u_t_slot u_t_searched u_t_before u_t_queue u_t_ways u_t_nextWays r_t_byChild r_t_byFather r_t_byHusband r_t_byWife) H → va_S A s.heap H locs → decode cX9_stepTurn pc = .ok (.ireturn, 1) → W p l e rX9_stepTurn s m args below meth c H locs 0 0 Q (F0 m pc ls [.int o])) {H : Heap} {locs : List Loc} {ls : Array Slot} (hP : va_P D vwCl (w_X9_stepTurn cI cB cZ a_t a_t_byChild a_t_byFather a_t_byHusband a_t_byWife u_t_size u_t_wives u_t_children u_t_count u_t_many u_t_turn u_t_slot u_t_searched u_t_before u_t_queue u_t_ways u_t_nextWays r_t_byChild r_t_byFather r_t_byHusband r_t_byWife) H) (hD : va_D A (w_X9_stepTurn cI cB cZ a_t a_t_byChild a_t_byFather a_t_byHusband a_t_byWife u_t_size u_t_wives u_t_children u_t_count u_t_many u_t_turn u_t_slot u_t_searched u_t_before u_t_queue u_t_ways u_t_nextWays r_t_byChild r_t_byFather r_t_byHusband r_t_byWife)) (hS : va_S A s.heap H locs) (hl : lv_has ls 4 [(0, .ref a_t), (1, .int x1), (2, .int x2), (3, .int x3)]) : W p l e rX9_stepTurn s m args below meth c H locs 0 0 Q (F0 m 0 ls []) := by
  obtain ⟨⟨hx, hb, hml, hown, hts⟩, hK, hN, hA⟩ := C
  have C : jCx p s m args c cX9_stepTurn 4 gX9_stepTurn RX9 G D (jT cI cB cZ) A := ⟨⟨hx, hb, hml, hown, hts⟩, hK, hN, hA⟩
  unfold f_X9_stepTurn at hf
  refine lv_iload_n hx hb dX9_stepTurn_0 rfl (lv_at hl 3 rfl) ?_
  by_cases c1 : x3 = (0 : Int32)
  · replace hf := jif_t c1 hf
    refine lv_tableIn (tgt := 48) hx hb dX9_stepTurn_1 (by rw [c1]; decide) (by rw [c1]; decide) (by rw [c1]; rfl) (by decide) ?_
    refine lv_aload_n hx hb dX9_stepTurn_48 rfl (lv_at hl 0 rfl) ?_
    refine va_get (D := D) (ci := 8) (v := .ref a_t_byFather) (C := RX9) (T := TX9) (N := 16) hx hb hts iw_X9 hown hK hP 0 rfl rfl 10 (by decide) (hts _ (wG_in k_fl_X9_27 rfl)) (fun _ h9 => h9) rfl dX9_stepTurn_49 ?_
    refine lv_iload_n hx hb dX9_stepTurn_52 rfl (lv_at hl 1 rfl) ?_
    obtain ⟨r2, hgr2, hf⟩ := jM_some hf
    refine jcN_i0 (As := [.ref a_t_byFather, .int x1]) (rest := []) ⟨hx, hb, hml, hown, hts⟩ hK hN hA (c_X11_entry l G D cI cB cZ a_t_byFather r_t_byFather x1 hgr2) ⟨va_cnB 2 hts (wG_good k_co_X11_entry) rfl rfl rfl (jN_l nl_X9_99 hN) (hts _ (wG_in k_in_X11 rfl)) hd_X11_entry.2 ⟨Nat.le_of_ble_eq_true rfl, Nat.le_of_ble_eq_true rfl⟩, hts _ (wG_in k_st_X11_entry rfl), trivial⟩ hP hD hS [2] rfl rfl rfl rfl hl.1 rfl (Nat.le_of_ble_eq_true rfl) dX9_stepTurn_53 ⟨Nat.le_of_ble_eq_true rfl, Nat.le_of_ble_eq_true rfl⟩ (fun H locs hP hD hS => ?_)
    have ho := Option.some.inj hf
    subst ho
    exact K _ _ _ _ hP hS dX9_stepTurn_56
  replace hf := jif_f c1 hf
  by_cases c3 : x3 = (1 : Int32)
  · replace hf := jif_t c3 hf
    refine lv_tableIn (tgt := 57) hx hb dX9_stepTurn_1 (by rw [c3]; decide) (by rw [c3]; decide) (by rw [c3]; rfl) (by decide) ?_
    refine lv_aload_n hx hb dX9_stepTurn_57 rfl (lv_at hl 0 rfl) ?_
    refine va_get (D := D) (ci := 8) (v := .ref a_t_byWife) (C := RX9) (T := TX9) (N := 16) hx hb hts iw_X9 hown hK hP 0 rfl rfl 7 (by decide) (hts _ (wG_in k_fl_X9_18 rfl)) (fun _ h9 => h9) rfl dX9_stepTurn_58 ?_
    refine lv_aload_n hx hb dX9_stepTurn_61 rfl (lv_at hl 0 rfl) ?_
    refine va_get (D := D) (ci := 8) (v := .ref a_t_byFather) (C := RX9) (T := TX9) (N := 16) hx hb hts iw_X9 hown hK hP 0 rfl rfl 10 (by decide) (hts _ (wG_in k_fl_X9_27 rfl)) (fun _ h9 => h9) rfl dX9_stepTurn_62 ?_
    refine lv_iload_n hx hb dX9_stepTurn_65 rfl (lv_at hl 1 rfl) ?_
    obtain ⟨r4, hgr4, hf⟩ := jM_some hf
    refine jcN_i0 (As := [.ref a_t_byFather, .int x1]) (rest := [.ref a_t_byWife]) ⟨hx, hb, hml, hown, hts⟩ hK hN hA (c_X11_entry l G D cI cB cZ a_t_byFather r_t_byFather x1 hgr4) ⟨va_cnB 2 hts (wG_good k_co_X11_entry) rfl rfl rfl (jN_l nl_X9_99 hN) (hts _ (wG_in k_in_X11 rfl)) hd_X11_entry.2 ⟨Nat.le_of_ble_eq_true rfl, Nat.le_of_ble_eq_true rfl⟩, hts _ (wG_in k_st_X11_entry rfl), trivial⟩ hP hD hS [2] rfl rfl rfl rfl hl.1 rfl (Nat.le_of_ble_eq_true rfl) dX9_stepTurn_66 ⟨Nat.le_of_ble_eq_true rfl, Nat.le_of_ble_eq_true rfl⟩ (fun H locs hP hD hS => ?_)
    obtain ⟨r5, hgr5, hf⟩ := jM_some hf
    refine jcN_i0 (As := [.ref a_t_byWife, .int r4]) (rest := []) ⟨hx, hb, hml, hown, hts⟩ hK hN hA (c_X11_entry l G D cI cB cZ a_t_byWife r_t_byWife r4 hgr5) ⟨va_cnB 2 hts (wG_good k_co_X11_entry) rfl rfl rfl (jN_l nl_X9_99 hN) (hts _ (wG_in k_in_X11 rfl)) hd_X11_entry.2 ⟨Nat.le_of_ble_eq_true rfl, Nat.le_of_ble_eq_true rfl⟩, hts _ (wG_in k_st_X11_entry rfl), trivial⟩ hP hD hS [4] rfl rfl rfl rfl hl.1 rfl (Nat.le_of_ble_eq_true rfl) dX9_stepTurn_69 ⟨Nat.le_of_ble_eq_true rfl, Nat.le_of_ble_eq_true rfl⟩ (fun H locs hP hD hS => ?_)
    have ho := Option.some.inj hf
    subst ho
    exact K _ _ _ _ hP hS dX9_stepTurn_72
  replace hf := jif_f c3 hf
  by_cases c6 : x3 = (2 : Int32)
  · replace hf := jif_t c6 hf
    refine lv_tableIn (tgt := 73) hx hb dX9_stepTurn_1 (by rw [c6]; decide) (by rw [c6]; decide) (by rw [c6]; rfl) (by decide) ?_
    exact t_X9_stepTurn_j73 G D cI cB cZ a_t a_t_byChild a_t_byFather a_t_byHusband a_t_byWife u_t_size u_t_wives u_t_children u_t_count u_t_many u_t_turn u_t_slot u_t_searched u_t_before u_t_queue u_t_ways u_t_nextWays r_t_byChild r_t_byFather r_t_byHusband r_t_byWife x1 x2 C hf K hP hD hS (lv_sub hl [0, 1, 2] rfl)
  replace hf := jif_f c6 hf
  by_cases c10 : x3 = (3 : Int32)
  · replace hf := jif_t c10 hf
    refine lv_tableIn (tgt := 73) hx hb dX9_stepTurn_1 (by rw [c10]; decide) (by rw [c10]; decide) (by rw [c10]; rfl) (by decide) ?_
    exact t_X9_stepTurn_j73 G D cI cB cZ a_t a_t_byChild a_t_byFather a_t_byHusband a_t_byWife u_t_size u_t_wives u_t_children u_t_count u_t_many u_t_turn u_t_slot u_t_searched u_t_before u_t_queue u_t_ways u_t_nextWays r_t_byChild r_t_byFather r_t_byHusband r_t_byWife x1 x2 C hf K hP hD hS (lv_sub hl [0, 1, 2] rfl)
  replace hf := jif_f c10 hf
  by_cases c11 : x3 = (4 : Int32)
  · replace hf := jif_t c11 hf
    refine lv_tableIn (tgt := 116) hx hb dX9_stepTurn_1 (by rw [c11]; decide) (by rw [c11]; decide) (by rw [c11]; rfl) (by decide) ?_
    refine lv_iload_n hx hb dX9_stepTurn_116 rfl (lv_at hl 1 rfl) ?_
    have ho := Option.some.inj hf
    subst ho
    exact K _ _ _ _ hP hS dX9_stepTurn_117
  replace hf := jif_f c11 hf
  by_cases c12 : x3 = (5 : Int32)
  · replace hf := jif_t c12 hf
    refine lv_tableIn (tgt := 116) hx hb dX9_stepTurn_1 (by rw [c12]; decide) (by rw [c12]; decide) (by rw [c12]; rfl) (by decide) ?_
    refine lv_iload_n hx hb dX9_stepTurn_116 rfl (lv_at hl 1 rfl) ?_
    have ho := Option.some.inj hf
    subst ho
    exact K _ _ _ _ hP hS dX9_stepTurn_117
  replace hf := jif_f c12 hf
  by_cases c13 : x3 = (6 : Int32)
  · replace hf := jif_t c13 hf
    refine lv_tableIn (tgt := 98) hx hb dX9_stepTurn_1 (by rw [c13]; decide) (by rw [c13]; decide) (by rw [c13]; rfl) (by decide) ?_
    refine lv_aload_n hx hb dX9_stepTurn_98 rfl (lv_at hl 0 rfl) ?_
    refine va_get (D := D) (ci := 8) (v := .ref a_t_byHusband) (C := RX9) (T := TX9) (N := 16) hx hb hts iw_X9 hown hK hP 0 rfl rfl 9 (by decide) (hts _ (wG_in k_fl_X9_24 rfl)) (fun _ h9 => h9) rfl dX9_stepTurn_99 ?_
    refine lv_iload_n hx hb dX9_stepTurn_102 rfl (lv_at hl 1 rfl) ?_
    obtain ⟨r14, hgr14, hf⟩ := jM_some hf
    refine jcN_i0 (As := [.ref a_t_byHusband, .int x1]) (rest := []) ⟨hx, hb, hml, hown, hts⟩ hK hN hA (c_X11_entry l G D cI cB cZ a_t_byHusband r_t_byHusband x1 hgr14) ⟨va_cnB 2 hts (wG_good k_co_X11_entry) rfl rfl rfl (jN_l nl_X9_99 hN) (hts _ (wG_in k_in_X11 rfl)) hd_X11_entry.2 ⟨Nat.le_of_ble_eq_true rfl, Nat.le_of_ble_eq_true rfl⟩, hts _ (wG_in k_st_X11_entry rfl), trivial⟩ hP hD hS [3] rfl rfl rfl rfl hl.1 rfl (Nat.le_of_ble_eq_true rfl) dX9_stepTurn_103 ⟨Nat.le_of_ble_eq_true rfl, Nat.le_of_ble_eq_true rfl⟩ (fun H locs hP hD hS => ?_)
    have ho := Option.some.inj hf
    subst ho
    exact K _ _ _ _ hP hS dX9_stepTurn_106
  replace hf := jif_f c13 hf
  by_cases c15 : x3 = (7 : Int32)
  · replace hf := jif_t c15 hf
    refine lv_tableIn (tgt := 107) hx hb dX9_stepTurn_1 (by rw [c15]; decide) (by rw [c15]; decide) (by rw [c15]; rfl) (by decide) ?_
    refine lv_aload_n hx hb dX9_stepTurn_107 rfl (lv_at hl 0 rfl) ?_
    refine va_get (D := D) (ci := 8) (v := .ref a_t_byWife) (C := RX9) (T := TX9) (N := 16) hx hb hts iw_X9 hown hK hP 0 rfl rfl 7 (by decide) (hts _ (wG_in k_fl_X9_18 rfl)) (fun _ h9 => h9) rfl dX9_stepTurn_108 ?_
    refine lv_iload_n hx hb dX9_stepTurn_111 rfl (lv_at hl 1 rfl) ?_
    obtain ⟨r16, hgr16, hf⟩ := jM_some hf
    refine jcN_i0 (As := [.ref a_t_byWife, .int x1]) (rest := []) ⟨hx, hb, hml, hown, hts⟩ hK hN hA (c_X11_entry l G D cI cB cZ a_t_byWife r_t_byWife x1 hgr16) ⟨va_cnB 2 hts (wG_good k_co_X11_entry) rfl rfl rfl (jN_l nl_X9_99 hN) (hts _ (wG_in k_in_X11 rfl)) hd_X11_entry.2 ⟨Nat.le_of_ble_eq_true rfl, Nat.le_of_ble_eq_true rfl⟩, hts _ (wG_in k_st_X11_entry rfl), trivial⟩ hP hD hS [4] rfl rfl rfl rfl hl.1 rfl (Nat.le_of_ble_eq_true rfl) dX9_stepTurn_112 ⟨Nat.le_of_ble_eq_true rfl, Nat.le_of_ble_eq_true rfl⟩ (fun H locs hP hD hS => ?_)
    have ho := Option.some.inj hf
    subst ho
    exact K _ _ _ _ hP hS dX9_stepTurn_115
  replace hf := jif_f c15 hf
  refine lv_tableOut (tgt := 116) hx hb dX9_stepTurn_1 (jtab_out (lo := 0) (n := 8) (fun k hk => match k, hk with | 0, _ => c1 | 1, _ => c3 | 2, _ => c6 | 3, _ => c10 | 4, _ => c11 | 5, _ => c12 | 6, _ => c13 | 7, _ => c15 | (k + 8), h => absurd h (by omega))) (by decide) ?_
  refine lv_iload_n hx hb dX9_stepTurn_116 rfl (lv_at hl 1 rfl) ?_
  have ho := Option.some.inj hf
  subst ho
  exact K _ _ _ _ hP hS dX9_stepTurn_117
set_option maxHeartbeats 4000000 in
set_option maxRecDepth 100000 in
theorem c_X9_stepTurn (l : Launch) (G : jGt) (D : va_G) (cI cB cZ : ClassId) (a_t a_t_byChild a_t_byFather a_t_byHusband a_t_byWife : Nat) (u_t_size u_t_wives u_t_children u_t_count u_t_many : Int32) (u_t_turn u_t_slot u_t_searched u_t_before u_t_queue u_t_ways u_t_nextWays : Value) (r_t_byChild r_t_byFather r_t_byHusband r_t_byWife : jA) (x1 x2 x3 : Int32) {o : Int32} (hf : f_X9_stepTurn r_t_byChild r_t_byFather r_t_byHusband r_t_byWife x1 x2 x3 = some o) : jMi l yX9_stepTurn gX9_stepTurn rX9_stepTurn G D (jT cI cB cZ) [.ref a_t, .int x1, .int x2, .int x3] (w_X9_stepTurn cI cB cZ a_t a_t_byChild a_t_byFather a_t_byHusband a_t_byWife u_t_size u_t_wives u_t_children u_t_count u_t_many u_t_turn u_t_slot u_t_searched u_t_before u_t_queue u_t_ways u_t_nextWays r_t_byChild r_t_byFather r_t_byHusband r_t_byWife) (w_X9_stepTurn cI cB cZ a_t a_t_byChild a_t_byFather a_t_byHusband a_t_byWife u_t_size u_t_wives u_t_children u_t_count u_t_many u_t_turn u_t_slot u_t_searched u_t_before u_t_queue u_t_ways u_t_nextWays r_t_byChild r_t_byFather r_t_byHusband r_t_byWife) o := by
  refine jmk_i RX9 rfl (by decide +kernel) rfl (Nat.le_of_ble_eq_true rfl) rfl ?_
  intro p e s m args below meth c ls A Q C hP hD hS hl K
  exact t_X9_stepTurn G D cI cB cZ a_t a_t_byChild a_t_byFather a_t_byHusband a_t_byWife u_t_size u_t_wives u_t_children u_t_count u_t_many u_t_turn u_t_slot u_t_searched u_t_before u_t_queue u_t_ways u_t_nextWays r_t_byChild r_t_byFather r_t_byHusband r_t_byWife x1 x2 x3 C hf K hP hD hS hl
abbrev rX9_step : Room := { frames := 2, cells := 0, slots := 0, locals := 44 }
abbrev gX9_step : List Cond := wG yX9_step cX9_step 5 (some .int)
def w_X9_step (cI cB cZ : ClassId) (a_t a_t_byChild a_t_byFather a_t_byHusband a_t_byWife : Nat) (u_t_size u_t_wives u_t_children u_t_count u_t_many : Int32) (u_t_turn u_t_slot u_t_searched u_t_before u_t_queue u_t_ways u_t_nextWays : Value) (r_t_byChild r_t_byFather r_t_byHusband r_t_byWife : jA) : va_W := [(a_t, .inr (8, (oX9 u_t_size u_t_wives u_t_children u_t_count u_t_many u_t_turn u_t_slot (.ref a_t_byWife) (.ref a_t_byChild) (.ref a_t_byHusband) (.ref a_t_byFather) u_t_searched u_t_before u_t_queue u_t_ways u_t_nextWays))), (a_t_byChild, .inl (cI, r_t_byChild.1, .inl r_t_byChild.2)), (a_t_byFather, .inl (cI, r_t_byFather.1, .inl r_t_byFather.2)), (a_t_byHusband, .inl (cI, r_t_byHusband.1, .inl r_t_byHusband.2)), (a_t_byWife, .inl (cI, r_t_byWife.1, .inl r_t_byWife.2))]
def f_X9_step (r_t_byChild r_t_byFather r_t_byHusband r_t_byWife : jA) (x1 x2 : Int32) : Option (Int32) :=
  jV (x1 >>> ((1 : Int32) &&& 31)) fun v1 =>
  jV (x1 &&& (1 : Int32)) fun v2 =>
  jM (f_X1_fits v2 x2) fun r3 =>
  if r3 = 0 then
  some (-1 : Int32)
  else
  jM (f_X9_stepTurn r_t_byChild r_t_byFather r_t_byHusband r_t_byWife v1 v2 x2) fun r5 =>
  jM (f_X1_sexOf x2) fun r6 =>
  some ((r5 * (2 : Int32)) + r6)
set_option maxHeartbeats 4000000 in
set_option maxRecDepth 100000 in
theorem t_X9_step {p : Program} {l : Launch} {e : Env} {s : State} {m : MethodId} {args : Array Value} {below : List Frame} {meth : Method} {c : Code} {A : Nat → Prop} {Q : State → Prop} (G : jGt) (D : va_G) (cI cB cZ : ClassId) (a_t a_t_byChild a_t_byFather a_t_byHusband a_t_byWife : Nat) (u_t_size u_t_wives u_t_children u_t_count u_t_many : Int32) (u_t_turn u_t_slot u_t_searched u_t_before u_t_queue u_t_ways u_t_nextWays : Value) (r_t_byChild r_t_byFather r_t_byHusband r_t_byWife : jA) (x1 x2 : Int32) (C : jCx p s m args c cX9_step 5 gX9_step RX9 G D (jT cI cB cZ) A) {o : Int32} (hf : f_X9_step r_t_byChild r_t_byFather r_t_byHusband r_t_byWife x1 x2 = some o) (K : ∀ (H : Heap) (locs : List Loc) (pc : Nat) (ls : Array Slot), va_P D vwCl (w_X9_step cI cB cZ a_t a_t_byChild a_t_byFather a_t_byHusband a_t_byWife u_t_size u_t_wives u_t_children u_t_count u_t_many u_t_turn u_t_slot u_t_searched u_t_before u_t_queue u_t_ways u_t_nextWays r_t_byChild r_t_byFather r_t_byHusband r_t_byWife) H → va_S A s.heap H locs → decode cX9_step pc = .ok (.ireturn, 1) → W p l e rX9_step s m args below meth c H locs 0 0 Q (F0 m pc ls [.int o])) {H : Heap} {locs : List Loc} {ls : Array Slot} (hP : va_P D vwCl (w_X9_step cI cB cZ a_t a_t_byChild a_t_byFather a_t_byHusband a_t_byWife u_t_size u_t_wives u_t_children u_t_count u_t_many u_t_turn u_t_slot u_t_searched u_t_before u_t_queue u_t_ways u_t_nextWays r_t_byChild r_t_byFather r_t_byHusband r_t_byWife) H) (hD : va_D A (w_X9_step cI cB cZ a_t a_t_byChild a_t_byFather a_t_byHusband a_t_byWife u_t_size u_t_wives u_t_children u_t_count u_t_many u_t_turn u_t_slot u_t_searched u_t_before u_t_queue u_t_ways u_t_nextWays r_t_byChild r_t_byFather r_t_byHusband r_t_byWife)) (hS : va_S A s.heap H locs) (hl : lv_has ls 5 [(0, .ref a_t), (1, .int x1), (2, .int x2)]) : W p l e rX9_step s m args below meth c H locs 0 0 Q (F0 m 0 ls []) := by
  obtain ⟨⟨hx, hb, hml, hown, hts⟩, hK, hN, hA⟩ := C
  have C : jCx p s m args c cX9_step 5 gX9_step RX9 G D (jT cI cB cZ) A := ⟨⟨hx, hb, hml, hown, hts⟩, hK, hN, hA⟩
  unfold f_X9_step at hf
  refine lv_iload_n hx hb dX9_step_0 rfl (lv_at hl 1 rfl) ?_
  refine lv_iconst (v := (1 : Int32)) hx hb dX9_step_1 (by decide) ?_
  refine lv_ishr hx hb dX9_step_2 ?_
  obtain ⟨v1, hv1, hf⟩ := jV_some hf
  refine jtop hv1 ?_
  refine lv_istore_n (lv' := [(3, .int v1), (0, .ref a_t), (1, .int x1), (2, .int x2)]) hx hb dX9_step_3 rfl hl (by decide) rfl (fun ls hl => ?_)
  refine lv_iload_n hx hb dX9_step_4 rfl (lv_at hl 2 rfl) ?_
  refine lv_iconst (v := (1 : Int32)) hx hb dX9_step_5 (by decide) ?_
  refine lv_iand hx hb dX9_step_6 ?_
  obtain ⟨v2, hv2, hf⟩ := jV_some hf
  refine jtop hv2 ?_
  refine lv_istore (lv' := [(4, .int v2), (3, .int v1), (0, .ref a_t), (1, .int x1), (2, .int x2)]) hx hb dX9_step_7 hl (by decide) rfl (fun ls hl => ?_)
  refine lv_iload hx hb dX9_step_9 (lv_at hl 0 rfl) ?_
  refine lv_iload_n hx hb dX9_step_11 rfl (lv_at hl 4 rfl) ?_
  obtain ⟨r3, hgr3, hf⟩ := jM_some hf
  refine jcS_i0 (As := [.int v2, .int x2]) (rest := []) ⟨hx, hb, hml, hown, hts⟩ hK hN hA (c_X1_fits l G D cI cB cZ v2 x2 hgr3) (va_cwS 2 hts (wG_S k_ml_X9_106 k_st_X1_fits k_in_X1 k_co_X1_fits) rfl rfl rfl hd_X1_fits.2 ⟨Nat.le_of_ble_eq_true rfl, Nat.le_of_ble_eq_true rfl⟩) hP hD hS [] rfl rfl rfl rfl hl.1 rfl (Nat.le_of_ble_eq_true rfl) dX9_step_12 ⟨Nat.le_of_ble_eq_true rfl, Nat.le_of_ble_eq_true rfl⟩ (fun H locs hP hD hS => ?_)
  refine lv_if_ne (tgt := 20) hx hb dX9_step_15 (by decide) (fun c4 => ?_) (fun c4 => ?_)
  · replace hf := jif_f c4 hf
    refine lv_aload_n hx hb dX9_step_20 rfl (lv_at hl 2 rfl) ?_
    refine lv_iload_n hx hb dX9_step_21 rfl (lv_at hl 1 rfl) ?_
    refine lv_iload hx hb dX9_step_22 (lv_at hl 0 rfl) ?_
    refine lv_iload_n hx hb dX9_step_24 rfl (lv_at hl 4 rfl) ?_
    obtain ⟨r5, hgr5, hf⟩ := jM_some hf
    refine jcV_i0 (As := [.int v1, .int v2, .int x2]) (rest := []) ⟨hx, hb, hml, hown, hts⟩ hK hN hA (c_X9_stepTurn l G D cI cB cZ a_t a_t_byChild a_t_byFather a_t_byHusband a_t_byWife u_t_size u_t_wives u_t_children u_t_count u_t_many u_t_turn u_t_slot u_t_searched u_t_before u_t_queue u_t_ways u_t_nextWays r_t_byChild r_t_byFather r_t_byHusband r_t_byWife v1 v2 x2 hgr5) (cwV 3 hts (wG_V k_ml_X9_112 k_im_X9_stepTurn k_se_X9_stepTurn k_in_X9 k_co_X9_stepTurn) rfl rfl rfl hd_X9_stepTurn ⟨Nat.le_of_ble_eq_true rfl, Nat.le_of_ble_eq_true rfl⟩) hP hD hS [0, 1, 2, 3, 4] rfl rfl rfl (ci := 8) rfl 0 rfl rfl rfl hl.1 rfl (Nat.le_of_ble_eq_true rfl) dX9_step_25 ⟨Nat.le_of_ble_eq_true rfl, Nat.le_of_ble_eq_true rfl⟩ (fun H locs hP hD hS => ?_)
    refine lv_iconst (v := (2 : Int32)) hx hb dX9_step_28 (by decide) ?_
    refine lv_imul hx hb dX9_step_29 ?_
    refine lv_iload_n hx hb dX9_step_30 rfl (lv_at hl 4 rfl) ?_
    obtain ⟨r6, hgr6, hf⟩ := jM_some hf
    refine jcS_i0 (As := [.int x2]) (rest := [.int (r5 * (2 : Int32))]) ⟨hx, hb, hml, hown, hts⟩ hK hN hA (c_X1_sexOf l G D cI cB cZ x2 hgr6) (va_cwS 1 hts (wG_S k_ml_X9_116 k_st_X1_sexOf k_in_X1 k_co_X1_sexOf) rfl rfl rfl hd_X1_sexOf.2 ⟨Nat.le_of_ble_eq_true rfl, Nat.le_of_ble_eq_true rfl⟩) hP hD hS [] rfl rfl rfl rfl hl.1 rfl (Nat.le_of_ble_eq_true rfl) dX9_step_31 ⟨Nat.le_of_ble_eq_true rfl, Nat.le_of_ble_eq_true rfl⟩ (fun H locs hP hD hS => ?_)
    refine lv_iadd hx hb dX9_step_34 ?_
    have ho := Option.some.inj hf
    subst ho
    exact K _ _ _ _ hP hS dX9_step_35
  · replace hf := jif_t c4 hf
    refine lv_iconst (v := (-1 : Int32)) hx hb dX9_step_18 (by decide) ?_
    have ho := Option.some.inj hf
    subst ho
    exact K _ _ _ _ hP hS dX9_step_19
set_option maxHeartbeats 4000000 in
set_option maxRecDepth 100000 in
theorem c_X9_step (l : Launch) (G : jGt) (D : va_G) (cI cB cZ : ClassId) (a_t a_t_byChild a_t_byFather a_t_byHusband a_t_byWife : Nat) (u_t_size u_t_wives u_t_children u_t_count u_t_many : Int32) (u_t_turn u_t_slot u_t_searched u_t_before u_t_queue u_t_ways u_t_nextWays : Value) (r_t_byChild r_t_byFather r_t_byHusband r_t_byWife : jA) (x1 x2 : Int32) {o : Int32} (hf : f_X9_step r_t_byChild r_t_byFather r_t_byHusband r_t_byWife x1 x2 = some o) : jMi l yX9_step gX9_step rX9_step G D (jT cI cB cZ) [.ref a_t, .int x1, .int x2] (w_X9_step cI cB cZ a_t a_t_byChild a_t_byFather a_t_byHusband a_t_byWife u_t_size u_t_wives u_t_children u_t_count u_t_many u_t_turn u_t_slot u_t_searched u_t_before u_t_queue u_t_ways u_t_nextWays r_t_byChild r_t_byFather r_t_byHusband r_t_byWife) (w_X9_step cI cB cZ a_t a_t_byChild a_t_byFather a_t_byHusband a_t_byWife u_t_size u_t_wives u_t_children u_t_count u_t_many u_t_turn u_t_slot u_t_searched u_t_before u_t_queue u_t_ways u_t_nextWays r_t_byChild r_t_byFather r_t_byHusband r_t_byWife) o := by
  refine jmk_i RX9 rfl (by decide +kernel) rfl (Nat.le_of_ble_eq_true rfl) rfl ?_
  intro p e s m args below meth c ls A Q C hP hD hS hl K
  exact t_X9_step G D cI cB cZ a_t a_t_byChild a_t_byFather a_t_byHusband a_t_byWife u_t_size u_t_wives u_t_children u_t_count u_t_many u_t_turn u_t_slot u_t_searched u_t_before u_t_queue u_t_ways u_t_nextWays r_t_byChild r_t_byFather r_t_byHusband r_t_byWife x1 x2 C hf K hP hD hS hl
abbrev rX10_childOf : Room := { frames := 1, cells := 0, slots := 0, locals := 21 }
abbrev gX10_childOf : List Cond := wG yX10_childOf cX10_childOf 3 (some .int)
def w_X10_childOf (cI cB cZ : ClassId) (a_t a_t_child a_t_husband : Nat) (u_t_wife u_t_father : Value) (s_t_size : Int32) (r_t_child r_t_husband : jA) : va_W := [(a_t, .inr (9, (oX10 u_t_wife (.ref a_t_child) (.ref a_t_husband) u_t_father s_t_size))), (a_t_child, .inl (cI, r_t_child.1, .inl r_t_child.2)), (a_t_husband, .inl (cI, r_t_husband.1, .inl r_t_husband.2))]
def f_X10_childOf_j31 (r_t_child : jA) (k1 : Int32) : Option (Int32) :=
  jM (f_X11_entry r_t_child k1) fun r5 =>
  some r5
set_option maxHeartbeats 4000000 in
set_option maxRecDepth 100000 in
theorem t_X10_childOf_j31 {p : Program} {l : Launch} {e : Env} {s : State} {m : MethodId} {args : Array Value} {below : List Frame} {meth : Method} {c : Code} {A : Nat → Prop} {Q : State → Prop} (G : jGt) (D : va_G) (cI cB cZ : ClassId) (a_t a_t_child a_t_husband : Nat) (u_t_wife u_t_father : Value) (s_t_size : Int32) (r_t_child r_t_husband : jA) (k1 : Int32) (C : jCx p s m args c cX10_childOf 3 gX10_childOf RX10 G D (jT cI cB cZ) A) {o : Int32} (hf : f_X10_childOf_j31 r_t_child k1 = some o) (K : ∀ (H : Heap) (locs : List Loc) (pc : Nat) (ls : Array Slot), va_P D vwCl (w_X10_childOf cI cB cZ a_t a_t_child a_t_husband u_t_wife u_t_father s_t_size r_t_child r_t_husband) H → va_S A s.heap H locs → decode cX10_childOf pc = .ok (.ireturn, 1) → W p l e rX10_childOf s m args below meth c H locs 0 0 Q (F0 m pc ls [.int o])) {H : Heap} {locs : List Loc} {ls : Array Slot} (hP : va_P D vwCl (w_X10_childOf cI cB cZ a_t a_t_child a_t_husband u_t_wife u_t_father s_t_size r_t_child r_t_husband) H) (hD : va_D A (w_X10_childOf cI cB cZ a_t a_t_child a_t_husband u_t_wife u_t_father s_t_size r_t_child r_t_husband)) (hS : va_S A s.heap H locs) (hl : lv_has ls 3 []) : W p l e rX10_childOf s m args below meth c H locs 0 0 Q (F0 m 31 ls [.int k1, .ref a_t_child]) := by
  obtain ⟨⟨hx, hb, hml, hown, hts⟩, hK, hN, hA⟩ := C
  have C : jCx p s m args c cX10_childOf 3 gX10_childOf RX10 G D (jT cI cB cZ) A := ⟨⟨hx, hb, hml, hown, hts⟩, hK, hN, hA⟩
  unfold f_X10_childOf_j31 at hf
  obtain ⟨r5, hgr5, hf⟩ := jM_some hf
  refine jcN_i0 (As := [.ref a_t_child, .int k1]) (rest := []) ⟨hx, hb, hml, hown, hts⟩ hK hN hA (c_X11_entry l G D cI cB cZ a_t_child r_t_child k1 hgr5) ⟨va_cnB 2 hts (wG_good k_co_X11_entry) rfl rfl rfl (jN_l nl_X10_40 hN) (hts _ (wG_in k_in_X11 rfl)) hd_X11_entry.2 ⟨Nat.le_of_ble_eq_true rfl, Nat.le_of_ble_eq_true rfl⟩, hts _ (wG_in k_st_X11_entry rfl), trivial⟩ hP hD hS [1] rfl rfl rfl rfl hl.1 rfl (Nat.le_of_ble_eq_true rfl) dX10_childOf_31 ⟨Nat.le_of_ble_eq_true rfl, Nat.le_of_ble_eq_true rfl⟩ (fun H locs hP hD hS => ?_)
  have ho := Option.some.inj hf
  subst ho
  exact K _ _ _ _ hP hS dX10_childOf_34
def f_X10_childOf (s_t_size : Int32) (r_t_child r_t_husband : jA) (x1 x2 : Int32) : Option (Int32) :=
  jM (f_X10_has s_t_size x2) fun r1 =>
  if r1 = 0 then
  some (-1 : Int32)
  else
  if x1 = (1 : Int32) then
  f_X10_childOf_j31 r_t_child x2
  else
  jM (f_X11_entry r_t_husband x2) fun r4 =>
  f_X10_childOf_j31 r_t_child r4
set_option maxHeartbeats 4000000 in
set_option maxRecDepth 100000 in
theorem t_X10_childOf {p : Program} {l : Launch} {e : Env} {s : State} {m : MethodId} {args : Array Value} {below : List Frame} {meth : Method} {c : Code} {A : Nat → Prop} {Q : State → Prop} (G : jGt) (D : va_G) (cI cB cZ : ClassId) (a_t a_t_child a_t_husband : Nat) (u_t_wife u_t_father : Value) (s_t_size : Int32) (r_t_child r_t_husband : jA) (x1 x2 : Int32) (C : jCx p s m args c cX10_childOf 3 gX10_childOf RX10 G D (jT cI cB cZ) A) {o : Int32} (hf : f_X10_childOf s_t_size r_t_child r_t_husband x1 x2 = some o) (K : ∀ (H : Heap) (locs : List Loc) (pc : Nat) (ls : Array Slot), va_P D vwCl (w_X10_childOf cI cB cZ a_t a_t_child a_t_husband u_t_wife u_t_father s_t_size r_t_child r_t_husband) H → va_S A s.heap H locs → decode cX10_childOf pc = .ok (.ireturn, 1) → W p l e rX10_childOf s m args below meth c H locs 0 0 Q (F0 m pc ls [.int o])) {H : Heap} {locs : List Loc} {ls : Array Slot} (hP : va_P D vwCl (w_X10_childOf cI cB cZ a_t a_t_child a_t_husband u_t_wife u_t_father s_t_size r_t_child r_t_husband) H) (hD : va_D A (w_X10_childOf cI cB cZ a_t a_t_child a_t_husband u_t_wife u_t_father s_t_size r_t_child r_t_husband)) (hS : va_S A s.heap H locs) (hl : lv_has ls 3 [(0, .ref a_t), (1, .int x1), (2, .int x2)]) : W p l e rX10_childOf s m args below meth c H locs 0 0 Q (F0 m 0 ls []) := by
  obtain ⟨⟨hx, hb, hml, hown, hts⟩, hK, hN, hA⟩ := C
  have C : jCx p s m args c cX10_childOf 3 gX10_childOf RX10 G D (jT cI cB cZ) A := ⟨⟨hx, hb, hml, hown, hts⟩, hK, hN, hA⟩
  unfold f_X10_childOf at hf
  refine lv_aload_n hx hb dX10_childOf_0 rfl (lv_at hl 0 rfl) ?_
  refine lv_iload_n hx hb dX10_childOf_1 rfl (lv_at hl 2 rfl) ?_
  obtain ⟨r1, hgr1, hf⟩ := jM_some hf
  refine jcV_i0 (As := [.int x2]) (rest := []) ⟨hx, hb, hml, hown, hts⟩ hK hN hA (c_X10_has l G D cI cB cZ a_t u_t_wife (.ref a_t_child) (.ref a_t_husband) u_t_father s_t_size x2 hgr1) (cwV 1 hts (wG_V k_ml_X10_48 k_im_X10_has k_se_X10_has k_in_X10 k_co_X10_has) rfl rfl rfl hd_X10_has ⟨Nat.le_of_ble_eq_true rfl, Nat.le_of_ble_eq_true rfl⟩) hP hD hS [0] rfl rfl rfl (ci := 9) rfl 0 rfl rfl rfl hl.1 rfl (Nat.le_of_ble_eq_true rfl) dX10_childOf_2 ⟨Nat.le_of_ble_eq_true rfl, Nat.le_of_ble_eq_true rfl⟩ (fun H locs hP hD hS => ?_)
  refine lv_if_ne (tgt := 10) hx hb dX10_childOf_5 (by decide) (fun c2 => ?_) (fun c2 => ?_)
  · replace hf := jif_f c2 hf
    refine lv_aload_n hx hb dX10_childOf_10 rfl (lv_at hl 0 rfl) ?_
    refine va_get (D := D) (ci := 9) (v := .ref a_t_child) (C := RX10) (T := TX10) (N := 5) hx hb hts iw_X10 hown hK hP 0 rfl rfl 1 (by decide) (hts _ (wG_in k_fl_X10_15 rfl)) (fun _ h9 => h9) rfl dX10_childOf_11 ?_
    refine lv_iload_n hx hb dX10_childOf_14 rfl (lv_at hl 1 rfl) ?_
    refine lv_iconst (v := (1 : Int32)) hx hb dX10_childOf_15 (by decide) ?_
    refine lv_icmp_ne (tgt := 23) hx hb dX10_childOf_16 (by decide) (fun c3 => ?_) (fun c3 => ?_)
    · replace hf := jif_f c3 hf
      refine lv_aload_n hx hb dX10_childOf_23 rfl (lv_at hl 0 rfl) ?_
      refine va_get (D := D) (ci := 9) (v := .ref a_t_husband) (C := RX10) (T := TX10) (N := 5) hx hb hts iw_X10 hown hK hP 0 rfl rfl 2 (by decide) (hts _ (wG_in k_fl_X10_18 rfl)) (fun _ h9 => h9) rfl dX10_childOf_24 ?_
      refine lv_iload_n hx hb dX10_childOf_27 rfl (lv_at hl 2 rfl) ?_
      obtain ⟨r4, hgr4, hf⟩ := jM_some hf
      refine jcN_i0 (As := [.ref a_t_husband, .int x2]) (rest := [.ref a_t_child]) ⟨hx, hb, hml, hown, hts⟩ hK hN hA (c_X11_entry l G D cI cB cZ a_t_husband r_t_husband x2 hgr4) ⟨va_cnB 2 hts (wG_good k_co_X11_entry) rfl rfl rfl (jN_l nl_X10_40 hN) (hts _ (wG_in k_in_X11 rfl)) hd_X11_entry.2 ⟨Nat.le_of_ble_eq_true rfl, Nat.le_of_ble_eq_true rfl⟩, hts _ (wG_in k_st_X11_entry rfl), trivial⟩ hP hD hS [2] rfl rfl rfl rfl hl.1 rfl (Nat.le_of_ble_eq_true rfl) dX10_childOf_28 ⟨Nat.le_of_ble_eq_true rfl, Nat.le_of_ble_eq_true rfl⟩ (fun H locs hP hD hS => ?_)
      exact t_X10_childOf_j31 G D cI cB cZ a_t a_t_child a_t_husband u_t_wife u_t_father s_t_size r_t_child r_t_husband r4 C hf K hP hD hS (lv_sub hl [] rfl)
    · replace hf := jif_t c3 hf
      refine lv_iload_n hx hb dX10_childOf_19 rfl (lv_at hl 2 rfl) ?_
      refine lv_goto (tgt := 31) hx hb dX10_childOf_20 (by decide) ?_
      exact t_X10_childOf_j31 G D cI cB cZ a_t a_t_child a_t_husband u_t_wife u_t_father s_t_size r_t_child r_t_husband x2 C hf K hP hD hS (lv_sub hl [] rfl)
  · replace hf := jif_t c2 hf
    refine lv_iconst (v := (-1 : Int32)) hx hb dX10_childOf_8 (by decide) ?_
    have ho := Option.some.inj hf
    subst ho
    exact K _ _ _ _ hP hS dX10_childOf_9
set_option maxHeartbeats 4000000 in
set_option maxRecDepth 100000 in
theorem c_X10_childOf (l : Launch) (G : jGt) (D : va_G) (cI cB cZ : ClassId) (a_t a_t_child a_t_husband : Nat) (u_t_wife u_t_father : Value) (s_t_size : Int32) (r_t_child r_t_husband : jA) (x1 x2 : Int32) {o : Int32} (hf : f_X10_childOf s_t_size r_t_child r_t_husband x1 x2 = some o) : jMi l yX10_childOf gX10_childOf rX10_childOf G D (jT cI cB cZ) [.ref a_t, .int x1, .int x2] (w_X10_childOf cI cB cZ a_t a_t_child a_t_husband u_t_wife u_t_father s_t_size r_t_child r_t_husband) (w_X10_childOf cI cB cZ a_t a_t_child a_t_husband u_t_wife u_t_father s_t_size r_t_child r_t_husband) o := by
  refine jmk_i RX10 rfl (by decide +kernel) rfl (Nat.le_of_ble_eq_true rfl) rfl ?_
  intro p e s m args below meth c ls A Q C hP hD hS hl K
  exact t_X10_childOf G D cI cB cZ a_t a_t_child a_t_husband u_t_wife u_t_father s_t_size r_t_child r_t_husband x1 x2 C hf K hP hD hS hl
abbrev rX10_bridesBy : Room := { frames := 2, cells := 0, slots := 0, locals := 50 }
abbrev gX10_bridesBy : List Cond := wG yX10_bridesBy cX10_bridesBy 4 (some .int)
def w_X10_bridesBy (cI cB cZ : ClassId) (a_t a_t_child a_t_father a_t_husband a_t_wife : Nat) (s_t_size : Int32) (r_t_child r_t_father r_t_husband r_t_wife : jA) : va_W := [(a_t, .inr (9, (oX10 (.ref a_t_wife) (.ref a_t_child) (.ref a_t_husband) (.ref a_t_father) s_t_size))), (a_t_child, .inl (cI, r_t_child.1, .inl r_t_child.2)), (a_t_father, .inl (cI, r_t_father.1, .inl r_t_father.2)), (a_t_husband, .inl (cI, r_t_husband.1, .inl r_t_husband.2)), (a_t_wife, .inl (cI, r_t_wife.1, .inl r_t_wife.2))]
def f_X10_bridesBy_j32 (x1 x2 x3 : Int32) : Option ((Int32 × Int32) ⊕ ((Int32))) :=
  some (Sum.inl (x2, (x3 + 1)))
set_option maxHeartbeats 4000000 in
set_option maxRecDepth 100000 in
theorem t_X10_bridesBy_j32 {p : Program} {l : Launch} {e : Env} {s : State} {m : MethodId} {args : Array Value} {below : List Frame} {meth : Method} {c : Code} {A : Nat → Prop} {Q : State → Prop} (G : jGt) (D : va_G) (cI cB cZ : ClassId) (a_t a_t_child a_t_father a_t_husband a_t_wife : Nat) (s_t_size : Int32) (r_t_child r_t_father r_t_husband r_t_wife : jA) (x1 x2 x3 : Int32) (C : jCx p s m args c cX10_bridesBy 4 gX10_bridesBy RX10 G D (jT cI cB cZ) A) {o : (Int32 × Int32) ⊕ ((Int32))} (hf : f_X10_bridesBy_j32 x1 x2 x3 = some o) (K : (∀ z, o = Sum.inl z → ∀ (H : Heap) (locs : List Loc) (ls : Array Slot), va_P D vwCl (w_X10_bridesBy cI cB cZ a_t a_t_child a_t_father a_t_husband a_t_wife s_t_size r_t_child r_t_father r_t_husband r_t_wife) H → va_D A (w_X10_bridesBy cI cB cZ a_t a_t_child a_t_father a_t_husband a_t_wife s_t_size r_t_child r_t_father r_t_husband r_t_wife) → va_S A s.heap H locs → lv_has ls 4 [(0, .ref a_t), (1, .int x1), (2, .int z.1), (3, .int z.2)] → W p l e rX10_bridesBy s m args below meth c H locs 0 0 Q (F0 m 4 ls [])) ∧ (∀ z, o = Sum.inr z → ∀ (H : Heap) (locs : List Loc) (ls : Array Slot), va_P D vwCl (w_X10_bridesBy cI cB cZ a_t a_t_child a_t_father a_t_husband a_t_wife s_t_size r_t_child r_t_father r_t_husband r_t_wife) H → va_D A (w_X10_bridesBy cI cB cZ a_t a_t_child a_t_father a_t_husband a_t_wife s_t_size r_t_child r_t_father r_t_husband r_t_wife) → va_S A s.heap H locs → lv_has ls 4 [(2, .int z)] → W p l e rX10_bridesBy s m args below meth c H locs 0 0 Q (F0 m 38 ls []))) {H : Heap} {locs : List Loc} {ls : Array Slot} (hP : va_P D vwCl (w_X10_bridesBy cI cB cZ a_t a_t_child a_t_father a_t_husband a_t_wife s_t_size r_t_child r_t_father r_t_husband r_t_wife) H) (hD : va_D A (w_X10_bridesBy cI cB cZ a_t a_t_child a_t_father a_t_husband a_t_wife s_t_size r_t_child r_t_father r_t_husband r_t_wife)) (hS : va_S A s.heap H locs) (hl : lv_has ls 4 [(0, .ref a_t), (1, .int x1), (2, .int x2), (3, .int x3)]) : W p l e rX10_bridesBy s m args below meth c H locs 0 0 Q (F0 m 32 ls []) := by
  obtain ⟨⟨hx, hb, hml, hown, hts⟩, hK, hN, hA⟩ := C
  have C : jCx p s m args c cX10_bridesBy 4 gX10_bridesBy RX10 G D (jT cI cB cZ) A := ⟨⟨hx, hb, hml, hown, hts⟩, hK, hN, hA⟩
  unfold f_X10_bridesBy_j32 at hf
  refine lv_iinc (v := (x3 + 1)) (lv' := [(3, .int (x3 + 1)), (0, .ref a_t), (1, .int x1), (2, .int x2)]) hx hb dX10_bridesBy_32 hl (k := 3) rfl (by first | rfl | decide) (by decide) rfl (fun ls hl => ?_)
  refine lv_goto (tgt := 4) hx hb dX10_bridesBy_35 (by decide) ?_
  have ho := Option.some.inj hf
  exact K.1 _ ho.symm _ _ _ hP hD hS (lv_sub hl [1, 2, 3, 0] rfl)
def f_X10_bridesBy_b4 (s_t_size : Int32) (r_t_child r_t_father r_t_husband r_t_wife : jA) (x1 x2 x3 : Int32) : Option ((Int32 × Int32) ⊕ ((Int32))) :=
  if s_t_size ≤ x3 then
  some (Sum.inr x2)
  else
  jM (f_X10_follow s_t_size r_t_child r_t_father r_t_husband r_t_wife x1 x3) fun r2 =>
  jM (f_X11_entry r_t_wife x3) fun r3 =>
  if r2 = r3 then
  f_X10_bridesBy_j32 x1 (x2 + 1) x3
  else
  f_X10_bridesBy_j32 x1 x2 x3
set_option maxHeartbeats 4000000 in
set_option maxRecDepth 100000 in
theorem t_X10_bridesBy_b4 {p : Program} {l : Launch} {e : Env} {s : State} {m : MethodId} {args : Array Value} {below : List Frame} {meth : Method} {c : Code} {A : Nat → Prop} {Q : State → Prop} (G : jGt) (D : va_G) (cI cB cZ : ClassId) (a_t a_t_child a_t_father a_t_husband a_t_wife : Nat) (s_t_size : Int32) (r_t_child r_t_father r_t_husband r_t_wife : jA) (x1 x2 x3 : Int32) (C : jCx p s m args c cX10_bridesBy 4 gX10_bridesBy RX10 G D (jT cI cB cZ) A) {o : (Int32 × Int32) ⊕ ((Int32))} (hf : f_X10_bridesBy_b4 s_t_size r_t_child r_t_father r_t_husband r_t_wife x1 x2 x3 = some o) (K : (∀ z, o = Sum.inl z → ∀ (H : Heap) (locs : List Loc) (ls : Array Slot), va_P D vwCl (w_X10_bridesBy cI cB cZ a_t a_t_child a_t_father a_t_husband a_t_wife s_t_size r_t_child r_t_father r_t_husband r_t_wife) H → va_D A (w_X10_bridesBy cI cB cZ a_t a_t_child a_t_father a_t_husband a_t_wife s_t_size r_t_child r_t_father r_t_husband r_t_wife) → va_S A s.heap H locs → lv_has ls 4 [(0, .ref a_t), (1, .int x1), (2, .int z.1), (3, .int z.2)] → W p l e rX10_bridesBy s m args below meth c H locs 0 0 Q (F0 m 4 ls [])) ∧ (∀ z, o = Sum.inr z → ∀ (H : Heap) (locs : List Loc) (ls : Array Slot), va_P D vwCl (w_X10_bridesBy cI cB cZ a_t a_t_child a_t_father a_t_husband a_t_wife s_t_size r_t_child r_t_father r_t_husband r_t_wife) H → va_D A (w_X10_bridesBy cI cB cZ a_t a_t_child a_t_father a_t_husband a_t_wife s_t_size r_t_child r_t_father r_t_husband r_t_wife) → va_S A s.heap H locs → lv_has ls 4 [(2, .int z)] → W p l e rX10_bridesBy s m args below meth c H locs 0 0 Q (F0 m 38 ls []))) {H : Heap} {locs : List Loc} {ls : Array Slot} (hP : va_P D vwCl (w_X10_bridesBy cI cB cZ a_t a_t_child a_t_father a_t_husband a_t_wife s_t_size r_t_child r_t_father r_t_husband r_t_wife) H) (hD : va_D A (w_X10_bridesBy cI cB cZ a_t a_t_child a_t_father a_t_husband a_t_wife s_t_size r_t_child r_t_father r_t_husband r_t_wife)) (hS : va_S A s.heap H locs) (hl : lv_has ls 4 [(0, .ref a_t), (1, .int x1), (2, .int x2), (3, .int x3)]) : W p l e rX10_bridesBy s m args below meth c H locs 0 0 Q (F0 m 4 ls []) := by
  obtain ⟨⟨hx, hb, hml, hown, hts⟩, hK, hN, hA⟩ := C
  have C : jCx p s m args c cX10_bridesBy 4 gX10_bridesBy RX10 G D (jT cI cB cZ) A := ⟨⟨hx, hb, hml, hown, hts⟩, hK, hN, hA⟩
  unfold f_X10_bridesBy_b4 at hf
  refine lv_iload_n hx hb dX10_bridesBy_4 rfl (lv_at hl 3 rfl) ?_
  refine lv_aload_n hx hb dX10_bridesBy_5 rfl (lv_at hl 0 rfl) ?_
  refine va_get (D := D) (ci := 9) (v := .int s_t_size) (C := RX10) (T := TX10) (N := 5) hx hb hts iw_X10 hown hK hP 0 rfl rfl 4 (by decide) (hts _ (wG_in k_fl_X10_30 rfl)) (fun _ h9 => h9) rfl dX10_bridesBy_6 ?_
  refine lv_icmp_ge (tgt := 38) hx hb dX10_bridesBy_9 (by decide) (fun c1 => ?_) (fun c1 => ?_)
  · replace hf := jif_t c1 hf
    have ho := Option.some.inj hf
    exact (K.2 _ ho.symm) _ _ _ hP hD hS (lv_sub hl [2] rfl)
  · replace hf := jif_f c1 hf
    refine lv_aload_n hx hb dX10_bridesBy_12 rfl (lv_at hl 0 rfl) ?_
    refine lv_iload_n hx hb dX10_bridesBy_13 rfl (lv_at hl 1 rfl) ?_
    refine lv_iload_n hx hb dX10_bridesBy_14 rfl (lv_at hl 3 rfl) ?_
    obtain ⟨r2, hgr2, hf⟩ := jM_some hf
    refine jcV_i0 (As := [.int x1, .int x3]) (rest := []) ⟨hx, hb, hml, hown, hts⟩ hK hN hA (c_X10_follow l G D cI cB cZ a_t a_t_child a_t_father a_t_husband a_t_wife s_t_size r_t_child r_t_father r_t_husband r_t_wife x1 x3 hgr2) (cwV 2 hts (wG_V k_ml_X10_71 k_im_X10_follow k_se_X10_follow k_in_X10 k_co_X10_follow) rfl rfl rfl hd_X10_follow ⟨Nat.le_of_ble_eq_true rfl, Nat.le_of_ble_eq_true rfl⟩) hP hD hS [0, 1, 2, 3, 4] rfl rfl rfl (ci := 9) rfl 0 rfl rfl rfl hl.1 rfl (Nat.le_of_ble_eq_true rfl) dX10_bridesBy_15 ⟨Nat.le_of_ble_eq_true rfl, Nat.le_of_ble_eq_true rfl⟩ (fun H locs hP hD hS => ?_)
    refine lv_aload_n hx hb dX10_bridesBy_18 rfl (lv_at hl 0 rfl) ?_
    refine va_get (D := D) (ci := 9) (v := .ref a_t_wife) (C := RX10) (T := TX10) (N := 5) hx hb hts iw_X10 hown hK hP 0 rfl rfl 0 (by decide) (hts _ (wG_in k_fl_X10_9 rfl)) (fun _ h9 => h9) rfl dX10_bridesBy_19 ?_
    refine lv_iload_n hx hb dX10_bridesBy_22 rfl (lv_at hl 3 rfl) ?_
    obtain ⟨r3, hgr3, hf⟩ := jM_some hf
    refine jcN_i0 (As := [.ref a_t_wife, .int x3]) (rest := [.int r2]) ⟨hx, hb, hml, hown, hts⟩ hK hN hA (c_X11_entry l G D cI cB cZ a_t_wife r_t_wife x3 hgr3) ⟨va_cnB 2 hts (wG_good k_co_X11_entry) rfl rfl rfl (jN_l nl_X10_40 hN) (hts _ (wG_in k_in_X11 rfl)) hd_X11_entry.2 ⟨Nat.le_of_ble_eq_true rfl, Nat.le_of_ble_eq_true rfl⟩, hts _ (wG_in k_st_X11_entry rfl), trivial⟩ hP hD hS [4] rfl rfl rfl rfl hl.1 rfl (Nat.le_of_ble_eq_true rfl) dX10_bridesBy_23 ⟨Nat.le_of_ble_eq_true rfl, Nat.le_of_ble_eq_true rfl⟩ (fun H locs hP hD hS => ?_)
    refine lv_icmp_ne (tgt := 32) hx hb dX10_bridesBy_26 (by decide) (fun c4 => ?_) (fun c4 => ?_)
    · replace hf := jif_f c4 hf
      exact t_X10_bridesBy_j32 G D cI cB cZ a_t a_t_child a_t_father a_t_husband a_t_wife s_t_size r_t_child r_t_father r_t_husband r_t_wife x1 x2 x3 C hf K hP hD hS (lv_sub hl [0, 1, 2, 3] rfl)
    · replace hf := jif_t c4 hf
      refine lv_iinc (v := (x2 + 1)) (lv' := [(2, .int (x2 + 1)), (0, .ref a_t), (1, .int x1), (3, .int x3)]) hx hb dX10_bridesBy_29 hl (k := 2) rfl (by first | rfl | decide) (by decide) rfl (fun ls hl => ?_)
      exact t_X10_bridesBy_j32 G D cI cB cZ a_t a_t_child a_t_father a_t_husband a_t_wife s_t_size r_t_child r_t_father r_t_husband r_t_wife x1 (x2 + 1) x3 C hf K hP hD hS (lv_sub hl [1, 2, 0, 3] rfl)
def f_X10_bridesBy_l4 (s_t_size : Int32) (r_t_child r_t_father r_t_husband r_t_wife : jA) (x1 x2 x3 : Int32) : Option ((Int32)) :=
  jI (fun z => f_X10_bridesBy_b4 s_t_size r_t_child r_t_father r_t_husband r_t_wife x1 z.1 z.2) jF (x2, x3)
set_option maxHeartbeats 4000000 in
set_option maxRecDepth 100000 in
theorem t_X10_bridesBy_l4 {p : Program} {l : Launch} {e : Env} {s : State} {m : MethodId} {args : Array Value} {below : List Frame} {meth : Method} {c : Code} {A : Nat → Prop} {Q : State → Prop} (G : jGt) (D : va_G) (cI cB cZ : ClassId) (a_t a_t_child a_t_father a_t_husband a_t_wife : Nat) (s_t_size : Int32) (r_t_child r_t_father r_t_husband r_t_wife : jA) (x1 : Int32) (C : jCx p s m args c cX10_bridesBy 4 gX10_bridesBy RX10 G D (jT cI cB cZ) A) : ∀ (n : Nat) (x2 x3 : Int32) {eo : (Int32)}, jI (fun z => f_X10_bridesBy_b4 s_t_size r_t_child r_t_father r_t_husband r_t_wife x1 z.1 z.2) n (x2, x3) = some eo → (∀ (H : Heap) (locs : List Loc) (ls : Array Slot), va_P D vwCl (w_X10_bridesBy cI cB cZ a_t a_t_child a_t_father a_t_husband a_t_wife s_t_size r_t_child r_t_father r_t_husband r_t_wife) H → va_D A (w_X10_bridesBy cI cB cZ a_t a_t_child a_t_father a_t_husband a_t_wife s_t_size r_t_child r_t_father r_t_husband r_t_wife) → va_S A s.heap H locs → lv_has ls 4 [(2, .int eo)] → W p l e rX10_bridesBy s m args below meth c H locs 0 0 Q (F0 m 38 ls [])) → ∀ (H : Heap) (locs : List Loc) (ls : Array Slot), va_P D vwCl (w_X10_bridesBy cI cB cZ a_t a_t_child a_t_father a_t_husband a_t_wife s_t_size r_t_child r_t_father r_t_husband r_t_wife) H → va_D A (w_X10_bridesBy cI cB cZ a_t a_t_child a_t_father a_t_husband a_t_wife s_t_size r_t_child r_t_father r_t_husband r_t_wife) → va_S A s.heap H locs → lv_has ls 4 [(0, .ref a_t), (1, .int x1), (2, .int x2), (3, .int x3)] → W p l e rX10_bridesBy s m args below meth c H locs 0 0 Q (F0 m 4 ls []) := by
  intro n
  induction n with
  | zero =>
    intro x2 x3 eo hf
    exact (jI_zero hf).elim
  | succ n ih =>
    intro x2 x3 eo hf K H locs ls hP hD hS hl
    obtain ⟨o, hb1, ho⟩ := jI_some hf
    rcases ho with ⟨z, rfl, hf2⟩ | rfl
    · exact t_X10_bridesBy_b4 G D cI cB cZ a_t a_t_child a_t_father a_t_husband a_t_wife s_t_size r_t_child r_t_father r_t_husband r_t_wife x1 x2 x3 C hb1 ⟨fun z2 hz H locs ls hP hD hS hl => by cases hz; exact ih z.1 z.2 hf2 K H locs ls hP hD hS hl, fun z2 hz => by cases hz⟩ hP hD hS hl
    · exact t_X10_bridesBy_b4 G D cI cB cZ a_t a_t_child a_t_father a_t_husband a_t_wife s_t_size r_t_child r_t_father r_t_husband r_t_wife x1 x2 x3 C hb1 ⟨fun z2 hz => (by cases hz), fun z2 hz => by cases hz; exact K⟩ hP hD hS hl
def f_X10_bridesBy (s_t_size : Int32) (r_t_child r_t_father r_t_husband r_t_wife : jA) (x1 : Int32) : Option (Int32) :=
  jM (f_X10_bridesBy_l4 s_t_size r_t_child r_t_father r_t_husband r_t_wife x1 (0 : Int32) (0 : Int32)) fun e5 =>
  some e5
set_option maxHeartbeats 4000000 in
set_option maxRecDepth 100000 in
theorem t_X10_bridesBy {p : Program} {l : Launch} {e : Env} {s : State} {m : MethodId} {args : Array Value} {below : List Frame} {meth : Method} {c : Code} {A : Nat → Prop} {Q : State → Prop} (G : jGt) (D : va_G) (cI cB cZ : ClassId) (a_t a_t_child a_t_father a_t_husband a_t_wife : Nat) (s_t_size : Int32) (r_t_child r_t_father r_t_husband r_t_wife : jA) (x1 : Int32) (C : jCx p s m args c cX10_bridesBy 4 gX10_bridesBy RX10 G D (jT cI cB cZ) A) {o : Int32} (hf : f_X10_bridesBy s_t_size r_t_child r_t_father r_t_husband r_t_wife x1 = some o) (K : ∀ (H : Heap) (locs : List Loc) (pc : Nat) (ls : Array Slot), va_P D vwCl (w_X10_bridesBy cI cB cZ a_t a_t_child a_t_father a_t_husband a_t_wife s_t_size r_t_child r_t_father r_t_husband r_t_wife) H → va_S A s.heap H locs → decode cX10_bridesBy pc = .ok (.ireturn, 1) → W p l e rX10_bridesBy s m args below meth c H locs 0 0 Q (F0 m pc ls [.int o])) {H : Heap} {locs : List Loc} {ls : Array Slot} (hP : va_P D vwCl (w_X10_bridesBy cI cB cZ a_t a_t_child a_t_father a_t_husband a_t_wife s_t_size r_t_child r_t_father r_t_husband r_t_wife) H) (hD : va_D A (w_X10_bridesBy cI cB cZ a_t a_t_child a_t_father a_t_husband a_t_wife s_t_size r_t_child r_t_father r_t_husband r_t_wife)) (hS : va_S A s.heap H locs) (hl : lv_has ls 4 [(0, .ref a_t), (1, .int x1)]) : W p l e rX10_bridesBy s m args below meth c H locs 0 0 Q (F0 m 0 ls []) := by
  obtain ⟨⟨hx, hb, hml, hown, hts⟩, hK, hN, hA⟩ := C
  have C : jCx p s m args c cX10_bridesBy 4 gX10_bridesBy RX10 G D (jT cI cB cZ) A := ⟨⟨hx, hb, hml, hown, hts⟩, hK, hN, hA⟩
  unfold f_X10_bridesBy at hf
  refine lv_iconst (v := (0 : Int32)) hx hb dX10_bridesBy_0 (by decide) ?_
  refine lv_istore_n (lv' := [(2, .int (0 : Int32)), (0, .ref a_t), (1, .int x1)]) hx hb dX10_bridesBy_1 rfl hl (by decide) rfl (fun ls hl => ?_)
  refine lv_iconst (v := (0 : Int32)) hx hb dX10_bridesBy_2 (by decide) ?_
  refine lv_istore_n (lv' := [(3, .int (0 : Int32)), (2, .int (0 : Int32)), (0, .ref a_t), (1, .int x1)]) hx hb dX10_bridesBy_3 rfl hl (by decide) rfl (fun ls hl => ?_)
  obtain ⟨e5, hg5, hf⟩ := jM_some hf
  refine t_X10_bridesBy_l4 G D cI cB cZ a_t a_t_child a_t_father a_t_husband a_t_wife s_t_size r_t_child r_t_father r_t_husband r_t_wife x1 C jF (0 : Int32) (0 : Int32) hg5 ?_ _ _ _ hP hD hS (lv_sub hl [2, 3, 1, 0] rfl)
  intro H locs ls hP hD hS hl
  refine lv_iload_n hx hb dX10_bridesBy_38 rfl (lv_at hl 0 rfl) ?_
  have ho := Option.some.inj hf
  subst ho
  exact K _ _ _ _ hP hS dX10_bridesBy_39
set_option maxHeartbeats 4000000 in
set_option maxRecDepth 100000 in
theorem c_X10_bridesBy (l : Launch) (G : jGt) (D : va_G) (cI cB cZ : ClassId) (a_t a_t_child a_t_father a_t_husband a_t_wife : Nat) (s_t_size : Int32) (r_t_child r_t_father r_t_husband r_t_wife : jA) (x1 : Int32) {o : Int32} (hf : f_X10_bridesBy s_t_size r_t_child r_t_father r_t_husband r_t_wife x1 = some o) : jMi l yX10_bridesBy gX10_bridesBy rX10_bridesBy G D (jT cI cB cZ) [.ref a_t, .int x1] (w_X10_bridesBy cI cB cZ a_t a_t_child a_t_father a_t_husband a_t_wife s_t_size r_t_child r_t_father r_t_husband r_t_wife) (w_X10_bridesBy cI cB cZ a_t a_t_child a_t_father a_t_husband a_t_wife s_t_size r_t_child r_t_father r_t_husband r_t_wife) o := by
  refine jmk_i RX10 rfl (by decide +kernel) rfl (Nat.le_of_ble_eq_true rfl) rfl ?_
  intro p e s m args below meth c ls A Q C hP hD hS hl K
  exact t_X10_bridesBy G D cI cB cZ a_t a_t_child a_t_father a_t_husband a_t_wife s_t_size r_t_child r_t_father r_t_husband r_t_wife x1 C hf K hP hD hS hl
abbrev rX10_meansSame : Room := { frames := 2, cells := 0, slots := 0, locals := 50 }
abbrev gX10_meansSame : List Cond := wG yX10_meansSame cX10_meansSame 4 (some .boolean)
def w_X10_meansSame (cI cB cZ : ClassId) (a_t a_t_child a_t_father a_t_husband a_t_wife : Nat) (s_t_size : Int32) (r_t_child r_t_father r_t_husband r_t_wife : jA) : va_W := [(a_t, .inr (9, (oX10 (.ref a_t_wife) (.ref a_t_child) (.ref a_t_husband) (.ref a_t_father) s_t_size))), (a_t_child, .inl (cI, r_t_child.1, .inl r_t_child.2)), (a_t_father, .inl (cI, r_t_father.1, .inl r_t_father.2)), (a_t_husband, .inl (cI, r_t_husband.1, .inl r_t_husband.2)), (a_t_wife, .inl (cI, r_t_wife.1, .inl r_t_wife.2))]
def f_X10_meansSame_b26 (s_t_size : Int32) (r_t_child r_t_father r_t_husband r_t_wife : jA) (x1 x2 x3 : Int32) : Option ((Int32) ⊕ ((Unit) ⊕ ((Unit)))) :=
  if s_t_size ≤ x3 then
  some (Sum.inr (Sum.inr ()))
  else
  jM (f_X10_follow s_t_size r_t_child r_t_father r_t_husband r_t_wife x1 x3) fun r8 =>
  jM (f_X10_follow s_t_size r_t_child r_t_father r_t_husband r_t_wife x2 x3) fun r9 =>
  if r8 = r9 then
  some (Sum.inl (x3 + 1))
  else
  some (Sum.inr (Sum.inl ()))
set_option maxHeartbeats 4000000 in
set_option maxRecDepth 100000 in
theorem t_X10_meansSame_b26 {p : Program} {l : Launch} {e : Env} {s : State} {m : MethodId} {args : Array Value} {below : List Frame} {meth : Method} {c : Code} {A : Nat → Prop} {Q : State → Prop} (G : jGt) (D : va_G) (cI cB cZ : ClassId) (a_t a_t_child a_t_father a_t_husband a_t_wife : Nat) (s_t_size : Int32) (r_t_child r_t_father r_t_husband r_t_wife : jA) (x1 x2 x3 : Int32) (C : jCx p s m args c cX10_meansSame 4 gX10_meansSame RX10 G D (jT cI cB cZ) A) {o : (Int32) ⊕ ((Unit) ⊕ ((Unit)))} (hf : f_X10_meansSame_b26 s_t_size r_t_child r_t_father r_t_husband r_t_wife x1 x2 x3 = some o) (K : (∀ z, o = Sum.inl z → ∀ (H : Heap) (locs : List Loc) (ls : Array Slot), va_P D vwCl (w_X10_meansSame cI cB cZ a_t a_t_child a_t_father a_t_husband a_t_wife s_t_size r_t_child r_t_father r_t_husband r_t_wife) H → va_D A (w_X10_meansSame cI cB cZ a_t a_t_child a_t_father a_t_husband a_t_wife s_t_size r_t_child r_t_father r_t_husband r_t_wife) → va_S A s.heap H locs → lv_has ls 4 [(0, .ref a_t), (1, .int x1), (2, .int x2), (3, .int z)] → W p l e rX10_meansSame s m args below meth c H locs 0 0 Q (F0 m 26 ls [])) ∧ (∀ z, o = Sum.inr z → (∀ y0, z = Sum.inl y0 → ∀ (H : Heap) (locs : List Loc) (ls : Array Slot), va_P D vwCl (w_X10_meansSame cI cB cZ a_t a_t_child a_t_father a_t_husband a_t_wife s_t_size r_t_child r_t_father r_t_husband r_t_wife) H → va_D A (w_X10_meansSame cI cB cZ a_t a_t_child a_t_father a_t_husband a_t_wife s_t_size r_t_child r_t_father r_t_husband r_t_wife) → va_S A s.heap H locs → lv_has ls 4 [] → W p l e rX10_meansSame s m args below meth c H locs 0 0 Q (F0 m 49 ls [])) ∧ (∀ z0, z = Sum.inr z0 → ∀ (H : Heap) (locs : List Loc) (ls : Array Slot), va_P D vwCl (w_X10_meansSame cI cB cZ a_t a_t_child a_t_father a_t_husband a_t_wife s_t_size r_t_child r_t_father r_t_husband r_t_wife) H → va_D A (w_X10_meansSame cI cB cZ a_t a_t_child a_t_father a_t_husband a_t_wife s_t_size r_t_child r_t_father r_t_husband r_t_wife) → va_S A s.heap H locs → lv_has ls 4 [] → W p l e rX10_meansSame s m args below meth c H locs 0 0 Q (F0 m 57 ls [])))) {H : Heap} {locs : List Loc} {ls : Array Slot} (hP : va_P D vwCl (w_X10_meansSame cI cB cZ a_t a_t_child a_t_father a_t_husband a_t_wife s_t_size r_t_child r_t_father r_t_husband r_t_wife) H) (hD : va_D A (w_X10_meansSame cI cB cZ a_t a_t_child a_t_father a_t_husband a_t_wife s_t_size r_t_child r_t_father r_t_husband r_t_wife)) (hS : va_S A s.heap H locs) (hl : lv_has ls 4 [(0, .ref a_t), (1, .int x1), (2, .int x2), (3, .int x3)]) : W p l e rX10_meansSame s m args below meth c H locs 0 0 Q (F0 m 26 ls []) := by
  obtain ⟨⟨hx, hb, hml, hown, hts⟩, hK, hN, hA⟩ := C
  have C : jCx p s m args c cX10_meansSame 4 gX10_meansSame RX10 G D (jT cI cB cZ) A := ⟨⟨hx, hb, hml, hown, hts⟩, hK, hN, hA⟩
  unfold f_X10_meansSame_b26 at hf
  refine lv_iload_n hx hb dX10_meansSame_26 rfl (lv_at hl 3 rfl) ?_
  refine lv_aload_n hx hb dX10_meansSame_27 rfl (lv_at hl 0 rfl) ?_
  refine va_get (D := D) (ci := 9) (v := .int s_t_size) (C := RX10) (T := TX10) (N := 5) hx hb hts iw_X10 hown hK hP 0 rfl rfl 4 (by decide) (hts _ (wG_in k_fl_X10_30 rfl)) (fun _ h9 => h9) rfl dX10_meansSame_28 ?_
  refine lv_icmp_ge (tgt := 57) hx hb dX10_meansSame_31 (by decide) (fun c7 => ?_) (fun c7 => ?_)
  · replace hf := jif_t c7 hf
    have ho := Option.some.inj hf
    exact ((K.2 _ ho.symm).2 _ rfl) _ _ _ hP hD hS (lv_sub hl [] rfl)
  · replace hf := jif_f c7 hf
    refine lv_aload_n hx hb dX10_meansSame_34 rfl (lv_at hl 0 rfl) ?_
    refine lv_iload_n hx hb dX10_meansSame_35 rfl (lv_at hl 1 rfl) ?_
    refine lv_iload_n hx hb dX10_meansSame_36 rfl (lv_at hl 3 rfl) ?_
    obtain ⟨r8, hgr8, hf⟩ := jM_some hf
    refine jcV_i0 (As := [.int x1, .int x3]) (rest := []) ⟨hx, hb, hml, hown, hts⟩ hK hN hA (c_X10_follow l G D cI cB cZ a_t a_t_child a_t_father a_t_husband a_t_wife s_t_size r_t_child r_t_father r_t_husband r_t_wife x1 x3 hgr8) (cwV 2 hts (wG_V k_ml_X10_71 k_im_X10_follow k_se_X10_follow k_in_X10 k_co_X10_follow) rfl rfl rfl hd_X10_follow ⟨Nat.le_of_ble_eq_true rfl, Nat.le_of_ble_eq_true rfl⟩) hP hD hS [0, 1, 2, 3, 4] rfl rfl rfl (ci := 9) rfl 0 rfl rfl rfl hl.1 rfl (Nat.le_of_ble_eq_true rfl) dX10_meansSame_37 ⟨Nat.le_of_ble_eq_true rfl, Nat.le_of_ble_eq_true rfl⟩ (fun H locs hP hD hS => ?_)
    refine lv_aload_n hx hb dX10_meansSame_40 rfl (lv_at hl 0 rfl) ?_
    refine lv_iload_n hx hb dX10_meansSame_41 rfl (lv_at hl 2 rfl) ?_
    refine lv_iload_n hx hb dX10_meansSame_42 rfl (lv_at hl 3 rfl) ?_
    obtain ⟨r9, hgr9, hf⟩ := jM_some hf
    refine jcV_i0 (As := [.int x2, .int x3]) (rest := [.int r8]) ⟨hx, hb, hml, hown, hts⟩ hK hN hA (c_X10_follow l G D cI cB cZ a_t a_t_child a_t_father a_t_husband a_t_wife s_t_size r_t_child r_t_father r_t_husband r_t_wife x2 x3 hgr9) (cwV 2 hts (wG_V k_ml_X10_71 k_im_X10_follow k_se_X10_follow k_in_X10 k_co_X10_follow) rfl rfl rfl hd_X10_follow ⟨Nat.le_of_ble_eq_true rfl, Nat.le_of_ble_eq_true rfl⟩) hP hD hS [0, 1, 2, 3, 4] rfl rfl rfl (ci := 9) rfl 0 rfl rfl rfl hl.1 rfl (Nat.le_of_ble_eq_true rfl) dX10_meansSame_43 ⟨Nat.le_of_ble_eq_true rfl, Nat.le_of_ble_eq_true rfl⟩ (fun H locs hP hD hS => ?_)
    refine lv_icmp_eq (tgt := 51) hx hb dX10_meansSame_46 (by decide) (fun c10 => ?_) (fun c10 => ?_)
    · replace hf := jif_t c10 hf
      refine lv_iinc (v := (x3 + 1)) (lv' := [(3, .int (x3 + 1)), (0, .ref a_t), (1, .int x1), (2, .int x2)]) hx hb dX10_meansSame_51 hl (k := 3) rfl (by first | rfl | decide) (by decide) rfl (fun ls hl => ?_)
      refine lv_goto (tgt := 26) hx hb dX10_meansSame_54 (by decide) ?_
      have ho := Option.some.inj hf
      exact K.1 _ ho.symm _ _ _ hP hD hS (lv_sub hl [1, 2, 3, 0] rfl)
    · replace hf := jif_f c10 hf
      have ho := Option.some.inj hf
      exact ((K.2 _ ho.symm).1 _ rfl) _ _ _ hP hD hS (lv_sub hl [] rfl)
def f_X10_meansSame_l26 (s_t_size : Int32) (r_t_child r_t_father r_t_husband r_t_wife : jA) (x1 x2 x3 : Int32) : Option ((Unit) ⊕ ((Unit))) :=
  jI (fun z => f_X10_meansSame_b26 s_t_size r_t_child r_t_father r_t_husband r_t_wife x1 x2 z) jF x3
set_option maxHeartbeats 4000000 in
set_option maxRecDepth 100000 in
theorem t_X10_meansSame_l26 {p : Program} {l : Launch} {e : Env} {s : State} {m : MethodId} {args : Array Value} {below : List Frame} {meth : Method} {c : Code} {A : Nat → Prop} {Q : State → Prop} (G : jGt) (D : va_G) (cI cB cZ : ClassId) (a_t a_t_child a_t_father a_t_husband a_t_wife : Nat) (s_t_size : Int32) (r_t_child r_t_father r_t_husband r_t_wife : jA) (x1 x2 : Int32) (C : jCx p s m args c cX10_meansSame 4 gX10_meansSame RX10 G D (jT cI cB cZ) A) : ∀ (n : Nat) (x3 : Int32) {eo : (Unit) ⊕ ((Unit))}, jI (fun z => f_X10_meansSame_b26 s_t_size r_t_child r_t_father r_t_husband r_t_wife x1 x2 z) n x3 = some eo → ((∀ y0, eo = Sum.inl y0 → ∀ (H : Heap) (locs : List Loc) (ls : Array Slot), va_P D vwCl (w_X10_meansSame cI cB cZ a_t a_t_child a_t_father a_t_husband a_t_wife s_t_size r_t_child r_t_father r_t_husband r_t_wife) H → va_D A (w_X10_meansSame cI cB cZ a_t a_t_child a_t_father a_t_husband a_t_wife s_t_size r_t_child r_t_father r_t_husband r_t_wife) → va_S A s.heap H locs → lv_has ls 4 [] → W p l e rX10_meansSame s m args below meth c H locs 0 0 Q (F0 m 49 ls [])) ∧ (∀ z0, eo = Sum.inr z0 → ∀ (H : Heap) (locs : List Loc) (ls : Array Slot), va_P D vwCl (w_X10_meansSame cI cB cZ a_t a_t_child a_t_father a_t_husband a_t_wife s_t_size r_t_child r_t_father r_t_husband r_t_wife) H → va_D A (w_X10_meansSame cI cB cZ a_t a_t_child a_t_father a_t_husband a_t_wife s_t_size r_t_child r_t_father r_t_husband r_t_wife) → va_S A s.heap H locs → lv_has ls 4 [] → W p l e rX10_meansSame s m args below meth c H locs 0 0 Q (F0 m 57 ls []))) → ∀ (H : Heap) (locs : List Loc) (ls : Array Slot), va_P D vwCl (w_X10_meansSame cI cB cZ a_t a_t_child a_t_father a_t_husband a_t_wife s_t_size r_t_child r_t_father r_t_husband r_t_wife) H → va_D A (w_X10_meansSame cI cB cZ a_t a_t_child a_t_father a_t_husband a_t_wife s_t_size r_t_child r_t_father r_t_husband r_t_wife) → va_S A s.heap H locs → lv_has ls 4 [(0, .ref a_t), (1, .int x1), (2, .int x2), (3, .int x3)] → W p l e rX10_meansSame s m args below meth c H locs 0 0 Q (F0 m 26 ls []) := by
  intro n
  induction n with
  | zero =>
    intro x3 eo hf
    exact (jI_zero hf).elim
  | succ n ih =>
    intro x3 eo hf K H locs ls hP hD hS hl
    obtain ⟨o, hb1, ho⟩ := jI_some hf
    rcases ho with ⟨z, rfl, hf2⟩ | rfl
    · exact t_X10_meansSame_b26 G D cI cB cZ a_t a_t_child a_t_father a_t_husband a_t_wife s_t_size r_t_child r_t_father r_t_husband r_t_wife x1 x2 x3 C hb1 ⟨fun z2 hz H locs ls hP hD hS hl => by cases hz; exact ih z hf2 K H locs ls hP hD hS hl, fun z2 hz => by cases hz⟩ hP hD hS hl
    · exact t_X10_meansSame_b26 G D cI cB cZ a_t a_t_child a_t_father a_t_husband a_t_wife s_t_size r_t_child r_t_father r_t_husband r_t_wife x1 x2 x3 C hb1 ⟨fun z2 hz => (by cases hz), fun z2 hz => by cases hz; exact K⟩ hP hD hS hl
def f_X10_meansSame (s_t_size : Int32) (r_t_child r_t_father r_t_husband r_t_wife : jA) (x1 x2 : Int32) : Option (Int32) :=
  jM (f_X1_from x1) fun r1 =>
  jM (f_X1_from x2) fun r2 =>
  if r1 = r2 then
  jM (f_X1_to x1) fun r4 =>
  jM (f_X1_to x2) fun r5 =>
  if r4 = r5 then
  jM (f_X10_meansSame_l26 s_t_size r_t_child r_t_father r_t_husband r_t_wife x1 x2 (0 : Int32)) fun e11 =>
  Sum.elim (fun y12 =>
  some (0 : Int32)) (fun w13 =>
  some (1 : Int32)) e11
  else
  some (0 : Int32)
  else
  some (0 : Int32)
set_option maxHeartbeats 4000000 in
set_option maxRecDepth 100000 in
theorem t_X10_meansSame {p : Program} {l : Launch} {e : Env} {s : State} {m : MethodId} {args : Array Value} {below : List Frame} {meth : Method} {c : Code} {A : Nat → Prop} {Q : State → Prop} (G : jGt) (D : va_G) (cI cB cZ : ClassId) (a_t a_t_child a_t_father a_t_husband a_t_wife : Nat) (s_t_size : Int32) (r_t_child r_t_father r_t_husband r_t_wife : jA) (x1 x2 : Int32) (C : jCx p s m args c cX10_meansSame 4 gX10_meansSame RX10 G D (jT cI cB cZ) A) {o : Int32} (hf : f_X10_meansSame s_t_size r_t_child r_t_father r_t_husband r_t_wife x1 x2 = some o) (K : ∀ (H : Heap) (locs : List Loc) (pc : Nat) (ls : Array Slot), (o = 0 ∨ o = 1) → va_P D vwCl (w_X10_meansSame cI cB cZ a_t a_t_child a_t_father a_t_husband a_t_wife s_t_size r_t_child r_t_father r_t_husband r_t_wife) H → va_S A s.heap H locs → decode cX10_meansSame pc = .ok (.ireturn, 1) → W p l e rX10_meansSame s m args below meth c H locs 0 0 Q (F0 m pc ls [.int o])) {H : Heap} {locs : List Loc} {ls : Array Slot} (hP : va_P D vwCl (w_X10_meansSame cI cB cZ a_t a_t_child a_t_father a_t_husband a_t_wife s_t_size r_t_child r_t_father r_t_husband r_t_wife) H) (hD : va_D A (w_X10_meansSame cI cB cZ a_t a_t_child a_t_father a_t_husband a_t_wife s_t_size r_t_child r_t_father r_t_husband r_t_wife)) (hS : va_S A s.heap H locs) (hl : lv_has ls 4 [(0, .ref a_t), (1, .int x1), (2, .int x2)]) : W p l e rX10_meansSame s m args below meth c H locs 0 0 Q (F0 m 0 ls []) := by
  obtain ⟨⟨hx, hb, hml, hown, hts⟩, hK, hN, hA⟩ := C
  have C : jCx p s m args c cX10_meansSame 4 gX10_meansSame RX10 G D (jT cI cB cZ) A := ⟨⟨hx, hb, hml, hown, hts⟩, hK, hN, hA⟩
  unfold f_X10_meansSame at hf
  refine lv_iload_n hx hb dX10_meansSame_0 rfl (lv_at hl 1 rfl) ?_
  obtain ⟨r1, hgr1, hf⟩ := jM_some hf
  refine jcS_i0 (As := [.int x1]) (rest := []) ⟨hx, hb, hml, hown, hts⟩ hK hN hA (c_X1_from l G D cI cB cZ x1 hgr1) (va_cwS 1 hts (wG_S k_ml_X10_52 k_st_X1_from k_in_X1 k_co_X1_from) rfl rfl rfl hd_X1_from.2 ⟨Nat.le_of_ble_eq_true rfl, Nat.le_of_ble_eq_true rfl⟩) hP hD hS [] rfl rfl rfl rfl hl.1 rfl (Nat.le_of_ble_eq_true rfl) dX10_meansSame_1 ⟨Nat.le_of_ble_eq_true rfl, Nat.le_of_ble_eq_true rfl⟩ (fun H locs hP hD hS => ?_)
  refine lv_iload_n hx hb dX10_meansSame_4 rfl (lv_at hl 2 rfl) ?_
  obtain ⟨r2, hgr2, hf⟩ := jM_some hf
  refine jcS_i0 (As := [.int x2]) (rest := [.int r1]) ⟨hx, hb, hml, hown, hts⟩ hK hN hA (c_X1_from l G D cI cB cZ x2 hgr2) (va_cwS 1 hts (wG_S k_ml_X10_52 k_st_X1_from k_in_X1 k_co_X1_from) rfl rfl rfl hd_X1_from.2 ⟨Nat.le_of_ble_eq_true rfl, Nat.le_of_ble_eq_true rfl⟩) hP hD hS [] rfl rfl rfl rfl hl.1 rfl (Nat.le_of_ble_eq_true rfl) dX10_meansSame_5 ⟨Nat.le_of_ble_eq_true rfl, Nat.le_of_ble_eq_true rfl⟩ (fun H locs hP hD hS => ?_)
  refine lv_icmp_ne (tgt := 22) hx hb dX10_meansSame_8 (by decide) (fun c3 => ?_) (fun c3 => ?_)
  · replace hf := jif_f c3 hf
    refine lv_iconst (v := (0 : Int32)) hx hb dX10_meansSame_22 (by decide) ?_
    have ho := Option.some.inj hf
    subst ho
    exact K _ _ _ _ (Or.inl rfl) hP hS dX10_meansSame_23
  · replace hf := jif_t c3 hf
    refine lv_iload_n hx hb dX10_meansSame_11 rfl (lv_at hl 1 rfl) ?_
    obtain ⟨r4, hgr4, hf⟩ := jM_some hf
    refine jcS_i0 (As := [.int x1]) (rest := []) ⟨hx, hb, hml, hown, hts⟩ hK hN hA (c_X1_to l G D cI cB cZ x1 hgr4) (va_cwS 1 hts (wG_S k_ml_X10_76 k_st_X1_to k_in_X1 k_co_X1_to) rfl rfl rfl hd_X1_to.2 ⟨Nat.le_of_ble_eq_true rfl, Nat.le_of_ble_eq_true rfl⟩) hP hD hS [] rfl rfl rfl rfl hl.1 rfl (Nat.le_of_ble_eq_true rfl) dX10_meansSame_12 ⟨Nat.le_of_ble_eq_true rfl, Nat.le_of_ble_eq_true rfl⟩ (fun H locs hP hD hS => ?_)
    refine lv_iload_n hx hb dX10_meansSame_15 rfl (lv_at hl 2 rfl) ?_
    obtain ⟨r5, hgr5, hf⟩ := jM_some hf
    refine jcS_i0 (As := [.int x2]) (rest := [.int r4]) ⟨hx, hb, hml, hown, hts⟩ hK hN hA (c_X1_to l G D cI cB cZ x2 hgr5) (va_cwS 1 hts (wG_S k_ml_X10_76 k_st_X1_to k_in_X1 k_co_X1_to) rfl rfl rfl hd_X1_to.2 ⟨Nat.le_of_ble_eq_true rfl, Nat.le_of_ble_eq_true rfl⟩) hP hD hS [] rfl rfl rfl rfl hl.1 rfl (Nat.le_of_ble_eq_true rfl) dX10_meansSame_16 ⟨Nat.le_of_ble_eq_true rfl, Nat.le_of_ble_eq_true rfl⟩ (fun H locs hP hD hS => ?_)
    refine lv_icmp_eq (tgt := 24) hx hb dX10_meansSame_19 (by decide) (fun c6 => ?_) (fun c6 => ?_)
    · replace hf := jif_t c6 hf
      refine lv_iconst (v := (0 : Int32)) hx hb dX10_meansSame_24 (by decide) ?_
      refine lv_istore_n (lv' := [(3, .int (0 : Int32)), (0, .ref a_t), (1, .int x1), (2, .int x2)]) hx hb dX10_meansSame_25 rfl hl (by decide) rfl (fun ls hl => ?_)
      obtain ⟨e11, hg11, hf⟩ := jM_some hf
      refine t_X10_meansSame_l26 G D cI cB cZ a_t a_t_child a_t_father a_t_husband a_t_wife s_t_size r_t_child r_t_father r_t_husband r_t_wife x1 x2 C jF (0 : Int32) hg11 ?_ _ _ _ hP hD hS (lv_sub hl [1, 2, 3, 0] rfl)
      refine ⟨fun y12 hy => ?_, fun w13 hy => ?_⟩
      · replace hf := jE_l hy hf
        intro H locs ls hP hD hS hl
        refine lv_iconst (v := (0 : Int32)) hx hb dX10_meansSame_49 (by decide) ?_
        have ho := Option.some.inj hf
        subst ho
        exact K _ _ _ _ (Or.inl rfl) hP hS dX10_meansSame_50
      · replace hf := jE_r hy hf
        intro H locs ls hP hD hS hl
        refine lv_iconst (v := (1 : Int32)) hx hb dX10_meansSame_57 (by decide) ?_
        have ho := Option.some.inj hf
        subst ho
        exact K _ _ _ _ (Or.inr rfl) hP hS dX10_meansSame_58
    · replace hf := jif_f c6 hf
      refine lv_iconst (v := (0 : Int32)) hx hb dX10_meansSame_22 (by decide) ?_
      have ho := Option.some.inj hf
      subst ho
      exact K _ _ _ _ (Or.inl rfl) hP hS dX10_meansSame_23
set_option maxHeartbeats 4000000 in
set_option maxRecDepth 100000 in
theorem c_X10_meansSame (l : Launch) (G : jGt) (D : va_G) (cI cB cZ : ClassId) (a_t a_t_child a_t_father a_t_husband a_t_wife : Nat) (s_t_size : Int32) (r_t_child r_t_father r_t_husband r_t_wife : jA) (x1 x2 : Int32) {o : Int32} (hf : f_X10_meansSame s_t_size r_t_child r_t_father r_t_husband r_t_wife x1 x2 = some o) : jMi l yX10_meansSame gX10_meansSame rX10_meansSame G D (jT cI cB cZ) [.ref a_t, .int x1, .int x2] (w_X10_meansSame cI cB cZ a_t a_t_child a_t_father a_t_husband a_t_wife s_t_size r_t_child r_t_father r_t_husband r_t_wife) (w_X10_meansSame cI cB cZ a_t a_t_child a_t_father a_t_husband a_t_wife s_t_size r_t_child r_t_father r_t_husband r_t_wife) o := by
  refine jmk_z RX10 rfl (by decide +kernel) rfl (Nat.le_of_ble_eq_true rfl) rfl ?_
  intro p e s m args below meth c ls A Q C hP hD hS hl K
  exact t_X10_meansSame G D cI cB cZ a_t a_t_child a_t_father a_t_husband a_t_wife s_t_size r_t_child r_t_father r_t_husband r_t_wife x1 x2 C hf K hP hD hS hl
abbrev rX10_comesAgain : Room := { frames := 1, cells := 0, slots := 0, locals := 24 }
abbrev gX10_comesAgain : List Cond := wG yX10_comesAgain cX10_comesAgain 7 (some .boolean)
def w_X10_comesAgain (cI cB cZ : ClassId) (a_t a_t_child a_t_father a_t_husband a_t_wife : Nat) (s_t_size : Int32) (r_t_child r_t_father r_t_husband r_t_wife : jA) : va_W := [(a_t, .inr (9, (oX10 (.ref a_t_wife) (.ref a_t_child) (.ref a_t_husband) (.ref a_t_father) s_t_size))), (a_t_child, .inl (cI, r_t_child.1, .inl r_t_child.2)), (a_t_father, .inl (cI, r_t_father.1, .inl r_t_father.2)), (a_t_husband, .inl (cI, r_t_husband.1, .inl r_t_husband.2)), (a_t_wife, .inl (cI, r_t_wife.1, .inl r_t_wife.2))]
def f_X10_comesAgain_b19 (r_t_child r_t_father r_t_husband r_t_wife : jA) (x1 x2 x3 x4 x5 x6 : Int32) : Option ((Int32 × Int32) ⊕ ((Int32))) :=
  if x3 ≤ x6 then
  some (Sum.inr x5)
  else
  jM (f_X10_step r_t_child r_t_father r_t_husband r_t_wife x1 x2 x5) fun r3 =>
  some (Sum.inl (r3, (x6 + 1)))
set_option maxHeartbeats 4000000 in
set_option maxRecDepth 100000 in
theorem t_X10_comesAgain_b19 {p : Program} {l : Launch} {e : Env} {s : State} {m : MethodId} {args : Array Value} {below : List Frame} {meth : Method} {c : Code} {A : Nat → Prop} {Q : State → Prop} (G : jGt) (D : va_G) (cI cB cZ : ClassId) (a_t a_t_child a_t_father a_t_husband a_t_wife : Nat) (s_t_size : Int32) (r_t_child r_t_father r_t_husband r_t_wife : jA) (x1 x2 x3 x4 x5 x6 : Int32) (C : jCx p s m args c cX10_comesAgain 7 gX10_comesAgain RX10 G D (jT cI cB cZ) A) {o : (Int32 × Int32) ⊕ ((Int32))} (hf : f_X10_comesAgain_b19 r_t_child r_t_father r_t_husband r_t_wife x1 x2 x3 x4 x5 x6 = some o) (K : (∀ z, o = Sum.inl z → ∀ (H : Heap) (locs : List Loc) (ls : Array Slot), va_P D vwCl (w_X10_comesAgain cI cB cZ a_t a_t_child a_t_father a_t_husband a_t_wife s_t_size r_t_child r_t_father r_t_husband r_t_wife) H → va_D A (w_X10_comesAgain cI cB cZ a_t a_t_child a_t_father a_t_husband a_t_wife s_t_size r_t_child r_t_father r_t_husband r_t_wife) → va_S A s.heap H locs → lv_has ls 7 [(0, .ref a_t), (1, .int x1), (2, .int x2), (3, .int x3), (4, .int x4), (5, .int z.1), (6, .int z.2)] → W p l e rX10_comesAgain s m args below meth c H locs 0 0 Q (F0 m 19 ls [])) ∧ (∀ z, o = Sum.inr z → ∀ (H : Heap) (locs : List Loc) (ls : Array Slot), va_P D vwCl (w_X10_comesAgain cI cB cZ a_t a_t_child a_t_father a_t_husband a_t_wife s_t_size r_t_child r_t_father r_t_husband r_t_wife) H → va_D A (w_X10_comesAgain cI cB cZ a_t a_t_child a_t_father a_t_husband a_t_wife s_t_size r_t_child r_t_father r_t_husband r_t_wife) → va_S A s.heap H locs → lv_has ls 7 [(0, .ref a_t), (1, .int x1), (2, .int x2), (3, .int x3), (4, .int x4), (5, .int z)] → W p l e rX10_comesAgain s m args below meth c H locs 0 0 Q (F0 m 41 ls []))) {H : Heap} {locs : List Loc} {ls : Array Slot} (hP : va_P D vwCl (w_X10_comesAgain cI cB cZ a_t a_t_child a_t_father a_t_husband a_t_wife s_t_size r_t_child r_t_father r_t_husband r_t_wife) H) (hD : va_D A (w_X10_comesAgain cI cB cZ a_t a_t_child a_t_father a_t_husband a_t_wife s_t_size r_t_child r_t_father r_t_husband r_t_wife)) (hS : va_S A s.heap H locs) (hl : lv_has ls 7 [(0, .ref a_t), (1, .int x1), (2, .int x2), (3, .int x3), (4, .int x4), (5, .int x5), (6, .int x6)]) : W p l e rX10_comesAgain s m args below meth c H locs 0 0 Q (F0 m 19 ls []) := by
  obtain ⟨⟨hx, hb, hml, hown, hts⟩, hK, hN, hA⟩ := C
  have C : jCx p s m args c cX10_comesAgain 7 gX10_comesAgain RX10 G D (jT cI cB cZ) A := ⟨⟨hx, hb, hml, hown, hts⟩, hK, hN, hA⟩
  unfold f_X10_comesAgain_b19 at hf
  refine lv_iload hx hb dX10_comesAgain_19 (lv_at hl 6 rfl) ?_
  refine lv_iload_n hx hb dX10_comesAgain_21 rfl (lv_at hl 3 rfl) ?_
  refine lv_icmp_ge (tgt := 41) hx hb dX10_comesAgain_22 (by decide) (fun c2 => ?_) (fun c2 => ?_)
  · replace hf := jif_t c2 hf
    have ho := Option.some.inj hf
    exact (K.2 _ ho.symm) _ _ _ hP hD hS (lv_sub hl [0, 1, 2, 3, 4, 5] rfl)
  · replace hf := jif_f c2 hf
    refine lv_aload_n hx hb dX10_comesAgain_25 rfl (lv_at hl 0 rfl) ?_
    refine lv_iload_n hx hb dX10_comesAgain_26 rfl (lv_at hl 1 rfl) ?_
    refine lv_iload_n hx hb dX10_comesAgain_27 rfl (lv_at hl 2 rfl) ?_
    refine lv_iload hx hb dX10_comesAgain_28 (lv_at hl 5 rfl) ?_
    obtain ⟨r3, hgr3, hf⟩ := jM_some hf
    refine jcV_i0 (As := [.int x1, .int x2, .int x5]) (rest := []) ⟨hx, hb, hml, hown, hts⟩ hK hN hA (c_X10_step l G D cI cB cZ a_t a_t_child a_t_father a_t_husband a_t_wife s_t_size r_t_child r_t_father r_t_husband r_t_wife x1 x2 x5 hgr3) (cwV 3 hts (wG_V k_ml_X10_64 k_im_X10_step k_se_X10_step k_in_X10 k_co_X10_step) rfl rfl rfl hd_X10_step ⟨Nat.le_of_ble_eq_true rfl, Nat.le_of_ble_eq_true rfl⟩) hP hD hS [0, 1, 2, 3, 4] rfl rfl rfl (ci := 9) rfl 0 rfl rfl rfl hl.1 rfl (Nat.le_of_ble_eq_true rfl) dX10_comesAgain_30 ⟨Nat.le_of_ble_eq_true rfl, Nat.le_of_ble_eq_true rfl⟩ (fun H locs hP hD hS => ?_)
    refine lv_istore (lv' := [(5, .int r3), (0, .ref a_t), (1, .int x1), (2, .int x2), (3, .int x3), (4, .int x4), (6, .int x6)]) hx hb dX10_comesAgain_33 hl (by decide) rfl (fun ls hl => ?_)
    refine lv_iinc (v := (x6 + 1)) (lv' := [(6, .int (x6 + 1)), (5, .int r3), (0, .ref a_t), (1, .int x1), (2, .int x2), (3, .int x3), (4, .int x4)]) hx hb dX10_comesAgain_35 hl (k := 6) rfl (by first | rfl | decide) (by decide) rfl (fun ls hl => ?_)
    refine lv_goto (tgt := 19) hx hb dX10_comesAgain_38 (by decide) ?_
    have ho := Option.some.inj hf
    exact K.1 _ ho.symm _ _ _ hP hD hS (lv_sub hl [2, 3, 4, 5, 6, 1, 0] rfl)
def f_X10_comesAgain_l19 (r_t_child r_t_father r_t_husband r_t_wife : jA) (x1 x2 x3 x4 x5 x6 : Int32) : Option ((Int32)) :=
  jI (fun z => f_X10_comesAgain_b19 r_t_child r_t_father r_t_husband r_t_wife x1 x2 x3 x4 z.1 z.2) jF (x5, x6)
set_option maxHeartbeats 4000000 in
set_option maxRecDepth 100000 in
theorem t_X10_comesAgain_l19 {p : Program} {l : Launch} {e : Env} {s : State} {m : MethodId} {args : Array Value} {below : List Frame} {meth : Method} {c : Code} {A : Nat → Prop} {Q : State → Prop} (G : jGt) (D : va_G) (cI cB cZ : ClassId) (a_t a_t_child a_t_father a_t_husband a_t_wife : Nat) (s_t_size : Int32) (r_t_child r_t_father r_t_husband r_t_wife : jA) (x1 x2 x3 x4 : Int32) (C : jCx p s m args c cX10_comesAgain 7 gX10_comesAgain RX10 G D (jT cI cB cZ) A) : ∀ (n : Nat) (x5 x6 : Int32) {eo : (Int32)}, jI (fun z => f_X10_comesAgain_b19 r_t_child r_t_father r_t_husband r_t_wife x1 x2 x3 x4 z.1 z.2) n (x5, x6) = some eo → (∀ (H : Heap) (locs : List Loc) (ls : Array Slot), va_P D vwCl (w_X10_comesAgain cI cB cZ a_t a_t_child a_t_father a_t_husband a_t_wife s_t_size r_t_child r_t_father r_t_husband r_t_wife) H → va_D A (w_X10_comesAgain cI cB cZ a_t a_t_child a_t_father a_t_husband a_t_wife s_t_size r_t_child r_t_father r_t_husband r_t_wife) → va_S A s.heap H locs → lv_has ls 7 [(0, .ref a_t), (1, .int x1), (2, .int x2), (3, .int x3), (4, .int x4), (5, .int eo)] → W p l e rX10_comesAgain s m args below meth c H locs 0 0 Q (F0 m 41 ls [])) → ∀ (H : Heap) (locs : List Loc) (ls : Array Slot), va_P D vwCl (w_X10_comesAgain cI cB cZ a_t a_t_child a_t_father a_t_husband a_t_wife s_t_size r_t_child r_t_father r_t_husband r_t_wife) H → va_D A (w_X10_comesAgain cI cB cZ a_t a_t_child a_t_father a_t_husband a_t_wife s_t_size r_t_child r_t_father r_t_husband r_t_wife) → va_S A s.heap H locs → lv_has ls 7 [(0, .ref a_t), (1, .int x1), (2, .int x2), (3, .int x3), (4, .int x4), (5, .int x5), (6, .int x6)] → W p l e rX10_comesAgain s m args below meth c H locs 0 0 Q (F0 m 19 ls []) := by
  intro n
  induction n with
  | zero =>
    intro x5 x6 eo hf
    exact (jI_zero hf).elim
  | succ n ih =>
    intro x5 x6 eo hf K H locs ls hP hD hS hl
    obtain ⟨o, hb1, ho⟩ := jI_some hf
    rcases ho with ⟨z, rfl, hf2⟩ | rfl
    · exact t_X10_comesAgain_b19 G D cI cB cZ a_t a_t_child a_t_father a_t_husband a_t_wife s_t_size r_t_child r_t_father r_t_husband r_t_wife x1 x2 x3 x4 x5 x6 C hb1 ⟨fun z2 hz H locs ls hP hD hS hl => by cases hz; exact ih z.1 z.2 hf2 K H locs ls hP hD hS hl, fun z2 hz => by cases hz⟩ hP hD hS hl
    · exact t_X10_comesAgain_b19 G D cI cB cZ a_t a_t_child a_t_father a_t_husband a_t_wife s_t_size r_t_child r_t_father r_t_husband r_t_wife x1 x2 x3 x4 x5 x6 C hb1 ⟨fun z2 hz => (by cases hz), fun z2 hz => by cases hz; exact K⟩ hP hD hS hl
def f_X10_comesAgain_b3 (s_t_size : Int32) (r_t_child r_t_father r_t_husband r_t_wife : jA) (x1 x2 x3 x4 : Int32) : Option ((Int32) ⊕ ((Unit) ⊕ ((Unit)))) :=
  if s_t_size ≤ x4 then
  some (Sum.inr (Sum.inr ()))
  else
  jM (f_X10_comesAgain_l19 r_t_child r_t_father r_t_husband r_t_wife x1 x2 x3 x4 x4 (0 : Int32)) fun e4 =>
  if e4 = x4 then
  some (Sum.inl (x4 + 1))
  else
  some (Sum.inr (Sum.inl ()))
set_option maxHeartbeats 4000000 in
set_option maxRecDepth 100000 in
theorem t_X10_comesAgain_b3 {p : Program} {l : Launch} {e : Env} {s : State} {m : MethodId} {args : Array Value} {below : List Frame} {meth : Method} {c : Code} {A : Nat → Prop} {Q : State → Prop} (G : jGt) (D : va_G) (cI cB cZ : ClassId) (a_t a_t_child a_t_father a_t_husband a_t_wife : Nat) (s_t_size : Int32) (r_t_child r_t_father r_t_husband r_t_wife : jA) (x1 x2 x3 x4 : Int32) (C : jCx p s m args c cX10_comesAgain 7 gX10_comesAgain RX10 G D (jT cI cB cZ) A) {o : (Int32) ⊕ ((Unit) ⊕ ((Unit)))} (hf : f_X10_comesAgain_b3 s_t_size r_t_child r_t_father r_t_husband r_t_wife x1 x2 x3 x4 = some o) (K : (∀ z, o = Sum.inl z → ∀ (H : Heap) (locs : List Loc) (ls : Array Slot), va_P D vwCl (w_X10_comesAgain cI cB cZ a_t a_t_child a_t_father a_t_husband a_t_wife s_t_size r_t_child r_t_father r_t_husband r_t_wife) H → va_D A (w_X10_comesAgain cI cB cZ a_t a_t_child a_t_father a_t_husband a_t_wife s_t_size r_t_child r_t_father r_t_husband r_t_wife) → va_S A s.heap H locs → lv_has ls 7 [(0, .ref a_t), (1, .int x1), (2, .int x2), (3, .int x3), (4, .int z)] → W p l e rX10_comesAgain s m args below meth c H locs 0 0 Q (F0 m 3 ls [])) ∧ (∀ z, o = Sum.inr z → (∀ y0, z = Sum.inl y0 → ∀ (H : Heap) (locs : List Loc) (ls : Array Slot), va_P D vwCl (w_X10_comesAgain cI cB cZ a_t a_t_child a_t_father a_t_husband a_t_wife s_t_size r_t_child r_t_father r_t_husband r_t_wife) H → va_D A (w_X10_comesAgain cI cB cZ a_t a_t_child a_t_father a_t_husband a_t_wife s_t_size r_t_child r_t_father r_t_husband r_t_wife) → va_S A s.heap H locs → lv_has ls 7 [] → W p l e rX10_comesAgain s m args below meth c H locs 0 0 Q (F0 m 48 ls [])) ∧ (∀ z0, z = Sum.inr z0 → ∀ (H : Heap) (locs : List Loc) (ls : Array Slot), va_P D vwCl (w_X10_comesAgain cI cB cZ a_t a_t_child a_t_father a_t_husband a_t_wife s_t_size r_t_child r_t_father r_t_husband r_t_wife) H → va_D A (w_X10_comesAgain cI cB cZ a_t a_t_child a_t_father a_t_husband a_t_wife s_t_size r_t_child r_t_father r_t_husband r_t_wife) → va_S A s.heap H locs → lv_has ls 7 [] → W p l e rX10_comesAgain s m args below meth c H locs 0 0 Q (F0 m 56 ls [])))) {H : Heap} {locs : List Loc} {ls : Array Slot} (hP : va_P D vwCl (w_X10_comesAgain cI cB cZ a_t a_t_child a_t_father a_t_husband a_t_wife s_t_size r_t_child r_t_father r_t_husband r_t_wife) H) (hD : va_D A (w_X10_comesAgain cI cB cZ a_t a_t_child a_t_father a_t_husband a_t_wife s_t_size r_t_child r_t_father r_t_husband r_t_wife)) (hS : va_S A s.heap H locs) (hl : lv_has ls 7 [(0, .ref a_t), (1, .int x1), (2, .int x2), (3, .int x3), (4, .int x4)]) : W p l e rX10_comesAgain s m args below meth c H locs 0 0 Q (F0 m 3 ls []) := by
  obtain ⟨⟨hx, hb, hml, hown, hts⟩, hK, hN, hA⟩ := C
  have C : jCx p s m args c cX10_comesAgain 7 gX10_comesAgain RX10 G D (jT cI cB cZ) A := ⟨⟨hx, hb, hml, hown, hts⟩, hK, hN, hA⟩
  unfold f_X10_comesAgain_b3 at hf
  refine lv_iload hx hb dX10_comesAgain_3 (lv_at hl 4 rfl) ?_
  refine lv_aload_n hx hb dX10_comesAgain_5 rfl (lv_at hl 0 rfl) ?_
  refine va_get (D := D) (ci := 9) (v := .int s_t_size) (C := RX10) (T := TX10) (N := 5) hx hb hts iw_X10 hown hK hP 0 rfl rfl 4 (by decide) (hts _ (wG_in k_fl_X10_30 rfl)) (fun _ h9 => h9) rfl dX10_comesAgain_6 ?_
  refine lv_icmp_ge (tgt := 56) hx hb dX10_comesAgain_9 (by decide) (fun c1 => ?_) (fun c1 => ?_)
  · replace hf := jif_t c1 hf
    have ho := Option.some.inj hf
    exact ((K.2 _ ho.symm).2 _ rfl) _ _ _ hP hD hS (lv_sub hl [] rfl)
  · replace hf := jif_f c1 hf
    refine lv_iload hx hb dX10_comesAgain_12 (lv_at hl 4 rfl) ?_
    refine lv_istore (lv' := [(5, .int x4), (0, .ref a_t), (1, .int x1), (2, .int x2), (3, .int x3), (4, .int x4)]) hx hb dX10_comesAgain_14 hl (by decide) rfl (fun ls hl => ?_)
    refine lv_iconst (v := (0 : Int32)) hx hb dX10_comesAgain_16 (by decide) ?_
    refine lv_istore (lv' := [(6, .int (0 : Int32)), (5, .int x4), (0, .ref a_t), (1, .int x1), (2, .int x2), (3, .int x3), (4, .int x4)]) hx hb dX10_comesAgain_17 hl (by decide) rfl (fun ls hl => ?_)
    obtain ⟨e4, hg4, hf⟩ := jM_some hf
    refine t_X10_comesAgain_l19 G D cI cB cZ a_t a_t_child a_t_father a_t_husband a_t_wife s_t_size r_t_child r_t_father r_t_husband r_t_wife x1 x2 x3 x4 C jF x4 (0 : Int32) hg4 ?_ _ _ _ hP hD hS (lv_sub hl [2, 3, 4, 5, 6, 1, 0] rfl)
    intro H locs ls hP hD hS hl
    refine lv_iload hx hb dX10_comesAgain_41 (lv_at hl 5 rfl) ?_
    refine lv_iload hx hb dX10_comesAgain_43 (lv_at hl 4 rfl) ?_
    refine lv_icmp_eq (tgt := 50) hx hb dX10_comesAgain_45 (by decide) (fun c5 => ?_) (fun c5 => ?_)
    · replace hf := jif_t c5 hf
      refine lv_iinc (v := (x4 + 1)) (lv' := [(4, .int (x4 + 1)), (0, .ref a_t), (1, .int x1), (2, .int x2), (3, .int x3), (5, .int e4)]) hx hb dX10_comesAgain_50 hl (k := 4) rfl (by first | rfl | decide) (by decide) rfl (fun ls hl => ?_)
      refine lv_goto (tgt := 3) hx hb dX10_comesAgain_53 (by decide) ?_
      have ho := Option.some.inj hf
      exact K.1 _ ho.symm _ _ _ hP hD hS (lv_sub hl [1, 2, 3, 4, 0] rfl)
    · replace hf := jif_f c5 hf
      have ho := Option.some.inj hf
      exact ((K.2 _ ho.symm).1 _ rfl) _ _ _ hP hD hS (lv_sub hl [] rfl)
def f_X10_comesAgain_l3 (s_t_size : Int32) (r_t_child r_t_father r_t_husband r_t_wife : jA) (x1 x2 x3 x4 : Int32) : Option ((Unit) ⊕ ((Unit))) :=
  jI (fun z => f_X10_comesAgain_b3 s_t_size r_t_child r_t_father r_t_husband r_t_wife x1 x2 x3 z) jF x4
set_option maxHeartbeats 4000000 in
set_option maxRecDepth 100000 in
theorem t_X10_comesAgain_l3 {p : Program} {l : Launch} {e : Env} {s : State} {m : MethodId} {args : Array Value} {below : List Frame} {meth : Method} {c : Code} {A : Nat → Prop} {Q : State → Prop} (G : jGt) (D : va_G) (cI cB cZ : ClassId) (a_t a_t_child a_t_father a_t_husband a_t_wife : Nat) (s_t_size : Int32) (r_t_child r_t_father r_t_husband r_t_wife : jA) (x1 x2 x3 : Int32) (C : jCx p s m args c cX10_comesAgain 7 gX10_comesAgain RX10 G D (jT cI cB cZ) A) : ∀ (n : Nat) (x4 : Int32) {eo : (Unit) ⊕ ((Unit))}, jI (fun z => f_X10_comesAgain_b3 s_t_size r_t_child r_t_father r_t_husband r_t_wife x1 x2 x3 z) n x4 = some eo → ((∀ y0, eo = Sum.inl y0 → ∀ (H : Heap) (locs : List Loc) (ls : Array Slot), va_P D vwCl (w_X10_comesAgain cI cB cZ a_t a_t_child a_t_father a_t_husband a_t_wife s_t_size r_t_child r_t_father r_t_husband r_t_wife) H → va_D A (w_X10_comesAgain cI cB cZ a_t a_t_child a_t_father a_t_husband a_t_wife s_t_size r_t_child r_t_father r_t_husband r_t_wife) → va_S A s.heap H locs → lv_has ls 7 [] → W p l e rX10_comesAgain s m args below meth c H locs 0 0 Q (F0 m 48 ls [])) ∧ (∀ z0, eo = Sum.inr z0 → ∀ (H : Heap) (locs : List Loc) (ls : Array Slot), va_P D vwCl (w_X10_comesAgain cI cB cZ a_t a_t_child a_t_father a_t_husband a_t_wife s_t_size r_t_child r_t_father r_t_husband r_t_wife) H → va_D A (w_X10_comesAgain cI cB cZ a_t a_t_child a_t_father a_t_husband a_t_wife s_t_size r_t_child r_t_father r_t_husband r_t_wife) → va_S A s.heap H locs → lv_has ls 7 [] → W p l e rX10_comesAgain s m args below meth c H locs 0 0 Q (F0 m 56 ls []))) → ∀ (H : Heap) (locs : List Loc) (ls : Array Slot), va_P D vwCl (w_X10_comesAgain cI cB cZ a_t a_t_child a_t_father a_t_husband a_t_wife s_t_size r_t_child r_t_father r_t_husband r_t_wife) H → va_D A (w_X10_comesAgain cI cB cZ a_t a_t_child a_t_father a_t_husband a_t_wife s_t_size r_t_child r_t_father r_t_husband r_t_wife) → va_S A s.heap H locs → lv_has ls 7 [(0, .ref a_t), (1, .int x1), (2, .int x2), (3, .int x3), (4, .int x4)] → W p l e rX10_comesAgain s m args below meth c H locs 0 0 Q (F0 m 3 ls []) := by
  intro n
  induction n with
  | zero =>
    intro x4 eo hf
    exact (jI_zero hf).elim
  | succ n ih =>
    intro x4 eo hf K H locs ls hP hD hS hl
    obtain ⟨o, hb1, ho⟩ := jI_some hf
    rcases ho with ⟨z, rfl, hf2⟩ | rfl
    · exact t_X10_comesAgain_b3 G D cI cB cZ a_t a_t_child a_t_father a_t_husband a_t_wife s_t_size r_t_child r_t_father r_t_husband r_t_wife x1 x2 x3 x4 C hb1 ⟨fun z2 hz H locs ls hP hD hS hl => by cases hz; exact ih z hf2 K H locs ls hP hD hS hl, fun z2 hz => by cases hz⟩ hP hD hS hl
    · exact t_X10_comesAgain_b3 G D cI cB cZ a_t a_t_child a_t_father a_t_husband a_t_wife s_t_size r_t_child r_t_father r_t_husband r_t_wife x1 x2 x3 x4 C hb1 ⟨fun z2 hz => (by cases hz), fun z2 hz => by cases hz; exact K⟩ hP hD hS hl
def f_X10_comesAgain (s_t_size : Int32) (r_t_child r_t_father r_t_husband r_t_wife : jA) (x1 x2 x3 : Int32) : Option (Int32) :=
  jM (f_X10_comesAgain_l3 s_t_size r_t_child r_t_father r_t_husband r_t_wife x1 x2 x3 (0 : Int32)) fun e6 =>
  Sum.elim (fun y7 =>
  some (0 : Int32)) (fun w8 =>
  some (1 : Int32)) e6
set_option maxHeartbeats 4000000 in
set_option maxRecDepth 100000 in
theorem t_X10_comesAgain {p : Program} {l : Launch} {e : Env} {s : State} {m : MethodId} {args : Array Value} {below : List Frame} {meth : Method} {c : Code} {A : Nat → Prop} {Q : State → Prop} (G : jGt) (D : va_G) (cI cB cZ : ClassId) (a_t a_t_child a_t_father a_t_husband a_t_wife : Nat) (s_t_size : Int32) (r_t_child r_t_father r_t_husband r_t_wife : jA) (x1 x2 x3 : Int32) (C : jCx p s m args c cX10_comesAgain 7 gX10_comesAgain RX10 G D (jT cI cB cZ) A) {o : Int32} (hf : f_X10_comesAgain s_t_size r_t_child r_t_father r_t_husband r_t_wife x1 x2 x3 = some o) (K : ∀ (H : Heap) (locs : List Loc) (pc : Nat) (ls : Array Slot), (o = 0 ∨ o = 1) → va_P D vwCl (w_X10_comesAgain cI cB cZ a_t a_t_child a_t_father a_t_husband a_t_wife s_t_size r_t_child r_t_father r_t_husband r_t_wife) H → va_S A s.heap H locs → decode cX10_comesAgain pc = .ok (.ireturn, 1) → W p l e rX10_comesAgain s m args below meth c H locs 0 0 Q (F0 m pc ls [.int o])) {H : Heap} {locs : List Loc} {ls : Array Slot} (hP : va_P D vwCl (w_X10_comesAgain cI cB cZ a_t a_t_child a_t_father a_t_husband a_t_wife s_t_size r_t_child r_t_father r_t_husband r_t_wife) H) (hD : va_D A (w_X10_comesAgain cI cB cZ a_t a_t_child a_t_father a_t_husband a_t_wife s_t_size r_t_child r_t_father r_t_husband r_t_wife)) (hS : va_S A s.heap H locs) (hl : lv_has ls 7 [(0, .ref a_t), (1, .int x1), (2, .int x2), (3, .int x3)]) : W p l e rX10_comesAgain s m args below meth c H locs 0 0 Q (F0 m 0 ls []) := by
  obtain ⟨⟨hx, hb, hml, hown, hts⟩, hK, hN, hA⟩ := C
  have C : jCx p s m args c cX10_comesAgain 7 gX10_comesAgain RX10 G D (jT cI cB cZ) A := ⟨⟨hx, hb, hml, hown, hts⟩, hK, hN, hA⟩
  unfold f_X10_comesAgain at hf
  refine lv_iconst (v := (0 : Int32)) hx hb dX10_comesAgain_0 (by decide) ?_
  refine lv_istore (lv' := [(4, .int (0 : Int32)), (0, .ref a_t), (1, .int x1), (2, .int x2), (3, .int x3)]) hx hb dX10_comesAgain_1 hl (by decide) rfl (fun ls hl => ?_)
  obtain ⟨e6, hg6, hf⟩ := jM_some hf
  refine t_X10_comesAgain_l3 G D cI cB cZ a_t a_t_child a_t_father a_t_husband a_t_wife s_t_size r_t_child r_t_father r_t_husband r_t_wife x1 x2 x3 C jF (0 : Int32) hg6 ?_ _ _ _ hP hD hS (lv_sub hl [1, 2, 3, 4, 0] rfl)
  refine ⟨fun y7 hy => ?_, fun w8 hy => ?_⟩
  · replace hf := jE_l hy hf
    intro H locs ls hP hD hS hl
    refine lv_iconst (v := (0 : Int32)) hx hb dX10_comesAgain_48 (by decide) ?_
    have ho := Option.some.inj hf
    subst ho
    exact K _ _ _ _ (Or.inl rfl) hP hS dX10_comesAgain_49
  · replace hf := jE_r hy hf
    intro H locs ls hP hD hS hl
    refine lv_iconst (v := (1 : Int32)) hx hb dX10_comesAgain_56 (by decide) ?_
    have ho := Option.some.inj hf
    subst ho
    exact K _ _ _ _ (Or.inr rfl) hP hS dX10_comesAgain_57
set_option maxHeartbeats 4000000 in
set_option maxRecDepth 100000 in
theorem c_X10_comesAgain (l : Launch) (G : jGt) (D : va_G) (cI cB cZ : ClassId) (a_t a_t_child a_t_father a_t_husband a_t_wife : Nat) (s_t_size : Int32) (r_t_child r_t_father r_t_husband r_t_wife : jA) (x1 x2 x3 : Int32) {o : Int32} (hf : f_X10_comesAgain s_t_size r_t_child r_t_father r_t_husband r_t_wife x1 x2 x3 = some o) : jMi l yX10_comesAgain gX10_comesAgain rX10_comesAgain G D (jT cI cB cZ) [.ref a_t, .int x1, .int x2, .int x3] (w_X10_comesAgain cI cB cZ a_t a_t_child a_t_father a_t_husband a_t_wife s_t_size r_t_child r_t_father r_t_husband r_t_wife) (w_X10_comesAgain cI cB cZ a_t a_t_child a_t_father a_t_husband a_t_wife s_t_size r_t_child r_t_father r_t_husband r_t_wife) o := by
  refine jmk_z RX10 rfl (by decide +kernel) rfl (Nat.le_of_ble_eq_true rfl) rfl ?_
  intro p e s m args below meth c ls A Q C hP hD hS hl K
  exact t_X10_comesAgain G D cI cB cZ a_t a_t_child a_t_father a_t_husband a_t_wife s_t_size r_t_child r_t_father r_t_husband r_t_wife x1 x2 x3 C hf K hP hD hS hl
abbrev rX10_roundOf : Room := { frames := 2, cells := 0, slots := 0, locals := 50 }
abbrev gX10_roundOf : List Cond := wG yX10_roundOf cX10_roundOf 4 (some .int)
def w_X10_roundOf (cI cB cZ : ClassId) (a_t a_t_child a_t_father a_t_husband a_t_wife : Nat) (s_t_size : Int32) (r_t_child r_t_father r_t_husband r_t_wife : jA) : va_W := [(a_t, .inr (9, (oX10 (.ref a_t_wife) (.ref a_t_child) (.ref a_t_husband) (.ref a_t_father) s_t_size))), (a_t_child, .inl (cI, r_t_child.1, .inl r_t_child.2)), (a_t_father, .inl (cI, r_t_father.1, .inl r_t_father.2)), (a_t_husband, .inl (cI, r_t_husband.1, .inl r_t_husband.2)), (a_t_wife, .inl (cI, r_t_wife.1, .inl r_t_wife.2))]
def f_X10_roundOf_b2 (s_t_size : Int32) (r_t_child r_t_father r_t_husband r_t_wife : jA) (x1 x2 x3 : Int32) : Option ((Int32) ⊕ ((Int32) ⊕ ((Unit)))) :=
  if (15 : Int32) < x3 then
  some (Sum.inr (Sum.inr ()))
  else
  jM (f_X10_comesAgain s_t_size r_t_child r_t_father r_t_husband r_t_wife x1 x2 x3) fun r2 =>
  if r2 = 0 then
  some (Sum.inl (x3 + 1))
  else
  some (Sum.inr (Sum.inl x3))
set_option maxHeartbeats 4000000 in
set_option maxRecDepth 100000 in
theorem t_X10_roundOf_b2 {p : Program} {l : Launch} {e : Env} {s : State} {m : MethodId} {args : Array Value} {below : List Frame} {meth : Method} {c : Code} {A : Nat → Prop} {Q : State → Prop} (G : jGt) (D : va_G) (cI cB cZ : ClassId) (a_t a_t_child a_t_father a_t_husband a_t_wife : Nat) (s_t_size : Int32) (r_t_child r_t_father r_t_husband r_t_wife : jA) (x1 x2 x3 : Int32) (C : jCx p s m args c cX10_roundOf 4 gX10_roundOf RX10 G D (jT cI cB cZ) A) {o : (Int32) ⊕ ((Int32) ⊕ ((Unit)))} (hf : f_X10_roundOf_b2 s_t_size r_t_child r_t_father r_t_husband r_t_wife x1 x2 x3 = some o) (K : (∀ z, o = Sum.inl z → ∀ (H : Heap) (locs : List Loc) (ls : Array Slot), va_P D vwCl (w_X10_roundOf cI cB cZ a_t a_t_child a_t_father a_t_husband a_t_wife s_t_size r_t_child r_t_father r_t_husband r_t_wife) H → va_D A (w_X10_roundOf cI cB cZ a_t a_t_child a_t_father a_t_husband a_t_wife s_t_size r_t_child r_t_father r_t_husband r_t_wife) → va_S A s.heap H locs → lv_has ls 4 [(0, .ref a_t), (1, .int x1), (2, .int x2), (3, .int z)] → W p l e rX10_roundOf s m args below meth c H locs 0 0 Q (F0 m 2 ls [])) ∧ (∀ z, o = Sum.inr z → (∀ y0, z = Sum.inl y0 → ∀ (H : Heap) (locs : List Loc) (ls : Array Slot), va_P D vwCl (w_X10_roundOf cI cB cZ a_t a_t_child a_t_father a_t_husband a_t_wife s_t_size r_t_child r_t_father r_t_husband r_t_wife) H → va_D A (w_X10_roundOf cI cB cZ a_t a_t_child a_t_father a_t_husband a_t_wife s_t_size r_t_child r_t_father r_t_husband r_t_wife) → va_S A s.heap H locs → lv_has ls 4 [(3, .int y0)] → W p l e rX10_roundOf s m args below meth c H locs 0 0 Q (F0 m 18 ls [])) ∧ (∀ z0, z = Sum.inr z0 → ∀ (H : Heap) (locs : List Loc) (ls : Array Slot), va_P D vwCl (w_X10_roundOf cI cB cZ a_t a_t_child a_t_father a_t_husband a_t_wife s_t_size r_t_child r_t_father r_t_husband r_t_wife) H → va_D A (w_X10_roundOf cI cB cZ a_t a_t_child a_t_father a_t_husband a_t_wife s_t_size r_t_child r_t_father r_t_husband r_t_wife) → va_S A s.heap H locs → lv_has ls 4 [] → W p l e rX10_roundOf s m args below meth c H locs 0 0 Q (F0 m 26 ls [])))) {H : Heap} {locs : List Loc} {ls : Array Slot} (hP : va_P D vwCl (w_X10_roundOf cI cB cZ a_t a_t_child a_t_father a_t_husband a_t_wife s_t_size r_t_child r_t_father r_t_husband r_t_wife) H) (hD : va_D A (w_X10_roundOf cI cB cZ a_t a_t_child a_t_father a_t_husband a_t_wife s_t_size r_t_child r_t_father r_t_husband r_t_wife)) (hS : va_S A s.heap H locs) (hl : lv_has ls 4 [(0, .ref a_t), (1, .int x1), (2, .int x2), (3, .int x3)]) : W p l e rX10_roundOf s m args below meth c H locs 0 0 Q (F0 m 2 ls []) := by
  obtain ⟨⟨hx, hb, hml, hown, hts⟩, hK, hN, hA⟩ := C
  have C : jCx p s m args c cX10_roundOf 4 gX10_roundOf RX10 G D (jT cI cB cZ) A := ⟨⟨hx, hb, hml, hown, hts⟩, hK, hN, hA⟩
  unfold f_X10_roundOf_b2 at hf
  refine lv_iload_n hx hb dX10_roundOf_2 rfl (lv_at hl 3 rfl) ?_
  refine lv_bipush (v := (15 : Int32)) hx hb dX10_roundOf_3 (by decide) ?_
  refine lv_icmp_gt (tgt := 26) hx hb dX10_roundOf_5 (by decide) (fun c1 => ?_) (fun c1 => ?_)
  · replace hf := jif_t c1 hf
    have ho := Option.some.inj hf
    exact ((K.2 _ ho.symm).2 _ rfl) _ _ _ hP hD hS (lv_sub hl [] rfl)
  · replace hf := jif_f c1 hf
    refine lv_aload_n hx hb dX10_roundOf_8 rfl (lv_at hl 0 rfl) ?_
    refine lv_iload_n hx hb dX10_roundOf_9 rfl (lv_at hl 1 rfl) ?_
    refine lv_iload_n hx hb dX10_roundOf_10 rfl (lv_at hl 2 rfl) ?_
    refine lv_iload_n hx hb dX10_roundOf_11 rfl (lv_at hl 3 rfl) ?_
    obtain ⟨r2, hgr2, hf⟩ := jM_some hf
    refine jcV_i0 (As := [.int x1, .int x2, .int x3]) (rest := []) ⟨hx, hb, hml, hown, hts⟩ hK hN hA (c_X10_comesAgain l G D cI cB cZ a_t a_t_child a_t_father a_t_husband a_t_wife s_t_size r_t_child r_t_father r_t_husband r_t_wife x1 x2 x3 hgr2) (cwV 3 hts (wG_V k_ml_X10_83 k_im_X10_comesAgain k_se_X10_comesAgain k_in_X10 k_co_X10_comesAgain) rfl rfl rfl hd_X10_comesAgain ⟨Nat.le_of_ble_eq_true rfl, Nat.le_of_ble_eq_true rfl⟩) hP hD hS [0, 1, 2, 3, 4] rfl rfl rfl (ci := 9) rfl 0 rfl rfl rfl hl.1 rfl (Nat.le_of_ble_eq_true rfl) dX10_roundOf_12 ⟨Nat.le_of_ble_eq_true rfl, Nat.le_of_ble_eq_true rfl⟩ (fun H locs hP hD hS => ?_)
    refine lv_if_eq (tgt := 20) hx hb dX10_roundOf_15 (by decide) (fun c3 => ?_) (fun c3 => ?_)
    · replace hf := jif_t c3 hf
      refine lv_iinc (v := (x3 + 1)) (lv' := [(3, .int (x3 + 1)), (0, .ref a_t), (1, .int x1), (2, .int x2)]) hx hb dX10_roundOf_20 hl (k := 3) rfl (by first | rfl | decide) (by decide) rfl (fun ls hl => ?_)
      refine lv_goto (tgt := 2) hx hb dX10_roundOf_23 (by decide) ?_
      have ho := Option.some.inj hf
      exact K.1 _ ho.symm _ _ _ hP hD hS (lv_sub hl [1, 2, 3, 0] rfl)
    · replace hf := jif_f c3 hf
      have ho := Option.some.inj hf
      exact ((K.2 _ ho.symm).1 _ rfl) _ _ _ hP hD hS (lv_sub hl [3] rfl)
def f_X10_roundOf_l2 (s_t_size : Int32) (r_t_child r_t_father r_t_husband r_t_wife : jA) (x1 x2 x3 : Int32) : Option ((Int32) ⊕ ((Unit))) :=
  jI (fun z => f_X10_roundOf_b2 s_t_size r_t_child r_t_father r_t_husband r_t_wife x1 x2 z) jF x3
set_option maxHeartbeats 4000000 in
set_option maxRecDepth 100000 in
theorem t_X10_roundOf_l2 {p : Program} {l : Launch} {e : Env} {s : State} {m : MethodId} {args : Array Value} {below : List Frame} {meth : Method} {c : Code} {A : Nat → Prop} {Q : State → Prop} (G : jGt) (D : va_G) (cI cB cZ : ClassId) (a_t a_t_child a_t_father a_t_husband a_t_wife : Nat) (s_t_size : Int32) (r_t_child r_t_father r_t_husband r_t_wife : jA) (x1 x2 : Int32) (C : jCx p s m args c cX10_roundOf 4 gX10_roundOf RX10 G D (jT cI cB cZ) A) : ∀ (n : Nat) (x3 : Int32) {eo : (Int32) ⊕ ((Unit))}, jI (fun z => f_X10_roundOf_b2 s_t_size r_t_child r_t_father r_t_husband r_t_wife x1 x2 z) n x3 = some eo → ((∀ y0, eo = Sum.inl y0 → ∀ (H : Heap) (locs : List Loc) (ls : Array Slot), va_P D vwCl (w_X10_roundOf cI cB cZ a_t a_t_child a_t_father a_t_husband a_t_wife s_t_size r_t_child r_t_father r_t_husband r_t_wife) H → va_D A (w_X10_roundOf cI cB cZ a_t a_t_child a_t_father a_t_husband a_t_wife s_t_size r_t_child r_t_father r_t_husband r_t_wife) → va_S A s.heap H locs → lv_has ls 4 [(3, .int y0)] → W p l e rX10_roundOf s m args below meth c H locs 0 0 Q (F0 m 18 ls [])) ∧ (∀ z0, eo = Sum.inr z0 → ∀ (H : Heap) (locs : List Loc) (ls : Array Slot), va_P D vwCl (w_X10_roundOf cI cB cZ a_t a_t_child a_t_father a_t_husband a_t_wife s_t_size r_t_child r_t_father r_t_husband r_t_wife) H → va_D A (w_X10_roundOf cI cB cZ a_t a_t_child a_t_father a_t_husband a_t_wife s_t_size r_t_child r_t_father r_t_husband r_t_wife) → va_S A s.heap H locs → lv_has ls 4 [] → W p l e rX10_roundOf s m args below meth c H locs 0 0 Q (F0 m 26 ls []))) → ∀ (H : Heap) (locs : List Loc) (ls : Array Slot), va_P D vwCl (w_X10_roundOf cI cB cZ a_t a_t_child a_t_father a_t_husband a_t_wife s_t_size r_t_child r_t_father r_t_husband r_t_wife) H → va_D A (w_X10_roundOf cI cB cZ a_t a_t_child a_t_father a_t_husband a_t_wife s_t_size r_t_child r_t_father r_t_husband r_t_wife) → va_S A s.heap H locs → lv_has ls 4 [(0, .ref a_t), (1, .int x1), (2, .int x2), (3, .int x3)] → W p l e rX10_roundOf s m args below meth c H locs 0 0 Q (F0 m 2 ls []) := by
  intro n
  induction n with
  | zero =>
    intro x3 eo hf
    exact (jI_zero hf).elim
  | succ n ih =>
    intro x3 eo hf K H locs ls hP hD hS hl
    obtain ⟨o, hb1, ho⟩ := jI_some hf
    rcases ho with ⟨z, rfl, hf2⟩ | rfl
    · exact t_X10_roundOf_b2 G D cI cB cZ a_t a_t_child a_t_father a_t_husband a_t_wife s_t_size r_t_child r_t_father r_t_husband r_t_wife x1 x2 x3 C hb1 ⟨fun z2 hz H locs ls hP hD hS hl => by cases hz; exact ih z hf2 K H locs ls hP hD hS hl, fun z2 hz => by cases hz⟩ hP hD hS hl
    · exact t_X10_roundOf_b2 G D cI cB cZ a_t a_t_child a_t_father a_t_husband a_t_wife s_t_size r_t_child r_t_father r_t_husband r_t_wife x1 x2 x3 C hb1 ⟨fun z2 hz => (by cases hz), fun z2 hz => by cases hz; exact K⟩ hP hD hS hl
def f_X10_roundOf (s_t_size : Int32) (r_t_child r_t_father r_t_husband r_t_wife : jA) (x1 x2 : Int32) : Option (Int32) :=
  jM (f_X10_roundOf_l2 s_t_size r_t_child r_t_father r_t_husband r_t_wife x1 x2 (1 : Int32)) fun e4 =>
  Sum.elim (fun y5 =>
  some y5) (fun w6 =>
  some (-1 : Int32)) e4
set_option maxHeartbeats 4000000 in
set_option maxRecDepth 100000 in
theorem t_X10_roundOf {p : Program} {l : Launch} {e : Env} {s : State} {m : MethodId} {args : Array Value} {below : List Frame} {meth : Method} {c : Code} {A : Nat → Prop} {Q : State → Prop} (G : jGt) (D : va_G) (cI cB cZ : ClassId) (a_t a_t_child a_t_father a_t_husband a_t_wife : Nat) (s_t_size : Int32) (r_t_child r_t_father r_t_husband r_t_wife : jA) (x1 x2 : Int32) (C : jCx p s m args c cX10_roundOf 4 gX10_roundOf RX10 G D (jT cI cB cZ) A) {o : Int32} (hf : f_X10_roundOf s_t_size r_t_child r_t_father r_t_husband r_t_wife x1 x2 = some o) (K : ∀ (H : Heap) (locs : List Loc) (pc : Nat) (ls : Array Slot), va_P D vwCl (w_X10_roundOf cI cB cZ a_t a_t_child a_t_father a_t_husband a_t_wife s_t_size r_t_child r_t_father r_t_husband r_t_wife) H → va_S A s.heap H locs → decode cX10_roundOf pc = .ok (.ireturn, 1) → W p l e rX10_roundOf s m args below meth c H locs 0 0 Q (F0 m pc ls [.int o])) {H : Heap} {locs : List Loc} {ls : Array Slot} (hP : va_P D vwCl (w_X10_roundOf cI cB cZ a_t a_t_child a_t_father a_t_husband a_t_wife s_t_size r_t_child r_t_father r_t_husband r_t_wife) H) (hD : va_D A (w_X10_roundOf cI cB cZ a_t a_t_child a_t_father a_t_husband a_t_wife s_t_size r_t_child r_t_father r_t_husband r_t_wife)) (hS : va_S A s.heap H locs) (hl : lv_has ls 4 [(0, .ref a_t), (1, .int x1), (2, .int x2)]) : W p l e rX10_roundOf s m args below meth c H locs 0 0 Q (F0 m 0 ls []) := by
  obtain ⟨⟨hx, hb, hml, hown, hts⟩, hK, hN, hA⟩ := C
  have C : jCx p s m args c cX10_roundOf 4 gX10_roundOf RX10 G D (jT cI cB cZ) A := ⟨⟨hx, hb, hml, hown, hts⟩, hK, hN, hA⟩
  unfold f_X10_roundOf at hf
  refine lv_iconst (v := (1 : Int32)) hx hb dX10_roundOf_0 (by decide) ?_
  refine lv_istore_n (lv' := [(3, .int (1 : Int32)), (0, .ref a_t), (1, .int x1), (2, .int x2)]) hx hb dX10_roundOf_1 rfl hl (by decide) rfl (fun ls hl => ?_)
  obtain ⟨e4, hg4, hf⟩ := jM_some hf
  refine t_X10_roundOf_l2 G D cI cB cZ a_t a_t_child a_t_father a_t_husband a_t_wife s_t_size r_t_child r_t_father r_t_husband r_t_wife x1 x2 C jF (1 : Int32) hg4 ?_ _ _ _ hP hD hS (lv_sub hl [1, 2, 3, 0] rfl)
  refine ⟨fun y5 hy => ?_, fun w6 hy => ?_⟩
  · replace hf := jE_l hy hf
    intro H locs ls hP hD hS hl
    refine lv_iload_n hx hb dX10_roundOf_18 rfl (lv_at hl 0 rfl) ?_
    have ho := Option.some.inj hf
    subst ho
    exact K _ _ _ _ hP hS dX10_roundOf_19
  · replace hf := jE_r hy hf
    intro H locs ls hP hD hS hl
    refine lv_iconst (v := (-1 : Int32)) hx hb dX10_roundOf_26 (by decide) ?_
    have ho := Option.some.inj hf
    subst ho
    exact K _ _ _ _ hP hS dX10_roundOf_27
set_option maxHeartbeats 4000000 in
set_option maxRecDepth 100000 in
theorem c_X10_roundOf (l : Launch) (G : jGt) (D : va_G) (cI cB cZ : ClassId) (a_t a_t_child a_t_father a_t_husband a_t_wife : Nat) (s_t_size : Int32) (r_t_child r_t_father r_t_husband r_t_wife : jA) (x1 x2 : Int32) {o : Int32} (hf : f_X10_roundOf s_t_size r_t_child r_t_father r_t_husband r_t_wife x1 x2 = some o) : jMi l yX10_roundOf gX10_roundOf rX10_roundOf G D (jT cI cB cZ) [.ref a_t, .int x1, .int x2] (w_X10_roundOf cI cB cZ a_t a_t_child a_t_father a_t_husband a_t_wife s_t_size r_t_child r_t_father r_t_husband r_t_wife) (w_X10_roundOf cI cB cZ a_t a_t_child a_t_father a_t_husband a_t_wife s_t_size r_t_child r_t_father r_t_husband r_t_wife) o := by
  refine jmk_i RX10 rfl (by decide +kernel) rfl (Nat.le_of_ble_eq_true rfl) rfl ?_
  intro p e s m args below meth c ls A Q C hP hD hS hl K
  exact t_X10_roundOf G D cI cB cZ a_t a_t_child a_t_father a_t_husband a_t_wife s_t_size r_t_child r_t_father r_t_husband r_t_wife x1 x2 C hf K hP hD hS hl
abbrev rJ6_bitCount_0f7a4 : Room := { frames := 0, cells := 0, slots := 0, locals := 0 }
abbrev gJ6_bitCount_0f7a4 : List Cond := wG yJ6_bitCount_0f7a4 cJ6_bitCount_0f7a4 1 (some .int)
def f_J6_bitCount_0f7a4 (x0 : Int32) : Option (Int32) :=
  jV (x0 - (((x0.toUInt32 >>> ((1 : Int32).toUInt32 &&& Int32.toUInt32 31)).toInt32) &&& (1431655765 : Int32))) fun v1 =>
  jV ((v1 &&& (858993459 : Int32)) + (((v1.toUInt32 >>> ((2 : Int32).toUInt32 &&& Int32.toUInt32 31)).toInt32) &&& (858993459 : Int32))) fun v2 =>
  jV ((v2 + ((v2.toUInt32 >>> ((4 : Int32).toUInt32 &&& Int32.toUInt32 31)).toInt32)) &&& (252645135 : Int32)) fun v3 =>
  jV (v3 + ((v3.toUInt32 >>> ((8 : Int32).toUInt32 &&& Int32.toUInt32 31)).toInt32)) fun v4 =>
  jV (v4 + ((v4.toUInt32 >>> ((16 : Int32).toUInt32 &&& Int32.toUInt32 31)).toInt32)) fun v5 =>
  some (v5 &&& (63 : Int32))
set_option maxHeartbeats 4000000 in
set_option maxRecDepth 100000 in
theorem t_J6_bitCount_0f7a4 {p : Program} {l : Launch} {e : Env} {s : State} {m : MethodId} {args : Array Value} {below : List Frame} {meth : Method} {c : Code} {A : Nat → Prop} {Q : State → Prop} (G : jGt) (D : va_G) (cI cB cZ : ClassId) (x0 : Int32) (C : jCx p s m args c cJ6_bitCount_0f7a4 1 gJ6_bitCount_0f7a4 RJ6 G D (jT cI cB cZ) A) {o : Int32} (hf : f_J6_bitCount_0f7a4 x0 = some o) (K : ∀ (H : Heap) (locs : List Loc) (pc : Nat) (ls : Array Slot), va_P D vwCl [] H → va_S A s.heap H locs → decode cJ6_bitCount_0f7a4 pc = .ok (.ireturn, 1) → W p l e rJ6_bitCount_0f7a4 s m args below meth c H locs 0 0 Q (F0 m pc ls [.int o])) {H : Heap} {locs : List Loc} {ls : Array Slot} (hP : va_P D vwCl [] H) (hD : va_D A []) (hS : va_S A s.heap H locs) (hl : lv_has ls 1 [(0, .int x0)]) : W p l e rJ6_bitCount_0f7a4 s m args below meth c H locs 0 0 Q (F0 m 0 ls []) := by
  obtain ⟨⟨hx, hb, hml, hown, hts⟩, hK, hN, hA⟩ := C
  have C : jCx p s m args c cJ6_bitCount_0f7a4 1 gJ6_bitCount_0f7a4 RJ6 G D (jT cI cB cZ) A := ⟨⟨hx, hb, hml, hown, hts⟩, hK, hN, hA⟩
  unfold f_J6_bitCount_0f7a4 at hf
  refine lv_iload_n hx hb dJ6_bitCount_0f7a4_0 rfl (lv_at hl 0 rfl) ?_
  refine lv_iload_n hx hb dJ6_bitCount_0f7a4_1 rfl (lv_at hl 0 rfl) ?_
  refine lv_iconst (v := (1 : Int32)) hx hb dJ6_bitCount_0f7a4_2 (by decide) ?_
  refine lv_iushr hx hb dJ6_bitCount_0f7a4_3 rfl ?_
  refine lv_ldcw (v := (1431655765 : Int32)) hx hb hown (hts _ (wG_in k_kc_J6_265 rfl)) dJ6_bitCount_0f7a4_4 ?_
  refine lv_iand hx hb dJ6_bitCount_0f7a4_7 ?_
  refine lv_isub hx hb dJ6_bitCount_0f7a4_8 ?_
  obtain ⟨v1, hv1, hf⟩ := jV_some hf
  refine jtop hv1 ?_
  refine lv_istore_n (lv' := [(0, .int v1)]) hx hb dJ6_bitCount_0f7a4_9 rfl hl (by decide) rfl (fun ls hl => ?_)
  refine lv_iload_n hx hb dJ6_bitCount_0f7a4_10 rfl (lv_at hl 0 rfl) ?_
  refine lv_ldcw (v := (858993459 : Int32)) hx hb hown (hts _ (wG_in k_kc_J6_266 rfl)) dJ6_bitCount_0f7a4_11 ?_
  refine lv_iand hx hb dJ6_bitCount_0f7a4_14 ?_
  refine lv_iload_n hx hb dJ6_bitCount_0f7a4_15 rfl (lv_at hl 0 rfl) ?_
  refine lv_iconst (v := (2 : Int32)) hx hb dJ6_bitCount_0f7a4_16 (by decide) ?_
  refine lv_iushr hx hb dJ6_bitCount_0f7a4_17 rfl ?_
  refine lv_ldcw (v := (858993459 : Int32)) hx hb hown (hts _ (wG_in k_kc_J6_266 rfl)) dJ6_bitCount_0f7a4_18 ?_
  refine lv_iand hx hb dJ6_bitCount_0f7a4_21 ?_
  refine lv_iadd hx hb dJ6_bitCount_0f7a4_22 ?_
  obtain ⟨v2, hv2, hf⟩ := jV_some hf
  refine jtop hv2 ?_
  refine lv_istore_n (lv' := [(0, .int v2)]) hx hb dJ6_bitCount_0f7a4_23 rfl hl (by decide) rfl (fun ls hl => ?_)
  refine lv_iload_n hx hb dJ6_bitCount_0f7a4_24 rfl (lv_at hl 0 rfl) ?_
  refine lv_iload_n hx hb dJ6_bitCount_0f7a4_25 rfl (lv_at hl 0 rfl) ?_
  refine lv_iconst (v := (4 : Int32)) hx hb dJ6_bitCount_0f7a4_26 (by decide) ?_
  refine lv_iushr hx hb dJ6_bitCount_0f7a4_27 rfl ?_
  refine lv_iadd hx hb dJ6_bitCount_0f7a4_28 ?_
  refine lv_ldcw (v := (252645135 : Int32)) hx hb hown (hts _ (wG_in k_kc_J6_267 rfl)) dJ6_bitCount_0f7a4_29 ?_
  refine lv_iand hx hb dJ6_bitCount_0f7a4_32 ?_
  obtain ⟨v3, hv3, hf⟩ := jV_some hf
  refine jtop hv3 ?_
  refine lv_istore_n (lv' := [(0, .int v3)]) hx hb dJ6_bitCount_0f7a4_33 rfl hl (by decide) rfl (fun ls hl => ?_)
  refine lv_iload_n hx hb dJ6_bitCount_0f7a4_34 rfl (lv_at hl 0 rfl) ?_
  refine lv_iload_n hx hb dJ6_bitCount_0f7a4_35 rfl (lv_at hl 0 rfl) ?_
  refine lv_bipush (v := (8 : Int32)) hx hb dJ6_bitCount_0f7a4_36 (by decide) ?_
  refine lv_iushr hx hb dJ6_bitCount_0f7a4_38 rfl ?_
  refine lv_iadd hx hb dJ6_bitCount_0f7a4_39 ?_
  obtain ⟨v4, hv4, hf⟩ := jV_some hf
  refine jtop hv4 ?_
  refine lv_istore_n (lv' := [(0, .int v4)]) hx hb dJ6_bitCount_0f7a4_40 rfl hl (by decide) rfl (fun ls hl => ?_)
  refine lv_iload_n hx hb dJ6_bitCount_0f7a4_41 rfl (lv_at hl 0 rfl) ?_
  refine lv_iload_n hx hb dJ6_bitCount_0f7a4_42 rfl (lv_at hl 0 rfl) ?_
  refine lv_bipush (v := (16 : Int32)) hx hb dJ6_bitCount_0f7a4_43 (by decide) ?_
  refine lv_iushr hx hb dJ6_bitCount_0f7a4_45 rfl ?_
  refine lv_iadd hx hb dJ6_bitCount_0f7a4_46 ?_
  obtain ⟨v5, hv5, hf⟩ := jV_some hf
  refine jtop hv5 ?_
  refine lv_istore_n (lv' := [(0, .int v5)]) hx hb dJ6_bitCount_0f7a4_47 rfl hl (by decide) rfl (fun ls hl => ?_)
  refine lv_iload_n hx hb dJ6_bitCount_0f7a4_48 rfl (lv_at hl 0 rfl) ?_
  refine lv_bipush (v := (63 : Int32)) hx hb dJ6_bitCount_0f7a4_49 (by decide) ?_
  refine lv_iand hx hb dJ6_bitCount_0f7a4_51 ?_
  have ho := Option.some.inj hf
  subst ho
  exact K _ _ _ _ hP hS dJ6_bitCount_0f7a4_52
set_option maxHeartbeats 4000000 in
set_option maxRecDepth 100000 in
theorem c_J6_bitCount_0f7a4 (l : Launch) (G : jGt) (D : va_G) (cI cB cZ : ClassId) (x0 : Int32) {o : Int32} (hf : f_J6_bitCount_0f7a4 x0 = some o) : jMi l yJ6_bitCount_0f7a4 gJ6_bitCount_0f7a4 rJ6_bitCount_0f7a4 G D (jT cI cB cZ) [.int x0] [] [] o := by
  refine jmk_i RJ6 rfl (by decide +kernel) rfl (Nat.le_of_ble_eq_true rfl) rfl ?_
  intro p e s m args below meth c ls A Q C hP hD hS hl K
  exact t_J6_bitCount_0f7a4 G D cI cB cZ x0 C hf K hP hD hS hl
abbrev rX10_sameHalf : Room := { frames := 0, cells := 0, slots := 0, locals := 0 }
abbrev gX10_sameHalf : List Cond := wG yX10_sameHalf cX10_sameHalf 3 (some .boolean)
def f_X10_sameHalf (x0 x1 x2 : Int32) : Option (Int32) :=
  if ((x0 >>> (x1 &&& 31)) &&& (1 : Int32)) = ((x0 >>> (x2 &&& 31)) &&& (1 : Int32)) then
  some (1 : Int32)
  else
  some (0 : Int32)
set_option maxHeartbeats 4000000 in
set_option maxRecDepth 100000 in
theorem t_X10_sameHalf {p : Program} {l : Launch} {e : Env} {s : State} {m : MethodId} {args : Array Value} {below : List Frame} {meth : Method} {c : Code} {A : Nat → Prop} {Q : State → Prop} (G : jGt) (D : va_G) (cI cB cZ : ClassId) (x0 x1 x2 : Int32) (C : jCx p s m args c cX10_sameHalf 3 gX10_sameHalf RX10 G D (jT cI cB cZ) A) {o : Int32} (hf : f_X10_sameHalf x0 x1 x2 = some o) (K : ∀ (H : Heap) (locs : List Loc) (pc : Nat) (ls : Array Slot), (o = 0 ∨ o = 1) → va_P D vwCl [] H → va_S A s.heap H locs → decode cX10_sameHalf pc = .ok (.ireturn, 1) → W p l e rX10_sameHalf s m args below meth c H locs 0 0 Q (F0 m pc ls [.int o])) {H : Heap} {locs : List Loc} {ls : Array Slot} (hP : va_P D vwCl [] H) (hD : va_D A []) (hS : va_S A s.heap H locs) (hl : lv_has ls 3 [(0, .int x0), (1, .int x1), (2, .int x2)]) : W p l e rX10_sameHalf s m args below meth c H locs 0 0 Q (F0 m 0 ls []) := by
  obtain ⟨⟨hx, hb, hml, hown, hts⟩, hK, hN, hA⟩ := C
  have C : jCx p s m args c cX10_sameHalf 3 gX10_sameHalf RX10 G D (jT cI cB cZ) A := ⟨⟨hx, hb, hml, hown, hts⟩, hK, hN, hA⟩
  unfold f_X10_sameHalf at hf
  refine lv_iload_n hx hb dX10_sameHalf_0 rfl (lv_at hl 0 rfl) ?_
  refine lv_iload_n hx hb dX10_sameHalf_1 rfl (lv_at hl 1 rfl) ?_
  refine lv_ishr hx hb dX10_sameHalf_2 ?_
  refine lv_iconst (v := (1 : Int32)) hx hb dX10_sameHalf_3 (by decide) ?_
  refine lv_iand hx hb dX10_sameHalf_4 ?_
  refine lv_iload_n hx hb dX10_sameHalf_5 rfl (lv_at hl 0 rfl) ?_
  refine lv_iload_n hx hb dX10_sameHalf_6 rfl (lv_at hl 2 rfl) ?_
  refine lv_ishr hx hb dX10_sameHalf_7 ?_
  refine lv_iconst (v := (1 : Int32)) hx hb dX10_sameHalf_8 (by decide) ?_
  refine lv_iand hx hb dX10_sameHalf_9 ?_
  refine lv_icmp_ne (tgt := 17) hx hb dX10_sameHalf_10 (by decide) (fun c1 => ?_) (fun c1 => ?_)
  · replace hf := jif_f c1 hf
    refine lv_iconst (v := (0 : Int32)) hx hb dX10_sameHalf_17 (by decide) ?_
    have ho := Option.some.inj hf
    subst ho
    exact K _ _ _ _ (Or.inl rfl) hP hS dX10_sameHalf_18
  · replace hf := jif_t c1 hf
    refine lv_iconst (v := (1 : Int32)) hx hb dX10_sameHalf_13 (by decide) ?_
    refine lv_goto (tgt := 18) hx hb dX10_sameHalf_14 (by decide) ?_
    have ho := Option.some.inj hf
    subst ho
    exact K _ _ _ _ (Or.inr rfl) hP hS dX10_sameHalf_18
set_option maxHeartbeats 4000000 in
set_option maxRecDepth 100000 in
theorem c_X10_sameHalf (l : Launch) (G : jGt) (D : va_G) (cI cB cZ : ClassId) (x0 x1 x2 : Int32) {o : Int32} (hf : f_X10_sameHalf x0 x1 x2 = some o) : jMi l yX10_sameHalf gX10_sameHalf rX10_sameHalf G D (jT cI cB cZ) [.int x0, .int x1, .int x2] [] [] o := by
  refine jmk_z RX10 rfl (by decide +kernel) rfl (Nat.le_of_ble_eq_true rfl) rfl ?_
  intro p e s m args below meth c ls A Q C hP hD hS hl K
  exact t_X10_sameHalf G D cI cB cZ x0 x1 x2 C hf K hP hD hS hl
abbrev rX10_halvesBy : Room := { frames := 2, cells := 0, slots := 0, locals := 43 }
abbrev gX10_halvesBy : List Cond := wG yX10_halvesBy cX10_halvesBy 8 (some .boolean)
def w_X10_halvesBy (cI cB cZ : ClassId) (a_t a_t_child a_t_husband a_t_wife : Nat) (u_t_father : Value) (s_t_size : Int32) (r_t_child r_t_husband r_t_wife : jA) : va_W := [(a_t, .inr (9, (oX10 (.ref a_t_wife) (.ref a_t_child) (.ref a_t_husband) u_t_father s_t_size))), (a_t_child, .inl (cI, r_t_child.1, .inl r_t_child.2)), (a_t_husband, .inl (cI, r_t_husband.1, .inl r_t_husband.2)), (a_t_wife, .inl (cI, r_t_wife.1, .inl r_t_wife.2))]
def f_X10_halvesBy_b41 (s_t_size : Int32) (r_t_child r_t_husband r_t_wife : jA) (x2 x3 x4 x5 : Int32) : Option ((Int32) ⊕ ((Unit) ⊕ ((Unit)))) :=
  if s_t_size ≤ x5 then
  some (Sum.inr (Sum.inr ()))
  else
  jM (f_X11_entry r_t_wife x5) fun r6 =>
  jM (f_X10_sameHalf x2 x5 r6) fun r7 =>
  jM (f_X10_childOf s_t_size r_t_child r_t_husband x3 x5) fun r8 =>
  jM (f_X10_sameHalf x2 x5 r8) fun r9 =>
  if r7 = x4 then
  if r9 = x4 then
  some (Sum.inr (Sum.inl ()))
  else
  some (Sum.inl (x5 + 1))
  else
  some (Sum.inr (Sum.inl ()))
set_option maxHeartbeats 4000000 in
set_option maxRecDepth 100000 in
theorem t_X10_halvesBy_b41 {p : Program} {l : Launch} {e : Env} {s : State} {m : MethodId} {args : Array Value} {below : List Frame} {meth : Method} {c : Code} {A : Nat → Prop} {Q : State → Prop} (G : jGt) (D : va_G) (cI cB cZ : ClassId) (a_t a_t_child a_t_husband a_t_wife : Nat) (u_t_father : Value) (s_t_size : Int32) (r_t_child r_t_husband r_t_wife : jA) (x2 x3 x4 x5 : Int32) (C : jCx p s m args c cX10_halvesBy 8 gX10_halvesBy RX10 G D (jT cI cB cZ) A) {o : (Int32) ⊕ ((Unit) ⊕ ((Unit)))} (hf : f_X10_halvesBy_b41 s_t_size r_t_child r_t_husband r_t_wife x2 x3 x4 x5 = some o) (K : (∀ z, o = Sum.inl z → ∀ (H : Heap) (locs : List Loc) (ls : Array Slot), va_P D vwCl (w_X10_halvesBy cI cB cZ a_t a_t_child a_t_husband a_t_wife u_t_father s_t_size r_t_child r_t_husband r_t_wife) H → va_D A (w_X10_halvesBy cI cB cZ a_t a_t_child a_t_husband a_t_wife u_t_father s_t_size r_t_child r_t_husband r_t_wife) → va_S A s.heap H locs → lv_has ls 8 [(0, .ref a_t), (2, .int x2), (3, .int x3), (4, .int x4), (5, .int z)] → W p l e rX10_halvesBy s m args below meth c H locs 0 0 Q (F0 m 41 ls [])) ∧ (∀ z, o = Sum.inr z → (∀ y0, z = Sum.inl y0 → ∀ (H : Heap) (locs : List Loc) (ls : Array Slot), va_P D vwCl (w_X10_halvesBy cI cB cZ a_t a_t_child a_t_husband a_t_wife u_t_father s_t_size r_t_child r_t_husband r_t_wife) H → va_D A (w_X10_halvesBy cI cB cZ a_t a_t_child a_t_husband a_t_wife u_t_father s_t_size r_t_child r_t_husband r_t_wife) → va_S A s.heap H locs → lv_has ls 8 [] → W p l e rX10_halvesBy s m args below meth c H locs 0 0 Q (F0 m 96 ls [])) ∧ (∀ z0, z = Sum.inr z0 → ∀ (H : Heap) (locs : List Loc) (ls : Array Slot), va_P D vwCl (w_X10_halvesBy cI cB cZ a_t a_t_child a_t_husband a_t_wife u_t_father s_t_size r_t_child r_t_husband r_t_wife) H → va_D A (w_X10_halvesBy cI cB cZ a_t a_t_child a_t_husband a_t_wife u_t_father s_t_size r_t_child r_t_husband r_t_wife) → va_S A s.heap H locs → lv_has ls 8 [] → W p l e rX10_halvesBy s m args below meth c H locs 0 0 Q (F0 m 104 ls [])))) {H : Heap} {locs : List Loc} {ls : Array Slot} (hP : va_P D vwCl (w_X10_halvesBy cI cB cZ a_t a_t_child a_t_husband a_t_wife u_t_father s_t_size r_t_child r_t_husband r_t_wife) H) (hD : va_D A (w_X10_halvesBy cI cB cZ a_t a_t_child a_t_husband a_t_wife u_t_father s_t_size r_t_child r_t_husband r_t_wife)) (hS : va_S A s.heap H locs) (hl : lv_has ls 8 [(0, .ref a_t), (2, .int x2), (3, .int x3), (4, .int x4), (5, .int x5)]) : W p l e rX10_halvesBy s m args below meth c H locs 0 0 Q (F0 m 41 ls []) := by
  obtain ⟨⟨hx, hb, hml, hown, hts⟩, hK, hN, hA⟩ := C
  have C : jCx p s m args c cX10_halvesBy 8 gX10_halvesBy RX10 G D (jT cI cB cZ) A := ⟨⟨hx, hb, hml, hown, hts⟩, hK, hN, hA⟩
  unfold f_X10_halvesBy_b41 at hf
  refine lv_iload hx hb dX10_halvesBy_41 (lv_at hl 4 rfl) ?_
  refine lv_aload_n hx hb dX10_halvesBy_43 rfl (lv_at hl 0 rfl) ?_
  refine va_get (D := D) (ci := 9) (v := .int s_t_size) (C := RX10) (T := TX10) (N := 5) hx hb hts iw_X10 hown hK hP 0 rfl rfl 4 (by decide) (hts _ (wG_in k_fl_X10_30 rfl)) (fun _ h9 => h9) rfl dX10_halvesBy_44 ?_
  refine lv_icmp_ge (tgt := 104) hx hb dX10_halvesBy_47 (by decide) (fun c5 => ?_) (fun c5 => ?_)
  · replace hf := jif_t c5 hf
    have ho := Option.some.inj hf
    exact ((K.2 _ ho.symm).2 _ rfl) _ _ _ hP hD hS (lv_sub hl [] rfl)
  · replace hf := jif_f c5 hf
    refine lv_iload_n hx hb dX10_halvesBy_50 rfl (lv_at hl 1 rfl) ?_
    refine lv_iload hx hb dX10_halvesBy_51 (lv_at hl 4 rfl) ?_
    refine lv_aload_n hx hb dX10_halvesBy_53 rfl (lv_at hl 0 rfl) ?_
    refine va_get (D := D) (ci := 9) (v := .ref a_t_wife) (C := RX10) (T := TX10) (N := 5) hx hb hts iw_X10 hown hK hP 0 rfl rfl 0 (by decide) (hts _ (wG_in k_fl_X10_9 rfl)) (fun _ h9 => h9) rfl dX10_halvesBy_54 ?_
    refine lv_iload hx hb dX10_halvesBy_57 (lv_at hl 4 rfl) ?_
    obtain ⟨r6, hgr6, hf⟩ := jM_some hf
    refine jcN_i0 (As := [.ref a_t_wife, .int x5]) (rest := [.int x5, .int x2]) ⟨hx, hb, hml, hown, hts⟩ hK hN hA (c_X11_entry l G D cI cB cZ a_t_wife r_t_wife x5 hgr6) ⟨va_cnB 2 hts (wG_good k_co_X11_entry) rfl rfl rfl (jN_l nl_X10_40 hN) (hts _ (wG_in k_in_X11 rfl)) hd_X11_entry.2 ⟨Nat.le_of_ble_eq_true rfl, Nat.le_of_ble_eq_true rfl⟩, hts _ (wG_in k_st_X11_entry rfl), trivial⟩ hP hD hS [3] rfl rfl rfl rfl hl.1 rfl (Nat.le_of_ble_eq_true rfl) dX10_halvesBy_59 ⟨Nat.le_of_ble_eq_true rfl, Nat.le_of_ble_eq_true rfl⟩ (fun H locs hP hD hS => ?_)
    obtain ⟨r7, hgr7, hf⟩ := jM_some hf
    refine jcS_i0 (As := [.int x2, .int x5, .int r6]) (rest := []) ⟨hx, hb, hml, hown, hts⟩ hK hN hA (c_X10_sameHalf l G D cI cB cZ x2 x5 r6 hgr7) (va_cwS 3 hts (wG_S k_ml_X10_96 k_st_X10_sameHalf k_in_X10 k_co_X10_sameHalf) rfl rfl rfl hd_X10_sameHalf.2 ⟨Nat.le_of_ble_eq_true rfl, Nat.le_of_ble_eq_true rfl⟩) hP hD hS [] rfl rfl rfl rfl hl.1 rfl (Nat.le_of_ble_eq_true rfl) dX10_halvesBy_62 ⟨Nat.le_of_ble_eq_true rfl, Nat.le_of_ble_eq_true rfl⟩ (fun H locs hP hD hS => ?_)
    refine lv_istore (lv' := [(6, .int r7), (0, .ref a_t), (2, .int x2), (3, .int x3), (4, .int x4), (5, .int x5)]) hx hb dX10_halvesBy_65 hl (by decide) rfl (fun ls hl => ?_)
    refine lv_iload_n hx hb dX10_halvesBy_67 rfl (lv_at hl 2 rfl) ?_
    refine lv_iload hx hb dX10_halvesBy_68 (lv_at hl 5 rfl) ?_
    refine lv_aload_n hx hb dX10_halvesBy_70 rfl (lv_at hl 1 rfl) ?_
    refine lv_iload_n hx hb dX10_halvesBy_71 rfl (lv_at hl 3 rfl) ?_
    refine lv_iload hx hb dX10_halvesBy_72 (lv_at hl 5 rfl) ?_
    obtain ⟨r8, hgr8, hf⟩ := jM_some hf
    refine jcV_i0 (As := [.int x3, .int x5]) (rest := [.int x5, .int x2]) ⟨hx, hb, hml, hown, hts⟩ hK hN hA (c_X10_childOf l G D cI cB cZ a_t a_t_child a_t_husband (.ref a_t_wife) u_t_father s_t_size r_t_child r_t_husband x3 x5 hgr8) (cwV 2 hts (wG_V k_ml_X10_99 k_im_X10_childOf k_se_X10_childOf k_in_X10 k_co_X10_childOf) rfl rfl rfl hd_X10_childOf ⟨Nat.le_of_ble_eq_true rfl, Nat.le_of_ble_eq_true rfl⟩) hP hD hS [0, 1, 2] rfl rfl rfl (ci := 9) rfl 0 rfl rfl rfl hl.1 rfl (Nat.le_of_ble_eq_true rfl) dX10_halvesBy_74 ⟨Nat.le_of_ble_eq_true rfl, Nat.le_of_ble_eq_true rfl⟩ (fun H locs hP hD hS => ?_)
    obtain ⟨r9, hgr9, hf⟩ := jM_some hf
    refine jcS_i0 (As := [.int x2, .int x5, .int r8]) (rest := []) ⟨hx, hb, hml, hown, hts⟩ hK hN hA (c_X10_sameHalf l G D cI cB cZ x2 x5 r8 hgr9) (va_cwS 3 hts (wG_S k_ml_X10_96 k_st_X10_sameHalf k_in_X10 k_co_X10_sameHalf) rfl rfl rfl hd_X10_sameHalf.2 ⟨Nat.le_of_ble_eq_true rfl, Nat.le_of_ble_eq_true rfl⟩) hP hD hS [] rfl rfl rfl rfl hl.1 rfl (Nat.le_of_ble_eq_true rfl) dX10_halvesBy_77 ⟨Nat.le_of_ble_eq_true rfl, Nat.le_of_ble_eq_true rfl⟩ (fun H locs hP hD hS => ?_)
    refine lv_istore (lv' := [(7, .int r9), (6, .int r7), (0, .ref a_t), (2, .int x2), (3, .int x3), (4, .int x4), (5, .int x5)]) hx hb dX10_halvesBy_80 hl (by decide) rfl (fun ls hl => ?_)
    refine lv_iload hx hb dX10_halvesBy_82 (lv_at hl 1 rfl) ?_
    refine lv_iload hx hb dX10_halvesBy_84 (lv_at hl 5 rfl) ?_
    refine lv_icmp_ne (tgt := 96) hx hb dX10_halvesBy_86 (by decide) (fun c10 => ?_) (fun c10 => ?_)
    · replace hf := jif_f c10 hf
      have ho := Option.some.inj hf
      exact ((K.2 _ ho.symm).1 _ rfl) _ _ _ hP hD hS (lv_sub hl [] rfl)
    · replace hf := jif_t c10 hf
      refine lv_iload hx hb dX10_halvesBy_89 (lv_at hl 0 rfl) ?_
      refine lv_iload hx hb dX10_halvesBy_91 (lv_at hl 5 rfl) ?_
      refine lv_icmp_ne (tgt := 98) hx hb dX10_halvesBy_93 (by decide) (fun c11 => ?_) (fun c11 => ?_)
      · replace hf := jif_f c11 hf
        refine lv_iinc (v := (x5 + 1)) (lv' := [(5, .int (x5 + 1)), (7, .int r9), (6, .int r7), (0, .ref a_t), (2, .int x2), (3, .int x3), (4, .int x4)]) hx hb dX10_halvesBy_98 hl (k := 6) rfl (by first | rfl | decide) (by decide) rfl (fun ls hl => ?_)
        refine lv_goto (tgt := 41) hx hb dX10_halvesBy_101 (by decide) ?_
        have ho := Option.some.inj hf
        exact K.1 _ ho.symm _ _ _ hP hD hS (lv_sub hl [3, 4, 5, 6, 0] rfl)
      · replace hf := jif_t c11 hf
        have ho := Option.some.inj hf
        exact ((K.2 _ ho.symm).1 _ rfl) _ _ _ hP hD hS (lv_sub hl [] rfl)
def f_X10_halvesBy_l41 (s_t_size : Int32) (r_t_child r_t_husband r_t_wife : jA) (x2 x3 x4 x5 : Int32) : Option ((Unit) ⊕ ((Unit))) :=
  jI (fun z => f_X10_halvesBy_b41 s_t_size r_t_child r_t_husband r_t_wife x2 x3 x4 z) jF x5
set_option maxHeartbeats 4000000 in
set_option maxRecDepth 100000 in
theorem t_X10_halvesBy_l41 {p : Program} {l : Launch} {e : Env} {s : State} {m : MethodId} {args : Array Value} {below : List Frame} {meth : Method} {c : Code} {A : Nat → Prop} {Q : State → Prop} (G : jGt) (D : va_G) (cI cB cZ : ClassId) (a_t a_t_child a_t_husband a_t_wife : Nat) (u_t_father : Value) (s_t_size : Int32) (r_t_child r_t_husband r_t_wife : jA) (x2 x3 x4 : Int32) (C : jCx p s m args c cX10_halvesBy 8 gX10_halvesBy RX10 G D (jT cI cB cZ) A) : ∀ (n : Nat) (x5 : Int32) {eo : (Unit) ⊕ ((Unit))}, jI (fun z => f_X10_halvesBy_b41 s_t_size r_t_child r_t_husband r_t_wife x2 x3 x4 z) n x5 = some eo → ((∀ y0, eo = Sum.inl y0 → ∀ (H : Heap) (locs : List Loc) (ls : Array Slot), va_P D vwCl (w_X10_halvesBy cI cB cZ a_t a_t_child a_t_husband a_t_wife u_t_father s_t_size r_t_child r_t_husband r_t_wife) H → va_D A (w_X10_halvesBy cI cB cZ a_t a_t_child a_t_husband a_t_wife u_t_father s_t_size r_t_child r_t_husband r_t_wife) → va_S A s.heap H locs → lv_has ls 8 [] → W p l e rX10_halvesBy s m args below meth c H locs 0 0 Q (F0 m 96 ls [])) ∧ (∀ z0, eo = Sum.inr z0 → ∀ (H : Heap) (locs : List Loc) (ls : Array Slot), va_P D vwCl (w_X10_halvesBy cI cB cZ a_t a_t_child a_t_husband a_t_wife u_t_father s_t_size r_t_child r_t_husband r_t_wife) H → va_D A (w_X10_halvesBy cI cB cZ a_t a_t_child a_t_husband a_t_wife u_t_father s_t_size r_t_child r_t_husband r_t_wife) → va_S A s.heap H locs → lv_has ls 8 [] → W p l e rX10_halvesBy s m args below meth c H locs 0 0 Q (F0 m 104 ls []))) → ∀ (H : Heap) (locs : List Loc) (ls : Array Slot), va_P D vwCl (w_X10_halvesBy cI cB cZ a_t a_t_child a_t_husband a_t_wife u_t_father s_t_size r_t_child r_t_husband r_t_wife) H → va_D A (w_X10_halvesBy cI cB cZ a_t a_t_child a_t_husband a_t_wife u_t_father s_t_size r_t_child r_t_husband r_t_wife) → va_S A s.heap H locs → lv_has ls 8 [(0, .ref a_t), (2, .int x2), (3, .int x3), (4, .int x4), (5, .int x5)] → W p l e rX10_halvesBy s m args below meth c H locs 0 0 Q (F0 m 41 ls []) := by
  intro n
  induction n with
  | zero =>
    intro x5 eo hf
    exact (jI_zero hf).elim
  | succ n ih =>
    intro x5 eo hf K H locs ls hP hD hS hl
    obtain ⟨o, hb1, ho⟩ := jI_some hf
    rcases ho with ⟨z, rfl, hf2⟩ | rfl
    · exact t_X10_halvesBy_b41 G D cI cB cZ a_t a_t_child a_t_husband a_t_wife u_t_father s_t_size r_t_child r_t_husband r_t_wife x2 x3 x4 x5 C hb1 ⟨fun z2 hz H locs ls hP hD hS hl => by cases hz; exact ih z hf2 K H locs ls hP hD hS hl, fun z2 hz => by cases hz⟩ hP hD hS hl
    · exact t_X10_halvesBy_b41 G D cI cB cZ a_t a_t_child a_t_husband a_t_wife u_t_father s_t_size r_t_child r_t_husband r_t_wife x2 x3 x4 x5 C hb1 ⟨fun z2 hz => (by cases hz), fun z2 hz => by cases hz; exact K⟩ hP hD hS hl
def f_X10_halvesBy_j36 (s_t_size : Int32) (r_t_child r_t_husband r_t_wife : jA) (x2 x3 k0 : Int32) : Option (Int32) :=
  jM (f_X10_halvesBy_l41 s_t_size r_t_child r_t_husband r_t_wife x2 x3 k0 (0 : Int32)) fun e12 =>
  Sum.elim (fun y13 =>
  some (0 : Int32)) (fun w14 =>
  some (1 : Int32)) e12
set_option maxHeartbeats 4000000 in
set_option maxRecDepth 100000 in
theorem t_X10_halvesBy_j36 {p : Program} {l : Launch} {e : Env} {s : State} {m : MethodId} {args : Array Value} {below : List Frame} {meth : Method} {c : Code} {A : Nat → Prop} {Q : State → Prop} (G : jGt) (D : va_G) (cI cB cZ : ClassId) (a_t a_t_child a_t_husband a_t_wife : Nat) (u_t_father : Value) (s_t_size : Int32) (r_t_child r_t_husband r_t_wife : jA) (x2 x3 k0 : Int32) (C : jCx p s m args c cX10_halvesBy 8 gX10_halvesBy RX10 G D (jT cI cB cZ) A) {o : Int32} (hf : f_X10_halvesBy_j36 s_t_size r_t_child r_t_husband r_t_wife x2 x3 k0 = some o) (K : ∀ (H : Heap) (locs : List Loc) (pc : Nat) (ls : Array Slot), (o = 0 ∨ o = 1) → va_P D vwCl (w_X10_halvesBy cI cB cZ a_t a_t_child a_t_husband a_t_wife u_t_father s_t_size r_t_child r_t_husband r_t_wife) H → va_S A s.heap H locs → decode cX10_halvesBy pc = .ok (.ireturn, 1) → W p l e rX10_halvesBy s m args below meth c H locs 0 0 Q (F0 m pc ls [.int o])) {H : Heap} {locs : List Loc} {ls : Array Slot} (hP : va_P D vwCl (w_X10_halvesBy cI cB cZ a_t a_t_child a_t_husband a_t_wife u_t_father s_t_size r_t_child r_t_husband r_t_wife) H) (hD : va_D A (w_X10_halvesBy cI cB cZ a_t a_t_child a_t_husband a_t_wife u_t_father s_t_size r_t_child r_t_husband r_t_wife)) (hS : va_S A s.heap H locs) (hl : lv_has ls 8 [(0, .ref a_t), (2, .int x2), (3, .int x3)]) : W p l e rX10_halvesBy s m args below meth c H locs 0 0 Q (F0 m 36 ls [.int k0]) := by
  obtain ⟨⟨hx, hb, hml, hown, hts⟩, hK, hN, hA⟩ := C
  have C : jCx p s m args c cX10_halvesBy 8 gX10_halvesBy RX10 G D (jT cI cB cZ) A := ⟨⟨hx, hb, hml, hown, hts⟩, hK, hN, hA⟩
  unfold f_X10_halvesBy_j36 at hf
  refine lv_istore (lv' := [(4, .int k0), (0, .ref a_t), (2, .int x2), (3, .int x3)]) hx hb dX10_halvesBy_36 hl (by decide) rfl (fun ls hl => ?_)
  refine lv_iconst (v := (0 : Int32)) hx hb dX10_halvesBy_38 (by decide) ?_
  refine lv_istore (lv' := [(5, .int (0 : Int32)), (4, .int k0), (0, .ref a_t), (2, .int x2), (3, .int x3)]) hx hb dX10_halvesBy_39 hl (by decide) rfl (fun ls hl => ?_)
  obtain ⟨e12, hg12, hf⟩ := jM_some hf
  refine t_X10_halvesBy_l41 G D cI cB cZ a_t a_t_child a_t_husband a_t_wife u_t_father s_t_size r_t_child r_t_husband r_t_wife x2 x3 k0 C jF (0 : Int32) hg12 ?_ _ _ _ hP hD hS (lv_sub hl [2, 3, 4, 1, 0] rfl)
  refine ⟨fun y13 hy => ?_, fun w14 hy => ?_⟩
  · replace hf := jE_l hy hf
    intro H locs ls hP hD hS hl
    refine lv_iconst (v := (0 : Int32)) hx hb dX10_halvesBy_96 (by decide) ?_
    have ho := Option.some.inj hf
    subst ho
    exact K _ _ _ _ (Or.inl rfl) hP hS dX10_halvesBy_97
  · replace hf := jE_r hy hf
    intro H locs ls hP hD hS hl
    refine lv_iconst (v := (1 : Int32)) hx hb dX10_halvesBy_104 (by decide) ?_
    have ho := Option.some.inj hf
    subst ho
    exact K _ _ _ _ (Or.inr rfl) hP hS dX10_halvesBy_105
def f_X10_halvesBy_j25 (s_t_size : Int32) (r_t_child r_t_husband r_t_wife : jA) (x1 x2 k0 : Int32) : Option (Int32) :=
  if x1 = (2 : Int32) then
  f_X10_halvesBy_j36 s_t_size r_t_child r_t_husband r_t_wife x2 k0 (1 : Int32)
  else
  f_X10_halvesBy_j36 s_t_size r_t_child r_t_husband r_t_wife x2 k0 (0 : Int32)
set_option maxHeartbeats 4000000 in
set_option maxRecDepth 100000 in
theorem t_X10_halvesBy_j25 {p : Program} {l : Launch} {e : Env} {s : State} {m : MethodId} {args : Array Value} {below : List Frame} {meth : Method} {c : Code} {A : Nat → Prop} {Q : State → Prop} (G : jGt) (D : va_G) (cI cB cZ : ClassId) (a_t a_t_child a_t_husband a_t_wife : Nat) (u_t_father : Value) (s_t_size : Int32) (r_t_child r_t_husband r_t_wife : jA) (x1 x2 k0 : Int32) (C : jCx p s m args c cX10_halvesBy 8 gX10_halvesBy RX10 G D (jT cI cB cZ) A) {o : Int32} (hf : f_X10_halvesBy_j25 s_t_size r_t_child r_t_husband r_t_wife x1 x2 k0 = some o) (K : ∀ (H : Heap) (locs : List Loc) (pc : Nat) (ls : Array Slot), (o = 0 ∨ o = 1) → va_P D vwCl (w_X10_halvesBy cI cB cZ a_t a_t_child a_t_husband a_t_wife u_t_father s_t_size r_t_child r_t_husband r_t_wife) H → va_S A s.heap H locs → decode cX10_halvesBy pc = .ok (.ireturn, 1) → W p l e rX10_halvesBy s m args below meth c H locs 0 0 Q (F0 m pc ls [.int o])) {H : Heap} {locs : List Loc} {ls : Array Slot} (hP : va_P D vwCl (w_X10_halvesBy cI cB cZ a_t a_t_child a_t_husband a_t_wife u_t_father s_t_size r_t_child r_t_husband r_t_wife) H) (hD : va_D A (w_X10_halvesBy cI cB cZ a_t a_t_child a_t_husband a_t_wife u_t_father s_t_size r_t_child r_t_husband r_t_wife)) (hS : va_S A s.heap H locs) (hl : lv_has ls 8 [(0, .ref a_t), (1, .int x1), (2, .int x2)]) : W p l e rX10_halvesBy s m args below meth c H locs 0 0 Q (F0 m 25 ls [.int k0]) := by
  obtain ⟨⟨hx, hb, hml, hown, hts⟩, hK, hN, hA⟩ := C
  have C : jCx p s m args c cX10_halvesBy 8 gX10_halvesBy RX10 G D (jT cI cB cZ) A := ⟨⟨hx, hb, hml, hown, hts⟩, hK, hN, hA⟩
  unfold f_X10_halvesBy_j25 at hf
  refine lv_istore_n (lv' := [(3, .int k0), (0, .ref a_t), (1, .int x1), (2, .int x2)]) hx hb dX10_halvesBy_25 rfl hl (by decide) rfl (fun ls hl => ?_)
  refine lv_iload_n hx hb dX10_halvesBy_26 rfl (lv_at hl 2 rfl) ?_
  refine lv_iconst (v := (2 : Int32)) hx hb dX10_halvesBy_27 (by decide) ?_
  refine lv_icmp_ne (tgt := 35) hx hb dX10_halvesBy_28 (by decide) (fun c4 => ?_) (fun c4 => ?_)
  · replace hf := jif_f c4 hf
    refine lv_iconst (v := (0 : Int32)) hx hb dX10_halvesBy_35 (by decide) ?_
    exact t_X10_halvesBy_j36 G D cI cB cZ a_t a_t_child a_t_husband a_t_wife u_t_father s_t_size r_t_child r_t_husband r_t_wife x2 k0 (0 : Int32) C hf K hP hD hS (lv_sub hl [1, 3, 0] rfl)
  · replace hf := jif_t c4 hf
    refine lv_iconst (v := (1 : Int32)) hx hb dX10_halvesBy_31 (by decide) ?_
    refine lv_goto (tgt := 36) hx hb dX10_halvesBy_32 (by decide) ?_
    exact t_X10_halvesBy_j36 G D cI cB cZ a_t a_t_child a_t_husband a_t_wife u_t_father s_t_size r_t_child r_t_husband r_t_wife x2 k0 (1 : Int32) C hf K hP hD hS (lv_sub hl [1, 3, 0] rfl)
def f_X10_halvesBy (s_t_size : Int32) (r_t_child r_t_husband r_t_wife : jA) (x1 x2 : Int32) : Option (Int32) :=
  jM (f_J6_bitCount_0f7a4 x2) fun r1 =>
  if (r1 * (2 : Int32)) = s_t_size then
  if x1 = (1 : Int32) then
  f_X10_halvesBy_j25 s_t_size r_t_child r_t_husband r_t_wife x1 x2 (0 : Int32)
  else
  f_X10_halvesBy_j25 s_t_size r_t_child r_t_husband r_t_wife x1 x2 (1 : Int32)
  else
  some (0 : Int32)
set_option maxHeartbeats 4000000 in
set_option maxRecDepth 100000 in
theorem t_X10_halvesBy {p : Program} {l : Launch} {e : Env} {s : State} {m : MethodId} {args : Array Value} {below : List Frame} {meth : Method} {c : Code} {A : Nat → Prop} {Q : State → Prop} (G : jGt) (D : va_G) (cI cB cZ : ClassId) (a_t a_t_child a_t_husband a_t_wife : Nat) (u_t_father : Value) (s_t_size : Int32) (r_t_child r_t_husband r_t_wife : jA) (x1 x2 : Int32) (C : jCx p s m args c cX10_halvesBy 8 gX10_halvesBy RX10 G D (jT cI cB cZ) A) {o : Int32} (hf : f_X10_halvesBy s_t_size r_t_child r_t_husband r_t_wife x1 x2 = some o) (K : ∀ (H : Heap) (locs : List Loc) (pc : Nat) (ls : Array Slot), (o = 0 ∨ o = 1) → va_P D vwCl (w_X10_halvesBy cI cB cZ a_t a_t_child a_t_husband a_t_wife u_t_father s_t_size r_t_child r_t_husband r_t_wife) H → va_S A s.heap H locs → decode cX10_halvesBy pc = .ok (.ireturn, 1) → W p l e rX10_halvesBy s m args below meth c H locs 0 0 Q (F0 m pc ls [.int o])) {H : Heap} {locs : List Loc} {ls : Array Slot} (hP : va_P D vwCl (w_X10_halvesBy cI cB cZ a_t a_t_child a_t_husband a_t_wife u_t_father s_t_size r_t_child r_t_husband r_t_wife) H) (hD : va_D A (w_X10_halvesBy cI cB cZ a_t a_t_child a_t_husband a_t_wife u_t_father s_t_size r_t_child r_t_husband r_t_wife)) (hS : va_S A s.heap H locs) (hl : lv_has ls 8 [(0, .ref a_t), (1, .int x1), (2, .int x2)]) : W p l e rX10_halvesBy s m args below meth c H locs 0 0 Q (F0 m 0 ls []) := by
  obtain ⟨⟨hx, hb, hml, hown, hts⟩, hK, hN, hA⟩ := C
  have C : jCx p s m args c cX10_halvesBy 8 gX10_halvesBy RX10 G D (jT cI cB cZ) A := ⟨⟨hx, hb, hml, hown, hts⟩, hK, hN, hA⟩
  unfold f_X10_halvesBy at hf
  refine lv_iload_n hx hb dX10_halvesBy_0 rfl (lv_at hl 2 rfl) ?_
  obtain ⟨r1, hgr1, hf⟩ := jM_some hf
  refine jcS_i0 (As := [.int x2]) (rest := []) ⟨hx, hb, hml, hown, hts⟩ hK hN hA (c_J6_bitCount_0f7a4 l G D cI cB cZ x2 hgr1) (va_cwS 1 hts (wG_S k_ml_X10_91 k_st_J6_bitCount_0f7a4 k_in_J6 k_co_J6_bitCount_0f7a4) rfl rfl rfl hd_J6_bitCount_0f7a4.2 ⟨Nat.le_of_ble_eq_true rfl, Nat.le_of_ble_eq_true rfl⟩) hP hD hS [] rfl rfl rfl rfl hl.1 rfl (Nat.le_of_ble_eq_true rfl) dX10_halvesBy_1 ⟨Nat.le_of_ble_eq_true rfl, Nat.le_of_ble_eq_true rfl⟩ (fun H locs hP hD hS => ?_)
  refine lv_iconst (v := (2 : Int32)) hx hb dX10_halvesBy_4 (by decide) ?_
  refine lv_imul hx hb dX10_halvesBy_5 ?_
  refine lv_aload_n hx hb dX10_halvesBy_6 rfl (lv_at hl 0 rfl) ?_
  refine va_get (D := D) (ci := 9) (v := .int s_t_size) (C := RX10) (T := TX10) (N := 5) hx hb hts iw_X10 hown hK hP 0 rfl rfl 4 (by decide) (hts _ (wG_in k_fl_X10_30 rfl)) (fun _ h9 => h9) rfl dX10_halvesBy_7 ?_
  refine lv_icmp_eq (tgt := 15) hx hb dX10_halvesBy_10 (by decide) (fun c2 => ?_) (fun c2 => ?_)
  · replace hf := jif_t c2 hf
    refine lv_iload_n hx hb dX10_halvesBy_15 rfl (lv_at hl 1 rfl) ?_
    refine lv_iconst (v := (1 : Int32)) hx hb dX10_halvesBy_16 (by decide) ?_
    refine lv_icmp_ne (tgt := 24) hx hb dX10_halvesBy_17 (by decide) (fun c3 => ?_) (fun c3 => ?_)
    · replace hf := jif_f c3 hf
      refine lv_iconst (v := (1 : Int32)) hx hb dX10_halvesBy_24 (by decide) ?_
      exact t_X10_halvesBy_j25 G D cI cB cZ a_t a_t_child a_t_husband a_t_wife u_t_father s_t_size r_t_child r_t_husband r_t_wife x1 x2 (1 : Int32) C hf K hP hD hS (lv_sub hl [0, 1, 2] rfl)
    · replace hf := jif_t c3 hf
      refine lv_iconst (v := (0 : Int32)) hx hb dX10_halvesBy_20 (by decide) ?_
      refine lv_goto (tgt := 25) hx hb dX10_halvesBy_21 (by decide) ?_
      exact t_X10_halvesBy_j25 G D cI cB cZ a_t a_t_child a_t_husband a_t_wife u_t_father s_t_size r_t_child r_t_husband r_t_wife x1 x2 (0 : Int32) C hf K hP hD hS (lv_sub hl [0, 1, 2] rfl)
  · replace hf := jif_f c2 hf
    refine lv_iconst (v := (0 : Int32)) hx hb dX10_halvesBy_13 (by decide) ?_
    have ho := Option.some.inj hf
    subst ho
    exact K _ _ _ _ (Or.inl rfl) hP hS dX10_halvesBy_14
set_option maxHeartbeats 4000000 in
set_option maxRecDepth 100000 in
theorem c_X10_halvesBy (l : Launch) (G : jGt) (D : va_G) (cI cB cZ : ClassId) (a_t a_t_child a_t_husband a_t_wife : Nat) (u_t_father : Value) (s_t_size : Int32) (r_t_child r_t_husband r_t_wife : jA) (x1 x2 : Int32) {o : Int32} (hf : f_X10_halvesBy s_t_size r_t_child r_t_husband r_t_wife x1 x2 = some o) : jMi l yX10_halvesBy gX10_halvesBy rX10_halvesBy G D (jT cI cB cZ) [.ref a_t, .int x1, .int x2] (w_X10_halvesBy cI cB cZ a_t a_t_child a_t_husband a_t_wife u_t_father s_t_size r_t_child r_t_husband r_t_wife) (w_X10_halvesBy cI cB cZ a_t a_t_child a_t_husband a_t_wife u_t_father s_t_size r_t_child r_t_husband r_t_wife) o := by
  refine jmk_z RX10 rfl (by decide +kernel) rfl (Nat.le_of_ble_eq_true rfl) rfl ?_
  intro p e s m args below meth c ls A Q C hP hD hS hl K
  exact t_X10_halvesBy G D cI cB cZ a_t a_t_child a_t_husband a_t_wife u_t_father s_t_size r_t_child r_t_husband r_t_wife x1 x2 C hf K hP hD hS hl

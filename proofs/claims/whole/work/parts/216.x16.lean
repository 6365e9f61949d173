abbrev rX12_turnBack : Room := { frames := 0, cells := 0, slots := 0, locals := 0 }
abbrev gX12_turnBack : List Cond := wG yX12_turnBack cX12_turnBack 2 none
def w_X12_turnBack (cI cB cZ : ClassId) (a_t : Nat) (aX : Nat → Nat) (u_t_code u_t_ahead u_t_length u_t_begins u_t_sort u_t_value u_t_letters : Int32) (u_t_word : Int64) (u_t_wrongAt u_t_laterFault u_t_laterPlace u_t_newClasses u_t_newLines u_t_turns u_t_shortest u_t_orders u_t_rowNumber u_t_ties s_t_n : Int32) (r_t_child r_t_childBack r_t_weds r_t_wedsBack : jA) : va_W := [(a_t, .inr (11, (oX12 aX u_t_code s_t_n u_t_ahead u_t_length u_t_begins u_t_sort u_t_value u_t_letters u_t_word u_t_wrongAt u_t_laterFault u_t_laterPlace u_t_newClasses u_t_newLines u_t_turns u_t_shortest u_t_orders u_t_rowNumber u_t_ties))), ((aX 33), .inl (cI, r_t_child.1, .inl r_t_child.2)), ((aX 35), .inl (cI, r_t_childBack.1, .inl r_t_childBack.2)), ((aX 32), .inl (cI, r_t_weds.1, .inl r_t_weds.2)), ((aX 34), .inl (cI, r_t_wedsBack.1, .inl r_t_wedsBack.2))]
def f_X12_turnBack_b2 (s_t_n : Int32) (r_t_child r_t_weds r_t_childBack r_t_wedsBack : jA) (x1 : Int32) : Option ((jA × jA × Int32) ⊕ ((jA × jA))) :=
  if s_t_n ≤ x1 then
  some (Sum.inr (r_t_childBack, r_t_wedsBack))
  else
  jL r_t_weds x1 fun v2 =>
  jS r_t_wedsBack v2 x1 fun q3 =>
  jL r_t_child x1 fun v4 =>
  jS r_t_childBack v4 x1 fun q5 =>
  some (Sum.inl (q5, q3, (x1 + 1)))
set_option maxHeartbeats 4000000 in
set_option maxRecDepth 100000 in
theorem t_X12_turnBack_b2 {p : Program} {l : Launch} {e : Env} {s : State} {m : MethodId} {args : Array Value} {below : List Frame} {meth : Method} {c : Code} {A : Nat → Prop} {Q : State → Prop} (G : jGt) (D : va_G) (cI cB cZ : ClassId) (a_t : Nat) (aX : Nat → Nat) (u_t_code u_t_ahead u_t_length u_t_begins u_t_sort u_t_value u_t_letters : Int32) (u_t_word : Int64) (u_t_wrongAt u_t_laterFault u_t_laterPlace u_t_newClasses u_t_newLines u_t_turns u_t_shortest u_t_orders u_t_rowNumber u_t_ties s_t_n : Int32) (r_t_child r_t_weds : jA) (r_t_childBack r_t_wedsBack : jA) (x1 : Int32) (C : jCx p s m args c cX12_turnBack 2 gX12_turnBack RX12 G D (jT cI cB cZ) A) {o : (jA × jA × Int32) ⊕ ((jA × jA))} (hf : f_X12_turnBack_b2 s_t_n r_t_child r_t_weds r_t_childBack r_t_wedsBack x1 = some o) (K : (∀ z, o = Sum.inl z → ∀ (H : Heap) (locs : List Loc) (ls : Array Slot), va_P D vwCl (w_X12_turnBack cI cB cZ a_t aX u_t_code u_t_ahead u_t_length u_t_begins u_t_sort u_t_value u_t_letters u_t_word u_t_wrongAt u_t_laterFault u_t_laterPlace u_t_newClasses u_t_newLines u_t_turns u_t_shortest u_t_orders u_t_rowNumber u_t_ties s_t_n r_t_child z.1 r_t_weds z.2.1) H → va_D A (w_X12_turnBack cI cB cZ a_t aX u_t_code u_t_ahead u_t_length u_t_begins u_t_sort u_t_value u_t_letters u_t_word u_t_wrongAt u_t_laterFault u_t_laterPlace u_t_newClasses u_t_newLines u_t_turns u_t_shortest u_t_orders u_t_rowNumber u_t_ties s_t_n r_t_child z.1 r_t_weds z.2.1) → va_S A s.heap H locs → lv_has ls 2 [(0, .ref a_t), (1, .int z.2.2)] → W p l e rX12_turnBack s m args below meth c H locs 0 0 Q (F0 m 2 ls [])) ∧ (∀ z, o = Sum.inr z → ∀ (H : Heap) (locs : List Loc) (ls : Array Slot), va_P D vwCl (w_X12_turnBack cI cB cZ a_t aX u_t_code u_t_ahead u_t_length u_t_begins u_t_sort u_t_value u_t_letters u_t_word u_t_wrongAt u_t_laterFault u_t_laterPlace u_t_newClasses u_t_newLines u_t_turns u_t_shortest u_t_orders u_t_rowNumber u_t_ties s_t_n r_t_child z.1 r_t_weds z.2) H → va_D A (w_X12_turnBack cI cB cZ a_t aX u_t_code u_t_ahead u_t_length u_t_begins u_t_sort u_t_value u_t_letters u_t_word u_t_wrongAt u_t_laterFault u_t_laterPlace u_t_newClasses u_t_newLines u_t_turns u_t_shortest u_t_orders u_t_rowNumber u_t_ties s_t_n r_t_child z.1 r_t_weds z.2) → va_S A s.heap H locs → lv_has ls 2 [] → W p l e rX12_turnBack s m args below meth c H locs 0 0 Q (F0 m 40 ls []))) {H : Heap} {locs : List Loc} {ls : Array Slot} (hP : va_P D vwCl (w_X12_turnBack cI cB cZ a_t aX u_t_code u_t_ahead u_t_length u_t_begins u_t_sort u_t_value u_t_letters u_t_word u_t_wrongAt u_t_laterFault u_t_laterPlace u_t_newClasses u_t_newLines u_t_turns u_t_shortest u_t_orders u_t_rowNumber u_t_ties s_t_n r_t_child r_t_childBack r_t_weds r_t_wedsBack) H) (hD : va_D A (w_X12_turnBack cI cB cZ a_t aX u_t_code u_t_ahead u_t_length u_t_begins u_t_sort u_t_value u_t_letters u_t_word u_t_wrongAt u_t_laterFault u_t_laterPlace u_t_newClasses u_t_newLines u_t_turns u_t_shortest u_t_orders u_t_rowNumber u_t_ties s_t_n r_t_child r_t_childBack r_t_weds r_t_wedsBack)) (hS : va_S A s.heap H locs) (hl : lv_has ls 2 [(0, .ref a_t), (1, .int x1)]) : W p l e rX12_turnBack s m args below meth c H locs 0 0 Q (F0 m 2 ls []) := by
  obtain ⟨⟨hx, hb, hml, hown, hts⟩, hK, hN, hA⟩ := C
  have C : jCx p s m args c cX12_turnBack 2 gX12_turnBack RX12 G D (jT cI cB cZ) A := ⟨⟨hx, hb, hml, hown, hts⟩, hK, hN, hA⟩
  unfold f_X12_turnBack_b2 at hf
  refine lv_iload_n hx hb dX12_turnBack_2 rfl (lv_at hl 1 rfl) ?_
  refine lv_aload_n hx hb dX12_turnBack_3 rfl (lv_at hl 0 rfl) ?_
  refine va_get (D := D) (ci := 11) (v := .int s_t_n) (C := RX12) (T := TX12) (N := 74) hx hb hts iw_X12 hown hK hP 0 rfl rfl 31 (by decide) (hts _ (wG_in k_fl_X12_189 rfl)) (fun _ h9 => h9) rfl dX12_turnBack_4 ?_
  refine lv_icmp_ge (tgt := 40) hx hb dX12_turnBack_7 (by decide) (fun c1 => ?_) (fun c1 => ?_)
  · replace hf := jif_t c1 hf
    have ho := Option.some.inj hf
    exact (K.2 _ ho.symm) _ _ _ hP hD hS (lv_sub hl [] rfl)
  · replace hf := jif_f c1 hf
    refine lv_aload_n hx hb dX12_turnBack_10 rfl (lv_at hl 0 rfl) ?_
    refine va_get (D := D) (ci := 11) (v := .ref (aX 34)) (C := RX12) (T := TX12) (N := 74) hx hb hts iw_X12 hown hK hP 0 rfl rfl 34 (by decide) (hts _ (wG_in k_fl_X12_107 rfl)) (fun _ h9 => h9) rfl dX12_turnBack_11 ?_
    refine lv_aload_n hx hb dX12_turnBack_14 rfl (lv_at hl 0 rfl) ?_
    refine va_get (D := D) (ci := 11) (v := .ref (aX 32)) (C := RX12) (T := TX12) (N := 74) hx hb hts iw_X12 hown hK hP 0 rfl rfl 32 (by decide) (hts _ (wG_in k_fl_X12_101 rfl)) (fun _ h9 => h9) rfl dX12_turnBack_15 ?_
    refine lv_iload_n hx hb dX12_turnBack_18 rfl (lv_at hl 1 rfl) ?_
    obtain ⟨v2, hv2, iv2, hf⟩ := jL_some hf
    refine ja_iald (P := r_t_weds) hx hb hK hP 3 0 rfl rfl hv2 iv2 dX12_turnBack_19 ?_
    refine lv_iload_n hx hb dX12_turnBack_20 rfl (lv_at hl 1 rfl) ?_
    obtain ⟨q3, hq3, iq3, hf⟩ := jS_some hf
    refine ja_iast (P := r_t_wedsBack) (P' := q3) hx hb hK hP hD hS 4 0 rfl rfl hq3 iq3 dX12_turnBack_21 (fun H locs hP hD hS => ?_)
    have hP : va_P D vwCl (w_X12_turnBack cI cB cZ a_t aX u_t_code u_t_ahead u_t_length u_t_begins u_t_sort u_t_value u_t_letters u_t_word u_t_wrongAt u_t_laterFault u_t_laterPlace u_t_newClasses u_t_newLines u_t_turns u_t_shortest u_t_orders u_t_rowNumber u_t_ties s_t_n r_t_child r_t_childBack r_t_weds q3) H := hP
    have hD : va_D A (w_X12_turnBack cI cB cZ a_t aX u_t_code u_t_ahead u_t_length u_t_begins u_t_sort u_t_value u_t_letters u_t_word u_t_wrongAt u_t_laterFault u_t_laterPlace u_t_newClasses u_t_newLines u_t_turns u_t_shortest u_t_orders u_t_rowNumber u_t_ties s_t_n r_t_child r_t_childBack r_t_weds q3) := hD
    refine lv_aload_n hx hb dX12_turnBack_22 rfl (lv_at hl 0 rfl) ?_
    refine va_get (D := D) (ci := 11) (v := .ref (aX 35)) (C := RX12) (T := TX12) (N := 74) hx hb hts iw_X12 hown hK hP 0 rfl rfl 35 (by decide) (hts _ (wG_in k_fl_X12_110 rfl)) (fun _ h9 => h9) rfl dX12_turnBack_23 ?_
    refine lv_aload_n hx hb dX12_turnBack_26 rfl (lv_at hl 0 rfl) ?_
    refine va_get (D := D) (ci := 11) (v := .ref (aX 33)) (C := RX12) (T := TX12) (N := 74) hx hb hts iw_X12 hown hK hP 0 rfl rfl 33 (by decide) (hts _ (wG_in k_fl_X12_104 rfl)) (fun _ h9 => h9) rfl dX12_turnBack_27 ?_
    refine lv_iload_n hx hb dX12_turnBack_30 rfl (lv_at hl 1 rfl) ?_
    obtain ⟨v4, hv4, iv4, hf⟩ := jL_some hf
    refine ja_iald (P := r_t_child) hx hb hK hP 1 0 rfl rfl hv4 iv4 dX12_turnBack_31 ?_
    refine lv_iload_n hx hb dX12_turnBack_32 rfl (lv_at hl 1 rfl) ?_
    obtain ⟨q5, hq5, iq5, hf⟩ := jS_some hf
    refine ja_iast (P := r_t_childBack) (P' := q5) hx hb hK hP hD hS 2 0 rfl rfl hq5 iq5 dX12_turnBack_33 (fun H locs hP hD hS => ?_)
    have hP : va_P D vwCl (w_X12_turnBack cI cB cZ a_t aX u_t_code u_t_ahead u_t_length u_t_begins u_t_sort u_t_value u_t_letters u_t_word u_t_wrongAt u_t_laterFault u_t_laterPlace u_t_newClasses u_t_newLines u_t_turns u_t_shortest u_t_orders u_t_rowNumber u_t_ties s_t_n r_t_child q5 r_t_weds q3) H := hP
    have hD : va_D A (w_X12_turnBack cI cB cZ a_t aX u_t_code u_t_ahead u_t_length u_t_begins u_t_sort u_t_value u_t_letters u_t_word u_t_wrongAt u_t_laterFault u_t_laterPlace u_t_newClasses u_t_newLines u_t_turns u_t_shortest u_t_orders u_t_rowNumber u_t_ties s_t_n r_t_child q5 r_t_weds q3) := hD
    refine lv_iinc (v := (x1 + 1)) (lv' := [(1, .int (x1 + 1)), (0, .ref a_t)]) hx hb dX12_turnBack_34 hl (k := 1) rfl (by first | rfl | decide) (by decide) rfl (fun ls hl => ?_)
    refine lv_goto (tgt := 2) hx hb dX12_turnBack_37 (by decide) ?_
    have ho := Option.some.inj hf
    exact K.1 _ ho.symm _ _ _ hP hD hS (lv_sub hl [1, 0] rfl)
def f_X12_turnBack_l2 (s_t_n : Int32) (r_t_child r_t_weds r_t_childBack r_t_wedsBack : jA) (x1 : Int32) : Option ((jA × jA)) :=
  jI (fun z => f_X12_turnBack_b2 s_t_n r_t_child r_t_weds z.1 z.2.1 z.2.2) jF (r_t_childBack, r_t_wedsBack, x1)
set_option maxHeartbeats 4000000 in
set_option maxRecDepth 100000 in
theorem t_X12_turnBack_l2 {p : Program} {l : Launch} {e : Env} {s : State} {m : MethodId} {args : Array Value} {below : List Frame} {meth : Method} {c : Code} {A : Nat → Prop} {Q : State → Prop} (G : jGt) (D : va_G) (cI cB cZ : ClassId) (a_t : Nat) (aX : Nat → Nat) (u_t_code u_t_ahead u_t_length u_t_begins u_t_sort u_t_value u_t_letters : Int32) (u_t_word : Int64) (u_t_wrongAt u_t_laterFault u_t_laterPlace u_t_newClasses u_t_newLines u_t_turns u_t_shortest u_t_orders u_t_rowNumber u_t_ties s_t_n : Int32) (r_t_child r_t_weds : jA)  (C : jCx p s m args c cX12_turnBack 2 gX12_turnBack RX12 G D (jT cI cB cZ) A) : ∀ (n : Nat) (r_t_childBack r_t_wedsBack : jA) (x1 : Int32) {eo : (jA × jA)}, jI (fun z => f_X12_turnBack_b2 s_t_n r_t_child r_t_weds z.1 z.2.1 z.2.2) n (r_t_childBack, r_t_wedsBack, x1) = some eo → (∀ (H : Heap) (locs : List Loc) (ls : Array Slot), va_P D vwCl (w_X12_turnBack cI cB cZ a_t aX u_t_code u_t_ahead u_t_length u_t_begins u_t_sort u_t_value u_t_letters u_t_word u_t_wrongAt u_t_laterFault u_t_laterPlace u_t_newClasses u_t_newLines u_t_turns u_t_shortest u_t_orders u_t_rowNumber u_t_ties s_t_n r_t_child eo.1 r_t_weds eo.2) H → va_D A (w_X12_turnBack cI cB cZ a_t aX u_t_code u_t_ahead u_t_length u_t_begins u_t_sort u_t_value u_t_letters u_t_word u_t_wrongAt u_t_laterFault u_t_laterPlace u_t_newClasses u_t_newLines u_t_turns u_t_shortest u_t_orders u_t_rowNumber u_t_ties s_t_n r_t_child eo.1 r_t_weds eo.2) → va_S A s.heap H locs → lv_has ls 2 [] → W p l e rX12_turnBack s m args below meth c H locs 0 0 Q (F0 m 40 ls [])) → ∀ (H : Heap) (locs : List Loc) (ls : Array Slot), va_P D vwCl (w_X12_turnBack cI cB cZ a_t aX u_t_code u_t_ahead u_t_length u_t_begins u_t_sort u_t_value u_t_letters u_t_word u_t_wrongAt u_t_laterFault u_t_laterPlace u_t_newClasses u_t_newLines u_t_turns u_t_shortest u_t_orders u_t_rowNumber u_t_ties s_t_n r_t_child r_t_childBack r_t_weds r_t_wedsBack) H → va_D A (w_X12_turnBack cI cB cZ a_t aX u_t_code u_t_ahead u_t_length u_t_begins u_t_sort u_t_value u_t_letters u_t_word u_t_wrongAt u_t_laterFault u_t_laterPlace u_t_newClasses u_t_newLines u_t_turns u_t_shortest u_t_orders u_t_rowNumber u_t_ties s_t_n r_t_child r_t_childBack r_t_weds r_t_wedsBack) → va_S A s.heap H locs → lv_has ls 2 [(0, .ref a_t), (1, .int x1)] → W p l e rX12_turnBack s m args below meth c H locs 0 0 Q (F0 m 2 ls []) := by
  intro n
  induction n with
  | zero =>
    intro r_t_childBack r_t_wedsBack x1 eo hf
    exact (jI_zero hf).elim
  | succ n ih =>
    intro r_t_childBack r_t_wedsBack x1 eo hf K H locs ls hP hD hS hl
    obtain ⟨o, hb1, ho⟩ := jI_some hf
    rcases ho with ⟨z, rfl, hf2⟩ | rfl
    · exact t_X12_turnBack_b2 G D cI cB cZ a_t aX u_t_code u_t_ahead u_t_length u_t_begins u_t_sort u_t_value u_t_letters u_t_word u_t_wrongAt u_t_laterFault u_t_laterPlace u_t_newClasses u_t_newLines u_t_turns u_t_shortest u_t_orders u_t_rowNumber u_t_ties s_t_n r_t_child r_t_weds r_t_childBack r_t_wedsBack x1 C hb1 ⟨fun z2 hz H locs ls hP hD hS hl => by cases hz; exact ih z.1 z.2.1 z.2.2 hf2 K H locs ls hP hD hS hl, fun z2 hz => by cases hz⟩ hP hD hS hl
    · exact t_X12_turnBack_b2 G D cI cB cZ a_t aX u_t_code u_t_ahead u_t_length u_t_begins u_t_sort u_t_value u_t_letters u_t_word u_t_wrongAt u_t_laterFault u_t_laterPlace u_t_newClasses u_t_newLines u_t_turns u_t_shortest u_t_orders u_t_rowNumber u_t_ties s_t_n r_t_child r_t_weds r_t_childBack r_t_wedsBack x1 C hb1 ⟨fun z2 hz => (by cases hz), fun z2 hz => by cases hz; exact K⟩ hP hD hS hl
def f_X12_turnBack (s_t_n : Int32) (r_t_child r_t_weds r_t_childBack r_t_wedsBack : jA) : Option (jA × jA) :=
  jM (f_X12_turnBack_l2 s_t_n r_t_child r_t_weds r_t_childBack r_t_wedsBack (0 : Int32)) fun e6 =>
  some (e6.1, e6.2)
set_option maxHeartbeats 4000000 in
set_option maxRecDepth 100000 in
theorem t_X12_turnBack {p : Program} {l : Launch} {e : Env} {s : State} {m : MethodId} {args : Array Value} {below : List Frame} {meth : Method} {c : Code} {A : Nat → Prop} {Q : State → Prop} (G : jGt) (D : va_G) (cI cB cZ : ClassId) (a_t : Nat) (aX : Nat → Nat) (u_t_code u_t_ahead u_t_length u_t_begins u_t_sort u_t_value u_t_letters : Int32) (u_t_word : Int64) (u_t_wrongAt u_t_laterFault u_t_laterPlace u_t_newClasses u_t_newLines u_t_turns u_t_shortest u_t_orders u_t_rowNumber u_t_ties s_t_n : Int32) (r_t_child r_t_weds : jA) (r_t_childBack r_t_wedsBack : jA) (C : jCx p s m args c cX12_turnBack 2 gX12_turnBack RX12 G D (jT cI cB cZ) A) {o : jA × jA} (hf : f_X12_turnBack s_t_n r_t_child r_t_weds r_t_childBack r_t_wedsBack = some o) (K : ∀ (H : Heap) (locs : List Loc) (pc : Nat) (ls : Array Slot), va_P D vwCl (w_X12_turnBack cI cB cZ a_t aX u_t_code u_t_ahead u_t_length u_t_begins u_t_sort u_t_value u_t_letters u_t_word u_t_wrongAt u_t_laterFault u_t_laterPlace u_t_newClasses u_t_newLines u_t_turns u_t_shortest u_t_orders u_t_rowNumber u_t_ties s_t_n r_t_child o.1 r_t_weds o.2) H → va_S A s.heap H locs → decode cX12_turnBack pc = .ok (.return_, 1) → W p l e rX12_turnBack s m args below meth c H locs 0 0 Q (F0 m pc ls [])) {H : Heap} {locs : List Loc} {ls : Array Slot} (hP : va_P D vwCl (w_X12_turnBack cI cB cZ a_t aX u_t_code u_t_ahead u_t_length u_t_begins u_t_sort u_t_value u_t_letters u_t_word u_t_wrongAt u_t_laterFault u_t_laterPlace u_t_newClasses u_t_newLines u_t_turns u_t_shortest u_t_orders u_t_rowNumber u_t_ties s_t_n r_t_child r_t_childBack r_t_weds r_t_wedsBack) H) (hD : va_D A (w_X12_turnBack cI cB cZ a_t aX u_t_code u_t_ahead u_t_length u_t_begins u_t_sort u_t_value u_t_letters u_t_word u_t_wrongAt u_t_laterFault u_t_laterPlace u_t_newClasses u_t_newLines u_t_turns u_t_shortest u_t_orders u_t_rowNumber u_t_ties s_t_n r_t_child r_t_childBack r_t_weds r_t_wedsBack)) (hS : va_S A s.heap H locs) (hl : lv_has ls 2 [(0, .ref a_t)]) : W p l e rX12_turnBack s m args below meth c H locs 0 0 Q (F0 m 0 ls []) := by
  obtain ⟨⟨hx, hb, hml, hown, hts⟩, hK, hN, hA⟩ := C
  have C : jCx p s m args c cX12_turnBack 2 gX12_turnBack RX12 G D (jT cI cB cZ) A := ⟨⟨hx, hb, hml, hown, hts⟩, hK, hN, hA⟩
  unfold f_X12_turnBack at hf
  refine lv_iconst (v := (0 : Int32)) hx hb dX12_turnBack_0 (by decide) ?_
  refine lv_istore_n (lv' := [(1, .int (0 : Int32)), (0, .ref a_t)]) hx hb dX12_turnBack_1 rfl hl (by decide) rfl (fun ls hl => ?_)
  obtain ⟨e6, hg6, hf⟩ := jM_some hf
  refine t_X12_turnBack_l2 G D cI cB cZ a_t aX u_t_code u_t_ahead u_t_length u_t_begins u_t_sort u_t_value u_t_letters u_t_word u_t_wrongAt u_t_laterFault u_t_laterPlace u_t_newClasses u_t_newLines u_t_turns u_t_shortest u_t_orders u_t_rowNumber u_t_ties s_t_n r_t_child r_t_weds  C jF r_t_childBack r_t_wedsBack (0 : Int32) hg6 ?_ _ _ _ hP hD hS (lv_sub hl [1, 0] rfl)
  intro H locs ls hP hD hS hl
  have ho := Option.some.inj hf
  subst ho
  exact K _ _ _ _ hP hS dX12_turnBack_40
set_option maxHeartbeats 4000000 in
set_option maxRecDepth 100000 in
theorem c_X12_turnBack (l : Launch) (G : jGt) (D : va_G) (cI cB cZ : ClassId) (a_t : Nat) (aX : Nat → Nat) (u_t_code u_t_ahead u_t_length u_t_begins u_t_sort u_t_value u_t_letters : Int32) (u_t_word : Int64) (u_t_wrongAt u_t_laterFault u_t_laterPlace u_t_newClasses u_t_newLines u_t_turns u_t_shortest u_t_orders u_t_rowNumber u_t_ties s_t_n : Int32) (r_t_child r_t_weds : jA) (r_t_childBack r_t_wedsBack : jA) {o : jA × jA} (hf : f_X12_turnBack s_t_n r_t_child r_t_weds r_t_childBack r_t_wedsBack = some o) : jMv l yX12_turnBack gX12_turnBack rX12_turnBack G D (jT cI cB cZ) [.ref a_t] (w_X12_turnBack cI cB cZ a_t aX u_t_code u_t_ahead u_t_length u_t_begins u_t_sort u_t_value u_t_letters u_t_word u_t_wrongAt u_t_laterFault u_t_laterPlace u_t_newClasses u_t_newLines u_t_turns u_t_shortest u_t_orders u_t_rowNumber u_t_ties s_t_n r_t_child r_t_childBack r_t_weds r_t_wedsBack) (w_X12_turnBack cI cB cZ a_t aX u_t_code u_t_ahead u_t_length u_t_begins u_t_sort u_t_value u_t_letters u_t_word u_t_wrongAt u_t_laterFault u_t_laterPlace u_t_newClasses u_t_newLines u_t_turns u_t_shortest u_t_orders u_t_rowNumber u_t_ties s_t_n r_t_child o.1 r_t_weds o.2) := by
  refine jmk_v RX12 rfl (by decide +kernel) rfl (Nat.le_of_ble_eq_true rfl) rfl ?_
  intro p e s m args below meth c ls A Q C hP hD hS hl K
  exact t_X12_turnBack G D cI cB cZ a_t aX u_t_code u_t_ahead u_t_length u_t_begins u_t_sort u_t_value u_t_letters u_t_word u_t_wrongAt u_t_laterFault u_t_laterPlace u_t_newClasses u_t_newLines u_t_turns u_t_shortest u_t_orders u_t_rowNumber u_t_ties s_t_n r_t_child r_t_weds r_t_childBack r_t_wedsBack C hf K hP hD hS hl
abbrev rX12_bring : Room := { frames := 1, cells := 0, slots := 0, locals := 21 }
abbrev gX12_bring : List Cond := wG yX12_bring cX12_bring 2 (some .boolean)
def w_X12_bring (cI cB cZ : ClassId) (a_t : Nat) (aX : Nat → Nat) (u_t_code u_t_ahead u_t_length u_t_begins u_t_sort u_t_value u_t_letters : Int32) (u_t_word : Int64) (u_t_wrongAt u_t_laterFault u_t_laterPlace u_t_newClasses u_t_newLines u_t_turns u_t_shortest u_t_orders u_t_rowNumber u_t_ties s_t_n : Int32) (r_t_child r_t_childBack r_t_childRow r_t_classes r_t_weds r_t_wedsBack r_t_wedsRow : jA) : va_W := [(a_t, .inr (11, (oX12 aX u_t_code s_t_n u_t_ahead u_t_length u_t_begins u_t_sort u_t_value u_t_letters u_t_word u_t_wrongAt u_t_laterFault u_t_laterPlace u_t_newClasses u_t_newLines u_t_turns u_t_shortest u_t_orders u_t_rowNumber u_t_ties))), ((aX 33), .inl (cI, r_t_child.1, .inl r_t_child.2)), ((aX 35), .inl (cI, r_t_childBack.1, .inl r_t_childBack.2)), ((aX 7), .inl (cI, r_t_childRow.1, .inl r_t_childRow.2)), ((aX 5), .inl (cI, r_t_classes.1, .inl r_t_classes.2)), ((aX 32), .inl (cI, r_t_weds.1, .inl r_t_weds.2)), ((aX 34), .inl (cI, r_t_wedsBack.1, .inl r_t_wedsBack.2)), ((aX 6), .inl (cI, r_t_wedsRow.1, .inl r_t_wedsRow.2))]
def f_X12_bring_b12 (r_t_childRow r_t_wedsRow : jA) (s_t_n : Int32) (r_t_child r_t_childBack r_t_weds r_t_wedsBack : jA) (x1 : Int32) : Option ((jA × jA × Int32) ⊕ ((jA × jA))) :=
  if s_t_n ≤ x1 then
  some (Sum.inr (r_t_child, r_t_weds))
  else
  jL r_t_wedsRow x1 fun v3 =>
  jS r_t_weds x1 v3 fun q4 =>
  jL r_t_childRow x1 fun v5 =>
  jS r_t_child x1 v5 fun q6 =>
  some (Sum.inl (q6, q4, (x1 + 1)))
set_option maxHeartbeats 4000000 in
set_option maxRecDepth 100000 in
theorem t_X12_bring_b12 {p : Program} {l : Launch} {e : Env} {s : State} {m : MethodId} {args : Array Value} {below : List Frame} {meth : Method} {c : Code} {A : Nat → Prop} {Q : State → Prop} (G : jGt) (D : va_G) (cI cB cZ : ClassId) (a_t : Nat) (aX : Nat → Nat) (u_t_code u_t_ahead u_t_length u_t_begins u_t_sort u_t_value u_t_letters : Int32) (u_t_word : Int64) (u_t_wrongAt u_t_laterFault u_t_laterPlace u_t_newClasses u_t_newLines u_t_turns u_t_shortest u_t_orders u_t_rowNumber u_t_ties : Int32) (r_t_childRow r_t_classes r_t_wedsRow : jA) (s_t_n : Int32) (r_t_child r_t_childBack r_t_weds r_t_wedsBack : jA) (x1 : Int32) (C : jCx p s m args c cX12_bring 2 gX12_bring RX12 G D (jT cI cB cZ) A) {o : (jA × jA × Int32) ⊕ ((jA × jA))} (hf : f_X12_bring_b12 r_t_childRow r_t_wedsRow s_t_n r_t_child r_t_childBack r_t_weds r_t_wedsBack x1 = some o) (K : (∀ z, o = Sum.inl z → ∀ (H : Heap) (locs : List Loc) (ls : Array Slot), va_P D vwCl (w_X12_bring cI cB cZ a_t aX u_t_code u_t_ahead u_t_length u_t_begins u_t_sort u_t_value u_t_letters u_t_word u_t_wrongAt u_t_laterFault u_t_laterPlace u_t_newClasses u_t_newLines u_t_turns u_t_shortest u_t_orders u_t_rowNumber u_t_ties s_t_n z.1 r_t_childBack r_t_childRow r_t_classes z.2.1 r_t_wedsBack r_t_wedsRow) H → va_D A (w_X12_bring cI cB cZ a_t aX u_t_code u_t_ahead u_t_length u_t_begins u_t_sort u_t_value u_t_letters u_t_word u_t_wrongAt u_t_laterFault u_t_laterPlace u_t_newClasses u_t_newLines u_t_turns u_t_shortest u_t_orders u_t_rowNumber u_t_ties s_t_n z.1 r_t_childBack r_t_childRow r_t_classes z.2.1 r_t_wedsBack r_t_wedsRow) → va_S A s.heap H locs → lv_has ls 2 [(0, .ref a_t), (1, .int z.2.2)] → W p l e rX12_bring s m args below meth c H locs 0 0 Q (F0 m 12 ls [])) ∧ (∀ z, o = Sum.inr z → ∀ (H : Heap) (locs : List Loc) (ls : Array Slot), va_P D vwCl (w_X12_bring cI cB cZ a_t aX u_t_code u_t_ahead u_t_length u_t_begins u_t_sort u_t_value u_t_letters u_t_word u_t_wrongAt u_t_laterFault u_t_laterPlace u_t_newClasses u_t_newLines u_t_turns u_t_shortest u_t_orders u_t_rowNumber u_t_ties s_t_n z.1 r_t_childBack r_t_childRow r_t_classes z.2 r_t_wedsBack r_t_wedsRow) H → va_D A (w_X12_bring cI cB cZ a_t aX u_t_code u_t_ahead u_t_length u_t_begins u_t_sort u_t_value u_t_letters u_t_word u_t_wrongAt u_t_laterFault u_t_laterPlace u_t_newClasses u_t_newLines u_t_turns u_t_shortest u_t_orders u_t_rowNumber u_t_ties s_t_n z.1 r_t_childBack r_t_childRow r_t_classes z.2 r_t_wedsBack r_t_wedsRow) → va_S A s.heap H locs → lv_has ls 2 [(0, .ref a_t)] → W p l e rX12_bring s m args below meth c H locs 0 0 Q (F0 m 50 ls []))) {H : Heap} {locs : List Loc} {ls : Array Slot} (hP : va_P D vwCl (w_X12_bring cI cB cZ a_t aX u_t_code u_t_ahead u_t_length u_t_begins u_t_sort u_t_value u_t_letters u_t_word u_t_wrongAt u_t_laterFault u_t_laterPlace u_t_newClasses u_t_newLines u_t_turns u_t_shortest u_t_orders u_t_rowNumber u_t_ties s_t_n r_t_child r_t_childBack r_t_childRow r_t_classes r_t_weds r_t_wedsBack r_t_wedsRow) H) (hD : va_D A (w_X12_bring cI cB cZ a_t aX u_t_code u_t_ahead u_t_length u_t_begins u_t_sort u_t_value u_t_letters u_t_word u_t_wrongAt u_t_laterFault u_t_laterPlace u_t_newClasses u_t_newLines u_t_turns u_t_shortest u_t_orders u_t_rowNumber u_t_ties s_t_n r_t_child r_t_childBack r_t_childRow r_t_classes r_t_weds r_t_wedsBack r_t_wedsRow)) (hS : va_S A s.heap H locs) (hl : lv_has ls 2 [(0, .ref a_t), (1, .int x1)]) : W p l e rX12_bring s m args below meth c H locs 0 0 Q (F0 m 12 ls []) := by
  obtain ⟨⟨hx, hb, hml, hown, hts⟩, hK, hN, hA⟩ := C
  have C : jCx p s m args c cX12_bring 2 gX12_bring RX12 G D (jT cI cB cZ) A := ⟨⟨hx, hb, hml, hown, hts⟩, hK, hN, hA⟩
  unfold f_X12_bring_b12 at hf
  refine lv_iload_n hx hb dX12_bring_12 rfl (lv_at hl 1 rfl) ?_
  refine lv_aload_n hx hb dX12_bring_13 rfl (lv_at hl 0 rfl) ?_
  refine va_get (D := D) (ci := 11) (v := .int s_t_n) (C := RX12) (T := TX12) (N := 74) hx hb hts iw_X12 hown hK hP 0 rfl rfl 31 (by decide) (hts _ (wG_in k_fl_X12_189 rfl)) (fun _ h9 => h9) rfl dX12_bring_14 ?_
  refine lv_icmp_ge (tgt := 50) hx hb dX12_bring_17 (by decide) (fun c2 => ?_) (fun c2 => ?_)
  · replace hf := jif_t c2 hf
    have ho := Option.some.inj hf
    exact (K.2 _ ho.symm) _ _ _ hP hD hS (lv_sub hl [0] rfl)
  · replace hf := jif_f c2 hf
    refine lv_aload_n hx hb dX12_bring_20 rfl (lv_at hl 0 rfl) ?_
    refine va_get (D := D) (ci := 11) (v := .ref (aX 32)) (C := RX12) (T := TX12) (N := 74) hx hb hts iw_X12 hown hK hP 0 rfl rfl 32 (by decide) (hts _ (wG_in k_fl_X12_101 rfl)) (fun _ h9 => h9) rfl dX12_bring_21 ?_
    refine lv_iload_n hx hb dX12_bring_24 rfl (lv_at hl 1 rfl) ?_
    refine lv_aload_n hx hb dX12_bring_25 rfl (lv_at hl 0 rfl) ?_
    refine va_get (D := D) (ci := 11) (v := .ref (aX 6)) (C := RX12) (T := TX12) (N := 74) hx hb hts iw_X12 hown hK hP 0 rfl rfl 6 (by decide) (hts _ (wG_in k_fl_X12_26 rfl)) (fun _ h9 => h9) rfl dX12_bring_26 ?_
    refine lv_iload_n hx hb dX12_bring_29 rfl (lv_at hl 1 rfl) ?_
    obtain ⟨v3, hv3, iv3, hf⟩ := jL_some hf
    refine ja_iald (P := r_t_wedsRow) hx hb hK hP 7 0 rfl rfl hv3 iv3 dX12_bring_30 ?_
    obtain ⟨q4, hq4, iq4, hf⟩ := jS_some hf
    refine ja_iast (P := r_t_weds) (P' := q4) hx hb hK hP hD hS 5 0 rfl rfl hq4 iq4 dX12_bring_31 (fun H locs hP hD hS => ?_)
    have hP : va_P D vwCl (w_X12_bring cI cB cZ a_t aX u_t_code u_t_ahead u_t_length u_t_begins u_t_sort u_t_value u_t_letters u_t_word u_t_wrongAt u_t_laterFault u_t_laterPlace u_t_newClasses u_t_newLines u_t_turns u_t_shortest u_t_orders u_t_rowNumber u_t_ties s_t_n r_t_child r_t_childBack r_t_childRow r_t_classes q4 r_t_wedsBack r_t_wedsRow) H := hP
    have hD : va_D A (w_X12_bring cI cB cZ a_t aX u_t_code u_t_ahead u_t_length u_t_begins u_t_sort u_t_value u_t_letters u_t_word u_t_wrongAt u_t_laterFault u_t_laterPlace u_t_newClasses u_t_newLines u_t_turns u_t_shortest u_t_orders u_t_rowNumber u_t_ties s_t_n r_t_child r_t_childBack r_t_childRow r_t_classes q4 r_t_wedsBack r_t_wedsRow) := hD
    refine lv_aload_n hx hb dX12_bring_32 rfl (lv_at hl 0 rfl) ?_
    refine va_get (D := D) (ci := 11) (v := .ref (aX 33)) (C := RX12) (T := TX12) (N := 74) hx hb hts iw_X12 hown hK hP 0 rfl rfl 33 (by decide) (hts _ (wG_in k_fl_X12_104 rfl)) (fun _ h9 => h9) rfl dX12_bring_33 ?_
    refine lv_iload_n hx hb dX12_bring_36 rfl (lv_at hl 1 rfl) ?_
    refine lv_aload_n hx hb dX12_bring_37 rfl (lv_at hl 0 rfl) ?_
    refine va_get (D := D) (ci := 11) (v := .ref (aX 7)) (C := RX12) (T := TX12) (N := 74) hx hb hts iw_X12 hown hK hP 0 rfl rfl 7 (by decide) (hts _ (wG_in k_fl_X12_29 rfl)) (fun _ h9 => h9) rfl dX12_bring_38 ?_
    refine lv_iload_n hx hb dX12_bring_41 rfl (lv_at hl 1 rfl) ?_
    obtain ⟨v5, hv5, iv5, hf⟩ := jL_some hf
    refine ja_iald (P := r_t_childRow) hx hb hK hP 3 0 rfl rfl hv5 iv5 dX12_bring_42 ?_
    obtain ⟨q6, hq6, iq6, hf⟩ := jS_some hf
    refine ja_iast (P := r_t_child) (P' := q6) hx hb hK hP hD hS 1 0 rfl rfl hq6 iq6 dX12_bring_43 (fun H locs hP hD hS => ?_)
    have hP : va_P D vwCl (w_X12_bring cI cB cZ a_t aX u_t_code u_t_ahead u_t_length u_t_begins u_t_sort u_t_value u_t_letters u_t_word u_t_wrongAt u_t_laterFault u_t_laterPlace u_t_newClasses u_t_newLines u_t_turns u_t_shortest u_t_orders u_t_rowNumber u_t_ties s_t_n q6 r_t_childBack r_t_childRow r_t_classes q4 r_t_wedsBack r_t_wedsRow) H := hP
    have hD : va_D A (w_X12_bring cI cB cZ a_t aX u_t_code u_t_ahead u_t_length u_t_begins u_t_sort u_t_value u_t_letters u_t_word u_t_wrongAt u_t_laterFault u_t_laterPlace u_t_newClasses u_t_newLines u_t_turns u_t_shortest u_t_orders u_t_rowNumber u_t_ties s_t_n q6 r_t_childBack r_t_childRow r_t_classes q4 r_t_wedsBack r_t_wedsRow) := hD
    refine lv_iinc (v := (x1 + 1)) (lv' := [(1, .int (x1 + 1)), (0, .ref a_t)]) hx hb dX12_bring_44 hl (k := 1) rfl (by first | rfl | decide) (by decide) rfl (fun ls hl => ?_)
    refine lv_goto (tgt := 12) hx hb dX12_bring_47 (by decide) ?_
    have ho := Option.some.inj hf
    exact K.1 _ ho.symm _ _ _ hP hD hS (lv_sub hl [1, 0] rfl)
def f_X12_bring_l12 (r_t_childRow r_t_wedsRow : jA) (s_t_n : Int32) (r_t_childBack r_t_wedsBack r_t_child r_t_weds : jA) (x1 : Int32) : Option ((jA × jA)) :=
  jI (fun z => f_X12_bring_b12 r_t_childRow r_t_wedsRow s_t_n z.1 r_t_childBack z.2.1 r_t_wedsBack z.2.2) jF (r_t_child, r_t_weds, x1)
set_option maxHeartbeats 4000000 in
set_option maxRecDepth 100000 in
theorem t_X12_bring_l12 {p : Program} {l : Launch} {e : Env} {s : State} {m : MethodId} {args : Array Value} {below : List Frame} {meth : Method} {c : Code} {A : Nat → Prop} {Q : State → Prop} (G : jGt) (D : va_G) (cI cB cZ : ClassId) (a_t : Nat) (aX : Nat → Nat) (u_t_code u_t_ahead u_t_length u_t_begins u_t_sort u_t_value u_t_letters : Int32) (u_t_word : Int64) (u_t_wrongAt u_t_laterFault u_t_laterPlace u_t_newClasses u_t_newLines u_t_turns u_t_shortest u_t_orders u_t_rowNumber u_t_ties : Int32) (r_t_childRow r_t_classes r_t_wedsRow : jA) (s_t_n : Int32) (r_t_childBack r_t_wedsBack : jA) (C : jCx p s m args c cX12_bring 2 gX12_bring RX12 G D (jT cI cB cZ) A) : ∀ (n : Nat) (r_t_child r_t_weds : jA) (x1 : Int32) {eo : (jA × jA)}, jI (fun z => f_X12_bring_b12 r_t_childRow r_t_wedsRow s_t_n z.1 r_t_childBack z.2.1 r_t_wedsBack z.2.2) n (r_t_child, r_t_weds, x1) = some eo → (∀ (H : Heap) (locs : List Loc) (ls : Array Slot), va_P D vwCl (w_X12_bring cI cB cZ a_t aX u_t_code u_t_ahead u_t_length u_t_begins u_t_sort u_t_value u_t_letters u_t_word u_t_wrongAt u_t_laterFault u_t_laterPlace u_t_newClasses u_t_newLines u_t_turns u_t_shortest u_t_orders u_t_rowNumber u_t_ties s_t_n eo.1 r_t_childBack r_t_childRow r_t_classes eo.2 r_t_wedsBack r_t_wedsRow) H → va_D A (w_X12_bring cI cB cZ a_t aX u_t_code u_t_ahead u_t_length u_t_begins u_t_sort u_t_value u_t_letters u_t_word u_t_wrongAt u_t_laterFault u_t_laterPlace u_t_newClasses u_t_newLines u_t_turns u_t_shortest u_t_orders u_t_rowNumber u_t_ties s_t_n eo.1 r_t_childBack r_t_childRow r_t_classes eo.2 r_t_wedsBack r_t_wedsRow) → va_S A s.heap H locs → lv_has ls 2 [(0, .ref a_t)] → W p l e rX12_bring s m args below meth c H locs 0 0 Q (F0 m 50 ls [])) → ∀ (H : Heap) (locs : List Loc) (ls : Array Slot), va_P D vwCl (w_X12_bring cI cB cZ a_t aX u_t_code u_t_ahead u_t_length u_t_begins u_t_sort u_t_value u_t_letters u_t_word u_t_wrongAt u_t_laterFault u_t_laterPlace u_t_newClasses u_t_newLines u_t_turns u_t_shortest u_t_orders u_t_rowNumber u_t_ties s_t_n r_t_child r_t_childBack r_t_childRow r_t_classes r_t_weds r_t_wedsBack r_t_wedsRow) H → va_D A (w_X12_bring cI cB cZ a_t aX u_t_code u_t_ahead u_t_length u_t_begins u_t_sort u_t_value u_t_letters u_t_word u_t_wrongAt u_t_laterFault u_t_laterPlace u_t_newClasses u_t_newLines u_t_turns u_t_shortest u_t_orders u_t_rowNumber u_t_ties s_t_n r_t_child r_t_childBack r_t_childRow r_t_classes r_t_weds r_t_wedsBack r_t_wedsRow) → va_S A s.heap H locs → lv_has ls 2 [(0, .ref a_t), (1, .int x1)] → W p l e rX12_bring s m args below meth c H locs 0 0 Q (F0 m 12 ls []) := by
  intro n
  induction n with
  | zero =>
    intro r_t_child r_t_weds x1 eo hf
    exact (jI_zero hf).elim
  | succ n ih =>
    intro r_t_child r_t_weds x1 eo hf K H locs ls hP hD hS hl
    obtain ⟨o, hb1, ho⟩ := jI_some hf
    rcases ho with ⟨z, rfl, hf2⟩ | rfl
    · exact t_X12_bring_b12 G D cI cB cZ a_t aX u_t_code u_t_ahead u_t_length u_t_begins u_t_sort u_t_value u_t_letters u_t_word u_t_wrongAt u_t_laterFault u_t_laterPlace u_t_newClasses u_t_newLines u_t_turns u_t_shortest u_t_orders u_t_rowNumber u_t_ties r_t_childRow r_t_classes r_t_wedsRow s_t_n r_t_child r_t_childBack r_t_weds r_t_wedsBack x1 C hb1 ⟨fun z2 hz H locs ls hP hD hS hl => by cases hz; exact ih z.1 z.2.1 z.2.2 hf2 K H locs ls hP hD hS hl, fun z2 hz => by cases hz⟩ hP hD hS hl
    · exact t_X12_bring_b12 G D cI cB cZ a_t aX u_t_code u_t_ahead u_t_length u_t_begins u_t_sort u_t_value u_t_letters u_t_word u_t_wrongAt u_t_laterFault u_t_laterPlace u_t_newClasses u_t_newLines u_t_turns u_t_shortest u_t_orders u_t_rowNumber u_t_ties r_t_childRow r_t_classes r_t_wedsRow s_t_n r_t_child r_t_childBack r_t_weds r_t_wedsBack x1 C hb1 ⟨fun z2 hz => (by cases hz), fun z2 hz => by cases hz; exact K⟩ hP hD hS hl
def f_X12_bring (r_t_childRow r_t_classes r_t_wedsRow : jA) (s_t_n : Int32) (r_t_child r_t_childBack r_t_weds r_t_wedsBack : jA) : Option (Int32 × Int32 × jA × jA × jA × jA) :=
  jL r_t_classes (0 : Int32) fun v1 =>
  jM (f_X12_bring_l12 r_t_childRow r_t_wedsRow v1 r_t_childBack r_t_wedsBack r_t_child r_t_weds (0 : Int32)) fun e7 =>
  jM (f_X12_turnBack v1 e7.1 e7.2 r_t_childBack r_t_wedsBack) fun r8 =>
  if v1 ≤ 0 then
  some ((0 : Int32), v1, e7.1, r8.1, e7.2, r8.2)
  else
  some ((1 : Int32), v1, e7.1, r8.1, e7.2, r8.2)
set_option maxHeartbeats 4000000 in
set_option maxRecDepth 100000 in
theorem t_X12_bring {p : Program} {l : Launch} {e : Env} {s : State} {m : MethodId} {args : Array Value} {below : List Frame} {meth : Method} {c : Code} {A : Nat → Prop} {Q : State → Prop} (G : jGt) (D : va_G) (cI cB cZ : ClassId) (a_t : Nat) (aX : Nat → Nat) (u_t_code u_t_ahead u_t_length u_t_begins u_t_sort u_t_value u_t_letters : Int32) (u_t_word : Int64) (u_t_wrongAt u_t_laterFault u_t_laterPlace u_t_newClasses u_t_newLines u_t_turns u_t_shortest u_t_orders u_t_rowNumber u_t_ties : Int32) (r_t_childRow r_t_classes r_t_wedsRow : jA) (s_t_n : Int32) (r_t_child r_t_childBack r_t_weds r_t_wedsBack : jA) (C : jCx p s m args c cX12_bring 2 gX12_bring RX12 G D (jT cI cB cZ) A) {o : Int32 × Int32 × jA × jA × jA × jA} (hf : f_X12_bring r_t_childRow r_t_classes r_t_wedsRow s_t_n r_t_child r_t_childBack r_t_weds r_t_wedsBack = some o) (K : ∀ (H : Heap) (locs : List Loc) (pc : Nat) (ls : Array Slot), (o.1 = 0 ∨ o.1 = 1) → va_P D vwCl (w_X12_bring cI cB cZ a_t aX u_t_code u_t_ahead u_t_length u_t_begins u_t_sort u_t_value u_t_letters u_t_word u_t_wrongAt u_t_laterFault u_t_laterPlace u_t_newClasses u_t_newLines u_t_turns u_t_shortest u_t_orders u_t_rowNumber u_t_ties o.2.1 o.2.2.1 o.2.2.2.1 r_t_childRow r_t_classes o.2.2.2.2.1 o.2.2.2.2.2 r_t_wedsRow) H → va_S A s.heap H locs → decode cX12_bring pc = .ok (.ireturn, 1) → W p l e rX12_bring s m args below meth c H locs 0 0 Q (F0 m pc ls [.int o.1])) {H : Heap} {locs : List Loc} {ls : Array Slot} (hP : va_P D vwCl (w_X12_bring cI cB cZ a_t aX u_t_code u_t_ahead u_t_length u_t_begins u_t_sort u_t_value u_t_letters u_t_word u_t_wrongAt u_t_laterFault u_t_laterPlace u_t_newClasses u_t_newLines u_t_turns u_t_shortest u_t_orders u_t_rowNumber u_t_ties s_t_n r_t_child r_t_childBack r_t_childRow r_t_classes r_t_weds r_t_wedsBack r_t_wedsRow) H) (hD : va_D A (w_X12_bring cI cB cZ a_t aX u_t_code u_t_ahead u_t_length u_t_begins u_t_sort u_t_value u_t_letters u_t_word u_t_wrongAt u_t_laterFault u_t_laterPlace u_t_newClasses u_t_newLines u_t_turns u_t_shortest u_t_orders u_t_rowNumber u_t_ties s_t_n r_t_child r_t_childBack r_t_childRow r_t_classes r_t_weds r_t_wedsBack r_t_wedsRow)) (hS : va_S A s.heap H locs) (hl : lv_has ls 2 [(0, .ref a_t)]) : W p l e rX12_bring s m args below meth c H locs 0 0 Q (F0 m 0 ls []) := by
  obtain ⟨⟨hx, hb, hml, hown, hts⟩, hK, hN, hA⟩ := C
  have C : jCx p s m args c cX12_bring 2 gX12_bring RX12 G D (jT cI cB cZ) A := ⟨⟨hx, hb, hml, hown, hts⟩, hK, hN, hA⟩
  unfold f_X12_bring at hf
  refine lv_aload_n hx hb dX12_bring_0 rfl (lv_at hl 0 rfl) ?_
  refine lv_aload_n hx hb dX12_bring_1 rfl (lv_at hl 0 rfl) ?_
  refine va_get (D := D) (ci := 11) (v := .ref (aX 5)) (C := RX12) (T := TX12) (N := 74) hx hb hts iw_X12 hown hK hP 0 rfl rfl 5 (by decide) (hts _ (wG_in k_fl_X12_23 rfl)) (fun _ h9 => h9) rfl dX12_bring_2 ?_
  refine lv_iconst (v := (0 : Int32)) hx hb dX12_bring_5 (by decide) ?_
  obtain ⟨v1, hv1, iv1, hf⟩ := jL_some hf
  refine ja_iald (P := r_t_classes) hx hb hK hP 4 0 rfl rfl hv1 iv1 dX12_bring_6 ?_
  refine va_put (D := D) (ci := 11) (v := .int v1) (ty := .int) (C := RX12) (T := TX12) (N := 74) hx hb hts iw_X12 tyX12 tyX12_ok nmX12 hown hK hP hD hS 0 rfl rfl 31 (by decide) (hts _ (wG_in k_fl_X12_189 rfl)) (fun _ h9 => h9) rfl (tyX12_ok 31 (by decide)) rfl rfl (Nat.le_of_ble_eq_true rfl) dX12_bring_7 (fun H locs hP hD hS => ?_)
  have hP : va_P D vwCl (w_X12_bring cI cB cZ a_t aX u_t_code u_t_ahead u_t_length u_t_begins u_t_sort u_t_value u_t_letters u_t_word u_t_wrongAt u_t_laterFault u_t_laterPlace u_t_newClasses u_t_newLines u_t_turns u_t_shortest u_t_orders u_t_rowNumber u_t_ties v1 r_t_child r_t_childBack r_t_childRow r_t_classes r_t_weds r_t_wedsBack r_t_wedsRow) H := hP
  have hD : va_D A (w_X12_bring cI cB cZ a_t aX u_t_code u_t_ahead u_t_length u_t_begins u_t_sort u_t_value u_t_letters u_t_word u_t_wrongAt u_t_laterFault u_t_laterPlace u_t_newClasses u_t_newLines u_t_turns u_t_shortest u_t_orders u_t_rowNumber u_t_ties v1 r_t_child r_t_childBack r_t_childRow r_t_classes r_t_weds r_t_wedsBack r_t_wedsRow) := hD
  refine lv_iconst (v := (0 : Int32)) hx hb dX12_bring_10 (by decide) ?_
  refine lv_istore_n (lv' := [(1, .int (0 : Int32)), (0, .ref a_t)]) hx hb dX12_bring_11 rfl hl (by decide) rfl (fun ls hl => ?_)
  obtain ⟨e7, hg7, hf⟩ := jM_some hf
  refine t_X12_bring_l12 G D cI cB cZ a_t aX u_t_code u_t_ahead u_t_length u_t_begins u_t_sort u_t_value u_t_letters u_t_word u_t_wrongAt u_t_laterFault u_t_laterPlace u_t_newClasses u_t_newLines u_t_turns u_t_shortest u_t_orders u_t_rowNumber u_t_ties r_t_childRow r_t_classes r_t_wedsRow v1 r_t_childBack r_t_wedsBack C jF r_t_child r_t_weds (0 : Int32) hg7 ?_ _ _ _ hP hD hS (lv_sub hl [1, 0] rfl)
  intro H locs ls hP hD hS hl
  refine lv_aload_n hx hb dX12_bring_50 rfl (lv_at hl 0 rfl) ?_
  obtain ⟨r8, hgr8, hf⟩ := jM_some hf
  refine jcV_v (As := []) (rest := []) ⟨hx, hb, hml, hown, hts⟩ hK hN hA (c_X12_turnBack l G D cI cB cZ a_t aX u_t_code u_t_ahead u_t_length u_t_begins u_t_sort u_t_value u_t_letters u_t_word u_t_wrongAt u_t_laterFault u_t_laterPlace u_t_newClasses u_t_newLines u_t_turns u_t_shortest u_t_orders u_t_rowNumber u_t_ties v1 e7.1 e7.2 r_t_childBack r_t_wedsBack hgr8) (cwV 0 hts (wG_V k_ml_X12_192 k_im_X12_turnBack k_se_X12_turnBack k_in_X12 k_co_X12_turnBack) rfl rfl rfl hd_X12_turnBack ⟨Nat.le_of_ble_eq_true rfl, Nat.le_of_ble_eq_true rfl⟩) hP hD hS [0, 1, 2, 5, 6] rfl rfl rfl (ci := 11) rfl 0 rfl rfl rfl hl.1 rfl (Nat.le_of_ble_eq_true rfl) dX12_bring_51 ⟨Nat.le_of_ble_eq_true rfl, Nat.le_of_ble_eq_true rfl⟩ (fun H locs hP hD hS => ?_)
  have hP : va_P D vwCl (w_X12_bring cI cB cZ a_t aX u_t_code u_t_ahead u_t_length u_t_begins u_t_sort u_t_value u_t_letters u_t_word u_t_wrongAt u_t_laterFault u_t_laterPlace u_t_newClasses u_t_newLines u_t_turns u_t_shortest u_t_orders u_t_rowNumber u_t_ties v1 e7.1 r8.1 r_t_childRow r_t_classes e7.2 r8.2 r_t_wedsRow) H := hP
  have hD : va_D A (w_X12_bring cI cB cZ a_t aX u_t_code u_t_ahead u_t_length u_t_begins u_t_sort u_t_value u_t_letters u_t_word u_t_wrongAt u_t_laterFault u_t_laterPlace u_t_newClasses u_t_newLines u_t_turns u_t_shortest u_t_orders u_t_rowNumber u_t_ties v1 e7.1 r8.1 r_t_childRow r_t_classes e7.2 r8.2 r_t_wedsRow) := hD
  refine lv_aload_n hx hb dX12_bring_54 rfl (lv_at hl 0 rfl) ?_
  refine va_get (D := D) (ci := 11) (v := .int v1) (C := RX12) (T := TX12) (N := 74) hx hb hts iw_X12 hown hK hP 0 rfl rfl 31 (by decide) (hts _ (wG_in k_fl_X12_189 rfl)) (fun _ h9 => h9) rfl dX12_bring_55 ?_
  refine lv_if_le (tgt := 65) hx hb dX12_bring_58 (by decide) (fun c9 => ?_) (fun c9 => ?_)
  · replace hf := jif_t c9 hf
    refine lv_iconst (v := (0 : Int32)) hx hb dX12_bring_65 (by decide) ?_
    have ho := Option.some.inj hf
    subst ho
    exact K _ _ _ _ (Or.inl rfl) hP hS dX12_bring_66
  · replace hf := jif_f c9 hf
    refine lv_iconst (v := (1 : Int32)) hx hb dX12_bring_61 (by decide) ?_
    refine lv_goto (tgt := 66) hx hb dX12_bring_62 (by decide) ?_
    have ho := Option.some.inj hf
    subst ho
    exact K _ _ _ _ (Or.inr rfl) hP hS dX12_bring_66
set_option maxHeartbeats 4000000 in
set_option maxRecDepth 100000 in
theorem c_X12_bring (l : Launch) (G : jGt) (D : va_G) (cI cB cZ : ClassId) (a_t : Nat) (aX : Nat → Nat) (u_t_code u_t_ahead u_t_length u_t_begins u_t_sort u_t_value u_t_letters : Int32) (u_t_word : Int64) (u_t_wrongAt u_t_laterFault u_t_laterPlace u_t_newClasses u_t_newLines u_t_turns u_t_shortest u_t_orders u_t_rowNumber u_t_ties : Int32) (r_t_childRow r_t_classes r_t_wedsRow : jA) (s_t_n : Int32) (r_t_child r_t_childBack r_t_weds r_t_wedsBack : jA) {o : Int32 × Int32 × jA × jA × jA × jA} (hf : f_X12_bring r_t_childRow r_t_classes r_t_wedsRow s_t_n r_t_child r_t_childBack r_t_weds r_t_wedsBack = some o) : jMi l yX12_bring gX12_bring rX12_bring G D (jT cI cB cZ) [.ref a_t] (w_X12_bring cI cB cZ a_t aX u_t_code u_t_ahead u_t_length u_t_begins u_t_sort u_t_value u_t_letters u_t_word u_t_wrongAt u_t_laterFault u_t_laterPlace u_t_newClasses u_t_newLines u_t_turns u_t_shortest u_t_orders u_t_rowNumber u_t_ties s_t_n r_t_child r_t_childBack r_t_childRow r_t_classes r_t_weds r_t_wedsBack r_t_wedsRow) (w_X12_bring cI cB cZ a_t aX u_t_code u_t_ahead u_t_length u_t_begins u_t_sort u_t_value u_t_letters u_t_word u_t_wrongAt u_t_laterFault u_t_laterPlace u_t_newClasses u_t_newLines u_t_turns u_t_shortest u_t_orders u_t_rowNumber u_t_ties o.2.1 o.2.2.1 o.2.2.2.1 r_t_childRow r_t_classes o.2.2.2.2.1 o.2.2.2.2.2 r_t_wedsRow) o.1 := by
  refine jmk_z RX12 rfl (by decide +kernel) rfl (Nat.le_of_ble_eq_true rfl) rfl ?_
  intro p e s m args below meth c ls A Q C hP hD hS hl K
  exact t_X12_bring G D cI cB cZ a_t aX u_t_code u_t_ahead u_t_length u_t_begins u_t_sort u_t_value u_t_letters u_t_word u_t_wrongAt u_t_laterFault u_t_laterPlace u_t_newClasses u_t_newLines u_t_turns u_t_shortest u_t_orders u_t_rowNumber u_t_ties r_t_childRow r_t_classes r_t_wedsRow s_t_n r_t_child r_t_childBack r_t_weds r_t_wedsBack C hf K hP hD hS hl
abbrev rX12_isProper : Room := { frames := 0, cells := 0, slots := 0, locals := 0 }
abbrev gX12_isProper : List Cond := wG yX12_isProper cX12_isProper 5 (some .boolean)
def w_X12_isProper (cI cB cZ : ClassId) (a_t : Nat) (aX : Nat → Nat) (u_t_code u_t_ahead u_t_length u_t_begins u_t_sort u_t_value u_t_letters : Int32) (u_t_word : Int64) (u_t_wrongAt u_t_laterFault u_t_laterPlace u_t_newClasses u_t_newLines u_t_turns u_t_shortest u_t_orders u_t_rowNumber u_t_ties s_t_n : Int32) (r_t_child r_t_weds : jA) : va_W := [(a_t, .inr (11, (oX12 aX u_t_code s_t_n u_t_ahead u_t_length u_t_begins u_t_sort u_t_value u_t_letters u_t_word u_t_wrongAt u_t_laterFault u_t_laterPlace u_t_newClasses u_t_newLines u_t_turns u_t_shortest u_t_orders u_t_rowNumber u_t_ties))), ((aX 33), .inl (cI, r_t_child.1, .inl r_t_child.2)), ((aX 32), .inl (cI, r_t_weds.1, .inl r_t_weds.2))]
def f_X12_isProper_j49 (x1 x2 x3 : Int32) : Option ((Int32 × Int32) ⊕ ((Int32))) :=
  some (Sum.inl (x1, (x3 + 1)))
set_option maxHeartbeats 4000000 in
set_option maxRecDepth 100000 in
theorem t_X12_isProper_j49 {p : Program} {l : Launch} {e : Env} {s : State} {m : MethodId} {args : Array Value} {below : List Frame} {meth : Method} {c : Code} {A : Nat → Prop} {Q : State → Prop} (G : jGt) (D : va_G) (cI cB cZ : ClassId) (a_t : Nat) (aX : Nat → Nat) (u_t_code u_t_ahead u_t_length u_t_begins u_t_sort u_t_value u_t_letters : Int32) (u_t_word : Int64) (u_t_wrongAt u_t_laterFault u_t_laterPlace u_t_newClasses u_t_newLines u_t_turns u_t_shortest u_t_orders u_t_rowNumber u_t_ties s_t_n : Int32) (r_t_child r_t_weds : jA) (x1 x2 x3 : Int32) (C : jCx p s m args c cX12_isProper 5 gX12_isProper RX12 G D (jT cI cB cZ) A) {o : (Int32 × Int32) ⊕ ((Int32))} (hf : f_X12_isProper_j49 x1 x2 x3 = some o) (K : (∀ z, o = Sum.inl z → ∀ (H : Heap) (locs : List Loc) (ls : Array Slot), va_P D vwCl (w_X12_isProper cI cB cZ a_t aX u_t_code u_t_ahead u_t_length u_t_begins u_t_sort u_t_value u_t_letters u_t_word u_t_wrongAt u_t_laterFault u_t_laterPlace u_t_newClasses u_t_newLines u_t_turns u_t_shortest u_t_orders u_t_rowNumber u_t_ties s_t_n r_t_child r_t_weds) H → va_D A (w_X12_isProper cI cB cZ a_t aX u_t_code u_t_ahead u_t_length u_t_begins u_t_sort u_t_value u_t_letters u_t_word u_t_wrongAt u_t_laterFault u_t_laterPlace u_t_newClasses u_t_newLines u_t_turns u_t_shortest u_t_orders u_t_rowNumber u_t_ties s_t_n r_t_child r_t_weds) → va_S A s.heap H locs → lv_has ls 5 [(0, .ref a_t), (1, .int z.1), (2, .int x2), (3, .int z.2)] → W p l e rX12_isProper s m args below meth c H locs 0 0 Q (F0 m 13 ls [])) ∧ (∀ z, o = Sum.inr z → ∀ (H : Heap) (locs : List Loc) (ls : Array Slot), va_P D vwCl (w_X12_isProper cI cB cZ a_t aX u_t_code u_t_ahead u_t_length u_t_begins u_t_sort u_t_value u_t_letters u_t_word u_t_wrongAt u_t_laterFault u_t_laterPlace u_t_newClasses u_t_newLines u_t_turns u_t_shortest u_t_orders u_t_rowNumber u_t_ties s_t_n r_t_child r_t_weds) H → va_D A (w_X12_isProper cI cB cZ a_t aX u_t_code u_t_ahead u_t_length u_t_begins u_t_sort u_t_value u_t_letters u_t_word u_t_wrongAt u_t_laterFault u_t_laterPlace u_t_newClasses u_t_newLines u_t_turns u_t_shortest u_t_orders u_t_rowNumber u_t_ties s_t_n r_t_child r_t_weds) → va_S A s.heap H locs → lv_has ls 5 [(0, .ref a_t), (1, .int z), (2, .int x2)] → W p l e rX12_isProper s m args below meth c H locs 0 0 Q (F0 m 55 ls []))) {H : Heap} {locs : List Loc} {ls : Array Slot} (hP : va_P D vwCl (w_X12_isProper cI cB cZ a_t aX u_t_code u_t_ahead u_t_length u_t_begins u_t_sort u_t_value u_t_letters u_t_word u_t_wrongAt u_t_laterFault u_t_laterPlace u_t_newClasses u_t_newLines u_t_turns u_t_shortest u_t_orders u_t_rowNumber u_t_ties s_t_n r_t_child r_t_weds) H) (hD : va_D A (w_X12_isProper cI cB cZ a_t aX u_t_code u_t_ahead u_t_length u_t_begins u_t_sort u_t_value u_t_letters u_t_word u_t_wrongAt u_t_laterFault u_t_laterPlace u_t_newClasses u_t_newLines u_t_turns u_t_shortest u_t_orders u_t_rowNumber u_t_ties s_t_n r_t_child r_t_weds)) (hS : va_S A s.heap H locs) (hl : lv_has ls 5 [(0, .ref a_t), (1, .int x1), (2, .int x2), (3, .int x3)]) : W p l e rX12_isProper s m args below meth c H locs 0 0 Q (F0 m 49 ls []) := by
  obtain ⟨⟨hx, hb, hml, hown, hts⟩, hK, hN, hA⟩ := C
  have C : jCx p s m args c cX12_isProper 5 gX12_isProper RX12 G D (jT cI cB cZ) A := ⟨⟨hx, hb, hml, hown, hts⟩, hK, hN, hA⟩
  unfold f_X12_isProper_j49 at hf
  refine lv_iinc (v := (x3 + 1)) (lv' := [(3, .int (x3 + 1)), (0, .ref a_t), (1, .int x1), (2, .int x2)]) hx hb dX12_isProper_49 hl (k := 3) rfl (by first | rfl | decide) (by decide) rfl (fun ls hl => ?_)
  refine lv_goto (tgt := 13) hx hb dX12_isProper_52 (by decide) ?_
  have ho := Option.some.inj hf
  exact K.1 _ ho.symm _ _ _ hP hD hS (lv_sub hl [1, 2, 3, 0] rfl)
def f_X12_isProper_b13 (s_t_n : Int32) (r_t_child r_t_weds : jA) (x1 x2 x3 : Int32) : Option ((Int32 × Int32) ⊕ ((Int32))) :=
  if s_t_n ≤ x3 then
  some (Sum.inr x1)
  else
  if ((x1 >>> (x3 &&& 31)) &&& (1 : Int32)) = 0 then
  f_X12_isProper_j49 x1 x2 x3
  else
  jL r_t_weds x3 fun v4 =>
  jL r_t_child x3 fun v5 =>
  jV (x1 ||| (((1 : Int32) <<< (v4 &&& 31)) ||| ((1 : Int32) <<< (v5 &&& 31)))) fun v6 =>
  f_X12_isProper_j49 v6 x2 x3
set_option maxHeartbeats 4000000 in
set_option maxRecDepth 100000 in
theorem t_X12_isProper_b13 {p : Program} {l : Launch} {e : Env} {s : State} {m : MethodId} {args : Array Value} {below : List Frame} {meth : Method} {c : Code} {A : Nat → Prop} {Q : State → Prop} (G : jGt) (D : va_G) (cI cB cZ : ClassId) (a_t : Nat) (aX : Nat → Nat) (u_t_code u_t_ahead u_t_length u_t_begins u_t_sort u_t_value u_t_letters : Int32) (u_t_word : Int64) (u_t_wrongAt u_t_laterFault u_t_laterPlace u_t_newClasses u_t_newLines u_t_turns u_t_shortest u_t_orders u_t_rowNumber u_t_ties s_t_n : Int32) (r_t_child r_t_weds : jA) (x1 x2 x3 : Int32) (C : jCx p s m args c cX12_isProper 5 gX12_isProper RX12 G D (jT cI cB cZ) A) {o : (Int32 × Int32) ⊕ ((Int32))} (hf : f_X12_isProper_b13 s_t_n r_t_child r_t_weds x1 x2 x3 = some o) (K : (∀ z, o = Sum.inl z → ∀ (H : Heap) (locs : List Loc) (ls : Array Slot), va_P D vwCl (w_X12_isProper cI cB cZ a_t aX u_t_code u_t_ahead u_t_length u_t_begins u_t_sort u_t_value u_t_letters u_t_word u_t_wrongAt u_t_laterFault u_t_laterPlace u_t_newClasses u_t_newLines u_t_turns u_t_shortest u_t_orders u_t_rowNumber u_t_ties s_t_n r_t_child r_t_weds) H → va_D A (w_X12_isProper cI cB cZ a_t aX u_t_code u_t_ahead u_t_length u_t_begins u_t_sort u_t_value u_t_letters u_t_word u_t_wrongAt u_t_laterFault u_t_laterPlace u_t_newClasses u_t_newLines u_t_turns u_t_shortest u_t_orders u_t_rowNumber u_t_ties s_t_n r_t_child r_t_weds) → va_S A s.heap H locs → lv_has ls 5 [(0, .ref a_t), (1, .int z.1), (2, .int x2), (3, .int z.2)] → W p l e rX12_isProper s m args below meth c H locs 0 0 Q (F0 m 13 ls [])) ∧ (∀ z, o = Sum.inr z → ∀ (H : Heap) (locs : List Loc) (ls : Array Slot), va_P D vwCl (w_X12_isProper cI cB cZ a_t aX u_t_code u_t_ahead u_t_length u_t_begins u_t_sort u_t_value u_t_letters u_t_word u_t_wrongAt u_t_laterFault u_t_laterPlace u_t_newClasses u_t_newLines u_t_turns u_t_shortest u_t_orders u_t_rowNumber u_t_ties s_t_n r_t_child r_t_weds) H → va_D A (w_X12_isProper cI cB cZ a_t aX u_t_code u_t_ahead u_t_length u_t_begins u_t_sort u_t_value u_t_letters u_t_word u_t_wrongAt u_t_laterFault u_t_laterPlace u_t_newClasses u_t_newLines u_t_turns u_t_shortest u_t_orders u_t_rowNumber u_t_ties s_t_n r_t_child r_t_weds) → va_S A s.heap H locs → lv_has ls 5 [(0, .ref a_t), (1, .int z), (2, .int x2)] → W p l e rX12_isProper s m args below meth c H locs 0 0 Q (F0 m 55 ls []))) {H : Heap} {locs : List Loc} {ls : Array Slot} (hP : va_P D vwCl (w_X12_isProper cI cB cZ a_t aX u_t_code u_t_ahead u_t_length u_t_begins u_t_sort u_t_value u_t_letters u_t_word u_t_wrongAt u_t_laterFault u_t_laterPlace u_t_newClasses u_t_newLines u_t_turns u_t_shortest u_t_orders u_t_rowNumber u_t_ties s_t_n r_t_child r_t_weds) H) (hD : va_D A (w_X12_isProper cI cB cZ a_t aX u_t_code u_t_ahead u_t_length u_t_begins u_t_sort u_t_value u_t_letters u_t_word u_t_wrongAt u_t_laterFault u_t_laterPlace u_t_newClasses u_t_newLines u_t_turns u_t_shortest u_t_orders u_t_rowNumber u_t_ties s_t_n r_t_child r_t_weds)) (hS : va_S A s.heap H locs) (hl : lv_has ls 5 [(0, .ref a_t), (1, .int x1), (2, .int x2), (3, .int x3)]) : W p l e rX12_isProper s m args below meth c H locs 0 0 Q (F0 m 13 ls []) := by
  obtain ⟨⟨hx, hb, hml, hown, hts⟩, hK, hN, hA⟩ := C
  have C : jCx p s m args c cX12_isProper 5 gX12_isProper RX12 G D (jT cI cB cZ) A := ⟨⟨hx, hb, hml, hown, hts⟩, hK, hN, hA⟩
  unfold f_X12_isProper_b13 at hf
  refine lv_iload_n hx hb dX12_isProper_13 rfl (lv_at hl 3 rfl) ?_
  refine lv_aload_n hx hb dX12_isProper_14 rfl (lv_at hl 0 rfl) ?_
  refine va_get (D := D) (ci := 11) (v := .int s_t_n) (C := RX12) (T := TX12) (N := 74) hx hb hts iw_X12 hown hK hP 0 rfl rfl 31 (by decide) (hts _ (wG_in k_fl_X12_189 rfl)) (fun _ h9 => h9) rfl dX12_isProper_15 ?_
  refine lv_icmp_ge (tgt := 55) hx hb dX12_isProper_18 (by decide) (fun c2 => ?_) (fun c2 => ?_)
  · replace hf := jif_t c2 hf
    have ho := Option.some.inj hf
    exact (K.2 _ ho.symm) _ _ _ hP hD hS (lv_sub hl [0, 1, 2] rfl)
  · replace hf := jif_f c2 hf
    refine lv_iload_n hx hb dX12_isProper_21 rfl (lv_at hl 1 rfl) ?_
    refine lv_iload_n hx hb dX12_isProper_22 rfl (lv_at hl 3 rfl) ?_
    refine lv_ishr hx hb dX12_isProper_23 ?_
    refine lv_iconst (v := (1 : Int32)) hx hb dX12_isProper_24 (by decide) ?_
    refine lv_iand hx hb dX12_isProper_25 ?_
    refine lv_if_eq (tgt := 49) hx hb dX12_isProper_26 (by decide) (fun c3 => ?_) (fun c3 => ?_)
    · replace hf := jif_t c3 hf
      exact t_X12_isProper_j49 G D cI cB cZ a_t aX u_t_code u_t_ahead u_t_length u_t_begins u_t_sort u_t_value u_t_letters u_t_word u_t_wrongAt u_t_laterFault u_t_laterPlace u_t_newClasses u_t_newLines u_t_turns u_t_shortest u_t_orders u_t_rowNumber u_t_ties s_t_n r_t_child r_t_weds x1 x2 x3 C hf K hP hD hS (lv_sub hl [0, 1, 2, 3] rfl)
    · replace hf := jif_f c3 hf
      refine lv_iload_n hx hb dX12_isProper_29 rfl (lv_at hl 1 rfl) ?_
      refine lv_iconst (v := (1 : Int32)) hx hb dX12_isProper_30 (by decide) ?_
      refine lv_aload_n hx hb dX12_isProper_31 rfl (lv_at hl 0 rfl) ?_
      refine va_get (D := D) (ci := 11) (v := .ref (aX 32)) (C := RX12) (T := TX12) (N := 74) hx hb hts iw_X12 hown hK hP 0 rfl rfl 32 (by decide) (hts _ (wG_in k_fl_X12_101 rfl)) (fun _ h9 => h9) rfl dX12_isProper_32 ?_
      refine lv_iload_n hx hb dX12_isProper_35 rfl (lv_at hl 3 rfl) ?_
      obtain ⟨v4, hv4, iv4, hf⟩ := jL_some hf
      refine ja_iald (P := r_t_weds) hx hb hK hP 2 0 rfl rfl hv4 iv4 dX12_isProper_36 ?_
      refine lv_ishl hx hb dX12_isProper_37 ?_
      refine lv_iconst (v := (1 : Int32)) hx hb dX12_isProper_38 (by decide) ?_
      refine lv_aload_n hx hb dX12_isProper_39 rfl (lv_at hl 0 rfl) ?_
      refine va_get (D := D) (ci := 11) (v := .ref (aX 33)) (C := RX12) (T := TX12) (N := 74) hx hb hts iw_X12 hown hK hP 0 rfl rfl 33 (by decide) (hts _ (wG_in k_fl_X12_104 rfl)) (fun _ h9 => h9) rfl dX12_isProper_40 ?_
      refine lv_iload_n hx hb dX12_isProper_43 rfl (lv_at hl 3 rfl) ?_
      obtain ⟨v5, hv5, iv5, hf⟩ := jL_some hf
      refine ja_iald (P := r_t_child) hx hb hK hP 1 0 rfl rfl hv5 iv5 dX12_isProper_44 ?_
      refine lv_ishl hx hb dX12_isProper_45 ?_
      refine lv_ior hx hb dX12_isProper_46 ?_
      refine lv_ior hx hb dX12_isProper_47 ?_
      obtain ⟨v6, hv6, hf⟩ := jV_some hf
      refine jtop hv6 ?_
      refine lv_istore_n (lv' := [(1, .int v6), (0, .ref a_t), (2, .int x2), (3, .int x3)]) hx hb dX12_isProper_48 rfl hl (by decide) rfl (fun ls hl => ?_)
      exact t_X12_isProper_j49 G D cI cB cZ a_t aX u_t_code u_t_ahead u_t_length u_t_begins u_t_sort u_t_value u_t_letters u_t_word u_t_wrongAt u_t_laterFault u_t_laterPlace u_t_newClasses u_t_newLines u_t_turns u_t_shortest u_t_orders u_t_rowNumber u_t_ties s_t_n r_t_child r_t_weds v6 x2 x3 C hf K hP hD hS (lv_sub hl [1, 0, 2, 3] rfl)
def f_X12_isProper_l13 (s_t_n : Int32) (r_t_child r_t_weds : jA) (x2 x1 x3 : Int32) : Option ((Int32)) :=
  jI (fun z => f_X12_isProper_b13 s_t_n r_t_child r_t_weds z.1 x2 z.2) jF (x1, x3)
set_option maxHeartbeats 4000000 in
set_option maxRecDepth 100000 in
theorem t_X12_isProper_l13 {p : Program} {l : Launch} {e : Env} {s : State} {m : MethodId} {args : Array Value} {below : List Frame} {meth : Method} {c : Code} {A : Nat → Prop} {Q : State → Prop} (G : jGt) (D : va_G) (cI cB cZ : ClassId) (a_t : Nat) (aX : Nat → Nat) (u_t_code u_t_ahead u_t_length u_t_begins u_t_sort u_t_value u_t_letters : Int32) (u_t_word : Int64) (u_t_wrongAt u_t_laterFault u_t_laterPlace u_t_newClasses u_t_newLines u_t_turns u_t_shortest u_t_orders u_t_rowNumber u_t_ties s_t_n : Int32) (r_t_child r_t_weds : jA) (x2 : Int32) (C : jCx p s m args c cX12_isProper 5 gX12_isProper RX12 G D (jT cI cB cZ) A) : ∀ (n : Nat) (x1 x3 : Int32) {eo : (Int32)}, jI (fun z => f_X12_isProper_b13 s_t_n r_t_child r_t_weds z.1 x2 z.2) n (x1, x3) = some eo → (∀ (H : Heap) (locs : List Loc) (ls : Array Slot), va_P D vwCl (w_X12_isProper cI cB cZ a_t aX u_t_code u_t_ahead u_t_length u_t_begins u_t_sort u_t_value u_t_letters u_t_word u_t_wrongAt u_t_laterFault u_t_laterPlace u_t_newClasses u_t_newLines u_t_turns u_t_shortest u_t_orders u_t_rowNumber u_t_ties s_t_n r_t_child r_t_weds) H → va_D A (w_X12_isProper cI cB cZ a_t aX u_t_code u_t_ahead u_t_length u_t_begins u_t_sort u_t_value u_t_letters u_t_word u_t_wrongAt u_t_laterFault u_t_laterPlace u_t_newClasses u_t_newLines u_t_turns u_t_shortest u_t_orders u_t_rowNumber u_t_ties s_t_n r_t_child r_t_weds) → va_S A s.heap H locs → lv_has ls 5 [(0, .ref a_t), (1, .int eo), (2, .int x2)] → W p l e rX12_isProper s m args below meth c H locs 0 0 Q (F0 m 55 ls [])) → ∀ (H : Heap) (locs : List Loc) (ls : Array Slot), va_P D vwCl (w_X12_isProper cI cB cZ a_t aX u_t_code u_t_ahead u_t_length u_t_begins u_t_sort u_t_value u_t_letters u_t_word u_t_wrongAt u_t_laterFault u_t_laterPlace u_t_newClasses u_t_newLines u_t_turns u_t_shortest u_t_orders u_t_rowNumber u_t_ties s_t_n r_t_child r_t_weds) H → va_D A (w_X12_isProper cI cB cZ a_t aX u_t_code u_t_ahead u_t_length u_t_begins u_t_sort u_t_value u_t_letters u_t_word u_t_wrongAt u_t_laterFault u_t_laterPlace u_t_newClasses u_t_newLines u_t_turns u_t_shortest u_t_orders u_t_rowNumber u_t_ties s_t_n r_t_child r_t_weds) → va_S A s.heap H locs → lv_has ls 5 [(0, .ref a_t), (1, .int x1), (2, .int x2), (3, .int x3)] → W p l e rX12_isProper s m args below meth c H locs 0 0 Q (F0 m 13 ls []) := by
  intro n
  induction n with
  | zero =>
    intro x1 x3 eo hf
    exact (jI_zero hf).elim
  | succ n ih =>
    intro x1 x3 eo hf K H locs ls hP hD hS hl
    obtain ⟨o, hb1, ho⟩ := jI_some hf
    rcases ho with ⟨z, rfl, hf2⟩ | rfl
    · exact t_X12_isProper_b13 G D cI cB cZ a_t aX u_t_code u_t_ahead u_t_length u_t_begins u_t_sort u_t_value u_t_letters u_t_word u_t_wrongAt u_t_laterFault u_t_laterPlace u_t_newClasses u_t_newLines u_t_turns u_t_shortest u_t_orders u_t_rowNumber u_t_ties s_t_n r_t_child r_t_weds x1 x2 x3 C hb1 ⟨fun z2 hz H locs ls hP hD hS hl => by cases hz; exact ih z.1 z.2 hf2 K H locs ls hP hD hS hl, fun z2 hz => by cases hz⟩ hP hD hS hl
    · exact t_X12_isProper_b13 G D cI cB cZ a_t aX u_t_code u_t_ahead u_t_length u_t_begins u_t_sort u_t_value u_t_letters u_t_word u_t_wrongAt u_t_laterFault u_t_laterPlace u_t_newClasses u_t_newLines u_t_turns u_t_shortest u_t_orders u_t_rowNumber u_t_ties s_t_n r_t_child r_t_weds x1 x2 x3 C hb1 ⟨fun z2 hz => (by cases hz), fun z2 hz => by cases hz; exact K⟩ hP hD hS hl
def f_X12_isProper_b4 (s_t_n : Int32) (r_t_child r_t_weds : jA) (x1 x2 : Int32) : Option ((Int32 × Int32) ⊕ ((Int32))) :=
  if x1 = x2 then
  some (Sum.inr x1)
  else
  jM (f_X12_isProper_l13 s_t_n r_t_child r_t_weds x1 x1 (0 : Int32)) fun e7 =>
  some (Sum.inl (e7, x1))
set_option maxHeartbeats 4000000 in
set_option maxRecDepth 100000 in
theorem t_X12_isProper_b4 {p : Program} {l : Launch} {e : Env} {s : State} {m : MethodId} {args : Array Value} {below : List Frame} {meth : Method} {c : Code} {A : Nat → Prop} {Q : State → Prop} (G : jGt) (D : va_G) (cI cB cZ : ClassId) (a_t : Nat) (aX : Nat → Nat) (u_t_code u_t_ahead u_t_length u_t_begins u_t_sort u_t_value u_t_letters : Int32) (u_t_word : Int64) (u_t_wrongAt u_t_laterFault u_t_laterPlace u_t_newClasses u_t_newLines u_t_turns u_t_shortest u_t_orders u_t_rowNumber u_t_ties s_t_n : Int32) (r_t_child r_t_weds : jA) (x1 x2 : Int32) (C : jCx p s m args c cX12_isProper 5 gX12_isProper RX12 G D (jT cI cB cZ) A) {o : (Int32 × Int32) ⊕ ((Int32))} (hf : f_X12_isProper_b4 s_t_n r_t_child r_t_weds x1 x2 = some o) (K : (∀ z, o = Sum.inl z → ∀ (H : Heap) (locs : List Loc) (ls : Array Slot), va_P D vwCl (w_X12_isProper cI cB cZ a_t aX u_t_code u_t_ahead u_t_length u_t_begins u_t_sort u_t_value u_t_letters u_t_word u_t_wrongAt u_t_laterFault u_t_laterPlace u_t_newClasses u_t_newLines u_t_turns u_t_shortest u_t_orders u_t_rowNumber u_t_ties s_t_n r_t_child r_t_weds) H → va_D A (w_X12_isProper cI cB cZ a_t aX u_t_code u_t_ahead u_t_length u_t_begins u_t_sort u_t_value u_t_letters u_t_word u_t_wrongAt u_t_laterFault u_t_laterPlace u_t_newClasses u_t_newLines u_t_turns u_t_shortest u_t_orders u_t_rowNumber u_t_ties s_t_n r_t_child r_t_weds) → va_S A s.heap H locs → lv_has ls 5 [(0, .ref a_t), (1, .int z.1), (2, .int z.2)] → W p l e rX12_isProper s m args below meth c H locs 0 0 Q (F0 m 4 ls [])) ∧ (∀ z, o = Sum.inr z → ∀ (H : Heap) (locs : List Loc) (ls : Array Slot), va_P D vwCl (w_X12_isProper cI cB cZ a_t aX u_t_code u_t_ahead u_t_length u_t_begins u_t_sort u_t_value u_t_letters u_t_word u_t_wrongAt u_t_laterFault u_t_laterPlace u_t_newClasses u_t_newLines u_t_turns u_t_shortest u_t_orders u_t_rowNumber u_t_ties s_t_n r_t_child r_t_weds) H → va_D A (w_X12_isProper cI cB cZ a_t aX u_t_code u_t_ahead u_t_length u_t_begins u_t_sort u_t_value u_t_letters u_t_word u_t_wrongAt u_t_laterFault u_t_laterPlace u_t_newClasses u_t_newLines u_t_turns u_t_shortest u_t_orders u_t_rowNumber u_t_ties s_t_n r_t_child r_t_weds) → va_S A s.heap H locs → lv_has ls 5 [(0, .ref a_t), (1, .int z)] → W p l e rX12_isProper s m args below meth c H locs 0 0 Q (F0 m 58 ls []))) {H : Heap} {locs : List Loc} {ls : Array Slot} (hP : va_P D vwCl (w_X12_isProper cI cB cZ a_t aX u_t_code u_t_ahead u_t_length u_t_begins u_t_sort u_t_value u_t_letters u_t_word u_t_wrongAt u_t_laterFault u_t_laterPlace u_t_newClasses u_t_newLines u_t_turns u_t_shortest u_t_orders u_t_rowNumber u_t_ties s_t_n r_t_child r_t_weds) H) (hD : va_D A (w_X12_isProper cI cB cZ a_t aX u_t_code u_t_ahead u_t_length u_t_begins u_t_sort u_t_value u_t_letters u_t_word u_t_wrongAt u_t_laterFault u_t_laterPlace u_t_newClasses u_t_newLines u_t_turns u_t_shortest u_t_orders u_t_rowNumber u_t_ties s_t_n r_t_child r_t_weds)) (hS : va_S A s.heap H locs) (hl : lv_has ls 5 [(0, .ref a_t), (1, .int x1), (2, .int x2)]) : W p l e rX12_isProper s m args below meth c H locs 0 0 Q (F0 m 4 ls []) := by
  obtain ⟨⟨hx, hb, hml, hown, hts⟩, hK, hN, hA⟩ := C
  have C : jCx p s m args c cX12_isProper 5 gX12_isProper RX12 G D (jT cI cB cZ) A := ⟨⟨hx, hb, hml, hown, hts⟩, hK, hN, hA⟩
  unfold f_X12_isProper_b4 at hf
  refine lv_iload_n hx hb dX12_isProper_4 rfl (lv_at hl 1 rfl) ?_
  refine lv_iload_n hx hb dX12_isProper_5 rfl (lv_at hl 2 rfl) ?_
  refine lv_icmp_eq (tgt := 58) hx hb dX12_isProper_6 (by decide) (fun c1 => ?_) (fun c1 => ?_)
  · replace hf := jif_t c1 hf
    have ho := Option.some.inj hf
    exact (K.2 _ ho.symm) _ _ _ hP hD hS (lv_sub hl [0, 1] rfl)
  · replace hf := jif_f c1 hf
    refine lv_iload_n hx hb dX12_isProper_9 rfl (lv_at hl 1 rfl) ?_
    refine lv_istore_n (lv' := [(2, .int x1), (0, .ref a_t), (1, .int x1)]) hx hb dX12_isProper_10 rfl hl (by decide) rfl (fun ls hl => ?_)
    refine lv_iconst (v := (0 : Int32)) hx hb dX12_isProper_11 (by decide) ?_
    refine lv_istore_n (lv' := [(3, .int (0 : Int32)), (2, .int x1), (0, .ref a_t), (1, .int x1)]) hx hb dX12_isProper_12 rfl hl (by decide) rfl (fun ls hl => ?_)
    obtain ⟨e7, hg7, hf⟩ := jM_some hf
    refine t_X12_isProper_l13 G D cI cB cZ a_t aX u_t_code u_t_ahead u_t_length u_t_begins u_t_sort u_t_value u_t_letters u_t_word u_t_wrongAt u_t_laterFault u_t_laterPlace u_t_newClasses u_t_newLines u_t_turns u_t_shortest u_t_orders u_t_rowNumber u_t_ties s_t_n r_t_child r_t_weds x1 C jF x1 (0 : Int32) hg7 ?_ _ _ _ hP hD hS (lv_sub hl [2, 3, 1, 0] rfl)
    intro H locs ls hP hD hS hl
    refine lv_goto (tgt := 4) hx hb dX12_isProper_55 (by decide) ?_
    have ho := Option.some.inj hf
    exact K.1 _ ho.symm _ _ _ hP hD hS (lv_sub hl [0, 1, 2] rfl)
def f_X12_isProper_l4 (s_t_n : Int32) (r_t_child r_t_weds : jA) (x1 x2 : Int32) : Option ((Int32)) :=
  jI (fun z => f_X12_isProper_b4 s_t_n r_t_child r_t_weds z.1 z.2) jF (x1, x2)
set_option maxHeartbeats 4000000 in
set_option maxRecDepth 100000 in
theorem t_X12_isProper_l4 {p : Program} {l : Launch} {e : Env} {s : State} {m : MethodId} {args : Array Value} {below : List Frame} {meth : Method} {c : Code} {A : Nat → Prop} {Q : State → Prop} (G : jGt) (D : va_G) (cI cB cZ : ClassId) (a_t : Nat) (aX : Nat → Nat) (u_t_code u_t_ahead u_t_length u_t_begins u_t_sort u_t_value u_t_letters : Int32) (u_t_word : Int64) (u_t_wrongAt u_t_laterFault u_t_laterPlace u_t_newClasses u_t_newLines u_t_turns u_t_shortest u_t_orders u_t_rowNumber u_t_ties s_t_n : Int32) (r_t_child r_t_weds : jA)  (C : jCx p s m args c cX12_isProper 5 gX12_isProper RX12 G D (jT cI cB cZ) A) : ∀ (n : Nat) (x1 x2 : Int32) {eo : (Int32)}, jI (fun z => f_X12_isProper_b4 s_t_n r_t_child r_t_weds z.1 z.2) n (x1, x2) = some eo → (∀ (H : Heap) (locs : List Loc) (ls : Array Slot), va_P D vwCl (w_X12_isProper cI cB cZ a_t aX u_t_code u_t_ahead u_t_length u_t_begins u_t_sort u_t_value u_t_letters u_t_word u_t_wrongAt u_t_laterFault u_t_laterPlace u_t_newClasses u_t_newLines u_t_turns u_t_shortest u_t_orders u_t_rowNumber u_t_ties s_t_n r_t_child r_t_weds) H → va_D A (w_X12_isProper cI cB cZ a_t aX u_t_code u_t_ahead u_t_length u_t_begins u_t_sort u_t_value u_t_letters u_t_word u_t_wrongAt u_t_laterFault u_t_laterPlace u_t_newClasses u_t_newLines u_t_turns u_t_shortest u_t_orders u_t_rowNumber u_t_ties s_t_n r_t_child r_t_weds) → va_S A s.heap H locs → lv_has ls 5 [(0, .ref a_t), (1, .int eo)] → W p l e rX12_isProper s m args below meth c H locs 0 0 Q (F0 m 58 ls [])) → ∀ (H : Heap) (locs : List Loc) (ls : Array Slot), va_P D vwCl (w_X12_isProper cI cB cZ a_t aX u_t_code u_t_ahead u_t_length u_t_begins u_t_sort u_t_value u_t_letters u_t_word u_t_wrongAt u_t_laterFault u_t_laterPlace u_t_newClasses u_t_newLines u_t_turns u_t_shortest u_t_orders u_t_rowNumber u_t_ties s_t_n r_t_child r_t_weds) H → va_D A (w_X12_isProper cI cB cZ a_t aX u_t_code u_t_ahead u_t_length u_t_begins u_t_sort u_t_value u_t_letters u_t_word u_t_wrongAt u_t_laterFault u_t_laterPlace u_t_newClasses u_t_newLines u_t_turns u_t_shortest u_t_orders u_t_rowNumber u_t_ties s_t_n r_t_child r_t_weds) → va_S A s.heap H locs → lv_has ls 5 [(0, .ref a_t), (1, .int x1), (2, .int x2)] → W p l e rX12_isProper s m args below meth c H locs 0 0 Q (F0 m 4 ls []) := by
  intro n
  induction n with
  | zero =>
    intro x1 x2 eo hf
    exact (jI_zero hf).elim
  | succ n ih =>
    intro x1 x2 eo hf K H locs ls hP hD hS hl
    obtain ⟨o, hb1, ho⟩ := jI_some hf
    rcases ho with ⟨z, rfl, hf2⟩ | rfl
    · exact t_X12_isProper_b4 G D cI cB cZ a_t aX u_t_code u_t_ahead u_t_length u_t_begins u_t_sort u_t_value u_t_letters u_t_word u_t_wrongAt u_t_laterFault u_t_laterPlace u_t_newClasses u_t_newLines u_t_turns u_t_shortest u_t_orders u_t_rowNumber u_t_ties s_t_n r_t_child r_t_weds x1 x2 C hb1 ⟨fun z2 hz H locs ls hP hD hS hl => by cases hz; exact ih z.1 z.2 hf2 K H locs ls hP hD hS hl, fun z2 hz => by cases hz⟩ hP hD hS hl
    · exact t_X12_isProper_b4 G D cI cB cZ a_t aX u_t_code u_t_ahead u_t_length u_t_begins u_t_sort u_t_value u_t_letters u_t_word u_t_wrongAt u_t_laterFault u_t_laterPlace u_t_newClasses u_t_newLines u_t_turns u_t_shortest u_t_orders u_t_rowNumber u_t_ties s_t_n r_t_child r_t_weds x1 x2 C hb1 ⟨fun z2 hz => (by cases hz), fun z2 hz => by cases hz; exact K⟩ hP hD hS hl
def f_X12_isProper_j109 (x4 k0 : Int32) : Option ((Int32 × Int32) ⊕ ((Int32))) :=
  some (Sum.inl (k0, (x4 + 1)))
set_option maxHeartbeats 4000000 in
set_option maxRecDepth 100000 in
theorem t_X12_isProper_j109 {p : Program} {l : Launch} {e : Env} {s : State} {m : MethodId} {args : Array Value} {below : List Frame} {meth : Method} {c : Code} {A : Nat → Prop} {Q : State → Prop} (G : jGt) (D : va_G) (cI cB cZ : ClassId) (a_t : Nat) (aX : Nat → Nat) (u_t_code u_t_ahead u_t_length u_t_begins u_t_sort u_t_value u_t_letters : Int32) (u_t_word : Int64) (u_t_wrongAt u_t_laterFault u_t_laterPlace u_t_newClasses u_t_newLines u_t_turns u_t_shortest u_t_orders u_t_rowNumber u_t_ties s_t_n : Int32) (r_t_child r_t_weds : jA) (x4 k0 : Int32) (C : jCx p s m args c cX12_isProper 5 gX12_isProper RX12 G D (jT cI cB cZ) A) {o : (Int32 × Int32) ⊕ ((Int32))} (hf : f_X12_isProper_j109 x4 k0 = some o) (K : (∀ z, o = Sum.inl z → ∀ (H : Heap) (locs : List Loc) (ls : Array Slot), va_P D vwCl (w_X12_isProper cI cB cZ a_t aX u_t_code u_t_ahead u_t_length u_t_begins u_t_sort u_t_value u_t_letters u_t_word u_t_wrongAt u_t_laterFault u_t_laterPlace u_t_newClasses u_t_newLines u_t_turns u_t_shortest u_t_orders u_t_rowNumber u_t_ties s_t_n r_t_child r_t_weds) H → va_D A (w_X12_isProper cI cB cZ a_t aX u_t_code u_t_ahead u_t_length u_t_begins u_t_sort u_t_value u_t_letters u_t_word u_t_wrongAt u_t_laterFault u_t_laterPlace u_t_newClasses u_t_newLines u_t_turns u_t_shortest u_t_orders u_t_rowNumber u_t_ties s_t_n r_t_child r_t_weds) → va_S A s.heap H locs → lv_has ls 5 [(0, .ref a_t), (3, .int z.1), (4, .int z.2)] → W p l e rX12_isProper s m args below meth c H locs 0 0 Q (F0 m 79 ls [])) ∧ (∀ z, o = Sum.inr z → ∀ (H : Heap) (locs : List Loc) (ls : Array Slot), va_P D vwCl (w_X12_isProper cI cB cZ a_t aX u_t_code u_t_ahead u_t_length u_t_begins u_t_sort u_t_value u_t_letters u_t_word u_t_wrongAt u_t_laterFault u_t_laterPlace u_t_newClasses u_t_newLines u_t_turns u_t_shortest u_t_orders u_t_rowNumber u_t_ties s_t_n r_t_child r_t_weds) H → va_D A (w_X12_isProper cI cB cZ a_t aX u_t_code u_t_ahead u_t_length u_t_begins u_t_sort u_t_value u_t_letters u_t_word u_t_wrongAt u_t_laterFault u_t_laterPlace u_t_newClasses u_t_newLines u_t_turns u_t_shortest u_t_orders u_t_rowNumber u_t_ties s_t_n r_t_child r_t_weds) → va_S A s.heap H locs → lv_has ls 5 [(3, .int z)] → W p l e rX12_isProper s m args below meth c H locs 0 0 Q (F0 m 116 ls []))) {H : Heap} {locs : List Loc} {ls : Array Slot} (hP : va_P D vwCl (w_X12_isProper cI cB cZ a_t aX u_t_code u_t_ahead u_t_length u_t_begins u_t_sort u_t_value u_t_letters u_t_word u_t_wrongAt u_t_laterFault u_t_laterPlace u_t_newClasses u_t_newLines u_t_turns u_t_shortest u_t_orders u_t_rowNumber u_t_ties s_t_n r_t_child r_t_weds) H) (hD : va_D A (w_X12_isProper cI cB cZ a_t aX u_t_code u_t_ahead u_t_length u_t_begins u_t_sort u_t_value u_t_letters u_t_word u_t_wrongAt u_t_laterFault u_t_laterPlace u_t_newClasses u_t_newLines u_t_turns u_t_shortest u_t_orders u_t_rowNumber u_t_ties s_t_n r_t_child r_t_weds)) (hS : va_S A s.heap H locs) (hl : lv_has ls 5 [(0, .ref a_t), (4, .int x4)]) : W p l e rX12_isProper s m args below meth c H locs 0 0 Q (F0 m 109 ls [.int k0]) := by
  obtain ⟨⟨hx, hb, hml, hown, hts⟩, hK, hN, hA⟩ := C
  have C : jCx p s m args c cX12_isProper 5 gX12_isProper RX12 G D (jT cI cB cZ) A := ⟨⟨hx, hb, hml, hown, hts⟩, hK, hN, hA⟩
  unfold f_X12_isProper_j109 at hf
  refine lv_istore_n (lv' := [(3, .int k0), (0, .ref a_t), (4, .int x4)]) hx hb dX12_isProper_109 rfl hl (by decide) rfl (fun ls hl => ?_)
  refine lv_iinc (v := (x4 + 1)) (lv' := [(4, .int (x4 + 1)), (3, .int k0), (0, .ref a_t)]) hx hb dX12_isProper_110 hl (k := 2) rfl (by first | rfl | decide) (by decide) rfl (fun ls hl => ?_)
  refine lv_goto (tgt := 79) hx hb dX12_isProper_113 (by decide) ?_
  have ho := Option.some.inj hf
  exact K.1 _ ho.symm _ _ _ hP hD hS (lv_sub hl [2, 1, 0] rfl)
def f_X12_isProper_j108 (x4 : Int32) : Option ((Int32 × Int32) ⊕ ((Int32))) :=
  f_X12_isProper_j109 x4 (0 : Int32)
set_option maxHeartbeats 4000000 in
set_option maxRecDepth 100000 in
theorem t_X12_isProper_j108 {p : Program} {l : Launch} {e : Env} {s : State} {m : MethodId} {args : Array Value} {below : List Frame} {meth : Method} {c : Code} {A : Nat → Prop} {Q : State → Prop} (G : jGt) (D : va_G) (cI cB cZ : ClassId) (a_t : Nat) (aX : Nat → Nat) (u_t_code u_t_ahead u_t_length u_t_begins u_t_sort u_t_value u_t_letters : Int32) (u_t_word : Int64) (u_t_wrongAt u_t_laterFault u_t_laterPlace u_t_newClasses u_t_newLines u_t_turns u_t_shortest u_t_orders u_t_rowNumber u_t_ties s_t_n : Int32) (r_t_child r_t_weds : jA) (x4 : Int32) (C : jCx p s m args c cX12_isProper 5 gX12_isProper RX12 G D (jT cI cB cZ) A) {o : (Int32 × Int32) ⊕ ((Int32))} (hf : f_X12_isProper_j108 x4 = some o) (K : (∀ z, o = Sum.inl z → ∀ (H : Heap) (locs : List Loc) (ls : Array Slot), va_P D vwCl (w_X12_isProper cI cB cZ a_t aX u_t_code u_t_ahead u_t_length u_t_begins u_t_sort u_t_value u_t_letters u_t_word u_t_wrongAt u_t_laterFault u_t_laterPlace u_t_newClasses u_t_newLines u_t_turns u_t_shortest u_t_orders u_t_rowNumber u_t_ties s_t_n r_t_child r_t_weds) H → va_D A (w_X12_isProper cI cB cZ a_t aX u_t_code u_t_ahead u_t_length u_t_begins u_t_sort u_t_value u_t_letters u_t_word u_t_wrongAt u_t_laterFault u_t_laterPlace u_t_newClasses u_t_newLines u_t_turns u_t_shortest u_t_orders u_t_rowNumber u_t_ties s_t_n r_t_child r_t_weds) → va_S A s.heap H locs → lv_has ls 5 [(0, .ref a_t), (3, .int z.1), (4, .int z.2)] → W p l e rX12_isProper s m args below meth c H locs 0 0 Q (F0 m 79 ls [])) ∧ (∀ z, o = Sum.inr z → ∀ (H : Heap) (locs : List Loc) (ls : Array Slot), va_P D vwCl (w_X12_isProper cI cB cZ a_t aX u_t_code u_t_ahead u_t_length u_t_begins u_t_sort u_t_value u_t_letters u_t_word u_t_wrongAt u_t_laterFault u_t_laterPlace u_t_newClasses u_t_newLines u_t_turns u_t_shortest u_t_orders u_t_rowNumber u_t_ties s_t_n r_t_child r_t_weds) H → va_D A (w_X12_isProper cI cB cZ a_t aX u_t_code u_t_ahead u_t_length u_t_begins u_t_sort u_t_value u_t_letters u_t_word u_t_wrongAt u_t_laterFault u_t_laterPlace u_t_newClasses u_t_newLines u_t_turns u_t_shortest u_t_orders u_t_rowNumber u_t_ties s_t_n r_t_child r_t_weds) → va_S A s.heap H locs → lv_has ls 5 [(3, .int z)] → W p l e rX12_isProper s m args below meth c H locs 0 0 Q (F0 m 116 ls []))) {H : Heap} {locs : List Loc} {ls : Array Slot} (hP : va_P D vwCl (w_X12_isProper cI cB cZ a_t aX u_t_code u_t_ahead u_t_length u_t_begins u_t_sort u_t_value u_t_letters u_t_word u_t_wrongAt u_t_laterFault u_t_laterPlace u_t_newClasses u_t_newLines u_t_turns u_t_shortest u_t_orders u_t_rowNumber u_t_ties s_t_n r_t_child r_t_weds) H) (hD : va_D A (w_X12_isProper cI cB cZ a_t aX u_t_code u_t_ahead u_t_length u_t_begins u_t_sort u_t_value u_t_letters u_t_word u_t_wrongAt u_t_laterFault u_t_laterPlace u_t_newClasses u_t_newLines u_t_turns u_t_shortest u_t_orders u_t_rowNumber u_t_ties s_t_n r_t_child r_t_weds)) (hS : va_S A s.heap H locs) (hl : lv_has ls 5 [(0, .ref a_t), (4, .int x4)]) : W p l e rX12_isProper s m args below meth c H locs 0 0 Q (F0 m 108 ls []) := by
  obtain ⟨⟨hx, hb, hml, hown, hts⟩, hK, hN, hA⟩ := C
  have C : jCx p s m args c cX12_isProper 5 gX12_isProper RX12 G D (jT cI cB cZ) A := ⟨⟨hx, hb, hml, hown, hts⟩, hK, hN, hA⟩
  unfold f_X12_isProper_j108 at hf
  refine lv_iconst (v := (0 : Int32)) hx hb dX12_isProper_108 (by decide) ?_
  exact t_X12_isProper_j109 G D cI cB cZ a_t aX u_t_code u_t_ahead u_t_length u_t_begins u_t_sort u_t_value u_t_letters u_t_word u_t_wrongAt u_t_laterFault u_t_laterPlace u_t_newClasses u_t_newLines u_t_turns u_t_shortest u_t_orders u_t_rowNumber u_t_ties s_t_n r_t_child r_t_weds x4 (0 : Int32) C hf K hP hD hS (lv_sub hl [0, 1] rfl)
def f_X12_isProper_b79 (s_t_n : Int32) (r_t_weds : jA) (x3 x4 : Int32) : Option ((Int32 × Int32) ⊕ ((Int32))) :=
  if s_t_n ≤ x4 then
  some (Sum.inr x3)
  else
  if x3 = 0 then
  f_X12_isProper_j108 x4
  else
  jL r_t_weds x4 fun v12 =>
  if v12 = x4 then
  f_X12_isProper_j108 x4
  else
  f_X12_isProper_j109 x4 (1 : Int32)
set_option maxHeartbeats 4000000 in
set_option maxRecDepth 100000 in
theorem t_X12_isProper_b79 {p : Program} {l : Launch} {e : Env} {s : State} {m : MethodId} {args : Array Value} {below : List Frame} {meth : Method} {c : Code} {A : Nat → Prop} {Q : State → Prop} (G : jGt) (D : va_G) (cI cB cZ : ClassId) (a_t : Nat) (aX : Nat → Nat) (u_t_code u_t_ahead u_t_length u_t_begins u_t_sort u_t_value u_t_letters : Int32) (u_t_word : Int64) (u_t_wrongAt u_t_laterFault u_t_laterPlace u_t_newClasses u_t_newLines u_t_turns u_t_shortest u_t_orders u_t_rowNumber u_t_ties s_t_n : Int32) (r_t_child r_t_weds : jA) (x3 x4 : Int32) (C : jCx p s m args c cX12_isProper 5 gX12_isProper RX12 G D (jT cI cB cZ) A) {o : (Int32 × Int32) ⊕ ((Int32))} (hf : f_X12_isProper_b79 s_t_n r_t_weds x3 x4 = some o) (K : (∀ z, o = Sum.inl z → ∀ (H : Heap) (locs : List Loc) (ls : Array Slot), va_P D vwCl (w_X12_isProper cI cB cZ a_t aX u_t_code u_t_ahead u_t_length u_t_begins u_t_sort u_t_value u_t_letters u_t_word u_t_wrongAt u_t_laterFault u_t_laterPlace u_t_newClasses u_t_newLines u_t_turns u_t_shortest u_t_orders u_t_rowNumber u_t_ties s_t_n r_t_child r_t_weds) H → va_D A (w_X12_isProper cI cB cZ a_t aX u_t_code u_t_ahead u_t_length u_t_begins u_t_sort u_t_value u_t_letters u_t_word u_t_wrongAt u_t_laterFault u_t_laterPlace u_t_newClasses u_t_newLines u_t_turns u_t_shortest u_t_orders u_t_rowNumber u_t_ties s_t_n r_t_child r_t_weds) → va_S A s.heap H locs → lv_has ls 5 [(0, .ref a_t), (3, .int z.1), (4, .int z.2)] → W p l e rX12_isProper s m args below meth c H locs 0 0 Q (F0 m 79 ls [])) ∧ (∀ z, o = Sum.inr z → ∀ (H : Heap) (locs : List Loc) (ls : Array Slot), va_P D vwCl (w_X12_isProper cI cB cZ a_t aX u_t_code u_t_ahead u_t_length u_t_begins u_t_sort u_t_value u_t_letters u_t_word u_t_wrongAt u_t_laterFault u_t_laterPlace u_t_newClasses u_t_newLines u_t_turns u_t_shortest u_t_orders u_t_rowNumber u_t_ties s_t_n r_t_child r_t_weds) H → va_D A (w_X12_isProper cI cB cZ a_t aX u_t_code u_t_ahead u_t_length u_t_begins u_t_sort u_t_value u_t_letters u_t_word u_t_wrongAt u_t_laterFault u_t_laterPlace u_t_newClasses u_t_newLines u_t_turns u_t_shortest u_t_orders u_t_rowNumber u_t_ties s_t_n r_t_child r_t_weds) → va_S A s.heap H locs → lv_has ls 5 [(3, .int z)] → W p l e rX12_isProper s m args below meth c H locs 0 0 Q (F0 m 116 ls []))) {H : Heap} {locs : List Loc} {ls : Array Slot} (hP : va_P D vwCl (w_X12_isProper cI cB cZ a_t aX u_t_code u_t_ahead u_t_length u_t_begins u_t_sort u_t_value u_t_letters u_t_word u_t_wrongAt u_t_laterFault u_t_laterPlace u_t_newClasses u_t_newLines u_t_turns u_t_shortest u_t_orders u_t_rowNumber u_t_ties s_t_n r_t_child r_t_weds) H) (hD : va_D A (w_X12_isProper cI cB cZ a_t aX u_t_code u_t_ahead u_t_length u_t_begins u_t_sort u_t_value u_t_letters u_t_word u_t_wrongAt u_t_laterFault u_t_laterPlace u_t_newClasses u_t_newLines u_t_turns u_t_shortest u_t_orders u_t_rowNumber u_t_ties s_t_n r_t_child r_t_weds)) (hS : va_S A s.heap H locs) (hl : lv_has ls 5 [(0, .ref a_t), (3, .int x3), (4, .int x4)]) : W p l e rX12_isProper s m args below meth c H locs 0 0 Q (F0 m 79 ls []) := by
  obtain ⟨⟨hx, hb, hml, hown, hts⟩, hK, hN, hA⟩ := C
  have C : jCx p s m args c cX12_isProper 5 gX12_isProper RX12 G D (jT cI cB cZ) A := ⟨⟨hx, hb, hml, hown, hts⟩, hK, hN, hA⟩
  unfold f_X12_isProper_b79 at hf
  refine lv_iload hx hb dX12_isProper_79 (lv_at hl 2 rfl) ?_
  refine lv_aload_n hx hb dX12_isProper_81 rfl (lv_at hl 0 rfl) ?_
  refine va_get (D := D) (ci := 11) (v := .int s_t_n) (C := RX12) (T := TX12) (N := 74) hx hb hts iw_X12 hown hK hP 0 rfl rfl 31 (by decide) (hts _ (wG_in k_fl_X12_189 rfl)) (fun _ h9 => h9) rfl dX12_isProper_82 ?_
  refine lv_icmp_ge (tgt := 116) hx hb dX12_isProper_85 (by decide) (fun c10 => ?_) (fun c10 => ?_)
  · replace hf := jif_t c10 hf
    have ho := Option.some.inj hf
    exact (K.2 _ ho.symm) _ _ _ hP hD hS (lv_sub hl [1] rfl)
  · replace hf := jif_f c10 hf
    refine lv_iload_n hx hb dX12_isProper_88 rfl (lv_at hl 1 rfl) ?_
    refine lv_if_eq (tgt := 108) hx hb dX12_isProper_89 (by decide) (fun c11 => ?_) (fun c11 => ?_)
    · replace hf := jif_t c11 hf
      exact t_X12_isProper_j108 G D cI cB cZ a_t aX u_t_code u_t_ahead u_t_length u_t_begins u_t_sort u_t_value u_t_letters u_t_word u_t_wrongAt u_t_laterFault u_t_laterPlace u_t_newClasses u_t_newLines u_t_turns u_t_shortest u_t_orders u_t_rowNumber u_t_ties s_t_n r_t_child r_t_weds x4 C hf K hP hD hS (lv_sub hl [0, 2] rfl)
    · replace hf := jif_f c11 hf
      refine lv_aload_n hx hb dX12_isProper_92 rfl (lv_at hl 0 rfl) ?_
      refine va_get (D := D) (ci := 11) (v := .ref (aX 32)) (C := RX12) (T := TX12) (N := 74) hx hb hts iw_X12 hown hK hP 0 rfl rfl 32 (by decide) (hts _ (wG_in k_fl_X12_101 rfl)) (fun _ h9 => h9) rfl dX12_isProper_93 ?_
      refine lv_iload hx hb dX12_isProper_96 (lv_at hl 2 rfl) ?_
      obtain ⟨v12, hv12, iv12, hf⟩ := jL_some hf
      refine ja_iald (P := r_t_weds) hx hb hK hP 2 0 rfl rfl hv12 iv12 dX12_isProper_98 ?_
      refine lv_iload hx hb dX12_isProper_99 (lv_at hl 2 rfl) ?_
      refine lv_icmp_eq (tgt := 108) hx hb dX12_isProper_101 (by decide) (fun c13 => ?_) (fun c13 => ?_)
      · replace hf := jif_t c13 hf
        exact t_X12_isProper_j108 G D cI cB cZ a_t aX u_t_code u_t_ahead u_t_length u_t_begins u_t_sort u_t_value u_t_letters u_t_word u_t_wrongAt u_t_laterFault u_t_laterPlace u_t_newClasses u_t_newLines u_t_turns u_t_shortest u_t_orders u_t_rowNumber u_t_ties s_t_n r_t_child r_t_weds x4 C hf K hP hD hS (lv_sub hl [0, 2] rfl)
      · replace hf := jif_f c13 hf
        refine lv_iconst (v := (1 : Int32)) hx hb dX12_isProper_104 (by decide) ?_
        refine lv_goto (tgt := 109) hx hb dX12_isProper_105 (by decide) ?_
        exact t_X12_isProper_j109 G D cI cB cZ a_t aX u_t_code u_t_ahead u_t_length u_t_begins u_t_sort u_t_value u_t_letters u_t_word u_t_wrongAt u_t_laterFault u_t_laterPlace u_t_newClasses u_t_newLines u_t_turns u_t_shortest u_t_orders u_t_rowNumber u_t_ties s_t_n r_t_child r_t_weds x4 (1 : Int32) C hf K hP hD hS (lv_sub hl [0, 2] rfl)
def f_X12_isProper_l79 (s_t_n : Int32) (r_t_weds : jA) (x3 x4 : Int32) : Option ((Int32)) :=
  jI (fun z => f_X12_isProper_b79 s_t_n r_t_weds z.1 z.2) jF (x3, x4)
set_option maxHeartbeats 4000000 in
set_option maxRecDepth 100000 in
theorem t_X12_isProper_l79 {p : Program} {l : Launch} {e : Env} {s : State} {m : MethodId} {args : Array Value} {below : List Frame} {meth : Method} {c : Code} {A : Nat → Prop} {Q : State → Prop} (G : jGt) (D : va_G) (cI cB cZ : ClassId) (a_t : Nat) (aX : Nat → Nat) (u_t_code u_t_ahead u_t_length u_t_begins u_t_sort u_t_value u_t_letters : Int32) (u_t_word : Int64) (u_t_wrongAt u_t_laterFault u_t_laterPlace u_t_newClasses u_t_newLines u_t_turns u_t_shortest u_t_orders u_t_rowNumber u_t_ties s_t_n : Int32) (r_t_child r_t_weds : jA)  (C : jCx p s m args c cX12_isProper 5 gX12_isProper RX12 G D (jT cI cB cZ) A) : ∀ (n : Nat) (x3 x4 : Int32) {eo : (Int32)}, jI (fun z => f_X12_isProper_b79 s_t_n r_t_weds z.1 z.2) n (x3, x4) = some eo → (∀ (H : Heap) (locs : List Loc) (ls : Array Slot), va_P D vwCl (w_X12_isProper cI cB cZ a_t aX u_t_code u_t_ahead u_t_length u_t_begins u_t_sort u_t_value u_t_letters u_t_word u_t_wrongAt u_t_laterFault u_t_laterPlace u_t_newClasses u_t_newLines u_t_turns u_t_shortest u_t_orders u_t_rowNumber u_t_ties s_t_n r_t_child r_t_weds) H → va_D A (w_X12_isProper cI cB cZ a_t aX u_t_code u_t_ahead u_t_length u_t_begins u_t_sort u_t_value u_t_letters u_t_word u_t_wrongAt u_t_laterFault u_t_laterPlace u_t_newClasses u_t_newLines u_t_turns u_t_shortest u_t_orders u_t_rowNumber u_t_ties s_t_n r_t_child r_t_weds) → va_S A s.heap H locs → lv_has ls 5 [(3, .int eo)] → W p l e rX12_isProper s m args below meth c H locs 0 0 Q (F0 m 116 ls [])) → ∀ (H : Heap) (locs : List Loc) (ls : Array Slot), va_P D vwCl (w_X12_isProper cI cB cZ a_t aX u_t_code u_t_ahead u_t_length u_t_begins u_t_sort u_t_value u_t_letters u_t_word u_t_wrongAt u_t_laterFault u_t_laterPlace u_t_newClasses u_t_newLines u_t_turns u_t_shortest u_t_orders u_t_rowNumber u_t_ties s_t_n r_t_child r_t_weds) H → va_D A (w_X12_isProper cI cB cZ a_t aX u_t_code u_t_ahead u_t_length u_t_begins u_t_sort u_t_value u_t_letters u_t_word u_t_wrongAt u_t_laterFault u_t_laterPlace u_t_newClasses u_t_newLines u_t_turns u_t_shortest u_t_orders u_t_rowNumber u_t_ties s_t_n r_t_child r_t_weds) → va_S A s.heap H locs → lv_has ls 5 [(0, .ref a_t), (3, .int x3), (4, .int x4)] → W p l e rX12_isProper s m args below meth c H locs 0 0 Q (F0 m 79 ls []) := by
  intro n
  induction n with
  | zero =>
    intro x3 x4 eo hf
    exact (jI_zero hf).elim
  | succ n ih =>
    intro x3 x4 eo hf K H locs ls hP hD hS hl
    obtain ⟨o, hb1, ho⟩ := jI_some hf
    rcases ho with ⟨z, rfl, hf2⟩ | rfl
    · exact t_X12_isProper_b79 G D cI cB cZ a_t aX u_t_code u_t_ahead u_t_length u_t_begins u_t_sort u_t_value u_t_letters u_t_word u_t_wrongAt u_t_laterFault u_t_laterPlace u_t_newClasses u_t_newLines u_t_turns u_t_shortest u_t_orders u_t_rowNumber u_t_ties s_t_n r_t_child r_t_weds x3 x4 C hb1 ⟨fun z2 hz H locs ls hP hD hS hl => by cases hz; exact ih z.1 z.2 hf2 K H locs ls hP hD hS hl, fun z2 hz => by cases hz⟩ hP hD hS hl
    · exact t_X12_isProper_b79 G D cI cB cZ a_t aX u_t_code u_t_ahead u_t_length u_t_begins u_t_sort u_t_value u_t_letters u_t_word u_t_wrongAt u_t_laterFault u_t_laterPlace u_t_newClasses u_t_newLines u_t_turns u_t_shortest u_t_orders u_t_rowNumber u_t_ties s_t_n r_t_child r_t_weds x3 x4 C hb1 ⟨fun z2 hz => (by cases hz), fun z2 hz => by cases hz; exact K⟩ hP hD hS hl
def f_X12_isProper_j75 (s_t_n : Int32) (r_t_weds : jA) (k0 : Int32) : Option (Int32) :=
  jM (f_X12_isProper_l79 s_t_n r_t_weds k0 (0 : Int32)) fun e14 =>
  jZ e14 (some e14)
set_option maxHeartbeats 4000000 in
set_option maxRecDepth 100000 in
theorem t_X12_isProper_j75 {p : Program} {l : Launch} {e : Env} {s : State} {m : MethodId} {args : Array Value} {below : List Frame} {meth : Method} {c : Code} {A : Nat → Prop} {Q : State → Prop} (G : jGt) (D : va_G) (cI cB cZ : ClassId) (a_t : Nat) (aX : Nat → Nat) (u_t_code u_t_ahead u_t_length u_t_begins u_t_sort u_t_value u_t_letters : Int32) (u_t_word : Int64) (u_t_wrongAt u_t_laterFault u_t_laterPlace u_t_newClasses u_t_newLines u_t_turns u_t_shortest u_t_orders u_t_rowNumber u_t_ties s_t_n : Int32) (r_t_child r_t_weds : jA) (k0 : Int32) (C : jCx p s m args c cX12_isProper 5 gX12_isProper RX12 G D (jT cI cB cZ) A) {o : Int32} (hf : f_X12_isProper_j75 s_t_n r_t_weds k0 = some o) (K : ∀ (H : Heap) (locs : List Loc) (pc : Nat) (ls : Array Slot), (o = 0 ∨ o = 1) → va_P D vwCl (w_X12_isProper cI cB cZ a_t aX u_t_code u_t_ahead u_t_length u_t_begins u_t_sort u_t_value u_t_letters u_t_word u_t_wrongAt u_t_laterFault u_t_laterPlace u_t_newClasses u_t_newLines u_t_turns u_t_shortest u_t_orders u_t_rowNumber u_t_ties s_t_n r_t_child r_t_weds) H → va_S A s.heap H locs → decode cX12_isProper pc = .ok (.ireturn, 1) → W p l e rX12_isProper s m args below meth c H locs 0 0 Q (F0 m pc ls [.int o])) {H : Heap} {locs : List Loc} {ls : Array Slot} (hP : va_P D vwCl (w_X12_isProper cI cB cZ a_t aX u_t_code u_t_ahead u_t_length u_t_begins u_t_sort u_t_value u_t_letters u_t_word u_t_wrongAt u_t_laterFault u_t_laterPlace u_t_newClasses u_t_newLines u_t_turns u_t_shortest u_t_orders u_t_rowNumber u_t_ties s_t_n r_t_child r_t_weds) H) (hD : va_D A (w_X12_isProper cI cB cZ a_t aX u_t_code u_t_ahead u_t_length u_t_begins u_t_sort u_t_value u_t_letters u_t_word u_t_wrongAt u_t_laterFault u_t_laterPlace u_t_newClasses u_t_newLines u_t_turns u_t_shortest u_t_orders u_t_rowNumber u_t_ties s_t_n r_t_child r_t_weds)) (hS : va_S A s.heap H locs) (hl : lv_has ls 5 [(0, .ref a_t)]) : W p l e rX12_isProper s m args below meth c H locs 0 0 Q (F0 m 75 ls [.int k0]) := by
  obtain ⟨⟨hx, hb, hml, hown, hts⟩, hK, hN, hA⟩ := C
  have C : jCx p s m args c cX12_isProper 5 gX12_isProper RX12 G D (jT cI cB cZ) A := ⟨⟨hx, hb, hml, hown, hts⟩, hK, hN, hA⟩
  unfold f_X12_isProper_j75 at hf
  refine lv_istore_n (lv' := [(3, .int k0), (0, .ref a_t)]) hx hb dX12_isProper_75 rfl hl (by decide) rfl (fun ls hl => ?_)
  refine lv_iconst (v := (0 : Int32)) hx hb dX12_isProper_76 (by decide) ?_
  refine lv_istore (lv' := [(4, .int (0 : Int32)), (3, .int k0), (0, .ref a_t)]) hx hb dX12_isProper_77 hl (by decide) rfl (fun ls hl => ?_)
  obtain ⟨e14, hg14, hf⟩ := jM_some hf
  refine t_X12_isProper_l79 G D cI cB cZ a_t aX u_t_code u_t_ahead u_t_length u_t_begins u_t_sort u_t_value u_t_letters u_t_word u_t_wrongAt u_t_laterFault u_t_laterPlace u_t_newClasses u_t_newLines u_t_turns u_t_shortest u_t_orders u_t_rowNumber u_t_ties s_t_n r_t_child r_t_weds  C jF k0 (0 : Int32) hg14 ?_ _ _ _ hP hD hS (lv_sub hl [2, 1, 0] rfl)
  intro H locs ls hP hD hS hl
  refine lv_iload_n hx hb dX12_isProper_116 rfl (lv_at hl 0 rfl) ?_
  obtain ⟨hz, hf⟩ := jZ_some hf
  have ho := Option.some.inj hf
  subst ho
  exact K _ _ _ _ hz hP hS dX12_isProper_117
def f_X12_isProper (s_t_n : Int32) (r_t_child r_t_weds : jA) : Option (Int32) :=
  jM (f_X12_isProper_l4 s_t_n r_t_child r_t_weds (1 : Int32) (0 : Int32)) fun e8 =>
  if e8 = (((1 : Int32) <<< (s_t_n &&& 31)) - (1 : Int32)) then
  f_X12_isProper_j75 s_t_n r_t_weds (1 : Int32)
  else
  f_X12_isProper_j75 s_t_n r_t_weds (0 : Int32)
set_option maxHeartbeats 4000000 in
set_option maxRecDepth 100000 in
theorem t_X12_isProper {p : Program} {l : Launch} {e : Env} {s : State} {m : MethodId} {args : Array Value} {below : List Frame} {meth : Method} {c : Code} {A : Nat → Prop} {Q : State → Prop} (G : jGt) (D : va_G) (cI cB cZ : ClassId) (a_t : Nat) (aX : Nat → Nat) (u_t_code u_t_ahead u_t_length u_t_begins u_t_sort u_t_value u_t_letters : Int32) (u_t_word : Int64) (u_t_wrongAt u_t_laterFault u_t_laterPlace u_t_newClasses u_t_newLines u_t_turns u_t_shortest u_t_orders u_t_rowNumber u_t_ties s_t_n : Int32) (r_t_child r_t_weds : jA)  (C : jCx p s m args c cX12_isProper 5 gX12_isProper RX12 G D (jT cI cB cZ) A) {o : Int32} (hf : f_X12_isProper s_t_n r_t_child r_t_weds = some o) (K : ∀ (H : Heap) (locs : List Loc) (pc : Nat) (ls : Array Slot), (o = 0 ∨ o = 1) → va_P D vwCl (w_X12_isProper cI cB cZ a_t aX u_t_code u_t_ahead u_t_length u_t_begins u_t_sort u_t_value u_t_letters u_t_word u_t_wrongAt u_t_laterFault u_t_laterPlace u_t_newClasses u_t_newLines u_t_turns u_t_shortest u_t_orders u_t_rowNumber u_t_ties s_t_n r_t_child r_t_weds) H → va_S A s.heap H locs → decode cX12_isProper pc = .ok (.ireturn, 1) → W p l e rX12_isProper s m args below meth c H locs 0 0 Q (F0 m pc ls [.int o])) {H : Heap} {locs : List Loc} {ls : Array Slot} (hP : va_P D vwCl (w_X12_isProper cI cB cZ a_t aX u_t_code u_t_ahead u_t_length u_t_begins u_t_sort u_t_value u_t_letters u_t_word u_t_wrongAt u_t_laterFault u_t_laterPlace u_t_newClasses u_t_newLines u_t_turns u_t_shortest u_t_orders u_t_rowNumber u_t_ties s_t_n r_t_child r_t_weds) H) (hD : va_D A (w_X12_isProper cI cB cZ a_t aX u_t_code u_t_ahead u_t_length u_t_begins u_t_sort u_t_value u_t_letters u_t_word u_t_wrongAt u_t_laterFault u_t_laterPlace u_t_newClasses u_t_newLines u_t_turns u_t_shortest u_t_orders u_t_rowNumber u_t_ties s_t_n r_t_child r_t_weds)) (hS : va_S A s.heap H locs) (hl : lv_has ls 5 [(0, .ref a_t)]) : W p l e rX12_isProper s m args below meth c H locs 0 0 Q (F0 m 0 ls []) := by
  obtain ⟨⟨hx, hb, hml, hown, hts⟩, hK, hN, hA⟩ := C
  have C : jCx p s m args c cX12_isProper 5 gX12_isProper RX12 G D (jT cI cB cZ) A := ⟨⟨hx, hb, hml, hown, hts⟩, hK, hN, hA⟩
  unfold f_X12_isProper at hf
  refine lv_iconst (v := (1 : Int32)) hx hb dX12_isProper_0 (by decide) ?_
  refine lv_istore_n (lv' := [(1, .int (1 : Int32)), (0, .ref a_t)]) hx hb dX12_isProper_1 rfl hl (by decide) rfl (fun ls hl => ?_)
  refine lv_iconst (v := (0 : Int32)) hx hb dX12_isProper_2 (by decide) ?_
  refine lv_istore_n (lv' := [(2, .int (0 : Int32)), (1, .int (1 : Int32)), (0, .ref a_t)]) hx hb dX12_isProper_3 rfl hl (by decide) rfl (fun ls hl => ?_)
  obtain ⟨e8, hg8, hf⟩ := jM_some hf
  refine t_X12_isProper_l4 G D cI cB cZ a_t aX u_t_code u_t_ahead u_t_length u_t_begins u_t_sort u_t_value u_t_letters u_t_word u_t_wrongAt u_t_laterFault u_t_laterPlace u_t_newClasses u_t_newLines u_t_turns u_t_shortest u_t_orders u_t_rowNumber u_t_ties s_t_n r_t_child r_t_weds  C jF (1 : Int32) (0 : Int32) hg8 ?_ _ _ _ hP hD hS (lv_sub hl [2, 1, 0] rfl)
  intro H locs ls hP hD hS hl
  refine lv_iload_n hx hb dX12_isProper_58 rfl (lv_at hl 1 rfl) ?_
  refine lv_iconst (v := (1 : Int32)) hx hb dX12_isProper_59 (by decide) ?_
  refine lv_aload_n hx hb dX12_isProper_60 rfl (lv_at hl 0 rfl) ?_
  refine va_get (D := D) (ci := 11) (v := .int s_t_n) (C := RX12) (T := TX12) (N := 74) hx hb hts iw_X12 hown hK hP 0 rfl rfl 31 (by decide) (hts _ (wG_in k_fl_X12_189 rfl)) (fun _ h9 => h9) rfl dX12_isProper_61 ?_
  refine lv_ishl hx hb dX12_isProper_64 ?_
  refine lv_iconst (v := (1 : Int32)) hx hb dX12_isProper_65 (by decide) ?_
  refine lv_isub hx hb dX12_isProper_66 ?_
  refine lv_icmp_ne (tgt := 74) hx hb dX12_isProper_67 (by decide) (fun c9 => ?_) (fun c9 => ?_)
  · replace hf := jif_f c9 hf
    refine lv_iconst (v := (0 : Int32)) hx hb dX12_isProper_74 (by decide) ?_
    exact t_X12_isProper_j75 G D cI cB cZ a_t aX u_t_code u_t_ahead u_t_length u_t_begins u_t_sort u_t_value u_t_letters u_t_word u_t_wrongAt u_t_laterFault u_t_laterPlace u_t_newClasses u_t_newLines u_t_turns u_t_shortest u_t_orders u_t_rowNumber u_t_ties s_t_n r_t_child r_t_weds (0 : Int32) C hf K hP hD hS (lv_sub hl [0] rfl)
  · replace hf := jif_t c9 hf
    refine lv_iconst (v := (1 : Int32)) hx hb dX12_isProper_70 (by decide) ?_
    refine lv_goto (tgt := 75) hx hb dX12_isProper_71 (by decide) ?_
    exact t_X12_isProper_j75 G D cI cB cZ a_t aX u_t_code u_t_ahead u_t_length u_t_begins u_t_sort u_t_value u_t_letters u_t_word u_t_wrongAt u_t_laterFault u_t_laterPlace u_t_newClasses u_t_newLines u_t_turns u_t_shortest u_t_orders u_t_rowNumber u_t_ties s_t_n r_t_child r_t_weds (1 : Int32) C hf K hP hD hS (lv_sub hl [0] rfl)
set_option maxHeartbeats 4000000 in
set_option maxRecDepth 100000 in
theorem c_X12_isProper (l : Launch) (G : jGt) (D : va_G) (cI cB cZ : ClassId) (a_t : Nat) (aX : Nat → Nat) (u_t_code u_t_ahead u_t_length u_t_begins u_t_sort u_t_value u_t_letters : Int32) (u_t_word : Int64) (u_t_wrongAt u_t_laterFault u_t_laterPlace u_t_newClasses u_t_newLines u_t_turns u_t_shortest u_t_orders u_t_rowNumber u_t_ties s_t_n : Int32) (r_t_child r_t_weds : jA)  {o : Int32} (hf : f_X12_isProper s_t_n r_t_child r_t_weds = some o) : jMi l yX12_isProper gX12_isProper rX12_isProper G D (jT cI cB cZ) [.ref a_t] (w_X12_isProper cI cB cZ a_t aX u_t_code u_t_ahead u_t_length u_t_begins u_t_sort u_t_value u_t_letters u_t_word u_t_wrongAt u_t_laterFault u_t_laterPlace u_t_newClasses u_t_newLines u_t_turns u_t_shortest u_t_orders u_t_rowNumber u_t_ties s_t_n r_t_child r_t_weds) (w_X12_isProper cI cB cZ a_t aX u_t_code u_t_ahead u_t_length u_t_begins u_t_sort u_t_value u_t_letters u_t_word u_t_wrongAt u_t_laterFault u_t_laterPlace u_t_newClasses u_t_newLines u_t_turns u_t_shortest u_t_orders u_t_rowNumber u_t_ties s_t_n r_t_child r_t_weds) o := by
  refine jmk_z RX12 rfl (by decide +kernel) rfl (Nat.le_of_ble_eq_true rfl) rfl ?_
  intro p e s m args below meth c ls A Q C hP hD hS hl K
  exact t_X12_isProper G D cI cB cZ a_t aX u_t_code u_t_ahead u_t_length u_t_begins u_t_sort u_t_value u_t_letters u_t_word u_t_wrongAt u_t_laterFault u_t_laterPlace u_t_newClasses u_t_newLines u_t_turns u_t_shortest u_t_orders u_t_rowNumber u_t_ties s_t_n r_t_child r_t_weds  C hf K hP hD hS hl
abbrev rX12_childOf : Room := { frames := 0, cells := 0, slots := 0, locals := 0 }
abbrev gX12_childOf : List Cond := wG yX12_childOf cX12_childOf 3 (some .int)
def w_X12_childOf (cI cB cZ : ClassId) (a_t : Nat) (aX : Nat → Nat) (u_t_code u_t_n u_t_ahead u_t_length u_t_begins u_t_sort u_t_value u_t_letters : Int32) (u_t_word : Int64) (u_t_wrongAt u_t_laterFault u_t_laterPlace u_t_newClasses u_t_newLines u_t_turns u_t_shortest u_t_orders u_t_rowNumber u_t_ties : Int32) (r_t_child r_t_wedsBack : jA) : va_W := [(a_t, .inr (11, (oX12 aX u_t_code u_t_n u_t_ahead u_t_length u_t_begins u_t_sort u_t_value u_t_letters u_t_word u_t_wrongAt u_t_laterFault u_t_laterPlace u_t_newClasses u_t_newLines u_t_turns u_t_shortest u_t_orders u_t_rowNumber u_t_ties))), ((aX 33), .inl (cI, r_t_child.1, .inl r_t_child.2)), ((aX 34), .inl (cI, r_t_wedsBack.1, .inl r_t_wedsBack.2))]
def f_X12_childOf (r_t_child r_t_wedsBack : jA) (x1 x2 : Int32) : Option (Int32) :=
  if x2 = (1 : Int32) then
  jL r_t_child x1 fun v4 =>
  some v4
  else
  jL r_t_wedsBack x1 fun v2 =>
  jL r_t_child v2 fun v3 =>
  some v3
set_option maxHeartbeats 4000000 in
set_option maxRecDepth 100000 in
theorem t_X12_childOf {p : Program} {l : Launch} {e : Env} {s : State} {m : MethodId} {args : Array Value} {below : List Frame} {meth : Method} {c : Code} {A : Nat → Prop} {Q : State → Prop} (G : jGt) (D : va_G) (cI cB cZ : ClassId) (a_t : Nat) (aX : Nat → Nat) (u_t_code u_t_n u_t_ahead u_t_length u_t_begins u_t_sort u_t_value u_t_letters : Int32) (u_t_word : Int64) (u_t_wrongAt u_t_laterFault u_t_laterPlace u_t_newClasses u_t_newLines u_t_turns u_t_shortest u_t_orders u_t_rowNumber u_t_ties : Int32) (r_t_child r_t_wedsBack : jA) (x1 x2 : Int32) (C : jCx p s m args c cX12_childOf 3 gX12_childOf RX12 G D (jT cI cB cZ) A) {o : Int32} (hf : f_X12_childOf r_t_child r_t_wedsBack x1 x2 = some o) (K : ∀ (H : Heap) (locs : List Loc) (pc : Nat) (ls : Array Slot), va_P D vwCl (w_X12_childOf cI cB cZ a_t aX u_t_code u_t_n u_t_ahead u_t_length u_t_begins u_t_sort u_t_value u_t_letters u_t_word u_t_wrongAt u_t_laterFault u_t_laterPlace u_t_newClasses u_t_newLines u_t_turns u_t_shortest u_t_orders u_t_rowNumber u_t_ties r_t_child r_t_wedsBack) H → va_S A s.heap H locs → decode cX12_childOf pc = .ok (.ireturn, 1) → W p l e rX12_childOf s m args below meth c H locs 0 0 Q (F0 m pc ls [.int o])) {H : Heap} {locs : List Loc} {ls : Array Slot} (hP : va_P D vwCl (w_X12_childOf cI cB cZ a_t aX u_t_code u_t_n u_t_ahead u_t_length u_t_begins u_t_sort u_t_value u_t_letters u_t_word u_t_wrongAt u_t_laterFault u_t_laterPlace u_t_newClasses u_t_newLines u_t_turns u_t_shortest u_t_orders u_t_rowNumber u_t_ties r_t_child r_t_wedsBack) H) (hD : va_D A (w_X12_childOf cI cB cZ a_t aX u_t_code u_t_n u_t_ahead u_t_length u_t_begins u_t_sort u_t_value u_t_letters u_t_word u_t_wrongAt u_t_laterFault u_t_laterPlace u_t_newClasses u_t_newLines u_t_turns u_t_shortest u_t_orders u_t_rowNumber u_t_ties r_t_child r_t_wedsBack)) (hS : va_S A s.heap H locs) (hl : lv_has ls 3 [(0, .ref a_t), (1, .int x1), (2, .int x2)]) : W p l e rX12_childOf s m args below meth c H locs 0 0 Q (F0 m 0 ls []) := by
  obtain ⟨⟨hx, hb, hml, hown, hts⟩, hK, hN, hA⟩ := C
  have C : jCx p s m args c cX12_childOf 3 gX12_childOf RX12 G D (jT cI cB cZ) A := ⟨⟨hx, hb, hml, hown, hts⟩, hK, hN, hA⟩
  unfold f_X12_childOf at hf
  refine lv_iload_n hx hb dX12_childOf_0 rfl (lv_at hl 2 rfl) ?_
  refine lv_iconst (v := (1 : Int32)) hx hb dX12_childOf_1 (by decide) ?_
  refine lv_icmp_ne (tgt := 14) hx hb dX12_childOf_2 (by decide) (fun c1 => ?_) (fun c1 => ?_)
  · replace hf := jif_f c1 hf
    refine lv_aload_n hx hb dX12_childOf_14 rfl (lv_at hl 0 rfl) ?_
    refine va_get (D := D) (ci := 11) (v := .ref (aX 33)) (C := RX12) (T := TX12) (N := 74) hx hb hts iw_X12 hown hK hP 0 rfl rfl 33 (by decide) (hts _ (wG_in k_fl_X12_104 rfl)) (fun _ h9 => h9) rfl dX12_childOf_15 ?_
    refine lv_aload_n hx hb dX12_childOf_18 rfl (lv_at hl 0 rfl) ?_
    refine va_get (D := D) (ci := 11) (v := .ref (aX 34)) (C := RX12) (T := TX12) (N := 74) hx hb hts iw_X12 hown hK hP 0 rfl rfl 34 (by decide) (hts _ (wG_in k_fl_X12_107 rfl)) (fun _ h9 => h9) rfl dX12_childOf_19 ?_
    refine lv_iload_n hx hb dX12_childOf_22 rfl (lv_at hl 1 rfl) ?_
    obtain ⟨v2, hv2, iv2, hf⟩ := jL_some hf
    refine ja_iald (P := r_t_wedsBack) hx hb hK hP 2 0 rfl rfl hv2 iv2 dX12_childOf_23 ?_
    obtain ⟨v3, hv3, iv3, hf⟩ := jL_some hf
    refine ja_iald (P := r_t_child) hx hb hK hP 1 0 rfl rfl hv3 iv3 dX12_childOf_24 ?_
    have ho := Option.some.inj hf
    subst ho
    exact K _ _ _ _ hP hS dX12_childOf_25
  · replace hf := jif_t c1 hf
    refine lv_aload_n hx hb dX12_childOf_5 rfl (lv_at hl 0 rfl) ?_
    refine va_get (D := D) (ci := 11) (v := .ref (aX 33)) (C := RX12) (T := TX12) (N := 74) hx hb hts iw_X12 hown hK hP 0 rfl rfl 33 (by decide) (hts _ (wG_in k_fl_X12_104 rfl)) (fun _ h9 => h9) rfl dX12_childOf_6 ?_
    refine lv_iload_n hx hb dX12_childOf_9 rfl (lv_at hl 1 rfl) ?_
    obtain ⟨v4, hv4, iv4, hf⟩ := jL_some hf
    refine ja_iald (P := r_t_child) hx hb hK hP 1 0 rfl rfl hv4 iv4 dX12_childOf_10 ?_
    refine lv_goto (tgt := 25) hx hb dX12_childOf_11 (by decide) ?_
    have ho := Option.some.inj hf
    subst ho
    exact K _ _ _ _ hP hS dX12_childOf_25
set_option maxHeartbeats 4000000 in
set_option maxRecDepth 100000 in
theorem c_X12_childOf (l : Launch) (G : jGt) (D : va_G) (cI cB cZ : ClassId) (a_t : Nat) (aX : Nat → Nat) (u_t_code u_t_n u_t_ahead u_t_length u_t_begins u_t_sort u_t_value u_t_letters : Int32) (u_t_word : Int64) (u_t_wrongAt u_t_laterFault u_t_laterPlace u_t_newClasses u_t_newLines u_t_turns u_t_shortest u_t_orders u_t_rowNumber u_t_ties : Int32) (r_t_child r_t_wedsBack : jA) (x1 x2 : Int32) {o : Int32} (hf : f_X12_childOf r_t_child r_t_wedsBack x1 x2 = some o) : jMi l yX12_childOf gX12_childOf rX12_childOf G D (jT cI cB cZ) [.ref a_t, .int x1, .int x2] (w_X12_childOf cI cB cZ a_t aX u_t_code u_t_n u_t_ahead u_t_length u_t_begins u_t_sort u_t_value u_t_letters u_t_word u_t_wrongAt u_t_laterFault u_t_laterPlace u_t_newClasses u_t_newLines u_t_turns u_t_shortest u_t_orders u_t_rowNumber u_t_ties r_t_child r_t_wedsBack) (w_X12_childOf cI cB cZ a_t aX u_t_code u_t_n u_t_ahead u_t_length u_t_begins u_t_sort u_t_value u_t_letters u_t_word u_t_wrongAt u_t_laterFault u_t_laterPlace u_t_newClasses u_t_newLines u_t_turns u_t_shortest u_t_orders u_t_rowNumber u_t_ties r_t_child r_t_wedsBack) o := by
  refine jmk_i RX12 rfl (by decide +kernel) rfl (Nat.le_of_ble_eq_true rfl) rfl ?_
  intro p e s m args below meth c ls A Q C hP hD hS hl K
  exact t_X12_childOf G D cI cB cZ a_t aX u_t_code u_t_n u_t_ahead u_t_length u_t_begins u_t_sort u_t_value u_t_letters u_t_word u_t_wrongAt u_t_laterFault u_t_laterPlace u_t_newClasses u_t_newLines u_t_turns u_t_shortest u_t_orders u_t_rowNumber u_t_ties r_t_child r_t_wedsBack x1 x2 C hf K hP hD hS hl
abbrev rX12_stepped : Room := { frames := 1, cells := 0, slots := 0, locals := 22 }
abbrev gX12_stepped : List Cond := wG yX12_stepped cX12_stepped 4 (some .int)
def w_X12_stepped (cI cB cZ : ClassId) (a_t : Nat) (aX : Nat → Nat) (u_t_code u_t_n u_t_ahead u_t_length u_t_begins u_t_sort u_t_value u_t_letters : Int32) (u_t_word : Int64) (u_t_wrongAt u_t_laterFault u_t_laterPlace u_t_newClasses u_t_newLines u_t_turns u_t_shortest u_t_orders u_t_rowNumber u_t_ties : Int32) (r_t_child r_t_childBack r_t_weds r_t_wedsBack : jA) : va_W := [(a_t, .inr (11, (oX12 aX u_t_code u_t_n u_t_ahead u_t_length u_t_begins u_t_sort u_t_value u_t_letters u_t_word u_t_wrongAt u_t_laterFault u_t_laterPlace u_t_newClasses u_t_newLines u_t_turns u_t_shortest u_t_orders u_t_rowNumber u_t_ties))), ((aX 33), .inl (cI, r_t_child.1, .inl r_t_child.2)), ((aX 35), .inl (cI, r_t_childBack.1, .inl r_t_childBack.2)), ((aX 32), .inl (cI, r_t_weds.1, .inl r_t_weds.2)), ((aX 34), .inl (cI, r_t_wedsBack.1, .inl r_t_wedsBack.2))]
def f_X12_stepped_j67 (r_t_child r_t_wedsBack : jA) (x2 x3 : Int32) : Option (Int32) :=
  jM (f_X12_childOf r_t_child r_t_wedsBack x2 x3) fun r7 =>
  some r7
set_option maxHeartbeats 4000000 in
set_option maxRecDepth 100000 in
theorem t_X12_stepped_j67 {p : Program} {l : Launch} {e : Env} {s : State} {m : MethodId} {args : Array Value} {below : List Frame} {meth : Method} {c : Code} {A : Nat → Prop} {Q : State → Prop} (G : jGt) (D : va_G) (cI cB cZ : ClassId) (a_t : Nat) (aX : Nat → Nat) (u_t_code u_t_n u_t_ahead u_t_length u_t_begins u_t_sort u_t_value u_t_letters : Int32) (u_t_word : Int64) (u_t_wrongAt u_t_laterFault u_t_laterPlace u_t_newClasses u_t_newLines u_t_turns u_t_shortest u_t_orders u_t_rowNumber u_t_ties : Int32) (r_t_child r_t_childBack r_t_weds r_t_wedsBack : jA) (x2 x3 : Int32) (C : jCx p s m args c cX12_stepped 4 gX12_stepped RX12 G D (jT cI cB cZ) A) {o : Int32} (hf : f_X12_stepped_j67 r_t_child r_t_wedsBack x2 x3 = some o) (K : ∀ (H : Heap) (locs : List Loc) (pc : Nat) (ls : Array Slot), va_P D vwCl (w_X12_stepped cI cB cZ a_t aX u_t_code u_t_n u_t_ahead u_t_length u_t_begins u_t_sort u_t_value u_t_letters u_t_word u_t_wrongAt u_t_laterFault u_t_laterPlace u_t_newClasses u_t_newLines u_t_turns u_t_shortest u_t_orders u_t_rowNumber u_t_ties r_t_child r_t_childBack r_t_weds r_t_wedsBack) H → va_S A s.heap H locs → decode cX12_stepped pc = .ok (.ireturn, 1) → W p l e rX12_stepped s m args below meth c H locs 0 0 Q (F0 m pc ls [.int o])) {H : Heap} {locs : List Loc} {ls : Array Slot} (hP : va_P D vwCl (w_X12_stepped cI cB cZ a_t aX u_t_code u_t_n u_t_ahead u_t_length u_t_begins u_t_sort u_t_value u_t_letters u_t_word u_t_wrongAt u_t_laterFault u_t_laterPlace u_t_newClasses u_t_newLines u_t_turns u_t_shortest u_t_orders u_t_rowNumber u_t_ties r_t_child r_t_childBack r_t_weds r_t_wedsBack) H) (hD : va_D A (w_X12_stepped cI cB cZ a_t aX u_t_code u_t_n u_t_ahead u_t_length u_t_begins u_t_sort u_t_value u_t_letters u_t_word u_t_wrongAt u_t_laterFault u_t_laterPlace u_t_newClasses u_t_newLines u_t_turns u_t_shortest u_t_orders u_t_rowNumber u_t_ties r_t_child r_t_childBack r_t_weds r_t_wedsBack)) (hS : va_S A s.heap H locs) (hl : lv_has ls 4 [(0, .ref a_t), (2, .int x2), (3, .int x3)]) : W p l e rX12_stepped s m args below meth c H locs 0 0 Q (F0 m 67 ls []) := by
  obtain ⟨⟨hx, hb, hml, hown, hts⟩, hK, hN, hA⟩ := C
  have C : jCx p s m args c cX12_stepped 4 gX12_stepped RX12 G D (jT cI cB cZ) A := ⟨⟨hx, hb, hml, hown, hts⟩, hK, hN, hA⟩
  unfold f_X12_stepped_j67 at hf
  refine lv_aload_n hx hb dX12_stepped_67 rfl (lv_at hl 0 rfl) ?_
  refine lv_iload_n hx hb dX12_stepped_68 rfl (lv_at hl 1 rfl) ?_
  refine lv_iload_n hx hb dX12_stepped_69 rfl (lv_at hl 2 rfl) ?_
  obtain ⟨r7, hgr7, hf⟩ := jM_some hf
  refine jcV_i0 (As := [.int x2, .int x3]) (rest := []) ⟨hx, hb, hml, hown, hts⟩ hK hN hA (c_X12_childOf l G D cI cB cZ a_t aX u_t_code u_t_n u_t_ahead u_t_length u_t_begins u_t_sort u_t_value u_t_letters u_t_word u_t_wrongAt u_t_laterFault u_t_laterPlace u_t_newClasses u_t_newLines u_t_turns u_t_shortest u_t_orders u_t_rowNumber u_t_ties r_t_child r_t_wedsBack x2 x3 hgr7) (cwV 2 hts (wG_V k_ml_X12_195 k_im_X12_childOf k_se_X12_childOf k_in_X12 k_co_X12_childOf) rfl rfl rfl hd_X12_childOf ⟨Nat.le_of_ble_eq_true rfl, Nat.le_of_ble_eq_true rfl⟩) hP hD hS [0, 1, 4] rfl rfl rfl (ci := 11) rfl 0 rfl rfl rfl hl.1 rfl (Nat.le_of_ble_eq_true rfl) dX12_stepped_70 ⟨Nat.le_of_ble_eq_true rfl, Nat.le_of_ble_eq_true rfl⟩ (fun H locs hP hD hS => ?_)
  have ho := Option.some.inj hf
  subst ho
  exact K _ _ _ _ hP hS dX12_stepped_73
def f_X12_stepped (r_t_child r_t_childBack r_t_weds r_t_wedsBack : jA) (x1 x2 x3 : Int32) : Option (Int32) :=
  if x1 = (0 : Int32) then
  jL r_t_childBack x2 fun v2 =>
  some v2
  else if x1 = (1 : Int32) then
  jL r_t_childBack x2 fun v4 =>
  jL r_t_weds v4 fun v5 =>
  some v5
  else if x1 = (2 : Int32) then
  f_X12_stepped_j67 r_t_child r_t_wedsBack x2 x3
  else if x1 = (3 : Int32) then
  f_X12_stepped_j67 r_t_child r_t_wedsBack x2 x3
  else if x1 = (4 : Int32) then
  some x2
  else if x1 = (5 : Int32) then
  some x2
  else if x1 = (6 : Int32) then
  jL r_t_wedsBack x2 fun v12 =>
  some v12
  else if x1 = (7 : Int32) then
  jL r_t_weds x2 fun v14 =>
  some v14
  else some x2
set_option maxHeartbeats 4000000 in
set_option maxRecDepth 100000 in
theorem t_X12_stepped {p : Program} {l : Launch} {e : Env} {s : State} {m : MethodId} {args : Array Value} {below : List Frame} {meth : Method} {c : Code} {A : Nat → Prop} {Q : State → Prop} (G : jGt) (D : va_G) (cI cB cZ : ClassId) (a_t : Nat) (aX : Nat → Nat) (u_t_code u_t_n u_t_ahead u_t_length u_t_begins u_t_sort u_t_value u_t_letters : Int32) (u_t_word : Int64) (u_t_wrongAt u_t_laterFault u_t_laterPlace u_t_newClasses u_t_newLines u_t_turns u_t_shortest u_t_orders u_t_rowNumber u_t_ties : Int32) (r_t_child r_t_childBack r_t_weds r_t_wedsBack : jA) (x1 x2 x3 : Int32) (C : jCx p s m args c cX12_stepped 4 gX12_stepped RX12 G D (jT cI cB cZ) A) {o : Int32} (hf : f_X12_stepped r_t_child r_t_childBack r_t_weds r_t_wedsBack x1 x2 x3 = some o) (K : ∀ (H : Heap) (locs : List Loc) (pc : Nat) (ls : Array Slot), va_P D vwCl (w_X12_stepped cI cB cZ a_t aX u_t_code u_t_n u_t_ahead u_t_length u_t_begins u_t_sort u_t_value u_t_letters u_t_word u_t_wrongAt u_t_laterFault u_t_laterPlace u_t_newClasses u_t_newLines u_t_turns u_t_shortest u_t_orders u_t_rowNumber u_t_ties r_t_child r_t_childBack r_t_weds r_t_wedsBack) H → va_S A s.heap H locs → decode cX12_stepped pc = .ok (.ireturn, 1) → W p l e rX12_stepped s m args below meth c H locs 0 0 Q (F0 m pc ls [.int o])) {H : Heap} {locs : List Loc} {ls : Array Slot} (hP : va_P D vwCl (w_X12_stepped cI cB cZ a_t aX u_t_code u_t_n u_t_ahead u_t_length u_t_begins u_t_sort u_t_value u_t_letters u_t_word u_t_wrongAt u_t_laterFault u_t_laterPlace u_t_newClasses u_t_newLines u_t_turns u_t_shortest u_t_orders u_t_rowNumber u_t_ties r_t_child r_t_childBack r_t_weds r_t_wedsBack) H) (hD : va_D A (w_X12_stepped cI cB cZ a_t aX u_t_code u_t_n u_t_ahead u_t_length u_t_begins u_t_sort u_t_value u_t_letters u_t_word u_t_wrongAt u_t_laterFault u_t_laterPlace u_t_newClasses u_t_newLines u_t_turns u_t_shortest u_t_orders u_t_rowNumber u_t_ties r_t_child r_t_childBack r_t_weds r_t_wedsBack)) (hS : va_S A s.heap H locs) (hl : lv_has ls 4 [(0, .ref a_t), (1, .int x1), (2, .int x2), (3, .int x3)]) : W p l e rX12_stepped s m args below meth c H locs 0 0 Q (F0 m 0 ls []) := by
  obtain ⟨⟨hx, hb, hml, hown, hts⟩, hK, hN, hA⟩ := C
  have C : jCx p s m args c cX12_stepped 4 gX12_stepped RX12 G D (jT cI cB cZ) A := ⟨⟨hx, hb, hml, hown, hts⟩, hK, hN, hA⟩
  unfold f_X12_stepped at hf
  refine lv_iload_n hx hb dX12_stepped_0 rfl (lv_at hl 1 rfl) ?_
  by_cases c1 : x1 = (0 : Int32)
  · replace hf := jif_t c1 hf
    refine lv_tableIn (tgt := 48) hx hb dX12_stepped_1 (by rw [c1]; decide) (by rw [c1]; decide) (by rw [c1]; rfl) (by decide) ?_
    refine lv_aload_n hx hb dX12_stepped_48 rfl (lv_at hl 0 rfl) ?_
    refine va_get (D := D) (ci := 11) (v := .ref (aX 35)) (C := RX12) (T := TX12) (N := 74) hx hb hts iw_X12 hown hK hP 0 rfl rfl 35 (by decide) (hts _ (wG_in k_fl_X12_110 rfl)) (fun _ h9 => h9) rfl dX12_stepped_49 ?_
    refine lv_iload_n hx hb dX12_stepped_52 rfl (lv_at hl 2 rfl) ?_
    obtain ⟨v2, hv2, iv2, hf⟩ := jL_some hf
    refine ja_iald (P := r_t_childBack) hx hb hK hP 2 0 rfl rfl hv2 iv2 dX12_stepped_53 ?_
    have ho := Option.some.inj hf
    subst ho
    exact K _ _ _ _ hP hS dX12_stepped_54
  replace hf := jif_f c1 hf
  by_cases c3 : x1 = (1 : Int32)
  · replace hf := jif_t c3 hf
    refine lv_tableIn (tgt := 55) hx hb dX12_stepped_1 (by rw [c3]; decide) (by rw [c3]; decide) (by rw [c3]; rfl) (by decide) ?_
    refine lv_aload_n hx hb dX12_stepped_55 rfl (lv_at hl 0 rfl) ?_
    refine va_get (D := D) (ci := 11) (v := .ref (aX 32)) (C := RX12) (T := TX12) (N := 74) hx hb hts iw_X12 hown hK hP 0 rfl rfl 32 (by decide) (hts _ (wG_in k_fl_X12_101 rfl)) (fun _ h9 => h9) rfl dX12_stepped_56 ?_
    refine lv_aload_n hx hb dX12_stepped_59 rfl (lv_at hl 0 rfl) ?_
    refine va_get (D := D) (ci := 11) (v := .ref (aX 35)) (C := RX12) (T := TX12) (N := 74) hx hb hts iw_X12 hown hK hP 0 rfl rfl 35 (by decide) (hts _ (wG_in k_fl_X12_110 rfl)) (fun _ h9 => h9) rfl dX12_stepped_60 ?_
    refine lv_iload_n hx hb dX12_stepped_63 rfl (lv_at hl 2 rfl) ?_
    obtain ⟨v4, hv4, iv4, hf⟩ := jL_some hf
    refine ja_iald (P := r_t_childBack) hx hb hK hP 2 0 rfl rfl hv4 iv4 dX12_stepped_64 ?_
    obtain ⟨v5, hv5, iv5, hf⟩ := jL_some hf
    refine ja_iald (P := r_t_weds) hx hb hK hP 3 0 rfl rfl hv5 iv5 dX12_stepped_65 ?_
    have ho := Option.some.inj hf
    subst ho
    exact K _ _ _ _ hP hS dX12_stepped_66
  replace hf := jif_f c3 hf
  by_cases c6 : x1 = (2 : Int32)
  · replace hf := jif_t c6 hf
    refine lv_tableIn (tgt := 67) hx hb dX12_stepped_1 (by rw [c6]; decide) (by rw [c6]; decide) (by rw [c6]; rfl) (by decide) ?_
    exact t_X12_stepped_j67 G D cI cB cZ a_t aX u_t_code u_t_n u_t_ahead u_t_length u_t_begins u_t_sort u_t_value u_t_letters u_t_word u_t_wrongAt u_t_laterFault u_t_laterPlace u_t_newClasses u_t_newLines u_t_turns u_t_shortest u_t_orders u_t_rowNumber u_t_ties r_t_child r_t_childBack r_t_weds r_t_wedsBack x2 x3 C hf K hP hD hS (lv_sub hl [0, 2, 3] rfl)
  replace hf := jif_f c6 hf
  by_cases c8 : x1 = (3 : Int32)
  · replace hf := jif_t c8 hf
    refine lv_tableIn (tgt := 67) hx hb dX12_stepped_1 (by rw [c8]; decide) (by rw [c8]; decide) (by rw [c8]; rfl) (by decide) ?_
    exact t_X12_stepped_j67 G D cI cB cZ a_t aX u_t_code u_t_n u_t_ahead u_t_length u_t_begins u_t_sort u_t_value u_t_letters u_t_word u_t_wrongAt u_t_laterFault u_t_laterPlace u_t_newClasses u_t_newLines u_t_turns u_t_shortest u_t_orders u_t_rowNumber u_t_ties r_t_child r_t_childBack r_t_weds r_t_wedsBack x2 x3 C hf K hP hD hS (lv_sub hl [0, 2, 3] rfl)
  replace hf := jif_f c8 hf
  by_cases c9 : x1 = (4 : Int32)
  · replace hf := jif_t c9 hf
    refine lv_tableIn (tgt := 88) hx hb dX12_stepped_1 (by rw [c9]; decide) (by rw [c9]; decide) (by rw [c9]; rfl) (by decide) ?_
    refine lv_iload_n hx hb dX12_stepped_88 rfl (lv_at hl 2 rfl) ?_
    have ho := Option.some.inj hf
    subst ho
    exact K _ _ _ _ hP hS dX12_stepped_89
  replace hf := jif_f c9 hf
  by_cases c10 : x1 = (5 : Int32)
  · replace hf := jif_t c10 hf
    refine lv_tableIn (tgt := 88) hx hb dX12_stepped_1 (by rw [c10]; decide) (by rw [c10]; decide) (by rw [c10]; rfl) (by decide) ?_
    refine lv_iload_n hx hb dX12_stepped_88 rfl (lv_at hl 2 rfl) ?_
    have ho := Option.some.inj hf
    subst ho
    exact K _ _ _ _ hP hS dX12_stepped_89
  replace hf := jif_f c10 hf
  by_cases c11 : x1 = (6 : Int32)
  · replace hf := jif_t c11 hf
    refine lv_tableIn (tgt := 74) hx hb dX12_stepped_1 (by rw [c11]; decide) (by rw [c11]; decide) (by rw [c11]; rfl) (by decide) ?_
    refine lv_aload_n hx hb dX12_stepped_74 rfl (lv_at hl 0 rfl) ?_
    refine va_get (D := D) (ci := 11) (v := .ref (aX 34)) (C := RX12) (T := TX12) (N := 74) hx hb hts iw_X12 hown hK hP 0 rfl rfl 34 (by decide) (hts _ (wG_in k_fl_X12_107 rfl)) (fun _ h9 => h9) rfl dX12_stepped_75 ?_
    refine lv_iload_n hx hb dX12_stepped_78 rfl (lv_at hl 2 rfl) ?_
    obtain ⟨v12, hv12, iv12, hf⟩ := jL_some hf
    refine ja_iald (P := r_t_wedsBack) hx hb hK hP 4 0 rfl rfl hv12 iv12 dX12_stepped_79 ?_
    have ho := Option.some.inj hf
    subst ho
    exact K _ _ _ _ hP hS dX12_stepped_80
  replace hf := jif_f c11 hf
  by_cases c13 : x1 = (7 : Int32)
  · replace hf := jif_t c13 hf
    refine lv_tableIn (tgt := 81) hx hb dX12_stepped_1 (by rw [c13]; decide) (by rw [c13]; decide) (by rw [c13]; rfl) (by decide) ?_
    refine lv_aload_n hx hb dX12_stepped_81 rfl (lv_at hl 0 rfl) ?_
    refine va_get (D := D) (ci := 11) (v := .ref (aX 32)) (C := RX12) (T := TX12) (N := 74) hx hb hts iw_X12 hown hK hP 0 rfl rfl 32 (by decide) (hts _ (wG_in k_fl_X12_101 rfl)) (fun _ h9 => h9) rfl dX12_stepped_82 ?_
    refine lv_iload_n hx hb dX12_stepped_85 rfl (lv_at hl 2 rfl) ?_
    obtain ⟨v14, hv14, iv14, hf⟩ := jL_some hf
    refine ja_iald (P := r_t_weds) hx hb hK hP 3 0 rfl rfl hv14 iv14 dX12_stepped_86 ?_
    have ho := Option.some.inj hf
    subst ho
    exact K _ _ _ _ hP hS dX12_stepped_87
  replace hf := jif_f c13 hf
  refine lv_tableOut (tgt := 88) hx hb dX12_stepped_1 (jtab_out (lo := 0) (n := 8) (fun k hk => match k, hk with | 0, _ => c1 | 1, _ => c3 | 2, _ => c6 | 3, _ => c8 | 4, _ => c9 | 5, _ => c10 | 6, _ => c11 | 7, _ => c13 | (k + 8), h => absurd h (by omega))) (by decide) ?_
  refine lv_iload_n hx hb dX12_stepped_88 rfl (lv_at hl 2 rfl) ?_
  have ho := Option.some.inj hf
  subst ho
  exact K _ _ _ _ hP hS dX12_stepped_89
set_option maxHeartbeats 4000000 in
set_option maxRecDepth 100000 in
theorem c_X12_stepped (l : Launch) (G : jGt) (D : va_G) (cI cB cZ : ClassId) (a_t : Nat) (aX : Nat → Nat) (u_t_code u_t_n u_t_ahead u_t_length u_t_begins u_t_sort u_t_value u_t_letters : Int32) (u_t_word : Int64) (u_t_wrongAt u_t_laterFault u_t_laterPlace u_t_newClasses u_t_newLines u_t_turns u_t_shortest u_t_orders u_t_rowNumber u_t_ties : Int32) (r_t_child r_t_childBack r_t_weds r_t_wedsBack : jA) (x1 x2 x3 : Int32) {o : Int32} (hf : f_X12_stepped r_t_child r_t_childBack r_t_weds r_t_wedsBack x1 x2 x3 = some o) : jMi l yX12_stepped gX12_stepped rX12_stepped G D (jT cI cB cZ) [.ref a_t, .int x1, .int x2, .int x3] (w_X12_stepped cI cB cZ a_t aX u_t_code u_t_n u_t_ahead u_t_length u_t_begins u_t_sort u_t_value u_t_letters u_t_word u_t_wrongAt u_t_laterFault u_t_laterPlace u_t_newClasses u_t_newLines u_t_turns u_t_shortest u_t_orders u_t_rowNumber u_t_ties r_t_child r_t_childBack r_t_weds r_t_wedsBack) (w_X12_stepped cI cB cZ a_t aX u_t_code u_t_n u_t_ahead u_t_length u_t_begins u_t_sort u_t_value u_t_letters u_t_word u_t_wrongAt u_t_laterFault u_t_laterPlace u_t_newClasses u_t_newLines u_t_turns u_t_shortest u_t_orders u_t_rowNumber u_t_ties r_t_child r_t_childBack r_t_weds r_t_wedsBack) o := by
  refine jmk_i RX12 rfl (by decide +kernel) rfl (Nat.le_of_ble_eq_true rfl) rfl ?_
  intro p e s m args below meth c ls A Q C hP hD hS hl K
  exact t_X12_stepped G D cI cB cZ a_t aX u_t_code u_t_n u_t_ahead u_t_length u_t_begins u_t_sort u_t_value u_t_letters u_t_word u_t_wrongAt u_t_laterFault u_t_laterPlace u_t_newClasses u_t_newLines u_t_turns u_t_shortest u_t_orders u_t_rowNumber u_t_ties r_t_child r_t_childBack r_t_weds r_t_wedsBack x1 x2 x3 C hf K hP hD hS hl
abbrev rX12_sexBehind : Room := { frames := 0, cells := 0, slots := 0, locals := 0 }
abbrev gX12_sexBehind : List Cond := wG yX12_sexBehind cX12_sexBehind 1 (some .int)
def f_X12_sexBehind (x0 : Int32) : Option (Int32) :=
  if (x0 - x0 / (2 : Int32) * (2 : Int32)) = 0 then
  some (1 : Int32)
  else
  some (0 : Int32)
set_option maxHeartbeats 4000000 in
set_option maxRecDepth 100000 in
theorem t_X12_sexBehind {p : Program} {l : Launch} {e : Env} {s : State} {m : MethodId} {args : Array Value} {below : List Frame} {meth : Method} {c : Code} {A : Nat → Prop} {Q : State → Prop} (G : jGt) (D : va_G) (cI cB cZ : ClassId) (x0 : Int32) (C : jCx p s m args c cX12_sexBehind 1 gX12_sexBehind RX12 G D (jT cI cB cZ) A) {o : Int32} (hf : f_X12_sexBehind x0 = some o) (K : ∀ (H : Heap) (locs : List Loc) (pc : Nat) (ls : Array Slot), va_P D vwCl [] H → va_S A s.heap H locs → decode cX12_sexBehind pc = .ok (.ireturn, 1) → W p l e rX12_sexBehind s m args below meth c H locs 0 0 Q (F0 m pc ls [.int o])) {H : Heap} {locs : List Loc} {ls : Array Slot} (hP : va_P D vwCl [] H) (hD : va_D A []) (hS : va_S A s.heap H locs) (hl : lv_has ls 1 [(0, .int x0)]) : W p l e rX12_sexBehind s m args below meth c H locs 0 0 Q (F0 m 0 ls []) := by
  obtain ⟨⟨hx, hb, hml, hown, hts⟩, hK, hN, hA⟩ := C
  have C : jCx p s m args c cX12_sexBehind 1 gX12_sexBehind RX12 G D (jT cI cB cZ) A := ⟨⟨hx, hb, hml, hown, hts⟩, hK, hN, hA⟩
  unfold f_X12_sexBehind at hf
  refine lv_iload_n hx hb dX12_sexBehind_0 rfl (lv_at hl 0 rfl) ?_
  refine lv_iconst (v := (2 : Int32)) hx hb dX12_sexBehind_1 (by decide) ?_
  refine lv_irem hx hb dX12_sexBehind_2 (by decide) ?_
  refine lv_if_ne (tgt := 10) hx hb dX12_sexBehind_3 (by decide) (fun c2 => ?_) (fun c2 => ?_)
  · replace hf := jif_f c2 hf
    refine lv_iconst (v := (0 : Int32)) hx hb dX12_sexBehind_10 (by decide) ?_
    have ho := Option.some.inj hf
    subst ho
    exact K _ _ _ _ hP hS dX12_sexBehind_11
  · replace hf := jif_t c2 hf
    refine lv_iconst (v := (1 : Int32)) hx hb dX12_sexBehind_6 (by decide) ?_
    refine lv_goto (tgt := 11) hx hb dX12_sexBehind_7 (by decide) ?_
    have ho := Option.some.inj hf
    subst ho
    exact K _ _ _ _ hP hS dX12_sexBehind_11
set_option maxHeartbeats 4000000 in
set_option maxRecDepth 100000 in
theorem c_X12_sexBehind (l : Launch) (G : jGt) (D : va_G) (cI cB cZ : ClassId) (x0 : Int32) {o : Int32} (hf : f_X12_sexBehind x0 = some o) : jMi l yX12_sexBehind gX12_sexBehind rX12_sexBehind G D (jT cI cB cZ) [.int x0] [] [] o := by
  refine jmk_i RX12 rfl (by decide +kernel) rfl (Nat.le_of_ble_eq_true rfl) rfl ?_
  intro p e s m args below meth c ls A Q C hP hD hS hl K
  exact t_X12_sexBehind G D cI cB cZ x0 C hf K hP hD hS hl
abbrev rX12_mayStep : Room := { frames := 0, cells := 0, slots := 0, locals := 0 }
abbrev gX12_mayStep : List Cond := wG yX12_mayStep cX12_mayStep 2 (some .boolean)
def f_X12_mayStep_j29  : Option (Int32) :=
  some (1 : Int32)
set_option maxHeartbeats 4000000 in
set_option maxRecDepth 100000 in
theorem t_X12_mayStep_j29 {p : Program} {l : Launch} {e : Env} {s : State} {m : MethodId} {args : Array Value} {below : List Frame} {meth : Method} {c : Code} {A : Nat → Prop} {Q : State → Prop} (G : jGt) (D : va_G) (cI cB cZ : ClassId)  (C : jCx p s m args c cX12_mayStep 2 gX12_mayStep RX12 G D (jT cI cB cZ) A) {o : Int32} (hf : f_X12_mayStep_j29  = some o) (K : ∀ (H : Heap) (locs : List Loc) (pc : Nat) (ls : Array Slot), (o = 0 ∨ o = 1) → va_P D vwCl [] H → va_S A s.heap H locs → decode cX12_mayStep pc = .ok (.ireturn, 1) → W p l e rX12_mayStep s m args below meth c H locs 0 0 Q (F0 m pc ls [.int o])) {H : Heap} {locs : List Loc} {ls : Array Slot} (hP : va_P D vwCl [] H) (hD : va_D A []) (hS : va_S A s.heap H locs) (hl : lv_has ls 2 []) : W p l e rX12_mayStep s m args below meth c H locs 0 0 Q (F0 m 29 ls []) := by
  obtain ⟨⟨hx, hb, hml, hown, hts⟩, hK, hN, hA⟩ := C
  have C : jCx p s m args c cX12_mayStep 2 gX12_mayStep RX12 G D (jT cI cB cZ) A := ⟨⟨hx, hb, hml, hown, hts⟩, hK, hN, hA⟩
  unfold f_X12_mayStep_j29 at hf
  refine lv_iconst (v := (1 : Int32)) hx hb dX12_mayStep_29 (by decide) ?_
  refine lv_goto (tgt := 34) hx hb dX12_mayStep_30 (by decide) ?_
  have ho := Option.some.inj hf
  subst ho
  exact K _ _ _ _ (Or.inr rfl) hP hS dX12_mayStep_34
def f_X12_mayStep (x0 x1 : Int32) : Option (Int32) :=
  if x0 = (6 : Int32) then
  if x1 = 0 then
  some (1 : Int32)
  else
  some (0 : Int32)
  else
  if x0 = (7 : Int32) then
  if x1 = (1 : Int32) then
  f_X12_mayStep_j29 
  else
  some (0 : Int32)
  else
  f_X12_mayStep_j29 
set_option maxHeartbeats 4000000 in
set_option maxRecDepth 100000 in
theorem t_X12_mayStep {p : Program} {l : Launch} {e : Env} {s : State} {m : MethodId} {args : Array Value} {below : List Frame} {meth : Method} {c : Code} {A : Nat → Prop} {Q : State → Prop} (G : jGt) (D : va_G) (cI cB cZ : ClassId) (x0 x1 : Int32) (C : jCx p s m args c cX12_mayStep 2 gX12_mayStep RX12 G D (jT cI cB cZ) A) {o : Int32} (hf : f_X12_mayStep x0 x1 = some o) (K : ∀ (H : Heap) (locs : List Loc) (pc : Nat) (ls : Array Slot), (o = 0 ∨ o = 1) → va_P D vwCl [] H → va_S A s.heap H locs → decode cX12_mayStep pc = .ok (.ireturn, 1) → W p l e rX12_mayStep s m args below meth c H locs 0 0 Q (F0 m pc ls [.int o])) {H : Heap} {locs : List Loc} {ls : Array Slot} (hP : va_P D vwCl [] H) (hD : va_D A []) (hS : va_S A s.heap H locs) (hl : lv_has ls 2 [(0, .int x0), (1, .int x1)]) : W p l e rX12_mayStep s m args below meth c H locs 0 0 Q (F0 m 0 ls []) := by
  obtain ⟨⟨hx, hb, hml, hown, hts⟩, hK, hN, hA⟩ := C
  have C : jCx p s m args c cX12_mayStep 2 gX12_mayStep RX12 G D (jT cI cB cZ) A := ⟨⟨hx, hb, hml, hown, hts⟩, hK, hN, hA⟩
  unfold f_X12_mayStep at hf
  refine lv_iload_n hx hb dX12_mayStep_0 rfl (lv_at hl 0 rfl) ?_
  refine lv_bipush (v := (6 : Int32)) hx hb dX12_mayStep_1 (by decide) ?_
  refine lv_icmp_ne (tgt := 18) hx hb dX12_mayStep_3 (by decide) (fun c1 => ?_) (fun c1 => ?_)
  · replace hf := jif_f c1 hf
    refine lv_iload_n hx hb dX12_mayStep_18 rfl (lv_at hl 0 rfl) ?_
    refine lv_bipush (v := (7 : Int32)) hx hb dX12_mayStep_19 (by decide) ?_
    refine lv_icmp_ne (tgt := 29) hx hb dX12_mayStep_21 (by decide) (fun c2 => ?_) (fun c2 => ?_)
    · replace hf := jif_f c2 hf
      exact t_X12_mayStep_j29 G D cI cB cZ  C hf K hP hD hS (lv_sub hl [] rfl)
    · replace hf := jif_t c2 hf
      refine lv_iload_n hx hb dX12_mayStep_24 rfl (lv_at hl 1 rfl) ?_
      refine lv_iconst (v := (1 : Int32)) hx hb dX12_mayStep_25 (by decide) ?_
      refine lv_icmp_ne (tgt := 33) hx hb dX12_mayStep_26 (by decide) (fun c3 => ?_) (fun c3 => ?_)
      · replace hf := jif_f c3 hf
        refine lv_iconst (v := (0 : Int32)) hx hb dX12_mayStep_33 (by decide) ?_
        have ho := Option.some.inj hf
        subst ho
        exact K _ _ _ _ (Or.inl rfl) hP hS dX12_mayStep_34
      · replace hf := jif_t c3 hf
        exact t_X12_mayStep_j29 G D cI cB cZ  C hf K hP hD hS (lv_sub hl [] rfl)
  · replace hf := jif_t c1 hf
    refine lv_iload_n hx hb dX12_mayStep_6 rfl (lv_at hl 1 rfl) ?_
    refine lv_if_ne (tgt := 14) hx hb dX12_mayStep_7 (by decide) (fun c4 => ?_) (fun c4 => ?_)
    · replace hf := jif_f c4 hf
      refine lv_iconst (v := (0 : Int32)) hx hb dX12_mayStep_14 (by decide) ?_
      refine lv_goto (tgt := 34) hx hb dX12_mayStep_15 (by decide) ?_
      have ho := Option.some.inj hf
      subst ho
      exact K _ _ _ _ (Or.inl rfl) hP hS dX12_mayStep_34
    · replace hf := jif_t c4 hf
      refine lv_iconst (v := (1 : Int32)) hx hb dX12_mayStep_10 (by decide) ?_
      refine lv_goto (tgt := 34) hx hb dX12_mayStep_11 (by decide) ?_
      have ho := Option.some.inj hf
      subst ho
      exact K _ _ _ _ (Or.inr rfl) hP hS dX12_mayStep_34
set_option maxHeartbeats 4000000 in
set_option maxRecDepth 100000 in
theorem c_X12_mayStep (l : Launch) (G : jGt) (D : va_G) (cI cB cZ : ClassId) (x0 x1 : Int32) {o : Int32} (hf : f_X12_mayStep x0 x1 = some o) : jMi l yX12_mayStep gX12_mayStep rX12_mayStep G D (jT cI cB cZ) [.int x0, .int x1] [] [] o := by
  refine jmk_z RX12 rfl (by decide +kernel) rfl (Nat.le_of_ble_eq_true rfl) rfl ?_
  intro p e s m args below meth c ls A Q C hP hD hS hl K
  exact t_X12_mayStep G D cI cB cZ x0 x1 C hf K hP hD hS hl
abbrev rX12_walk : Room := { frames := 2, cells := 0, slots := 0, locals := 45 }
abbrev gX12_walk : List Cond := wG yX12_walk cX12_walk 9 (some .int)
def w_X12_walk (cI cB cZ : ClassId) (a_p0 a_t : Nat) (aX : Nat → Nat) (u_t_code u_t_n u_t_ahead u_t_length u_t_begins u_t_sort u_t_value u_t_letters : Int32) (u_t_word : Int64) (u_t_wrongAt u_t_laterFault u_t_laterPlace u_t_newClasses u_t_newLines u_t_turns u_t_shortest u_t_orders u_t_rowNumber u_t_ties : Int32) (r_p0 r_t_child r_t_childBack r_t_weds r_t_wedsBack : jA) : va_W := [(a_p0, .inl (cB, r_p0.1, .inl r_p0.2)), (a_t, .inr (11, (oX12 aX u_t_code u_t_n u_t_ahead u_t_length u_t_begins u_t_sort u_t_value u_t_letters u_t_word u_t_wrongAt u_t_laterFault u_t_laterPlace u_t_newClasses u_t_newLines u_t_turns u_t_shortest u_t_orders u_t_rowNumber u_t_ties))), ((aX 33), .inl (cI, r_t_child.1, .inl r_t_child.2)), ((aX 35), .inl (cI, r_t_childBack.1, .inl r_t_childBack.2)), ((aX 32), .inl (cI, r_t_weds.1, .inl r_t_weds.2)), ((aX 34), .inl (cI, r_t_wedsBack.1, .inl r_t_wedsBack.2))]
def f_X12_walk_b11 (r_p0 r_t_child r_t_childBack r_t_weds r_t_wedsBack : jA) (x2 x3 x6 x7 x8 : Int32) : Option ((Int32 × Int32 × Int32) ⊕ ((Int32))) :=
  if (x2 + x3) ≤ x8 then
  some (Sum.inr x6)
  else
  jL r_p0 x8 fun v2 =>
  jM (f_X12_stepped r_t_child r_t_childBack r_t_weds r_t_wedsBack v2 x6 x7) fun r3 =>
  jL r_p0 x8 fun v4 =>
  jM (f_X12_sexBehind v4) fun r5 =>
  some (Sum.inl (r3, r5, (x8 + 1)))
set_option maxHeartbeats 4000000 in
set_option maxRecDepth 100000 in
theorem t_X12_walk_b11 {p : Program} {l : Launch} {e : Env} {s : State} {m : MethodId} {args : Array Value} {below : List Frame} {meth : Method} {c : Code} {A : Nat → Prop} {Q : State → Prop} (G : jGt) (D : va_G) (cI cB cZ : ClassId) (a_p0 a_t : Nat) (aX : Nat → Nat) (u_t_code u_t_n u_t_ahead u_t_length u_t_begins u_t_sort u_t_value u_t_letters : Int32) (u_t_word : Int64) (u_t_wrongAt u_t_laterFault u_t_laterPlace u_t_newClasses u_t_newLines u_t_turns u_t_shortest u_t_orders u_t_rowNumber u_t_ties : Int32) (r_p0 r_t_child r_t_childBack r_t_weds r_t_wedsBack : jA) (x2 x3 x6 x7 x8 : Int32) (C : jCx p s m args c cX12_walk 9 gX12_walk RX12 G D (jT cI cB cZ) A) {o : (Int32 × Int32 × Int32) ⊕ ((Int32))} (hf : f_X12_walk_b11 r_p0 r_t_child r_t_childBack r_t_weds r_t_wedsBack x2 x3 x6 x7 x8 = some o) (K : (∀ z, o = Sum.inl z → ∀ (H : Heap) (locs : List Loc) (ls : Array Slot), va_P D vwCl (w_X12_walk cI cB cZ a_p0 a_t aX u_t_code u_t_n u_t_ahead u_t_length u_t_begins u_t_sort u_t_value u_t_letters u_t_word u_t_wrongAt u_t_laterFault u_t_laterPlace u_t_newClasses u_t_newLines u_t_turns u_t_shortest u_t_orders u_t_rowNumber u_t_ties r_p0 r_t_child r_t_childBack r_t_weds r_t_wedsBack) H → va_D A (w_X12_walk cI cB cZ a_p0 a_t aX u_t_code u_t_n u_t_ahead u_t_length u_t_begins u_t_sort u_t_value u_t_letters u_t_word u_t_wrongAt u_t_laterFault u_t_laterPlace u_t_newClasses u_t_newLines u_t_turns u_t_shortest u_t_orders u_t_rowNumber u_t_ties r_p0 r_t_child r_t_childBack r_t_weds r_t_wedsBack) → va_S A s.heap H locs → lv_has ls 9 [(0, .ref a_t), (1, .ref a_p0), (2, .int x2), (3, .int x3), (6, .int z.1), (7, .int z.2.1), (8, .int z.2.2)] → W p l e rX12_walk s m args below meth c H locs 0 0 Q (F0 m 11 ls [])) ∧ (∀ z, o = Sum.inr z → ∀ (H : Heap) (locs : List Loc) (ls : Array Slot), va_P D vwCl (w_X12_walk cI cB cZ a_p0 a_t aX u_t_code u_t_n u_t_ahead u_t_length u_t_begins u_t_sort u_t_value u_t_letters u_t_word u_t_wrongAt u_t_laterFault u_t_laterPlace u_t_newClasses u_t_newLines u_t_turns u_t_shortest u_t_orders u_t_rowNumber u_t_ties r_p0 r_t_child r_t_childBack r_t_weds r_t_wedsBack) H → va_D A (w_X12_walk cI cB cZ a_p0 a_t aX u_t_code u_t_n u_t_ahead u_t_length u_t_begins u_t_sort u_t_value u_t_letters u_t_word u_t_wrongAt u_t_laterFault u_t_laterPlace u_t_newClasses u_t_newLines u_t_turns u_t_shortest u_t_orders u_t_rowNumber u_t_ties r_p0 r_t_child r_t_childBack r_t_weds r_t_wedsBack) → va_S A s.heap H locs → lv_has ls 9 [(6, .int z)] → W p l e rX12_walk s m args below meth c H locs 0 0 Q (F0 m 48 ls []))) {H : Heap} {locs : List Loc} {ls : Array Slot} (hP : va_P D vwCl (w_X12_walk cI cB cZ a_p0 a_t aX u_t_code u_t_n u_t_ahead u_t_length u_t_begins u_t_sort u_t_value u_t_letters u_t_word u_t_wrongAt u_t_laterFault u_t_laterPlace u_t_newClasses u_t_newLines u_t_turns u_t_shortest u_t_orders u_t_rowNumber u_t_ties r_p0 r_t_child r_t_childBack r_t_weds r_t_wedsBack) H) (hD : va_D A (w_X12_walk cI cB cZ a_p0 a_t aX u_t_code u_t_n u_t_ahead u_t_length u_t_begins u_t_sort u_t_value u_t_letters u_t_word u_t_wrongAt u_t_laterFault u_t_laterPlace u_t_newClasses u_t_newLines u_t_turns u_t_shortest u_t_orders u_t_rowNumber u_t_ties r_p0 r_t_child r_t_childBack r_t_weds r_t_wedsBack)) (hS : va_S A s.heap H locs) (hl : lv_has ls 9 [(0, .ref a_t), (1, .ref a_p0), (2, .int x2), (3, .int x3), (6, .int x6), (7, .int x7), (8, .int x8)]) : W p l e rX12_walk s m args below meth c H locs 0 0 Q (F0 m 11 ls []) := by
  obtain ⟨⟨hx, hb, hml, hown, hts⟩, hK, hN, hA⟩ := C
  have C : jCx p s m args c cX12_walk 9 gX12_walk RX12 G D (jT cI cB cZ) A := ⟨⟨hx, hb, hml, hown, hts⟩, hK, hN, hA⟩
  unfold f_X12_walk_b11 at hf
  refine lv_iload hx hb dX12_walk_11 (lv_at hl 6 rfl) ?_
  refine lv_iload_n hx hb dX12_walk_13 rfl (lv_at hl 2 rfl) ?_
  refine lv_iload_n hx hb dX12_walk_14 rfl (lv_at hl 3 rfl) ?_
  refine lv_iadd hx hb dX12_walk_15 ?_
  refine lv_icmp_ge (tgt := 48) hx hb dX12_walk_16 (by decide) (fun c1 => ?_) (fun c1 => ?_)
  · replace hf := jif_t c1 hf
    have ho := Option.some.inj hf
    exact (K.2 _ ho.symm) _ _ _ hP hD hS (lv_sub hl [4] rfl)
  · replace hf := jif_f c1 hf
    refine lv_aload_n hx hb dX12_walk_19 rfl (lv_at hl 0 rfl) ?_
    refine lv_aload_n hx hb dX12_walk_20 rfl (lv_at hl 1 rfl) ?_
    refine lv_iload hx hb dX12_walk_21 (lv_at hl 6 rfl) ?_
    obtain ⟨v2, hv2, iv2, hf⟩ := jL_some hf
    refine ja_bald (P := r_p0) hx hb hK hP 0 1 rfl rfl hv2 iv2 dX12_walk_23 ?_
    refine lv_iload hx hb dX12_walk_24 (lv_at hl 4 rfl) ?_
    refine lv_iload hx hb dX12_walk_26 (lv_at hl 5 rfl) ?_
    obtain ⟨r3, hgr3, hf⟩ := jM_some hf
    refine jcV_i0 (As := [.int v2, .int x6, .int x7]) (rest := []) ⟨hx, hb, hml, hown, hts⟩ hK hN hA (c_X12_stepped l G D cI cB cZ a_t aX u_t_code u_t_n u_t_ahead u_t_length u_t_begins u_t_sort u_t_value u_t_letters u_t_word u_t_wrongAt u_t_laterFault u_t_laterPlace u_t_newClasses u_t_newLines u_t_turns u_t_shortest u_t_orders u_t_rowNumber u_t_ties r_t_child r_t_childBack r_t_weds r_t_wedsBack v2 x6 x7 hgr3) (cwV 3 hts (wG_V k_ml_X12_199 k_im_X12_stepped k_se_X12_stepped k_in_X12 k_co_X12_stepped) rfl rfl rfl hd_X12_stepped ⟨Nat.le_of_ble_eq_true rfl, Nat.le_of_ble_eq_true rfl⟩) hP hD hS [1, 2, 3, 4, 5] rfl rfl rfl (ci := 11) rfl 1 rfl rfl rfl hl.1 rfl (Nat.le_of_ble_eq_true rfl) dX12_walk_28 ⟨Nat.le_of_ble_eq_true rfl, Nat.le_of_ble_eq_true rfl⟩ (fun H locs hP hD hS => ?_)
    refine lv_istore (lv' := [(6, .int r3), (0, .ref a_t), (1, .ref a_p0), (2, .int x2), (3, .int x3), (7, .int x7), (8, .int x8)]) hx hb dX12_walk_31 hl (by decide) rfl (fun ls hl => ?_)
    refine lv_aload_n hx hb dX12_walk_33 rfl (lv_at hl 2 rfl) ?_
    refine lv_iload hx hb dX12_walk_34 (lv_at hl 6 rfl) ?_
    obtain ⟨v4, hv4, iv4, hf⟩ := jL_some hf
    refine ja_bald (P := r_p0) hx hb hK hP 0 1 rfl rfl hv4 iv4 dX12_walk_36 ?_
    obtain ⟨r5, hgr5, hf⟩ := jM_some hf
    refine jcS_i0 (As := [.int v4]) (rest := []) ⟨hx, hb, hml, hown, hts⟩ hK hN hA (c_X12_sexBehind l G D cI cB cZ v4 hgr5) (va_cwS 1 hts (wG_S k_ml_X12_203 k_st_X12_sexBehind k_in_X12 k_co_X12_sexBehind) rfl rfl rfl hd_X12_sexBehind.2 ⟨Nat.le_of_ble_eq_true rfl, Nat.le_of_ble_eq_true rfl⟩) hP hD hS [] rfl rfl rfl rfl hl.1 rfl (Nat.le_of_ble_eq_true rfl) dX12_walk_37 ⟨Nat.le_of_ble_eq_true rfl, Nat.le_of_ble_eq_true rfl⟩ (fun H locs hP hD hS => ?_)
    refine lv_istore (lv' := [(7, .int r5), (6, .int r3), (0, .ref a_t), (1, .ref a_p0), (2, .int x2), (3, .int x3), (8, .int x8)]) hx hb dX12_walk_40 hl (by decide) rfl (fun ls hl => ?_)
    refine lv_iinc (v := (x8 + 1)) (lv' := [(8, .int (x8 + 1)), (7, .int r5), (6, .int r3), (0, .ref a_t), (1, .ref a_p0), (2, .int x2), (3, .int x3)]) hx hb dX12_walk_42 hl (k := 6) rfl (by first | rfl | decide) (by decide) rfl (fun ls hl => ?_)
    refine lv_goto (tgt := 11) hx hb dX12_walk_45 (by decide) ?_
    have ho := Option.some.inj hf
    exact K.1 _ ho.symm _ _ _ hP hD hS (lv_sub hl [3, 4, 5, 6, 2, 1, 0] rfl)
def f_X12_walk_l11 (r_p0 r_t_child r_t_childBack r_t_weds r_t_wedsBack : jA) (x2 x3 x6 x7 x8 : Int32) : Option ((Int32)) :=
  jI (fun z => f_X12_walk_b11 r_p0 r_t_child r_t_childBack r_t_weds r_t_wedsBack x2 x3 z.1 z.2.1 z.2.2) jF (x6, x7, x8)
set_option maxHeartbeats 4000000 in
set_option maxRecDepth 100000 in
theorem t_X12_walk_l11 {p : Program} {l : Launch} {e : Env} {s : State} {m : MethodId} {args : Array Value} {below : List Frame} {meth : Method} {c : Code} {A : Nat → Prop} {Q : State → Prop} (G : jGt) (D : va_G) (cI cB cZ : ClassId) (a_p0 a_t : Nat) (aX : Nat → Nat) (u_t_code u_t_n u_t_ahead u_t_length u_t_begins u_t_sort u_t_value u_t_letters : Int32) (u_t_word : Int64) (u_t_wrongAt u_t_laterFault u_t_laterPlace u_t_newClasses u_t_newLines u_t_turns u_t_shortest u_t_orders u_t_rowNumber u_t_ties : Int32) (r_p0 r_t_child r_t_childBack r_t_weds r_t_wedsBack : jA) (x2 x3 : Int32) (C : jCx p s m args c cX12_walk 9 gX12_walk RX12 G D (jT cI cB cZ) A) : ∀ (n : Nat) (x6 x7 x8 : Int32) {eo : (Int32)}, jI (fun z => f_X12_walk_b11 r_p0 r_t_child r_t_childBack r_t_weds r_t_wedsBack x2 x3 z.1 z.2.1 z.2.2) n (x6, x7, x8) = some eo → (∀ (H : Heap) (locs : List Loc) (ls : Array Slot), va_P D vwCl (w_X12_walk cI cB cZ a_p0 a_t aX u_t_code u_t_n u_t_ahead u_t_length u_t_begins u_t_sort u_t_value u_t_letters u_t_word u_t_wrongAt u_t_laterFault u_t_laterPlace u_t_newClasses u_t_newLines u_t_turns u_t_shortest u_t_orders u_t_rowNumber u_t_ties r_p0 r_t_child r_t_childBack r_t_weds r_t_wedsBack) H → va_D A (w_X12_walk cI cB cZ a_p0 a_t aX u_t_code u_t_n u_t_ahead u_t_length u_t_begins u_t_sort u_t_value u_t_letters u_t_word u_t_wrongAt u_t_laterFault u_t_laterPlace u_t_newClasses u_t_newLines u_t_turns u_t_shortest u_t_orders u_t_rowNumber u_t_ties r_p0 r_t_child r_t_childBack r_t_weds r_t_wedsBack) → va_S A s.heap H locs → lv_has ls 9 [(6, .int eo)] → W p l e rX12_walk s m args below meth c H locs 0 0 Q (F0 m 48 ls [])) → ∀ (H : Heap) (locs : List Loc) (ls : Array Slot), va_P D vwCl (w_X12_walk cI cB cZ a_p0 a_t aX u_t_code u_t_n u_t_ahead u_t_length u_t_begins u_t_sort u_t_value u_t_letters u_t_word u_t_wrongAt u_t_laterFault u_t_laterPlace u_t_newClasses u_t_newLines u_t_turns u_t_shortest u_t_orders u_t_rowNumber u_t_ties r_p0 r_t_child r_t_childBack r_t_weds r_t_wedsBack) H → va_D A (w_X12_walk cI cB cZ a_p0 a_t aX u_t_code u_t_n u_t_ahead u_t_length u_t_begins u_t_sort u_t_value u_t_letters u_t_word u_t_wrongAt u_t_laterFault u_t_laterPlace u_t_newClasses u_t_newLines u_t_turns u_t_shortest u_t_orders u_t_rowNumber u_t_ties r_p0 r_t_child r_t_childBack r_t_weds r_t_wedsBack) → va_S A s.heap H locs → lv_has ls 9 [(0, .ref a_t), (1, .ref a_p0), (2, .int x2), (3, .int x3), (6, .int x6), (7, .int x7), (8, .int x8)] → W p l e rX12_walk s m args below meth c H locs 0 0 Q (F0 m 11 ls []) := by
  intro n
  induction n with
  | zero =>
    intro x6 x7 x8 eo hf
    exact (jI_zero hf).elim
  | succ n ih =>
    intro x6 x7 x8 eo hf K H locs ls hP hD hS hl
    obtain ⟨o, hb1, ho⟩ := jI_some hf
    rcases ho with ⟨z, rfl, hf2⟩ | rfl
    · exact t_X12_walk_b11 G D cI cB cZ a_p0 a_t aX u_t_code u_t_n u_t_ahead u_t_length u_t_begins u_t_sort u_t_value u_t_letters u_t_word u_t_wrongAt u_t_laterFault u_t_laterPlace u_t_newClasses u_t_newLines u_t_turns u_t_shortest u_t_orders u_t_rowNumber u_t_ties r_p0 r_t_child r_t_childBack r_t_weds r_t_wedsBack x2 x3 x6 x7 x8 C hb1 ⟨fun z2 hz H locs ls hP hD hS hl => by cases hz; exact ih z.1 z.2.1 z.2.2 hf2 K H locs ls hP hD hS hl, fun z2 hz => by cases hz⟩ hP hD hS hl
    · exact t_X12_walk_b11 G D cI cB cZ a_p0 a_t aX u_t_code u_t_n u_t_ahead u_t_length u_t_begins u_t_sort u_t_value u_t_letters u_t_word u_t_wrongAt u_t_laterFault u_t_laterPlace u_t_newClasses u_t_newLines u_t_turns u_t_shortest u_t_orders u_t_rowNumber u_t_ties r_p0 r_t_child r_t_childBack r_t_weds r_t_wedsBack x2 x3 x6 x7 x8 C hb1 ⟨fun z2 hz => (by cases hz), fun z2 hz => by cases hz; exact K⟩ hP hD hS hl
def f_X12_walk (r_p0 r_t_child r_t_childBack r_t_weds r_t_wedsBack : jA) (x2 x3 x4 x5 : Int32) : Option (Int32) :=
  jM (f_X12_walk_l11 r_p0 r_t_child r_t_childBack r_t_weds r_t_wedsBack x2 x3 x5 x4 x2) fun e6 =>
  some e6
set_option maxHeartbeats 4000000 in
set_option maxRecDepth 100000 in
theorem t_X12_walk {p : Program} {l : Launch} {e : Env} {s : State} {m : MethodId} {args : Array Value} {below : List Frame} {meth : Method} {c : Code} {A : Nat → Prop} {Q : State → Prop} (G : jGt) (D : va_G) (cI cB cZ : ClassId) (a_p0 a_t : Nat) (aX : Nat → Nat) (u_t_code u_t_n u_t_ahead u_t_length u_t_begins u_t_sort u_t_value u_t_letters : Int32) (u_t_word : Int64) (u_t_wrongAt u_t_laterFault u_t_laterPlace u_t_newClasses u_t_newLines u_t_turns u_t_shortest u_t_orders u_t_rowNumber u_t_ties : Int32) (r_p0 r_t_child r_t_childBack r_t_weds r_t_wedsBack : jA) (x2 x3 x4 x5 : Int32) (C : jCx p s m args c cX12_walk 9 gX12_walk RX12 G D (jT cI cB cZ) A) {o : Int32} (hf : f_X12_walk r_p0 r_t_child r_t_childBack r_t_weds r_t_wedsBack x2 x3 x4 x5 = some o) (K : ∀ (H : Heap) (locs : List Loc) (pc : Nat) (ls : Array Slot), va_P D vwCl (w_X12_walk cI cB cZ a_p0 a_t aX u_t_code u_t_n u_t_ahead u_t_length u_t_begins u_t_sort u_t_value u_t_letters u_t_word u_t_wrongAt u_t_laterFault u_t_laterPlace u_t_newClasses u_t_newLines u_t_turns u_t_shortest u_t_orders u_t_rowNumber u_t_ties r_p0 r_t_child r_t_childBack r_t_weds r_t_wedsBack) H → va_S A s.heap H locs → decode cX12_walk pc = .ok (.ireturn, 1) → W p l e rX12_walk s m args below meth c H locs 0 0 Q (F0 m pc ls [.int o])) {H : Heap} {locs : List Loc} {ls : Array Slot} (hP : va_P D vwCl (w_X12_walk cI cB cZ a_p0 a_t aX u_t_code u_t_n u_t_ahead u_t_length u_t_begins u_t_sort u_t_value u_t_letters u_t_word u_t_wrongAt u_t_laterFault u_t_laterPlace u_t_newClasses u_t_newLines u_t_turns u_t_shortest u_t_orders u_t_rowNumber u_t_ties r_p0 r_t_child r_t_childBack r_t_weds r_t_wedsBack) H) (hD : va_D A (w_X12_walk cI cB cZ a_p0 a_t aX u_t_code u_t_n u_t_ahead u_t_length u_t_begins u_t_sort u_t_value u_t_letters u_t_word u_t_wrongAt u_t_laterFault u_t_laterPlace u_t_newClasses u_t_newLines u_t_turns u_t_shortest u_t_orders u_t_rowNumber u_t_ties r_p0 r_t_child r_t_childBack r_t_weds r_t_wedsBack)) (hS : va_S A s.heap H locs) (hl : lv_has ls 9 [(0, .ref a_t), (1, .ref a_p0), (2, .int x2), (3, .int x3), (4, .int x4), (5, .int x5)]) : W p l e rX12_walk s m args below meth c H locs 0 0 Q (F0 m 0 ls []) := by
  obtain ⟨⟨hx, hb, hml, hown, hts⟩, hK, hN, hA⟩ := C
  have C : jCx p s m args c cX12_walk 9 gX12_walk RX12 G D (jT cI cB cZ) A := ⟨⟨hx, hb, hml, hown, hts⟩, hK, hN, hA⟩
  unfold f_X12_walk at hf
  refine lv_iload hx hb dX12_walk_0 (lv_at hl 5 rfl) ?_
  refine lv_istore (lv' := [(6, .int x5), (0, .ref a_t), (1, .ref a_p0), (2, .int x2), (3, .int x3), (4, .int x4), (5, .int x5)]) hx hb dX12_walk_2 hl (by decide) rfl (fun ls hl => ?_)
  refine lv_iload hx hb dX12_walk_4 (lv_at hl 5 rfl) ?_
  refine lv_istore (lv' := [(7, .int x4), (6, .int x5), (0, .ref a_t), (1, .ref a_p0), (2, .int x2), (3, .int x3), (4, .int x4), (5, .int x5)]) hx hb dX12_walk_6 hl (by decide) rfl (fun ls hl => ?_)
  refine lv_iload_n hx hb dX12_walk_8 rfl (lv_at hl 4 rfl) ?_
  refine lv_istore (lv' := [(8, .int x2), (7, .int x4), (6, .int x5), (0, .ref a_t), (1, .ref a_p0), (2, .int x2), (3, .int x3), (4, .int x4), (5, .int x5)]) hx hb dX12_walk_9 hl (by decide) rfl (fun ls hl => ?_)
  obtain ⟨e6, hg6, hf⟩ := jM_some hf
  refine t_X12_walk_l11 G D cI cB cZ a_p0 a_t aX u_t_code u_t_n u_t_ahead u_t_length u_t_begins u_t_sort u_t_value u_t_letters u_t_word u_t_wrongAt u_t_laterFault u_t_laterPlace u_t_newClasses u_t_newLines u_t_turns u_t_shortest u_t_orders u_t_rowNumber u_t_ties r_p0 r_t_child r_t_childBack r_t_weds r_t_wedsBack x2 x3 C jF x5 x4 x2 hg6 ?_ _ _ _ hP hD hS (lv_sub hl [3, 4, 5, 6, 2, 1, 0] rfl)
  intro H locs ls hP hD hS hl
  refine lv_iload hx hb dX12_walk_48 (lv_at hl 0 rfl) ?_
  have ho := Option.some.inj hf
  subst ho
  exact K _ _ _ _ hP hS dX12_walk_50
set_option maxHeartbeats 4000000 in
set_option maxRecDepth 100000 in
theorem c_X12_walk (l : Launch) (G : jGt) (D : va_G) (cI cB cZ : ClassId) (a_p0 a_t : Nat) (aX : Nat → Nat) (u_t_code u_t_n u_t_ahead u_t_length u_t_begins u_t_sort u_t_value u_t_letters : Int32) (u_t_word : Int64) (u_t_wrongAt u_t_laterFault u_t_laterPlace u_t_newClasses u_t_newLines u_t_turns u_t_shortest u_t_orders u_t_rowNumber u_t_ties : Int32) (r_p0 r_t_child r_t_childBack r_t_weds r_t_wedsBack : jA) (x2 x3 x4 x5 : Int32) {o : Int32} (hf : f_X12_walk r_p0 r_t_child r_t_childBack r_t_weds r_t_wedsBack x2 x3 x4 x5 = some o) : jMi l yX12_walk gX12_walk rX12_walk G D (jT cI cB cZ) [.ref a_t, .ref a_p0, .int x2, .int x3, .int x4, .int x5] (w_X12_walk cI cB cZ a_p0 a_t aX u_t_code u_t_n u_t_ahead u_t_length u_t_begins u_t_sort u_t_value u_t_letters u_t_word u_t_wrongAt u_t_laterFault u_t_laterPlace u_t_newClasses u_t_newLines u_t_turns u_t_shortest u_t_orders u_t_rowNumber u_t_ties r_p0 r_t_child r_t_childBack r_t_weds r_t_wedsBack) (w_X12_walk cI cB cZ a_p0 a_t aX u_t_code u_t_n u_t_ahead u_t_length u_t_begins u_t_sort u_t_value u_t_letters u_t_word u_t_wrongAt u_t_laterFault u_t_laterPlace u_t_newClasses u_t_newLines u_t_turns u_t_shortest u_t_orders u_t_rowNumber u_t_ties r_p0 r_t_child r_t_childBack r_t_weds r_t_wedsBack) o := by
  refine jmk_i RX12 rfl (by decide +kernel) rfl (Nat.le_of_ble_eq_true rfl) rfl ?_
  intro p e s m args below meth c ls A Q C hP hD hS hl K
  exact t_X12_walk G D cI cB cZ a_p0 a_t aX u_t_code u_t_n u_t_ahead u_t_length u_t_begins u_t_sort u_t_value u_t_letters u_t_word u_t_wrongAt u_t_laterFault u_t_laterPlace u_t_newClasses u_t_newLines u_t_turns u_t_shortest u_t_orders u_t_rowNumber u_t_ties r_p0 r_t_child r_t_childBack r_t_weds r_t_wedsBack x2 x3 x4 x5 C hf K hP hD hS hl
abbrev rX12_leadsTo : Room := { frames := 1, cells := 0, slots := 0, locals := 20 }
abbrev gX12_leadsTo : List Cond := wG yX12_leadsTo cX12_leadsTo 4 (some .int)
def w_X12_leadsTo (cI cB cZ : ClassId) (a_p0 : Nat) (r_p0 : jA) : va_W := [(a_p0, .inl (cB, r_p0.1, .inl r_p0.2))]
def f_X12_leadsTo (r_p0 : jA) (x1 x2 x3 : Int32) : Option (Int32) :=
  if x2 = 0 then
  some x3
  else
  jL r_p0 ((x1 + x2) - (1 : Int32)) fun v2 =>
  jM (f_X12_sexBehind v2) fun r3 =>
  some r3
set_option maxHeartbeats 4000000 in
set_option maxRecDepth 100000 in
theorem t_X12_leadsTo {p : Program} {l : Launch} {e : Env} {s : State} {m : MethodId} {args : Array Value} {below : List Frame} {meth : Method} {c : Code} {A : Nat → Prop} {Q : State → Prop} (G : jGt) (D : va_G) (cI cB cZ : ClassId) (a_p0 : Nat) (r_p0 : jA) (x1 x2 x3 : Int32) (C : jCx p s m args c cX12_leadsTo 4 gX12_leadsTo RX12 G D (jT cI cB cZ) A) {o : Int32} (hf : f_X12_leadsTo r_p0 x1 x2 x3 = some o) (K : ∀ (H : Heap) (locs : List Loc) (pc : Nat) (ls : Array Slot), va_P D vwCl (w_X12_leadsTo cI cB cZ a_p0 r_p0) H → va_S A s.heap H locs → decode cX12_leadsTo pc = .ok (.ireturn, 1) → W p l e rX12_leadsTo s m args below meth c H locs 0 0 Q (F0 m pc ls [.int o])) {H : Heap} {locs : List Loc} {ls : Array Slot} (hP : va_P D vwCl (w_X12_leadsTo cI cB cZ a_p0 r_p0) H) (hD : va_D A (w_X12_leadsTo cI cB cZ a_p0 r_p0)) (hS : va_S A s.heap H locs) (hl : lv_has ls 4 [(0, .ref a_p0), (1, .int x1), (2, .int x2), (3, .int x3)]) : W p l e rX12_leadsTo s m args below meth c H locs 0 0 Q (F0 m 0 ls []) := by
  obtain ⟨⟨hx, hb, hml, hown, hts⟩, hK, hN, hA⟩ := C
  have C : jCx p s m args c cX12_leadsTo 4 gX12_leadsTo RX12 G D (jT cI cB cZ) A := ⟨⟨hx, hb, hml, hown, hts⟩, hK, hN, hA⟩
  unfold f_X12_leadsTo at hf
  refine lv_iload_n hx hb dX12_leadsTo_0 rfl (lv_at hl 2 rfl) ?_
  refine lv_if_ne (tgt := 8) hx hb dX12_leadsTo_1 (by decide) (fun c1 => ?_) (fun c1 => ?_)
  · replace hf := jif_f c1 hf
    refine lv_aload_n hx hb dX12_leadsTo_8 rfl (lv_at hl 0 rfl) ?_
    refine lv_iload_n hx hb dX12_leadsTo_9 rfl (lv_at hl 1 rfl) ?_
    refine lv_iload_n hx hb dX12_leadsTo_10 rfl (lv_at hl 2 rfl) ?_
    refine lv_iadd hx hb dX12_leadsTo_11 ?_
    refine lv_iconst (v := (1 : Int32)) hx hb dX12_leadsTo_12 (by decide) ?_
    refine lv_isub hx hb dX12_leadsTo_13 ?_
    obtain ⟨v2, hv2, iv2, hf⟩ := jL_some hf
    refine ja_bald (P := r_p0) hx hb hK hP 0 1 rfl rfl hv2 iv2 dX12_leadsTo_14 ?_
    obtain ⟨r3, hgr3, hf⟩ := jM_some hf
    refine jcS_i0 (As := [.int v2]) (rest := []) ⟨hx, hb, hml, hown, hts⟩ hK hN hA (c_X12_sexBehind l G D cI cB cZ v2 hgr3) (va_cwS 1 hts (wG_S k_ml_X12_203 k_st_X12_sexBehind k_in_X12 k_co_X12_sexBehind) rfl rfl rfl hd_X12_sexBehind.2 ⟨Nat.le_of_ble_eq_true rfl, Nat.le_of_ble_eq_true rfl⟩) hP hD hS [] rfl rfl rfl rfl hl.1 rfl (Nat.le_of_ble_eq_true rfl) dX12_leadsTo_15 ⟨Nat.le_of_ble_eq_true rfl, Nat.le_of_ble_eq_true rfl⟩ (fun H locs hP hD hS => ?_)
    have ho := Option.some.inj hf
    subst ho
    exact K _ _ _ _ hP hS dX12_leadsTo_18
  · replace hf := jif_t c1 hf
    refine lv_iload_n hx hb dX12_leadsTo_4 rfl (lv_at hl 3 rfl) ?_
    refine lv_goto (tgt := 18) hx hb dX12_leadsTo_5 (by decide) ?_
    have ho := Option.some.inj hf
    subst ho
    exact K _ _ _ _ hP hS dX12_leadsTo_18
set_option maxHeartbeats 4000000 in
set_option maxRecDepth 100000 in
theorem c_X12_leadsTo (l : Launch) (G : jGt) (D : va_G) (cI cB cZ : ClassId) (a_p0 : Nat) (r_p0 : jA) (x1 x2 x3 : Int32) {o : Int32} (hf : f_X12_leadsTo r_p0 x1 x2 x3 = some o) : jMi l yX12_leadsTo gX12_leadsTo rX12_leadsTo G D (jT cI cB cZ) [.ref a_p0, .int x1, .int x2, .int x3] (w_X12_leadsTo cI cB cZ a_p0 r_p0) (w_X12_leadsTo cI cB cZ a_p0 r_p0) o := by
  refine jmk_i RX12 rfl (by decide +kernel) rfl (Nat.le_of_ble_eq_true rfl) rfl ?_
  intro p e s m args below meth c ls A Q C hP hD hS hl K
  exact t_X12_leadsTo G D cI cB cZ a_p0 r_p0 x1 x2 x3 C hf K hP hD hS hl
abbrev rX12_wrongLetter : Room := { frames := 1, cells := 0, slots := 0, locals := 21 }
abbrev gX12_wrongLetter : List Cond := wG yX12_wrongLetter cX12_wrongLetter 6 (some .int)
def w_X12_wrongLetter (cI cB cZ : ClassId) (a_p0 : Nat) (r_p0 : jA) : va_W := [(a_p0, .inl (cB, r_p0.1, .inl r_p0.2))]
def f_X12_wrongLetter_b6 (r_p0 : jA) (x1 x2 x4 x5 : Int32) : Option ((Int32 × Int32) ⊕ ((Int32) ⊕ ((Unit)))) :=
  if x2 ≤ x5 then
  some (Sum.inr (Sum.inr ()))
  else
  if x5 = (8 : Int32) then
  some (Sum.inr (Sum.inl x5))
  else
  jL r_p0 (x1 + x5) fun v3 =>
  jM (f_X12_mayStep v3 x4) fun r4 =>
  if r4 = 0 then
  some (Sum.inr (Sum.inl x5))
  else
  jL r_p0 (x1 + x5) fun v6 =>
  jM (f_X12_sexBehind v6) fun r7 =>
  some (Sum.inl (r7, (x5 + 1)))
set_option maxHeartbeats 4000000 in
set_option maxRecDepth 100000 in
theorem t_X12_wrongLetter_b6 {p : Program} {l : Launch} {e : Env} {s : State} {m : MethodId} {args : Array Value} {below : List Frame} {meth : Method} {c : Code} {A : Nat → Prop} {Q : State → Prop} (G : jGt) (D : va_G) (cI cB cZ : ClassId) (a_p0 : Nat) (r_p0 : jA) (x1 x2 x4 x5 : Int32) (C : jCx p s m args c cX12_wrongLetter 6 gX12_wrongLetter RX12 G D (jT cI cB cZ) A) {o : (Int32 × Int32) ⊕ ((Int32) ⊕ ((Unit)))} (hf : f_X12_wrongLetter_b6 r_p0 x1 x2 x4 x5 = some o) (K : (∀ z, o = Sum.inl z → ∀ (H : Heap) (locs : List Loc) (ls : Array Slot), va_P D vwCl (w_X12_wrongLetter cI cB cZ a_p0 r_p0) H → va_D A (w_X12_wrongLetter cI cB cZ a_p0 r_p0) → va_S A s.heap H locs → lv_has ls 6 [(0, .ref a_p0), (1, .int x1), (2, .int x2), (4, .int z.1), (5, .int z.2)] → W p l e rX12_wrongLetter s m args below meth c H locs 0 0 Q (F0 m 6 ls [])) ∧ (∀ z, o = Sum.inr z → (∀ y0, z = Sum.inl y0 → ∀ (H : Heap) (locs : List Loc) (ls : Array Slot), va_P D vwCl (w_X12_wrongLetter cI cB cZ a_p0 r_p0) H → va_D A (w_X12_wrongLetter cI cB cZ a_p0 r_p0) → va_S A s.heap H locs → lv_has ls 6 [(5, .int y0)] → W p l e rX12_wrongLetter s m args below meth c H locs 0 0 Q (F0 m 33 ls [])) ∧ (∀ z0, z = Sum.inr z0 → ∀ (H : Heap) (locs : List Loc) (ls : Array Slot), va_P D vwCl (w_X12_wrongLetter cI cB cZ a_p0 r_p0) H → va_D A (w_X12_wrongLetter cI cB cZ a_p0 r_p0) → va_S A s.heap H locs → lv_has ls 6 [] → W p l e rX12_wrongLetter s m args below meth c H locs 0 0 Q (F0 m 53 ls [])))) {H : Heap} {locs : List Loc} {ls : Array Slot} (hP : va_P D vwCl (w_X12_wrongLetter cI cB cZ a_p0 r_p0) H) (hD : va_D A (w_X12_wrongLetter cI cB cZ a_p0 r_p0)) (hS : va_S A s.heap H locs) (hl : lv_has ls 6 [(0, .ref a_p0), (1, .int x1), (2, .int x2), (4, .int x4), (5, .int x5)]) : W p l e rX12_wrongLetter s m args below meth c H locs 0 0 Q (F0 m 6 ls []) := by
  obtain ⟨⟨hx, hb, hml, hown, hts⟩, hK, hN, hA⟩ := C
  have C : jCx p s m args c cX12_wrongLetter 6 gX12_wrongLetter RX12 G D (jT cI cB cZ) A := ⟨⟨hx, hb, hml, hown, hts⟩, hK, hN, hA⟩
  unfold f_X12_wrongLetter_b6 at hf
  refine lv_iload hx hb dX12_wrongLetter_6 (lv_at hl 4 rfl) ?_
  refine lv_iload_n hx hb dX12_wrongLetter_8 rfl (lv_at hl 2 rfl) ?_
  refine lv_icmp_ge (tgt := 53) hx hb dX12_wrongLetter_9 (by decide) (fun c1 => ?_) (fun c1 => ?_)
  · replace hf := jif_t c1 hf
    have ho := Option.some.inj hf
    exact ((K.2 _ ho.symm).2 _ rfl) _ _ _ hP hD hS (lv_sub hl [] rfl)
  · replace hf := jif_f c1 hf
    refine lv_iload hx hb dX12_wrongLetter_12 (lv_at hl 4 rfl) ?_
    refine lv_bipush (v := (8 : Int32)) hx hb dX12_wrongLetter_14 (by decide) ?_
    refine lv_icmp_eq (tgt := 33) hx hb dX12_wrongLetter_16 (by decide) (fun c2 => ?_) (fun c2 => ?_)
    · replace hf := jif_t c2 hf
      have ho := Option.some.inj hf
      exact ((K.2 _ ho.symm).1 _ rfl) _ _ _ hP hD hS (lv_sub hl [4] rfl)
    · replace hf := jif_f c2 hf
      refine lv_aload_n hx hb dX12_wrongLetter_19 rfl (lv_at hl 0 rfl) ?_
      refine lv_iload_n hx hb dX12_wrongLetter_20 rfl (lv_at hl 1 rfl) ?_
      refine lv_iload hx hb dX12_wrongLetter_21 (lv_at hl 4 rfl) ?_
      refine lv_iadd hx hb dX12_wrongLetter_23 ?_
      obtain ⟨v3, hv3, iv3, hf⟩ := jL_some hf
      refine ja_bald (P := r_p0) hx hb hK hP 0 1 rfl rfl hv3 iv3 dX12_wrongLetter_24 ?_
      refine lv_iload hx hb dX12_wrongLetter_25 (lv_at hl 3 rfl) ?_
      obtain ⟨r4, hgr4, hf⟩ := jM_some hf
      refine jcS_i0 (As := [.int v3, .int x4]) (rest := []) ⟨hx, hb, hml, hown, hts⟩ hK hN hA (c_X12_mayStep l G D cI cB cZ v3 x4 hgr4) (va_cwS 2 hts (wG_S k_ml_X12_207 k_st_X12_mayStep k_in_X12 k_co_X12_mayStep) rfl rfl rfl hd_X12_mayStep.2 ⟨Nat.le_of_ble_eq_true rfl, Nat.le_of_ble_eq_true rfl⟩) hP hD hS [] rfl rfl rfl rfl hl.1 rfl (Nat.le_of_ble_eq_true rfl) dX12_wrongLetter_27 ⟨Nat.le_of_ble_eq_true rfl, Nat.le_of_ble_eq_true rfl⟩ (fun H locs hP hD hS => ?_)
      refine lv_if_ne (tgt := 36) hx hb dX12_wrongLetter_30 (by decide) (fun c5 => ?_) (fun c5 => ?_)
      · replace hf := jif_f c5 hf
        refine lv_aload_n hx hb dX12_wrongLetter_36 rfl (lv_at hl 0 rfl) ?_
        refine lv_iload_n hx hb dX12_wrongLetter_37 rfl (lv_at hl 1 rfl) ?_
        refine lv_iload hx hb dX12_wrongLetter_38 (lv_at hl 4 rfl) ?_
        refine lv_iadd hx hb dX12_wrongLetter_40 ?_
        obtain ⟨v6, hv6, iv6, hf⟩ := jL_some hf
        refine ja_bald (P := r_p0) hx hb hK hP 0 1 rfl rfl hv6 iv6 dX12_wrongLetter_41 ?_
        obtain ⟨r7, hgr7, hf⟩ := jM_some hf
        refine jcS_i0 (As := [.int v6]) (rest := []) ⟨hx, hb, hml, hown, hts⟩ hK hN hA (c_X12_sexBehind l G D cI cB cZ v6 hgr7) (va_cwS 1 hts (wG_S k_ml_X12_203 k_st_X12_sexBehind k_in_X12 k_co_X12_sexBehind) rfl rfl rfl hd_X12_sexBehind.2 ⟨Nat.le_of_ble_eq_true rfl, Nat.le_of_ble_eq_true rfl⟩) hP hD hS [] rfl rfl rfl rfl hl.1 rfl (Nat.le_of_ble_eq_true rfl) dX12_wrongLetter_42 ⟨Nat.le_of_ble_eq_true rfl, Nat.le_of_ble_eq_true rfl⟩ (fun H locs hP hD hS => ?_)
        refine lv_istore (lv' := [(4, .int r7), (0, .ref a_p0), (1, .int x1), (2, .int x2), (5, .int x5)]) hx hb dX12_wrongLetter_45 hl (by decide) rfl (fun ls hl => ?_)
        refine lv_iinc (v := (x5 + 1)) (lv' := [(5, .int (x5 + 1)), (4, .int r7), (0, .ref a_p0), (1, .int x1), (2, .int x2)]) hx hb dX12_wrongLetter_47 hl (k := 4) rfl (by first | rfl | decide) (by decide) rfl (fun ls hl => ?_)
        refine lv_goto (tgt := 6) hx hb dX12_wrongLetter_50 (by decide) ?_
        have ho := Option.some.inj hf
        exact K.1 _ ho.symm _ _ _ hP hD hS (lv_sub hl [2, 3, 4, 1, 0] rfl)
      · replace hf := jif_t c5 hf
        have ho := Option.some.inj hf
        exact ((K.2 _ ho.symm).1 _ rfl) _ _ _ hP hD hS (lv_sub hl [4] rfl)
def f_X12_wrongLetter_l6 (r_p0 : jA) (x1 x2 x4 x5 : Int32) : Option ((Int32) ⊕ ((Unit))) :=
  jI (fun z => f_X12_wrongLetter_b6 r_p0 x1 x2 z.1 z.2) jF (x4, x5)
set_option maxHeartbeats 4000000 in
set_option maxRecDepth 100000 in
theorem t_X12_wrongLetter_l6 {p : Program} {l : Launch} {e : Env} {s : State} {m : MethodId} {args : Array Value} {below : List Frame} {meth : Method} {c : Code} {A : Nat → Prop} {Q : State → Prop} (G : jGt) (D : va_G) (cI cB cZ : ClassId) (a_p0 : Nat) (r_p0 : jA) (x1 x2 : Int32) (C : jCx p s m args c cX12_wrongLetter 6 gX12_wrongLetter RX12 G D (jT cI cB cZ) A) : ∀ (n : Nat) (x4 x5 : Int32) {eo : (Int32) ⊕ ((Unit))}, jI (fun z => f_X12_wrongLetter_b6 r_p0 x1 x2 z.1 z.2) n (x4, x5) = some eo → ((∀ y0, eo = Sum.inl y0 → ∀ (H : Heap) (locs : List Loc) (ls : Array Slot), va_P D vwCl (w_X12_wrongLetter cI cB cZ a_p0 r_p0) H → va_D A (w_X12_wrongLetter cI cB cZ a_p0 r_p0) → va_S A s.heap H locs → lv_has ls 6 [(5, .int y0)] → W p l e rX12_wrongLetter s m args below meth c H locs 0 0 Q (F0 m 33 ls [])) ∧ (∀ z0, eo = Sum.inr z0 → ∀ (H : Heap) (locs : List Loc) (ls : Array Slot), va_P D vwCl (w_X12_wrongLetter cI cB cZ a_p0 r_p0) H → va_D A (w_X12_wrongLetter cI cB cZ a_p0 r_p0) → va_S A s.heap H locs → lv_has ls 6 [] → W p l e rX12_wrongLetter s m args below meth c H locs 0 0 Q (F0 m 53 ls []))) → ∀ (H : Heap) (locs : List Loc) (ls : Array Slot), va_P D vwCl (w_X12_wrongLetter cI cB cZ a_p0 r_p0) H → va_D A (w_X12_wrongLetter cI cB cZ a_p0 r_p0) → va_S A s.heap H locs → lv_has ls 6 [(0, .ref a_p0), (1, .int x1), (2, .int x2), (4, .int x4), (5, .int x5)] → W p l e rX12_wrongLetter s m args below meth c H locs 0 0 Q (F0 m 6 ls []) := by
  intro n
  induction n with
  | zero =>
    intro x4 x5 eo hf
    exact (jI_zero hf).elim
  | succ n ih =>
    intro x4 x5 eo hf K H locs ls hP hD hS hl
    obtain ⟨o, hb1, ho⟩ := jI_some hf
    rcases ho with ⟨z, rfl, hf2⟩ | rfl
    · exact t_X12_wrongLetter_b6 G D cI cB cZ a_p0 r_p0 x1 x2 x4 x5 C hb1 ⟨fun z2 hz H locs ls hP hD hS hl => by cases hz; exact ih z.1 z.2 hf2 K H locs ls hP hD hS hl, fun z2 hz => by cases hz⟩ hP hD hS hl
    · exact t_X12_wrongLetter_b6 G D cI cB cZ a_p0 r_p0 x1 x2 x4 x5 C hb1 ⟨fun z2 hz => (by cases hz), fun z2 hz => by cases hz; exact K⟩ hP hD hS hl
def f_X12_wrongLetter (r_p0 : jA) (x1 x2 x3 : Int32) : Option (Int32) :=
  jM (f_X12_wrongLetter_l6 r_p0 x1 x2 x3 (0 : Int32)) fun e8 =>
  Sum.elim (fun y9 =>
  some y9) (fun w10 =>
  some (-1 : Int32)) e8
set_option maxHeartbeats 4000000 in
set_option maxRecDepth 100000 in
theorem t_X12_wrongLetter {p : Program} {l : Launch} {e : Env} {s : State} {m : MethodId} {args : Array Value} {below : List Frame} {meth : Method} {c : Code} {A : Nat → Prop} {Q : State → Prop} (G : jGt) (D : va_G) (cI cB cZ : ClassId) (a_p0 : Nat) (r_p0 : jA) (x1 x2 x3 : Int32) (C : jCx p s m args c cX12_wrongLetter 6 gX12_wrongLetter RX12 G D (jT cI cB cZ) A) {o : Int32} (hf : f_X12_wrongLetter r_p0 x1 x2 x3 = some o) (K : ∀ (H : Heap) (locs : List Loc) (pc : Nat) (ls : Array Slot), va_P D vwCl (w_X12_wrongLetter cI cB cZ a_p0 r_p0) H → va_S A s.heap H locs → decode cX12_wrongLetter pc = .ok (.ireturn, 1) → W p l e rX12_wrongLetter s m args below meth c H locs 0 0 Q (F0 m pc ls [.int o])) {H : Heap} {locs : List Loc} {ls : Array Slot} (hP : va_P D vwCl (w_X12_wrongLetter cI cB cZ a_p0 r_p0) H) (hD : va_D A (w_X12_wrongLetter cI cB cZ a_p0 r_p0)) (hS : va_S A s.heap H locs) (hl : lv_has ls 6 [(0, .ref a_p0), (1, .int x1), (2, .int x2), (3, .int x3)]) : W p l e rX12_wrongLetter s m args below meth c H locs 0 0 Q (F0 m 0 ls []) := by
  obtain ⟨⟨hx, hb, hml, hown, hts⟩, hK, hN, hA⟩ := C
  have C : jCx p s m args c cX12_wrongLetter 6 gX12_wrongLetter RX12 G D (jT cI cB cZ) A := ⟨⟨hx, hb, hml, hown, hts⟩, hK, hN, hA⟩
  unfold f_X12_wrongLetter at hf
  refine lv_iload_n hx hb dX12_wrongLetter_0 rfl (lv_at hl 3 rfl) ?_
  refine lv_istore (lv' := [(4, .int x3), (0, .ref a_p0), (1, .int x1), (2, .int x2), (3, .int x3)]) hx hb dX12_wrongLetter_1 hl (by decide) rfl (fun ls hl => ?_)
  refine lv_iconst (v := (0 : Int32)) hx hb dX12_wrongLetter_3 (by decide) ?_
  refine lv_istore (lv' := [(5, .int (0 : Int32)), (4, .int x3), (0, .ref a_p0), (1, .int x1), (2, .int x2), (3, .int x3)]) hx hb dX12_wrongLetter_4 hl (by decide) rfl (fun ls hl => ?_)
  obtain ⟨e8, hg8, hf⟩ := jM_some hf
  refine t_X12_wrongLetter_l6 G D cI cB cZ a_p0 r_p0 x1 x2 C jF x3 (0 : Int32) hg8 ?_ _ _ _ hP hD hS (lv_sub hl [2, 3, 4, 1, 0] rfl)
  refine ⟨fun y9 hy => ?_, fun w10 hy => ?_⟩
  · replace hf := jE_l hy hf
    intro H locs ls hP hD hS hl
    refine lv_iload hx hb dX12_wrongLetter_33 (lv_at hl 0 rfl) ?_
    have ho := Option.some.inj hf
    subst ho
    exact K _ _ _ _ hP hS dX12_wrongLetter_35
  · replace hf := jE_r hy hf
    intro H locs ls hP hD hS hl
    refine lv_iconst (v := (-1 : Int32)) hx hb dX12_wrongLetter_53 (by decide) ?_
    have ho := Option.some.inj hf
    subst ho
    exact K _ _ _ _ hP hS dX12_wrongLetter_54
set_option maxHeartbeats 4000000 in
set_option maxRecDepth 100000 in
theorem c_X12_wrongLetter (l : Launch) (G : jGt) (D : va_G) (cI cB cZ : ClassId) (a_p0 : Nat) (r_p0 : jA) (x1 x2 x3 : Int32) {o : Int32} (hf : f_X12_wrongLetter r_p0 x1 x2 x3 = some o) : jMi l yX12_wrongLetter gX12_wrongLetter rX12_wrongLetter G D (jT cI cB cZ) [.ref a_p0, .int x1, .int x2, .int x3] (w_X12_wrongLetter cI cB cZ a_p0 r_p0) (w_X12_wrongLetter cI cB cZ a_p0 r_p0) o := by
  refine jmk_i RX12 rfl (by decide +kernel) rfl (Nat.le_of_ble_eq_true rfl) rfl ?_
  intro p e s m args below meth c ls A Q C hP hD hS hl K
  exact t_X12_wrongLetter G D cI cB cZ a_p0 r_p0 x1 x2 x3 C hf K hP hD hS hl

abbrev rX0_freeNumber : Room := { frames := 0, cells := 0, slots := 0, locals := 0 }
abbrev gX0_freeNumber : List Cond := wG yX0_freeNumber cX0_freeNumber 5 (some .int)
def w_X0_freeNumber (cI cB cZ : ClassId) (a_t : Nat) (u_t_orders : Value) (u_t_orderCount : Int32) (u_t_keepers : Value) (u_t_keeperCount : Int32) (u_t_wives u_t_children u_t_shares : Value) (u_t_kindCount : Int32) (u_t_lawful : Value) (u_t_lawfulCount u_t_lawfulSystems : Int32) (u_t_judgedBy : Value) (u_t_judged : Int32) (u_t_wheel : Value) (s_t_size : Int32) : va_W := [(a_t, .inr (0, (oX0 s_t_size u_t_orders u_t_orderCount u_t_keepers u_t_keeperCount u_t_wives u_t_children u_t_shares u_t_kindCount u_t_lawful u_t_lawfulCount u_t_lawfulSystems u_t_judgedBy u_t_judged u_t_wheel)))]
def f_X0_freeNumber_j33 (x1 x3 x4 : Int32) : Option ((Int32 × Int32) ⊕ ((Int32) ⊕ ((Unit)))) :=
  some (Sum.inl (x3, (x4 + 1)))
set_option maxHeartbeats 4000000 in
set_option maxRecDepth 100000 in
theorem t_X0_freeNumber_j33 {p : Program} {l : Launch} {e : Env} {s : State} {m : MethodId} {args : Array Value} {below : List Frame} {meth : Method} {c : Code} {A : Nat → Prop} {Q : State → Prop} (G : jGt) (D : va_G) (cI cB cZ : ClassId) (a_t : Nat) (u_t_orders : Value) (u_t_orderCount : Int32) (u_t_keepers : Value) (u_t_keeperCount : Int32) (u_t_wives u_t_children u_t_shares : Value) (u_t_kindCount : Int32) (u_t_lawful : Value) (u_t_lawfulCount u_t_lawfulSystems : Int32) (u_t_judgedBy : Value) (u_t_judged : Int32) (u_t_wheel : Value) (s_t_size : Int32) (x1 x3 x4 : Int32) (C : jCx p s m args c cX0_freeNumber 5 gX0_freeNumber RX0 G D (jT cI cB cZ) A) {o : (Int32 × Int32) ⊕ ((Int32) ⊕ ((Unit)))} (hf : f_X0_freeNumber_j33 x1 x3 x4 = some o) (K : (∀ z, o = Sum.inl z → ∀ (H : Heap) (locs : List Loc) (ls : Array Slot), va_P D vwCl (w_X0_freeNumber cI cB cZ a_t u_t_orders u_t_orderCount u_t_keepers u_t_keeperCount u_t_wives u_t_children u_t_shares u_t_kindCount u_t_lawful u_t_lawfulCount u_t_lawfulSystems u_t_judgedBy u_t_judged u_t_wheel s_t_size) H → va_D A (w_X0_freeNumber cI cB cZ a_t u_t_orders u_t_orderCount u_t_keepers u_t_keeperCount u_t_wives u_t_children u_t_shares u_t_kindCount u_t_lawful u_t_lawfulCount u_t_lawfulSystems u_t_judgedBy u_t_judged u_t_wheel s_t_size) → va_S A s.heap H locs → lv_has ls 5 [(0, .ref a_t), (1, .int x1), (3, .int z.1), (4, .int z.2)] → W p l e rX0_freeNumber s m args below meth c H locs 0 0 Q (F0 m 5 ls [])) ∧ (∀ z, o = Sum.inr z → (∀ y0, z = Sum.inl y0 → ∀ (H : Heap) (locs : List Loc) (ls : Array Slot), va_P D vwCl (w_X0_freeNumber cI cB cZ a_t u_t_orders u_t_orderCount u_t_keepers u_t_keeperCount u_t_wives u_t_children u_t_shares u_t_kindCount u_t_lawful u_t_lawfulCount u_t_lawfulSystems u_t_judgedBy u_t_judged u_t_wheel s_t_size) H → va_D A (w_X0_freeNumber cI cB cZ a_t u_t_orders u_t_orderCount u_t_keepers u_t_keeperCount u_t_wives u_t_children u_t_shares u_t_kindCount u_t_lawful u_t_lawfulCount u_t_lawfulSystems u_t_judgedBy u_t_judged u_t_wheel s_t_size) → va_S A s.heap H locs → lv_has ls 5 [(4, .int y0)] → W p l e rX0_freeNumber s m args below meth c H locs 0 0 Q (F0 m 27 ls [])) ∧ (∀ z0, z = Sum.inr z0 → ∀ (H : Heap) (locs : List Loc) (ls : Array Slot), va_P D vwCl (w_X0_freeNumber cI cB cZ a_t u_t_orders u_t_orderCount u_t_keepers u_t_keeperCount u_t_wives u_t_children u_t_shares u_t_kindCount u_t_lawful u_t_lawfulCount u_t_lawfulSystems u_t_judgedBy u_t_judged u_t_wheel s_t_size) H → va_D A (w_X0_freeNumber cI cB cZ a_t u_t_orders u_t_orderCount u_t_keepers u_t_keeperCount u_t_wives u_t_children u_t_shares u_t_kindCount u_t_lawful u_t_lawfulCount u_t_lawfulSystems u_t_judgedBy u_t_judged u_t_wheel s_t_size) → va_S A s.heap H locs → lv_has ls 5 [] → W p l e rX0_freeNumber s m args below meth c H locs 0 0 Q (F0 m 39 ls [])))) {H : Heap} {locs : List Loc} {ls : Array Slot} (hP : va_P D vwCl (w_X0_freeNumber cI cB cZ a_t u_t_orders u_t_orderCount u_t_keepers u_t_keeperCount u_t_wives u_t_children u_t_shares u_t_kindCount u_t_lawful u_t_lawfulCount u_t_lawfulSystems u_t_judgedBy u_t_judged u_t_wheel s_t_size) H) (hD : va_D A (w_X0_freeNumber cI cB cZ a_t u_t_orders u_t_orderCount u_t_keepers u_t_keeperCount u_t_wives u_t_children u_t_shares u_t_kindCount u_t_lawful u_t_lawfulCount u_t_lawfulSystems u_t_judgedBy u_t_judged u_t_wheel s_t_size)) (hS : va_S A s.heap H locs) (hl : lv_has ls 5 [(0, .ref a_t), (1, .int x1), (3, .int x3), (4, .int x4)]) : W p l e rX0_freeNumber s m args below meth c H locs 0 0 Q (F0 m 33 ls []) := by
  obtain ⟨⟨hx, hb, hml, hown, hts⟩, hK, hN, hA⟩ := C
  have C : jCx p s m args c cX0_freeNumber 5 gX0_freeNumber RX0 G D (jT cI cB cZ) A := ⟨⟨hx, hb, hml, hown, hts⟩, hK, hN, hA⟩
  unfold f_X0_freeNumber_j33 at hf
  refine lv_iinc (v := (x4 + 1)) (lv' := [(4, .int (x4 + 1)), (0, .ref a_t), (1, .int x1), (3, .int x3)]) hx hb dX0_freeNumber_33 hl (k := 3) rfl (by first | rfl | decide) (by decide) rfl (fun ls hl => ?_)
  refine lv_goto (tgt := 5) hx hb dX0_freeNumber_36 (by decide) ?_
  have ho := Option.some.inj hf
  exact K.1 _ ho.symm _ _ _ hP hD hS (lv_sub hl [1, 2, 3, 0] rfl)
def f_X0_freeNumber_b5 (s_t_size x1 x3 x4 : Int32) : Option ((Int32 × Int32) ⊕ ((Int32) ⊕ ((Unit)))) :=
  if s_t_size ≤ x4 then
  some (Sum.inr (Sum.inr ()))
  else
  if ((x1 >>> (x4 &&& 31)) &&& (1 : Int32)) = 0 then
  if x3 = 0 then
  some (Sum.inr (Sum.inl x4))
  else
  f_X0_freeNumber_j33 x1 (x3 + (-1)) x4
  else
  f_X0_freeNumber_j33 x1 x3 x4
set_option maxHeartbeats 4000000 in
set_option maxRecDepth 100000 in
theorem t_X0_freeNumber_b5 {p : Program} {l : Launch} {e : Env} {s : State} {m : MethodId} {args : Array Value} {below : List Frame} {meth : Method} {c : Code} {A : Nat → Prop} {Q : State → Prop} (G : jGt) (D : va_G) (cI cB cZ : ClassId) (a_t : Nat) (u_t_orders : Value) (u_t_orderCount : Int32) (u_t_keepers : Value) (u_t_keeperCount : Int32) (u_t_wives u_t_children u_t_shares : Value) (u_t_kindCount : Int32) (u_t_lawful : Value) (u_t_lawfulCount u_t_lawfulSystems : Int32) (u_t_judgedBy : Value) (u_t_judged : Int32) (u_t_wheel : Value) (s_t_size : Int32) (x1 x3 x4 : Int32) (C : jCx p s m args c cX0_freeNumber 5 gX0_freeNumber RX0 G D (jT cI cB cZ) A) {o : (Int32 × Int32) ⊕ ((Int32) ⊕ ((Unit)))} (hf : f_X0_freeNumber_b5 s_t_size x1 x3 x4 = some o) (K : (∀ z, o = Sum.inl z → ∀ (H : Heap) (locs : List Loc) (ls : Array Slot), va_P D vwCl (w_X0_freeNumber cI cB cZ a_t u_t_orders u_t_orderCount u_t_keepers u_t_keeperCount u_t_wives u_t_children u_t_shares u_t_kindCount u_t_lawful u_t_lawfulCount u_t_lawfulSystems u_t_judgedBy u_t_judged u_t_wheel s_t_size) H → va_D A (w_X0_freeNumber cI cB cZ a_t u_t_orders u_t_orderCount u_t_keepers u_t_keeperCount u_t_wives u_t_children u_t_shares u_t_kindCount u_t_lawful u_t_lawfulCount u_t_lawfulSystems u_t_judgedBy u_t_judged u_t_wheel s_t_size) → va_S A s.heap H locs → lv_has ls 5 [(0, .ref a_t), (1, .int x1), (3, .int z.1), (4, .int z.2)] → W p l e rX0_freeNumber s m args below meth c H locs 0 0 Q (F0 m 5 ls [])) ∧ (∀ z, o = Sum.inr z → (∀ y0, z = Sum.inl y0 → ∀ (H : Heap) (locs : List Loc) (ls : Array Slot), va_P D vwCl (w_X0_freeNumber cI cB cZ a_t u_t_orders u_t_orderCount u_t_keepers u_t_keeperCount u_t_wives u_t_children u_t_shares u_t_kindCount u_t_lawful u_t_lawfulCount u_t_lawfulSystems u_t_judgedBy u_t_judged u_t_wheel s_t_size) H → va_D A (w_X0_freeNumber cI cB cZ a_t u_t_orders u_t_orderCount u_t_keepers u_t_keeperCount u_t_wives u_t_children u_t_shares u_t_kindCount u_t_lawful u_t_lawfulCount u_t_lawfulSystems u_t_judgedBy u_t_judged u_t_wheel s_t_size) → va_S A s.heap H locs → lv_has ls 5 [(4, .int y0)] → W p l e rX0_freeNumber s m args below meth c H locs 0 0 Q (F0 m 27 ls [])) ∧ (∀ z0, z = Sum.inr z0 → ∀ (H : Heap) (locs : List Loc) (ls : Array Slot), va_P D vwCl (w_X0_freeNumber cI cB cZ a_t u_t_orders u_t_orderCount u_t_keepers u_t_keeperCount u_t_wives u_t_children u_t_shares u_t_kindCount u_t_lawful u_t_lawfulCount u_t_lawfulSystems u_t_judgedBy u_t_judged u_t_wheel s_t_size) H → va_D A (w_X0_freeNumber cI cB cZ a_t u_t_orders u_t_orderCount u_t_keepers u_t_keeperCount u_t_wives u_t_children u_t_shares u_t_kindCount u_t_lawful u_t_lawfulCount u_t_lawfulSystems u_t_judgedBy u_t_judged u_t_wheel s_t_size) → va_S A s.heap H locs → lv_has ls 5 [] → W p l e rX0_freeNumber s m args below meth c H locs 0 0 Q (F0 m 39 ls [])))) {H : Heap} {locs : List Loc} {ls : Array Slot} (hP : va_P D vwCl (w_X0_freeNumber cI cB cZ a_t u_t_orders u_t_orderCount u_t_keepers u_t_keeperCount u_t_wives u_t_children u_t_shares u_t_kindCount u_t_lawful u_t_lawfulCount u_t_lawfulSystems u_t_judgedBy u_t_judged u_t_wheel s_t_size) H) (hD : va_D A (w_X0_freeNumber cI cB cZ a_t u_t_orders u_t_orderCount u_t_keepers u_t_keeperCount u_t_wives u_t_children u_t_shares u_t_kindCount u_t_lawful u_t_lawfulCount u_t_lawfulSystems u_t_judgedBy u_t_judged u_t_wheel s_t_size)) (hS : va_S A s.heap H locs) (hl : lv_has ls 5 [(0, .ref a_t), (1, .int x1), (3, .int x3), (4, .int x4)]) : W p l e rX0_freeNumber s m args below meth c H locs 0 0 Q (F0 m 5 ls []) := by
  obtain ⟨⟨hx, hb, hml, hown, hts⟩, hK, hN, hA⟩ := C
  have C : jCx p s m args c cX0_freeNumber 5 gX0_freeNumber RX0 G D (jT cI cB cZ) A := ⟨⟨hx, hb, hml, hown, hts⟩, hK, hN, hA⟩
  unfold f_X0_freeNumber_b5 at hf
  refine lv_iload hx hb dX0_freeNumber_5 (lv_at hl 3 rfl) ?_
  refine lv_aload_n hx hb dX0_freeNumber_7 rfl (lv_at hl 0 rfl) ?_
  refine va_get (D := D) (ci := 0) (v := .int s_t_size) (C := RX0) (T := TX0) (N := 15) hx hb hts iw_X0 hown hK hP 0 rfl rfl 0 (by decide) (hts _ (wG_in k_fl_X0_44 rfl)) (fun _ h9 => h9) rfl dX0_freeNumber_8 ?_
  refine lv_icmp_ge (tgt := 39) hx hb dX0_freeNumber_11 (by decide) (fun c1 => ?_) (fun c1 => ?_)
  · replace hf := jif_t c1 hf
    have ho := Option.some.inj hf
    exact ((K.2 _ ho.symm).2 _ rfl) _ _ _ hP hD hS (lv_sub hl [] rfl)
  · replace hf := jif_f c1 hf
    refine lv_iload_n hx hb dX0_freeNumber_14 rfl (lv_at hl 1 rfl) ?_
    refine lv_iload hx hb dX0_freeNumber_15 (lv_at hl 3 rfl) ?_
    refine lv_ishr hx hb dX0_freeNumber_17 ?_
    refine lv_iconst (v := (1 : Int32)) hx hb dX0_freeNumber_18 (by decide) ?_
    refine lv_iand hx hb dX0_freeNumber_19 ?_
    refine lv_if_ne (tgt := 33) hx hb dX0_freeNumber_20 (by decide) (fun c2 => ?_) (fun c2 => ?_)
    · replace hf := jif_f c2 hf
      exact t_X0_freeNumber_j33 G D cI cB cZ a_t u_t_orders u_t_orderCount u_t_keepers u_t_keeperCount u_t_wives u_t_children u_t_shares u_t_kindCount u_t_lawful u_t_lawfulCount u_t_lawfulSystems u_t_judgedBy u_t_judged u_t_wheel s_t_size x1 x3 x4 C hf K hP hD hS (lv_sub hl [0, 1, 2, 3] rfl)
    · replace hf := jif_t c2 hf
      refine lv_iload_n hx hb dX0_freeNumber_23 rfl (lv_at hl 2 rfl) ?_
      refine lv_if_ne (tgt := 30) hx hb dX0_freeNumber_24 (by decide) (fun c3 => ?_) (fun c3 => ?_)
      · replace hf := jif_f c3 hf
        refine lv_iinc (v := (x3 + (-1))) (lv' := [(3, .int (x3 + (-1))), (0, .ref a_t), (1, .int x1), (4, .int x4)]) hx hb dX0_freeNumber_30 hl (k := 2) rfl (by first | rfl | decide) (by decide) rfl (fun ls hl => ?_)
        exact t_X0_freeNumber_j33 G D cI cB cZ a_t u_t_orders u_t_orderCount u_t_keepers u_t_keeperCount u_t_wives u_t_children u_t_shares u_t_kindCount u_t_lawful u_t_lawfulCount u_t_lawfulSystems u_t_judgedBy u_t_judged u_t_wheel s_t_size x1 (x3 + (-1)) x4 C hf K hP hD hS (lv_sub hl [1, 2, 0, 3] rfl)
      · replace hf := jif_t c3 hf
        have ho := Option.some.inj hf
        exact ((K.2 _ ho.symm).1 _ rfl) _ _ _ hP hD hS (lv_sub hl [3] rfl)
def f_X0_freeNumber_l5 (s_t_size x1 x3 x4 : Int32) : Option ((Int32) ⊕ ((Unit))) :=
  jI (fun z => f_X0_freeNumber_b5 s_t_size x1 z.1 z.2) jF (x3, x4)
set_option maxHeartbeats 4000000 in
set_option maxRecDepth 100000 in
theorem t_X0_freeNumber_l5 {p : Program} {l : Launch} {e : Env} {s : State} {m : MethodId} {args : Array Value} {below : List Frame} {meth : Method} {c : Code} {A : Nat → Prop} {Q : State → Prop} (G : jGt) (D : va_G) (cI cB cZ : ClassId) (a_t : Nat) (u_t_orders : Value) (u_t_orderCount : Int32) (u_t_keepers : Value) (u_t_keeperCount : Int32) (u_t_wives u_t_children u_t_shares : Value) (u_t_kindCount : Int32) (u_t_lawful : Value) (u_t_lawfulCount u_t_lawfulSystems : Int32) (u_t_judgedBy : Value) (u_t_judged : Int32) (u_t_wheel : Value) (s_t_size : Int32) (x1 : Int32) (C : jCx p s m args c cX0_freeNumber 5 gX0_freeNumber RX0 G D (jT cI cB cZ) A) : ∀ (n : Nat) (x3 x4 : Int32) {eo : (Int32) ⊕ ((Unit))}, jI (fun z => f_X0_freeNumber_b5 s_t_size x1 z.1 z.2) n (x3, x4) = some eo → ((∀ y0, eo = Sum.inl y0 → ∀ (H : Heap) (locs : List Loc) (ls : Array Slot), va_P D vwCl (w_X0_freeNumber cI cB cZ a_t u_t_orders u_t_orderCount u_t_keepers u_t_keeperCount u_t_wives u_t_children u_t_shares u_t_kindCount u_t_lawful u_t_lawfulCount u_t_lawfulSystems u_t_judgedBy u_t_judged u_t_wheel s_t_size) H → va_D A (w_X0_freeNumber cI cB cZ a_t u_t_orders u_t_orderCount u_t_keepers u_t_keeperCount u_t_wives u_t_children u_t_shares u_t_kindCount u_t_lawful u_t_lawfulCount u_t_lawfulSystems u_t_judgedBy u_t_judged u_t_wheel s_t_size) → va_S A s.heap H locs → lv_has ls 5 [(4, .int y0)] → W p l e rX0_freeNumber s m args below meth c H locs 0 0 Q (F0 m 27 ls [])) ∧ (∀ z0, eo = Sum.inr z0 → ∀ (H : Heap) (locs : List Loc) (ls : Array Slot), va_P D vwCl (w_X0_freeNumber cI cB cZ a_t u_t_orders u_t_orderCount u_t_keepers u_t_keeperCount u_t_wives u_t_children u_t_shares u_t_kindCount u_t_lawful u_t_lawfulCount u_t_lawfulSystems u_t_judgedBy u_t_judged u_t_wheel s_t_size) H → va_D A (w_X0_freeNumber cI cB cZ a_t u_t_orders u_t_orderCount u_t_keepers u_t_keeperCount u_t_wives u_t_children u_t_shares u_t_kindCount u_t_lawful u_t_lawfulCount u_t_lawfulSystems u_t_judgedBy u_t_judged u_t_wheel s_t_size) → va_S A s.heap H locs → lv_has ls 5 [] → W p l e rX0_freeNumber s m args below meth c H locs 0 0 Q (F0 m 39 ls []))) → ∀ (H : Heap) (locs : List Loc) (ls : Array Slot), va_P D vwCl (w_X0_freeNumber cI cB cZ a_t u_t_orders u_t_orderCount u_t_keepers u_t_keeperCount u_t_wives u_t_children u_t_shares u_t_kindCount u_t_lawful u_t_lawfulCount u_t_lawfulSystems u_t_judgedBy u_t_judged u_t_wheel s_t_size) H → va_D A (w_X0_freeNumber cI cB cZ a_t u_t_orders u_t_orderCount u_t_keepers u_t_keeperCount u_t_wives u_t_children u_t_shares u_t_kindCount u_t_lawful u_t_lawfulCount u_t_lawfulSystems u_t_judgedBy u_t_judged u_t_wheel s_t_size) → va_S A s.heap H locs → lv_has ls 5 [(0, .ref a_t), (1, .int x1), (3, .int x3), (4, .int x4)] → W p l e rX0_freeNumber s m args below meth c H locs 0 0 Q (F0 m 5 ls []) := by
  intro n
  induction n with
  | zero =>
    intro x3 x4 eo hf
    exact (jI_zero hf).elim
  | succ n ih =>
    intro x3 x4 eo hf K H locs ls hP hD hS hl
    obtain ⟨o, hb1, ho⟩ := jI_some hf
    rcases ho with ⟨z, rfl, hf2⟩ | rfl
    · exact t_X0_freeNumber_b5 G D cI cB cZ a_t u_t_orders u_t_orderCount u_t_keepers u_t_keeperCount u_t_wives u_t_children u_t_shares u_t_kindCount u_t_lawful u_t_lawfulCount u_t_lawfulSystems u_t_judgedBy u_t_judged u_t_wheel s_t_size x1 x3 x4 C hb1 ⟨fun z2 hz H locs ls hP hD hS hl => by cases hz; exact ih z.1 z.2 hf2 K H locs ls hP hD hS hl, fun z2 hz => by cases hz⟩ hP hD hS hl
    · exact t_X0_freeNumber_b5 G D cI cB cZ a_t u_t_orders u_t_orderCount u_t_keepers u_t_keeperCount u_t_wives u_t_children u_t_shares u_t_kindCount u_t_lawful u_t_lawfulCount u_t_lawfulSystems u_t_judgedBy u_t_judged u_t_wheel s_t_size x1 x3 x4 C hb1 ⟨fun z2 hz => (by cases hz), fun z2 hz => by cases hz; exact K⟩ hP hD hS hl
def f_X0_freeNumber (s_t_size x1 x2 : Int32) : Option (Int32) :=
  jM (f_X0_freeNumber_l5 s_t_size x1 x2 (0 : Int32)) fun e4 =>
  Sum.elim (fun y5 =>
  some y5) (fun w6 =>
  some (0 : Int32)) e4
set_option maxHeartbeats 4000000 in
set_option maxRecDepth 100000 in
theorem t_X0_freeNumber {p : Program} {l : Launch} {e : Env} {s : State} {m : MethodId} {args : Array Value} {below : List Frame} {meth : Method} {c : Code} {A : Nat → Prop} {Q : State → Prop} (G : jGt) (D : va_G) (cI cB cZ : ClassId) (a_t : Nat) (u_t_orders : Value) (u_t_orderCount : Int32) (u_t_keepers : Value) (u_t_keeperCount : Int32) (u_t_wives u_t_children u_t_shares : Value) (u_t_kindCount : Int32) (u_t_lawful : Value) (u_t_lawfulCount u_t_lawfulSystems : Int32) (u_t_judgedBy : Value) (u_t_judged : Int32) (u_t_wheel : Value) (s_t_size : Int32) (x1 x2 : Int32) (C : jCx p s m args c cX0_freeNumber 5 gX0_freeNumber RX0 G D (jT cI cB cZ) A) {o : Int32} (hf : f_X0_freeNumber s_t_size x1 x2 = some o) (K : ∀ (H : Heap) (locs : List Loc) (pc : Nat) (ls : Array Slot), va_P D vwCl (w_X0_freeNumber cI cB cZ a_t u_t_orders u_t_orderCount u_t_keepers u_t_keeperCount u_t_wives u_t_children u_t_shares u_t_kindCount u_t_lawful u_t_lawfulCount u_t_lawfulSystems u_t_judgedBy u_t_judged u_t_wheel s_t_size) H → va_S A s.heap H locs → decode cX0_freeNumber pc = .ok (.ireturn, 1) → W p l e rX0_freeNumber s m args below meth c H locs 0 0 Q (F0 m pc ls [.int o])) {H : Heap} {locs : List Loc} {ls : Array Slot} (hP : va_P D vwCl (w_X0_freeNumber cI cB cZ a_t u_t_orders u_t_orderCount u_t_keepers u_t_keeperCount u_t_wives u_t_children u_t_shares u_t_kindCount u_t_lawful u_t_lawfulCount u_t_lawfulSystems u_t_judgedBy u_t_judged u_t_wheel s_t_size) H) (hD : va_D A (w_X0_freeNumber cI cB cZ a_t u_t_orders u_t_orderCount u_t_keepers u_t_keeperCount u_t_wives u_t_children u_t_shares u_t_kindCount u_t_lawful u_t_lawfulCount u_t_lawfulSystems u_t_judgedBy u_t_judged u_t_wheel s_t_size)) (hS : va_S A s.heap H locs) (hl : lv_has ls 5 [(0, .ref a_t), (1, .int x1), (2, .int x2)]) : W p l e rX0_freeNumber s m args below meth c H locs 0 0 Q (F0 m 0 ls []) := by
  obtain ⟨⟨hx, hb, hml, hown, hts⟩, hK, hN, hA⟩ := C
  have C : jCx p s m args c cX0_freeNumber 5 gX0_freeNumber RX0 G D (jT cI cB cZ) A := ⟨⟨hx, hb, hml, hown, hts⟩, hK, hN, hA⟩
  unfold f_X0_freeNumber at hf
  refine lv_iload_n hx hb dX0_freeNumber_0 rfl (lv_at hl 2 rfl) ?_
  refine lv_istore_n (lv' := [(3, .int x2), (0, .ref a_t), (1, .int x1), (2, .int x2)]) hx hb dX0_freeNumber_1 rfl hl (by decide) rfl (fun ls hl => ?_)
  refine lv_iconst (v := (0 : Int32)) hx hb dX0_freeNumber_2 (by decide) ?_
  refine lv_istore (lv' := [(4, .int (0 : Int32)), (3, .int x2), (0, .ref a_t), (1, .int x1), (2, .int x2)]) hx hb dX0_freeNumber_3 hl (by decide) rfl (fun ls hl => ?_)
  obtain ⟨e4, hg4, hf⟩ := jM_some hf
  refine t_X0_freeNumber_l5 G D cI cB cZ a_t u_t_orders u_t_orderCount u_t_keepers u_t_keeperCount u_t_wives u_t_children u_t_shares u_t_kindCount u_t_lawful u_t_lawfulCount u_t_lawfulSystems u_t_judgedBy u_t_judged u_t_wheel s_t_size x1 C jF x2 (0 : Int32) hg4 ?_ _ _ _ hP hD hS (lv_sub hl [2, 3, 1, 0] rfl)
  refine ⟨fun y5 hy => ?_, fun w6 hy => ?_⟩
  · replace hf := jE_l hy hf
    intro H locs ls hP hD hS hl
    refine lv_iload hx hb dX0_freeNumber_27 (lv_at hl 0 rfl) ?_
    have ho := Option.some.inj hf
    subst ho
    exact K _ _ _ _ hP hS dX0_freeNumber_29
  · replace hf := jE_r hy hf
    intro H locs ls hP hD hS hl
    refine lv_iconst (v := (0 : Int32)) hx hb dX0_freeNumber_39 (by decide) ?_
    have ho := Option.some.inj hf
    subst ho
    exact K _ _ _ _ hP hS dX0_freeNumber_40
set_option maxHeartbeats 4000000 in
set_option maxRecDepth 100000 in
theorem c_X0_freeNumber (l : Launch) (G : jGt) (D : va_G) (cI cB cZ : ClassId) (a_t : Nat) (u_t_orders : Value) (u_t_orderCount : Int32) (u_t_keepers : Value) (u_t_keeperCount : Int32) (u_t_wives u_t_children u_t_shares : Value) (u_t_kindCount : Int32) (u_t_lawful : Value) (u_t_lawfulCount u_t_lawfulSystems : Int32) (u_t_judgedBy : Value) (u_t_judged : Int32) (u_t_wheel : Value) (s_t_size : Int32) (x1 x2 : Int32) {o : Int32} (hf : f_X0_freeNumber s_t_size x1 x2 = some o) : jMi l yX0_freeNumber gX0_freeNumber rX0_freeNumber G D (jT cI cB cZ) [.ref a_t, .int x1, .int x2] (w_X0_freeNumber cI cB cZ a_t u_t_orders u_t_orderCount u_t_keepers u_t_keeperCount u_t_wives u_t_children u_t_shares u_t_kindCount u_t_lawful u_t_lawfulCount u_t_lawfulSystems u_t_judgedBy u_t_judged u_t_wheel s_t_size) (w_X0_freeNumber cI cB cZ a_t u_t_orders u_t_orderCount u_t_keepers u_t_keeperCount u_t_wives u_t_children u_t_shares u_t_kindCount u_t_lawful u_t_lawfulCount u_t_lawfulSystems u_t_judgedBy u_t_judged u_t_wheel s_t_size) o := by
  refine jmk_i RX0 rfl (by decide +kernel) rfl (Nat.le_of_ble_eq_true rfl) rfl ?_
  intro p e s m args below meth c ls A Q C hP hD hS hl K
  exact t_X0_freeNumber G D cI cB cZ a_t u_t_orders u_t_orderCount u_t_keepers u_t_keeperCount u_t_wives u_t_children u_t_shares u_t_kindCount u_t_lawful u_t_lawfulCount u_t_lawfulSystems u_t_judgedBy u_t_judged u_t_wheel s_t_size x1 x2 C hf K hP hD hS hl
abbrev rX0_orderAt : Room := { frames := 1, cells := 0, slots := 0, locals := 24 }
abbrev gX0_orderAt : List Cond := wG yX0_orderAt cX0_orderAt 9 (some .int)
def w_X0_orderAt (cI cB cZ : ClassId) (a_t : Nat) (u_t_orders : Value) (u_t_orderCount : Int32) (u_t_keepers : Value) (u_t_keeperCount : Int32) (u_t_wives u_t_children u_t_shares : Value) (u_t_kindCount : Int32) (u_t_lawful : Value) (u_t_lawfulCount u_t_lawfulSystems : Int32) (u_t_judgedBy : Value) (u_t_judged : Int32) (u_t_wheel : Value) (s_t_size : Int32) : va_W := [(a_t, .inr (0, (oX0 s_t_size u_t_orders u_t_orderCount u_t_keepers u_t_keeperCount u_t_wives u_t_children u_t_shares u_t_kindCount u_t_lawful u_t_lawfulCount u_t_lawfulSystems u_t_judgedBy u_t_judged u_t_wheel)))]
def f_X0_orderAt_j65 (x3 x4 x5 x7 x8 k0 : Int32) : Option ((Int32 × Int32 × Int32 × Int32 × Int32) ⊕ ((Int32))) :=
  jV (x4 ||| ((1 : Int32) <<< (x8 &&& 31))) fun v6 =>
  jV ((x3 <<< ((3 : Int32) &&& 31)) ||| x8) fun v7 =>
  some (Sum.inl (v7, v6, x5, k0, (x7 + (-1))))
set_option maxHeartbeats 4000000 in
set_option maxRecDepth 100000 in
theorem t_X0_orderAt_j65 {p : Program} {l : Launch} {e : Env} {s : State} {m : MethodId} {args : Array Value} {below : List Frame} {meth : Method} {c : Code} {A : Nat → Prop} {Q : State → Prop} (G : jGt) (D : va_G) (cI cB cZ : ClassId) (a_t : Nat) (u_t_orders : Value) (u_t_orderCount : Int32) (u_t_keepers : Value) (u_t_keeperCount : Int32) (u_t_wives u_t_children u_t_shares : Value) (u_t_kindCount : Int32) (u_t_lawful : Value) (u_t_lawfulCount u_t_lawfulSystems : Int32) (u_t_judgedBy : Value) (u_t_judged : Int32) (u_t_wheel : Value) (s_t_size : Int32) (x3 x4 x5 x7 x8 k0 : Int32) (C : jCx p s m args c cX0_orderAt 9 gX0_orderAt RX0 G D (jT cI cB cZ) A) {o : (Int32 × Int32 × Int32 × Int32 × Int32) ⊕ ((Int32))} (hf : f_X0_orderAt_j65 x3 x4 x5 x7 x8 k0 = some o) (K : (∀ z, o = Sum.inl z → ∀ (H : Heap) (locs : List Loc) (ls : Array Slot), va_P D vwCl (w_X0_orderAt cI cB cZ a_t u_t_orders u_t_orderCount u_t_keepers u_t_keeperCount u_t_wives u_t_children u_t_shares u_t_kindCount u_t_lawful u_t_lawfulCount u_t_lawfulSystems u_t_judgedBy u_t_judged u_t_wheel s_t_size) H → va_D A (w_X0_orderAt cI cB cZ a_t u_t_orders u_t_orderCount u_t_keepers u_t_keeperCount u_t_wives u_t_children u_t_shares u_t_kindCount u_t_lawful u_t_lawfulCount u_t_lawfulSystems u_t_judgedBy u_t_judged u_t_wheel s_t_size) → va_S A s.heap H locs → lv_has ls 9 [(0, .ref a_t), (3, .int z.1), (4, .int z.2.1), (5, .int z.2.2.1), (6, .int z.2.2.2.1), (7, .int z.2.2.2.2)] → W p l e rX0_orderAt s m args below meth c H locs 0 0 Q (F0 m 17 ls [])) ∧ (∀ z, o = Sum.inr z → ∀ (H : Heap) (locs : List Loc) (ls : Array Slot), va_P D vwCl (w_X0_orderAt cI cB cZ a_t u_t_orders u_t_orderCount u_t_keepers u_t_keeperCount u_t_wives u_t_children u_t_shares u_t_kindCount u_t_lawful u_t_lawfulCount u_t_lawfulSystems u_t_judgedBy u_t_judged u_t_wheel s_t_size) H → va_D A (w_X0_orderAt cI cB cZ a_t u_t_orders u_t_orderCount u_t_keepers u_t_keeperCount u_t_wives u_t_children u_t_shares u_t_kindCount u_t_lawful u_t_lawfulCount u_t_lawfulSystems u_t_judgedBy u_t_judged u_t_wheel s_t_size) → va_S A s.heap H locs → lv_has ls 9 [(3, .int z)] → W p l e rX0_orderAt s m args below meth c H locs 0 0 Q (F0 m 89 ls []))) {H : Heap} {locs : List Loc} {ls : Array Slot} (hP : va_P D vwCl (w_X0_orderAt cI cB cZ a_t u_t_orders u_t_orderCount u_t_keepers u_t_keeperCount u_t_wives u_t_children u_t_shares u_t_kindCount u_t_lawful u_t_lawfulCount u_t_lawfulSystems u_t_judgedBy u_t_judged u_t_wheel s_t_size) H) (hD : va_D A (w_X0_orderAt cI cB cZ a_t u_t_orders u_t_orderCount u_t_keepers u_t_keeperCount u_t_wives u_t_children u_t_shares u_t_kindCount u_t_lawful u_t_lawfulCount u_t_lawfulSystems u_t_judgedBy u_t_judged u_t_wheel s_t_size)) (hS : va_S A s.heap H locs) (hl : lv_has ls 9 [(0, .ref a_t), (3, .int x3), (4, .int x4), (5, .int x5), (7, .int x7), (8, .int x8)]) : W p l e rX0_orderAt s m args below meth c H locs 0 0 Q (F0 m 65 ls [.int k0]) := by
  obtain ⟨⟨hx, hb, hml, hown, hts⟩, hK, hN, hA⟩ := C
  have C : jCx p s m args c cX0_orderAt 9 gX0_orderAt RX0 G D (jT cI cB cZ) A := ⟨⟨hx, hb, hml, hown, hts⟩, hK, hN, hA⟩
  unfold f_X0_orderAt_j65 at hf
  refine lv_istore (lv' := [(6, .int k0), (0, .ref a_t), (3, .int x3), (4, .int x4), (5, .int x5), (7, .int x7), (8, .int x8)]) hx hb dX0_orderAt_65 hl (by decide) rfl (fun ls hl => ?_)
  refine lv_iload hx hb dX0_orderAt_67 (lv_at hl 3 rfl) ?_
  refine lv_iconst (v := (1 : Int32)) hx hb dX0_orderAt_69 (by decide) ?_
  refine lv_iload hx hb dX0_orderAt_70 (lv_at hl 6 rfl) ?_
  refine lv_ishl hx hb dX0_orderAt_72 ?_
  refine lv_ior hx hb dX0_orderAt_73 ?_
  obtain ⟨v6, hv6, hf⟩ := jV_some hf
  refine jtop hv6 ?_
  refine lv_istore (lv' := [(4, .int v6), (6, .int k0), (0, .ref a_t), (3, .int x3), (5, .int x5), (7, .int x7), (8, .int x8)]) hx hb dX0_orderAt_74 hl (by decide) rfl (fun ls hl => ?_)
  refine lv_iload_n hx hb dX0_orderAt_76 rfl (lv_at hl 3 rfl) ?_
  refine lv_iconst (v := (3 : Int32)) hx hb dX0_orderAt_77 (by decide) ?_
  refine lv_ishl hx hb dX0_orderAt_78 ?_
  refine lv_iload hx hb dX0_orderAt_79 (lv_at hl 6 rfl) ?_
  refine lv_ior hx hb dX0_orderAt_81 ?_
  obtain ⟨v7, hv7, hf⟩ := jV_some hf
  refine jtop hv7 ?_
  refine lv_istore_n (lv' := [(3, .int v7), (4, .int v6), (6, .int k0), (0, .ref a_t), (5, .int x5), (7, .int x7), (8, .int x8)]) hx hb dX0_orderAt_82 rfl hl (by decide) rfl (fun ls hl => ?_)
  refine lv_iinc (v := (x7 + (-1))) (lv' := [(7, .int (x7 + (-1))), (3, .int v7), (4, .int v6), (6, .int k0), (0, .ref a_t), (5, .int x5), (8, .int x8)]) hx hb dX0_orderAt_83 hl (k := 5) rfl (by first | rfl | decide) (by decide) rfl (fun ls hl => ?_)
  refine lv_goto (tgt := 17) hx hb dX0_orderAt_86 (by decide) ?_
  have ho := Option.some.inj hf
  exact K.1 _ ho.symm _ _ _ hP hD hS (lv_sub hl [4, 1, 2, 5, 3, 0] rfl)
def f_X0_orderAt_j49 (x3 x4 x5 x6 x7 k0 : Int32) : Option ((Int32 × Int32 × Int32 × Int32 × Int32) ⊕ ((Int32))) :=
  if x5 ≤ 0 then
  f_X0_orderAt_j65 x3 x4 x5 x7 k0 (0 : Int32)
  else
  jQ x5 <|
  f_X0_orderAt_j65 x3 x4 x5 x7 k0 (x6 - x6 / x5 * x5)
set_option maxHeartbeats 4000000 in
set_option maxRecDepth 100000 in
theorem t_X0_orderAt_j49 {p : Program} {l : Launch} {e : Env} {s : State} {m : MethodId} {args : Array Value} {below : List Frame} {meth : Method} {c : Code} {A : Nat → Prop} {Q : State → Prop} (G : jGt) (D : va_G) (cI cB cZ : ClassId) (a_t : Nat) (u_t_orders : Value) (u_t_orderCount : Int32) (u_t_keepers : Value) (u_t_keeperCount : Int32) (u_t_wives u_t_children u_t_shares : Value) (u_t_kindCount : Int32) (u_t_lawful : Value) (u_t_lawfulCount u_t_lawfulSystems : Int32) (u_t_judgedBy : Value) (u_t_judged : Int32) (u_t_wheel : Value) (s_t_size : Int32) (x3 x4 x5 x6 x7 k0 : Int32) (C : jCx p s m args c cX0_orderAt 9 gX0_orderAt RX0 G D (jT cI cB cZ) A) {o : (Int32 × Int32 × Int32 × Int32 × Int32) ⊕ ((Int32))} (hf : f_X0_orderAt_j49 x3 x4 x5 x6 x7 k0 = some o) (K : (∀ z, o = Sum.inl z → ∀ (H : Heap) (locs : List Loc) (ls : Array Slot), va_P D vwCl (w_X0_orderAt cI cB cZ a_t u_t_orders u_t_orderCount u_t_keepers u_t_keeperCount u_t_wives u_t_children u_t_shares u_t_kindCount u_t_lawful u_t_lawfulCount u_t_lawfulSystems u_t_judgedBy u_t_judged u_t_wheel s_t_size) H → va_D A (w_X0_orderAt cI cB cZ a_t u_t_orders u_t_orderCount u_t_keepers u_t_keeperCount u_t_wives u_t_children u_t_shares u_t_kindCount u_t_lawful u_t_lawfulCount u_t_lawfulSystems u_t_judgedBy u_t_judged u_t_wheel s_t_size) → va_S A s.heap H locs → lv_has ls 9 [(0, .ref a_t), (3, .int z.1), (4, .int z.2.1), (5, .int z.2.2.1), (6, .int z.2.2.2.1), (7, .int z.2.2.2.2)] → W p l e rX0_orderAt s m args below meth c H locs 0 0 Q (F0 m 17 ls [])) ∧ (∀ z, o = Sum.inr z → ∀ (H : Heap) (locs : List Loc) (ls : Array Slot), va_P D vwCl (w_X0_orderAt cI cB cZ a_t u_t_orders u_t_orderCount u_t_keepers u_t_keeperCount u_t_wives u_t_children u_t_shares u_t_kindCount u_t_lawful u_t_lawfulCount u_t_lawfulSystems u_t_judgedBy u_t_judged u_t_wheel s_t_size) H → va_D A (w_X0_orderAt cI cB cZ a_t u_t_orders u_t_orderCount u_t_keepers u_t_keeperCount u_t_wives u_t_children u_t_shares u_t_kindCount u_t_lawful u_t_lawfulCount u_t_lawfulSystems u_t_judgedBy u_t_judged u_t_wheel s_t_size) → va_S A s.heap H locs → lv_has ls 9 [(3, .int z)] → W p l e rX0_orderAt s m args below meth c H locs 0 0 Q (F0 m 89 ls []))) {H : Heap} {locs : List Loc} {ls : Array Slot} (hP : va_P D vwCl (w_X0_orderAt cI cB cZ a_t u_t_orders u_t_orderCount u_t_keepers u_t_keeperCount u_t_wives u_t_children u_t_shares u_t_kindCount u_t_lawful u_t_lawfulCount u_t_lawfulSystems u_t_judgedBy u_t_judged u_t_wheel s_t_size) H) (hD : va_D A (w_X0_orderAt cI cB cZ a_t u_t_orders u_t_orderCount u_t_keepers u_t_keeperCount u_t_wives u_t_children u_t_shares u_t_kindCount u_t_lawful u_t_lawfulCount u_t_lawfulSystems u_t_judgedBy u_t_judged u_t_wheel s_t_size)) (hS : va_S A s.heap H locs) (hl : lv_has ls 9 [(0, .ref a_t), (3, .int x3), (4, .int x4), (5, .int x5), (6, .int x6), (7, .int x7)]) : W p l e rX0_orderAt s m args below meth c H locs 0 0 Q (F0 m 49 ls [.int k0]) := by
  obtain ⟨⟨hx, hb, hml, hown, hts⟩, hK, hN, hA⟩ := C
  have C : jCx p s m args c cX0_orderAt 9 gX0_orderAt RX0 G D (jT cI cB cZ) A := ⟨⟨hx, hb, hml, hown, hts⟩, hK, hN, hA⟩
  unfold f_X0_orderAt_j49 at hf
  refine lv_istore (lv' := [(8, .int k0), (0, .ref a_t), (3, .int x3), (4, .int x4), (5, .int x5), (6, .int x6), (7, .int x7)]) hx hb dX0_orderAt_49 hl (by decide) rfl (fun ls hl => ?_)
  refine lv_iload hx hb dX0_orderAt_51 (lv_at hl 4 rfl) ?_
  refine lv_if_le (tgt := 64) hx hb dX0_orderAt_53 (by decide) (fun c5 => ?_) (fun c5 => ?_)
  · replace hf := jif_t c5 hf
    refine lv_iconst (v := (0 : Int32)) hx hb dX0_orderAt_64 (by decide) ?_
    exact t_X0_orderAt_j65 G D cI cB cZ a_t u_t_orders u_t_orderCount u_t_keepers u_t_keeperCount u_t_wives u_t_children u_t_shares u_t_kindCount u_t_lawful u_t_lawfulCount u_t_lawfulSystems u_t_judgedBy u_t_judged u_t_wheel s_t_size x3 x4 x5 x7 k0 (0 : Int32) C hf K hP hD hS (lv_sub hl [1, 2, 3, 4, 6, 0] rfl)
  · replace hf := jif_f c5 hf
    refine lv_iload hx hb dX0_orderAt_56 (lv_at hl 5 rfl) ?_
    refine lv_iload hx hb dX0_orderAt_58 (lv_at hl 4 rfl) ?_
    obtain ⟨hq8, hf⟩ := jQ_some hf
    refine lv_irem hx hb dX0_orderAt_60 hq8 ?_
    refine lv_goto (tgt := 65) hx hb dX0_orderAt_61 (by decide) ?_
    exact t_X0_orderAt_j65 G D cI cB cZ a_t u_t_orders u_t_orderCount u_t_keepers u_t_keeperCount u_t_wives u_t_children u_t_shares u_t_kindCount u_t_lawful u_t_lawfulCount u_t_lawfulSystems u_t_judgedBy u_t_judged u_t_wheel s_t_size x3 x4 x5 x7 k0 (x6 - x6 / x5 * x5) C hf K hP hD hS (lv_sub hl [1, 2, 3, 4, 6, 0] rfl)
def f_X0_orderAt_b17 (s_t_size x3 x4 x5 x6 x7 : Int32) : Option ((Int32 × Int32 × Int32 × Int32 × Int32) ⊕ ((Int32))) :=
  if x7 ≤ 0 then
  some (Sum.inr x3)
  else
  jQ x7 <|
  jV (x5 / x7) fun v3 =>
  if v3 ≤ 0 then
  f_X0_orderAt_j49 x3 x4 v3 x6 x7 (0 : Int32)
  else
  jQ v3 <|
  jM (f_X0_freeNumber s_t_size x4 (x6 / v3)) fun r10 =>
  f_X0_orderAt_j49 x3 x4 v3 x6 x7 r10
set_option maxHeartbeats 4000000 in
set_option maxRecDepth 100000 in
theorem t_X0_orderAt_b17 {p : Program} {l : Launch} {e : Env} {s : State} {m : MethodId} {args : Array Value} {below : List Frame} {meth : Method} {c : Code} {A : Nat → Prop} {Q : State → Prop} (G : jGt) (D : va_G) (cI cB cZ : ClassId) (a_t : Nat) (u_t_orders : Value) (u_t_orderCount : Int32) (u_t_keepers : Value) (u_t_keeperCount : Int32) (u_t_wives u_t_children u_t_shares : Value) (u_t_kindCount : Int32) (u_t_lawful : Value) (u_t_lawfulCount u_t_lawfulSystems : Int32) (u_t_judgedBy : Value) (u_t_judged : Int32) (u_t_wheel : Value) (s_t_size : Int32) (x3 x4 x5 x6 x7 : Int32) (C : jCx p s m args c cX0_orderAt 9 gX0_orderAt RX0 G D (jT cI cB cZ) A) {o : (Int32 × Int32 × Int32 × Int32 × Int32) ⊕ ((Int32))} (hf : f_X0_orderAt_b17 s_t_size x3 x4 x5 x6 x7 = some o) (K : (∀ z, o = Sum.inl z → ∀ (H : Heap) (locs : List Loc) (ls : Array Slot), va_P D vwCl (w_X0_orderAt cI cB cZ a_t u_t_orders u_t_orderCount u_t_keepers u_t_keeperCount u_t_wives u_t_children u_t_shares u_t_kindCount u_t_lawful u_t_lawfulCount u_t_lawfulSystems u_t_judgedBy u_t_judged u_t_wheel s_t_size) H → va_D A (w_X0_orderAt cI cB cZ a_t u_t_orders u_t_orderCount u_t_keepers u_t_keeperCount u_t_wives u_t_children u_t_shares u_t_kindCount u_t_lawful u_t_lawfulCount u_t_lawfulSystems u_t_judgedBy u_t_judged u_t_wheel s_t_size) → va_S A s.heap H locs → lv_has ls 9 [(0, .ref a_t), (3, .int z.1), (4, .int z.2.1), (5, .int z.2.2.1), (6, .int z.2.2.2.1), (7, .int z.2.2.2.2)] → W p l e rX0_orderAt s m args below meth c H locs 0 0 Q (F0 m 17 ls [])) ∧ (∀ z, o = Sum.inr z → ∀ (H : Heap) (locs : List Loc) (ls : Array Slot), va_P D vwCl (w_X0_orderAt cI cB cZ a_t u_t_orders u_t_orderCount u_t_keepers u_t_keeperCount u_t_wives u_t_children u_t_shares u_t_kindCount u_t_lawful u_t_lawfulCount u_t_lawfulSystems u_t_judgedBy u_t_judged u_t_wheel s_t_size) H → va_D A (w_X0_orderAt cI cB cZ a_t u_t_orders u_t_orderCount u_t_keepers u_t_keeperCount u_t_wives u_t_children u_t_shares u_t_kindCount u_t_lawful u_t_lawfulCount u_t_lawfulSystems u_t_judgedBy u_t_judged u_t_wheel s_t_size) → va_S A s.heap H locs → lv_has ls 9 [(3, .int z)] → W p l e rX0_orderAt s m args below meth c H locs 0 0 Q (F0 m 89 ls []))) {H : Heap} {locs : List Loc} {ls : Array Slot} (hP : va_P D vwCl (w_X0_orderAt cI cB cZ a_t u_t_orders u_t_orderCount u_t_keepers u_t_keeperCount u_t_wives u_t_children u_t_shares u_t_kindCount u_t_lawful u_t_lawfulCount u_t_lawfulSystems u_t_judgedBy u_t_judged u_t_wheel s_t_size) H) (hD : va_D A (w_X0_orderAt cI cB cZ a_t u_t_orders u_t_orderCount u_t_keepers u_t_keeperCount u_t_wives u_t_children u_t_shares u_t_kindCount u_t_lawful u_t_lawfulCount u_t_lawfulSystems u_t_judgedBy u_t_judged u_t_wheel s_t_size)) (hS : va_S A s.heap H locs) (hl : lv_has ls 9 [(0, .ref a_t), (3, .int x3), (4, .int x4), (5, .int x5), (6, .int x6), (7, .int x7)]) : W p l e rX0_orderAt s m args below meth c H locs 0 0 Q (F0 m 17 ls []) := by
  obtain ⟨⟨hx, hb, hml, hown, hts⟩, hK, hN, hA⟩ := C
  have C : jCx p s m args c cX0_orderAt 9 gX0_orderAt RX0 G D (jT cI cB cZ) A := ⟨⟨hx, hb, hml, hown, hts⟩, hK, hN, hA⟩
  unfold f_X0_orderAt_b17 at hf
  refine lv_iload hx hb dX0_orderAt_17 (lv_at hl 5 rfl) ?_
  refine lv_if_le (tgt := 89) hx hb dX0_orderAt_19 (by decide) (fun c1 => ?_) (fun c1 => ?_)
  · replace hf := jif_t c1 hf
    have ho := Option.some.inj hf
    exact (K.2 _ ho.symm) _ _ _ hP hD hS (lv_sub hl [1] rfl)
  · replace hf := jif_f c1 hf
    refine lv_iload hx hb dX0_orderAt_22 (lv_at hl 3 rfl) ?_
    refine lv_iload hx hb dX0_orderAt_24 (lv_at hl 5 rfl) ?_
    obtain ⟨hq2, hf⟩ := jQ_some hf
    refine lv_idiv hx hb dX0_orderAt_26 hq2 ?_
    obtain ⟨v3, hv3, hf⟩ := jV_some hf
    refine jtop hv3 ?_
    refine lv_istore (lv' := [(5, .int v3), (0, .ref a_t), (3, .int x3), (4, .int x4), (6, .int x6), (7, .int x7)]) hx hb dX0_orderAt_27 hl (by decide) rfl (fun ls hl => ?_)
    refine lv_iload hx hb dX0_orderAt_29 (lv_at hl 0 rfl) ?_
    refine lv_if_le (tgt := 48) hx hb dX0_orderAt_31 (by decide) (fun c4 => ?_) (fun c4 => ?_)
    · replace hf := jif_t c4 hf
      refine lv_iconst (v := (0 : Int32)) hx hb dX0_orderAt_48 (by decide) ?_
      exact t_X0_orderAt_j49 G D cI cB cZ a_t u_t_orders u_t_orderCount u_t_keepers u_t_keeperCount u_t_wives u_t_children u_t_shares u_t_kindCount u_t_lawful u_t_lawfulCount u_t_lawfulSystems u_t_judgedBy u_t_judged u_t_wheel s_t_size x3 x4 v3 x6 x7 (0 : Int32) C hf K hP hD hS (lv_sub hl [1, 2, 3, 0, 4, 5] rfl)
    · replace hf := jif_f c4 hf
      refine lv_aload_n hx hb dX0_orderAt_34 rfl (lv_at hl 1 rfl) ?_
      refine lv_iload hx hb dX0_orderAt_35 (lv_at hl 3 rfl) ?_
      refine lv_iload hx hb dX0_orderAt_37 (lv_at hl 4 rfl) ?_
      refine lv_iload hx hb dX0_orderAt_39 (lv_at hl 0 rfl) ?_
      obtain ⟨hq9, hf⟩ := jQ_some hf
      refine lv_idiv hx hb dX0_orderAt_41 hq9 ?_
      obtain ⟨r10, hgr10, hf⟩ := jM_some hf
      refine jcV_i0 (As := [.int x4, .int (x6 / v3)]) (rest := []) ⟨hx, hb, hml, hown, hts⟩ hK hN hA (c_X0_freeNumber l G D cI cB cZ a_t u_t_orders u_t_orderCount u_t_keepers u_t_keeperCount u_t_wives u_t_children u_t_shares u_t_kindCount u_t_lawful u_t_lawfulCount u_t_lawfulSystems u_t_judgedBy u_t_judged u_t_wheel s_t_size x4 (x6 / v3) hgr10) (cwV 2 hts (wG_V k_ml_X0_69 k_im_X0_freeNumber k_se_X0_freeNumber k_in_X0 k_co_X0_freeNumber) rfl rfl rfl hd_X0_freeNumber ⟨Nat.le_of_ble_eq_true rfl, Nat.le_of_ble_eq_true rfl⟩) hP hD hS [0] rfl rfl rfl (ci := 0) rfl 0 rfl rfl rfl hl.1 rfl (Nat.le_of_ble_eq_true rfl) dX0_orderAt_42 ⟨Nat.le_of_ble_eq_true rfl, Nat.le_of_ble_eq_true rfl⟩ (fun H locs hP hD hS => ?_)
      refine lv_goto (tgt := 49) hx hb dX0_orderAt_45 (by decide) ?_
      exact t_X0_orderAt_j49 G D cI cB cZ a_t u_t_orders u_t_orderCount u_t_keepers u_t_keeperCount u_t_wives u_t_children u_t_shares u_t_kindCount u_t_lawful u_t_lawfulCount u_t_lawfulSystems u_t_judgedBy u_t_judged u_t_wheel s_t_size x3 x4 v3 x6 x7 r10 C hf K hP hD hS (lv_sub hl [1, 2, 3, 0, 4, 5] rfl)
def f_X0_orderAt_l17 (s_t_size x3 x4 x5 x6 x7 : Int32) : Option ((Int32)) :=
  jI (fun z => f_X0_orderAt_b17 s_t_size z.1 z.2.1 z.2.2.1 z.2.2.2.1 z.2.2.2.2) jF (x3, x4, x5, x6, x7)
set_option maxHeartbeats 4000000 in
set_option maxRecDepth 100000 in
theorem t_X0_orderAt_l17 {p : Program} {l : Launch} {e : Env} {s : State} {m : MethodId} {args : Array Value} {below : List Frame} {meth : Method} {c : Code} {A : Nat → Prop} {Q : State → Prop} (G : jGt) (D : va_G) (cI cB cZ : ClassId) (a_t : Nat) (u_t_orders : Value) (u_t_orderCount : Int32) (u_t_keepers : Value) (u_t_keeperCount : Int32) (u_t_wives u_t_children u_t_shares : Value) (u_t_kindCount : Int32) (u_t_lawful : Value) (u_t_lawfulCount u_t_lawfulSystems : Int32) (u_t_judgedBy : Value) (u_t_judged : Int32) (u_t_wheel : Value) (s_t_size : Int32)  (C : jCx p s m args c cX0_orderAt 9 gX0_orderAt RX0 G D (jT cI cB cZ) A) : ∀ (n : Nat) (x3 x4 x5 x6 x7 : Int32) {eo : (Int32)}, jI (fun z => f_X0_orderAt_b17 s_t_size z.1 z.2.1 z.2.2.1 z.2.2.2.1 z.2.2.2.2) n (x3, x4, x5, x6, x7) = some eo → (∀ (H : Heap) (locs : List Loc) (ls : Array Slot), va_P D vwCl (w_X0_orderAt cI cB cZ a_t u_t_orders u_t_orderCount u_t_keepers u_t_keeperCount u_t_wives u_t_children u_t_shares u_t_kindCount u_t_lawful u_t_lawfulCount u_t_lawfulSystems u_t_judgedBy u_t_judged u_t_wheel s_t_size) H → va_D A (w_X0_orderAt cI cB cZ a_t u_t_orders u_t_orderCount u_t_keepers u_t_keeperCount u_t_wives u_t_children u_t_shares u_t_kindCount u_t_lawful u_t_lawfulCount u_t_lawfulSystems u_t_judgedBy u_t_judged u_t_wheel s_t_size) → va_S A s.heap H locs → lv_has ls 9 [(3, .int eo)] → W p l e rX0_orderAt s m args below meth c H locs 0 0 Q (F0 m 89 ls [])) → ∀ (H : Heap) (locs : List Loc) (ls : Array Slot), va_P D vwCl (w_X0_orderAt cI cB cZ a_t u_t_orders u_t_orderCount u_t_keepers u_t_keeperCount u_t_wives u_t_children u_t_shares u_t_kindCount u_t_lawful u_t_lawfulCount u_t_lawfulSystems u_t_judgedBy u_t_judged u_t_wheel s_t_size) H → va_D A (w_X0_orderAt cI cB cZ a_t u_t_orders u_t_orderCount u_t_keepers u_t_keeperCount u_t_wives u_t_children u_t_shares u_t_kindCount u_t_lawful u_t_lawfulCount u_t_lawfulSystems u_t_judgedBy u_t_judged u_t_wheel s_t_size) → va_S A s.heap H locs → lv_has ls 9 [(0, .ref a_t), (3, .int x3), (4, .int x4), (5, .int x5), (6, .int x6), (7, .int x7)] → W p l e rX0_orderAt s m args below meth c H locs 0 0 Q (F0 m 17 ls []) := by
  intro n
  induction n with
  | zero =>
    intro x3 x4 x5 x6 x7 eo hf
    exact (jI_zero hf).elim
  | succ n ih =>
    intro x3 x4 x5 x6 x7 eo hf K H locs ls hP hD hS hl
    obtain ⟨o, hb1, ho⟩ := jI_some hf
    rcases ho with ⟨z, rfl, hf2⟩ | rfl
    · exact t_X0_orderAt_b17 G D cI cB cZ a_t u_t_orders u_t_orderCount u_t_keepers u_t_keeperCount u_t_wives u_t_children u_t_shares u_t_kindCount u_t_lawful u_t_lawfulCount u_t_lawfulSystems u_t_judgedBy u_t_judged u_t_wheel s_t_size x3 x4 x5 x6 x7 C hb1 ⟨fun z2 hz H locs ls hP hD hS hl => by cases hz; exact ih z.1 z.2.1 z.2.2.1 z.2.2.2.1 z.2.2.2.2 hf2 K H locs ls hP hD hS hl, fun z2 hz => by cases hz⟩ hP hD hS hl
    · exact t_X0_orderAt_b17 G D cI cB cZ a_t u_t_orders u_t_orderCount u_t_keepers u_t_keeperCount u_t_wives u_t_children u_t_shares u_t_kindCount u_t_lawful u_t_lawfulCount u_t_lawfulSystems u_t_judgedBy u_t_judged u_t_wheel s_t_size x3 x4 x5 x6 x7 C hb1 ⟨fun z2 hz => (by cases hz), fun z2 hz => by cases hz; exact K⟩ hP hD hS hl
def f_X0_orderAt (s_t_size x1 x2 : Int32) : Option (Int32) :=
  jM (f_X0_orderAt_l17 s_t_size (0 : Int32) (0 : Int32) x2 x1 s_t_size) fun e11 =>
  some e11
set_option maxHeartbeats 4000000 in
set_option maxRecDepth 100000 in
theorem t_X0_orderAt {p : Program} {l : Launch} {e : Env} {s : State} {m : MethodId} {args : Array Value} {below : List Frame} {meth : Method} {c : Code} {A : Nat → Prop} {Q : State → Prop} (G : jGt) (D : va_G) (cI cB cZ : ClassId) (a_t : Nat) (u_t_orders : Value) (u_t_orderCount : Int32) (u_t_keepers : Value) (u_t_keeperCount : Int32) (u_t_wives u_t_children u_t_shares : Value) (u_t_kindCount : Int32) (u_t_lawful : Value) (u_t_lawfulCount u_t_lawfulSystems : Int32) (u_t_judgedBy : Value) (u_t_judged : Int32) (u_t_wheel : Value) (s_t_size : Int32) (x1 x2 : Int32) (C : jCx p s m args c cX0_orderAt 9 gX0_orderAt RX0 G D (jT cI cB cZ) A) {o : Int32} (hf : f_X0_orderAt s_t_size x1 x2 = some o) (K : ∀ (H : Heap) (locs : List Loc) (pc : Nat) (ls : Array Slot), va_P D vwCl (w_X0_orderAt cI cB cZ a_t u_t_orders u_t_orderCount u_t_keepers u_t_keeperCount u_t_wives u_t_children u_t_shares u_t_kindCount u_t_lawful u_t_lawfulCount u_t_lawfulSystems u_t_judgedBy u_t_judged u_t_wheel s_t_size) H → va_S A s.heap H locs → decode cX0_orderAt pc = .ok (.ireturn, 1) → W p l e rX0_orderAt s m args below meth c H locs 0 0 Q (F0 m pc ls [.int o])) {H : Heap} {locs : List Loc} {ls : Array Slot} (hP : va_P D vwCl (w_X0_orderAt cI cB cZ a_t u_t_orders u_t_orderCount u_t_keepers u_t_keeperCount u_t_wives u_t_children u_t_shares u_t_kindCount u_t_lawful u_t_lawfulCount u_t_lawfulSystems u_t_judgedBy u_t_judged u_t_wheel s_t_size) H) (hD : va_D A (w_X0_orderAt cI cB cZ a_t u_t_orders u_t_orderCount u_t_keepers u_t_keeperCount u_t_wives u_t_children u_t_shares u_t_kindCount u_t_lawful u_t_lawfulCount u_t_lawfulSystems u_t_judgedBy u_t_judged u_t_wheel s_t_size)) (hS : va_S A s.heap H locs) (hl : lv_has ls 9 [(0, .ref a_t), (1, .int x1), (2, .int x2)]) : W p l e rX0_orderAt s m args below meth c H locs 0 0 Q (F0 m 0 ls []) := by
  obtain ⟨⟨hx, hb, hml, hown, hts⟩, hK, hN, hA⟩ := C
  have C : jCx p s m args c cX0_orderAt 9 gX0_orderAt RX0 G D (jT cI cB cZ) A := ⟨⟨hx, hb, hml, hown, hts⟩, hK, hN, hA⟩
  unfold f_X0_orderAt at hf
  refine lv_iconst (v := (0 : Int32)) hx hb dX0_orderAt_0 (by decide) ?_
  refine lv_istore_n (lv' := [(3, .int (0 : Int32)), (0, .ref a_t), (1, .int x1), (2, .int x2)]) hx hb dX0_orderAt_1 rfl hl (by decide) rfl (fun ls hl => ?_)
  refine lv_iconst (v := (0 : Int32)) hx hb dX0_orderAt_2 (by decide) ?_
  refine lv_istore (lv' := [(4, .int (0 : Int32)), (3, .int (0 : Int32)), (0, .ref a_t), (1, .int x1), (2, .int x2)]) hx hb dX0_orderAt_3 hl (by decide) rfl (fun ls hl => ?_)
  refine lv_iload_n hx hb dX0_orderAt_5 rfl (lv_at hl 4 rfl) ?_
  refine lv_istore (lv' := [(5, .int x2), (4, .int (0 : Int32)), (3, .int (0 : Int32)), (0, .ref a_t), (1, .int x1), (2, .int x2)]) hx hb dX0_orderAt_6 hl (by decide) rfl (fun ls hl => ?_)
  refine lv_iload_n hx hb dX0_orderAt_8 rfl (lv_at hl 4 rfl) ?_
  refine lv_istore (lv' := [(6, .int x1), (5, .int x2), (4, .int (0 : Int32)), (3, .int (0 : Int32)), (0, .ref a_t), (1, .int x1), (2, .int x2)]) hx hb dX0_orderAt_9 hl (by decide) rfl (fun ls hl => ?_)
  refine lv_aload_n hx hb dX0_orderAt_11 rfl (lv_at hl 4 rfl) ?_
  refine va_get (D := D) (ci := 0) (v := .int s_t_size) (C := RX0) (T := TX0) (N := 15) hx hb hts iw_X0 hown hK hP 0 rfl rfl 0 (by decide) (hts _ (wG_in k_fl_X0_44 rfl)) (fun _ h9 => h9) rfl dX0_orderAt_12 ?_
  refine lv_istore (lv' := [(7, .int s_t_size), (6, .int x1), (5, .int x2), (4, .int (0 : Int32)), (3, .int (0 : Int32)), (0, .ref a_t), (1, .int x1), (2, .int x2)]) hx hb dX0_orderAt_15 hl (by decide) rfl (fun ls hl => ?_)
  obtain ⟨e11, hg11, hf⟩ := jM_some hf
  refine t_X0_orderAt_l17 G D cI cB cZ a_t u_t_orders u_t_orderCount u_t_keepers u_t_keeperCount u_t_wives u_t_children u_t_shares u_t_kindCount u_t_lawful u_t_lawfulCount u_t_lawfulSystems u_t_judgedBy u_t_judged u_t_wheel s_t_size  C jF (0 : Int32) (0 : Int32) x2 x1 s_t_size hg11 ?_ _ _ _ hP hD hS (lv_sub hl [5, 4, 3, 2, 1, 0] rfl)
  intro H locs ls hP hD hS hl
  refine lv_iload_n hx hb dX0_orderAt_89 rfl (lv_at hl 0 rfl) ?_
  have ho := Option.some.inj hf
  subst ho
  exact K _ _ _ _ hP hS dX0_orderAt_90
set_option maxHeartbeats 4000000 in
set_option maxRecDepth 100000 in
theorem c_X0_orderAt (l : Launch) (G : jGt) (D : va_G) (cI cB cZ : ClassId) (a_t : Nat) (u_t_orders : Value) (u_t_orderCount : Int32) (u_t_keepers : Value) (u_t_keeperCount : Int32) (u_t_wives u_t_children u_t_shares : Value) (u_t_kindCount : Int32) (u_t_lawful : Value) (u_t_lawfulCount u_t_lawfulSystems : Int32) (u_t_judgedBy : Value) (u_t_judged : Int32) (u_t_wheel : Value) (s_t_size : Int32) (x1 x2 : Int32) {o : Int32} (hf : f_X0_orderAt s_t_size x1 x2 = some o) : jMi l yX0_orderAt gX0_orderAt rX0_orderAt G D (jT cI cB cZ) [.ref a_t, .int x1, .int x2] (w_X0_orderAt cI cB cZ a_t u_t_orders u_t_orderCount u_t_keepers u_t_keeperCount u_t_wives u_t_children u_t_shares u_t_kindCount u_t_lawful u_t_lawfulCount u_t_lawfulSystems u_t_judgedBy u_t_judged u_t_wheel s_t_size) (w_X0_orderAt cI cB cZ a_t u_t_orders u_t_orderCount u_t_keepers u_t_keeperCount u_t_wives u_t_children u_t_shares u_t_kindCount u_t_lawful u_t_lawfulCount u_t_lawfulSystems u_t_judgedBy u_t_judged u_t_wheel s_t_size) o := by
  refine jmk_i RX0 rfl (by decide +kernel) rfl (Nat.le_of_ble_eq_true rfl) rfl ?_
  intro p e s m args below meth c ls A Q C hP hD hS hl K
  exact t_X0_orderAt G D cI cB cZ a_t u_t_orders u_t_orderCount u_t_keepers u_t_keeperCount u_t_wives u_t_children u_t_shares u_t_kindCount u_t_lawful u_t_lawfulCount u_t_lawfulSystems u_t_judgedBy u_t_judged u_t_wheel s_t_size x1 x2 C hf K hP hD hS hl
abbrev rX0_listOrders : Room := { frames := 2, cells := 0, slots := 0, locals := 52 }
abbrev gX0_listOrders : List Cond := wG yX0_listOrders cX0_listOrders 3 none
def w_X0_listOrders (cI cB cZ : ClassId) (a_t a_t_orders : Nat) (u_t_keepers : Value) (u_t_keeperCount : Int32) (u_t_wives u_t_children u_t_shares : Value) (u_t_kindCount : Int32) (u_t_lawful : Value) (u_t_lawfulCount u_t_lawfulSystems : Int32) (u_t_judgedBy : Value) (u_t_judged : Int32) (u_t_wheel : Value) (s_t_orderCount s_t_size : Int32) (r_t_orders : jA) : va_W := [(a_t, .inr (0, (oX0 s_t_size (.ref a_t_orders) s_t_orderCount u_t_keepers u_t_keeperCount u_t_wives u_t_children u_t_shares u_t_kindCount u_t_lawful u_t_lawfulCount u_t_lawfulSystems u_t_judgedBy u_t_judged u_t_wheel))), (a_t_orders, .inl (cI, r_t_orders.1, .inl r_t_orders.2))]
def f_X0_listOrders_b4 (s_t_size s_t_orderCount : Int32) (r_t_orders : jA) (x1 x2 : Int32) : Option ((Int32 × Int32) ⊕ ((Int32))) :=
  if s_t_size < x2 then
  some (Sum.inr x1)
  else
  jV (x1 * x2) fun v2 =>
  some (Sum.inl (v2, (x2 + 1)))
set_option maxHeartbeats 4000000 in
set_option maxRecDepth 100000 in
theorem t_X0_listOrders_b4 {p : Program} {l : Launch} {e : Env} {s : State} {m : MethodId} {args : Array Value} {below : List Frame} {meth : Method} {c : Code} {A : Nat → Prop} {Q : State → Prop} (G : jGt) (D : va_G) (cI cB cZ : ClassId) (a_t a_t_orders : Nat) (u_t_keepers : Value) (u_t_keeperCount : Int32) (u_t_wives u_t_children u_t_shares : Value) (u_t_kindCount : Int32) (u_t_lawful : Value) (u_t_lawfulCount u_t_lawfulSystems : Int32) (u_t_judgedBy : Value) (u_t_judged : Int32) (u_t_wheel : Value) (s_t_size : Int32) (s_t_orderCount : Int32) (r_t_orders : jA) (x1 x2 : Int32) (C : jCx p s m args c cX0_listOrders 3 gX0_listOrders RX0 G D (jT cI cB cZ) A) {o : (Int32 × Int32) ⊕ ((Int32))} (hf : f_X0_listOrders_b4 s_t_size s_t_orderCount r_t_orders x1 x2 = some o) (K : (∀ z, o = Sum.inl z → ∀ (H : Heap) (locs : List Loc) (ls : Array Slot), va_P D vwCl (w_X0_listOrders cI cB cZ a_t a_t_orders u_t_keepers u_t_keeperCount u_t_wives u_t_children u_t_shares u_t_kindCount u_t_lawful u_t_lawfulCount u_t_lawfulSystems u_t_judgedBy u_t_judged u_t_wheel s_t_orderCount s_t_size r_t_orders) H → va_D A (w_X0_listOrders cI cB cZ a_t a_t_orders u_t_keepers u_t_keeperCount u_t_wives u_t_children u_t_shares u_t_kindCount u_t_lawful u_t_lawfulCount u_t_lawfulSystems u_t_judgedBy u_t_judged u_t_wheel s_t_orderCount s_t_size r_t_orders) → va_S A s.heap H locs → lv_has ls 3 [(0, .ref a_t), (1, .int z.1), (2, .int z.2)] → W p l e rX0_listOrders s m args below meth c H locs 0 0 Q (F0 m 4 ls [])) ∧ (∀ z, o = Sum.inr z → ∀ (H : Heap) (locs : List Loc) (ls : Array Slot), va_P D vwCl (w_X0_listOrders cI cB cZ a_t a_t_orders u_t_keepers u_t_keeperCount u_t_wives u_t_children u_t_shares u_t_kindCount u_t_lawful u_t_lawfulCount u_t_lawfulSystems u_t_judgedBy u_t_judged u_t_wheel s_t_orderCount s_t_size r_t_orders) H → va_D A (w_X0_listOrders cI cB cZ a_t a_t_orders u_t_keepers u_t_keeperCount u_t_wives u_t_children u_t_shares u_t_kindCount u_t_lawful u_t_lawfulCount u_t_lawfulSystems u_t_judgedBy u_t_judged u_t_wheel s_t_orderCount s_t_size r_t_orders) → va_S A s.heap H locs → lv_has ls 3 [(0, .ref a_t), (1, .int z)] → W p l e rX0_listOrders s m args below meth c H locs 0 0 Q (F0 m 22 ls []))) {H : Heap} {locs : List Loc} {ls : Array Slot} (hP : va_P D vwCl (w_X0_listOrders cI cB cZ a_t a_t_orders u_t_keepers u_t_keeperCount u_t_wives u_t_children u_t_shares u_t_kindCount u_t_lawful u_t_lawfulCount u_t_lawfulSystems u_t_judgedBy u_t_judged u_t_wheel s_t_orderCount s_t_size r_t_orders) H) (hD : va_D A (w_X0_listOrders cI cB cZ a_t a_t_orders u_t_keepers u_t_keeperCount u_t_wives u_t_children u_t_shares u_t_kindCount u_t_lawful u_t_lawfulCount u_t_lawfulSystems u_t_judgedBy u_t_judged u_t_wheel s_t_orderCount s_t_size r_t_orders)) (hS : va_S A s.heap H locs) (hl : lv_has ls 3 [(0, .ref a_t), (1, .int x1), (2, .int x2)]) : W p l e rX0_listOrders s m args below meth c H locs 0 0 Q (F0 m 4 ls []) := by
  obtain ⟨⟨hx, hb, hml, hown, hts⟩, hK, hN, hA⟩ := C
  have C : jCx p s m args c cX0_listOrders 3 gX0_listOrders RX0 G D (jT cI cB cZ) A := ⟨⟨hx, hb, hml, hown, hts⟩, hK, hN, hA⟩
  unfold f_X0_listOrders_b4 at hf
  refine lv_iload_n hx hb dX0_listOrders_4 rfl (lv_at hl 2 rfl) ?_
  refine lv_aload_n hx hb dX0_listOrders_5 rfl (lv_at hl 0 rfl) ?_
  refine va_get (D := D) (ci := 0) (v := .int s_t_size) (C := RX0) (T := TX0) (N := 15) hx hb hts iw_X0 hown hK hP 0 rfl rfl 0 (by decide) (hts _ (wG_in k_fl_X0_44 rfl)) (fun _ h9 => h9) rfl dX0_listOrders_6 ?_
  refine lv_icmp_gt (tgt := 22) hx hb dX0_listOrders_9 (by decide) (fun c1 => ?_) (fun c1 => ?_)
  · replace hf := jif_t c1 hf
    have ho := Option.some.inj hf
    exact (K.2 _ ho.symm) _ _ _ hP hD hS (lv_sub hl [0, 1] rfl)
  · replace hf := jif_f c1 hf
    refine lv_iload_n hx hb dX0_listOrders_12 rfl (lv_at hl 1 rfl) ?_
    refine lv_iload_n hx hb dX0_listOrders_13 rfl (lv_at hl 2 rfl) ?_
    refine lv_imul hx hb dX0_listOrders_14 ?_
    obtain ⟨v2, hv2, hf⟩ := jV_some hf
    refine jtop hv2 ?_
    refine lv_istore_n (lv' := [(1, .int v2), (0, .ref a_t), (2, .int x2)]) hx hb dX0_listOrders_15 rfl hl (by decide) rfl (fun ls hl => ?_)
    refine lv_iinc (v := (x2 + 1)) (lv' := [(2, .int (x2 + 1)), (1, .int v2), (0, .ref a_t)]) hx hb dX0_listOrders_16 hl (k := 2) rfl (by first | rfl | decide) (by decide) rfl (fun ls hl => ?_)
    refine lv_goto (tgt := 4) hx hb dX0_listOrders_19 (by decide) ?_
    have ho := Option.some.inj hf
    exact K.1 _ ho.symm _ _ _ hP hD hS (lv_sub hl [2, 1, 0] rfl)
def f_X0_listOrders_l4 (s_t_size s_t_orderCount : Int32) (r_t_orders : jA) (x1 x2 : Int32) : Option ((Int32)) :=
  jI (fun z => f_X0_listOrders_b4 s_t_size s_t_orderCount r_t_orders z.1 z.2) jF (x1, x2)
set_option maxHeartbeats 4000000 in
set_option maxRecDepth 100000 in
theorem t_X0_listOrders_l4 {p : Program} {l : Launch} {e : Env} {s : State} {m : MethodId} {args : Array Value} {below : List Frame} {meth : Method} {c : Code} {A : Nat → Prop} {Q : State → Prop} (G : jGt) (D : va_G) (cI cB cZ : ClassId) (a_t a_t_orders : Nat) (u_t_keepers : Value) (u_t_keeperCount : Int32) (u_t_wives u_t_children u_t_shares : Value) (u_t_kindCount : Int32) (u_t_lawful : Value) (u_t_lawfulCount u_t_lawfulSystems : Int32) (u_t_judgedBy : Value) (u_t_judged : Int32) (u_t_wheel : Value) (s_t_size : Int32) (s_t_orderCount : Int32) (r_t_orders : jA) (C : jCx p s m args c cX0_listOrders 3 gX0_listOrders RX0 G D (jT cI cB cZ) A) : ∀ (n : Nat) (x1 x2 : Int32) {eo : (Int32)}, jI (fun z => f_X0_listOrders_b4 s_t_size s_t_orderCount r_t_orders z.1 z.2) n (x1, x2) = some eo → (∀ (H : Heap) (locs : List Loc) (ls : Array Slot), va_P D vwCl (w_X0_listOrders cI cB cZ a_t a_t_orders u_t_keepers u_t_keeperCount u_t_wives u_t_children u_t_shares u_t_kindCount u_t_lawful u_t_lawfulCount u_t_lawfulSystems u_t_judgedBy u_t_judged u_t_wheel s_t_orderCount s_t_size r_t_orders) H → va_D A (w_X0_listOrders cI cB cZ a_t a_t_orders u_t_keepers u_t_keeperCount u_t_wives u_t_children u_t_shares u_t_kindCount u_t_lawful u_t_lawfulCount u_t_lawfulSystems u_t_judgedBy u_t_judged u_t_wheel s_t_orderCount s_t_size r_t_orders) → va_S A s.heap H locs → lv_has ls 3 [(0, .ref a_t), (1, .int eo)] → W p l e rX0_listOrders s m args below meth c H locs 0 0 Q (F0 m 22 ls [])) → ∀ (H : Heap) (locs : List Loc) (ls : Array Slot), va_P D vwCl (w_X0_listOrders cI cB cZ a_t a_t_orders u_t_keepers u_t_keeperCount u_t_wives u_t_children u_t_shares u_t_kindCount u_t_lawful u_t_lawfulCount u_t_lawfulSystems u_t_judgedBy u_t_judged u_t_wheel s_t_orderCount s_t_size r_t_orders) H → va_D A (w_X0_listOrders cI cB cZ a_t a_t_orders u_t_keepers u_t_keeperCount u_t_wives u_t_children u_t_shares u_t_kindCount u_t_lawful u_t_lawfulCount u_t_lawfulSystems u_t_judgedBy u_t_judged u_t_wheel s_t_orderCount s_t_size r_t_orders) → va_S A s.heap H locs → lv_has ls 3 [(0, .ref a_t), (1, .int x1), (2, .int x2)] → W p l e rX0_listOrders s m args below meth c H locs 0 0 Q (F0 m 4 ls []) := by
  intro n
  induction n with
  | zero =>
    intro x1 x2 eo hf
    exact (jI_zero hf).elim
  | succ n ih =>
    intro x1 x2 eo hf K H locs ls hP hD hS hl
    obtain ⟨o, hb1, ho⟩ := jI_some hf
    rcases ho with ⟨z, rfl, hf2⟩ | rfl
    · exact t_X0_listOrders_b4 G D cI cB cZ a_t a_t_orders u_t_keepers u_t_keeperCount u_t_wives u_t_children u_t_shares u_t_kindCount u_t_lawful u_t_lawfulCount u_t_lawfulSystems u_t_judgedBy u_t_judged u_t_wheel s_t_size s_t_orderCount r_t_orders x1 x2 C hb1 ⟨fun z2 hz H locs ls hP hD hS hl => by cases hz; exact ih z.1 z.2 hf2 K H locs ls hP hD hS hl, fun z2 hz => by cases hz⟩ hP hD hS hl
    · exact t_X0_listOrders_b4 G D cI cB cZ a_t a_t_orders u_t_keepers u_t_keeperCount u_t_wives u_t_children u_t_shares u_t_kindCount u_t_lawful u_t_lawfulCount u_t_lawfulSystems u_t_judgedBy u_t_judged u_t_wheel s_t_size s_t_orderCount r_t_orders x1 x2 C hb1 ⟨fun z2 hz => (by cases hz), fun z2 hz => by cases hz; exact K⟩ hP hD hS hl
def f_X0_listOrders_b24 (s_t_size s_t_orderCount : Int32) (r_t_orders : jA) (x1 x2 : Int32) : Option ((Int32 × jA × Int32) ⊕ ((Int32 × jA))) :=
  if x1 ≤ x2 then
  some (Sum.inr (s_t_orderCount, r_t_orders))
  else
  if (120 : Int32) ≤ x2 then
  some (Sum.inr (s_t_orderCount, r_t_orders))
  else
  jM (f_X0_orderAt s_t_size x2 x1) fun r6 =>
  jS r_t_orders x2 r6 fun q7 =>
  jV (s_t_orderCount + (1 : Int32)) fun v8 =>
  some (Sum.inl (v8, q7, (x2 + 1)))
set_option maxHeartbeats 4000000 in
set_option maxRecDepth 100000 in
theorem t_X0_listOrders_b24 {p : Program} {l : Launch} {e : Env} {s : State} {m : MethodId} {args : Array Value} {below : List Frame} {meth : Method} {c : Code} {A : Nat → Prop} {Q : State → Prop} (G : jGt) (D : va_G) (cI cB cZ : ClassId) (a_t a_t_orders : Nat) (u_t_keepers : Value) (u_t_keeperCount : Int32) (u_t_wives u_t_children u_t_shares : Value) (u_t_kindCount : Int32) (u_t_lawful : Value) (u_t_lawfulCount u_t_lawfulSystems : Int32) (u_t_judgedBy : Value) (u_t_judged : Int32) (u_t_wheel : Value) (s_t_size : Int32) (s_t_orderCount : Int32) (r_t_orders : jA) (x1 x2 : Int32) (C : jCx p s m args c cX0_listOrders 3 gX0_listOrders RX0 G D (jT cI cB cZ) A) {o : (Int32 × jA × Int32) ⊕ ((Int32 × jA))} (hf : f_X0_listOrders_b24 s_t_size s_t_orderCount r_t_orders x1 x2 = some o) (K : (∀ z, o = Sum.inl z → ∀ (H : Heap) (locs : List Loc) (ls : Array Slot), va_P D vwCl (w_X0_listOrders cI cB cZ a_t a_t_orders u_t_keepers u_t_keeperCount u_t_wives u_t_children u_t_shares u_t_kindCount u_t_lawful u_t_lawfulCount u_t_lawfulSystems u_t_judgedBy u_t_judged u_t_wheel z.1 s_t_size z.2.1) H → va_D A (w_X0_listOrders cI cB cZ a_t a_t_orders u_t_keepers u_t_keeperCount u_t_wives u_t_children u_t_shares u_t_kindCount u_t_lawful u_t_lawfulCount u_t_lawfulSystems u_t_judgedBy u_t_judged u_t_wheel z.1 s_t_size z.2.1) → va_S A s.heap H locs → lv_has ls 3 [(0, .ref a_t), (1, .int x1), (2, .int z.2.2)] → W p l e rX0_listOrders s m args below meth c H locs 0 0 Q (F0 m 24 ls [])) ∧ (∀ z, o = Sum.inr z → ∀ (H : Heap) (locs : List Loc) (ls : Array Slot), va_P D vwCl (w_X0_listOrders cI cB cZ a_t a_t_orders u_t_keepers u_t_keeperCount u_t_wives u_t_children u_t_shares u_t_kindCount u_t_lawful u_t_lawfulCount u_t_lawfulSystems u_t_judgedBy u_t_judged u_t_wheel z.1 s_t_size z.2) H → va_D A (w_X0_listOrders cI cB cZ a_t a_t_orders u_t_keepers u_t_keeperCount u_t_wives u_t_children u_t_shares u_t_kindCount u_t_lawful u_t_lawfulCount u_t_lawfulSystems u_t_judgedBy u_t_judged u_t_wheel z.1 s_t_size z.2) → va_S A s.heap H locs → lv_has ls 3 [] → W p l e rX0_listOrders s m args below meth c H locs 0 0 Q (F0 m 63 ls []))) {H : Heap} {locs : List Loc} {ls : Array Slot} (hP : va_P D vwCl (w_X0_listOrders cI cB cZ a_t a_t_orders u_t_keepers u_t_keeperCount u_t_wives u_t_children u_t_shares u_t_kindCount u_t_lawful u_t_lawfulCount u_t_lawfulSystems u_t_judgedBy u_t_judged u_t_wheel s_t_orderCount s_t_size r_t_orders) H) (hD : va_D A (w_X0_listOrders cI cB cZ a_t a_t_orders u_t_keepers u_t_keeperCount u_t_wives u_t_children u_t_shares u_t_kindCount u_t_lawful u_t_lawfulCount u_t_lawfulSystems u_t_judgedBy u_t_judged u_t_wheel s_t_orderCount s_t_size r_t_orders)) (hS : va_S A s.heap H locs) (hl : lv_has ls 3 [(0, .ref a_t), (1, .int x1), (2, .int x2)]) : W p l e rX0_listOrders s m args below meth c H locs 0 0 Q (F0 m 24 ls []) := by
  obtain ⟨⟨hx, hb, hml, hown, hts⟩, hK, hN, hA⟩ := C
  have C : jCx p s m args c cX0_listOrders 3 gX0_listOrders RX0 G D (jT cI cB cZ) A := ⟨⟨hx, hb, hml, hown, hts⟩, hK, hN, hA⟩
  unfold f_X0_listOrders_b24 at hf
  refine lv_iload_n hx hb dX0_listOrders_24 rfl (lv_at hl 2 rfl) ?_
  refine lv_iload_n hx hb dX0_listOrders_25 rfl (lv_at hl 1 rfl) ?_
  refine lv_icmp_ge (tgt := 63) hx hb dX0_listOrders_26 (by decide) (fun c4 => ?_) (fun c4 => ?_)
  · replace hf := jif_t c4 hf
    have ho := Option.some.inj hf
    exact (K.2 _ ho.symm) _ _ _ hP hD hS (lv_sub hl [] rfl)
  · replace hf := jif_f c4 hf
    refine lv_iload_n hx hb dX0_listOrders_29 rfl (lv_at hl 2 rfl) ?_
    refine lv_bipush (v := (120 : Int32)) hx hb dX0_listOrders_30 (by decide) ?_
    refine lv_icmp_ge (tgt := 63) hx hb dX0_listOrders_32 (by decide) (fun c5 => ?_) (fun c5 => ?_)
    · replace hf := jif_t c5 hf
      have ho := Option.some.inj hf
      exact (K.2 _ ho.symm) _ _ _ hP hD hS (lv_sub hl [] rfl)
    · replace hf := jif_f c5 hf
      refine lv_aload_n hx hb dX0_listOrders_35 rfl (lv_at hl 0 rfl) ?_
      refine va_get (D := D) (ci := 0) (v := .ref a_t_orders) (C := RX0) (T := TX0) (N := 15) hx hb hts iw_X0 hown hK hP 0 rfl rfl 1 (by decide) (hts _ (wG_in k_fl_X0_11 rfl)) (fun _ h9 => h9) rfl dX0_listOrders_36 ?_
      refine lv_iload_n hx hb dX0_listOrders_39 rfl (lv_at hl 2 rfl) ?_
      refine lv_aload_n hx hb dX0_listOrders_40 rfl (lv_at hl 0 rfl) ?_
      refine lv_iload_n hx hb dX0_listOrders_41 rfl (lv_at hl 2 rfl) ?_
      refine lv_iload_n hx hb dX0_listOrders_42 rfl (lv_at hl 1 rfl) ?_
      obtain ⟨r6, hgr6, hf⟩ := jM_some hf
      refine jcV_i0 (As := [.int x2, .int x1]) (rest := [.int x2, .ref a_t_orders]) ⟨hx, hb, hml, hown, hts⟩ hK hN hA (c_X0_orderAt l G D cI cB cZ a_t (.ref a_t_orders) s_t_orderCount u_t_keepers u_t_keeperCount u_t_wives u_t_children u_t_shares u_t_kindCount u_t_lawful u_t_lawfulCount u_t_lawfulSystems u_t_judgedBy u_t_judged u_t_wheel s_t_size x2 x1 hgr6) (cwV 2 hts (wG_V k_ml_X0_65 k_im_X0_orderAt k_se_X0_orderAt k_in_X0 k_co_X0_orderAt) rfl rfl rfl hd_X0_orderAt ⟨Nat.le_of_ble_eq_true rfl, Nat.le_of_ble_eq_true rfl⟩) hP hD hS [0] rfl rfl rfl (ci := 0) rfl 0 rfl rfl rfl hl.1 rfl (Nat.le_of_ble_eq_true rfl) dX0_listOrders_43 ⟨Nat.le_of_ble_eq_true rfl, Nat.le_of_ble_eq_true rfl⟩ (fun H locs hP hD hS => ?_)
      obtain ⟨q7, hq7, iq7, hf⟩ := jS_some hf
      refine ja_iast (P := r_t_orders) (P' := q7) hx hb hK hP hD hS 1 0 rfl rfl hq7 iq7 dX0_listOrders_46 (fun H locs hP hD hS => ?_)
      have hP : va_P D vwCl (w_X0_listOrders cI cB cZ a_t a_t_orders u_t_keepers u_t_keeperCount u_t_wives u_t_children u_t_shares u_t_kindCount u_t_lawful u_t_lawfulCount u_t_lawfulSystems u_t_judgedBy u_t_judged u_t_wheel s_t_orderCount s_t_size q7) H := hP
      have hD : va_D A (w_X0_listOrders cI cB cZ a_t a_t_orders u_t_keepers u_t_keeperCount u_t_wives u_t_children u_t_shares u_t_kindCount u_t_lawful u_t_lawfulCount u_t_lawfulSystems u_t_judgedBy u_t_judged u_t_wheel s_t_orderCount s_t_size q7) := hD
      refine lv_aload_n hx hb dX0_listOrders_47 rfl (lv_at hl 0 rfl) ?_
      refine lv_dup hx hb dX0_listOrders_48 rfl ?_
      refine va_get (D := D) (ci := 0) (v := .int s_t_orderCount) (C := RX0) (T := TX0) (N := 15) hx hb hts iw_X0 hown hK hP 0 rfl rfl 2 (by decide) (hts _ (wG_in k_fl_X0_51 rfl)) (fun _ h9 => h9) rfl dX0_listOrders_49 ?_
      refine lv_iconst (v := (1 : Int32)) hx hb dX0_listOrders_52 (by decide) ?_
      refine lv_iadd hx hb dX0_listOrders_53 ?_
      obtain ⟨v8, hv8, hf⟩ := jV_some hf
      refine jtop hv8 ?_
      refine va_put (D := D) (ci := 0) (v := .int v8) (ty := .int) (C := RX0) (T := TX0) (N := 15) hx hb hts iw_X0 tyX0 tyX0_ok nmX0 hown hK hP hD hS 0 rfl rfl 2 (by decide) (hts _ (wG_in k_fl_X0_51 rfl)) (fun _ h9 => h9) rfl (tyX0_ok 2 (by decide)) rfl rfl (Nat.le_of_ble_eq_true rfl) dX0_listOrders_54 (fun H locs hP hD hS => ?_)
      have hP : va_P D vwCl (w_X0_listOrders cI cB cZ a_t a_t_orders u_t_keepers u_t_keeperCount u_t_wives u_t_children u_t_shares u_t_kindCount u_t_lawful u_t_lawfulCount u_t_lawfulSystems u_t_judgedBy u_t_judged u_t_wheel v8 s_t_size q7) H := hP
      have hD : va_D A (w_X0_listOrders cI cB cZ a_t a_t_orders u_t_keepers u_t_keeperCount u_t_wives u_t_children u_t_shares u_t_kindCount u_t_lawful u_t_lawfulCount u_t_lawfulSystems u_t_judgedBy u_t_judged u_t_wheel v8 s_t_size q7) := hD
      refine lv_iinc (v := (x2 + 1)) (lv' := [(2, .int (x2 + 1)), (0, .ref a_t), (1, .int x1)]) hx hb dX0_listOrders_57 hl (k := 2) rfl (by first | rfl | decide) (by decide) rfl (fun ls hl => ?_)
      refine lv_goto (tgt := 24) hx hb dX0_listOrders_60 (by decide) ?_
      have ho := Option.some.inj hf
      exact K.1 _ ho.symm _ _ _ hP hD hS (lv_sub hl [1, 2, 0] rfl)
def f_X0_listOrders_l24 (s_t_size x1 s_t_orderCount : Int32) (r_t_orders : jA) (x2 : Int32) : Option ((Int32 × jA)) :=
  jI (fun z => f_X0_listOrders_b24 s_t_size z.1 z.2.1 x1 z.2.2) jF (s_t_orderCount, r_t_orders, x2)
set_option maxHeartbeats 4000000 in
set_option maxRecDepth 100000 in
theorem t_X0_listOrders_l24 {p : Program} {l : Launch} {e : Env} {s : State} {m : MethodId} {args : Array Value} {below : List Frame} {meth : Method} {c : Code} {A : Nat → Prop} {Q : State → Prop} (G : jGt) (D : va_G) (cI cB cZ : ClassId) (a_t a_t_orders : Nat) (u_t_keepers : Value) (u_t_keeperCount : Int32) (u_t_wives u_t_children u_t_shares : Value) (u_t_kindCount : Int32) (u_t_lawful : Value) (u_t_lawfulCount u_t_lawfulSystems : Int32) (u_t_judgedBy : Value) (u_t_judged : Int32) (u_t_wheel : Value) (s_t_size : Int32) (x1 : Int32) (C : jCx p s m args c cX0_listOrders 3 gX0_listOrders RX0 G D (jT cI cB cZ) A) : ∀ (n : Nat) (s_t_orderCount : Int32) (r_t_orders : jA) (x2 : Int32) {eo : (Int32 × jA)}, jI (fun z => f_X0_listOrders_b24 s_t_size z.1 z.2.1 x1 z.2.2) n (s_t_orderCount, r_t_orders, x2) = some eo → (∀ (H : Heap) (locs : List Loc) (ls : Array Slot), va_P D vwCl (w_X0_listOrders cI cB cZ a_t a_t_orders u_t_keepers u_t_keeperCount u_t_wives u_t_children u_t_shares u_t_kindCount u_t_lawful u_t_lawfulCount u_t_lawfulSystems u_t_judgedBy u_t_judged u_t_wheel eo.1 s_t_size eo.2) H → va_D A (w_X0_listOrders cI cB cZ a_t a_t_orders u_t_keepers u_t_keeperCount u_t_wives u_t_children u_t_shares u_t_kindCount u_t_lawful u_t_lawfulCount u_t_lawfulSystems u_t_judgedBy u_t_judged u_t_wheel eo.1 s_t_size eo.2) → va_S A s.heap H locs → lv_has ls 3 [] → W p l e rX0_listOrders s m args below meth c H locs 0 0 Q (F0 m 63 ls [])) → ∀ (H : Heap) (locs : List Loc) (ls : Array Slot), va_P D vwCl (w_X0_listOrders cI cB cZ a_t a_t_orders u_t_keepers u_t_keeperCount u_t_wives u_t_children u_t_shares u_t_kindCount u_t_lawful u_t_lawfulCount u_t_lawfulSystems u_t_judgedBy u_t_judged u_t_wheel s_t_orderCount s_t_size r_t_orders) H → va_D A (w_X0_listOrders cI cB cZ a_t a_t_orders u_t_keepers u_t_keeperCount u_t_wives u_t_children u_t_shares u_t_kindCount u_t_lawful u_t_lawfulCount u_t_lawfulSystems u_t_judgedBy u_t_judged u_t_wheel s_t_orderCount s_t_size r_t_orders) → va_S A s.heap H locs → lv_has ls 3 [(0, .ref a_t), (1, .int x1), (2, .int x2)] → W p l e rX0_listOrders s m args below meth c H locs 0 0 Q (F0 m 24 ls []) := by
  intro n
  induction n with
  | zero =>
    intro s_t_orderCount r_t_orders x2 eo hf
    exact (jI_zero hf).elim
  | succ n ih =>
    intro s_t_orderCount r_t_orders x2 eo hf K H locs ls hP hD hS hl
    obtain ⟨o, hb1, ho⟩ := jI_some hf
    rcases ho with ⟨z, rfl, hf2⟩ | rfl
    · exact t_X0_listOrders_b24 G D cI cB cZ a_t a_t_orders u_t_keepers u_t_keeperCount u_t_wives u_t_children u_t_shares u_t_kindCount u_t_lawful u_t_lawfulCount u_t_lawfulSystems u_t_judgedBy u_t_judged u_t_wheel s_t_size s_t_orderCount r_t_orders x1 x2 C hb1 ⟨fun z2 hz H locs ls hP hD hS hl => by cases hz; exact ih z.1 z.2.1 z.2.2 hf2 K H locs ls hP hD hS hl, fun z2 hz => by cases hz⟩ hP hD hS hl
    · exact t_X0_listOrders_b24 G D cI cB cZ a_t a_t_orders u_t_keepers u_t_keeperCount u_t_wives u_t_children u_t_shares u_t_kindCount u_t_lawful u_t_lawfulCount u_t_lawfulSystems u_t_judgedBy u_t_judged u_t_wheel s_t_size s_t_orderCount r_t_orders x1 x2 C hb1 ⟨fun z2 hz => (by cases hz), fun z2 hz => by cases hz; exact K⟩ hP hD hS hl
def f_X0_listOrders (s_t_size s_t_orderCount : Int32) (r_t_orders : jA) : Option (Int32 × jA) :=
  jM (f_X0_listOrders_l4 s_t_size s_t_orderCount r_t_orders (1 : Int32) (2 : Int32)) fun e3 =>
  jM (f_X0_listOrders_l24 s_t_size e3 s_t_orderCount r_t_orders (0 : Int32)) fun e9 =>
  some (e9.1, e9.2)
set_option maxHeartbeats 4000000 in
set_option maxRecDepth 100000 in
theorem t_X0_listOrders {p : Program} {l : Launch} {e : Env} {s : State} {m : MethodId} {args : Array Value} {below : List Frame} {meth : Method} {c : Code} {A : Nat → Prop} {Q : State → Prop} (G : jGt) (D : va_G) (cI cB cZ : ClassId) (a_t a_t_orders : Nat) (u_t_keepers : Value) (u_t_keeperCount : Int32) (u_t_wives u_t_children u_t_shares : Value) (u_t_kindCount : Int32) (u_t_lawful : Value) (u_t_lawfulCount u_t_lawfulSystems : Int32) (u_t_judgedBy : Value) (u_t_judged : Int32) (u_t_wheel : Value) (s_t_size : Int32) (s_t_orderCount : Int32) (r_t_orders : jA) (C : jCx p s m args c cX0_listOrders 3 gX0_listOrders RX0 G D (jT cI cB cZ) A) {o : Int32 × jA} (hf : f_X0_listOrders s_t_size s_t_orderCount r_t_orders = some o) (K : ∀ (H : Heap) (locs : List Loc) (pc : Nat) (ls : Array Slot), va_P D vwCl (w_X0_listOrders cI cB cZ a_t a_t_orders u_t_keepers u_t_keeperCount u_t_wives u_t_children u_t_shares u_t_kindCount u_t_lawful u_t_lawfulCount u_t_lawfulSystems u_t_judgedBy u_t_judged u_t_wheel o.1 s_t_size o.2) H → va_S A s.heap H locs → decode cX0_listOrders pc = .ok (.return_, 1) → W p l e rX0_listOrders s m args below meth c H locs 0 0 Q (F0 m pc ls [])) {H : Heap} {locs : List Loc} {ls : Array Slot} (hP : va_P D vwCl (w_X0_listOrders cI cB cZ a_t a_t_orders u_t_keepers u_t_keeperCount u_t_wives u_t_children u_t_shares u_t_kindCount u_t_lawful u_t_lawfulCount u_t_lawfulSystems u_t_judgedBy u_t_judged u_t_wheel s_t_orderCount s_t_size r_t_orders) H) (hD : va_D A (w_X0_listOrders cI cB cZ a_t a_t_orders u_t_keepers u_t_keeperCount u_t_wives u_t_children u_t_shares u_t_kindCount u_t_lawful u_t_lawfulCount u_t_lawfulSystems u_t_judgedBy u_t_judged u_t_wheel s_t_orderCount s_t_size r_t_orders)) (hS : va_S A s.heap H locs) (hl : lv_has ls 3 [(0, .ref a_t)]) : W p l e rX0_listOrders s m args below meth c H locs 0 0 Q (F0 m 0 ls []) := by
  obtain ⟨⟨hx, hb, hml, hown, hts⟩, hK, hN, hA⟩ := C
  have C : jCx p s m args c cX0_listOrders 3 gX0_listOrders RX0 G D (jT cI cB cZ) A := ⟨⟨hx, hb, hml, hown, hts⟩, hK, hN, hA⟩
  unfold f_X0_listOrders at hf
  refine lv_iconst (v := (1 : Int32)) hx hb dX0_listOrders_0 (by decide) ?_
  refine lv_istore_n (lv' := [(1, .int (1 : Int32)), (0, .ref a_t)]) hx hb dX0_listOrders_1 rfl hl (by decide) rfl (fun ls hl => ?_)
  refine lv_iconst (v := (2 : Int32)) hx hb dX0_listOrders_2 (by decide) ?_
  refine lv_istore_n (lv' := [(2, .int (2 : Int32)), (1, .int (1 : Int32)), (0, .ref a_t)]) hx hb dX0_listOrders_3 rfl hl (by decide) rfl (fun ls hl => ?_)
  obtain ⟨e3, hg3, hf⟩ := jM_some hf
  refine t_X0_listOrders_l4 G D cI cB cZ a_t a_t_orders u_t_keepers u_t_keeperCount u_t_wives u_t_children u_t_shares u_t_kindCount u_t_lawful u_t_lawfulCount u_t_lawfulSystems u_t_judgedBy u_t_judged u_t_wheel s_t_size s_t_orderCount r_t_orders C jF (1 : Int32) (2 : Int32) hg3 ?_ _ _ _ hP hD hS (lv_sub hl [2, 1, 0] rfl)
  intro H locs ls hP hD hS hl
  refine lv_iconst (v := (0 : Int32)) hx hb dX0_listOrders_22 (by decide) ?_
  refine lv_istore_n (lv' := [(2, .int (0 : Int32)), (0, .ref a_t), (1, .int e3)]) hx hb dX0_listOrders_23 rfl hl (by decide) rfl (fun ls hl => ?_)
  obtain ⟨e9, hg9, hf⟩ := jM_some hf
  refine t_X0_listOrders_l24 G D cI cB cZ a_t a_t_orders u_t_keepers u_t_keeperCount u_t_wives u_t_children u_t_shares u_t_kindCount u_t_lawful u_t_lawfulCount u_t_lawfulSystems u_t_judgedBy u_t_judged u_t_wheel s_t_size e3 C jF s_t_orderCount r_t_orders (0 : Int32) hg9 ?_ _ _ _ hP hD hS (lv_sub hl [1, 2, 0] rfl)
  intro H locs ls hP hD hS hl
  have ho := Option.some.inj hf
  subst ho
  exact K _ _ _ _ hP hS dX0_listOrders_63
set_option maxHeartbeats 4000000 in
set_option maxRecDepth 100000 in
theorem c_X0_listOrders (l : Launch) (G : jGt) (D : va_G) (cI cB cZ : ClassId) (a_t a_t_orders : Nat) (u_t_keepers : Value) (u_t_keeperCount : Int32) (u_t_wives u_t_children u_t_shares : Value) (u_t_kindCount : Int32) (u_t_lawful : Value) (u_t_lawfulCount u_t_lawfulSystems : Int32) (u_t_judgedBy : Value) (u_t_judged : Int32) (u_t_wheel : Value) (s_t_size : Int32) (s_t_orderCount : Int32) (r_t_orders : jA) {o : Int32 × jA} (hf : f_X0_listOrders s_t_size s_t_orderCount r_t_orders = some o) : jMv l yX0_listOrders gX0_listOrders rX0_listOrders G D (jT cI cB cZ) [.ref a_t] (w_X0_listOrders cI cB cZ a_t a_t_orders u_t_keepers u_t_keeperCount u_t_wives u_t_children u_t_shares u_t_kindCount u_t_lawful u_t_lawfulCount u_t_lawfulSystems u_t_judgedBy u_t_judged u_t_wheel s_t_orderCount s_t_size r_t_orders) (w_X0_listOrders cI cB cZ a_t a_t_orders u_t_keepers u_t_keeperCount u_t_wives u_t_children u_t_shares u_t_kindCount u_t_lawful u_t_lawfulCount u_t_lawfulSystems u_t_judgedBy u_t_judged u_t_wheel o.1 s_t_size o.2) := by
  refine jmk_v RX0 rfl (by decide +kernel) rfl (Nat.le_of_ble_eq_true rfl) rfl ?_
  intro p e s m args below meth c ls A Q C hP hD hS hl K
  exact t_X0_listOrders G D cI cB cZ a_t a_t_orders u_t_keepers u_t_keeperCount u_t_wives u_t_children u_t_shares u_t_kindCount u_t_lawful u_t_lawfulCount u_t_lawfulSystems u_t_judgedBy u_t_judged u_t_wheel s_t_size s_t_orderCount r_t_orders C hf K hP hD hS hl
abbrev rX0_numberAt : Room := { frames := 0, cells := 0, slots := 0, locals := 0 }
abbrev gX0_numberAt : List Cond := wG yX0_numberAt cX0_numberAt 3 (some .int)
def f_X0_numberAt (x0 x1 x2 : Int32) : Option (Int32) :=
  some ((x1 >>> (((3 : Int32) * ((x0 - (1 : Int32)) - x2)) &&& 31)) &&& (7 : Int32))
set_option maxHeartbeats 4000000 in
set_option maxRecDepth 100000 in
theorem t_X0_numberAt {p : Program} {l : Launch} {e : Env} {s : State} {m : MethodId} {args : Array Value} {below : List Frame} {meth : Method} {c : Code} {A : Nat → Prop} {Q : State → Prop} (G : jGt) (D : va_G) (cI cB cZ : ClassId) (x0 x1 x2 : Int32) (C : jCx p s m args c cX0_numberAt 3 gX0_numberAt RX0 G D (jT cI cB cZ) A) {o : Int32} (hf : f_X0_numberAt x0 x1 x2 = some o) (K : ∀ (H : Heap) (locs : List Loc) (pc : Nat) (ls : Array Slot), va_P D vwCl [] H → va_S A s.heap H locs → decode cX0_numberAt pc = .ok (.ireturn, 1) → W p l e rX0_numberAt s m args below meth c H locs 0 0 Q (F0 m pc ls [.int o])) {H : Heap} {locs : List Loc} {ls : Array Slot} (hP : va_P D vwCl [] H) (hD : va_D A []) (hS : va_S A s.heap H locs) (hl : lv_has ls 3 [(0, .int x0), (1, .int x1), (2, .int x2)]) : W p l e rX0_numberAt s m args below meth c H locs 0 0 Q (F0 m 0 ls []) := by
  obtain ⟨⟨hx, hb, hml, hown, hts⟩, hK, hN, hA⟩ := C
  have C : jCx p s m args c cX0_numberAt 3 gX0_numberAt RX0 G D (jT cI cB cZ) A := ⟨⟨hx, hb, hml, hown, hts⟩, hK, hN, hA⟩
  unfold f_X0_numberAt at hf
  refine lv_iload_n hx hb dX0_numberAt_0 rfl (lv_at hl 1 rfl) ?_
  refine lv_iconst (v := (3 : Int32)) hx hb dX0_numberAt_1 (by decide) ?_
  refine lv_iload_n hx hb dX0_numberAt_2 rfl (lv_at hl 0 rfl) ?_
  refine lv_iconst (v := (1 : Int32)) hx hb dX0_numberAt_3 (by decide) ?_
  refine lv_isub hx hb dX0_numberAt_4 ?_
  refine lv_iload_n hx hb dX0_numberAt_5 rfl (lv_at hl 2 rfl) ?_
  refine lv_isub hx hb dX0_numberAt_6 ?_
  refine lv_imul hx hb dX0_numberAt_7 ?_
  refine lv_ishr hx hb dX0_numberAt_8 ?_
  refine lv_bipush (v := (7 : Int32)) hx hb dX0_numberAt_9 (by decide) ?_
  refine lv_iand hx hb dX0_numberAt_11 ?_
  have ho := Option.some.inj hf
  subst ho
  exact K _ _ _ _ hP hS dX0_numberAt_12
set_option maxHeartbeats 4000000 in
set_option maxRecDepth 100000 in
theorem c_X0_numberAt (l : Launch) (G : jGt) (D : va_G) (cI cB cZ : ClassId) (x0 x1 x2 : Int32) {o : Int32} (hf : f_X0_numberAt x0 x1 x2 = some o) : jMi l yX0_numberAt gX0_numberAt rX0_numberAt G D (jT cI cB cZ) [.int x0, .int x1, .int x2] [] [] o := by
  refine jmk_i RX0 rfl (by decide +kernel) rfl (Nat.le_of_ble_eq_true rfl) rfl ?_
  intro p e s m args below meth c ls A Q C hP hD hS hl K
  exact t_X0_numberAt G D cI cB cZ x0 x1 x2 C hf K hP hD hS hl
abbrev rX0_movesAll : Room := { frames := 1, cells := 0, slots := 0, locals := 22 }
abbrev gX0_movesAll : List Cond := wG yX0_movesAll cX0_movesAll 3 (some .boolean)
def w_X0_movesAll (cI cB cZ : ClassId) (a_t : Nat) (u_t_orders : Value) (u_t_orderCount : Int32) (u_t_keepers : Value) (u_t_keeperCount : Int32) (u_t_wives u_t_children u_t_shares : Value) (u_t_kindCount : Int32) (u_t_lawful : Value) (u_t_lawfulCount u_t_lawfulSystems : Int32) (u_t_judgedBy : Value) (u_t_judged : Int32) (u_t_wheel : Value) (s_t_size : Int32) : va_W := [(a_t, .inr (0, (oX0 s_t_size u_t_orders u_t_orderCount u_t_keepers u_t_keeperCount u_t_wives u_t_children u_t_shares u_t_kindCount u_t_lawful u_t_lawfulCount u_t_lawfulSystems u_t_judgedBy u_t_judged u_t_wheel)))]
def f_X0_movesAll_b2 (s_t_size x1 x2 : Int32) : Option ((Int32) ⊕ ((Unit) ⊕ ((Unit)))) :=
  if s_t_size ≤ x2 then
  some (Sum.inr (Sum.inr ()))
  else
  jM (f_X0_numberAt s_t_size x1 x2) fun r2 =>
  if r2 = x2 then
  some (Sum.inr (Sum.inl ()))
  else
  some (Sum.inl (x2 + 1))
set_option maxHeartbeats 4000000 in
set_option maxRecDepth 100000 in
theorem t_X0_movesAll_b2 {p : Program} {l : Launch} {e : Env} {s : State} {m : MethodId} {args : Array Value} {below : List Frame} {meth : Method} {c : Code} {A : Nat → Prop} {Q : State → Prop} (G : jGt) (D : va_G) (cI cB cZ : ClassId) (a_t : Nat) (u_t_orders : Value) (u_t_orderCount : Int32) (u_t_keepers : Value) (u_t_keeperCount : Int32) (u_t_wives u_t_children u_t_shares : Value) (u_t_kindCount : Int32) (u_t_lawful : Value) (u_t_lawfulCount u_t_lawfulSystems : Int32) (u_t_judgedBy : Value) (u_t_judged : Int32) (u_t_wheel : Value) (s_t_size : Int32) (x1 x2 : Int32) (C : jCx p s m args c cX0_movesAll 3 gX0_movesAll RX0 G D (jT cI cB cZ) A) {o : (Int32) ⊕ ((Unit) ⊕ ((Unit)))} (hf : f_X0_movesAll_b2 s_t_size x1 x2 = some o) (K : (∀ z, o = Sum.inl z → ∀ (H : Heap) (locs : List Loc) (ls : Array Slot), va_P D vwCl (w_X0_movesAll cI cB cZ a_t u_t_orders u_t_orderCount u_t_keepers u_t_keeperCount u_t_wives u_t_children u_t_shares u_t_kindCount u_t_lawful u_t_lawfulCount u_t_lawfulSystems u_t_judgedBy u_t_judged u_t_wheel s_t_size) H → va_D A (w_X0_movesAll cI cB cZ a_t u_t_orders u_t_orderCount u_t_keepers u_t_keeperCount u_t_wives u_t_children u_t_shares u_t_kindCount u_t_lawful u_t_lawfulCount u_t_lawfulSystems u_t_judgedBy u_t_judged u_t_wheel s_t_size) → va_S A s.heap H locs → lv_has ls 3 [(0, .ref a_t), (1, .int x1), (2, .int z)] → W p l e rX0_movesAll s m args below meth c H locs 0 0 Q (F0 m 2 ls [])) ∧ (∀ z, o = Sum.inr z → (∀ y0, z = Sum.inl y0 → ∀ (H : Heap) (locs : List Loc) (ls : Array Slot), va_P D vwCl (w_X0_movesAll cI cB cZ a_t u_t_orders u_t_orderCount u_t_keepers u_t_keeperCount u_t_wives u_t_children u_t_shares u_t_kindCount u_t_lawful u_t_lawfulCount u_t_lawfulSystems u_t_judgedBy u_t_judged u_t_wheel s_t_size) H → va_D A (w_X0_movesAll cI cB cZ a_t u_t_orders u_t_orderCount u_t_keepers u_t_keeperCount u_t_wives u_t_children u_t_shares u_t_kindCount u_t_lawful u_t_lawfulCount u_t_lawfulSystems u_t_judgedBy u_t_judged u_t_wheel s_t_size) → va_S A s.heap H locs → lv_has ls 3 [] → W p l e rX0_movesAll s m args below meth c H locs 0 0 Q (F0 m 23 ls [])) ∧ (∀ z0, z = Sum.inr z0 → ∀ (H : Heap) (locs : List Loc) (ls : Array Slot), va_P D vwCl (w_X0_movesAll cI cB cZ a_t u_t_orders u_t_orderCount u_t_keepers u_t_keeperCount u_t_wives u_t_children u_t_shares u_t_kindCount u_t_lawful u_t_lawfulCount u_t_lawfulSystems u_t_judgedBy u_t_judged u_t_wheel s_t_size) H → va_D A (w_X0_movesAll cI cB cZ a_t u_t_orders u_t_orderCount u_t_keepers u_t_keeperCount u_t_wives u_t_children u_t_shares u_t_kindCount u_t_lawful u_t_lawfulCount u_t_lawfulSystems u_t_judgedBy u_t_judged u_t_wheel s_t_size) → va_S A s.heap H locs → lv_has ls 3 [] → W p l e rX0_movesAll s m args below meth c H locs 0 0 Q (F0 m 31 ls [])))) {H : Heap} {locs : List Loc} {ls : Array Slot} (hP : va_P D vwCl (w_X0_movesAll cI cB cZ a_t u_t_orders u_t_orderCount u_t_keepers u_t_keeperCount u_t_wives u_t_children u_t_shares u_t_kindCount u_t_lawful u_t_lawfulCount u_t_lawfulSystems u_t_judgedBy u_t_judged u_t_wheel s_t_size) H) (hD : va_D A (w_X0_movesAll cI cB cZ a_t u_t_orders u_t_orderCount u_t_keepers u_t_keeperCount u_t_wives u_t_children u_t_shares u_t_kindCount u_t_lawful u_t_lawfulCount u_t_lawfulSystems u_t_judgedBy u_t_judged u_t_wheel s_t_size)) (hS : va_S A s.heap H locs) (hl : lv_has ls 3 [(0, .ref a_t), (1, .int x1), (2, .int x2)]) : W p l e rX0_movesAll s m args below meth c H locs 0 0 Q (F0 m 2 ls []) := by
  obtain ⟨⟨hx, hb, hml, hown, hts⟩, hK, hN, hA⟩ := C
  have C : jCx p s m args c cX0_movesAll 3 gX0_movesAll RX0 G D (jT cI cB cZ) A := ⟨⟨hx, hb, hml, hown, hts⟩, hK, hN, hA⟩
  unfold f_X0_movesAll_b2 at hf
  refine lv_iload_n hx hb dX0_movesAll_2 rfl (lv_at hl 2 rfl) ?_
  refine lv_aload_n hx hb dX0_movesAll_3 rfl (lv_at hl 0 rfl) ?_
  refine va_get (D := D) (ci := 0) (v := .int s_t_size) (C := RX0) (T := TX0) (N := 15) hx hb hts iw_X0 hown hK hP 0 rfl rfl 0 (by decide) (hts _ (wG_in k_fl_X0_44 rfl)) (fun _ h9 => h9) rfl dX0_movesAll_4 ?_
  refine lv_icmp_ge (tgt := 31) hx hb dX0_movesAll_7 (by decide) (fun c1 => ?_) (fun c1 => ?_)
  · replace hf := jif_t c1 hf
    have ho := Option.some.inj hf
    exact ((K.2 _ ho.symm).2 _ rfl) _ _ _ hP hD hS (lv_sub hl [] rfl)
  · replace hf := jif_f c1 hf
    refine lv_aload_n hx hb dX0_movesAll_10 rfl (lv_at hl 0 rfl) ?_
    refine va_get (D := D) (ci := 0) (v := .int s_t_size) (C := RX0) (T := TX0) (N := 15) hx hb hts iw_X0 hown hK hP 0 rfl rfl 0 (by decide) (hts _ (wG_in k_fl_X0_44 rfl)) (fun _ h9 => h9) rfl dX0_movesAll_11 ?_
    refine lv_iload_n hx hb dX0_movesAll_14 rfl (lv_at hl 1 rfl) ?_
    refine lv_iload_n hx hb dX0_movesAll_15 rfl (lv_at hl 2 rfl) ?_
    obtain ⟨r2, hgr2, hf⟩ := jM_some hf
    refine jcS_i0 (As := [.int s_t_size, .int x1, .int x2]) (rest := []) ⟨hx, hb, hml, hown, hts⟩ hK hN hA (c_X0_numberAt l G D cI cB cZ s_t_size x1 x2 hgr2) (va_cwS 3 hts (wG_S k_ml_X0_72 k_st_X0_numberAt k_in_X0 k_co_X0_numberAt) rfl rfl rfl hd_X0_numberAt.2 ⟨Nat.le_of_ble_eq_true rfl, Nat.le_of_ble_eq_true rfl⟩) hP hD hS [] rfl rfl rfl rfl hl.1 rfl (Nat.le_of_ble_eq_true rfl) dX0_movesAll_16 ⟨Nat.le_of_ble_eq_true rfl, Nat.le_of_ble_eq_true rfl⟩ (fun H locs hP hD hS => ?_)
    refine lv_iload_n hx hb dX0_movesAll_19 rfl (lv_at hl 2 rfl) ?_
    refine lv_icmp_ne (tgt := 25) hx hb dX0_movesAll_20 (by decide) (fun c3 => ?_) (fun c3 => ?_)
    · replace hf := jif_f c3 hf
      refine lv_iinc (v := (x2 + 1)) (lv' := [(2, .int (x2 + 1)), (0, .ref a_t), (1, .int x1)]) hx hb dX0_movesAll_25 hl (k := 2) rfl (by first | rfl | decide) (by decide) rfl (fun ls hl => ?_)
      refine lv_goto (tgt := 2) hx hb dX0_movesAll_28 (by decide) ?_
      have ho := Option.some.inj hf
      exact K.1 _ ho.symm _ _ _ hP hD hS (lv_sub hl [1, 2, 0] rfl)
    · replace hf := jif_t c3 hf
      have ho := Option.some.inj hf
      exact ((K.2 _ ho.symm).1 _ rfl) _ _ _ hP hD hS (lv_sub hl [] rfl)
def f_X0_movesAll_l2 (s_t_size x1 x2 : Int32) : Option ((Unit) ⊕ ((Unit))) :=
  jI (fun z => f_X0_movesAll_b2 s_t_size x1 z) jF x2
set_option maxHeartbeats 4000000 in
set_option maxRecDepth 100000 in
theorem t_X0_movesAll_l2 {p : Program} {l : Launch} {e : Env} {s : State} {m : MethodId} {args : Array Value} {below : List Frame} {meth : Method} {c : Code} {A : Nat → Prop} {Q : State → Prop} (G : jGt) (D : va_G) (cI cB cZ : ClassId) (a_t : Nat) (u_t_orders : Value) (u_t_orderCount : Int32) (u_t_keepers : Value) (u_t_keeperCount : Int32) (u_t_wives u_t_children u_t_shares : Value) (u_t_kindCount : Int32) (u_t_lawful : Value) (u_t_lawfulCount u_t_lawfulSystems : Int32) (u_t_judgedBy : Value) (u_t_judged : Int32) (u_t_wheel : Value) (s_t_size : Int32) (x1 : Int32) (C : jCx p s m args c cX0_movesAll 3 gX0_movesAll RX0 G D (jT cI cB cZ) A) : ∀ (n : Nat) (x2 : Int32) {eo : (Unit) ⊕ ((Unit))}, jI (fun z => f_X0_movesAll_b2 s_t_size x1 z) n x2 = some eo → ((∀ y0, eo = Sum.inl y0 → ∀ (H : Heap) (locs : List Loc) (ls : Array Slot), va_P D vwCl (w_X0_movesAll cI cB cZ a_t u_t_orders u_t_orderCount u_t_keepers u_t_keeperCount u_t_wives u_t_children u_t_shares u_t_kindCount u_t_lawful u_t_lawfulCount u_t_lawfulSystems u_t_judgedBy u_t_judged u_t_wheel s_t_size) H → va_D A (w_X0_movesAll cI cB cZ a_t u_t_orders u_t_orderCount u_t_keepers u_t_keeperCount u_t_wives u_t_children u_t_shares u_t_kindCount u_t_lawful u_t_lawfulCount u_t_lawfulSystems u_t_judgedBy u_t_judged u_t_wheel s_t_size) → va_S A s.heap H locs → lv_has ls 3 [] → W p l e rX0_movesAll s m args below meth c H locs 0 0 Q (F0 m 23 ls [])) ∧ (∀ z0, eo = Sum.inr z0 → ∀ (H : Heap) (locs : List Loc) (ls : Array Slot), va_P D vwCl (w_X0_movesAll cI cB cZ a_t u_t_orders u_t_orderCount u_t_keepers u_t_keeperCount u_t_wives u_t_children u_t_shares u_t_kindCount u_t_lawful u_t_lawfulCount u_t_lawfulSystems u_t_judgedBy u_t_judged u_t_wheel s_t_size) H → va_D A (w_X0_movesAll cI cB cZ a_t u_t_orders u_t_orderCount u_t_keepers u_t_keeperCount u_t_wives u_t_children u_t_shares u_t_kindCount u_t_lawful u_t_lawfulCount u_t_lawfulSystems u_t_judgedBy u_t_judged u_t_wheel s_t_size) → va_S A s.heap H locs → lv_has ls 3 [] → W p l e rX0_movesAll s m args below meth c H locs 0 0 Q (F0 m 31 ls []))) → ∀ (H : Heap) (locs : List Loc) (ls : Array Slot), va_P D vwCl (w_X0_movesAll cI cB cZ a_t u_t_orders u_t_orderCount u_t_keepers u_t_keeperCount u_t_wives u_t_children u_t_shares u_t_kindCount u_t_lawful u_t_lawfulCount u_t_lawfulSystems u_t_judgedBy u_t_judged u_t_wheel s_t_size) H → va_D A (w_X0_movesAll cI cB cZ a_t u_t_orders u_t_orderCount u_t_keepers u_t_keeperCount u_t_wives u_t_children u_t_shares u_t_kindCount u_t_lawful u_t_lawfulCount u_t_lawfulSystems u_t_judgedBy u_t_judged u_t_wheel s_t_size) → va_S A s.heap H locs → lv_has ls 3 [(0, .ref a_t), (1, .int x1), (2, .int x2)] → W p l e rX0_movesAll s m args below meth c H locs 0 0 Q (F0 m 2 ls []) := by
  intro n
  induction n with
  | zero =>
    intro x2 eo hf
    exact (jI_zero hf).elim
  | succ n ih =>
    intro x2 eo hf K H locs ls hP hD hS hl
    obtain ⟨o, hb1, ho⟩ := jI_some hf
    rcases ho with ⟨z, rfl, hf2⟩ | rfl
    · exact t_X0_movesAll_b2 G D cI cB cZ a_t u_t_orders u_t_orderCount u_t_keepers u_t_keeperCount u_t_wives u_t_children u_t_shares u_t_kindCount u_t_lawful u_t_lawfulCount u_t_lawfulSystems u_t_judgedBy u_t_judged u_t_wheel s_t_size x1 x2 C hb1 ⟨fun z2 hz H locs ls hP hD hS hl => by cases hz; exact ih z hf2 K H locs ls hP hD hS hl, fun z2 hz => by cases hz⟩ hP hD hS hl
    · exact t_X0_movesAll_b2 G D cI cB cZ a_t u_t_orders u_t_orderCount u_t_keepers u_t_keeperCount u_t_wives u_t_children u_t_shares u_t_kindCount u_t_lawful u_t_lawfulCount u_t_lawfulSystems u_t_judgedBy u_t_judged u_t_wheel s_t_size x1 x2 C hb1 ⟨fun z2 hz => (by cases hz), fun z2 hz => by cases hz; exact K⟩ hP hD hS hl
def f_X0_movesAll (s_t_size x1 : Int32) : Option (Int32) :=
  jM (f_X0_movesAll_l2 s_t_size x1 (0 : Int32)) fun e4 =>
  Sum.elim (fun y5 =>
  some (0 : Int32)) (fun w6 =>
  some (1 : Int32)) e4
set_option maxHeartbeats 4000000 in
set_option maxRecDepth 100000 in
theorem t_X0_movesAll {p : Program} {l : Launch} {e : Env} {s : State} {m : MethodId} {args : Array Value} {below : List Frame} {meth : Method} {c : Code} {A : Nat → Prop} {Q : State → Prop} (G : jGt) (D : va_G) (cI cB cZ : ClassId) (a_t : Nat) (u_t_orders : Value) (u_t_orderCount : Int32) (u_t_keepers : Value) (u_t_keeperCount : Int32) (u_t_wives u_t_children u_t_shares : Value) (u_t_kindCount : Int32) (u_t_lawful : Value) (u_t_lawfulCount u_t_lawfulSystems : Int32) (u_t_judgedBy : Value) (u_t_judged : Int32) (u_t_wheel : Value) (s_t_size : Int32) (x1 : Int32) (C : jCx p s m args c cX0_movesAll 3 gX0_movesAll RX0 G D (jT cI cB cZ) A) {o : Int32} (hf : f_X0_movesAll s_t_size x1 = some o) (K : ∀ (H : Heap) (locs : List Loc) (pc : Nat) (ls : Array Slot), (o = 0 ∨ o = 1) → va_P D vwCl (w_X0_movesAll cI cB cZ a_t u_t_orders u_t_orderCount u_t_keepers u_t_keeperCount u_t_wives u_t_children u_t_shares u_t_kindCount u_t_lawful u_t_lawfulCount u_t_lawfulSystems u_t_judgedBy u_t_judged u_t_wheel s_t_size) H → va_S A s.heap H locs → decode cX0_movesAll pc = .ok (.ireturn, 1) → W p l e rX0_movesAll s m args below meth c H locs 0 0 Q (F0 m pc ls [.int o])) {H : Heap} {locs : List Loc} {ls : Array Slot} (hP : va_P D vwCl (w_X0_movesAll cI cB cZ a_t u_t_orders u_t_orderCount u_t_keepers u_t_keeperCount u_t_wives u_t_children u_t_shares u_t_kindCount u_t_lawful u_t_lawfulCount u_t_lawfulSystems u_t_judgedBy u_t_judged u_t_wheel s_t_size) H) (hD : va_D A (w_X0_movesAll cI cB cZ a_t u_t_orders u_t_orderCount u_t_keepers u_t_keeperCount u_t_wives u_t_children u_t_shares u_t_kindCount u_t_lawful u_t_lawfulCount u_t_lawfulSystems u_t_judgedBy u_t_judged u_t_wheel s_t_size)) (hS : va_S A s.heap H locs) (hl : lv_has ls 3 [(0, .ref a_t), (1, .int x1)]) : W p l e rX0_movesAll s m args below meth c H locs 0 0 Q (F0 m 0 ls []) := by
  obtain ⟨⟨hx, hb, hml, hown, hts⟩, hK, hN, hA⟩ := C
  have C : jCx p s m args c cX0_movesAll 3 gX0_movesAll RX0 G D (jT cI cB cZ) A := ⟨⟨hx, hb, hml, hown, hts⟩, hK, hN, hA⟩
  unfold f_X0_movesAll at hf
  refine lv_iconst (v := (0 : Int32)) hx hb dX0_movesAll_0 (by decide) ?_
  refine lv_istore_n (lv' := [(2, .int (0 : Int32)), (0, .ref a_t), (1, .int x1)]) hx hb dX0_movesAll_1 rfl hl (by decide) rfl (fun ls hl => ?_)
  obtain ⟨e4, hg4, hf⟩ := jM_some hf
  refine t_X0_movesAll_l2 G D cI cB cZ a_t u_t_orders u_t_orderCount u_t_keepers u_t_keeperCount u_t_wives u_t_children u_t_shares u_t_kindCount u_t_lawful u_t_lawfulCount u_t_lawfulSystems u_t_judgedBy u_t_judged u_t_wheel s_t_size x1 C jF (0 : Int32) hg4 ?_ _ _ _ hP hD hS (lv_sub hl [1, 2, 0] rfl)
  refine ⟨fun y5 hy => ?_, fun w6 hy => ?_⟩
  · replace hf := jE_l hy hf
    intro H locs ls hP hD hS hl
    refine lv_iconst (v := (0 : Int32)) hx hb dX0_movesAll_23 (by decide) ?_
    have ho := Option.some.inj hf
    subst ho
    exact K _ _ _ _ (Or.inl rfl) hP hS dX0_movesAll_24
  · replace hf := jE_r hy hf
    intro H locs ls hP hD hS hl
    refine lv_iconst (v := (1 : Int32)) hx hb dX0_movesAll_31 (by decide) ?_
    have ho := Option.some.inj hf
    subst ho
    exact K _ _ _ _ (Or.inr rfl) hP hS dX0_movesAll_32
set_option maxHeartbeats 4000000 in
set_option maxRecDepth 100000 in
theorem c_X0_movesAll (l : Launch) (G : jGt) (D : va_G) (cI cB cZ : ClassId) (a_t : Nat) (u_t_orders : Value) (u_t_orderCount : Int32) (u_t_keepers : Value) (u_t_keeperCount : Int32) (u_t_wives u_t_children u_t_shares : Value) (u_t_kindCount : Int32) (u_t_lawful : Value) (u_t_lawfulCount u_t_lawfulSystems : Int32) (u_t_judgedBy : Value) (u_t_judged : Int32) (u_t_wheel : Value) (s_t_size : Int32) (x1 : Int32) {o : Int32} (hf : f_X0_movesAll s_t_size x1 = some o) : jMi l yX0_movesAll gX0_movesAll rX0_movesAll G D (jT cI cB cZ) [.ref a_t, .int x1] (w_X0_movesAll cI cB cZ a_t u_t_orders u_t_orderCount u_t_keepers u_t_keeperCount u_t_wives u_t_children u_t_shares u_t_kindCount u_t_lawful u_t_lawfulCount u_t_lawfulSystems u_t_judgedBy u_t_judged u_t_wheel s_t_size) (w_X0_movesAll cI cB cZ a_t u_t_orders u_t_orderCount u_t_keepers u_t_keeperCount u_t_wives u_t_children u_t_shares u_t_kindCount u_t_lawful u_t_lawfulCount u_t_lawfulSystems u_t_judgedBy u_t_judged u_t_wheel s_t_size) o := by
  refine jmk_z RX0 rfl (by decide +kernel) rfl (Nat.le_of_ble_eq_true rfl) rfl ?_
  intro p e s m args below meth c ls A Q C hP hD hS hl K
  exact t_X0_movesAll G D cI cB cZ a_t u_t_orders u_t_orderCount u_t_keepers u_t_keeperCount u_t_wives u_t_children u_t_shares u_t_kindCount u_t_lawful u_t_lawfulCount u_t_lawfulSystems u_t_judgedBy u_t_judged u_t_wheel s_t_size x1 C hf K hP hD hS hl
abbrev rX0_renamed : Room := { frames := 1, cells := 0, slots := 0, locals := 22 }
abbrev gX0_renamed : List Cond := wG yX0_renamed cX0_renamed 7 (some .int)
def w_X0_renamed (cI cB cZ : ClassId) (a_t : Nat) (u_t_orders : Value) (u_t_orderCount : Int32) (u_t_keepers : Value) (u_t_keeperCount : Int32) (u_t_wives u_t_children u_t_shares : Value) (u_t_kindCount : Int32) (u_t_lawful : Value) (u_t_lawfulCount u_t_lawfulSystems : Int32) (u_t_judgedBy : Value) (u_t_judged : Int32) (u_t_wheel : Value) (s_t_size : Int32) : va_W := [(a_t, .inr (0, (oX0 s_t_size u_t_orders u_t_orderCount u_t_keepers u_t_keeperCount u_t_wives u_t_children u_t_shares u_t_kindCount u_t_lawful u_t_lawfulCount u_t_lawfulSystems u_t_judgedBy u_t_judged u_t_wheel)))]
def f_X0_renamed_b5 (s_t_size x1 x2 x3 x4 : Int32) : Option ((Int32 × Int32) ⊕ ((Int32))) :=
  if s_t_size ≤ x4 then
  some (Sum.inr x3)
  else
  jM (f_X0_numberAt s_t_size x2 x4) fun r2 =>
  jM (f_X0_numberAt s_t_size x1 x4) fun r3 =>
  jM (f_X0_numberAt s_t_size x2 r3) fun r4 =>
  jV (x3 ||| (r4 <<< (((3 : Int32) * ((s_t_size - (1 : Int32)) - r2)) &&& 31))) fun v5 =>
  some (Sum.inl (v5, (x4 + 1)))
set_option maxHeartbeats 4000000 in
set_option maxRecDepth 100000 in
theorem t_X0_renamed_b5 {p : Program} {l : Launch} {e : Env} {s : State} {m : MethodId} {args : Array Value} {below : List Frame} {meth : Method} {c : Code} {A : Nat → Prop} {Q : State → Prop} (G : jGt) (D : va_G) (cI cB cZ : ClassId) (a_t : Nat) (u_t_orders : Value) (u_t_orderCount : Int32) (u_t_keepers : Value) (u_t_keeperCount : Int32) (u_t_wives u_t_children u_t_shares : Value) (u_t_kindCount : Int32) (u_t_lawful : Value) (u_t_lawfulCount u_t_lawfulSystems : Int32) (u_t_judgedBy : Value) (u_t_judged : Int32) (u_t_wheel : Value) (s_t_size : Int32) (x1 x2 x3 x4 : Int32) (C : jCx p s m args c cX0_renamed 7 gX0_renamed RX0 G D (jT cI cB cZ) A) {o : (Int32 × Int32) ⊕ ((Int32))} (hf : f_X0_renamed_b5 s_t_size x1 x2 x3 x4 = some o) (K : (∀ z, o = Sum.inl z → ∀ (H : Heap) (locs : List Loc) (ls : Array Slot), va_P D vwCl (w_X0_renamed cI cB cZ a_t u_t_orders u_t_orderCount u_t_keepers u_t_keeperCount u_t_wives u_t_children u_t_shares u_t_kindCount u_t_lawful u_t_lawfulCount u_t_lawfulSystems u_t_judgedBy u_t_judged u_t_wheel s_t_size) H → va_D A (w_X0_renamed cI cB cZ a_t u_t_orders u_t_orderCount u_t_keepers u_t_keeperCount u_t_wives u_t_children u_t_shares u_t_kindCount u_t_lawful u_t_lawfulCount u_t_lawfulSystems u_t_judgedBy u_t_judged u_t_wheel s_t_size) → va_S A s.heap H locs → lv_has ls 7 [(0, .ref a_t), (1, .int x1), (2, .int x2), (3, .int z.1), (4, .int z.2)] → W p l e rX0_renamed s m args below meth c H locs 0 0 Q (F0 m 5 ls [])) ∧ (∀ z, o = Sum.inr z → ∀ (H : Heap) (locs : List Loc) (ls : Array Slot), va_P D vwCl (w_X0_renamed cI cB cZ a_t u_t_orders u_t_orderCount u_t_keepers u_t_keeperCount u_t_wives u_t_children u_t_shares u_t_kindCount u_t_lawful u_t_lawfulCount u_t_lawfulSystems u_t_judgedBy u_t_judged u_t_wheel s_t_size) H → va_D A (w_X0_renamed cI cB cZ a_t u_t_orders u_t_orderCount u_t_keepers u_t_keeperCount u_t_wives u_t_children u_t_shares u_t_kindCount u_t_lawful u_t_lawfulCount u_t_lawfulSystems u_t_judgedBy u_t_judged u_t_wheel s_t_size) → va_S A s.heap H locs → lv_has ls 7 [(3, .int z)] → W p l e rX0_renamed s m args below meth c H locs 0 0 Q (F0 m 69 ls []))) {H : Heap} {locs : List Loc} {ls : Array Slot} (hP : va_P D vwCl (w_X0_renamed cI cB cZ a_t u_t_orders u_t_orderCount u_t_keepers u_t_keeperCount u_t_wives u_t_children u_t_shares u_t_kindCount u_t_lawful u_t_lawfulCount u_t_lawfulSystems u_t_judgedBy u_t_judged u_t_wheel s_t_size) H) (hD : va_D A (w_X0_renamed cI cB cZ a_t u_t_orders u_t_orderCount u_t_keepers u_t_keeperCount u_t_wives u_t_children u_t_shares u_t_kindCount u_t_lawful u_t_lawfulCount u_t_lawfulSystems u_t_judgedBy u_t_judged u_t_wheel s_t_size)) (hS : va_S A s.heap H locs) (hl : lv_has ls 7 [(0, .ref a_t), (1, .int x1), (2, .int x2), (3, .int x3), (4, .int x4)]) : W p l e rX0_renamed s m args below meth c H locs 0 0 Q (F0 m 5 ls []) := by
  obtain ⟨⟨hx, hb, hml, hown, hts⟩, hK, hN, hA⟩ := C
  have C : jCx p s m args c cX0_renamed 7 gX0_renamed RX0 G D (jT cI cB cZ) A := ⟨⟨hx, hb, hml, hown, hts⟩, hK, hN, hA⟩
  unfold f_X0_renamed_b5 at hf
  refine lv_iload hx hb dX0_renamed_5 (lv_at hl 4 rfl) ?_
  refine lv_aload_n hx hb dX0_renamed_7 rfl (lv_at hl 0 rfl) ?_
  refine va_get (D := D) (ci := 0) (v := .int s_t_size) (C := RX0) (T := TX0) (N := 15) hx hb hts iw_X0 hown hK hP 0 rfl rfl 0 (by decide) (hts _ (wG_in k_fl_X0_44 rfl)) (fun _ h9 => h9) rfl dX0_renamed_8 ?_
  refine lv_icmp_ge (tgt := 69) hx hb dX0_renamed_11 (by decide) (fun c1 => ?_) (fun c1 => ?_)
  · replace hf := jif_t c1 hf
    have ho := Option.some.inj hf
    exact (K.2 _ ho.symm) _ _ _ hP hD hS (lv_sub hl [3] rfl)
  · replace hf := jif_f c1 hf
    refine lv_aload_n hx hb dX0_renamed_14 rfl (lv_at hl 0 rfl) ?_
    refine va_get (D := D) (ci := 0) (v := .int s_t_size) (C := RX0) (T := TX0) (N := 15) hx hb hts iw_X0 hown hK hP 0 rfl rfl 0 (by decide) (hts _ (wG_in k_fl_X0_44 rfl)) (fun _ h9 => h9) rfl dX0_renamed_15 ?_
    refine lv_iload_n hx hb dX0_renamed_18 rfl (lv_at hl 2 rfl) ?_
    refine lv_iload hx hb dX0_renamed_19 (lv_at hl 4 rfl) ?_
    obtain ⟨r2, hgr2, hf⟩ := jM_some hf
    refine jcS_i0 (As := [.int s_t_size, .int x2, .int x4]) (rest := []) ⟨hx, hb, hml, hown, hts⟩ hK hN hA (c_X0_numberAt l G D cI cB cZ s_t_size x2 x4 hgr2) (va_cwS 3 hts (wG_S k_ml_X0_72 k_st_X0_numberAt k_in_X0 k_co_X0_numberAt) rfl rfl rfl hd_X0_numberAt.2 ⟨Nat.le_of_ble_eq_true rfl, Nat.le_of_ble_eq_true rfl⟩) hP hD hS [] rfl rfl rfl rfl hl.1 rfl (Nat.le_of_ble_eq_true rfl) dX0_renamed_21 ⟨Nat.le_of_ble_eq_true rfl, Nat.le_of_ble_eq_true rfl⟩ (fun H locs hP hD hS => ?_)
    refine lv_istore (lv' := [(5, .int r2), (0, .ref a_t), (1, .int x1), (2, .int x2), (3, .int x3), (4, .int x4)]) hx hb dX0_renamed_24 hl (by decide) rfl (fun ls hl => ?_)
    refine lv_aload_n hx hb dX0_renamed_26 rfl (lv_at hl 1 rfl) ?_
    refine va_get (D := D) (ci := 0) (v := .int s_t_size) (C := RX0) (T := TX0) (N := 15) hx hb hts iw_X0 hown hK hP 0 rfl rfl 0 (by decide) (hts _ (wG_in k_fl_X0_44 rfl)) (fun _ h9 => h9) rfl dX0_renamed_27 ?_
    refine lv_iload_n hx hb dX0_renamed_30 rfl (lv_at hl 3 rfl) ?_
    refine lv_aload_n hx hb dX0_renamed_31 rfl (lv_at hl 1 rfl) ?_
    refine va_get (D := D) (ci := 0) (v := .int s_t_size) (C := RX0) (T := TX0) (N := 15) hx hb hts iw_X0 hown hK hP 0 rfl rfl 0 (by decide) (hts _ (wG_in k_fl_X0_44 rfl)) (fun _ h9 => h9) rfl dX0_renamed_32 ?_
    refine lv_iload_n hx hb dX0_renamed_35 rfl (lv_at hl 2 rfl) ?_
    refine lv_iload hx hb dX0_renamed_36 (lv_at hl 5 rfl) ?_
    obtain ⟨r3, hgr3, hf⟩ := jM_some hf
    refine jcS_i0 (As := [.int s_t_size, .int x1, .int x4]) (rest := [.int x2, .int s_t_size]) ⟨hx, hb, hml, hown, hts⟩ hK hN hA (c_X0_numberAt l G D cI cB cZ s_t_size x1 x4 hgr3) (va_cwS 3 hts (wG_S k_ml_X0_72 k_st_X0_numberAt k_in_X0 k_co_X0_numberAt) rfl rfl rfl hd_X0_numberAt.2 ⟨Nat.le_of_ble_eq_true rfl, Nat.le_of_ble_eq_true rfl⟩) hP hD hS [] rfl rfl rfl rfl hl.1 rfl (Nat.le_of_ble_eq_true rfl) dX0_renamed_38 ⟨Nat.le_of_ble_eq_true rfl, Nat.le_of_ble_eq_true rfl⟩ (fun H locs hP hD hS => ?_)
    obtain ⟨r4, hgr4, hf⟩ := jM_some hf
    refine jcS_i0 (As := [.int s_t_size, .int x2, .int r3]) (rest := []) ⟨hx, hb, hml, hown, hts⟩ hK hN hA (c_X0_numberAt l G D cI cB cZ s_t_size x2 r3 hgr4) (va_cwS 3 hts (wG_S k_ml_X0_72 k_st_X0_numberAt k_in_X0 k_co_X0_numberAt) rfl rfl rfl hd_X0_numberAt.2 ⟨Nat.le_of_ble_eq_true rfl, Nat.le_of_ble_eq_true rfl⟩) hP hD hS [] rfl rfl rfl rfl hl.1 rfl (Nat.le_of_ble_eq_true rfl) dX0_renamed_41 ⟨Nat.le_of_ble_eq_true rfl, Nat.le_of_ble_eq_true rfl⟩ (fun H locs hP hD hS => ?_)
    refine lv_istore (lv' := [(6, .int r4), (5, .int r2), (0, .ref a_t), (1, .int x1), (2, .int x2), (3, .int x3), (4, .int x4)]) hx hb dX0_renamed_44 hl (by decide) rfl (fun ls hl => ?_)
    refine lv_iload_n hx hb dX0_renamed_46 rfl (lv_at hl 5 rfl) ?_
    refine lv_iload hx hb dX0_renamed_47 (lv_at hl 0 rfl) ?_
    refine lv_iconst (v := (3 : Int32)) hx hb dX0_renamed_49 (by decide) ?_
    refine lv_aload_n hx hb dX0_renamed_50 rfl (lv_at hl 2 rfl) ?_
    refine va_get (D := D) (ci := 0) (v := .int s_t_size) (C := RX0) (T := TX0) (N := 15) hx hb hts iw_X0 hown hK hP 0 rfl rfl 0 (by decide) (hts _ (wG_in k_fl_X0_44 rfl)) (fun _ h9 => h9) rfl dX0_renamed_51 ?_
    refine lv_iconst (v := (1 : Int32)) hx hb dX0_renamed_54 (by decide) ?_
    refine lv_isub hx hb dX0_renamed_55 ?_
    refine lv_iload hx hb dX0_renamed_56 (lv_at hl 1 rfl) ?_
    refine lv_isub hx hb dX0_renamed_58 ?_
    refine lv_imul hx hb dX0_renamed_59 ?_
    refine lv_ishl hx hb dX0_renamed_60 ?_
    refine lv_ior hx hb dX0_renamed_61 ?_
    obtain ⟨v5, hv5, hf⟩ := jV_some hf
    refine jtop hv5 ?_
    refine lv_istore_n (lv' := [(3, .int v5), (6, .int r4), (5, .int r2), (0, .ref a_t), (1, .int x1), (2, .int x2), (4, .int x4)]) hx hb dX0_renamed_62 rfl hl (by decide) rfl (fun ls hl => ?_)
    refine lv_iinc (v := (x4 + 1)) (lv' := [(4, .int (x4 + 1)), (3, .int v5), (6, .int r4), (5, .int r2), (0, .ref a_t), (1, .int x1), (2, .int x2)]) hx hb dX0_renamed_63 hl (k := 6) rfl (by first | rfl | decide) (by decide) rfl (fun ls hl => ?_)
    refine lv_goto (tgt := 5) hx hb dX0_renamed_66 (by decide) ?_
    have ho := Option.some.inj hf
    exact K.1 _ ho.symm _ _ _ hP hD hS (lv_sub hl [4, 5, 6, 1, 0] rfl)
def f_X0_renamed_l5 (s_t_size x1 x2 x3 x4 : Int32) : Option ((Int32)) :=
  jI (fun z => f_X0_renamed_b5 s_t_size x1 x2 z.1 z.2) jF (x3, x4)
set_option maxHeartbeats 4000000 in
set_option maxRecDepth 100000 in
theorem t_X0_renamed_l5 {p : Program} {l : Launch} {e : Env} {s : State} {m : MethodId} {args : Array Value} {below : List Frame} {meth : Method} {c : Code} {A : Nat → Prop} {Q : State → Prop} (G : jGt) (D : va_G) (cI cB cZ : ClassId) (a_t : Nat) (u_t_orders : Value) (u_t_orderCount : Int32) (u_t_keepers : Value) (u_t_keeperCount : Int32) (u_t_wives u_t_children u_t_shares : Value) (u_t_kindCount : Int32) (u_t_lawful : Value) (u_t_lawfulCount u_t_lawfulSystems : Int32) (u_t_judgedBy : Value) (u_t_judged : Int32) (u_t_wheel : Value) (s_t_size : Int32) (x1 x2 : Int32) (C : jCx p s m args c cX0_renamed 7 gX0_renamed RX0 G D (jT cI cB cZ) A) : ∀ (n : Nat) (x3 x4 : Int32) {eo : (Int32)}, jI (fun z => f_X0_renamed_b5 s_t_size x1 x2 z.1 z.2) n (x3, x4) = some eo → (∀ (H : Heap) (locs : List Loc) (ls : Array Slot), va_P D vwCl (w_X0_renamed cI cB cZ a_t u_t_orders u_t_orderCount u_t_keepers u_t_keeperCount u_t_wives u_t_children u_t_shares u_t_kindCount u_t_lawful u_t_lawfulCount u_t_lawfulSystems u_t_judgedBy u_t_judged u_t_wheel s_t_size) H → va_D A (w_X0_renamed cI cB cZ a_t u_t_orders u_t_orderCount u_t_keepers u_t_keeperCount u_t_wives u_t_children u_t_shares u_t_kindCount u_t_lawful u_t_lawfulCount u_t_lawfulSystems u_t_judgedBy u_t_judged u_t_wheel s_t_size) → va_S A s.heap H locs → lv_has ls 7 [(3, .int eo)] → W p l e rX0_renamed s m args below meth c H locs 0 0 Q (F0 m 69 ls [])) → ∀ (H : Heap) (locs : List Loc) (ls : Array Slot), va_P D vwCl (w_X0_renamed cI cB cZ a_t u_t_orders u_t_orderCount u_t_keepers u_t_keeperCount u_t_wives u_t_children u_t_shares u_t_kindCount u_t_lawful u_t_lawfulCount u_t_lawfulSystems u_t_judgedBy u_t_judged u_t_wheel s_t_size) H → va_D A (w_X0_renamed cI cB cZ a_t u_t_orders u_t_orderCount u_t_keepers u_t_keeperCount u_t_wives u_t_children u_t_shares u_t_kindCount u_t_lawful u_t_lawfulCount u_t_lawfulSystems u_t_judgedBy u_t_judged u_t_wheel s_t_size) → va_S A s.heap H locs → lv_has ls 7 [(0, .ref a_t), (1, .int x1), (2, .int x2), (3, .int x3), (4, .int x4)] → W p l e rX0_renamed s m args below meth c H locs 0 0 Q (F0 m 5 ls []) := by
  intro n
  induction n with
  | zero =>
    intro x3 x4 eo hf
    exact (jI_zero hf).elim
  | succ n ih =>
    intro x3 x4 eo hf K H locs ls hP hD hS hl
    obtain ⟨o, hb1, ho⟩ := jI_some hf
    rcases ho with ⟨z, rfl, hf2⟩ | rfl
    · exact t_X0_renamed_b5 G D cI cB cZ a_t u_t_orders u_t_orderCount u_t_keepers u_t_keeperCount u_t_wives u_t_children u_t_shares u_t_kindCount u_t_lawful u_t_lawfulCount u_t_lawfulSystems u_t_judgedBy u_t_judged u_t_wheel s_t_size x1 x2 x3 x4 C hb1 ⟨fun z2 hz H locs ls hP hD hS hl => by cases hz; exact ih z.1 z.2 hf2 K H locs ls hP hD hS hl, fun z2 hz => by cases hz⟩ hP hD hS hl
    · exact t_X0_renamed_b5 G D cI cB cZ a_t u_t_orders u_t_orderCount u_t_keepers u_t_keeperCount u_t_wives u_t_children u_t_shares u_t_kindCount u_t_lawful u_t_lawfulCount u_t_lawfulSystems u_t_judgedBy u_t_judged u_t_wheel s_t_size x1 x2 x3 x4 C hb1 ⟨fun z2 hz => (by cases hz), fun z2 hz => by cases hz; exact K⟩ hP hD hS hl
def f_X0_renamed (s_t_size x1 x2 : Int32) : Option (Int32) :=
  jM (f_X0_renamed_l5 s_t_size x1 x2 (0 : Int32) (0 : Int32)) fun e6 =>
  some e6
set_option maxHeartbeats 4000000 in
set_option maxRecDepth 100000 in
theorem t_X0_renamed {p : Program} {l : Launch} {e : Env} {s : State} {m : MethodId} {args : Array Value} {below : List Frame} {meth : Method} {c : Code} {A : Nat → Prop} {Q : State → Prop} (G : jGt) (D : va_G) (cI cB cZ : ClassId) (a_t : Nat) (u_t_orders : Value) (u_t_orderCount : Int32) (u_t_keepers : Value) (u_t_keeperCount : Int32) (u_t_wives u_t_children u_t_shares : Value) (u_t_kindCount : Int32) (u_t_lawful : Value) (u_t_lawfulCount u_t_lawfulSystems : Int32) (u_t_judgedBy : Value) (u_t_judged : Int32) (u_t_wheel : Value) (s_t_size : Int32) (x1 x2 : Int32) (C : jCx p s m args c cX0_renamed 7 gX0_renamed RX0 G D (jT cI cB cZ) A) {o : Int32} (hf : f_X0_renamed s_t_size x1 x2 = some o) (K : ∀ (H : Heap) (locs : List Loc) (pc : Nat) (ls : Array Slot), va_P D vwCl (w_X0_renamed cI cB cZ a_t u_t_orders u_t_orderCount u_t_keepers u_t_keeperCount u_t_wives u_t_children u_t_shares u_t_kindCount u_t_lawful u_t_lawfulCount u_t_lawfulSystems u_t_judgedBy u_t_judged u_t_wheel s_t_size) H → va_S A s.heap H locs → decode cX0_renamed pc = .ok (.ireturn, 1) → W p l e rX0_renamed s m args below meth c H locs 0 0 Q (F0 m pc ls [.int o])) {H : Heap} {locs : List Loc} {ls : Array Slot} (hP : va_P D vwCl (w_X0_renamed cI cB cZ a_t u_t_orders u_t_orderCount u_t_keepers u_t_keeperCount u_t_wives u_t_children u_t_shares u_t_kindCount u_t_lawful u_t_lawfulCount u_t_lawfulSystems u_t_judgedBy u_t_judged u_t_wheel s_t_size) H) (hD : va_D A (w_X0_renamed cI cB cZ a_t u_t_orders u_t_orderCount u_t_keepers u_t_keeperCount u_t_wives u_t_children u_t_shares u_t_kindCount u_t_lawful u_t_lawfulCount u_t_lawfulSystems u_t_judgedBy u_t_judged u_t_wheel s_t_size)) (hS : va_S A s.heap H locs) (hl : lv_has ls 7 [(0, .ref a_t), (1, .int x1), (2, .int x2)]) : W p l e rX0_renamed s m args below meth c H locs 0 0 Q (F0 m 0 ls []) := by
  obtain ⟨⟨hx, hb, hml, hown, hts⟩, hK, hN, hA⟩ := C
  have C : jCx p s m args c cX0_renamed 7 gX0_renamed RX0 G D (jT cI cB cZ) A := ⟨⟨hx, hb, hml, hown, hts⟩, hK, hN, hA⟩
  unfold f_X0_renamed at hf
  refine lv_iconst (v := (0 : Int32)) hx hb dX0_renamed_0 (by decide) ?_
  refine lv_istore_n (lv' := [(3, .int (0 : Int32)), (0, .ref a_t), (1, .int x1), (2, .int x2)]) hx hb dX0_renamed_1 rfl hl (by decide) rfl (fun ls hl => ?_)
  refine lv_iconst (v := (0 : Int32)) hx hb dX0_renamed_2 (by decide) ?_
  refine lv_istore (lv' := [(4, .int (0 : Int32)), (3, .int (0 : Int32)), (0, .ref a_t), (1, .int x1), (2, .int x2)]) hx hb dX0_renamed_3 hl (by decide) rfl (fun ls hl => ?_)
  obtain ⟨e6, hg6, hf⟩ := jM_some hf
  refine t_X0_renamed_l5 G D cI cB cZ a_t u_t_orders u_t_orderCount u_t_keepers u_t_keeperCount u_t_wives u_t_children u_t_shares u_t_kindCount u_t_lawful u_t_lawfulCount u_t_lawfulSystems u_t_judgedBy u_t_judged u_t_wheel s_t_size x1 x2 C jF (0 : Int32) (0 : Int32) hg6 ?_ _ _ _ hP hD hS (lv_sub hl [2, 3, 4, 1, 0] rfl)
  intro H locs ls hP hD hS hl
  refine lv_iload_n hx hb dX0_renamed_69 rfl (lv_at hl 0 rfl) ?_
  have ho := Option.some.inj hf
  subst ho
  exact K _ _ _ _ hP hS dX0_renamed_70
set_option maxHeartbeats 4000000 in
set_option maxRecDepth 100000 in
theorem c_X0_renamed (l : Launch) (G : jGt) (D : va_G) (cI cB cZ : ClassId) (a_t : Nat) (u_t_orders : Value) (u_t_orderCount : Int32) (u_t_keepers : Value) (u_t_keeperCount : Int32) (u_t_wives u_t_children u_t_shares : Value) (u_t_kindCount : Int32) (u_t_lawful : Value) (u_t_lawfulCount u_t_lawfulSystems : Int32) (u_t_judgedBy : Value) (u_t_judged : Int32) (u_t_wheel : Value) (s_t_size : Int32) (x1 x2 : Int32) {o : Int32} (hf : f_X0_renamed s_t_size x1 x2 = some o) : jMi l yX0_renamed gX0_renamed rX0_renamed G D (jT cI cB cZ) [.ref a_t, .int x1, .int x2] (w_X0_renamed cI cB cZ a_t u_t_orders u_t_orderCount u_t_keepers u_t_keeperCount u_t_wives u_t_children u_t_shares u_t_kindCount u_t_lawful u_t_lawfulCount u_t_lawfulSystems u_t_judgedBy u_t_judged u_t_wheel s_t_size) (w_X0_renamed cI cB cZ a_t u_t_orders u_t_orderCount u_t_keepers u_t_keeperCount u_t_wives u_t_children u_t_shares u_t_kindCount u_t_lawful u_t_lawfulCount u_t_lawfulSystems u_t_judgedBy u_t_judged u_t_wheel s_t_size) o := by
  refine jmk_i RX0 rfl (by decide +kernel) rfl (Nat.le_of_ble_eq_true rfl) rfl ?_
  intro p e s m args below meth c ls A Q C hP hD hS hl K
  exact t_X0_renamed G D cI cB cZ a_t u_t_orders u_t_orderCount u_t_keepers u_t_keeperCount u_t_wives u_t_children u_t_shares u_t_kindCount u_t_lawful u_t_lawfulCount u_t_lawfulSystems u_t_judgedBy u_t_judged u_t_wheel s_t_size x1 x2 C hf K hP hD hS hl
abbrev rX0_isLeastOfItsOwn : Room := { frames := 2, cells := 0, slots := 0, locals := 48 }
abbrev gX0_isLeastOfItsOwn : List Cond := wG yX0_isLeastOfItsOwn cX0_isLeastOfItsOwn 4 (some .boolean)
def w_X0_isLeastOfItsOwn (cI cB cZ : ClassId) (a_t a_t_keepers a_t_orders : Nat) (u_t_wives u_t_children u_t_shares : Value) (u_t_kindCount : Int32) (u_t_lawful : Value) (u_t_lawfulCount u_t_lawfulSystems : Int32) (u_t_judgedBy : Value) (u_t_judged : Int32) (u_t_wheel : Value) (s_t_keeperCount s_t_orderCount s_t_size : Int32) (r_t_keepers r_t_orders : jA) : va_W := [(a_t, .inr (0, (oX0 s_t_size (.ref a_t_orders) s_t_orderCount (.ref a_t_keepers) s_t_keeperCount u_t_wives u_t_children u_t_shares u_t_kindCount u_t_lawful u_t_lawfulCount u_t_lawfulSystems u_t_judgedBy u_t_judged u_t_wheel))), (a_t_keepers, .inl (cI, r_t_keepers.1, .inl r_t_keepers.2)), (a_t_orders, .inl (cI, r_t_orders.1, .inl r_t_orders.2))]
def f_X0_isLeastOfItsOwn_j79 (s_t_keeperCount : Int32) (r_t_keepers : jA) (x1 x2 : Int32) : Option ((Int32 × jA × Int32) ⊕ ((Int32 × jA) ⊕ ((Int32 × jA)))) :=
  some (Sum.inl (s_t_keeperCount, r_t_keepers, (x2 + 1)))
set_option maxHeartbeats 4000000 in
set_option maxRecDepth 100000 in
theorem t_X0_isLeastOfItsOwn_j79 {p : Program} {l : Launch} {e : Env} {s : State} {m : MethodId} {args : Array Value} {below : List Frame} {meth : Method} {c : Code} {A : Nat → Prop} {Q : State → Prop} (G : jGt) (D : va_G) (cI cB cZ : ClassId) (a_t a_t_keepers a_t_orders : Nat) (u_t_wives u_t_children u_t_shares : Value) (u_t_kindCount : Int32) (u_t_lawful : Value) (u_t_lawfulCount u_t_lawfulSystems : Int32) (u_t_judgedBy : Value) (u_t_judged : Int32) (u_t_wheel : Value) (s_t_orderCount s_t_size : Int32) (r_t_orders : jA) (s_t_keeperCount : Int32) (r_t_keepers : jA) (x1 x2 : Int32) (C : jCx p s m args c cX0_isLeastOfItsOwn 4 gX0_isLeastOfItsOwn RX0 G D (jT cI cB cZ) A) {o : (Int32 × jA × Int32) ⊕ ((Int32 × jA) ⊕ ((Int32 × jA)))} (hf : f_X0_isLeastOfItsOwn_j79 s_t_keeperCount r_t_keepers x1 x2 = some o) (K : (∀ z, o = Sum.inl z → ∀ (H : Heap) (locs : List Loc) (ls : Array Slot), va_P D vwCl (w_X0_isLeastOfItsOwn cI cB cZ a_t a_t_keepers a_t_orders u_t_wives u_t_children u_t_shares u_t_kindCount u_t_lawful u_t_lawfulCount u_t_lawfulSystems u_t_judgedBy u_t_judged u_t_wheel z.1 s_t_orderCount s_t_size z.2.1 r_t_orders) H → va_D A (w_X0_isLeastOfItsOwn cI cB cZ a_t a_t_keepers a_t_orders u_t_wives u_t_children u_t_shares u_t_kindCount u_t_lawful u_t_lawfulCount u_t_lawfulSystems u_t_judgedBy u_t_judged u_t_wheel z.1 s_t_orderCount s_t_size z.2.1 r_t_orders) → va_S A s.heap H locs → lv_has ls 4 [(0, .ref a_t), (1, .int x1), (2, .int z.2.2)] → W p l e rX0_isLeastOfItsOwn s m args below meth c H locs 0 0 Q (F0 m 7 ls [])) ∧ (∀ z, o = Sum.inr z → (∀ y0, z = Sum.inl y0 → ∀ (H : Heap) (locs : List Loc) (ls : Array Slot), va_P D vwCl (w_X0_isLeastOfItsOwn cI cB cZ a_t a_t_keepers a_t_orders u_t_wives u_t_children u_t_shares u_t_kindCount u_t_lawful u_t_lawfulCount u_t_lawfulSystems u_t_judgedBy u_t_judged u_t_wheel y0.1 s_t_orderCount s_t_size y0.2 r_t_orders) H → va_D A (w_X0_isLeastOfItsOwn cI cB cZ a_t a_t_keepers a_t_orders u_t_wives u_t_children u_t_shares u_t_kindCount u_t_lawful u_t_lawfulCount u_t_lawfulSystems u_t_judgedBy u_t_judged u_t_wheel y0.1 s_t_orderCount s_t_size y0.2 r_t_orders) → va_S A s.heap H locs → lv_has ls 4 [] → W p l e rX0_isLeastOfItsOwn s m args below meth c H locs 0 0 Q (F0 m 38 ls [])) ∧ (∀ z0, z = Sum.inr z0 → ∀ (H : Heap) (locs : List Loc) (ls : Array Slot), va_P D vwCl (w_X0_isLeastOfItsOwn cI cB cZ a_t a_t_keepers a_t_orders u_t_wives u_t_children u_t_shares u_t_kindCount u_t_lawful u_t_lawfulCount u_t_lawfulSystems u_t_judgedBy u_t_judged u_t_wheel z0.1 s_t_orderCount s_t_size z0.2 r_t_orders) H → va_D A (w_X0_isLeastOfItsOwn cI cB cZ a_t a_t_keepers a_t_orders u_t_wives u_t_children u_t_shares u_t_kindCount u_t_lawful u_t_lawfulCount u_t_lawfulSystems u_t_judgedBy u_t_judged u_t_wheel z0.1 s_t_orderCount s_t_size z0.2 r_t_orders) → va_S A s.heap H locs → lv_has ls 4 [] → W p l e rX0_isLeastOfItsOwn s m args below meth c H locs 0 0 Q (F0 m 85 ls [])))) {H : Heap} {locs : List Loc} {ls : Array Slot} (hP : va_P D vwCl (w_X0_isLeastOfItsOwn cI cB cZ a_t a_t_keepers a_t_orders u_t_wives u_t_children u_t_shares u_t_kindCount u_t_lawful u_t_lawfulCount u_t_lawfulSystems u_t_judgedBy u_t_judged u_t_wheel s_t_keeperCount s_t_orderCount s_t_size r_t_keepers r_t_orders) H) (hD : va_D A (w_X0_isLeastOfItsOwn cI cB cZ a_t a_t_keepers a_t_orders u_t_wives u_t_children u_t_shares u_t_kindCount u_t_lawful u_t_lawfulCount u_t_lawfulSystems u_t_judgedBy u_t_judged u_t_wheel s_t_keeperCount s_t_orderCount s_t_size r_t_keepers r_t_orders)) (hS : va_S A s.heap H locs) (hl : lv_has ls 4 [(0, .ref a_t), (1, .int x1), (2, .int x2)]) : W p l e rX0_isLeastOfItsOwn s m args below meth c H locs 0 0 Q (F0 m 79 ls []) := by
  obtain ⟨⟨hx, hb, hml, hown, hts⟩, hK, hN, hA⟩ := C
  have C : jCx p s m args c cX0_isLeastOfItsOwn 4 gX0_isLeastOfItsOwn RX0 G D (jT cI cB cZ) A := ⟨⟨hx, hb, hml, hown, hts⟩, hK, hN, hA⟩
  unfold f_X0_isLeastOfItsOwn_j79 at hf
  refine lv_iinc (v := (x2 + 1)) (lv' := [(2, .int (x2 + 1)), (0, .ref a_t), (1, .int x1)]) hx hb dX0_isLeastOfItsOwn_79 hl (k := 2) rfl (by first | rfl | decide) (by decide) rfl (fun ls hl => ?_)
  refine lv_goto (tgt := 7) hx hb dX0_isLeastOfItsOwn_82 (by decide) ?_
  have ho := Option.some.inj hf
  exact K.1 _ ho.symm _ _ _ hP hD hS (lv_sub hl [1, 2, 0] rfl)
def f_X0_isLeastOfItsOwn_b7 (s_t_orderCount s_t_size : Int32) (r_t_orders : jA) (s_t_keeperCount : Int32) (r_t_keepers : jA) (x1 x2 : Int32) : Option ((Int32 × jA × Int32) ⊕ ((Int32 × jA) ⊕ ((Int32 × jA)))) :=
  if s_t_orderCount ≤ x2 then
  some (Sum.inr (Sum.inr (s_t_keeperCount, r_t_keepers)))
  else
  if (120 : Int32) ≤ x2 then
  some (Sum.inr (Sum.inr (s_t_keeperCount, r_t_keepers)))
  else
  jL r_t_orders x2 fun v3 =>
  jM (f_X0_renamed s_t_size x1 v3) fun r4 =>
  if x1 ≤ r4 then
  if r4 = x1 then
  if (120 : Int32) ≤ s_t_keeperCount then
  f_X0_isLeastOfItsOwn_j79 s_t_keeperCount r_t_keepers x1 x2
  else
  jL r_t_orders x2 fun v8 =>
  jS r_t_keepers s_t_keeperCount v8 fun q9 =>
  jV (s_t_keeperCount + (1 : Int32)) fun v10 =>
  f_X0_isLeastOfItsOwn_j79 v10 q9 x1 x2
  else
  f_X0_isLeastOfItsOwn_j79 s_t_keeperCount r_t_keepers x1 x2
  else
  some (Sum.inr (Sum.inl (s_t_keeperCount, r_t_keepers)))
set_option maxHeartbeats 4000000 in
set_option maxRecDepth 100000 in
theorem t_X0_isLeastOfItsOwn_b7 {p : Program} {l : Launch} {e : Env} {s : State} {m : MethodId} {args : Array Value} {below : List Frame} {meth : Method} {c : Code} {A : Nat → Prop} {Q : State → Prop} (G : jGt) (D : va_G) (cI cB cZ : ClassId) (a_t a_t_keepers a_t_orders : Nat) (u_t_wives u_t_children u_t_shares : Value) (u_t_kindCount : Int32) (u_t_lawful : Value) (u_t_lawfulCount u_t_lawfulSystems : Int32) (u_t_judgedBy : Value) (u_t_judged : Int32) (u_t_wheel : Value) (s_t_orderCount s_t_size : Int32) (r_t_orders : jA) (s_t_keeperCount : Int32) (r_t_keepers : jA) (x1 x2 : Int32) (C : jCx p s m args c cX0_isLeastOfItsOwn 4 gX0_isLeastOfItsOwn RX0 G D (jT cI cB cZ) A) {o : (Int32 × jA × Int32) ⊕ ((Int32 × jA) ⊕ ((Int32 × jA)))} (hf : f_X0_isLeastOfItsOwn_b7 s_t_orderCount s_t_size r_t_orders s_t_keeperCount r_t_keepers x1 x2 = some o) (K : (∀ z, o = Sum.inl z → ∀ (H : Heap) (locs : List Loc) (ls : Array Slot), va_P D vwCl (w_X0_isLeastOfItsOwn cI cB cZ a_t a_t_keepers a_t_orders u_t_wives u_t_children u_t_shares u_t_kindCount u_t_lawful u_t_lawfulCount u_t_lawfulSystems u_t_judgedBy u_t_judged u_t_wheel z.1 s_t_orderCount s_t_size z.2.1 r_t_orders) H → va_D A (w_X0_isLeastOfItsOwn cI cB cZ a_t a_t_keepers a_t_orders u_t_wives u_t_children u_t_shares u_t_kindCount u_t_lawful u_t_lawfulCount u_t_lawfulSystems u_t_judgedBy u_t_judged u_t_wheel z.1 s_t_orderCount s_t_size z.2.1 r_t_orders) → va_S A s.heap H locs → lv_has ls 4 [(0, .ref a_t), (1, .int x1), (2, .int z.2.2)] → W p l e rX0_isLeastOfItsOwn s m args below meth c H locs 0 0 Q (F0 m 7 ls [])) ∧ (∀ z, o = Sum.inr z → (∀ y0, z = Sum.inl y0 → ∀ (H : Heap) (locs : List Loc) (ls : Array Slot), va_P D vwCl (w_X0_isLeastOfItsOwn cI cB cZ a_t a_t_keepers a_t_orders u_t_wives u_t_children u_t_shares u_t_kindCount u_t_lawful u_t_lawfulCount u_t_lawfulSystems u_t_judgedBy u_t_judged u_t_wheel y0.1 s_t_orderCount s_t_size y0.2 r_t_orders) H → va_D A (w_X0_isLeastOfItsOwn cI cB cZ a_t a_t_keepers a_t_orders u_t_wives u_t_children u_t_shares u_t_kindCount u_t_lawful u_t_lawfulCount u_t_lawfulSystems u_t_judgedBy u_t_judged u_t_wheel y0.1 s_t_orderCount s_t_size y0.2 r_t_orders) → va_S A s.heap H locs → lv_has ls 4 [] → W p l e rX0_isLeastOfItsOwn s m args below meth c H locs 0 0 Q (F0 m 38 ls [])) ∧ (∀ z0, z = Sum.inr z0 → ∀ (H : Heap) (locs : List Loc) (ls : Array Slot), va_P D vwCl (w_X0_isLeastOfItsOwn cI cB cZ a_t a_t_keepers a_t_orders u_t_wives u_t_children u_t_shares u_t_kindCount u_t_lawful u_t_lawfulCount u_t_lawfulSystems u_t_judgedBy u_t_judged u_t_wheel z0.1 s_t_orderCount s_t_size z0.2 r_t_orders) H → va_D A (w_X0_isLeastOfItsOwn cI cB cZ a_t a_t_keepers a_t_orders u_t_wives u_t_children u_t_shares u_t_kindCount u_t_lawful u_t_lawfulCount u_t_lawfulSystems u_t_judgedBy u_t_judged u_t_wheel z0.1 s_t_orderCount s_t_size z0.2 r_t_orders) → va_S A s.heap H locs → lv_has ls 4 [] → W p l e rX0_isLeastOfItsOwn s m args below meth c H locs 0 0 Q (F0 m 85 ls [])))) {H : Heap} {locs : List Loc} {ls : Array Slot} (hP : va_P D vwCl (w_X0_isLeastOfItsOwn cI cB cZ a_t a_t_keepers a_t_orders u_t_wives u_t_children u_t_shares u_t_kindCount u_t_lawful u_t_lawfulCount u_t_lawfulSystems u_t_judgedBy u_t_judged u_t_wheel s_t_keeperCount s_t_orderCount s_t_size r_t_keepers r_t_orders) H) (hD : va_D A (w_X0_isLeastOfItsOwn cI cB cZ a_t a_t_keepers a_t_orders u_t_wives u_t_children u_t_shares u_t_kindCount u_t_lawful u_t_lawfulCount u_t_lawfulSystems u_t_judgedBy u_t_judged u_t_wheel s_t_keeperCount s_t_orderCount s_t_size r_t_keepers r_t_orders)) (hS : va_S A s.heap H locs) (hl : lv_has ls 4 [(0, .ref a_t), (1, .int x1), (2, .int x2)]) : W p l e rX0_isLeastOfItsOwn s m args below meth c H locs 0 0 Q (F0 m 7 ls []) := by
  obtain ⟨⟨hx, hb, hml, hown, hts⟩, hK, hN, hA⟩ := C
  have C : jCx p s m args c cX0_isLeastOfItsOwn 4 gX0_isLeastOfItsOwn RX0 G D (jT cI cB cZ) A := ⟨⟨hx, hb, hml, hown, hts⟩, hK, hN, hA⟩
  unfold f_X0_isLeastOfItsOwn_b7 at hf
  refine lv_iload_n hx hb dX0_isLeastOfItsOwn_7 rfl (lv_at hl 2 rfl) ?_
  refine lv_aload_n hx hb dX0_isLeastOfItsOwn_8 rfl (lv_at hl 0 rfl) ?_
  refine va_get (D := D) (ci := 0) (v := .int s_t_orderCount) (C := RX0) (T := TX0) (N := 15) hx hb hts iw_X0 hown hK hP 0 rfl rfl 2 (by decide) (hts _ (wG_in k_fl_X0_51 rfl)) (fun _ h9 => h9) rfl dX0_isLeastOfItsOwn_9 ?_
  refine lv_icmp_ge (tgt := 85) hx hb dX0_isLeastOfItsOwn_12 (by decide) (fun c1 => ?_) (fun c1 => ?_)
  · replace hf := jif_t c1 hf
    have ho := Option.some.inj hf
    exact ((K.2 _ ho.symm).2 _ rfl) _ _ _ hP hD hS (lv_sub hl [] rfl)
  · replace hf := jif_f c1 hf
    refine lv_iload_n hx hb dX0_isLeastOfItsOwn_15 rfl (lv_at hl 2 rfl) ?_
    refine lv_bipush (v := (120 : Int32)) hx hb dX0_isLeastOfItsOwn_16 (by decide) ?_
    refine lv_icmp_ge (tgt := 85) hx hb dX0_isLeastOfItsOwn_18 (by decide) (fun c2 => ?_) (fun c2 => ?_)
    · replace hf := jif_t c2 hf
      have ho := Option.some.inj hf
      exact ((K.2 _ ho.symm).2 _ rfl) _ _ _ hP hD hS (lv_sub hl [] rfl)
    · replace hf := jif_f c2 hf
      refine lv_aload_n hx hb dX0_isLeastOfItsOwn_21 rfl (lv_at hl 0 rfl) ?_
      refine lv_iload_n hx hb dX0_isLeastOfItsOwn_22 rfl (lv_at hl 1 rfl) ?_
      refine lv_aload_n hx hb dX0_isLeastOfItsOwn_23 rfl (lv_at hl 0 rfl) ?_
      refine va_get (D := D) (ci := 0) (v := .ref a_t_orders) (C := RX0) (T := TX0) (N := 15) hx hb hts iw_X0 hown hK hP 0 rfl rfl 1 (by decide) (hts _ (wG_in k_fl_X0_11 rfl)) (fun _ h9 => h9) rfl dX0_isLeastOfItsOwn_24 ?_
      refine lv_iload_n hx hb dX0_isLeastOfItsOwn_27 rfl (lv_at hl 2 rfl) ?_
      obtain ⟨v3, hv3, iv3, hf⟩ := jL_some hf
      refine ja_iald (P := r_t_orders) hx hb hK hP 2 0 rfl rfl hv3 iv3 dX0_isLeastOfItsOwn_28 ?_
      obtain ⟨r4, hgr4, hf⟩ := jM_some hf
      refine jcV_i0 (As := [.int x1, .int v3]) (rest := []) ⟨hx, hb, hml, hown, hts⟩ hK hN hA (c_X0_renamed l G D cI cB cZ a_t (.ref a_t_orders) s_t_orderCount (.ref a_t_keepers) s_t_keeperCount u_t_wives u_t_children u_t_shares u_t_kindCount u_t_lawful u_t_lawfulCount u_t_lawfulSystems u_t_judgedBy u_t_judged u_t_wheel s_t_size x1 v3 hgr4) (cwV 2 hts (wG_V k_ml_X0_79 k_im_X0_renamed k_se_X0_renamed k_in_X0 k_co_X0_renamed) rfl rfl rfl hd_X0_renamed ⟨Nat.le_of_ble_eq_true rfl, Nat.le_of_ble_eq_true rfl⟩) hP hD hS [0] rfl rfl rfl (ci := 0) rfl 0 rfl rfl rfl hl.1 rfl (Nat.le_of_ble_eq_true rfl) dX0_isLeastOfItsOwn_29 ⟨Nat.le_of_ble_eq_true rfl, Nat.le_of_ble_eq_true rfl⟩ (fun H locs hP hD hS => ?_)
      refine lv_istore_n (lv' := [(3, .int r4), (0, .ref a_t), (1, .int x1), (2, .int x2)]) hx hb dX0_isLeastOfItsOwn_32 rfl hl (by decide) rfl (fun ls hl => ?_)
      refine lv_iload_n hx hb dX0_isLeastOfItsOwn_33 rfl (lv_at hl 0 rfl) ?_
      refine lv_iload_n hx hb dX0_isLeastOfItsOwn_34 rfl (lv_at hl 2 rfl) ?_
      refine lv_icmp_ge (tgt := 40) hx hb dX0_isLeastOfItsOwn_35 (by decide) (fun c5 => ?_) (fun c5 => ?_)
      · replace hf := jif_t c5 hf
        refine lv_iload_n hx hb dX0_isLeastOfItsOwn_40 rfl (lv_at hl 0 rfl) ?_
        refine lv_iload_n hx hb dX0_isLeastOfItsOwn_41 rfl (lv_at hl 2 rfl) ?_
        refine lv_icmp_ne (tgt := 79) hx hb dX0_isLeastOfItsOwn_42 (by decide) (fun c6 => ?_) (fun c6 => ?_)
        · replace hf := jif_f c6 hf
          exact t_X0_isLeastOfItsOwn_j79 G D cI cB cZ a_t a_t_keepers a_t_orders u_t_wives u_t_children u_t_shares u_t_kindCount u_t_lawful u_t_lawfulCount u_t_lawfulSystems u_t_judgedBy u_t_judged u_t_wheel s_t_orderCount s_t_size r_t_orders s_t_keeperCount r_t_keepers x1 x2 C hf K hP hD hS (lv_sub hl [1, 2, 3] rfl)
        · replace hf := jif_t c6 hf
          refine lv_aload_n hx hb dX0_isLeastOfItsOwn_45 rfl (lv_at hl 1 rfl) ?_
          refine va_get (D := D) (ci := 0) (v := .int s_t_keeperCount) (C := RX0) (T := TX0) (N := 15) hx hb hts iw_X0 hown hK hP 0 rfl rfl 4 (by decide) (hts _ (wG_in k_fl_X0_76 rfl)) (fun _ h9 => h9) rfl dX0_isLeastOfItsOwn_46 ?_
          refine lv_bipush (v := (120 : Int32)) hx hb dX0_isLeastOfItsOwn_49 (by decide) ?_
          refine lv_icmp_ge (tgt := 79) hx hb dX0_isLeastOfItsOwn_51 (by decide) (fun c7 => ?_) (fun c7 => ?_)
          · replace hf := jif_t c7 hf
            exact t_X0_isLeastOfItsOwn_j79 G D cI cB cZ a_t a_t_keepers a_t_orders u_t_wives u_t_children u_t_shares u_t_kindCount u_t_lawful u_t_lawfulCount u_t_lawfulSystems u_t_judgedBy u_t_judged u_t_wheel s_t_orderCount s_t_size r_t_orders s_t_keeperCount r_t_keepers x1 x2 C hf K hP hD hS (lv_sub hl [1, 2, 3] rfl)
          · replace hf := jif_f c7 hf
            refine lv_aload_n hx hb dX0_isLeastOfItsOwn_54 rfl (lv_at hl 1 rfl) ?_
            refine va_get (D := D) (ci := 0) (v := .ref a_t_keepers) (C := RX0) (T := TX0) (N := 15) hx hb hts iw_X0 hown hK hP 0 rfl rfl 3 (by decide) (hts _ (wG_in k_fl_X0_15 rfl)) (fun _ h9 => h9) rfl dX0_isLeastOfItsOwn_55 ?_
            refine lv_aload_n hx hb dX0_isLeastOfItsOwn_58 rfl (lv_at hl 1 rfl) ?_
            refine va_get (D := D) (ci := 0) (v := .int s_t_keeperCount) (C := RX0) (T := TX0) (N := 15) hx hb hts iw_X0 hown hK hP 0 rfl rfl 4 (by decide) (hts _ (wG_in k_fl_X0_76 rfl)) (fun _ h9 => h9) rfl dX0_isLeastOfItsOwn_59 ?_
            refine lv_aload_n hx hb dX0_isLeastOfItsOwn_62 rfl (lv_at hl 1 rfl) ?_
            refine va_get (D := D) (ci := 0) (v := .ref a_t_orders) (C := RX0) (T := TX0) (N := 15) hx hb hts iw_X0 hown hK hP 0 rfl rfl 1 (by decide) (hts _ (wG_in k_fl_X0_11 rfl)) (fun _ h9 => h9) rfl dX0_isLeastOfItsOwn_63 ?_
            refine lv_iload_n hx hb dX0_isLeastOfItsOwn_66 rfl (lv_at hl 3 rfl) ?_
            obtain ⟨v8, hv8, iv8, hf⟩ := jL_some hf
            refine ja_iald (P := r_t_orders) hx hb hK hP 2 0 rfl rfl hv8 iv8 dX0_isLeastOfItsOwn_67 ?_
            obtain ⟨q9, hq9, iq9, hf⟩ := jS_some hf
            refine ja_iast (P := r_t_keepers) (P' := q9) hx hb hK hP hD hS 1 0 rfl rfl hq9 iq9 dX0_isLeastOfItsOwn_68 (fun H locs hP hD hS => ?_)
            have hP : va_P D vwCl (w_X0_isLeastOfItsOwn cI cB cZ a_t a_t_keepers a_t_orders u_t_wives u_t_children u_t_shares u_t_kindCount u_t_lawful u_t_lawfulCount u_t_lawfulSystems u_t_judgedBy u_t_judged u_t_wheel s_t_keeperCount s_t_orderCount s_t_size q9 r_t_orders) H := hP
            have hD : va_D A (w_X0_isLeastOfItsOwn cI cB cZ a_t a_t_keepers a_t_orders u_t_wives u_t_children u_t_shares u_t_kindCount u_t_lawful u_t_lawfulCount u_t_lawfulSystems u_t_judgedBy u_t_judged u_t_wheel s_t_keeperCount s_t_orderCount s_t_size q9 r_t_orders) := hD
            refine lv_aload_n hx hb dX0_isLeastOfItsOwn_69 rfl (lv_at hl 1 rfl) ?_
            refine lv_dup hx hb dX0_isLeastOfItsOwn_70 rfl ?_
            refine va_get (D := D) (ci := 0) (v := .int s_t_keeperCount) (C := RX0) (T := TX0) (N := 15) hx hb hts iw_X0 hown hK hP 0 rfl rfl 4 (by decide) (hts _ (wG_in k_fl_X0_76 rfl)) (fun _ h9 => h9) rfl dX0_isLeastOfItsOwn_71 ?_
            refine lv_iconst (v := (1 : Int32)) hx hb dX0_isLeastOfItsOwn_74 (by decide) ?_
            refine lv_iadd hx hb dX0_isLeastOfItsOwn_75 ?_
            obtain ⟨v10, hv10, hf⟩ := jV_some hf
            refine jtop hv10 ?_
            refine va_put (D := D) (ci := 0) (v := .int v10) (ty := .int) (C := RX0) (T := TX0) (N := 15) hx hb hts iw_X0 tyX0 tyX0_ok nmX0 hown hK hP hD hS 0 rfl rfl 4 (by decide) (hts _ (wG_in k_fl_X0_76 rfl)) (fun _ h9 => h9) rfl (tyX0_ok 4 (by decide)) rfl rfl (Nat.le_of_ble_eq_true rfl) dX0_isLeastOfItsOwn_76 (fun H locs hP hD hS => ?_)
            have hP : va_P D vwCl (w_X0_isLeastOfItsOwn cI cB cZ a_t a_t_keepers a_t_orders u_t_wives u_t_children u_t_shares u_t_kindCount u_t_lawful u_t_lawfulCount u_t_lawfulSystems u_t_judgedBy u_t_judged u_t_wheel v10 s_t_orderCount s_t_size q9 r_t_orders) H := hP
            have hD : va_D A (w_X0_isLeastOfItsOwn cI cB cZ a_t a_t_keepers a_t_orders u_t_wives u_t_children u_t_shares u_t_kindCount u_t_lawful u_t_lawfulCount u_t_lawfulSystems u_t_judgedBy u_t_judged u_t_wheel v10 s_t_orderCount s_t_size q9 r_t_orders) := hD
            exact t_X0_isLeastOfItsOwn_j79 G D cI cB cZ a_t a_t_keepers a_t_orders u_t_wives u_t_children u_t_shares u_t_kindCount u_t_lawful u_t_lawfulCount u_t_lawfulSystems u_t_judgedBy u_t_judged u_t_wheel s_t_orderCount s_t_size r_t_orders v10 q9 x1 x2 C hf K hP hD hS (lv_sub hl [1, 2, 3] rfl)
      · replace hf := jif_f c5 hf
        have ho := Option.some.inj hf
        exact ((K.2 _ ho.symm).1 _ rfl) _ _ _ hP hD hS (lv_sub hl [] rfl)
def f_X0_isLeastOfItsOwn_l7 (s_t_orderCount s_t_size : Int32) (r_t_orders : jA) (x1 s_t_keeperCount : Int32) (r_t_keepers : jA) (x2 : Int32) : Option ((Int32 × jA) ⊕ ((Int32 × jA))) :=
  jI (fun z => f_X0_isLeastOfItsOwn_b7 s_t_orderCount s_t_size r_t_orders z.1 z.2.1 x1 z.2.2) jF (s_t_keeperCount, r_t_keepers, x2)
set_option maxHeartbeats 4000000 in
set_option maxRecDepth 100000 in
theorem t_X0_isLeastOfItsOwn_l7 {p : Program} {l : Launch} {e : Env} {s : State} {m : MethodId} {args : Array Value} {below : List Frame} {meth : Method} {c : Code} {A : Nat → Prop} {Q : State → Prop} (G : jGt) (D : va_G) (cI cB cZ : ClassId) (a_t a_t_keepers a_t_orders : Nat) (u_t_wives u_t_children u_t_shares : Value) (u_t_kindCount : Int32) (u_t_lawful : Value) (u_t_lawfulCount u_t_lawfulSystems : Int32) (u_t_judgedBy : Value) (u_t_judged : Int32) (u_t_wheel : Value) (s_t_orderCount s_t_size : Int32) (r_t_orders : jA) (x1 : Int32) (C : jCx p s m args c cX0_isLeastOfItsOwn 4 gX0_isLeastOfItsOwn RX0 G D (jT cI cB cZ) A) : ∀ (n : Nat) (s_t_keeperCount : Int32) (r_t_keepers : jA) (x2 : Int32) {eo : (Int32 × jA) ⊕ ((Int32 × jA))}, jI (fun z => f_X0_isLeastOfItsOwn_b7 s_t_orderCount s_t_size r_t_orders z.1 z.2.1 x1 z.2.2) n (s_t_keeperCount, r_t_keepers, x2) = some eo → ((∀ y0, eo = Sum.inl y0 → ∀ (H : Heap) (locs : List Loc) (ls : Array Slot), va_P D vwCl (w_X0_isLeastOfItsOwn cI cB cZ a_t a_t_keepers a_t_orders u_t_wives u_t_children u_t_shares u_t_kindCount u_t_lawful u_t_lawfulCount u_t_lawfulSystems u_t_judgedBy u_t_judged u_t_wheel y0.1 s_t_orderCount s_t_size y0.2 r_t_orders) H → va_D A (w_X0_isLeastOfItsOwn cI cB cZ a_t a_t_keepers a_t_orders u_t_wives u_t_children u_t_shares u_t_kindCount u_t_lawful u_t_lawfulCount u_t_lawfulSystems u_t_judgedBy u_t_judged u_t_wheel y0.1 s_t_orderCount s_t_size y0.2 r_t_orders) → va_S A s.heap H locs → lv_has ls 4 [] → W p l e rX0_isLeastOfItsOwn s m args below meth c H locs 0 0 Q (F0 m 38 ls [])) ∧ (∀ z0, eo = Sum.inr z0 → ∀ (H : Heap) (locs : List Loc) (ls : Array Slot), va_P D vwCl (w_X0_isLeastOfItsOwn cI cB cZ a_t a_t_keepers a_t_orders u_t_wives u_t_children u_t_shares u_t_kindCount u_t_lawful u_t_lawfulCount u_t_lawfulSystems u_t_judgedBy u_t_judged u_t_wheel z0.1 s_t_orderCount s_t_size z0.2 r_t_orders) H → va_D A (w_X0_isLeastOfItsOwn cI cB cZ a_t a_t_keepers a_t_orders u_t_wives u_t_children u_t_shares u_t_kindCount u_t_lawful u_t_lawfulCount u_t_lawfulSystems u_t_judgedBy u_t_judged u_t_wheel z0.1 s_t_orderCount s_t_size z0.2 r_t_orders) → va_S A s.heap H locs → lv_has ls 4 [] → W p l e rX0_isLeastOfItsOwn s m args below meth c H locs 0 0 Q (F0 m 85 ls []))) → ∀ (H : Heap) (locs : List Loc) (ls : Array Slot), va_P D vwCl (w_X0_isLeastOfItsOwn cI cB cZ a_t a_t_keepers a_t_orders u_t_wives u_t_children u_t_shares u_t_kindCount u_t_lawful u_t_lawfulCount u_t_lawfulSystems u_t_judgedBy u_t_judged u_t_wheel s_t_keeperCount s_t_orderCount s_t_size r_t_keepers r_t_orders) H → va_D A (w_X0_isLeastOfItsOwn cI cB cZ a_t a_t_keepers a_t_orders u_t_wives u_t_children u_t_shares u_t_kindCount u_t_lawful u_t_lawfulCount u_t_lawfulSystems u_t_judgedBy u_t_judged u_t_wheel s_t_keeperCount s_t_orderCount s_t_size r_t_keepers r_t_orders) → va_S A s.heap H locs → lv_has ls 4 [(0, .ref a_t), (1, .int x1), (2, .int x2)] → W p l e rX0_isLeastOfItsOwn s m args below meth c H locs 0 0 Q (F0 m 7 ls []) := by
  intro n
  induction n with
  | zero =>
    intro s_t_keeperCount r_t_keepers x2 eo hf
    exact (jI_zero hf).elim
  | succ n ih =>
    intro s_t_keeperCount r_t_keepers x2 eo hf K H locs ls hP hD hS hl
    obtain ⟨o, hb1, ho⟩ := jI_some hf
    rcases ho with ⟨z, rfl, hf2⟩ | rfl
    · exact t_X0_isLeastOfItsOwn_b7 G D cI cB cZ a_t a_t_keepers a_t_orders u_t_wives u_t_children u_t_shares u_t_kindCount u_t_lawful u_t_lawfulCount u_t_lawfulSystems u_t_judgedBy u_t_judged u_t_wheel s_t_orderCount s_t_size r_t_orders s_t_keeperCount r_t_keepers x1 x2 C hb1 ⟨fun z2 hz H locs ls hP hD hS hl => by cases hz; exact ih z.1 z.2.1 z.2.2 hf2 K H locs ls hP hD hS hl, fun z2 hz => by cases hz⟩ hP hD hS hl
    · exact t_X0_isLeastOfItsOwn_b7 G D cI cB cZ a_t a_t_keepers a_t_orders u_t_wives u_t_children u_t_shares u_t_kindCount u_t_lawful u_t_lawfulCount u_t_lawfulSystems u_t_judgedBy u_t_judged u_t_wheel s_t_orderCount s_t_size r_t_orders s_t_keeperCount r_t_keepers x1 x2 C hb1 ⟨fun z2 hz => (by cases hz), fun z2 hz => by cases hz; exact K⟩ hP hD hS hl
def f_X0_isLeastOfItsOwn (s_t_orderCount s_t_size : Int32) (r_t_orders : jA) (s_t_keeperCount : Int32) (r_t_keepers : jA) (x1 : Int32) : Option (Int32 × Int32 × jA) :=
  jM (f_X0_isLeastOfItsOwn_l7 s_t_orderCount s_t_size r_t_orders x1 (0 : Int32) r_t_keepers (0 : Int32)) fun e11 =>
  Sum.elim (fun y12 =>
  some ((0 : Int32), y12.1, y12.2)) (fun w13 =>
  some ((1 : Int32), w13.1, w13.2)) e11
set_option maxHeartbeats 4000000 in
set_option maxRecDepth 100000 in
theorem t_X0_isLeastOfItsOwn {p : Program} {l : Launch} {e : Env} {s : State} {m : MethodId} {args : Array Value} {below : List Frame} {meth : Method} {c : Code} {A : Nat → Prop} {Q : State → Prop} (G : jGt) (D : va_G) (cI cB cZ : ClassId) (a_t a_t_keepers a_t_orders : Nat) (u_t_wives u_t_children u_t_shares : Value) (u_t_kindCount : Int32) (u_t_lawful : Value) (u_t_lawfulCount u_t_lawfulSystems : Int32) (u_t_judgedBy : Value) (u_t_judged : Int32) (u_t_wheel : Value) (s_t_orderCount s_t_size : Int32) (r_t_orders : jA) (s_t_keeperCount : Int32) (r_t_keepers : jA) (x1 : Int32) (C : jCx p s m args c cX0_isLeastOfItsOwn 4 gX0_isLeastOfItsOwn RX0 G D (jT cI cB cZ) A) {o : Int32 × Int32 × jA} (hf : f_X0_isLeastOfItsOwn s_t_orderCount s_t_size r_t_orders s_t_keeperCount r_t_keepers x1 = some o) (K : ∀ (H : Heap) (locs : List Loc) (pc : Nat) (ls : Array Slot), (o.1 = 0 ∨ o.1 = 1) → va_P D vwCl (w_X0_isLeastOfItsOwn cI cB cZ a_t a_t_keepers a_t_orders u_t_wives u_t_children u_t_shares u_t_kindCount u_t_lawful u_t_lawfulCount u_t_lawfulSystems u_t_judgedBy u_t_judged u_t_wheel o.2.1 s_t_orderCount s_t_size o.2.2 r_t_orders) H → va_S A s.heap H locs → decode cX0_isLeastOfItsOwn pc = .ok (.ireturn, 1) → W p l e rX0_isLeastOfItsOwn s m args below meth c H locs 0 0 Q (F0 m pc ls [.int o.1])) {H : Heap} {locs : List Loc} {ls : Array Slot} (hP : va_P D vwCl (w_X0_isLeastOfItsOwn cI cB cZ a_t a_t_keepers a_t_orders u_t_wives u_t_children u_t_shares u_t_kindCount u_t_lawful u_t_lawfulCount u_t_lawfulSystems u_t_judgedBy u_t_judged u_t_wheel s_t_keeperCount s_t_orderCount s_t_size r_t_keepers r_t_orders) H) (hD : va_D A (w_X0_isLeastOfItsOwn cI cB cZ a_t a_t_keepers a_t_orders u_t_wives u_t_children u_t_shares u_t_kindCount u_t_lawful u_t_lawfulCount u_t_lawfulSystems u_t_judgedBy u_t_judged u_t_wheel s_t_keeperCount s_t_orderCount s_t_size r_t_keepers r_t_orders)) (hS : va_S A s.heap H locs) (hl : lv_has ls 4 [(0, .ref a_t), (1, .int x1)]) : W p l e rX0_isLeastOfItsOwn s m args below meth c H locs 0 0 Q (F0 m 0 ls []) := by
  obtain ⟨⟨hx, hb, hml, hown, hts⟩, hK, hN, hA⟩ := C
  have C : jCx p s m args c cX0_isLeastOfItsOwn 4 gX0_isLeastOfItsOwn RX0 G D (jT cI cB cZ) A := ⟨⟨hx, hb, hml, hown, hts⟩, hK, hN, hA⟩
  unfold f_X0_isLeastOfItsOwn at hf
  refine lv_aload_n hx hb dX0_isLeastOfItsOwn_0 rfl (lv_at hl 0 rfl) ?_
  refine lv_iconst (v := (0 : Int32)) hx hb dX0_isLeastOfItsOwn_1 (by decide) ?_
  refine va_put (D := D) (ci := 0) (v := .int (0 : Int32)) (ty := .int) (C := RX0) (T := TX0) (N := 15) hx hb hts iw_X0 tyX0 tyX0_ok nmX0 hown hK hP hD hS 0 rfl rfl 4 (by decide) (hts _ (wG_in k_fl_X0_76 rfl)) (fun _ h9 => h9) rfl (tyX0_ok 4 (by decide)) rfl rfl (Nat.le_of_ble_eq_true rfl) dX0_isLeastOfItsOwn_2 (fun H locs hP hD hS => ?_)
  have hP : va_P D vwCl (w_X0_isLeastOfItsOwn cI cB cZ a_t a_t_keepers a_t_orders u_t_wives u_t_children u_t_shares u_t_kindCount u_t_lawful u_t_lawfulCount u_t_lawfulSystems u_t_judgedBy u_t_judged u_t_wheel (0 : Int32) s_t_orderCount s_t_size r_t_keepers r_t_orders) H := hP
  have hD : va_D A (w_X0_isLeastOfItsOwn cI cB cZ a_t a_t_keepers a_t_orders u_t_wives u_t_children u_t_shares u_t_kindCount u_t_lawful u_t_lawfulCount u_t_lawfulSystems u_t_judgedBy u_t_judged u_t_wheel (0 : Int32) s_t_orderCount s_t_size r_t_keepers r_t_orders) := hD
  refine lv_iconst (v := (0 : Int32)) hx hb dX0_isLeastOfItsOwn_5 (by decide) ?_
  refine lv_istore_n (lv' := [(2, .int (0 : Int32)), (0, .ref a_t), (1, .int x1)]) hx hb dX0_isLeastOfItsOwn_6 rfl hl (by decide) rfl (fun ls hl => ?_)
  obtain ⟨e11, hg11, hf⟩ := jM_some hf
  refine t_X0_isLeastOfItsOwn_l7 G D cI cB cZ a_t a_t_keepers a_t_orders u_t_wives u_t_children u_t_shares u_t_kindCount u_t_lawful u_t_lawfulCount u_t_lawfulSystems u_t_judgedBy u_t_judged u_t_wheel s_t_orderCount s_t_size r_t_orders x1 C jF (0 : Int32) r_t_keepers (0 : Int32) hg11 ?_ _ _ _ hP hD hS (lv_sub hl [1, 2, 0] rfl)
  refine ⟨fun y12 hy => ?_, fun w13 hy => ?_⟩
  · replace hf := jE_l hy hf
    intro H locs ls hP hD hS hl
    refine lv_iconst (v := (0 : Int32)) hx hb dX0_isLeastOfItsOwn_38 (by decide) ?_
    have ho := Option.some.inj hf
    subst ho
    exact K _ _ _ _ (Or.inl rfl) hP hS dX0_isLeastOfItsOwn_39
  · replace hf := jE_r hy hf
    intro H locs ls hP hD hS hl
    refine lv_iconst (v := (1 : Int32)) hx hb dX0_isLeastOfItsOwn_85 (by decide) ?_
    have ho := Option.some.inj hf
    subst ho
    exact K _ _ _ _ (Or.inr rfl) hP hS dX0_isLeastOfItsOwn_86
set_option maxHeartbeats 4000000 in
set_option maxRecDepth 100000 in
theorem c_X0_isLeastOfItsOwn (l : Launch) (G : jGt) (D : va_G) (cI cB cZ : ClassId) (a_t a_t_keepers a_t_orders : Nat) (u_t_wives u_t_children u_t_shares : Value) (u_t_kindCount : Int32) (u_t_lawful : Value) (u_t_lawfulCount u_t_lawfulSystems : Int32) (u_t_judgedBy : Value) (u_t_judged : Int32) (u_t_wheel : Value) (s_t_orderCount s_t_size : Int32) (r_t_orders : jA) (s_t_keeperCount : Int32) (r_t_keepers : jA) (x1 : Int32) {o : Int32 × Int32 × jA} (hf : f_X0_isLeastOfItsOwn s_t_orderCount s_t_size r_t_orders s_t_keeperCount r_t_keepers x1 = some o) : jMi l yX0_isLeastOfItsOwn gX0_isLeastOfItsOwn rX0_isLeastOfItsOwn G D (jT cI cB cZ) [.ref a_t, .int x1] (w_X0_isLeastOfItsOwn cI cB cZ a_t a_t_keepers a_t_orders u_t_wives u_t_children u_t_shares u_t_kindCount u_t_lawful u_t_lawfulCount u_t_lawfulSystems u_t_judgedBy u_t_judged u_t_wheel s_t_keeperCount s_t_orderCount s_t_size r_t_keepers r_t_orders) (w_X0_isLeastOfItsOwn cI cB cZ a_t a_t_keepers a_t_orders u_t_wives u_t_children u_t_shares u_t_kindCount u_t_lawful u_t_lawfulCount u_t_lawfulSystems u_t_judgedBy u_t_judged u_t_wheel o.2.1 s_t_orderCount s_t_size o.2.2 r_t_orders) o.1 := by
  refine jmk_z RX0 rfl (by decide +kernel) rfl (Nat.le_of_ble_eq_true rfl) rfl ?_
  intro p e s m args below meth c ls A Q C hP hD hS hl K
  exact t_X0_isLeastOfItsOwn G D cI cB cZ a_t a_t_keepers a_t_orders u_t_wives u_t_children u_t_shares u_t_kindCount u_t_lawful u_t_lawfulCount u_t_lawfulSystems u_t_judgedBy u_t_judged u_t_wheel s_t_orderCount s_t_size r_t_orders s_t_keeperCount r_t_keepers x1 C hf K hP hD hS hl
abbrev rX0_namesThatKeep : Room := { frames := 2, cells := 0, slots := 0, locals := 48 }
abbrev gX0_namesThatKeep : List Cond := wG yX0_namesThatKeep cX0_namesThatKeep 5 (some .int)
def w_X0_namesThatKeep (cI cB cZ : ClassId) (a_t a_t_keepers : Nat) (u_t_orders : Value) (u_t_orderCount : Int32) (u_t_wives u_t_children u_t_shares : Value) (u_t_kindCount : Int32) (u_t_lawful : Value) (u_t_lawfulCount u_t_lawfulSystems : Int32) (u_t_judgedBy : Value) (u_t_judged : Int32) (u_t_wheel : Value) (s_t_keeperCount s_t_size : Int32) (r_t_keepers : jA) : va_W := [(a_t, .inr (0, (oX0 s_t_size u_t_orders u_t_orderCount (.ref a_t_keepers) s_t_keeperCount u_t_wives u_t_children u_t_shares u_t_kindCount u_t_lawful u_t_lawfulCount u_t_lawfulSystems u_t_judgedBy u_t_judged u_t_wheel))), (a_t_keepers, .inl (cI, r_t_keepers.1, .inl r_t_keepers.2))]
def f_X0_namesThatKeep_j48 (x1 x2 x3 : Int32) : Option ((Int32 × Int32) ⊕ ((Unit) ⊕ ((Int32)))) :=
  some (Sum.inl (x2, (x3 + 1)))
set_option maxHeartbeats 4000000 in
set_option maxRecDepth 100000 in
theorem t_X0_namesThatKeep_j48 {p : Program} {l : Launch} {e : Env} {s : State} {m : MethodId} {args : Array Value} {below : List Frame} {meth : Method} {c : Code} {A : Nat → Prop} {Q : State → Prop} (G : jGt) (D : va_G) (cI cB cZ : ClassId) (a_t a_t_keepers : Nat) (u_t_orders : Value) (u_t_orderCount : Int32) (u_t_wives u_t_children u_t_shares : Value) (u_t_kindCount : Int32) (u_t_lawful : Value) (u_t_lawfulCount u_t_lawfulSystems : Int32) (u_t_judgedBy : Value) (u_t_judged : Int32) (u_t_wheel : Value) (s_t_keeperCount s_t_size : Int32) (r_t_keepers : jA) (x1 x2 x3 : Int32) (C : jCx p s m args c cX0_namesThatKeep 5 gX0_namesThatKeep RX0 G D (jT cI cB cZ) A) {o : (Int32 × Int32) ⊕ ((Unit) ⊕ ((Int32)))} (hf : f_X0_namesThatKeep_j48 x1 x2 x3 = some o) (K : (∀ z, o = Sum.inl z → ∀ (H : Heap) (locs : List Loc) (ls : Array Slot), va_P D vwCl (w_X0_namesThatKeep cI cB cZ a_t a_t_keepers u_t_orders u_t_orderCount u_t_wives u_t_children u_t_shares u_t_kindCount u_t_lawful u_t_lawfulCount u_t_lawfulSystems u_t_judgedBy u_t_judged u_t_wheel s_t_keeperCount s_t_size r_t_keepers) H → va_D A (w_X0_namesThatKeep cI cB cZ a_t a_t_keepers u_t_orders u_t_orderCount u_t_wives u_t_children u_t_shares u_t_kindCount u_t_lawful u_t_lawfulCount u_t_lawfulSystems u_t_judgedBy u_t_judged u_t_wheel s_t_keeperCount s_t_size r_t_keepers) → va_S A s.heap H locs → lv_has ls 5 [(0, .ref a_t), (1, .int x1), (2, .int z.1), (3, .int z.2)] → W p l e rX0_namesThatKeep s m args below meth c H locs 0 0 Q (F0 m 4 ls [])) ∧ (∀ z, o = Sum.inr z → (∀ y0, z = Sum.inl y0 → ∀ (H : Heap) (locs : List Loc) (ls : Array Slot), va_P D vwCl (w_X0_namesThatKeep cI cB cZ a_t a_t_keepers u_t_orders u_t_orderCount u_t_wives u_t_children u_t_shares u_t_kindCount u_t_lawful u_t_lawfulCount u_t_lawfulSystems u_t_judgedBy u_t_judged u_t_wheel s_t_keeperCount s_t_size r_t_keepers) H → va_D A (w_X0_namesThatKeep cI cB cZ a_t a_t_keepers u_t_orders u_t_orderCount u_t_wives u_t_children u_t_shares u_t_kindCount u_t_lawful u_t_lawfulCount u_t_lawfulSystems u_t_judgedBy u_t_judged u_t_wheel s_t_keeperCount s_t_size r_t_keepers) → va_S A s.heap H locs → lv_has ls 5 [] → W p l e rX0_namesThatKeep s m args below meth c H locs 0 0 Q (F0 m 37 ls [])) ∧ (∀ z0, z = Sum.inr z0 → ∀ (H : Heap) (locs : List Loc) (ls : Array Slot), va_P D vwCl (w_X0_namesThatKeep cI cB cZ a_t a_t_keepers u_t_orders u_t_orderCount u_t_wives u_t_children u_t_shares u_t_kindCount u_t_lawful u_t_lawfulCount u_t_lawfulSystems u_t_judgedBy u_t_judged u_t_wheel s_t_keeperCount s_t_size r_t_keepers) H → va_D A (w_X0_namesThatKeep cI cB cZ a_t a_t_keepers u_t_orders u_t_orderCount u_t_wives u_t_children u_t_shares u_t_kindCount u_t_lawful u_t_lawfulCount u_t_lawfulSystems u_t_judgedBy u_t_judged u_t_wheel s_t_keeperCount s_t_size r_t_keepers) → va_S A s.heap H locs → lv_has ls 5 [(2, .int z0)] → W p l e rX0_namesThatKeep s m args below meth c H locs 0 0 Q (F0 m 54 ls [])))) {H : Heap} {locs : List Loc} {ls : Array Slot} (hP : va_P D vwCl (w_X0_namesThatKeep cI cB cZ a_t a_t_keepers u_t_orders u_t_orderCount u_t_wives u_t_children u_t_shares u_t_kindCount u_t_lawful u_t_lawfulCount u_t_lawfulSystems u_t_judgedBy u_t_judged u_t_wheel s_t_keeperCount s_t_size r_t_keepers) H) (hD : va_D A (w_X0_namesThatKeep cI cB cZ a_t a_t_keepers u_t_orders u_t_orderCount u_t_wives u_t_children u_t_shares u_t_kindCount u_t_lawful u_t_lawfulCount u_t_lawfulSystems u_t_judgedBy u_t_judged u_t_wheel s_t_keeperCount s_t_size r_t_keepers)) (hS : va_S A s.heap H locs) (hl : lv_has ls 5 [(0, .ref a_t), (1, .int x1), (2, .int x2), (3, .int x3)]) : W p l e rX0_namesThatKeep s m args below meth c H locs 0 0 Q (F0 m 48 ls []) := by
  obtain ⟨⟨hx, hb, hml, hown, hts⟩, hK, hN, hA⟩ := C
  have C : jCx p s m args c cX0_namesThatKeep 5 gX0_namesThatKeep RX0 G D (jT cI cB cZ) A := ⟨⟨hx, hb, hml, hown, hts⟩, hK, hN, hA⟩
  unfold f_X0_namesThatKeep_j48 at hf
  refine lv_iinc (v := (x3 + 1)) (lv' := [(3, .int (x3 + 1)), (0, .ref a_t), (1, .int x1), (2, .int x2)]) hx hb dX0_namesThatKeep_48 hl (k := 3) rfl (by first | rfl | decide) (by decide) rfl (fun ls hl => ?_)
  refine lv_goto (tgt := 4) hx hb dX0_namesThatKeep_51 (by decide) ?_
  have ho := Option.some.inj hf
  exact K.1 _ ho.symm _ _ _ hP hD hS (lv_sub hl [1, 2, 3, 0] rfl)
def f_X0_namesThatKeep_b4 (s_t_keeperCount s_t_size : Int32) (r_t_keepers : jA) (x1 x2 x3 : Int32) : Option ((Int32 × Int32) ⊕ ((Unit) ⊕ ((Int32)))) :=
  if s_t_keeperCount ≤ x3 then
  some (Sum.inr (Sum.inr x2))
  else
  if (120 : Int32) ≤ x3 then
  some (Sum.inr (Sum.inr x2))
  else
  jL r_t_keepers x3 fun v3 =>
  jM (f_X0_renamed s_t_size x1 v3) fun r4 =>
  if x1 ≤ r4 then
  if r4 = x1 then
  f_X0_namesThatKeep_j48 x1 (x2 + 1) x3
  else
  f_X0_namesThatKeep_j48 x1 x2 x3
  else
  some (Sum.inr (Sum.inl ()))
set_option maxHeartbeats 4000000 in
set_option maxRecDepth 100000 in
theorem t_X0_namesThatKeep_b4 {p : Program} {l : Launch} {e : Env} {s : State} {m : MethodId} {args : Array Value} {below : List Frame} {meth : Method} {c : Code} {A : Nat → Prop} {Q : State → Prop} (G : jGt) (D : va_G) (cI cB cZ : ClassId) (a_t a_t_keepers : Nat) (u_t_orders : Value) (u_t_orderCount : Int32) (u_t_wives u_t_children u_t_shares : Value) (u_t_kindCount : Int32) (u_t_lawful : Value) (u_t_lawfulCount u_t_lawfulSystems : Int32) (u_t_judgedBy : Value) (u_t_judged : Int32) (u_t_wheel : Value) (s_t_keeperCount s_t_size : Int32) (r_t_keepers : jA) (x1 x2 x3 : Int32) (C : jCx p s m args c cX0_namesThatKeep 5 gX0_namesThatKeep RX0 G D (jT cI cB cZ) A) {o : (Int32 × Int32) ⊕ ((Unit) ⊕ ((Int32)))} (hf : f_X0_namesThatKeep_b4 s_t_keeperCount s_t_size r_t_keepers x1 x2 x3 = some o) (K : (∀ z, o = Sum.inl z → ∀ (H : Heap) (locs : List Loc) (ls : Array Slot), va_P D vwCl (w_X0_namesThatKeep cI cB cZ a_t a_t_keepers u_t_orders u_t_orderCount u_t_wives u_t_children u_t_shares u_t_kindCount u_t_lawful u_t_lawfulCount u_t_lawfulSystems u_t_judgedBy u_t_judged u_t_wheel s_t_keeperCount s_t_size r_t_keepers) H → va_D A (w_X0_namesThatKeep cI cB cZ a_t a_t_keepers u_t_orders u_t_orderCount u_t_wives u_t_children u_t_shares u_t_kindCount u_t_lawful u_t_lawfulCount u_t_lawfulSystems u_t_judgedBy u_t_judged u_t_wheel s_t_keeperCount s_t_size r_t_keepers) → va_S A s.heap H locs → lv_has ls 5 [(0, .ref a_t), (1, .int x1), (2, .int z.1), (3, .int z.2)] → W p l e rX0_namesThatKeep s m args below meth c H locs 0 0 Q (F0 m 4 ls [])) ∧ (∀ z, o = Sum.inr z → (∀ y0, z = Sum.inl y0 → ∀ (H : Heap) (locs : List Loc) (ls : Array Slot), va_P D vwCl (w_X0_namesThatKeep cI cB cZ a_t a_t_keepers u_t_orders u_t_orderCount u_t_wives u_t_children u_t_shares u_t_kindCount u_t_lawful u_t_lawfulCount u_t_lawfulSystems u_t_judgedBy u_t_judged u_t_wheel s_t_keeperCount s_t_size r_t_keepers) H → va_D A (w_X0_namesThatKeep cI cB cZ a_t a_t_keepers u_t_orders u_t_orderCount u_t_wives u_t_children u_t_shares u_t_kindCount u_t_lawful u_t_lawfulCount u_t_lawfulSystems u_t_judgedBy u_t_judged u_t_wheel s_t_keeperCount s_t_size r_t_keepers) → va_S A s.heap H locs → lv_has ls 5 [] → W p l e rX0_namesThatKeep s m args below meth c H locs 0 0 Q (F0 m 37 ls [])) ∧ (∀ z0, z = Sum.inr z0 → ∀ (H : Heap) (locs : List Loc) (ls : Array Slot), va_P D vwCl (w_X0_namesThatKeep cI cB cZ a_t a_t_keepers u_t_orders u_t_orderCount u_t_wives u_t_children u_t_shares u_t_kindCount u_t_lawful u_t_lawfulCount u_t_lawfulSystems u_t_judgedBy u_t_judged u_t_wheel s_t_keeperCount s_t_size r_t_keepers) H → va_D A (w_X0_namesThatKeep cI cB cZ a_t a_t_keepers u_t_orders u_t_orderCount u_t_wives u_t_children u_t_shares u_t_kindCount u_t_lawful u_t_lawfulCount u_t_lawfulSystems u_t_judgedBy u_t_judged u_t_wheel s_t_keeperCount s_t_size r_t_keepers) → va_S A s.heap H locs → lv_has ls 5 [(2, .int z0)] → W p l e rX0_namesThatKeep s m args below meth c H locs 0 0 Q (F0 m 54 ls [])))) {H : Heap} {locs : List Loc} {ls : Array Slot} (hP : va_P D vwCl (w_X0_namesThatKeep cI cB cZ a_t a_t_keepers u_t_orders u_t_orderCount u_t_wives u_t_children u_t_shares u_t_kindCount u_t_lawful u_t_lawfulCount u_t_lawfulSystems u_t_judgedBy u_t_judged u_t_wheel s_t_keeperCount s_t_size r_t_keepers) H) (hD : va_D A (w_X0_namesThatKeep cI cB cZ a_t a_t_keepers u_t_orders u_t_orderCount u_t_wives u_t_children u_t_shares u_t_kindCount u_t_lawful u_t_lawfulCount u_t_lawfulSystems u_t_judgedBy u_t_judged u_t_wheel s_t_keeperCount s_t_size r_t_keepers)) (hS : va_S A s.heap H locs) (hl : lv_has ls 5 [(0, .ref a_t), (1, .int x1), (2, .int x2), (3, .int x3)]) : W p l e rX0_namesThatKeep s m args below meth c H locs 0 0 Q (F0 m 4 ls []) := by
  obtain ⟨⟨hx, hb, hml, hown, hts⟩, hK, hN, hA⟩ := C
  have C : jCx p s m args c cX0_namesThatKeep 5 gX0_namesThatKeep RX0 G D (jT cI cB cZ) A := ⟨⟨hx, hb, hml, hown, hts⟩, hK, hN, hA⟩
  unfold f_X0_namesThatKeep_b4 at hf
  refine lv_iload_n hx hb dX0_namesThatKeep_4 rfl (lv_at hl 3 rfl) ?_
  refine lv_aload_n hx hb dX0_namesThatKeep_5 rfl (lv_at hl 0 rfl) ?_
  refine va_get (D := D) (ci := 0) (v := .int s_t_keeperCount) (C := RX0) (T := TX0) (N := 15) hx hb hts iw_X0 hown hK hP 0 rfl rfl 4 (by decide) (hts _ (wG_in k_fl_X0_76 rfl)) (fun _ h9 => h9) rfl dX0_namesThatKeep_6 ?_
  refine lv_icmp_ge (tgt := 54) hx hb dX0_namesThatKeep_9 (by decide) (fun c1 => ?_) (fun c1 => ?_)
  · replace hf := jif_t c1 hf
    have ho := Option.some.inj hf
    exact ((K.2 _ ho.symm).2 _ rfl) _ _ _ hP hD hS (lv_sub hl [2] rfl)
  · replace hf := jif_f c1 hf
    refine lv_iload_n hx hb dX0_namesThatKeep_12 rfl (lv_at hl 3 rfl) ?_
    refine lv_bipush (v := (120 : Int32)) hx hb dX0_namesThatKeep_13 (by decide) ?_
    refine lv_icmp_ge (tgt := 54) hx hb dX0_namesThatKeep_15 (by decide) (fun c2 => ?_) (fun c2 => ?_)
    · replace hf := jif_t c2 hf
      have ho := Option.some.inj hf
      exact ((K.2 _ ho.symm).2 _ rfl) _ _ _ hP hD hS (lv_sub hl [2] rfl)
    · replace hf := jif_f c2 hf
      refine lv_aload_n hx hb dX0_namesThatKeep_18 rfl (lv_at hl 0 rfl) ?_
      refine lv_iload_n hx hb dX0_namesThatKeep_19 rfl (lv_at hl 1 rfl) ?_
      refine lv_aload_n hx hb dX0_namesThatKeep_20 rfl (lv_at hl 0 rfl) ?_
      refine va_get (D := D) (ci := 0) (v := .ref a_t_keepers) (C := RX0) (T := TX0) (N := 15) hx hb hts iw_X0 hown hK hP 0 rfl rfl 3 (by decide) (hts _ (wG_in k_fl_X0_15 rfl)) (fun _ h9 => h9) rfl dX0_namesThatKeep_21 ?_
      refine lv_iload_n hx hb dX0_namesThatKeep_24 rfl (lv_at hl 3 rfl) ?_
      obtain ⟨v3, hv3, iv3, hf⟩ := jL_some hf
      refine ja_iald (P := r_t_keepers) hx hb hK hP 1 0 rfl rfl hv3 iv3 dX0_namesThatKeep_25 ?_
      obtain ⟨r4, hgr4, hf⟩ := jM_some hf
      refine jcV_i0 (As := [.int x1, .int v3]) (rest := []) ⟨hx, hb, hml, hown, hts⟩ hK hN hA (c_X0_renamed l G D cI cB cZ a_t u_t_orders u_t_orderCount (.ref a_t_keepers) s_t_keeperCount u_t_wives u_t_children u_t_shares u_t_kindCount u_t_lawful u_t_lawfulCount u_t_lawfulSystems u_t_judgedBy u_t_judged u_t_wheel s_t_size x1 v3 hgr4) (cwV 2 hts (wG_V k_ml_X0_79 k_im_X0_renamed k_se_X0_renamed k_in_X0 k_co_X0_renamed) rfl rfl rfl hd_X0_renamed ⟨Nat.le_of_ble_eq_true rfl, Nat.le_of_ble_eq_true rfl⟩) hP hD hS [0] rfl rfl rfl (ci := 0) rfl 0 rfl rfl rfl hl.1 rfl (Nat.le_of_ble_eq_true rfl) dX0_namesThatKeep_26 ⟨Nat.le_of_ble_eq_true rfl, Nat.le_of_ble_eq_true rfl⟩ (fun H locs hP hD hS => ?_)
      refine lv_istore (lv' := [(4, .int r4), (0, .ref a_t), (1, .int x1), (2, .int x2), (3, .int x3)]) hx hb dX0_namesThatKeep_29 hl (by decide) rfl (fun ls hl => ?_)
      refine lv_iload hx hb dX0_namesThatKeep_31 (lv_at hl 0 rfl) ?_
      refine lv_iload_n hx hb dX0_namesThatKeep_33 rfl (lv_at hl 2 rfl) ?_
      refine lv_icmp_ge (tgt := 39) hx hb dX0_namesThatKeep_34 (by decide) (fun c5 => ?_) (fun c5 => ?_)
      · replace hf := jif_t c5 hf
        refine lv_iload hx hb dX0_namesThatKeep_39 (lv_at hl 0 rfl) ?_
        refine lv_iload_n hx hb dX0_namesThatKeep_41 rfl (lv_at hl 2 rfl) ?_
        refine lv_icmp_ne (tgt := 48) hx hb dX0_namesThatKeep_42 (by decide) (fun c6 => ?_) (fun c6 => ?_)
        · replace hf := jif_f c6 hf
          exact t_X0_namesThatKeep_j48 G D cI cB cZ a_t a_t_keepers u_t_orders u_t_orderCount u_t_wives u_t_children u_t_shares u_t_kindCount u_t_lawful u_t_lawfulCount u_t_lawfulSystems u_t_judgedBy u_t_judged u_t_wheel s_t_keeperCount s_t_size r_t_keepers x1 x2 x3 C hf K hP hD hS (lv_sub hl [1, 2, 3, 4] rfl)
        · replace hf := jif_t c6 hf
          refine lv_iinc (v := (x2 + 1)) (lv' := [(2, .int (x2 + 1)), (4, .int r4), (0, .ref a_t), (1, .int x1), (3, .int x3)]) hx hb dX0_namesThatKeep_45 hl (k := 3) rfl (by first | rfl | decide) (by decide) rfl (fun ls hl => ?_)
          exact t_X0_namesThatKeep_j48 G D cI cB cZ a_t a_t_keepers u_t_orders u_t_orderCount u_t_wives u_t_children u_t_shares u_t_kindCount u_t_lawful u_t_lawfulCount u_t_lawfulSystems u_t_judgedBy u_t_judged u_t_wheel s_t_keeperCount s_t_size r_t_keepers x1 (x2 + 1) x3 C hf K hP hD hS (lv_sub hl [2, 3, 0, 4] rfl)
      · replace hf := jif_f c5 hf
        have ho := Option.some.inj hf
        exact ((K.2 _ ho.symm).1 _ rfl) _ _ _ hP hD hS (lv_sub hl [] rfl)
def f_X0_namesThatKeep_l4 (s_t_keeperCount s_t_size : Int32) (r_t_keepers : jA) (x1 x2 x3 : Int32) : Option ((Unit) ⊕ ((Int32))) :=
  jI (fun z => f_X0_namesThatKeep_b4 s_t_keeperCount s_t_size r_t_keepers x1 z.1 z.2) jF (x2, x3)
set_option maxHeartbeats 4000000 in
set_option maxRecDepth 100000 in
theorem t_X0_namesThatKeep_l4 {p : Program} {l : Launch} {e : Env} {s : State} {m : MethodId} {args : Array Value} {below : List Frame} {meth : Method} {c : Code} {A : Nat → Prop} {Q : State → Prop} (G : jGt) (D : va_G) (cI cB cZ : ClassId) (a_t a_t_keepers : Nat) (u_t_orders : Value) (u_t_orderCount : Int32) (u_t_wives u_t_children u_t_shares : Value) (u_t_kindCount : Int32) (u_t_lawful : Value) (u_t_lawfulCount u_t_lawfulSystems : Int32) (u_t_judgedBy : Value) (u_t_judged : Int32) (u_t_wheel : Value) (s_t_keeperCount s_t_size : Int32) (r_t_keepers : jA) (x1 : Int32) (C : jCx p s m args c cX0_namesThatKeep 5 gX0_namesThatKeep RX0 G D (jT cI cB cZ) A) : ∀ (n : Nat) (x2 x3 : Int32) {eo : (Unit) ⊕ ((Int32))}, jI (fun z => f_X0_namesThatKeep_b4 s_t_keeperCount s_t_size r_t_keepers x1 z.1 z.2) n (x2, x3) = some eo → ((∀ y0, eo = Sum.inl y0 → ∀ (H : Heap) (locs : List Loc) (ls : Array Slot), va_P D vwCl (w_X0_namesThatKeep cI cB cZ a_t a_t_keepers u_t_orders u_t_orderCount u_t_wives u_t_children u_t_shares u_t_kindCount u_t_lawful u_t_lawfulCount u_t_lawfulSystems u_t_judgedBy u_t_judged u_t_wheel s_t_keeperCount s_t_size r_t_keepers) H → va_D A (w_X0_namesThatKeep cI cB cZ a_t a_t_keepers u_t_orders u_t_orderCount u_t_wives u_t_children u_t_shares u_t_kindCount u_t_lawful u_t_lawfulCount u_t_lawfulSystems u_t_judgedBy u_t_judged u_t_wheel s_t_keeperCount s_t_size r_t_keepers) → va_S A s.heap H locs → lv_has ls 5 [] → W p l e rX0_namesThatKeep s m args below meth c H locs 0 0 Q (F0 m 37 ls [])) ∧ (∀ z0, eo = Sum.inr z0 → ∀ (H : Heap) (locs : List Loc) (ls : Array Slot), va_P D vwCl (w_X0_namesThatKeep cI cB cZ a_t a_t_keepers u_t_orders u_t_orderCount u_t_wives u_t_children u_t_shares u_t_kindCount u_t_lawful u_t_lawfulCount u_t_lawfulSystems u_t_judgedBy u_t_judged u_t_wheel s_t_keeperCount s_t_size r_t_keepers) H → va_D A (w_X0_namesThatKeep cI cB cZ a_t a_t_keepers u_t_orders u_t_orderCount u_t_wives u_t_children u_t_shares u_t_kindCount u_t_lawful u_t_lawfulCount u_t_lawfulSystems u_t_judgedBy u_t_judged u_t_wheel s_t_keeperCount s_t_size r_t_keepers) → va_S A s.heap H locs → lv_has ls 5 [(2, .int z0)] → W p l e rX0_namesThatKeep s m args below meth c H locs 0 0 Q (F0 m 54 ls []))) → ∀ (H : Heap) (locs : List Loc) (ls : Array Slot), va_P D vwCl (w_X0_namesThatKeep cI cB cZ a_t a_t_keepers u_t_orders u_t_orderCount u_t_wives u_t_children u_t_shares u_t_kindCount u_t_lawful u_t_lawfulCount u_t_lawfulSystems u_t_judgedBy u_t_judged u_t_wheel s_t_keeperCount s_t_size r_t_keepers) H → va_D A (w_X0_namesThatKeep cI cB cZ a_t a_t_keepers u_t_orders u_t_orderCount u_t_wives u_t_children u_t_shares u_t_kindCount u_t_lawful u_t_lawfulCount u_t_lawfulSystems u_t_judgedBy u_t_judged u_t_wheel s_t_keeperCount s_t_size r_t_keepers) → va_S A s.heap H locs → lv_has ls 5 [(0, .ref a_t), (1, .int x1), (2, .int x2), (3, .int x3)] → W p l e rX0_namesThatKeep s m args below meth c H locs 0 0 Q (F0 m 4 ls []) := by
  intro n
  induction n with
  | zero =>
    intro x2 x3 eo hf
    exact (jI_zero hf).elim
  | succ n ih =>
    intro x2 x3 eo hf K H locs ls hP hD hS hl
    obtain ⟨o, hb1, ho⟩ := jI_some hf
    rcases ho with ⟨z, rfl, hf2⟩ | rfl
    · exact t_X0_namesThatKeep_b4 G D cI cB cZ a_t a_t_keepers u_t_orders u_t_orderCount u_t_wives u_t_children u_t_shares u_t_kindCount u_t_lawful u_t_lawfulCount u_t_lawfulSystems u_t_judgedBy u_t_judged u_t_wheel s_t_keeperCount s_t_size r_t_keepers x1 x2 x3 C hb1 ⟨fun z2 hz H locs ls hP hD hS hl => by cases hz; exact ih z.1 z.2 hf2 K H locs ls hP hD hS hl, fun z2 hz => by cases hz⟩ hP hD hS hl
    · exact t_X0_namesThatKeep_b4 G D cI cB cZ a_t a_t_keepers u_t_orders u_t_orderCount u_t_wives u_t_children u_t_shares u_t_kindCount u_t_lawful u_t_lawfulCount u_t_lawfulSystems u_t_judgedBy u_t_judged u_t_wheel s_t_keeperCount s_t_size r_t_keepers x1 x2 x3 C hb1 ⟨fun z2 hz => (by cases hz), fun z2 hz => by cases hz; exact K⟩ hP hD hS hl
def f_X0_namesThatKeep (s_t_keeperCount s_t_size : Int32) (r_t_keepers : jA) (x1 : Int32) : Option (Int32) :=
  jM (f_X0_namesThatKeep_l4 s_t_keeperCount s_t_size r_t_keepers x1 (0 : Int32) (0 : Int32)) fun e7 =>
  Sum.elim (fun y8 =>
  some (0 : Int32)) (fun w9 =>
  some w9) e7
set_option maxHeartbeats 4000000 in
set_option maxRecDepth 100000 in
theorem t_X0_namesThatKeep {p : Program} {l : Launch} {e : Env} {s : State} {m : MethodId} {args : Array Value} {below : List Frame} {meth : Method} {c : Code} {A : Nat → Prop} {Q : State → Prop} (G : jGt) (D : va_G) (cI cB cZ : ClassId) (a_t a_t_keepers : Nat) (u_t_orders : Value) (u_t_orderCount : Int32) (u_t_wives u_t_children u_t_shares : Value) (u_t_kindCount : Int32) (u_t_lawful : Value) (u_t_lawfulCount u_t_lawfulSystems : Int32) (u_t_judgedBy : Value) (u_t_judged : Int32) (u_t_wheel : Value) (s_t_keeperCount s_t_size : Int32) (r_t_keepers : jA) (x1 : Int32) (C : jCx p s m args c cX0_namesThatKeep 5 gX0_namesThatKeep RX0 G D (jT cI cB cZ) A) {o : Int32} (hf : f_X0_namesThatKeep s_t_keeperCount s_t_size r_t_keepers x1 = some o) (K : ∀ (H : Heap) (locs : List Loc) (pc : Nat) (ls : Array Slot), va_P D vwCl (w_X0_namesThatKeep cI cB cZ a_t a_t_keepers u_t_orders u_t_orderCount u_t_wives u_t_children u_t_shares u_t_kindCount u_t_lawful u_t_lawfulCount u_t_lawfulSystems u_t_judgedBy u_t_judged u_t_wheel s_t_keeperCount s_t_size r_t_keepers) H → va_S A s.heap H locs → decode cX0_namesThatKeep pc = .ok (.ireturn, 1) → W p l e rX0_namesThatKeep s m args below meth c H locs 0 0 Q (F0 m pc ls [.int o])) {H : Heap} {locs : List Loc} {ls : Array Slot} (hP : va_P D vwCl (w_X0_namesThatKeep cI cB cZ a_t a_t_keepers u_t_orders u_t_orderCount u_t_wives u_t_children u_t_shares u_t_kindCount u_t_lawful u_t_lawfulCount u_t_lawfulSystems u_t_judgedBy u_t_judged u_t_wheel s_t_keeperCount s_t_size r_t_keepers) H) (hD : va_D A (w_X0_namesThatKeep cI cB cZ a_t a_t_keepers u_t_orders u_t_orderCount u_t_wives u_t_children u_t_shares u_t_kindCount u_t_lawful u_t_lawfulCount u_t_lawfulSystems u_t_judgedBy u_t_judged u_t_wheel s_t_keeperCount s_t_size r_t_keepers)) (hS : va_S A s.heap H locs) (hl : lv_has ls 5 [(0, .ref a_t), (1, .int x1)]) : W p l e rX0_namesThatKeep s m args below meth c H locs 0 0 Q (F0 m 0 ls []) := by
  obtain ⟨⟨hx, hb, hml, hown, hts⟩, hK, hN, hA⟩ := C
  have C : jCx p s m args c cX0_namesThatKeep 5 gX0_namesThatKeep RX0 G D (jT cI cB cZ) A := ⟨⟨hx, hb, hml, hown, hts⟩, hK, hN, hA⟩
  unfold f_X0_namesThatKeep at hf
  refine lv_iconst (v := (0 : Int32)) hx hb dX0_namesThatKeep_0 (by decide) ?_
  refine lv_istore_n (lv' := [(2, .int (0 : Int32)), (0, .ref a_t), (1, .int x1)]) hx hb dX0_namesThatKeep_1 rfl hl (by decide) rfl (fun ls hl => ?_)
  refine lv_iconst (v := (0 : Int32)) hx hb dX0_namesThatKeep_2 (by decide) ?_
  refine lv_istore_n (lv' := [(3, .int (0 : Int32)), (2, .int (0 : Int32)), (0, .ref a_t), (1, .int x1)]) hx hb dX0_namesThatKeep_3 rfl hl (by decide) rfl (fun ls hl => ?_)
  obtain ⟨e7, hg7, hf⟩ := jM_some hf
  refine t_X0_namesThatKeep_l4 G D cI cB cZ a_t a_t_keepers u_t_orders u_t_orderCount u_t_wives u_t_children u_t_shares u_t_kindCount u_t_lawful u_t_lawfulCount u_t_lawfulSystems u_t_judgedBy u_t_judged u_t_wheel s_t_keeperCount s_t_size r_t_keepers x1 C jF (0 : Int32) (0 : Int32) hg7 ?_ _ _ _ hP hD hS (lv_sub hl [2, 3, 1, 0] rfl)
  refine ⟨fun y8 hy => ?_, fun w9 hy => ?_⟩
  · replace hf := jE_l hy hf
    intro H locs ls hP hD hS hl
    refine lv_iconst (v := (0 : Int32)) hx hb dX0_namesThatKeep_37 (by decide) ?_
    have ho := Option.some.inj hf
    subst ho
    exact K _ _ _ _ hP hS dX0_namesThatKeep_38
  · replace hf := jE_r hy hf
    intro H locs ls hP hD hS hl
    refine lv_iload_n hx hb dX0_namesThatKeep_54 rfl (lv_at hl 0 rfl) ?_
    have ho := Option.some.inj hf
    subst ho
    exact K _ _ _ _ hP hS dX0_namesThatKeep_55
set_option maxHeartbeats 4000000 in
set_option maxRecDepth 100000 in
theorem c_X0_namesThatKeep (l : Launch) (G : jGt) (D : va_G) (cI cB cZ : ClassId) (a_t a_t_keepers : Nat) (u_t_orders : Value) (u_t_orderCount : Int32) (u_t_wives u_t_children u_t_shares : Value) (u_t_kindCount : Int32) (u_t_lawful : Value) (u_t_lawfulCount u_t_lawfulSystems : Int32) (u_t_judgedBy : Value) (u_t_judged : Int32) (u_t_wheel : Value) (s_t_keeperCount s_t_size : Int32) (r_t_keepers : jA) (x1 : Int32) {o : Int32} (hf : f_X0_namesThatKeep s_t_keeperCount s_t_size r_t_keepers x1 = some o) : jMi l yX0_namesThatKeep gX0_namesThatKeep rX0_namesThatKeep G D (jT cI cB cZ) [.ref a_t, .int x1] (w_X0_namesThatKeep cI cB cZ a_t a_t_keepers u_t_orders u_t_orderCount u_t_wives u_t_children u_t_shares u_t_kindCount u_t_lawful u_t_lawfulCount u_t_lawfulSystems u_t_judgedBy u_t_judged u_t_wheel s_t_keeperCount s_t_size r_t_keepers) (w_X0_namesThatKeep cI cB cZ a_t a_t_keepers u_t_orders u_t_orderCount u_t_wives u_t_children u_t_shares u_t_kindCount u_t_lawful u_t_lawfulCount u_t_lawfulSystems u_t_judgedBy u_t_judged u_t_wheel s_t_keeperCount s_t_size r_t_keepers) o := by
  refine jmk_i RX0 rfl (by decide +kernel) rfl (Nat.le_of_ble_eq_true rfl) rfl ?_
  intro p e s m args below meth c ls A Q C hP hD hS hl K
  exact t_X0_namesThatKeep G D cI cB cZ a_t a_t_keepers u_t_orders u_t_orderCount u_t_wives u_t_children u_t_shares u_t_kindCount u_t_lawful u_t_lawfulCount u_t_lawfulSystems u_t_judgedBy u_t_judged u_t_wheel s_t_keeperCount s_t_size r_t_keepers x1 C hf K hP hD hS hl

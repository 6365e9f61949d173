abbrev rX10_halvings : Room := { frames := 3, cells := 0, slots := 0, locals := 70 }
abbrev gX10_halvings : List Cond := wG yX10_halvings cX10_halvings 4 (some .int)
def w_X10_halvings (cI cB cZ : ClassId) (a_t a_t_child a_t_husband a_t_wife : Nat) (u_t_father : Value) (s_t_size : Int32) (r_t_child r_t_husband r_t_wife : jA) : va_W := [(a_t, .inr (9, (oX10 (.ref a_t_wife) (.ref a_t_child) (.ref a_t_husband) u_t_father s_t_size))), (a_t_child, .inl (cI, r_t_child.1, .inl r_t_child.2)), (a_t_husband, .inl (cI, r_t_husband.1, .inl r_t_husband.2)), (a_t_wife, .inl (cI, r_t_wife.1, .inl r_t_wife.2))]
def f_X10_halvings_j26 (x1 x2 x3 : Int32) : Option ((Int32 × Int32) ⊕ ((Int32))) :=
  some (Sum.inl (x2, (x3 + 2)))
set_option maxHeartbeats 4000000 in
set_option maxRecDepth 100000 in
theorem t_X10_halvings_j26 {p : Program} {l : Launch} {e : Env} {s : State} {m : MethodId} {args : Array Value} {below : List Frame} {meth : Method} {c : Code} {A : Nat → Prop} {Q : State → Prop} (G : jGt) (D : va_G) (cI cB cZ : ClassId) (a_t a_t_child a_t_husband a_t_wife : Nat) (u_t_father : Value) (s_t_size : Int32) (r_t_child r_t_husband r_t_wife : jA) (x1 x2 x3 : Int32) (C : jCx p s m args c cX10_halvings 4 gX10_halvings RX10 G D (jT cI cB cZ) A) {o : (Int32 × Int32) ⊕ ((Int32))} (hf : f_X10_halvings_j26 x1 x2 x3 = some o) (K : (∀ z, o = Sum.inl z → ∀ (H : Heap) (locs : List Loc) (ls : Array Slot), va_P D vwCl (w_X10_halvings cI cB cZ a_t a_t_child a_t_husband a_t_wife u_t_father s_t_size r_t_child r_t_husband r_t_wife) H → va_D A (w_X10_halvings cI cB cZ a_t a_t_child a_t_husband a_t_wife u_t_father s_t_size r_t_child r_t_husband r_t_wife) → va_S A s.heap H locs → lv_has ls 4 [(0, .ref a_t), (1, .int x1), (2, .int z.1), (3, .int z.2)] → W p l e rX10_halvings s m args below meth c H locs 0 0 Q (F0 m 4 ls [])) ∧ (∀ z, o = Sum.inr z → ∀ (H : Heap) (locs : List Loc) (ls : Array Slot), va_P D vwCl (w_X10_halvings cI cB cZ a_t a_t_child a_t_husband a_t_wife u_t_father s_t_size r_t_child r_t_husband r_t_wife) H → va_D A (w_X10_halvings cI cB cZ a_t a_t_child a_t_husband a_t_wife u_t_father s_t_size r_t_child r_t_husband r_t_wife) → va_S A s.heap H locs → lv_has ls 4 [(2, .int z)] → W p l e rX10_halvings s m args below meth c H locs 0 0 Q (F0 m 32 ls []))) {H : Heap} {locs : List Loc} {ls : Array Slot} (hP : va_P D vwCl (w_X10_halvings cI cB cZ a_t a_t_child a_t_husband a_t_wife u_t_father s_t_size r_t_child r_t_husband r_t_wife) H) (hD : va_D A (w_X10_halvings cI cB cZ a_t a_t_child a_t_husband a_t_wife u_t_father s_t_size r_t_child r_t_husband r_t_wife)) (hS : va_S A s.heap H locs) (hl : lv_has ls 4 [(0, .ref a_t), (1, .int x1), (2, .int x2), (3, .int x3)]) : W p l e rX10_halvings s m args below meth c H locs 0 0 Q (F0 m 26 ls []) := by
  obtain ⟨⟨hx, hb, hml, hown, hts⟩, hK, hN, hA⟩ := C
  have C : jCx p s m args c cX10_halvings 4 gX10_halvings RX10 G D (jT cI cB cZ) A := ⟨⟨hx, hb, hml, hown, hts⟩, hK, hN, hA⟩
  unfold f_X10_halvings_j26 at hf
  refine lv_iinc (v := (x3 + 2)) (lv' := [(3, .int (x3 + 2)), (0, .ref a_t), (1, .int x1), (2, .int x2)]) hx hb dX10_halvings_26 hl (k := 3) rfl (by first | rfl | decide) (by decide) rfl (fun ls hl => ?_)
  refine lv_goto (tgt := 4) hx hb dX10_halvings_29 (by decide) ?_
  have ho := Option.some.inj hf
  exact K.1 _ ho.symm _ _ _ hP hD hS (lv_sub hl [1, 2, 3, 0] rfl)
def f_X10_halvings_b4 (s_t_size : Int32) (r_t_child r_t_husband r_t_wife : jA) (x1 x2 x3 : Int32) : Option ((Int32 × Int32) ⊕ ((Int32))) :=
  if ((1 : Int32) <<< (s_t_size &&& 31)) ≤ x3 then
  some (Sum.inr x2)
  else
  jM (f_X10_halvesBy s_t_size r_t_child r_t_husband r_t_wife x1 x3) fun r2 =>
  if r2 = 0 then
  f_X10_halvings_j26 x1 x2 x3
  else
  f_X10_halvings_j26 x1 (x2 + 1) x3
set_option maxHeartbeats 4000000 in
set_option maxRecDepth 100000 in
theorem t_X10_halvings_b4 {p : Program} {l : Launch} {e : Env} {s : State} {m : MethodId} {args : Array Value} {below : List Frame} {meth : Method} {c : Code} {A : Nat → Prop} {Q : State → Prop} (G : jGt) (D : va_G) (cI cB cZ : ClassId) (a_t a_t_child a_t_husband a_t_wife : Nat) (u_t_father : Value) (s_t_size : Int32) (r_t_child r_t_husband r_t_wife : jA) (x1 x2 x3 : Int32) (C : jCx p s m args c cX10_halvings 4 gX10_halvings RX10 G D (jT cI cB cZ) A) {o : (Int32 × Int32) ⊕ ((Int32))} (hf : f_X10_halvings_b4 s_t_size r_t_child r_t_husband r_t_wife x1 x2 x3 = some o) (K : (∀ z, o = Sum.inl z → ∀ (H : Heap) (locs : List Loc) (ls : Array Slot), va_P D vwCl (w_X10_halvings cI cB cZ a_t a_t_child a_t_husband a_t_wife u_t_father s_t_size r_t_child r_t_husband r_t_wife) H → va_D A (w_X10_halvings cI cB cZ a_t a_t_child a_t_husband a_t_wife u_t_father s_t_size r_t_child r_t_husband r_t_wife) → va_S A s.heap H locs → lv_has ls 4 [(0, .ref a_t), (1, .int x1), (2, .int z.1), (3, .int z.2)] → W p l e rX10_halvings s m args below meth c H locs 0 0 Q (F0 m 4 ls [])) ∧ (∀ z, o = Sum.inr z → ∀ (H : Heap) (locs : List Loc) (ls : Array Slot), va_P D vwCl (w_X10_halvings cI cB cZ a_t a_t_child a_t_husband a_t_wife u_t_father s_t_size r_t_child r_t_husband r_t_wife) H → va_D A (w_X10_halvings cI cB cZ a_t a_t_child a_t_husband a_t_wife u_t_father s_t_size r_t_child r_t_husband r_t_wife) → va_S A s.heap H locs → lv_has ls 4 [(2, .int z)] → W p l e rX10_halvings s m args below meth c H locs 0 0 Q (F0 m 32 ls []))) {H : Heap} {locs : List Loc} {ls : Array Slot} (hP : va_P D vwCl (w_X10_halvings cI cB cZ a_t a_t_child a_t_husband a_t_wife u_t_father s_t_size r_t_child r_t_husband r_t_wife) H) (hD : va_D A (w_X10_halvings cI cB cZ a_t a_t_child a_t_husband a_t_wife u_t_father s_t_size r_t_child r_t_husband r_t_wife)) (hS : va_S A s.heap H locs) (hl : lv_has ls 4 [(0, .ref a_t), (1, .int x1), (2, .int x2), (3, .int x3)]) : W p l e rX10_halvings s m args below meth c H locs 0 0 Q (F0 m 4 ls []) := by
  obtain ⟨⟨hx, hb, hml, hown, hts⟩, hK, hN, hA⟩ := C
  have C : jCx p s m args c cX10_halvings 4 gX10_halvings RX10 G D (jT cI cB cZ) A := ⟨⟨hx, hb, hml, hown, hts⟩, hK, hN, hA⟩
  unfold f_X10_halvings_b4 at hf
  refine lv_iload_n hx hb dX10_halvings_4 rfl (lv_at hl 3 rfl) ?_
  refine lv_iconst (v := (1 : Int32)) hx hb dX10_halvings_5 (by decide) ?_
  refine lv_aload_n hx hb dX10_halvings_6 rfl (lv_at hl 0 rfl) ?_
  refine va_get (D := D) (ci := 9) (v := .int s_t_size) (C := RX10) (T := TX10) (N := 5) hx hb hts iw_X10 hown hK hP 0 rfl rfl 4 (by decide) (hts _ (wG_in k_fl_X10_30 rfl)) (fun _ h9 => h9) rfl dX10_halvings_7 ?_
  refine lv_ishl hx hb dX10_halvings_10 ?_
  refine lv_icmp_ge (tgt := 32) hx hb dX10_halvings_11 (by decide) (fun c1 => ?_) (fun c1 => ?_)
  · replace hf := jif_t c1 hf
    have ho := Option.some.inj hf
    exact (K.2 _ ho.symm) _ _ _ hP hD hS (lv_sub hl [2] rfl)
  · replace hf := jif_f c1 hf
    refine lv_aload_n hx hb dX10_halvings_14 rfl (lv_at hl 0 rfl) ?_
    refine lv_iload_n hx hb dX10_halvings_15 rfl (lv_at hl 1 rfl) ?_
    refine lv_iload_n hx hb dX10_halvings_16 rfl (lv_at hl 3 rfl) ?_
    obtain ⟨r2, hgr2, hf⟩ := jM_some hf
    refine jcV_i0 (As := [.int x1, .int x3]) (rest := []) ⟨hx, hb, hml, hown, hts⟩ hK hN hA (c_X10_halvesBy l G D cI cB cZ a_t a_t_child a_t_husband a_t_wife u_t_father s_t_size r_t_child r_t_husband r_t_wife x1 x3 hgr2) (cwV 2 hts (wG_V k_ml_X10_87 k_im_X10_halvesBy k_se_X10_halvesBy k_in_X10 k_co_X10_halvesBy) rfl rfl rfl hd_X10_halvesBy ⟨Nat.le_of_ble_eq_true rfl, Nat.le_of_ble_eq_true rfl⟩) hP hD hS [0, 1, 2, 3] rfl rfl rfl (ci := 9) rfl 0 rfl rfl rfl hl.1 rfl (Nat.le_of_ble_eq_true rfl) dX10_halvings_17 ⟨Nat.le_of_ble_eq_true rfl, Nat.le_of_ble_eq_true rfl⟩ (fun H locs hP hD hS => ?_)
    refine lv_if_eq (tgt := 26) hx hb dX10_halvings_20 (by decide) (fun c3 => ?_) (fun c3 => ?_)
    · replace hf := jif_t c3 hf
      exact t_X10_halvings_j26 G D cI cB cZ a_t a_t_child a_t_husband a_t_wife u_t_father s_t_size r_t_child r_t_husband r_t_wife x1 x2 x3 C hf K hP hD hS (lv_sub hl [0, 1, 2, 3] rfl)
    · replace hf := jif_f c3 hf
      refine lv_iinc (v := (x2 + 1)) (lv' := [(2, .int (x2 + 1)), (0, .ref a_t), (1, .int x1), (3, .int x3)]) hx hb dX10_halvings_23 hl (k := 2) rfl (by first | rfl | decide) (by decide) rfl (fun ls hl => ?_)
      exact t_X10_halvings_j26 G D cI cB cZ a_t a_t_child a_t_husband a_t_wife u_t_father s_t_size r_t_child r_t_husband r_t_wife x1 (x2 + 1) x3 C hf K hP hD hS (lv_sub hl [1, 2, 0, 3] rfl)
def f_X10_halvings_l4 (s_t_size : Int32) (r_t_child r_t_husband r_t_wife : jA) (x1 x2 x3 : Int32) : Option ((Int32)) :=
  jI (fun z => f_X10_halvings_b4 s_t_size r_t_child r_t_husband r_t_wife x1 z.1 z.2) jF (x2, x3)
set_option maxHeartbeats 4000000 in
set_option maxRecDepth 100000 in
theorem t_X10_halvings_l4 {p : Program} {l : Launch} {e : Env} {s : State} {m : MethodId} {args : Array Value} {below : List Frame} {meth : Method} {c : Code} {A : Nat → Prop} {Q : State → Prop} (G : jGt) (D : va_G) (cI cB cZ : ClassId) (a_t a_t_child a_t_husband a_t_wife : Nat) (u_t_father : Value) (s_t_size : Int32) (r_t_child r_t_husband r_t_wife : jA) (x1 : Int32) (C : jCx p s m args c cX10_halvings 4 gX10_halvings RX10 G D (jT cI cB cZ) A) : ∀ (n : Nat) (x2 x3 : Int32) {eo : (Int32)}, jI (fun z => f_X10_halvings_b4 s_t_size r_t_child r_t_husband r_t_wife x1 z.1 z.2) n (x2, x3) = some eo → (∀ (H : Heap) (locs : List Loc) (ls : Array Slot), va_P D vwCl (w_X10_halvings cI cB cZ a_t a_t_child a_t_husband a_t_wife u_t_father s_t_size r_t_child r_t_husband r_t_wife) H → va_D A (w_X10_halvings cI cB cZ a_t a_t_child a_t_husband a_t_wife u_t_father s_t_size r_t_child r_t_husband r_t_wife) → va_S A s.heap H locs → lv_has ls 4 [(2, .int eo)] → W p l e rX10_halvings s m args below meth c H locs 0 0 Q (F0 m 32 ls [])) → ∀ (H : Heap) (locs : List Loc) (ls : Array Slot), va_P D vwCl (w_X10_halvings cI cB cZ a_t a_t_child a_t_husband a_t_wife u_t_father s_t_size r_t_child r_t_husband r_t_wife) H → va_D A (w_X10_halvings cI cB cZ a_t a_t_child a_t_husband a_t_wife u_t_father s_t_size r_t_child r_t_husband r_t_wife) → va_S A s.heap H locs → lv_has ls 4 [(0, .ref a_t), (1, .int x1), (2, .int x2), (3, .int x3)] → W p l e rX10_halvings s m args below meth c H locs 0 0 Q (F0 m 4 ls []) := by
  intro n
  induction n with
  | zero =>
    intro x2 x3 eo hf
    exact (jI_zero hf).elim
  | succ n ih =>
    intro x2 x3 eo hf K H locs ls hP hD hS hl
    obtain ⟨o, hb1, ho⟩ := jI_some hf
    rcases ho with ⟨z, rfl, hf2⟩ | rfl
    · exact t_X10_halvings_b4 G D cI cB cZ a_t a_t_child a_t_husband a_t_wife u_t_father s_t_size r_t_child r_t_husband r_t_wife x1 x2 x3 C hb1 ⟨fun z2 hz H locs ls hP hD hS hl => by cases hz; exact ih z.1 z.2 hf2 K H locs ls hP hD hS hl, fun z2 hz => by cases hz⟩ hP hD hS hl
    · exact t_X10_halvings_b4 G D cI cB cZ a_t a_t_child a_t_husband a_t_wife u_t_father s_t_size r_t_child r_t_husband r_t_wife x1 x2 x3 C hb1 ⟨fun z2 hz => (by cases hz), fun z2 hz => by cases hz; exact K⟩ hP hD hS hl
def f_X10_halvings (s_t_size : Int32) (r_t_child r_t_husband r_t_wife : jA) (x1 : Int32) : Option (Int32) :=
  jM (f_X10_halvings_l4 s_t_size r_t_child r_t_husband r_t_wife x1 (0 : Int32) (1 : Int32)) fun e4 =>
  some e4
set_option maxHeartbeats 4000000 in
set_option maxRecDepth 100000 in
theorem t_X10_halvings {p : Program} {l : Launch} {e : Env} {s : State} {m : MethodId} {args : Array Value} {below : List Frame} {meth : Method} {c : Code} {A : Nat → Prop} {Q : State → Prop} (G : jGt) (D : va_G) (cI cB cZ : ClassId) (a_t a_t_child a_t_husband a_t_wife : Nat) (u_t_father : Value) (s_t_size : Int32) (r_t_child r_t_husband r_t_wife : jA) (x1 : Int32) (C : jCx p s m args c cX10_halvings 4 gX10_halvings RX10 G D (jT cI cB cZ) A) {o : Int32} (hf : f_X10_halvings s_t_size r_t_child r_t_husband r_t_wife x1 = some o) (K : ∀ (H : Heap) (locs : List Loc) (pc : Nat) (ls : Array Slot), va_P D vwCl (w_X10_halvings cI cB cZ a_t a_t_child a_t_husband a_t_wife u_t_father s_t_size r_t_child r_t_husband r_t_wife) H → va_S A s.heap H locs → decode cX10_halvings pc = .ok (.ireturn, 1) → W p l e rX10_halvings s m args below meth c H locs 0 0 Q (F0 m pc ls [.int o])) {H : Heap} {locs : List Loc} {ls : Array Slot} (hP : va_P D vwCl (w_X10_halvings cI cB cZ a_t a_t_child a_t_husband a_t_wife u_t_father s_t_size r_t_child r_t_husband r_t_wife) H) (hD : va_D A (w_X10_halvings cI cB cZ a_t a_t_child a_t_husband a_t_wife u_t_father s_t_size r_t_child r_t_husband r_t_wife)) (hS : va_S A s.heap H locs) (hl : lv_has ls 4 [(0, .ref a_t), (1, .int x1)]) : W p l e rX10_halvings s m args below meth c H locs 0 0 Q (F0 m 0 ls []) := by
  obtain ⟨⟨hx, hb, hml, hown, hts⟩, hK, hN, hA⟩ := C
  have C : jCx p s m args c cX10_halvings 4 gX10_halvings RX10 G D (jT cI cB cZ) A := ⟨⟨hx, hb, hml, hown, hts⟩, hK, hN, hA⟩
  unfold f_X10_halvings at hf
  refine lv_iconst (v := (0 : Int32)) hx hb dX10_halvings_0 (by decide) ?_
  refine lv_istore_n (lv' := [(2, .int (0 : Int32)), (0, .ref a_t), (1, .int x1)]) hx hb dX10_halvings_1 rfl hl (by decide) rfl (fun ls hl => ?_)
  refine lv_iconst (v := (1 : Int32)) hx hb dX10_halvings_2 (by decide) ?_
  refine lv_istore_n (lv' := [(3, .int (1 : Int32)), (2, .int (0 : Int32)), (0, .ref a_t), (1, .int x1)]) hx hb dX10_halvings_3 rfl hl (by decide) rfl (fun ls hl => ?_)
  obtain ⟨e4, hg4, hf⟩ := jM_some hf
  refine t_X10_halvings_l4 G D cI cB cZ a_t a_t_child a_t_husband a_t_wife u_t_father s_t_size r_t_child r_t_husband r_t_wife x1 C jF (0 : Int32) (1 : Int32) hg4 ?_ _ _ _ hP hD hS (lv_sub hl [2, 3, 1, 0] rfl)
  intro H locs ls hP hD hS hl
  refine lv_iload_n hx hb dX10_halvings_32 rfl (lv_at hl 0 rfl) ?_
  have ho := Option.some.inj hf
  subst ho
  exact K _ _ _ _ hP hS dX10_halvings_33
set_option maxHeartbeats 4000000 in
set_option maxRecDepth 100000 in
theorem c_X10_halvings (l : Launch) (G : jGt) (D : va_G) (cI cB cZ : ClassId) (a_t a_t_child a_t_husband a_t_wife : Nat) (u_t_father : Value) (s_t_size : Int32) (r_t_child r_t_husband r_t_wife : jA) (x1 : Int32) {o : Int32} (hf : f_X10_halvings s_t_size r_t_child r_t_husband r_t_wife x1 = some o) : jMi l yX10_halvings gX10_halvings rX10_halvings G D (jT cI cB cZ) [.ref a_t, .int x1] (w_X10_halvings cI cB cZ a_t a_t_child a_t_husband a_t_wife u_t_father s_t_size r_t_child r_t_husband r_t_wife) (w_X10_halvings cI cB cZ a_t a_t_child a_t_husband a_t_wife u_t_father s_t_size r_t_child r_t_husband r_t_wife) o := by
  refine jmk_i RX10 rfl (by decide +kernel) rfl (Nat.le_of_ble_eq_true rfl) rfl ?_
  intro p e s m args below meth c ls A Q C hP hD hS hl K
  exact t_X10_halvings G D cI cB cZ a_t a_t_child a_t_husband a_t_wife u_t_father s_t_size r_t_child r_t_husband r_t_wife x1 C hf K hP hD hS hl
abbrev rX10_halving : Room := { frames := 3, cells := 0, slots := 0, locals := 70 }
abbrev gX10_halving : List Cond := wG yX10_halving cX10_halving 5 (some .int)
def w_X10_halving (cI cB cZ : ClassId) (a_t a_t_child a_t_husband a_t_wife : Nat) (u_t_father : Value) (s_t_size : Int32) (r_t_child r_t_husband r_t_wife : jA) : va_W := [(a_t, .inr (9, (oX10 (.ref a_t_wife) (.ref a_t_child) (.ref a_t_husband) u_t_father s_t_size))), (a_t_child, .inl (cI, r_t_child.1, .inl r_t_child.2)), (a_t_husband, .inl (cI, r_t_husband.1, .inl r_t_husband.2)), (a_t_wife, .inl (cI, r_t_wife.1, .inl r_t_wife.2))]
def f_X10_halving_j36 (x1 x3 x4 : Int32) : Option ((Int32 × Int32) ⊕ ((Int32) ⊕ ((Unit)))) :=
  some (Sum.inl (x3, (x4 + 2)))
set_option maxHeartbeats 4000000 in
set_option maxRecDepth 100000 in
theorem t_X10_halving_j36 {p : Program} {l : Launch} {e : Env} {s : State} {m : MethodId} {args : Array Value} {below : List Frame} {meth : Method} {c : Code} {A : Nat → Prop} {Q : State → Prop} (G : jGt) (D : va_G) (cI cB cZ : ClassId) (a_t a_t_child a_t_husband a_t_wife : Nat) (u_t_father : Value) (s_t_size : Int32) (r_t_child r_t_husband r_t_wife : jA) (x1 x3 x4 : Int32) (C : jCx p s m args c cX10_halving 5 gX10_halving RX10 G D (jT cI cB cZ) A) {o : (Int32 × Int32) ⊕ ((Int32) ⊕ ((Unit)))} (hf : f_X10_halving_j36 x1 x3 x4 = some o) (K : (∀ z, o = Sum.inl z → ∀ (H : Heap) (locs : List Loc) (ls : Array Slot), va_P D vwCl (w_X10_halving cI cB cZ a_t a_t_child a_t_husband a_t_wife u_t_father s_t_size r_t_child r_t_husband r_t_wife) H → va_D A (w_X10_halving cI cB cZ a_t a_t_child a_t_husband a_t_wife u_t_father s_t_size r_t_child r_t_husband r_t_wife) → va_S A s.heap H locs → lv_has ls 5 [(0, .ref a_t), (1, .int x1), (3, .int z.1), (4, .int z.2)] → W p l e rX10_halving s m args below meth c H locs 0 0 Q (F0 m 5 ls [])) ∧ (∀ z, o = Sum.inr z → (∀ y0, z = Sum.inl y0 → ∀ (H : Heap) (locs : List Loc) (ls : Array Slot), va_P D vwCl (w_X10_halving cI cB cZ a_t a_t_child a_t_husband a_t_wife u_t_father s_t_size r_t_child r_t_husband r_t_wife) H → va_D A (w_X10_halving cI cB cZ a_t a_t_child a_t_husband a_t_wife u_t_father s_t_size r_t_child r_t_husband r_t_wife) → va_S A s.heap H locs → lv_has ls 5 [(4, .int y0)] → W p l e rX10_halving s m args below meth c H locs 0 0 Q (F0 m 30 ls [])) ∧ (∀ z0, z = Sum.inr z0 → ∀ (H : Heap) (locs : List Loc) (ls : Array Slot), va_P D vwCl (w_X10_halving cI cB cZ a_t a_t_child a_t_husband a_t_wife u_t_father s_t_size r_t_child r_t_husband r_t_wife) H → va_D A (w_X10_halving cI cB cZ a_t a_t_child a_t_husband a_t_wife u_t_father s_t_size r_t_child r_t_husband r_t_wife) → va_S A s.heap H locs → lv_has ls 5 [] → W p l e rX10_halving s m args below meth c H locs 0 0 Q (F0 m 42 ls [])))) {H : Heap} {locs : List Loc} {ls : Array Slot} (hP : va_P D vwCl (w_X10_halving cI cB cZ a_t a_t_child a_t_husband a_t_wife u_t_father s_t_size r_t_child r_t_husband r_t_wife) H) (hD : va_D A (w_X10_halving cI cB cZ a_t a_t_child a_t_husband a_t_wife u_t_father s_t_size r_t_child r_t_husband r_t_wife)) (hS : va_S A s.heap H locs) (hl : lv_has ls 5 [(0, .ref a_t), (1, .int x1), (3, .int x3), (4, .int x4)]) : W p l e rX10_halving s m args below meth c H locs 0 0 Q (F0 m 36 ls []) := by
  obtain ⟨⟨hx, hb, hml, hown, hts⟩, hK, hN, hA⟩ := C
  have C : jCx p s m args c cX10_halving 5 gX10_halving RX10 G D (jT cI cB cZ) A := ⟨⟨hx, hb, hml, hown, hts⟩, hK, hN, hA⟩
  unfold f_X10_halving_j36 at hf
  refine lv_iinc (v := (x4 + 2)) (lv' := [(4, .int (x4 + 2)), (0, .ref a_t), (1, .int x1), (3, .int x3)]) hx hb dX10_halving_36 hl (k := 3) rfl (by first | rfl | decide) (by decide) rfl (fun ls hl => ?_)
  refine lv_goto (tgt := 5) hx hb dX10_halving_39 (by decide) ?_
  have ho := Option.some.inj hf
  exact K.1 _ ho.symm _ _ _ hP hD hS (lv_sub hl [1, 2, 3, 0] rfl)
def f_X10_halving_b5 (s_t_size : Int32) (r_t_child r_t_husband r_t_wife : jA) (x1 x3 x4 : Int32) : Option ((Int32 × Int32) ⊕ ((Int32) ⊕ ((Unit)))) :=
  if ((1 : Int32) <<< (s_t_size &&& 31)) ≤ x4 then
  some (Sum.inr (Sum.inr ()))
  else
  jM (f_X10_halvesBy s_t_size r_t_child r_t_husband r_t_wife x1 x4) fun r2 =>
  if r2 = 0 then
  f_X10_halving_j36 x1 x3 x4
  else
  if x3 = 0 then
  some (Sum.inr (Sum.inl x4))
  else
  f_X10_halving_j36 x1 (x3 + (-1)) x4
set_option maxHeartbeats 4000000 in
set_option maxRecDepth 100000 in
theorem t_X10_halving_b5 {p : Program} {l : Launch} {e : Env} {s : State} {m : MethodId} {args : Array Value} {below : List Frame} {meth : Method} {c : Code} {A : Nat → Prop} {Q : State → Prop} (G : jGt) (D : va_G) (cI cB cZ : ClassId) (a_t a_t_child a_t_husband a_t_wife : Nat) (u_t_father : Value) (s_t_size : Int32) (r_t_child r_t_husband r_t_wife : jA) (x1 x3 x4 : Int32) (C : jCx p s m args c cX10_halving 5 gX10_halving RX10 G D (jT cI cB cZ) A) {o : (Int32 × Int32) ⊕ ((Int32) ⊕ ((Unit)))} (hf : f_X10_halving_b5 s_t_size r_t_child r_t_husband r_t_wife x1 x3 x4 = some o) (K : (∀ z, o = Sum.inl z → ∀ (H : Heap) (locs : List Loc) (ls : Array Slot), va_P D vwCl (w_X10_halving cI cB cZ a_t a_t_child a_t_husband a_t_wife u_t_father s_t_size r_t_child r_t_husband r_t_wife) H → va_D A (w_X10_halving cI cB cZ a_t a_t_child a_t_husband a_t_wife u_t_father s_t_size r_t_child r_t_husband r_t_wife) → va_S A s.heap H locs → lv_has ls 5 [(0, .ref a_t), (1, .int x1), (3, .int z.1), (4, .int z.2)] → W p l e rX10_halving s m args below meth c H locs 0 0 Q (F0 m 5 ls [])) ∧ (∀ z, o = Sum.inr z → (∀ y0, z = Sum.inl y0 → ∀ (H : Heap) (locs : List Loc) (ls : Array Slot), va_P D vwCl (w_X10_halving cI cB cZ a_t a_t_child a_t_husband a_t_wife u_t_father s_t_size r_t_child r_t_husband r_t_wife) H → va_D A (w_X10_halving cI cB cZ a_t a_t_child a_t_husband a_t_wife u_t_father s_t_size r_t_child r_t_husband r_t_wife) → va_S A s.heap H locs → lv_has ls 5 [(4, .int y0)] → W p l e rX10_halving s m args below meth c H locs 0 0 Q (F0 m 30 ls [])) ∧ (∀ z0, z = Sum.inr z0 → ∀ (H : Heap) (locs : List Loc) (ls : Array Slot), va_P D vwCl (w_X10_halving cI cB cZ a_t a_t_child a_t_husband a_t_wife u_t_father s_t_size r_t_child r_t_husband r_t_wife) H → va_D A (w_X10_halving cI cB cZ a_t a_t_child a_t_husband a_t_wife u_t_father s_t_size r_t_child r_t_husband r_t_wife) → va_S A s.heap H locs → lv_has ls 5 [] → W p l e rX10_halving s m args below meth c H locs 0 0 Q (F0 m 42 ls [])))) {H : Heap} {locs : List Loc} {ls : Array Slot} (hP : va_P D vwCl (w_X10_halving cI cB cZ a_t a_t_child a_t_husband a_t_wife u_t_father s_t_size r_t_child r_t_husband r_t_wife) H) (hD : va_D A (w_X10_halving cI cB cZ a_t a_t_child a_t_husband a_t_wife u_t_father s_t_size r_t_child r_t_husband r_t_wife)) (hS : va_S A s.heap H locs) (hl : lv_has ls 5 [(0, .ref a_t), (1, .int x1), (3, .int x3), (4, .int x4)]) : W p l e rX10_halving s m args below meth c H locs 0 0 Q (F0 m 5 ls []) := by
  obtain ⟨⟨hx, hb, hml, hown, hts⟩, hK, hN, hA⟩ := C
  have C : jCx p s m args c cX10_halving 5 gX10_halving RX10 G D (jT cI cB cZ) A := ⟨⟨hx, hb, hml, hown, hts⟩, hK, hN, hA⟩
  unfold f_X10_halving_b5 at hf
  refine lv_iload hx hb dX10_halving_5 (lv_at hl 3 rfl) ?_
  refine lv_iconst (v := (1 : Int32)) hx hb dX10_halving_7 (by decide) ?_
  refine lv_aload_n hx hb dX10_halving_8 rfl (lv_at hl 0 rfl) ?_
  refine va_get (D := D) (ci := 9) (v := .int s_t_size) (C := RX10) (T := TX10) (N := 5) hx hb hts iw_X10 hown hK hP 0 rfl rfl 4 (by decide) (hts _ (wG_in k_fl_X10_30 rfl)) (fun _ h9 => h9) rfl dX10_halving_9 ?_
  refine lv_ishl hx hb dX10_halving_12 ?_
  refine lv_icmp_ge (tgt := 42) hx hb dX10_halving_13 (by decide) (fun c1 => ?_) (fun c1 => ?_)
  · replace hf := jif_t c1 hf
    have ho := Option.some.inj hf
    exact ((K.2 _ ho.symm).2 _ rfl) _ _ _ hP hD hS (lv_sub hl [] rfl)
  · replace hf := jif_f c1 hf
    refine lv_aload_n hx hb dX10_halving_16 rfl (lv_at hl 0 rfl) ?_
    refine lv_iload_n hx hb dX10_halving_17 rfl (lv_at hl 1 rfl) ?_
    refine lv_iload hx hb dX10_halving_18 (lv_at hl 3 rfl) ?_
    obtain ⟨r2, hgr2, hf⟩ := jM_some hf
    refine jcV_i0 (As := [.int x1, .int x4]) (rest := []) ⟨hx, hb, hml, hown, hts⟩ hK hN hA (c_X10_halvesBy l G D cI cB cZ a_t a_t_child a_t_husband a_t_wife u_t_father s_t_size r_t_child r_t_husband r_t_wife x1 x4 hgr2) (cwV 2 hts (wG_V k_ml_X10_87 k_im_X10_halvesBy k_se_X10_halvesBy k_in_X10 k_co_X10_halvesBy) rfl rfl rfl hd_X10_halvesBy ⟨Nat.le_of_ble_eq_true rfl, Nat.le_of_ble_eq_true rfl⟩) hP hD hS [0, 1, 2, 3] rfl rfl rfl (ci := 9) rfl 0 rfl rfl rfl hl.1 rfl (Nat.le_of_ble_eq_true rfl) dX10_halving_20 ⟨Nat.le_of_ble_eq_true rfl, Nat.le_of_ble_eq_true rfl⟩ (fun H locs hP hD hS => ?_)
    refine lv_if_eq (tgt := 36) hx hb dX10_halving_23 (by decide) (fun c3 => ?_) (fun c3 => ?_)
    · replace hf := jif_t c3 hf
      exact t_X10_halving_j36 G D cI cB cZ a_t a_t_child a_t_husband a_t_wife u_t_father s_t_size r_t_child r_t_husband r_t_wife x1 x3 x4 C hf K hP hD hS (lv_sub hl [0, 1, 2, 3] rfl)
    · replace hf := jif_f c3 hf
      refine lv_iload_n hx hb dX10_halving_26 rfl (lv_at hl 2 rfl) ?_
      refine lv_if_ne (tgt := 33) hx hb dX10_halving_27 (by decide) (fun c4 => ?_) (fun c4 => ?_)
      · replace hf := jif_f c4 hf
        refine lv_iinc (v := (x3 + (-1))) (lv' := [(3, .int (x3 + (-1))), (0, .ref a_t), (1, .int x1), (4, .int x4)]) hx hb dX10_halving_33 hl (k := 2) rfl (by first | rfl | decide) (by decide) rfl (fun ls hl => ?_)
        exact t_X10_halving_j36 G D cI cB cZ a_t a_t_child a_t_husband a_t_wife u_t_father s_t_size r_t_child r_t_husband r_t_wife x1 (x3 + (-1)) x4 C hf K hP hD hS (lv_sub hl [1, 2, 0, 3] rfl)
      · replace hf := jif_t c4 hf
        have ho := Option.some.inj hf
        exact ((K.2 _ ho.symm).1 _ rfl) _ _ _ hP hD hS (lv_sub hl [3] rfl)
def f_X10_halving_l5 (s_t_size : Int32) (r_t_child r_t_husband r_t_wife : jA) (x1 x3 x4 : Int32) : Option ((Int32) ⊕ ((Unit))) :=
  jI (fun z => f_X10_halving_b5 s_t_size r_t_child r_t_husband r_t_wife x1 z.1 z.2) jF (x3, x4)
set_option maxHeartbeats 4000000 in
set_option maxRecDepth 100000 in
theorem t_X10_halving_l5 {p : Program} {l : Launch} {e : Env} {s : State} {m : MethodId} {args : Array Value} {below : List Frame} {meth : Method} {c : Code} {A : Nat → Prop} {Q : State → Prop} (G : jGt) (D : va_G) (cI cB cZ : ClassId) (a_t a_t_child a_t_husband a_t_wife : Nat) (u_t_father : Value) (s_t_size : Int32) (r_t_child r_t_husband r_t_wife : jA) (x1 : Int32) (C : jCx p s m args c cX10_halving 5 gX10_halving RX10 G D (jT cI cB cZ) A) : ∀ (n : Nat) (x3 x4 : Int32) {eo : (Int32) ⊕ ((Unit))}, jI (fun z => f_X10_halving_b5 s_t_size r_t_child r_t_husband r_t_wife x1 z.1 z.2) n (x3, x4) = some eo → ((∀ y0, eo = Sum.inl y0 → ∀ (H : Heap) (locs : List Loc) (ls : Array Slot), va_P D vwCl (w_X10_halving cI cB cZ a_t a_t_child a_t_husband a_t_wife u_t_father s_t_size r_t_child r_t_husband r_t_wife) H → va_D A (w_X10_halving cI cB cZ a_t a_t_child a_t_husband a_t_wife u_t_father s_t_size r_t_child r_t_husband r_t_wife) → va_S A s.heap H locs → lv_has ls 5 [(4, .int y0)] → W p l e rX10_halving s m args below meth c H locs 0 0 Q (F0 m 30 ls [])) ∧ (∀ z0, eo = Sum.inr z0 → ∀ (H : Heap) (locs : List Loc) (ls : Array Slot), va_P D vwCl (w_X10_halving cI cB cZ a_t a_t_child a_t_husband a_t_wife u_t_father s_t_size r_t_child r_t_husband r_t_wife) H → va_D A (w_X10_halving cI cB cZ a_t a_t_child a_t_husband a_t_wife u_t_father s_t_size r_t_child r_t_husband r_t_wife) → va_S A s.heap H locs → lv_has ls 5 [] → W p l e rX10_halving s m args below meth c H locs 0 0 Q (F0 m 42 ls []))) → ∀ (H : Heap) (locs : List Loc) (ls : Array Slot), va_P D vwCl (w_X10_halving cI cB cZ a_t a_t_child a_t_husband a_t_wife u_t_father s_t_size r_t_child r_t_husband r_t_wife) H → va_D A (w_X10_halving cI cB cZ a_t a_t_child a_t_husband a_t_wife u_t_father s_t_size r_t_child r_t_husband r_t_wife) → va_S A s.heap H locs → lv_has ls 5 [(0, .ref a_t), (1, .int x1), (3, .int x3), (4, .int x4)] → W p l e rX10_halving s m args below meth c H locs 0 0 Q (F0 m 5 ls []) := by
  intro n
  induction n with
  | zero =>
    intro x3 x4 eo hf
    exact (jI_zero hf).elim
  | succ n ih =>
    intro x3 x4 eo hf K H locs ls hP hD hS hl
    obtain ⟨o, hb1, ho⟩ := jI_some hf
    rcases ho with ⟨z, rfl, hf2⟩ | rfl
    · exact t_X10_halving_b5 G D cI cB cZ a_t a_t_child a_t_husband a_t_wife u_t_father s_t_size r_t_child r_t_husband r_t_wife x1 x3 x4 C hb1 ⟨fun z2 hz H locs ls hP hD hS hl => by cases hz; exact ih z.1 z.2 hf2 K H locs ls hP hD hS hl, fun z2 hz => by cases hz⟩ hP hD hS hl
    · exact t_X10_halving_b5 G D cI cB cZ a_t a_t_child a_t_husband a_t_wife u_t_father s_t_size r_t_child r_t_husband r_t_wife x1 x3 x4 C hb1 ⟨fun z2 hz => (by cases hz), fun z2 hz => by cases hz; exact K⟩ hP hD hS hl
def f_X10_halving (s_t_size : Int32) (r_t_child r_t_husband r_t_wife : jA) (x1 x2 : Int32) : Option (Int32) :=
  jM (f_X10_halving_l5 s_t_size r_t_child r_t_husband r_t_wife x1 x2 (1 : Int32)) fun e5 =>
  Sum.elim (fun y6 =>
  some y6) (fun w7 =>
  some (-1 : Int32)) e5
set_option maxHeartbeats 4000000 in
set_option maxRecDepth 100000 in
theorem t_X10_halving {p : Program} {l : Launch} {e : Env} {s : State} {m : MethodId} {args : Array Value} {below : List Frame} {meth : Method} {c : Code} {A : Nat → Prop} {Q : State → Prop} (G : jGt) (D : va_G) (cI cB cZ : ClassId) (a_t a_t_child a_t_husband a_t_wife : Nat) (u_t_father : Value) (s_t_size : Int32) (r_t_child r_t_husband r_t_wife : jA) (x1 x2 : Int32) (C : jCx p s m args c cX10_halving 5 gX10_halving RX10 G D (jT cI cB cZ) A) {o : Int32} (hf : f_X10_halving s_t_size r_t_child r_t_husband r_t_wife x1 x2 = some o) (K : ∀ (H : Heap) (locs : List Loc) (pc : Nat) (ls : Array Slot), va_P D vwCl (w_X10_halving cI cB cZ a_t a_t_child a_t_husband a_t_wife u_t_father s_t_size r_t_child r_t_husband r_t_wife) H → va_S A s.heap H locs → decode cX10_halving pc = .ok (.ireturn, 1) → W p l e rX10_halving s m args below meth c H locs 0 0 Q (F0 m pc ls [.int o])) {H : Heap} {locs : List Loc} {ls : Array Slot} (hP : va_P D vwCl (w_X10_halving cI cB cZ a_t a_t_child a_t_husband a_t_wife u_t_father s_t_size r_t_child r_t_husband r_t_wife) H) (hD : va_D A (w_X10_halving cI cB cZ a_t a_t_child a_t_husband a_t_wife u_t_father s_t_size r_t_child r_t_husband r_t_wife)) (hS : va_S A s.heap H locs) (hl : lv_has ls 5 [(0, .ref a_t), (1, .int x1), (2, .int x2)]) : W p l e rX10_halving s m args below meth c H locs 0 0 Q (F0 m 0 ls []) := by
  obtain ⟨⟨hx, hb, hml, hown, hts⟩, hK, hN, hA⟩ := C
  have C : jCx p s m args c cX10_halving 5 gX10_halving RX10 G D (jT cI cB cZ) A := ⟨⟨hx, hb, hml, hown, hts⟩, hK, hN, hA⟩
  unfold f_X10_halving at hf
  refine lv_iload_n hx hb dX10_halving_0 rfl (lv_at hl 2 rfl) ?_
  refine lv_istore_n (lv' := [(3, .int x2), (0, .ref a_t), (1, .int x1), (2, .int x2)]) hx hb dX10_halving_1 rfl hl (by decide) rfl (fun ls hl => ?_)
  refine lv_iconst (v := (1 : Int32)) hx hb dX10_halving_2 (by decide) ?_
  refine lv_istore (lv' := [(4, .int (1 : Int32)), (3, .int x2), (0, .ref a_t), (1, .int x1), (2, .int x2)]) hx hb dX10_halving_3 hl (by decide) rfl (fun ls hl => ?_)
  obtain ⟨e5, hg5, hf⟩ := jM_some hf
  refine t_X10_halving_l5 G D cI cB cZ a_t a_t_child a_t_husband a_t_wife u_t_father s_t_size r_t_child r_t_husband r_t_wife x1 C jF x2 (1 : Int32) hg5 ?_ _ _ _ hP hD hS (lv_sub hl [2, 3, 1, 0] rfl)
  refine ⟨fun y6 hy => ?_, fun w7 hy => ?_⟩
  · replace hf := jE_l hy hf
    intro H locs ls hP hD hS hl
    refine lv_iload hx hb dX10_halving_30 (lv_at hl 0 rfl) ?_
    have ho := Option.some.inj hf
    subst ho
    exact K _ _ _ _ hP hS dX10_halving_32
  · replace hf := jE_r hy hf
    intro H locs ls hP hD hS hl
    refine lv_iconst (v := (-1 : Int32)) hx hb dX10_halving_42 (by decide) ?_
    have ho := Option.some.inj hf
    subst ho
    exact K _ _ _ _ hP hS dX10_halving_43
set_option maxHeartbeats 4000000 in
set_option maxRecDepth 100000 in
theorem c_X10_halving (l : Launch) (G : jGt) (D : va_G) (cI cB cZ : ClassId) (a_t a_t_child a_t_husband a_t_wife : Nat) (u_t_father : Value) (s_t_size : Int32) (r_t_child r_t_husband r_t_wife : jA) (x1 x2 : Int32) {o : Int32} (hf : f_X10_halving s_t_size r_t_child r_t_husband r_t_wife x1 x2 = some o) : jMi l yX10_halving gX10_halving rX10_halving G D (jT cI cB cZ) [.ref a_t, .int x1, .int x2] (w_X10_halving cI cB cZ a_t a_t_child a_t_husband a_t_wife u_t_father s_t_size r_t_child r_t_husband r_t_wife) (w_X10_halving cI cB cZ a_t a_t_child a_t_husband a_t_wife u_t_father s_t_size r_t_child r_t_husband r_t_wife) o := by
  refine jmk_i RX10 rfl (by decide +kernel) rfl (Nat.le_of_ble_eq_true rfl) rfl ?_
  intro p e s m args below meth c ls A Q C hP hD hS hl K
  exact t_X10_halving G D cI cB cZ a_t a_t_child a_t_husband a_t_wife u_t_father s_t_size r_t_child r_t_husband r_t_wife x1 x2 C hf K hP hD hS hl
abbrev rX11_feed : Room := { frames := 2, cells := 0, slots := 0, locals := 47 }
abbrev gX11_feed : List Cond := wG yX11_feed cX11_feed 6 (some .int)
def w_X11_feed (cI cB cZ : ClassId) (a_t a_t_now a_t_now_tape a_t_now_tape_bytes : Nat) (u_t_images u_t_texts u_t_turns u_t_kinship u_t_censuses u_t_now_wheel u_t_now_law u_t_now_people u_t_now_words : Value) (u_t_now_wordCount u_t_now_tape_fault u_t_now_tape_place s_t_now_tape_length : Int32) (r_t_now_tape_bytes : jA) : va_W := [(a_t, .inr (10, (oX11 (.ref a_t_now) u_t_images u_t_texts u_t_turns u_t_kinship u_t_censuses))), (a_t_now, .inr (5, (oX6 (.ref a_t_now_tape) u_t_now_wheel u_t_now_law u_t_now_people u_t_now_words u_t_now_wordCount))), (a_t_now_tape, .inr (6, (oX7 (.ref a_t_now_tape_bytes) s_t_now_tape_length u_t_now_tape_fault u_t_now_tape_place))), (a_t_now_tape_bytes, .inl (cB, r_t_now_tape_bytes.1, .inl r_t_now_tape_bytes.2))]
def f_X11_feed (s_t_now_tape_length : Int32) (r_t_now_tape_bytes : jA) (x1 x2 x3 x4 x5 : Int32) : Option (Int32 × Int32 × jA) :=
  jM (f_X7_append s_t_now_tape_length r_t_now_tape_bytes x1 x2 x3 x4 x5) fun r1 =>
  some (r1.1, r1.2.1, r1.2.2)
set_option maxHeartbeats 4000000 in
set_option maxRecDepth 100000 in
theorem t_X11_feed {p : Program} {l : Launch} {e : Env} {s : State} {m : MethodId} {args : Array Value} {below : List Frame} {meth : Method} {c : Code} {A : Nat → Prop} {Q : State → Prop} (G : jGt) (D : va_G) (cI cB cZ : ClassId) (a_t a_t_now a_t_now_tape a_t_now_tape_bytes : Nat) (u_t_images u_t_texts u_t_turns u_t_kinship u_t_censuses u_t_now_wheel u_t_now_law u_t_now_people u_t_now_words : Value) (u_t_now_wordCount u_t_now_tape_fault u_t_now_tape_place : Int32) (s_t_now_tape_length : Int32) (r_t_now_tape_bytes : jA) (x1 x2 x3 x4 x5 : Int32) (C : jCx p s m args c cX11_feed 6 gX11_feed RX11 G D (jT cI cB cZ) A) {o : Int32 × Int32 × jA} (hf : f_X11_feed s_t_now_tape_length r_t_now_tape_bytes x1 x2 x3 x4 x5 = some o) (K : ∀ (H : Heap) (locs : List Loc) (pc : Nat) (ls : Array Slot), va_P D vwCl (w_X11_feed cI cB cZ a_t a_t_now a_t_now_tape a_t_now_tape_bytes u_t_images u_t_texts u_t_turns u_t_kinship u_t_censuses u_t_now_wheel u_t_now_law u_t_now_people u_t_now_words u_t_now_wordCount u_t_now_tape_fault u_t_now_tape_place o.2.1 o.2.2) H → va_S A s.heap H locs → decode cX11_feed pc = .ok (.ireturn, 1) → W p l e rX11_feed s m args below meth c H locs 0 0 Q (F0 m pc ls [.int o.1])) {H : Heap} {locs : List Loc} {ls : Array Slot} (hP : va_P D vwCl (w_X11_feed cI cB cZ a_t a_t_now a_t_now_tape a_t_now_tape_bytes u_t_images u_t_texts u_t_turns u_t_kinship u_t_censuses u_t_now_wheel u_t_now_law u_t_now_people u_t_now_words u_t_now_wordCount u_t_now_tape_fault u_t_now_tape_place s_t_now_tape_length r_t_now_tape_bytes) H) (hD : va_D A (w_X11_feed cI cB cZ a_t a_t_now a_t_now_tape a_t_now_tape_bytes u_t_images u_t_texts u_t_turns u_t_kinship u_t_censuses u_t_now_wheel u_t_now_law u_t_now_people u_t_now_words u_t_now_wordCount u_t_now_tape_fault u_t_now_tape_place s_t_now_tape_length r_t_now_tape_bytes)) (hS : va_S A s.heap H locs) (hl : lv_has ls 6 [(0, .ref a_t), (1, .int x1), (2, .int x2), (3, .int x3), (4, .int x4), (5, .int x5)]) : W p l e rX11_feed s m args below meth c H locs 0 0 Q (F0 m 0 ls []) := by
  obtain ⟨⟨hx, hb, hml, hown, hts⟩, hK, hN, hA⟩ := C
  have C : jCx p s m args c cX11_feed 6 gX11_feed RX11 G D (jT cI cB cZ) A := ⟨⟨hx, hb, hml, hown, hts⟩, hK, hN, hA⟩
  unfold f_X11_feed at hf
  refine lv_aload_n hx hb dX11_feed_0 rfl (lv_at hl 0 rfl) ?_
  refine va_get (D := D) (ci := 10) (v := .ref a_t_now) (C := RX11) (T := TX11) (N := 6) hx hb hts iw_X11 hown hK hP 0 rfl rfl 0 (by decide) (hts _ (wG_in k_fl_X11_10 rfl)) (fun _ h9 => h9) rfl dX11_feed_1 ?_
  refine va_get (D := D) (ci := 5) (v := .ref a_t_now_tape) (C := RX6) (T := TX6) (N := 6) hx hb hts iw_X6 hown hK hP 1 rfl rfl 0 (by decide) (hts _ (wG_in k_fl_X11_47 rfl)) (fun _ h9 => h9) rfl dX11_feed_4 ?_
  refine lv_iload_n hx hb dX11_feed_7 rfl (lv_at hl 1 rfl) ?_
  refine lv_iload_n hx hb dX11_feed_8 rfl (lv_at hl 2 rfl) ?_
  refine lv_iload_n hx hb dX11_feed_9 rfl (lv_at hl 3 rfl) ?_
  refine lv_iload hx hb dX11_feed_10 (lv_at hl 4 rfl) ?_
  refine lv_iload hx hb dX11_feed_12 (lv_at hl 5 rfl) ?_
  obtain ⟨r1, hgr1, hf⟩ := jM_some hf
  refine jcV_i (As := [.int x1, .int x2, .int x3, .int x4, .int x5]) (rest := []) ⟨hx, hb, hml, hown, hts⟩ hK hN hA (c_X7_append l G D cI cB cZ a_t_now_tape a_t_now_tape_bytes u_t_now_tape_fault u_t_now_tape_place s_t_now_tape_length r_t_now_tape_bytes x1 x2 x3 x4 x5 hgr1) (cwV 5 hts (wG_V k_ml_X11_51 k_im_X7_append k_se_X7_append k_in_X7 k_co_X7_append) rfl rfl rfl hd_X7_append ⟨Nat.le_of_ble_eq_true rfl, Nat.le_of_ble_eq_true rfl⟩) hP hD hS [2, 3] rfl rfl rfl (ci := 6) rfl 2 rfl rfl rfl hl.1 rfl (Nat.le_of_ble_eq_true rfl) dX11_feed_14 ⟨Nat.le_of_ble_eq_true rfl, Nat.le_of_ble_eq_true rfl⟩ (fun H locs hP hD hS => ?_)
  have hP : va_P D vwCl (w_X11_feed cI cB cZ a_t a_t_now a_t_now_tape a_t_now_tape_bytes u_t_images u_t_texts u_t_turns u_t_kinship u_t_censuses u_t_now_wheel u_t_now_law u_t_now_people u_t_now_words u_t_now_wordCount u_t_now_tape_fault u_t_now_tape_place r1.2.1 r1.2.2) H := hP
  have hD : va_D A (w_X11_feed cI cB cZ a_t a_t_now a_t_now_tape a_t_now_tape_bytes u_t_images u_t_texts u_t_turns u_t_kinship u_t_censuses u_t_now_wheel u_t_now_law u_t_now_people u_t_now_words u_t_now_wordCount u_t_now_tape_fault u_t_now_tape_place r1.2.1 r1.2.2) := hD
  have ho := Option.some.inj hf
  subst ho
  exact K _ _ _ _ hP hS dX11_feed_17
set_option maxHeartbeats 4000000 in
set_option maxRecDepth 100000 in
theorem c_X11_feed (l : Launch) (G : jGt) (D : va_G) (cI cB cZ : ClassId) (a_t a_t_now a_t_now_tape a_t_now_tape_bytes : Nat) (u_t_images u_t_texts u_t_turns u_t_kinship u_t_censuses u_t_now_wheel u_t_now_law u_t_now_people u_t_now_words : Value) (u_t_now_wordCount u_t_now_tape_fault u_t_now_tape_place : Int32) (s_t_now_tape_length : Int32) (r_t_now_tape_bytes : jA) (x1 x2 x3 x4 x5 : Int32) {o : Int32 × Int32 × jA} (hf : f_X11_feed s_t_now_tape_length r_t_now_tape_bytes x1 x2 x3 x4 x5 = some o) : jMi l yX11_feed gX11_feed rX11_feed G D (jT cI cB cZ) [.ref a_t, .int x1, .int x2, .int x3, .int x4, .int x5] (w_X11_feed cI cB cZ a_t a_t_now a_t_now_tape a_t_now_tape_bytes u_t_images u_t_texts u_t_turns u_t_kinship u_t_censuses u_t_now_wheel u_t_now_law u_t_now_people u_t_now_words u_t_now_wordCount u_t_now_tape_fault u_t_now_tape_place s_t_now_tape_length r_t_now_tape_bytes) (w_X11_feed cI cB cZ a_t a_t_now a_t_now_tape a_t_now_tape_bytes u_t_images u_t_texts u_t_turns u_t_kinship u_t_censuses u_t_now_wheel u_t_now_law u_t_now_people u_t_now_words u_t_now_wordCount u_t_now_tape_fault u_t_now_tape_place o.2.1 o.2.2) o.1 := by
  refine jmk_i RX11 rfl (by decide +kernel) rfl (Nat.le_of_ble_eq_true rfl) rfl ?_
  intro p e s m args below meth c ls A Q C hP hD hS hl K
  exact t_X11_feed G D cI cB cZ a_t a_t_now a_t_now_tape a_t_now_tape_bytes u_t_images u_t_texts u_t_turns u_t_kinship u_t_censuses u_t_now_wheel u_t_now_law u_t_now_people u_t_now_words u_t_now_wordCount u_t_now_tape_fault u_t_now_tape_place s_t_now_tape_length r_t_now_tape_bytes x1 x2 x3 x4 x5 C hf K hP hD hS hl
abbrev rX11_end : Room := { frames := 1, cells := 0, slots := 0, locals := 21 }
abbrev gX11_end : List Cond := wG yX11_end cX11_end 2 (some .int)
def w_X11_end (cI cB cZ : ClassId) (a_t a_t_now a_t_now_tape : Nat) (u_t_images u_t_texts u_t_turns u_t_kinship u_t_censuses u_t_now_wheel u_t_now_law u_t_now_people u_t_now_words : Value) (u_t_now_wordCount : Int32) (u_t_now_tape_bytes : Value) (u_t_now_tape_fault u_t_now_tape_place s_t_now_tape_length : Int32) : va_W := [(a_t, .inr (10, (oX11 (.ref a_t_now) u_t_images u_t_texts u_t_turns u_t_kinship u_t_censuses))), (a_t_now, .inr (5, (oX6 (.ref a_t_now_tape) u_t_now_wheel u_t_now_law u_t_now_people u_t_now_words u_t_now_wordCount))), (a_t_now_tape, .inr (6, (oX7 u_t_now_tape_bytes s_t_now_tape_length u_t_now_tape_fault u_t_now_tape_place)))]
def f_X11_end (s_t_now_tape_length x1 : Int32) : Option (Int32 × Int32) :=
  jM (f_X7_cut s_t_now_tape_length x1) fun r1 =>
  some (r1.1, r1.2)
set_option maxHeartbeats 4000000 in
set_option maxRecDepth 100000 in
theorem t_X11_end {p : Program} {l : Launch} {e : Env} {s : State} {m : MethodId} {args : Array Value} {below : List Frame} {meth : Method} {c : Code} {A : Nat → Prop} {Q : State → Prop} (G : jGt) (D : va_G) (cI cB cZ : ClassId) (a_t a_t_now a_t_now_tape : Nat) (u_t_images u_t_texts u_t_turns u_t_kinship u_t_censuses u_t_now_wheel u_t_now_law u_t_now_people u_t_now_words : Value) (u_t_now_wordCount : Int32) (u_t_now_tape_bytes : Value) (u_t_now_tape_fault u_t_now_tape_place : Int32) (s_t_now_tape_length x1 : Int32) (C : jCx p s m args c cX11_end 2 gX11_end RX11 G D (jT cI cB cZ) A) {o : Int32 × Int32} (hf : f_X11_end s_t_now_tape_length x1 = some o) (K : ∀ (H : Heap) (locs : List Loc) (pc : Nat) (ls : Array Slot), va_P D vwCl (w_X11_end cI cB cZ a_t a_t_now a_t_now_tape u_t_images u_t_texts u_t_turns u_t_kinship u_t_censuses u_t_now_wheel u_t_now_law u_t_now_people u_t_now_words u_t_now_wordCount u_t_now_tape_bytes u_t_now_tape_fault u_t_now_tape_place o.2) H → va_S A s.heap H locs → decode cX11_end pc = .ok (.ireturn, 1) → W p l e rX11_end s m args below meth c H locs 0 0 Q (F0 m pc ls [.int o.1])) {H : Heap} {locs : List Loc} {ls : Array Slot} (hP : va_P D vwCl (w_X11_end cI cB cZ a_t a_t_now a_t_now_tape u_t_images u_t_texts u_t_turns u_t_kinship u_t_censuses u_t_now_wheel u_t_now_law u_t_now_people u_t_now_words u_t_now_wordCount u_t_now_tape_bytes u_t_now_tape_fault u_t_now_tape_place s_t_now_tape_length) H) (hD : va_D A (w_X11_end cI cB cZ a_t a_t_now a_t_now_tape u_t_images u_t_texts u_t_turns u_t_kinship u_t_censuses u_t_now_wheel u_t_now_law u_t_now_people u_t_now_words u_t_now_wordCount u_t_now_tape_bytes u_t_now_tape_fault u_t_now_tape_place s_t_now_tape_length)) (hS : va_S A s.heap H locs) (hl : lv_has ls 2 [(0, .ref a_t), (1, .int x1)]) : W p l e rX11_end s m args below meth c H locs 0 0 Q (F0 m 0 ls []) := by
  obtain ⟨⟨hx, hb, hml, hown, hts⟩, hK, hN, hA⟩ := C
  have C : jCx p s m args c cX11_end 2 gX11_end RX11 G D (jT cI cB cZ) A := ⟨⟨hx, hb, hml, hown, hts⟩, hK, hN, hA⟩
  unfold f_X11_end at hf
  refine lv_aload_n hx hb dX11_end_0 rfl (lv_at hl 0 rfl) ?_
  refine va_get (D := D) (ci := 10) (v := .ref a_t_now) (C := RX11) (T := TX11) (N := 6) hx hb hts iw_X11 hown hK hP 0 rfl rfl 0 (by decide) (hts _ (wG_in k_fl_X11_10 rfl)) (fun _ h9 => h9) rfl dX11_end_1 ?_
  refine va_get (D := D) (ci := 5) (v := .ref a_t_now_tape) (C := RX6) (T := TX6) (N := 6) hx hb hts iw_X6 hown hK hP 1 rfl rfl 0 (by decide) (hts _ (wG_in k_fl_X11_47 rfl)) (fun _ h9 => h9) rfl dX11_end_4 ?_
  refine lv_iload_n hx hb dX11_end_7 rfl (lv_at hl 1 rfl) ?_
  obtain ⟨r1, hgr1, hf⟩ := jM_some hf
  refine jcV_i (As := [.int x1]) (rest := []) ⟨hx, hb, hml, hown, hts⟩ hK hN hA (c_X7_cut l G D cI cB cZ a_t_now_tape u_t_now_tape_bytes u_t_now_tape_fault u_t_now_tape_place s_t_now_tape_length x1 hgr1) (cwV 1 hts (wG_V k_ml_X11_57 k_im_X7_cut k_se_X7_cut k_in_X7 k_co_X7_cut) rfl rfl rfl hd_X7_cut ⟨Nat.le_of_ble_eq_true rfl, Nat.le_of_ble_eq_true rfl⟩) hP hD hS [2] rfl rfl rfl (ci := 6) rfl 2 rfl rfl rfl hl.1 rfl (Nat.le_of_ble_eq_true rfl) dX11_end_8 ⟨Nat.le_of_ble_eq_true rfl, Nat.le_of_ble_eq_true rfl⟩ (fun H locs hP hD hS => ?_)
  have hP : va_P D vwCl (w_X11_end cI cB cZ a_t a_t_now a_t_now_tape u_t_images u_t_texts u_t_turns u_t_kinship u_t_censuses u_t_now_wheel u_t_now_law u_t_now_people u_t_now_words u_t_now_wordCount u_t_now_tape_bytes u_t_now_tape_fault u_t_now_tape_place r1.2) H := hP
  have hD : va_D A (w_X11_end cI cB cZ a_t a_t_now a_t_now_tape u_t_images u_t_texts u_t_turns u_t_kinship u_t_censuses u_t_now_wheel u_t_now_law u_t_now_people u_t_now_words u_t_now_wordCount u_t_now_tape_bytes u_t_now_tape_fault u_t_now_tape_place r1.2) := hD
  have ho := Option.some.inj hf
  subst ho
  exact K _ _ _ _ hP hS dX11_end_11
set_option maxHeartbeats 4000000 in
set_option maxRecDepth 100000 in
theorem c_X11_end (l : Launch) (G : jGt) (D : va_G) (cI cB cZ : ClassId) (a_t a_t_now a_t_now_tape : Nat) (u_t_images u_t_texts u_t_turns u_t_kinship u_t_censuses u_t_now_wheel u_t_now_law u_t_now_people u_t_now_words : Value) (u_t_now_wordCount : Int32) (u_t_now_tape_bytes : Value) (u_t_now_tape_fault u_t_now_tape_place : Int32) (s_t_now_tape_length x1 : Int32) {o : Int32 × Int32} (hf : f_X11_end s_t_now_tape_length x1 = some o) : jMi l yX11_end gX11_end rX11_end G D (jT cI cB cZ) [.ref a_t, .int x1] (w_X11_end cI cB cZ a_t a_t_now a_t_now_tape u_t_images u_t_texts u_t_turns u_t_kinship u_t_censuses u_t_now_wheel u_t_now_law u_t_now_people u_t_now_words u_t_now_wordCount u_t_now_tape_bytes u_t_now_tape_fault u_t_now_tape_place s_t_now_tape_length) (w_X11_end cI cB cZ a_t a_t_now a_t_now_tape u_t_images u_t_texts u_t_turns u_t_kinship u_t_censuses u_t_now_wheel u_t_now_law u_t_now_people u_t_now_words u_t_now_wordCount u_t_now_tape_bytes u_t_now_tape_fault u_t_now_tape_place o.2) o.1 := by
  refine jmk_i RX11 rfl (by decide +kernel) rfl (Nat.le_of_ble_eq_true rfl) rfl ?_
  intro p e s m args below meth c ls A Q C hP hD hS hl K
  exact t_X11_end G D cI cB cZ a_t a_t_now a_t_now_tape u_t_images u_t_texts u_t_turns u_t_kinship u_t_censuses u_t_now_wheel u_t_now_law u_t_now_people u_t_now_words u_t_now_wordCount u_t_now_tape_bytes u_t_now_tape_fault u_t_now_tape_place s_t_now_tape_length x1 C hf K hP hD hS hl
abbrev rX11_isSex : Room := { frames := 0, cells := 0, slots := 0, locals := 0 }
abbrev gX11_isSex : List Cond := wG yX11_isSex cX11_isSex 1 (some .boolean)
def f_X11_isSex_j9  : Option (Int32) :=
  some (1 : Int32)
set_option maxHeartbeats 4000000 in
set_option maxRecDepth 100000 in
theorem t_X11_isSex_j9 {p : Program} {l : Launch} {e : Env} {s : State} {m : MethodId} {args : Array Value} {below : List Frame} {meth : Method} {c : Code} {A : Nat → Prop} {Q : State → Prop} (G : jGt) (D : va_G) (cI cB cZ : ClassId)  (C : jCx p s m args c cX11_isSex 1 gX11_isSex RX11 G D (jT cI cB cZ) A) {o : Int32} (hf : f_X11_isSex_j9  = some o) (K : ∀ (H : Heap) (locs : List Loc) (pc : Nat) (ls : Array Slot), (o = 0 ∨ o = 1) → va_P D vwCl [] H → va_S A s.heap H locs → decode cX11_isSex pc = .ok (.ireturn, 1) → W p l e rX11_isSex s m args below meth c H locs 0 0 Q (F0 m pc ls [.int o])) {H : Heap} {locs : List Loc} {ls : Array Slot} (hP : va_P D vwCl [] H) (hD : va_D A []) (hS : va_S A s.heap H locs) (hl : lv_has ls 1 []) : W p l e rX11_isSex s m args below meth c H locs 0 0 Q (F0 m 9 ls []) := by
  obtain ⟨⟨hx, hb, hml, hown, hts⟩, hK, hN, hA⟩ := C
  have C : jCx p s m args c cX11_isSex 1 gX11_isSex RX11 G D (jT cI cB cZ) A := ⟨⟨hx, hb, hml, hown, hts⟩, hK, hN, hA⟩
  unfold f_X11_isSex_j9 at hf
  refine lv_iconst (v := (1 : Int32)) hx hb dX11_isSex_9 (by decide) ?_
  refine lv_goto (tgt := 14) hx hb dX11_isSex_10 (by decide) ?_
  have ho := Option.some.inj hf
  subst ho
  exact K _ _ _ _ (Or.inr rfl) hP hS dX11_isSex_14
def f_X11_isSex (x0 : Int32) : Option (Int32) :=
  if x0 = 0 then
  f_X11_isSex_j9 
  else
  if x0 = (1 : Int32) then
  f_X11_isSex_j9 
  else
  some (0 : Int32)
set_option maxHeartbeats 4000000 in
set_option maxRecDepth 100000 in
theorem t_X11_isSex {p : Program} {l : Launch} {e : Env} {s : State} {m : MethodId} {args : Array Value} {below : List Frame} {meth : Method} {c : Code} {A : Nat → Prop} {Q : State → Prop} (G : jGt) (D : va_G) (cI cB cZ : ClassId) (x0 : Int32) (C : jCx p s m args c cX11_isSex 1 gX11_isSex RX11 G D (jT cI cB cZ) A) {o : Int32} (hf : f_X11_isSex x0 = some o) (K : ∀ (H : Heap) (locs : List Loc) (pc : Nat) (ls : Array Slot), (o = 0 ∨ o = 1) → va_P D vwCl [] H → va_S A s.heap H locs → decode cX11_isSex pc = .ok (.ireturn, 1) → W p l e rX11_isSex s m args below meth c H locs 0 0 Q (F0 m pc ls [.int o])) {H : Heap} {locs : List Loc} {ls : Array Slot} (hP : va_P D vwCl [] H) (hD : va_D A []) (hS : va_S A s.heap H locs) (hl : lv_has ls 1 [(0, .int x0)]) : W p l e rX11_isSex s m args below meth c H locs 0 0 Q (F0 m 0 ls []) := by
  obtain ⟨⟨hx, hb, hml, hown, hts⟩, hK, hN, hA⟩ := C
  have C : jCx p s m args c cX11_isSex 1 gX11_isSex RX11 G D (jT cI cB cZ) A := ⟨⟨hx, hb, hml, hown, hts⟩, hK, hN, hA⟩
  unfold f_X11_isSex at hf
  refine lv_iload_n hx hb dX11_isSex_0 rfl (lv_at hl 0 rfl) ?_
  refine lv_if_eq (tgt := 9) hx hb dX11_isSex_1 (by decide) (fun c1 => ?_) (fun c1 => ?_)
  · replace hf := jif_t c1 hf
    exact t_X11_isSex_j9 G D cI cB cZ  C hf K hP hD hS (lv_sub hl [] rfl)
  · replace hf := jif_f c1 hf
    refine lv_iload_n hx hb dX11_isSex_4 rfl (lv_at hl 0 rfl) ?_
    refine lv_iconst (v := (1 : Int32)) hx hb dX11_isSex_5 (by decide) ?_
    refine lv_icmp_ne (tgt := 13) hx hb dX11_isSex_6 (by decide) (fun c2 => ?_) (fun c2 => ?_)
    · replace hf := jif_f c2 hf
      refine lv_iconst (v := (0 : Int32)) hx hb dX11_isSex_13 (by decide) ?_
      have ho := Option.some.inj hf
      subst ho
      exact K _ _ _ _ (Or.inl rfl) hP hS dX11_isSex_14
    · replace hf := jif_t c2 hf
      exact t_X11_isSex_j9 G D cI cB cZ  C hf K hP hD hS (lv_sub hl [] rfl)
set_option maxHeartbeats 4000000 in
set_option maxRecDepth 100000 in
theorem c_X11_isSex (l : Launch) (G : jGt) (D : va_G) (cI cB cZ : ClassId) (x0 : Int32) {o : Int32} (hf : f_X11_isSex x0 = some o) : jMi l yX11_isSex gX11_isSex rX11_isSex G D (jT cI cB cZ) [.int x0] [] [] o := by
  refine jmk_z RX11 rfl (by decide +kernel) rfl (Nat.le_of_ble_eq_true rfl) rfl ?_
  intro p e s m args below meth c ls A Q C hP hD hS hl K
  exact t_X11_isSex G D cI cB cZ x0 C hf K hP hD hS hl
abbrev rX11_fault : Room := { frames := 0, cells := 0, slots := 0, locals := 0 }
abbrev gX11_fault : List Cond := wG yX11_fault cX11_fault 2 (some .int)
def w_X11_fault (cI cB cZ : ClassId) (a_t a_t_now a_t_now_tape : Nat) (u_t_images u_t_texts u_t_turns u_t_kinship u_t_censuses u_t_now_wheel u_t_now_law u_t_now_people u_t_now_words : Value) (u_t_now_wordCount : Int32) (u_t_now_tape_bytes : Value) (u_t_now_tape_length s_t_now_tape_fault s_t_now_tape_place : Int32) : va_W := [(a_t, .inr (10, (oX11 (.ref a_t_now) u_t_images u_t_texts u_t_turns u_t_kinship u_t_censuses))), (a_t_now, .inr (5, (oX6 (.ref a_t_now_tape) u_t_now_wheel u_t_now_law u_t_now_people u_t_now_words u_t_now_wordCount))), (a_t_now_tape, .inr (6, (oX7 u_t_now_tape_bytes u_t_now_tape_length s_t_now_tape_fault s_t_now_tape_place)))]
def f_X11_fault (s_t_now_tape_fault s_t_now_tape_place x1 : Int32) : Option (Int32) :=
  if x1 = (0 : Int32) then
  some s_t_now_tape_fault
  else if x1 = (1 : Int32) then
  some s_t_now_tape_place
  else some (-1 : Int32)
set_option maxHeartbeats 4000000 in
set_option maxRecDepth 100000 in
theorem t_X11_fault {p : Program} {l : Launch} {e : Env} {s : State} {m : MethodId} {args : Array Value} {below : List Frame} {meth : Method} {c : Code} {A : Nat → Prop} {Q : State → Prop} (G : jGt) (D : va_G) (cI cB cZ : ClassId) (a_t a_t_now a_t_now_tape : Nat) (u_t_images u_t_texts u_t_turns u_t_kinship u_t_censuses u_t_now_wheel u_t_now_law u_t_now_people u_t_now_words : Value) (u_t_now_wordCount : Int32) (u_t_now_tape_bytes : Value) (u_t_now_tape_length s_t_now_tape_fault s_t_now_tape_place : Int32) (x1 : Int32) (C : jCx p s m args c cX11_fault 2 gX11_fault RX11 G D (jT cI cB cZ) A) {o : Int32} (hf : f_X11_fault s_t_now_tape_fault s_t_now_tape_place x1 = some o) (K : ∀ (H : Heap) (locs : List Loc) (pc : Nat) (ls : Array Slot), va_P D vwCl (w_X11_fault cI cB cZ a_t a_t_now a_t_now_tape u_t_images u_t_texts u_t_turns u_t_kinship u_t_censuses u_t_now_wheel u_t_now_law u_t_now_people u_t_now_words u_t_now_wordCount u_t_now_tape_bytes u_t_now_tape_length s_t_now_tape_fault s_t_now_tape_place) H → va_S A s.heap H locs → decode cX11_fault pc = .ok (.ireturn, 1) → W p l e rX11_fault s m args below meth c H locs 0 0 Q (F0 m pc ls [.int o])) {H : Heap} {locs : List Loc} {ls : Array Slot} (hP : va_P D vwCl (w_X11_fault cI cB cZ a_t a_t_now a_t_now_tape u_t_images u_t_texts u_t_turns u_t_kinship u_t_censuses u_t_now_wheel u_t_now_law u_t_now_people u_t_now_words u_t_now_wordCount u_t_now_tape_bytes u_t_now_tape_length s_t_now_tape_fault s_t_now_tape_place) H) (hD : va_D A (w_X11_fault cI cB cZ a_t a_t_now a_t_now_tape u_t_images u_t_texts u_t_turns u_t_kinship u_t_censuses u_t_now_wheel u_t_now_law u_t_now_people u_t_now_words u_t_now_wordCount u_t_now_tape_bytes u_t_now_tape_length s_t_now_tape_fault s_t_now_tape_place)) (hS : va_S A s.heap H locs) (hl : lv_has ls 2 [(0, .ref a_t), (1, .int x1)]) : W p l e rX11_fault s m args below meth c H locs 0 0 Q (F0 m 0 ls []) := by
  obtain ⟨⟨hx, hb, hml, hown, hts⟩, hK, hN, hA⟩ := C
  have C : jCx p s m args c cX11_fault 2 gX11_fault RX11 G D (jT cI cB cZ) A := ⟨⟨hx, hb, hml, hown, hts⟩, hK, hN, hA⟩
  unfold f_X11_fault at hf
  refine lv_iload_n hx hb dX11_fault_0 rfl (lv_at hl 1 rfl) ?_
  by_cases c1 : x1 = (0 : Int32)
  · replace hf := jif_t c1 hf
    refine lv_lookup (tgt := 28) hx hb dX11_fault_1 (by decide) (by rw [c1]; rfl) (by decide) ?_
    refine lv_aload_n hx hb dX11_fault_28 rfl (lv_at hl 0 rfl) ?_
    refine va_get (D := D) (ci := 10) (v := .ref a_t_now) (C := RX11) (T := TX11) (N := 6) hx hb hts iw_X11 hown hK hP 0 rfl rfl 0 (by decide) (hts _ (wG_in k_fl_X11_10 rfl)) (fun _ h9 => h9) rfl dX11_fault_29 ?_
    refine va_get (D := D) (ci := 5) (v := .ref a_t_now_tape) (C := RX6) (T := TX6) (N := 6) hx hb hts iw_X6 hown hK hP 1 rfl rfl 0 (by decide) (hts _ (wG_in k_fl_X11_47 rfl)) (fun _ h9 => h9) rfl dX11_fault_32 ?_
    refine va_get (D := D) (ci := 6) (v := .int s_t_now_tape_fault) (C := RX7) (T := TX7) (N := 4) hx hb hts iw_X7 hown hK hP 2 rfl rfl 2 (by decide) (hts _ (wG_in k_fl_X11_117 rfl)) (fun _ h9 => h9) rfl dX11_fault_35 ?_
    have ho := Option.some.inj hf
    subst ho
    exact K _ _ _ _ hP hS dX11_fault_38
  replace hf := jif_f c1 hf
  by_cases c2 : x1 = (1 : Int32)
  · replace hf := jif_t c2 hf
    refine lv_lookup (tgt := 39) hx hb dX11_fault_1 (by decide) (by rw [c2]; rfl) (by decide) ?_
    refine lv_aload_n hx hb dX11_fault_39 rfl (lv_at hl 0 rfl) ?_
    refine va_get (D := D) (ci := 10) (v := .ref a_t_now) (C := RX11) (T := TX11) (N := 6) hx hb hts iw_X11 hown hK hP 0 rfl rfl 0 (by decide) (hts _ (wG_in k_fl_X11_10 rfl)) (fun _ h9 => h9) rfl dX11_fault_40 ?_
    refine va_get (D := D) (ci := 5) (v := .ref a_t_now_tape) (C := RX6) (T := TX6) (N := 6) hx hb hts iw_X6 hown hK hP 1 rfl rfl 0 (by decide) (hts _ (wG_in k_fl_X11_47 rfl)) (fun _ h9 => h9) rfl dX11_fault_43 ?_
    refine va_get (D := D) (ci := 6) (v := .int s_t_now_tape_place) (C := RX7) (T := TX7) (N := 4) hx hb hts iw_X7 hown hK hP 2 rfl rfl 3 (by decide) (hts _ (wG_in k_fl_X11_120 rfl)) (fun _ h9 => h9) rfl dX11_fault_46 ?_
    have ho := Option.some.inj hf
    subst ho
    exact K _ _ _ _ hP hS dX11_fault_49
  replace hf := jif_f c2 hf
  refine lv_lookup (off := 49) (tgt := 50) hx hb dX11_fault_1 (by decide) (by simp [Op.lookupswitch.offset, jint_ne (n := 0) c1, jint_ne (n := 1) c2]) (by decide) ?_
  refine lv_iconst (v := (-1 : Int32)) hx hb dX11_fault_50 (by decide) ?_
  have ho := Option.some.inj hf
  subst ho
  exact K _ _ _ _ hP hS dX11_fault_51
set_option maxHeartbeats 4000000 in
set_option maxRecDepth 100000 in
theorem c_X11_fault (l : Launch) (G : jGt) (D : va_G) (cI cB cZ : ClassId) (a_t a_t_now a_t_now_tape : Nat) (u_t_images u_t_texts u_t_turns u_t_kinship u_t_censuses u_t_now_wheel u_t_now_law u_t_now_people u_t_now_words : Value) (u_t_now_wordCount : Int32) (u_t_now_tape_bytes : Value) (u_t_now_tape_length s_t_now_tape_fault s_t_now_tape_place : Int32) (x1 : Int32) {o : Int32} (hf : f_X11_fault s_t_now_tape_fault s_t_now_tape_place x1 = some o) : jMi l yX11_fault gX11_fault rX11_fault G D (jT cI cB cZ) [.ref a_t, .int x1] (w_X11_fault cI cB cZ a_t a_t_now a_t_now_tape u_t_images u_t_texts u_t_turns u_t_kinship u_t_censuses u_t_now_wheel u_t_now_law u_t_now_people u_t_now_words u_t_now_wordCount u_t_now_tape_bytes u_t_now_tape_length s_t_now_tape_fault s_t_now_tape_place) (w_X11_fault cI cB cZ a_t a_t_now a_t_now_tape u_t_images u_t_texts u_t_turns u_t_kinship u_t_censuses u_t_now_wheel u_t_now_law u_t_now_people u_t_now_words u_t_now_wordCount u_t_now_tape_bytes u_t_now_tape_length s_t_now_tape_fault s_t_now_tape_place) o := by
  refine jmk_i RX11 rfl (by decide +kernel) rfl (Nat.le_of_ble_eq_true rfl) rfl ?_
  intro p e s m args below meth c ls A Q C hP hD hS hl K
  exact t_X11_fault G D cI cB cZ a_t a_t_now a_t_now_tape u_t_images u_t_texts u_t_turns u_t_kinship u_t_censuses u_t_now_wheel u_t_now_law u_t_now_people u_t_now_words u_t_now_wordCount u_t_now_tape_bytes u_t_now_tape_length s_t_now_tape_fault s_t_now_tape_place x1 C hf K hP hD hS hl
abbrev rX11_weds : Room := { frames := 2, cells := 0, slots := 0, locals := 42 }
abbrev gX11_weds : List Cond := wG yX11_weds cX11_weds 2 (some .int)
def w_X11_weds (cI cB cZ : ClassId) (a_t a_t_now a_t_now_wheel a_t_now_wheel_wife : Nat) (u_t_images u_t_texts u_t_turns u_t_kinship u_t_censuses u_t_now_tape u_t_now_law u_t_now_people u_t_now_words : Value) (u_t_now_wordCount : Int32) (u_t_now_wheel_child u_t_now_wheel_husband u_t_now_wheel_father : Value) (s_t_now_wheel_size : Int32) (r_t_now_wheel_wife : jA) : va_W := [(a_t, .inr (10, (oX11 (.ref a_t_now) u_t_images u_t_texts u_t_turns u_t_kinship u_t_censuses))), (a_t_now, .inr (5, (oX6 u_t_now_tape (.ref a_t_now_wheel) u_t_now_law u_t_now_people u_t_now_words u_t_now_wordCount))), (a_t_now_wheel, .inr (9, (oX10 (.ref a_t_now_wheel_wife) u_t_now_wheel_child u_t_now_wheel_husband u_t_now_wheel_father s_t_now_wheel_size))), (a_t_now_wheel_wife, .inl (cI, r_t_now_wheel_wife.1, .inl r_t_now_wheel_wife.2))]
def f_X11_weds (s_t_now_wheel_size : Int32) (r_t_now_wheel_wife : jA) (x1 : Int32) : Option (Int32) :=
  jM (f_X10_wifeOf s_t_now_wheel_size r_t_now_wheel_wife x1) fun r1 =>
  some r1
set_option maxHeartbeats 4000000 in
set_option maxRecDepth 100000 in
theorem t_X11_weds {p : Program} {l : Launch} {e : Env} {s : State} {m : MethodId} {args : Array Value} {below : List Frame} {meth : Method} {c : Code} {A : Nat → Prop} {Q : State → Prop} (G : jGt) (D : va_G) (cI cB cZ : ClassId) (a_t a_t_now a_t_now_wheel a_t_now_wheel_wife : Nat) (u_t_images u_t_texts u_t_turns u_t_kinship u_t_censuses u_t_now_tape u_t_now_law u_t_now_people u_t_now_words : Value) (u_t_now_wordCount : Int32) (u_t_now_wheel_child u_t_now_wheel_husband u_t_now_wheel_father : Value) (s_t_now_wheel_size : Int32) (r_t_now_wheel_wife : jA) (x1 : Int32) (C : jCx p s m args c cX11_weds 2 gX11_weds RX11 G D (jT cI cB cZ) A) {o : Int32} (hf : f_X11_weds s_t_now_wheel_size r_t_now_wheel_wife x1 = some o) (K : ∀ (H : Heap) (locs : List Loc) (pc : Nat) (ls : Array Slot), va_P D vwCl (w_X11_weds cI cB cZ a_t a_t_now a_t_now_wheel a_t_now_wheel_wife u_t_images u_t_texts u_t_turns u_t_kinship u_t_censuses u_t_now_tape u_t_now_law u_t_now_people u_t_now_words u_t_now_wordCount u_t_now_wheel_child u_t_now_wheel_husband u_t_now_wheel_father s_t_now_wheel_size r_t_now_wheel_wife) H → va_S A s.heap H locs → decode cX11_weds pc = .ok (.ireturn, 1) → W p l e rX11_weds s m args below meth c H locs 0 0 Q (F0 m pc ls [.int o])) {H : Heap} {locs : List Loc} {ls : Array Slot} (hP : va_P D vwCl (w_X11_weds cI cB cZ a_t a_t_now a_t_now_wheel a_t_now_wheel_wife u_t_images u_t_texts u_t_turns u_t_kinship u_t_censuses u_t_now_tape u_t_now_law u_t_now_people u_t_now_words u_t_now_wordCount u_t_now_wheel_child u_t_now_wheel_husband u_t_now_wheel_father s_t_now_wheel_size r_t_now_wheel_wife) H) (hD : va_D A (w_X11_weds cI cB cZ a_t a_t_now a_t_now_wheel a_t_now_wheel_wife u_t_images u_t_texts u_t_turns u_t_kinship u_t_censuses u_t_now_tape u_t_now_law u_t_now_people u_t_now_words u_t_now_wordCount u_t_now_wheel_child u_t_now_wheel_husband u_t_now_wheel_father s_t_now_wheel_size r_t_now_wheel_wife)) (hS : va_S A s.heap H locs) (hl : lv_has ls 2 [(0, .ref a_t), (1, .int x1)]) : W p l e rX11_weds s m args below meth c H locs 0 0 Q (F0 m 0 ls []) := by
  obtain ⟨⟨hx, hb, hml, hown, hts⟩, hK, hN, hA⟩ := C
  have C : jCx p s m args c cX11_weds 2 gX11_weds RX11 G D (jT cI cB cZ) A := ⟨⟨hx, hb, hml, hown, hts⟩, hK, hN, hA⟩
  unfold f_X11_weds at hf
  refine lv_aload_n hx hb dX11_weds_0 rfl (lv_at hl 0 rfl) ?_
  refine va_get (D := D) (ci := 10) (v := .ref a_t_now) (C := RX11) (T := TX11) (N := 6) hx hb hts iw_X11 hown hK hP 0 rfl rfl 0 (by decide) (hts _ (wG_in k_fl_X11_10 rfl)) (fun _ h9 => h9) rfl dX11_weds_1 ?_
  refine va_get (D := D) (ci := 5) (v := .ref a_t_now_wheel) (C := RX6) (T := TX6) (N := 6) hx hb hts iw_X6 hown hK hP 1 rfl rfl 1 (by decide) (hts _ (wG_in k_fl_X11_65 rfl)) (fun _ h9 => h9) rfl dX11_weds_4 ?_
  refine lv_iload_n hx hb dX11_weds_7 rfl (lv_at hl 1 rfl) ?_
  obtain ⟨r1, hgr1, hf⟩ := jM_some hf
  refine jcV_i0 (As := [.int x1]) (rest := []) ⟨hx, hb, hml, hown, hts⟩ hK hN hA (c_X10_wifeOf l G D cI cB cZ a_t_now_wheel a_t_now_wheel_wife u_t_now_wheel_child u_t_now_wheel_husband u_t_now_wheel_father s_t_now_wheel_size r_t_now_wheel_wife x1 hgr1) (cwV 1 hts (wG_V k_ml_X11_123 k_im_X10_wifeOf k_se_X10_wifeOf k_in_X10 k_co_X10_wifeOf) rfl rfl rfl hd_X10_wifeOf ⟨Nat.le_of_ble_eq_true rfl, Nat.le_of_ble_eq_true rfl⟩) hP hD hS [2, 3] rfl rfl rfl (ci := 9) rfl 2 rfl rfl rfl hl.1 rfl (Nat.le_of_ble_eq_true rfl) dX11_weds_8 ⟨Nat.le_of_ble_eq_true rfl, Nat.le_of_ble_eq_true rfl⟩ (fun H locs hP hD hS => ?_)
  have ho := Option.some.inj hf
  subst ho
  exact K _ _ _ _ hP hS dX11_weds_11
set_option maxHeartbeats 4000000 in
set_option maxRecDepth 100000 in
theorem c_X11_weds (l : Launch) (G : jGt) (D : va_G) (cI cB cZ : ClassId) (a_t a_t_now a_t_now_wheel a_t_now_wheel_wife : Nat) (u_t_images u_t_texts u_t_turns u_t_kinship u_t_censuses u_t_now_tape u_t_now_law u_t_now_people u_t_now_words : Value) (u_t_now_wordCount : Int32) (u_t_now_wheel_child u_t_now_wheel_husband u_t_now_wheel_father : Value) (s_t_now_wheel_size : Int32) (r_t_now_wheel_wife : jA) (x1 : Int32) {o : Int32} (hf : f_X11_weds s_t_now_wheel_size r_t_now_wheel_wife x1 = some o) : jMi l yX11_weds gX11_weds rX11_weds G D (jT cI cB cZ) [.ref a_t, .int x1] (w_X11_weds cI cB cZ a_t a_t_now a_t_now_wheel a_t_now_wheel_wife u_t_images u_t_texts u_t_turns u_t_kinship u_t_censuses u_t_now_tape u_t_now_law u_t_now_people u_t_now_words u_t_now_wordCount u_t_now_wheel_child u_t_now_wheel_husband u_t_now_wheel_father s_t_now_wheel_size r_t_now_wheel_wife) (w_X11_weds cI cB cZ a_t a_t_now a_t_now_wheel a_t_now_wheel_wife u_t_images u_t_texts u_t_turns u_t_kinship u_t_censuses u_t_now_tape u_t_now_law u_t_now_people u_t_now_words u_t_now_wordCount u_t_now_wheel_child u_t_now_wheel_husband u_t_now_wheel_father s_t_now_wheel_size r_t_now_wheel_wife) o := by
  refine jmk_i RX11 rfl (by decide +kernel) rfl (Nat.le_of_ble_eq_true rfl) rfl ?_
  intro p e s m args below meth c ls A Q C hP hD hS hl K
  exact t_X11_weds G D cI cB cZ a_t a_t_now a_t_now_wheel a_t_now_wheel_wife u_t_images u_t_texts u_t_turns u_t_kinship u_t_censuses u_t_now_tape u_t_now_law u_t_now_people u_t_now_words u_t_now_wordCount u_t_now_wheel_child u_t_now_wheel_husband u_t_now_wheel_father s_t_now_wheel_size r_t_now_wheel_wife x1 C hf K hP hD hS hl
abbrev rX11_child : Room := { frames := 2, cells := 0, slots := 0, locals := 43 }
abbrev gX11_child : List Cond := wG yX11_child cX11_child 3 (some .int)
def w_X11_child (cI cB cZ : ClassId) (a_t a_t_now a_t_now_wheel a_t_now_wheel_child a_t_now_wheel_husband : Nat) (u_t_images u_t_texts u_t_turns u_t_kinship u_t_censuses u_t_now_tape u_t_now_law u_t_now_people u_t_now_words : Value) (u_t_now_wordCount : Int32) (u_t_now_wheel_wife u_t_now_wheel_father : Value) (s_t_now_wheel_size : Int32) (r_t_now_wheel_child r_t_now_wheel_husband : jA) : va_W := [(a_t, .inr (10, (oX11 (.ref a_t_now) u_t_images u_t_texts u_t_turns u_t_kinship u_t_censuses))), (a_t_now, .inr (5, (oX6 u_t_now_tape (.ref a_t_now_wheel) u_t_now_law u_t_now_people u_t_now_words u_t_now_wordCount))), (a_t_now_wheel, .inr (9, (oX10 u_t_now_wheel_wife (.ref a_t_now_wheel_child) (.ref a_t_now_wheel_husband) u_t_now_wheel_father s_t_now_wheel_size))), (a_t_now_wheel_child, .inl (cI, r_t_now_wheel_child.1, .inl r_t_now_wheel_child.2)), (a_t_now_wheel_husband, .inl (cI, r_t_now_wheel_husband.1, .inl r_t_now_wheel_husband.2))]
def f_X11_child_j16 (s_t_now_wheel_size : Int32) (r_t_now_wheel_child r_t_now_wheel_husband : jA) (x1 k1 : Int32) : Option (Int32) :=
  jM (f_X10_childOf s_t_now_wheel_size r_t_now_wheel_child r_t_now_wheel_husband k1 x1) fun r2 =>
  some r2
set_option maxHeartbeats 4000000 in
set_option maxRecDepth 100000 in
theorem t_X11_child_j16 {p : Program} {l : Launch} {e : Env} {s : State} {m : MethodId} {args : Array Value} {below : List Frame} {meth : Method} {c : Code} {A : Nat → Prop} {Q : State → Prop} (G : jGt) (D : va_G) (cI cB cZ : ClassId) (a_t a_t_now a_t_now_wheel a_t_now_wheel_child a_t_now_wheel_husband : Nat) (u_t_images u_t_texts u_t_turns u_t_kinship u_t_censuses u_t_now_tape u_t_now_law u_t_now_people u_t_now_words : Value) (u_t_now_wordCount : Int32) (u_t_now_wheel_wife u_t_now_wheel_father : Value) (s_t_now_wheel_size : Int32) (r_t_now_wheel_child r_t_now_wheel_husband : jA) (x1 k1 : Int32) (C : jCx p s m args c cX11_child 3 gX11_child RX11 G D (jT cI cB cZ) A) {o : Int32} (hf : f_X11_child_j16 s_t_now_wheel_size r_t_now_wheel_child r_t_now_wheel_husband x1 k1 = some o) (K : ∀ (H : Heap) (locs : List Loc) (pc : Nat) (ls : Array Slot), va_P D vwCl (w_X11_child cI cB cZ a_t a_t_now a_t_now_wheel a_t_now_wheel_child a_t_now_wheel_husband u_t_images u_t_texts u_t_turns u_t_kinship u_t_censuses u_t_now_tape u_t_now_law u_t_now_people u_t_now_words u_t_now_wordCount u_t_now_wheel_wife u_t_now_wheel_father s_t_now_wheel_size r_t_now_wheel_child r_t_now_wheel_husband) H → va_S A s.heap H locs → decode cX11_child pc = .ok (.ireturn, 1) → W p l e rX11_child s m args below meth c H locs 0 0 Q (F0 m pc ls [.int o])) {H : Heap} {locs : List Loc} {ls : Array Slot} (hP : va_P D vwCl (w_X11_child cI cB cZ a_t a_t_now a_t_now_wheel a_t_now_wheel_child a_t_now_wheel_husband u_t_images u_t_texts u_t_turns u_t_kinship u_t_censuses u_t_now_tape u_t_now_law u_t_now_people u_t_now_words u_t_now_wordCount u_t_now_wheel_wife u_t_now_wheel_father s_t_now_wheel_size r_t_now_wheel_child r_t_now_wheel_husband) H) (hD : va_D A (w_X11_child cI cB cZ a_t a_t_now a_t_now_wheel a_t_now_wheel_child a_t_now_wheel_husband u_t_images u_t_texts u_t_turns u_t_kinship u_t_censuses u_t_now_tape u_t_now_law u_t_now_people u_t_now_words u_t_now_wordCount u_t_now_wheel_wife u_t_now_wheel_father s_t_now_wheel_size r_t_now_wheel_child r_t_now_wheel_husband)) (hS : va_S A s.heap H locs) (hl : lv_has ls 3 [(1, .int x1)]) : W p l e rX11_child s m args below meth c H locs 0 0 Q (F0 m 16 ls [.int k1, .ref a_t_now_wheel]) := by
  obtain ⟨⟨hx, hb, hml, hown, hts⟩, hK, hN, hA⟩ := C
  have C : jCx p s m args c cX11_child 3 gX11_child RX11 G D (jT cI cB cZ) A := ⟨⟨hx, hb, hml, hown, hts⟩, hK, hN, hA⟩
  unfold f_X11_child_j16 at hf
  refine lv_iload_n hx hb dX11_child_16 rfl (lv_at hl 0 rfl) ?_
  obtain ⟨r2, hgr2, hf⟩ := jM_some hf
  refine jcV_i0 (As := [.int k1, .int x1]) (rest := []) ⟨hx, hb, hml, hown, hts⟩ hK hN hA (c_X10_childOf l G D cI cB cZ a_t_now_wheel a_t_now_wheel_child a_t_now_wheel_husband u_t_now_wheel_wife u_t_now_wheel_father s_t_now_wheel_size r_t_now_wheel_child r_t_now_wheel_husband k1 x1 hgr2) (cwV 2 hts (wG_V k_ml_X11_126 k_im_X10_childOf k_se_X10_childOf k_in_X10 k_co_X10_childOf) rfl rfl rfl hd_X10_childOf ⟨Nat.le_of_ble_eq_true rfl, Nat.le_of_ble_eq_true rfl⟩) hP hD hS [2, 3, 4] rfl rfl rfl (ci := 9) rfl 2 rfl rfl rfl hl.1 rfl (Nat.le_of_ble_eq_true rfl) dX11_child_17 ⟨Nat.le_of_ble_eq_true rfl, Nat.le_of_ble_eq_true rfl⟩ (fun H locs hP hD hS => ?_)
  have ho := Option.some.inj hf
  subst ho
  exact K _ _ _ _ hP hS dX11_child_20
def f_X11_child (s_t_now_wheel_size : Int32) (r_t_now_wheel_child r_t_now_wheel_husband : jA) (x1 x2 : Int32) : Option (Int32) :=
  if x2 = 0 then
  f_X11_child_j16 s_t_now_wheel_size r_t_now_wheel_child r_t_now_wheel_husband x1 (1 : Int32)
  else
  f_X11_child_j16 s_t_now_wheel_size r_t_now_wheel_child r_t_now_wheel_husband x1 (0 : Int32)
set_option maxHeartbeats 4000000 in
set_option maxRecDepth 100000 in
theorem t_X11_child {p : Program} {l : Launch} {e : Env} {s : State} {m : MethodId} {args : Array Value} {below : List Frame} {meth : Method} {c : Code} {A : Nat → Prop} {Q : State → Prop} (G : jGt) (D : va_G) (cI cB cZ : ClassId) (a_t a_t_now a_t_now_wheel a_t_now_wheel_child a_t_now_wheel_husband : Nat) (u_t_images u_t_texts u_t_turns u_t_kinship u_t_censuses u_t_now_tape u_t_now_law u_t_now_people u_t_now_words : Value) (u_t_now_wordCount : Int32) (u_t_now_wheel_wife u_t_now_wheel_father : Value) (s_t_now_wheel_size : Int32) (r_t_now_wheel_child r_t_now_wheel_husband : jA) (x1 x2 : Int32) (C : jCx p s m args c cX11_child 3 gX11_child RX11 G D (jT cI cB cZ) A) {o : Int32} (hf : f_X11_child s_t_now_wheel_size r_t_now_wheel_child r_t_now_wheel_husband x1 x2 = some o) (K : ∀ (H : Heap) (locs : List Loc) (pc : Nat) (ls : Array Slot), va_P D vwCl (w_X11_child cI cB cZ a_t a_t_now a_t_now_wheel a_t_now_wheel_child a_t_now_wheel_husband u_t_images u_t_texts u_t_turns u_t_kinship u_t_censuses u_t_now_tape u_t_now_law u_t_now_people u_t_now_words u_t_now_wordCount u_t_now_wheel_wife u_t_now_wheel_father s_t_now_wheel_size r_t_now_wheel_child r_t_now_wheel_husband) H → va_S A s.heap H locs → decode cX11_child pc = .ok (.ireturn, 1) → W p l e rX11_child s m args below meth c H locs 0 0 Q (F0 m pc ls [.int o])) {H : Heap} {locs : List Loc} {ls : Array Slot} (hP : va_P D vwCl (w_X11_child cI cB cZ a_t a_t_now a_t_now_wheel a_t_now_wheel_child a_t_now_wheel_husband u_t_images u_t_texts u_t_turns u_t_kinship u_t_censuses u_t_now_tape u_t_now_law u_t_now_people u_t_now_words u_t_now_wordCount u_t_now_wheel_wife u_t_now_wheel_father s_t_now_wheel_size r_t_now_wheel_child r_t_now_wheel_husband) H) (hD : va_D A (w_X11_child cI cB cZ a_t a_t_now a_t_now_wheel a_t_now_wheel_child a_t_now_wheel_husband u_t_images u_t_texts u_t_turns u_t_kinship u_t_censuses u_t_now_tape u_t_now_law u_t_now_people u_t_now_words u_t_now_wordCount u_t_now_wheel_wife u_t_now_wheel_father s_t_now_wheel_size r_t_now_wheel_child r_t_now_wheel_husband)) (hS : va_S A s.heap H locs) (hl : lv_has ls 3 [(0, .ref a_t), (1, .int x1), (2, .int x2)]) : W p l e rX11_child s m args below meth c H locs 0 0 Q (F0 m 0 ls []) := by
  obtain ⟨⟨hx, hb, hml, hown, hts⟩, hK, hN, hA⟩ := C
  have C : jCx p s m args c cX11_child 3 gX11_child RX11 G D (jT cI cB cZ) A := ⟨⟨hx, hb, hml, hown, hts⟩, hK, hN, hA⟩
  unfold f_X11_child at hf
  refine lv_aload_n hx hb dX11_child_0 rfl (lv_at hl 0 rfl) ?_
  refine va_get (D := D) (ci := 10) (v := .ref a_t_now) (C := RX11) (T := TX11) (N := 6) hx hb hts iw_X11 hown hK hP 0 rfl rfl 0 (by decide) (hts _ (wG_in k_fl_X11_10 rfl)) (fun _ h9 => h9) rfl dX11_child_1 ?_
  refine va_get (D := D) (ci := 5) (v := .ref a_t_now_wheel) (C := RX6) (T := TX6) (N := 6) hx hb hts iw_X6 hown hK hP 1 rfl rfl 1 (by decide) (hts _ (wG_in k_fl_X11_65 rfl)) (fun _ h9 => h9) rfl dX11_child_4 ?_
  refine lv_iload_n hx hb dX11_child_7 rfl (lv_at hl 2 rfl) ?_
  refine lv_if_eq (tgt := 15) hx hb dX11_child_8 (by decide) (fun c1 => ?_) (fun c1 => ?_)
  · replace hf := jif_t c1 hf
    refine lv_iconst (v := (1 : Int32)) hx hb dX11_child_15 (by decide) ?_
    exact t_X11_child_j16 G D cI cB cZ a_t a_t_now a_t_now_wheel a_t_now_wheel_child a_t_now_wheel_husband u_t_images u_t_texts u_t_turns u_t_kinship u_t_censuses u_t_now_tape u_t_now_law u_t_now_people u_t_now_words u_t_now_wordCount u_t_now_wheel_wife u_t_now_wheel_father s_t_now_wheel_size r_t_now_wheel_child r_t_now_wheel_husband x1 (1 : Int32) C hf K hP hD hS (lv_sub hl [1] rfl)
  · replace hf := jif_f c1 hf
    refine lv_iconst (v := (0 : Int32)) hx hb dX11_child_11 (by decide) ?_
    refine lv_goto (tgt := 16) hx hb dX11_child_12 (by decide) ?_
    exact t_X11_child_j16 G D cI cB cZ a_t a_t_now a_t_now_wheel a_t_now_wheel_child a_t_now_wheel_husband u_t_images u_t_texts u_t_turns u_t_kinship u_t_censuses u_t_now_tape u_t_now_law u_t_now_people u_t_now_words u_t_now_wordCount u_t_now_wheel_wife u_t_now_wheel_father s_t_now_wheel_size r_t_now_wheel_child r_t_now_wheel_husband x1 (0 : Int32) C hf K hP hD hS (lv_sub hl [1] rfl)
set_option maxHeartbeats 4000000 in
set_option maxRecDepth 100000 in
theorem c_X11_child (l : Launch) (G : jGt) (D : va_G) (cI cB cZ : ClassId) (a_t a_t_now a_t_now_wheel a_t_now_wheel_child a_t_now_wheel_husband : Nat) (u_t_images u_t_texts u_t_turns u_t_kinship u_t_censuses u_t_now_tape u_t_now_law u_t_now_people u_t_now_words : Value) (u_t_now_wordCount : Int32) (u_t_now_wheel_wife u_t_now_wheel_father : Value) (s_t_now_wheel_size : Int32) (r_t_now_wheel_child r_t_now_wheel_husband : jA) (x1 x2 : Int32) {o : Int32} (hf : f_X11_child s_t_now_wheel_size r_t_now_wheel_child r_t_now_wheel_husband x1 x2 = some o) : jMi l yX11_child gX11_child rX11_child G D (jT cI cB cZ) [.ref a_t, .int x1, .int x2] (w_X11_child cI cB cZ a_t a_t_now a_t_now_wheel a_t_now_wheel_child a_t_now_wheel_husband u_t_images u_t_texts u_t_turns u_t_kinship u_t_censuses u_t_now_tape u_t_now_law u_t_now_people u_t_now_words u_t_now_wordCount u_t_now_wheel_wife u_t_now_wheel_father s_t_now_wheel_size r_t_now_wheel_child r_t_now_wheel_husband) (w_X11_child cI cB cZ a_t a_t_now a_t_now_wheel a_t_now_wheel_child a_t_now_wheel_husband u_t_images u_t_texts u_t_turns u_t_kinship u_t_censuses u_t_now_tape u_t_now_law u_t_now_people u_t_now_words u_t_now_wordCount u_t_now_wheel_wife u_t_now_wheel_father s_t_now_wheel_size r_t_now_wheel_child r_t_now_wheel_husband) o := by
  refine jmk_i RX11 rfl (by decide +kernel) rfl (Nat.le_of_ble_eq_true rfl) rfl ?_
  intro p e s m args below meth c ls A Q C hP hD hS hl K
  exact t_X11_child G D cI cB cZ a_t a_t_now a_t_now_wheel a_t_now_wheel_child a_t_now_wheel_husband u_t_images u_t_texts u_t_turns u_t_kinship u_t_censuses u_t_now_tape u_t_now_law u_t_now_people u_t_now_words u_t_now_wordCount u_t_now_wheel_wife u_t_now_wheel_father s_t_now_wheel_size r_t_now_wheel_child r_t_now_wheel_husband x1 x2 C hf K hP hD hS hl
abbrev rX11_is : Room := { frames := 5, cells := 0, slots := 0, locals := 113 }
abbrev gX11_is : List Cond := wG yX11_is cX11_is 3 (some .boolean)
def w_X11_is (cI cB cZ : ClassId) (a_t a_t_now a_t_turns a_t_now_law a_t_now_wheel a_t_turns_byChild a_t_turns_byFather a_t_turns_byHusband a_t_turns_byWife a_t_turns_searched a_t_turns_slot a_t_turns_turn a_t_now_law_first a_t_now_law_second a_t_now_law_sort a_t_now_wheel_child a_t_now_wheel_father a_t_now_wheel_husband a_t_now_wheel_wife : Nat) (u_t_images u_t_texts u_t_kinship u_t_censuses u_t_now_tape u_t_now_people u_t_now_words : Value) (u_t_now_wordCount : Int32) (u_t_turns_before u_t_turns_queue u_t_turns_ways u_t_turns_nextWays : Value) (s_t_turns_children s_t_turns_count s_t_turns_many s_t_turns_size s_t_turns_wives s_t_now_law_count s_t_now_wheel_size : Int32) (r_t_turns_byChild r_t_turns_byFather r_t_turns_byHusband r_t_turns_byWife r_t_turns_searched r_t_turns_slot r_t_turns_turn r_t_now_law_first r_t_now_law_second r_t_now_law_sort r_t_now_wheel_child r_t_now_wheel_father r_t_now_wheel_husband r_t_now_wheel_wife : jA) : va_W := [(a_t, .inr (10, (oX11 (.ref a_t_now) u_t_images u_t_texts (.ref a_t_turns) u_t_kinship u_t_censuses))), (a_t_now, .inr (5, (oX6 u_t_now_tape (.ref a_t_now_wheel) (.ref a_t_now_law) u_t_now_people u_t_now_words u_t_now_wordCount))), (a_t_turns, .inr (8, (oX9 s_t_turns_size s_t_turns_wives s_t_turns_children s_t_turns_count s_t_turns_many (.ref a_t_turns_turn) (.ref a_t_turns_slot) (.ref a_t_turns_byWife) (.ref a_t_turns_byChild) (.ref a_t_turns_byHusband) (.ref a_t_turns_byFather) (.ref a_t_turns_searched) u_t_turns_before u_t_turns_queue u_t_turns_ways u_t_turns_nextWays))), (a_t_now_law, .inr (2, (oX3 (.ref a_t_now_law_sort) (.ref a_t_now_law_first) (.ref a_t_now_law_second) s_t_now_law_count))), (a_t_now_wheel, .inr (9, (oX10 (.ref a_t_now_wheel_wife) (.ref a_t_now_wheel_child) (.ref a_t_now_wheel_husband) (.ref a_t_now_wheel_father) s_t_now_wheel_size))), (a_t_turns_byChild, .inl (cI, r_t_turns_byChild.1, .inl r_t_turns_byChild.2)), (a_t_turns_byFather, .inl (cI, r_t_turns_byFather.1, .inl r_t_turns_byFather.2)), (a_t_turns_byHusband, .inl (cI, r_t_turns_byHusband.1, .inl r_t_turns_byHusband.2)), (a_t_turns_byWife, .inl (cI, r_t_turns_byWife.1, .inl r_t_turns_byWife.2)), (a_t_turns_searched, .inl (cZ, r_t_turns_searched.1, .inl r_t_turns_searched.2)), (a_t_turns_slot, .inl (cI, r_t_turns_slot.1, .inl r_t_turns_slot.2)), (a_t_turns_turn, .inl (cI, r_t_turns_turn.1, .inl r_t_turns_turn.2)), (a_t_now_law_first, .inl (cI, r_t_now_law_first.1, .inl r_t_now_law_first.2)), (a_t_now_law_second, .inl (cI, r_t_now_law_second.1, .inl r_t_now_law_second.2)), (a_t_now_law_sort, .inl (cI, r_t_now_law_sort.1, .inl r_t_now_law_sort.2)), (a_t_now_wheel_child, .inl (cI, r_t_now_wheel_child.1, .inl r_t_now_wheel_child.2)), (a_t_now_wheel_father, .inl (cI, r_t_now_wheel_father.1, .inl r_t_now_wheel_father.2)), (a_t_now_wheel_husband, .inl (cI, r_t_now_wheel_husband.1, .inl r_t_now_wheel_husband.2)), (a_t_now_wheel_wife, .inl (cI, r_t_now_wheel_wife.1, .inl r_t_now_wheel_wife.2))]
def f_X11_is (s_t_now_law_count s_t_now_wheel_size : Int32) (r_t_now_law_first r_t_now_law_second r_t_now_law_sort r_t_now_wheel_child r_t_now_wheel_father r_t_now_wheel_husband r_t_now_wheel_wife : jA) (s_t_turns_children s_t_turns_count s_t_turns_many s_t_turns_size s_t_turns_wives : Int32) (r_t_turns_byChild r_t_turns_byFather r_t_turns_byHusband r_t_turns_byWife r_t_turns_searched r_t_turns_slot r_t_turns_turn : jA) (x1 : Int32) : Option (Int32 × Int32 × Int32 × Int32 × Int32 × Int32 × jA × jA × jA × jA × jA × jA × jA) :=
  if s_t_now_wheel_size = 0 then
  some ((0 : Int32), s_t_turns_children, s_t_turns_count, s_t_turns_many, s_t_turns_size, s_t_turns_wives, r_t_turns_byChild, r_t_turns_byFather, r_t_turns_byHusband, r_t_turns_byWife, r_t_turns_searched, r_t_turns_slot, r_t_turns_turn)
  else
  if x1 = (0 : Int32) then
  jM (f_X10_isProper s_t_now_wheel_size r_t_now_wheel_child r_t_now_wheel_wife) fun r3 =>
  jZ r3 (some (r3, s_t_turns_children, s_t_turns_count, s_t_turns_many, s_t_turns_size, s_t_turns_wives, r_t_turns_byChild, r_t_turns_byFather, r_t_turns_byHusband, r_t_turns_byWife, r_t_turns_searched, r_t_turns_slot, r_t_turns_turn))
  else if x1 = (1 : Int32) then
  jM (f_X10_isProper s_t_now_wheel_size r_t_now_wheel_child r_t_now_wheel_wife) fun r5 =>
  if r5 = 0 then
  some ((0 : Int32), s_t_turns_children, s_t_turns_count, s_t_turns_many, s_t_turns_size, s_t_turns_wives, r_t_turns_byChild, r_t_turns_byFather, r_t_turns_byHusband, r_t_turns_byWife, r_t_turns_searched, r_t_turns_slot, r_t_turns_turn)
  else
  jM (f_X9_countOf s_t_now_wheel_size r_t_now_wheel_child r_t_now_wheel_wife s_t_turns_children s_t_turns_count s_t_turns_many s_t_turns_size s_t_turns_wives r_t_turns_byChild r_t_turns_byFather r_t_turns_byHusband r_t_turns_byWife r_t_turns_searched r_t_turns_slot r_t_turns_turn) fun r7 =>
  if r7.1 = s_t_now_wheel_size then
  some ((1 : Int32), r7.2.1, r7.2.2.1, r7.2.2.2.1, r7.2.2.2.2.1, r7.2.2.2.2.2.1, r7.2.2.2.2.2.2.1, r7.2.2.2.2.2.2.2.1, r7.2.2.2.2.2.2.2.2.1, r7.2.2.2.2.2.2.2.2.2.1, r7.2.2.2.2.2.2.2.2.2.2.1, r7.2.2.2.2.2.2.2.2.2.2.2.1, r7.2.2.2.2.2.2.2.2.2.2.2.2)
  else
  some ((0 : Int32), r7.2.1, r7.2.2.1, r7.2.2.2.1, r7.2.2.2.2.1, r7.2.2.2.2.2.1, r7.2.2.2.2.2.2.1, r7.2.2.2.2.2.2.2.1, r7.2.2.2.2.2.2.2.2.1, r7.2.2.2.2.2.2.2.2.2.1, r7.2.2.2.2.2.2.2.2.2.2.1, r7.2.2.2.2.2.2.2.2.2.2.2.1, r7.2.2.2.2.2.2.2.2.2.2.2.2)
  else if x1 = (2 : Int32) then
  jM (f_X10_isProper s_t_now_wheel_size r_t_now_wheel_child r_t_now_wheel_wife) fun r10 =>
  if r10 = 0 then
  some ((0 : Int32), s_t_turns_children, s_t_turns_count, s_t_turns_many, s_t_turns_size, s_t_turns_wives, r_t_turns_byChild, r_t_turns_byFather, r_t_turns_byHusband, r_t_turns_byWife, r_t_turns_searched, r_t_turns_slot, r_t_turns_turn)
  else
  jM (f_X3_firstBroken s_t_now_wheel_size s_t_now_law_count r_t_now_wheel_child r_t_now_wheel_father r_t_now_wheel_husband r_t_now_wheel_wife r_t_now_law_first r_t_now_law_second r_t_now_law_sort) fun r12 =>
  if r12 = (-1 : Int32) then
  some ((1 : Int32), s_t_turns_children, s_t_turns_count, s_t_turns_many, s_t_turns_size, s_t_turns_wives, r_t_turns_byChild, r_t_turns_byFather, r_t_turns_byHusband, r_t_turns_byWife, r_t_turns_searched, r_t_turns_slot, r_t_turns_turn)
  else
  some ((0 : Int32), s_t_turns_children, s_t_turns_count, s_t_turns_many, s_t_turns_size, s_t_turns_wives, r_t_turns_byChild, r_t_turns_byFather, r_t_turns_byHusband, r_t_turns_byWife, r_t_turns_searched, r_t_turns_slot, r_t_turns_turn)
  else some ((0 : Int32), s_t_turns_children, s_t_turns_count, s_t_turns_many, s_t_turns_size, s_t_turns_wives, r_t_turns_byChild, r_t_turns_byFather, r_t_turns_byHusband, r_t_turns_byWife, r_t_turns_searched, r_t_turns_slot, r_t_turns_turn)
set_option maxHeartbeats 4000000 in
set_option maxRecDepth 100000 in
theorem t_X11_is {p : Program} {l : Launch} {e : Env} {s : State} {m : MethodId} {args : Array Value} {below : List Frame} {meth : Method} {c : Code} {A : Nat → Prop} {Q : State → Prop} (G : jGt) (D : va_G) (cI cB cZ : ClassId) (a_t a_t_now a_t_turns a_t_now_law a_t_now_wheel a_t_turns_byChild a_t_turns_byFather a_t_turns_byHusband a_t_turns_byWife a_t_turns_searched a_t_turns_slot a_t_turns_turn a_t_now_law_first a_t_now_law_second a_t_now_law_sort a_t_now_wheel_child a_t_now_wheel_father a_t_now_wheel_husband a_t_now_wheel_wife : Nat) (u_t_images u_t_texts u_t_kinship u_t_censuses u_t_now_tape u_t_now_people u_t_now_words : Value) (u_t_now_wordCount : Int32) (u_t_turns_before u_t_turns_queue u_t_turns_ways u_t_turns_nextWays : Value) (s_t_now_law_count s_t_now_wheel_size : Int32) (r_t_now_law_first r_t_now_law_second r_t_now_law_sort r_t_now_wheel_child r_t_now_wheel_father r_t_now_wheel_husband r_t_now_wheel_wife : jA) (s_t_turns_children s_t_turns_count s_t_turns_many s_t_turns_size s_t_turns_wives : Int32) (r_t_turns_byChild r_t_turns_byFather r_t_turns_byHusband r_t_turns_byWife r_t_turns_searched r_t_turns_slot r_t_turns_turn : jA) (x1 : Int32) (C : jCx p s m args c cX11_is 3 gX11_is RX11 G D (jT cI cB cZ) A) {o : Int32 × Int32 × Int32 × Int32 × Int32 × Int32 × jA × jA × jA × jA × jA × jA × jA} (hf : f_X11_is s_t_now_law_count s_t_now_wheel_size r_t_now_law_first r_t_now_law_second r_t_now_law_sort r_t_now_wheel_child r_t_now_wheel_father r_t_now_wheel_husband r_t_now_wheel_wife s_t_turns_children s_t_turns_count s_t_turns_many s_t_turns_size s_t_turns_wives r_t_turns_byChild r_t_turns_byFather r_t_turns_byHusband r_t_turns_byWife r_t_turns_searched r_t_turns_slot r_t_turns_turn x1 = some o) (K : ∀ (H : Heap) (locs : List Loc) (pc : Nat) (ls : Array Slot), (o.1 = 0 ∨ o.1 = 1) → va_P D vwCl (w_X11_is cI cB cZ a_t a_t_now a_t_turns a_t_now_law a_t_now_wheel a_t_turns_byChild a_t_turns_byFather a_t_turns_byHusband a_t_turns_byWife a_t_turns_searched a_t_turns_slot a_t_turns_turn a_t_now_law_first a_t_now_law_second a_t_now_law_sort a_t_now_wheel_child a_t_now_wheel_father a_t_now_wheel_husband a_t_now_wheel_wife u_t_images u_t_texts u_t_kinship u_t_censuses u_t_now_tape u_t_now_people u_t_now_words u_t_now_wordCount u_t_turns_before u_t_turns_queue u_t_turns_ways u_t_turns_nextWays o.2.1 o.2.2.1 o.2.2.2.1 o.2.2.2.2.1 o.2.2.2.2.2.1 s_t_now_law_count s_t_now_wheel_size o.2.2.2.2.2.2.1 o.2.2.2.2.2.2.2.1 o.2.2.2.2.2.2.2.2.1 o.2.2.2.2.2.2.2.2.2.1 o.2.2.2.2.2.2.2.2.2.2.1 o.2.2.2.2.2.2.2.2.2.2.2.1 o.2.2.2.2.2.2.2.2.2.2.2.2 r_t_now_law_first r_t_now_law_second r_t_now_law_sort r_t_now_wheel_child r_t_now_wheel_father r_t_now_wheel_husband r_t_now_wheel_wife) H → va_S A s.heap H locs → decode cX11_is pc = .ok (.ireturn, 1) → W p l e rX11_is s m args below meth c H locs 0 0 Q (F0 m pc ls [.int o.1])) {H : Heap} {locs : List Loc} {ls : Array Slot} (hP : va_P D vwCl (w_X11_is cI cB cZ a_t a_t_now a_t_turns a_t_now_law a_t_now_wheel a_t_turns_byChild a_t_turns_byFather a_t_turns_byHusband a_t_turns_byWife a_t_turns_searched a_t_turns_slot a_t_turns_turn a_t_now_law_first a_t_now_law_second a_t_now_law_sort a_t_now_wheel_child a_t_now_wheel_father a_t_now_wheel_husband a_t_now_wheel_wife u_t_images u_t_texts u_t_kinship u_t_censuses u_t_now_tape u_t_now_people u_t_now_words u_t_now_wordCount u_t_turns_before u_t_turns_queue u_t_turns_ways u_t_turns_nextWays s_t_turns_children s_t_turns_count s_t_turns_many s_t_turns_size s_t_turns_wives s_t_now_law_count s_t_now_wheel_size r_t_turns_byChild r_t_turns_byFather r_t_turns_byHusband r_t_turns_byWife r_t_turns_searched r_t_turns_slot r_t_turns_turn r_t_now_law_first r_t_now_law_second r_t_now_law_sort r_t_now_wheel_child r_t_now_wheel_father r_t_now_wheel_husband r_t_now_wheel_wife) H) (hD : va_D A (w_X11_is cI cB cZ a_t a_t_now a_t_turns a_t_now_law a_t_now_wheel a_t_turns_byChild a_t_turns_byFather a_t_turns_byHusband a_t_turns_byWife a_t_turns_searched a_t_turns_slot a_t_turns_turn a_t_now_law_first a_t_now_law_second a_t_now_law_sort a_t_now_wheel_child a_t_now_wheel_father a_t_now_wheel_husband a_t_now_wheel_wife u_t_images u_t_texts u_t_kinship u_t_censuses u_t_now_tape u_t_now_people u_t_now_words u_t_now_wordCount u_t_turns_before u_t_turns_queue u_t_turns_ways u_t_turns_nextWays s_t_turns_children s_t_turns_count s_t_turns_many s_t_turns_size s_t_turns_wives s_t_now_law_count s_t_now_wheel_size r_t_turns_byChild r_t_turns_byFather r_t_turns_byHusband r_t_turns_byWife r_t_turns_searched r_t_turns_slot r_t_turns_turn r_t_now_law_first r_t_now_law_second r_t_now_law_sort r_t_now_wheel_child r_t_now_wheel_father r_t_now_wheel_husband r_t_now_wheel_wife)) (hS : va_S A s.heap H locs) (hl : lv_has ls 3 [(0, .ref a_t), (1, .int x1)]) : W p l e rX11_is s m args below meth c H locs 0 0 Q (F0 m 0 ls []) := by
  obtain ⟨⟨hx, hb, hml, hown, hts⟩, hK, hN, hA⟩ := C
  have C : jCx p s m args c cX11_is 3 gX11_is RX11 G D (jT cI cB cZ) A := ⟨⟨hx, hb, hml, hown, hts⟩, hK, hN, hA⟩
  unfold f_X11_is at hf
  refine lv_aload_n hx hb dX11_is_0 rfl (lv_at hl 0 rfl) ?_
  refine va_get (D := D) (ci := 10) (v := .ref a_t_now) (C := RX11) (T := TX11) (N := 6) hx hb hts iw_X11 hown hK hP 0 rfl rfl 0 (by decide) (hts _ (wG_in k_fl_X11_10 rfl)) (fun _ h9 => h9) rfl dX11_is_1 ?_
  refine va_get (D := D) (ci := 5) (v := .ref a_t_now_wheel) (C := RX6) (T := TX6) (N := 6) hx hb hts iw_X6 hown hK hP 1 rfl rfl 1 (by decide) (hts _ (wG_in k_fl_X11_65 rfl)) (fun _ h9 => h9) rfl dX11_is_4 ?_
  refine lv_astore_n (lv' := [(2, .ref a_t_now_wheel), (0, .ref a_t), (1, .int x1)]) hx hb dX11_is_7 rfl hl (by decide) rfl (fun ls hl => ?_)
  refine lv_aload_n hx hb dX11_is_8 rfl (lv_at hl 0 rfl) ?_
  refine va_get (D := D) (ci := 9) (v := .int s_t_now_wheel_size) (C := RX10) (T := TX10) (N := 5) hx hb hts iw_X10 hown hK hP 4 rfl rfl 4 (by decide) (hts _ (wG_in k_fl_X11_79 rfl)) (fun _ h9 => h9) rfl dX11_is_9 ?_
  refine lv_if_ne (tgt := 17) hx hb dX11_is_12 (by decide) (fun c1 => ?_) (fun c1 => ?_)
  · replace hf := jif_f c1 hf
    refine lv_iload_n hx hb dX11_is_17 rfl (lv_at hl 2 rfl) ?_
    by_cases c2 : x1 = (0 : Int32)
    · replace hf := jif_t c2 hf
      refine lv_tableIn (tgt := 44) hx hb dX11_is_18 (by rw [c2]; decide) (by rw [c2]; decide) (by rw [c2]; rfl) (by decide) ?_
      refine lv_aload_n hx hb dX11_is_44 rfl (lv_at hl 0 rfl) ?_
      obtain ⟨r3, hgr3, hf⟩ := jM_some hf
      refine jcV_i0 (As := []) (rest := []) ⟨hx, hb, hml, hown, hts⟩ hK hN hA (c_X10_isProper l G D cI cB cZ a_t_now_wheel a_t_now_wheel_child a_t_now_wheel_wife (.ref a_t_now_wheel_husband) (.ref a_t_now_wheel_father) s_t_now_wheel_size r_t_now_wheel_child r_t_now_wheel_wife hgr3) (cwV 0 hts (wG_V k_ml_X11_130 k_im_X10_isProper k_se_X10_isProper k_in_X10 k_co_X10_isProper) rfl rfl rfl hd_X10_isProper ⟨Nat.le_of_ble_eq_true rfl, Nat.le_of_ble_eq_true rfl⟩) hP hD hS [4, 15, 18] rfl rfl rfl (ci := 9) rfl 4 rfl rfl rfl hl.1 rfl (Nat.le_of_ble_eq_true rfl) dX11_is_45 ⟨Nat.le_of_ble_eq_true rfl, Nat.le_of_ble_eq_true rfl⟩ (fun H locs hP hD hS => ?_)
      obtain ⟨hz, hf⟩ := jZ_some hf
      have ho := Option.some.inj hf
      subst ho
      exact K _ _ _ _ hz hP hS dX11_is_48
    replace hf := jif_f c2 hf
    by_cases c4 : x1 = (1 : Int32)
    · replace hf := jif_t c4 hf
      refine lv_tableIn (tgt := 49) hx hb dX11_is_18 (by rw [c4]; decide) (by rw [c4]; decide) (by rw [c4]; rfl) (by decide) ?_
      refine lv_aload_n hx hb dX11_is_49 rfl (lv_at hl 0 rfl) ?_
      obtain ⟨r5, hgr5, hf⟩ := jM_some hf
      refine jcV_i0 (As := []) (rest := []) ⟨hx, hb, hml, hown, hts⟩ hK hN hA (c_X10_isProper l G D cI cB cZ a_t_now_wheel a_t_now_wheel_child a_t_now_wheel_wife (.ref a_t_now_wheel_husband) (.ref a_t_now_wheel_father) s_t_now_wheel_size r_t_now_wheel_child r_t_now_wheel_wife hgr5) (cwV 0 hts (wG_V k_ml_X11_130 k_im_X10_isProper k_se_X10_isProper k_in_X10 k_co_X10_isProper) rfl rfl rfl hd_X10_isProper ⟨Nat.le_of_ble_eq_true rfl, Nat.le_of_ble_eq_true rfl⟩) hP hD hS [4, 15, 18] rfl rfl rfl (ci := 9) rfl 4 rfl rfl rfl hl.1 rfl (Nat.le_of_ble_eq_true rfl) dX11_is_50 ⟨Nat.le_of_ble_eq_true rfl, Nat.le_of_ble_eq_true rfl⟩ (fun H locs hP hD hS => ?_)
      refine lv_if_eq (tgt := 75) hx hb dX11_is_53 (by decide) (fun c6 => ?_) (fun c6 => ?_)
      · replace hf := jif_t c6 hf
        refine lv_iconst (v := (0 : Int32)) hx hb dX11_is_75 (by decide) ?_
        have ho := Option.some.inj hf
        subst ho
        exact K _ _ _ _ (Or.inl rfl) hP hS dX11_is_76
      · replace hf := jif_f c6 hf
        refine lv_aload_n hx hb dX11_is_56 rfl (lv_at hl 1 rfl) ?_
        refine va_get (D := D) (ci := 10) (v := .ref a_t_turns) (C := RX11) (T := TX11) (N := 6) hx hb hts iw_X11 hown hK hP 0 rfl rfl 3 (by decide) (hts _ (wG_in k_fl_X11_30 rfl)) (fun _ h9 => h9) rfl dX11_is_57 ?_
        refine lv_aload_n hx hb dX11_is_60 rfl (lv_at hl 0 rfl) ?_
        obtain ⟨r7, hgr7, hf⟩ := jM_some hf
        refine jcV_i (As := [.ref a_t_now_wheel]) (rest := []) ⟨hx, hb, hml, hown, hts⟩ hK hN hA (c_X9_countOf l G D cI cB cZ a_t_now_wheel a_t_turns a_t_now_wheel_child a_t_now_wheel_wife a_t_turns_byChild a_t_turns_byFather a_t_turns_byHusband a_t_turns_byWife a_t_turns_searched a_t_turns_slot a_t_turns_turn (.ref a_t_now_wheel_husband) (.ref a_t_now_wheel_father) u_t_turns_before u_t_turns_queue u_t_turns_ways u_t_turns_nextWays s_t_now_wheel_size r_t_now_wheel_child r_t_now_wheel_wife s_t_turns_children s_t_turns_count s_t_turns_many s_t_turns_size s_t_turns_wives r_t_turns_byChild r_t_turns_byFather r_t_turns_byHusband r_t_turns_byWife r_t_turns_searched r_t_turns_slot r_t_turns_turn hgr7) (cwV 1 hts (wG_V k_ml_X11_134 k_im_X9_countOf k_se_X9_countOf k_in_X9 k_co_X9_countOf) rfl rfl rfl hd_X9_countOf ⟨Nat.le_of_ble_eq_true rfl, Nat.le_of_ble_eq_true rfl⟩) hP hD hS [4, 2, 15, 18, 5, 6, 7, 8, 9, 10, 11] rfl rfl rfl (ci := 8) rfl 2 rfl rfl rfl hl.1 rfl (Nat.le_of_ble_eq_true rfl) dX11_is_61 ⟨Nat.le_of_ble_eq_true rfl, Nat.le_of_ble_eq_true rfl⟩ (fun H locs hP hD hS => ?_)
        have hP : va_P D vwCl (w_X11_is cI cB cZ a_t a_t_now a_t_turns a_t_now_law a_t_now_wheel a_t_turns_byChild a_t_turns_byFather a_t_turns_byHusband a_t_turns_byWife a_t_turns_searched a_t_turns_slot a_t_turns_turn a_t_now_law_first a_t_now_law_second a_t_now_law_sort a_t_now_wheel_child a_t_now_wheel_father a_t_now_wheel_husband a_t_now_wheel_wife u_t_images u_t_texts u_t_kinship u_t_censuses u_t_now_tape u_t_now_people u_t_now_words u_t_now_wordCount u_t_turns_before u_t_turns_queue u_t_turns_ways u_t_turns_nextWays r7.2.1 r7.2.2.1 r7.2.2.2.1 r7.2.2.2.2.1 r7.2.2.2.2.2.1 s_t_now_law_count s_t_now_wheel_size r7.2.2.2.2.2.2.1 r7.2.2.2.2.2.2.2.1 r7.2.2.2.2.2.2.2.2.1 r7.2.2.2.2.2.2.2.2.2.1 r7.2.2.2.2.2.2.2.2.2.2.1 r7.2.2.2.2.2.2.2.2.2.2.2.1 r7.2.2.2.2.2.2.2.2.2.2.2.2 r_t_now_law_first r_t_now_law_second r_t_now_law_sort r_t_now_wheel_child r_t_now_wheel_father r_t_now_wheel_husband r_t_now_wheel_wife) H := hP
        have hD : va_D A (w_X11_is cI cB cZ a_t a_t_now a_t_turns a_t_now_law a_t_now_wheel a_t_turns_byChild a_t_turns_byFather a_t_turns_byHusband a_t_turns_byWife a_t_turns_searched a_t_turns_slot a_t_turns_turn a_t_now_law_first a_t_now_law_second a_t_now_law_sort a_t_now_wheel_child a_t_now_wheel_father a_t_now_wheel_husband a_t_now_wheel_wife u_t_images u_t_texts u_t_kinship u_t_censuses u_t_now_tape u_t_now_people u_t_now_words u_t_now_wordCount u_t_turns_before u_t_turns_queue u_t_turns_ways u_t_turns_nextWays r7.2.1 r7.2.2.1 r7.2.2.2.1 r7.2.2.2.2.1 r7.2.2.2.2.2.1 s_t_now_law_count s_t_now_wheel_size r7.2.2.2.2.2.2.1 r7.2.2.2.2.2.2.2.1 r7.2.2.2.2.2.2.2.2.1 r7.2.2.2.2.2.2.2.2.2.1 r7.2.2.2.2.2.2.2.2.2.2.1 r7.2.2.2.2.2.2.2.2.2.2.2.1 r7.2.2.2.2.2.2.2.2.2.2.2.2 r_t_now_law_first r_t_now_law_second r_t_now_law_sort r_t_now_wheel_child r_t_now_wheel_father r_t_now_wheel_husband r_t_now_wheel_wife) := hD
        refine lv_aload_n hx hb dX11_is_64 rfl (lv_at hl 0 rfl) ?_
        refine va_get (D := D) (ci := 9) (v := .int s_t_now_wheel_size) (C := RX10) (T := TX10) (N := 5) hx hb hts iw_X10 hown hK hP 4 rfl rfl 4 (by decide) (hts _ (wG_in k_fl_X11_79 rfl)) (fun _ h9 => h9) rfl dX11_is_65 ?_
        refine lv_icmp_ne (tgt := 75) hx hb dX11_is_68 (by decide) (fun c8 => ?_) (fun c8 => ?_)
        · replace hf := jif_f c8 hf
          refine lv_iconst (v := (0 : Int32)) hx hb dX11_is_75 (by decide) ?_
          have ho := Option.some.inj hf
          subst ho
          exact K _ _ _ _ (Or.inl rfl) hP hS dX11_is_76
        · replace hf := jif_t c8 hf
          refine lv_iconst (v := (1 : Int32)) hx hb dX11_is_71 (by decide) ?_
          refine lv_goto (tgt := 76) hx hb dX11_is_72 (by decide) ?_
          have ho := Option.some.inj hf
          subst ho
          exact K _ _ _ _ (Or.inr rfl) hP hS dX11_is_76
    replace hf := jif_f c4 hf
    by_cases c9 : x1 = (2 : Int32)
    · replace hf := jif_t c9 hf
      refine lv_tableIn (tgt := 77) hx hb dX11_is_18 (by rw [c9]; decide) (by rw [c9]; decide) (by rw [c9]; rfl) (by decide) ?_
      refine lv_aload_n hx hb dX11_is_77 rfl (lv_at hl 0 rfl) ?_
      obtain ⟨r10, hgr10, hf⟩ := jM_some hf
      refine jcV_i0 (As := []) (rest := []) ⟨hx, hb, hml, hown, hts⟩ hK hN hA (c_X10_isProper l G D cI cB cZ a_t_now_wheel a_t_now_wheel_child a_t_now_wheel_wife (.ref a_t_now_wheel_husband) (.ref a_t_now_wheel_father) s_t_now_wheel_size r_t_now_wheel_child r_t_now_wheel_wife hgr10) (cwV 0 hts (wG_V k_ml_X11_130 k_im_X10_isProper k_se_X10_isProper k_in_X10 k_co_X10_isProper) rfl rfl rfl hd_X10_isProper ⟨Nat.le_of_ble_eq_true rfl, Nat.le_of_ble_eq_true rfl⟩) hP hD hS [4, 15, 18] rfl rfl rfl (ci := 9) rfl 4 rfl rfl rfl hl.1 rfl (Nat.le_of_ble_eq_true rfl) dX11_is_78 ⟨Nat.le_of_ble_eq_true rfl, Nat.le_of_ble_eq_true rfl⟩ (fun H locs hP hD hS => ?_)
      refine lv_if_eq (tgt := 103) hx hb dX11_is_81 (by decide) (fun c11 => ?_) (fun c11 => ?_)
      · replace hf := jif_t c11 hf
        refine lv_iconst (v := (0 : Int32)) hx hb dX11_is_103 (by decide) ?_
        have ho := Option.some.inj hf
        subst ho
        exact K _ _ _ _ (Or.inl rfl) hP hS dX11_is_104
      · replace hf := jif_f c11 hf
        refine lv_aload_n hx hb dX11_is_84 rfl (lv_at hl 1 rfl) ?_
        refine va_get (D := D) (ci := 10) (v := .ref a_t_now) (C := RX11) (T := TX11) (N := 6) hx hb hts iw_X11 hown hK hP 0 rfl rfl 0 (by decide) (hts _ (wG_in k_fl_X11_10 rfl)) (fun _ h9 => h9) rfl dX11_is_85 ?_
        refine va_get (D := D) (ci := 5) (v := .ref a_t_now_law) (C := RX6) (T := TX6) (N := 6) hx hb hts iw_X6 hown hK hP 1 rfl rfl 2 (by decide) (hts _ (wG_in k_fl_X11_86 rfl)) (fun _ h9 => h9) rfl dX11_is_88 ?_
        refine lv_aload_n hx hb dX11_is_91 rfl (lv_at hl 0 rfl) ?_
        obtain ⟨r12, hgr12, hf⟩ := jM_some hf
        refine jcV_i0 (As := [.ref a_t_now_wheel]) (rest := []) ⟨hx, hb, hml, hown, hts⟩ hK hN hA (c_X3_firstBroken l G D cI cB cZ a_t_now_wheel a_t_now_law a_t_now_wheel_child a_t_now_wheel_father a_t_now_wheel_husband a_t_now_wheel_wife a_t_now_law_first a_t_now_law_second a_t_now_law_sort s_t_now_wheel_size s_t_now_law_count r_t_now_wheel_child r_t_now_wheel_father r_t_now_wheel_husband r_t_now_wheel_wife r_t_now_law_first r_t_now_law_second r_t_now_law_sort hgr12) (cwV 1 hts (wG_V k_ml_X11_138 k_im_X3_firstBroken k_se_X3_firstBroken k_in_X3 k_co_X3_firstBroken) rfl rfl rfl hd_X3_firstBroken ⟨Nat.le_of_ble_eq_true rfl, Nat.le_of_ble_eq_true rfl⟩) hP hD hS [4, 3, 15, 16, 17, 18, 12, 13, 14] rfl rfl rfl (ci := 2) rfl 3 rfl rfl rfl hl.1 rfl (Nat.le_of_ble_eq_true rfl) dX11_is_92 ⟨Nat.le_of_ble_eq_true rfl, Nat.le_of_ble_eq_true rfl⟩ (fun H locs hP hD hS => ?_)
        refine lv_iconst (v := (-1 : Int32)) hx hb dX11_is_95 (by decide) ?_
        refine lv_icmp_ne (tgt := 103) hx hb dX11_is_96 (by decide) (fun c13 => ?_) (fun c13 => ?_)
        · replace hf := jif_f c13 hf
          refine lv_iconst (v := (0 : Int32)) hx hb dX11_is_103 (by decide) ?_
          have ho := Option.some.inj hf
          subst ho
          exact K _ _ _ _ (Or.inl rfl) hP hS dX11_is_104
        · replace hf := jif_t c13 hf
          refine lv_iconst (v := (1 : Int32)) hx hb dX11_is_99 (by decide) ?_
          refine lv_goto (tgt := 104) hx hb dX11_is_100 (by decide) ?_
          have ho := Option.some.inj hf
          subst ho
          exact K _ _ _ _ (Or.inr rfl) hP hS dX11_is_104
    replace hf := jif_f c9 hf
    refine lv_tableOut (tgt := 105) hx hb dX11_is_18 (jtab_out (lo := 0) (n := 3) (fun k hk => match k, hk with | 0, _ => c2 | 1, _ => c4 | 2, _ => c9 | (k + 3), h => absurd h (by omega))) (by decide) ?_
    refine lv_iconst (v := (0 : Int32)) hx hb dX11_is_105 (by decide) ?_
    have ho := Option.some.inj hf
    subst ho
    exact K _ _ _ _ (Or.inl rfl) hP hS dX11_is_106
  · replace hf := jif_t c1 hf
    refine lv_iconst (v := (0 : Int32)) hx hb dX11_is_15 (by decide) ?_
    have ho := Option.some.inj hf
    subst ho
    exact K _ _ _ _ (Or.inl rfl) hP hS dX11_is_16
set_option maxHeartbeats 4000000 in
set_option maxRecDepth 100000 in
theorem c_X11_is (l : Launch) (G : jGt) (D : va_G) (cI cB cZ : ClassId) (a_t a_t_now a_t_turns a_t_now_law a_t_now_wheel a_t_turns_byChild a_t_turns_byFather a_t_turns_byHusband a_t_turns_byWife a_t_turns_searched a_t_turns_slot a_t_turns_turn a_t_now_law_first a_t_now_law_second a_t_now_law_sort a_t_now_wheel_child a_t_now_wheel_father a_t_now_wheel_husband a_t_now_wheel_wife : Nat) (u_t_images u_t_texts u_t_kinship u_t_censuses u_t_now_tape u_t_now_people u_t_now_words : Value) (u_t_now_wordCount : Int32) (u_t_turns_before u_t_turns_queue u_t_turns_ways u_t_turns_nextWays : Value) (s_t_now_law_count s_t_now_wheel_size : Int32) (r_t_now_law_first r_t_now_law_second r_t_now_law_sort r_t_now_wheel_child r_t_now_wheel_father r_t_now_wheel_husband r_t_now_wheel_wife : jA) (s_t_turns_children s_t_turns_count s_t_turns_many s_t_turns_size s_t_turns_wives : Int32) (r_t_turns_byChild r_t_turns_byFather r_t_turns_byHusband r_t_turns_byWife r_t_turns_searched r_t_turns_slot r_t_turns_turn : jA) (x1 : Int32) {o : Int32 × Int32 × Int32 × Int32 × Int32 × Int32 × jA × jA × jA × jA × jA × jA × jA} (hf : f_X11_is s_t_now_law_count s_t_now_wheel_size r_t_now_law_first r_t_now_law_second r_t_now_law_sort r_t_now_wheel_child r_t_now_wheel_father r_t_now_wheel_husband r_t_now_wheel_wife s_t_turns_children s_t_turns_count s_t_turns_many s_t_turns_size s_t_turns_wives r_t_turns_byChild r_t_turns_byFather r_t_turns_byHusband r_t_turns_byWife r_t_turns_searched r_t_turns_slot r_t_turns_turn x1 = some o) : jMi l yX11_is gX11_is rX11_is G D (jT cI cB cZ) [.ref a_t, .int x1] (w_X11_is cI cB cZ a_t a_t_now a_t_turns a_t_now_law a_t_now_wheel a_t_turns_byChild a_t_turns_byFather a_t_turns_byHusband a_t_turns_byWife a_t_turns_searched a_t_turns_slot a_t_turns_turn a_t_now_law_first a_t_now_law_second a_t_now_law_sort a_t_now_wheel_child a_t_now_wheel_father a_t_now_wheel_husband a_t_now_wheel_wife u_t_images u_t_texts u_t_kinship u_t_censuses u_t_now_tape u_t_now_people u_t_now_words u_t_now_wordCount u_t_turns_before u_t_turns_queue u_t_turns_ways u_t_turns_nextWays s_t_turns_children s_t_turns_count s_t_turns_many s_t_turns_size s_t_turns_wives s_t_now_law_count s_t_now_wheel_size r_t_turns_byChild r_t_turns_byFather r_t_turns_byHusband r_t_turns_byWife r_t_turns_searched r_t_turns_slot r_t_turns_turn r_t_now_law_first r_t_now_law_second r_t_now_law_sort r_t_now_wheel_child r_t_now_wheel_father r_t_now_wheel_husband r_t_now_wheel_wife) (w_X11_is cI cB cZ a_t a_t_now a_t_turns a_t_now_law a_t_now_wheel a_t_turns_byChild a_t_turns_byFather a_t_turns_byHusband a_t_turns_byWife a_t_turns_searched a_t_turns_slot a_t_turns_turn a_t_now_law_first a_t_now_law_second a_t_now_law_sort a_t_now_wheel_child a_t_now_wheel_father a_t_now_wheel_husband a_t_now_wheel_wife u_t_images u_t_texts u_t_kinship u_t_censuses u_t_now_tape u_t_now_people u_t_now_words u_t_now_wordCount u_t_turns_before u_t_turns_queue u_t_turns_ways u_t_turns_nextWays o.2.1 o.2.2.1 o.2.2.2.1 o.2.2.2.2.1 o.2.2.2.2.2.1 s_t_now_law_count s_t_now_wheel_size o.2.2.2.2.2.2.1 o.2.2.2.2.2.2.2.1 o.2.2.2.2.2.2.2.2.1 o.2.2.2.2.2.2.2.2.2.1 o.2.2.2.2.2.2.2.2.2.2.1 o.2.2.2.2.2.2.2.2.2.2.2.1 o.2.2.2.2.2.2.2.2.2.2.2.2 r_t_now_law_first r_t_now_law_second r_t_now_law_sort r_t_now_wheel_child r_t_now_wheel_father r_t_now_wheel_husband r_t_now_wheel_wife) o.1 := by
  refine jmk_z RX11 rfl (by decide +kernel) rfl (Nat.le_of_ble_eq_true rfl) rfl ?_
  intro p e s m args below meth c ls A Q C hP hD hS hl K
  exact t_X11_is G D cI cB cZ a_t a_t_now a_t_turns a_t_now_law a_t_now_wheel a_t_turns_byChild a_t_turns_byFather a_t_turns_byHusband a_t_turns_byWife a_t_turns_searched a_t_turns_slot a_t_turns_turn a_t_now_law_first a_t_now_law_second a_t_now_law_sort a_t_now_wheel_child a_t_now_wheel_father a_t_now_wheel_husband a_t_now_wheel_wife u_t_images u_t_texts u_t_kinship u_t_censuses u_t_now_tape u_t_now_people u_t_now_words u_t_now_wordCount u_t_turns_before u_t_turns_queue u_t_turns_ways u_t_turns_nextWays s_t_now_law_count s_t_now_wheel_size r_t_now_law_first r_t_now_law_second r_t_now_law_sort r_t_now_wheel_child r_t_now_wheel_father r_t_now_wheel_husband r_t_now_wheel_wife s_t_turns_children s_t_turns_count s_t_turns_many s_t_turns_size s_t_turns_wives r_t_turns_byChild r_t_turns_byFather r_t_turns_byHusband r_t_turns_byWife r_t_turns_searched r_t_turns_slot r_t_turns_turn x1 C hf K hP hD hS hl
abbrev rX11_broken : Room := { frames := 4, cells := 0, slots := 0, locals := 98 }
abbrev gX11_broken : List Cond := wG yX11_broken cX11_broken 1 (some .int)
def w_X11_broken (cI cB cZ : ClassId) (a_t a_t_now a_t_now_law a_t_now_wheel a_t_now_law_first a_t_now_law_second a_t_now_law_sort a_t_now_wheel_child a_t_now_wheel_father a_t_now_wheel_husband a_t_now_wheel_wife : Nat) (u_t_images u_t_texts u_t_turns u_t_kinship u_t_censuses u_t_now_tape u_t_now_people u_t_now_words : Value) (u_t_now_wordCount s_t_now_law_count s_t_now_wheel_size : Int32) (r_t_now_law_first r_t_now_law_second r_t_now_law_sort r_t_now_wheel_child r_t_now_wheel_father r_t_now_wheel_husband r_t_now_wheel_wife : jA) : va_W := [(a_t, .inr (10, (oX11 (.ref a_t_now) u_t_images u_t_texts u_t_turns u_t_kinship u_t_censuses))), (a_t_now, .inr (5, (oX6 u_t_now_tape (.ref a_t_now_wheel) (.ref a_t_now_law) u_t_now_people u_t_now_words u_t_now_wordCount))), (a_t_now_law, .inr (2, (oX3 (.ref a_t_now_law_sort) (.ref a_t_now_law_first) (.ref a_t_now_law_second) s_t_now_law_count))), (a_t_now_wheel, .inr (9, (oX10 (.ref a_t_now_wheel_wife) (.ref a_t_now_wheel_child) (.ref a_t_now_wheel_husband) (.ref a_t_now_wheel_father) s_t_now_wheel_size))), (a_t_now_law_first, .inl (cI, r_t_now_law_first.1, .inl r_t_now_law_first.2)), (a_t_now_law_second, .inl (cI, r_t_now_law_second.1, .inl r_t_now_law_second.2)), (a_t_now_law_sort, .inl (cI, r_t_now_law_sort.1, .inl r_t_now_law_sort.2)), (a_t_now_wheel_child, .inl (cI, r_t_now_wheel_child.1, .inl r_t_now_wheel_child.2)), (a_t_now_wheel_father, .inl (cI, r_t_now_wheel_father.1, .inl r_t_now_wheel_father.2)), (a_t_now_wheel_husband, .inl (cI, r_t_now_wheel_husband.1, .inl r_t_now_wheel_husband.2)), (a_t_now_wheel_wife, .inl (cI, r_t_now_wheel_wife.1, .inl r_t_now_wheel_wife.2))]
def f_X11_broken (s_t_now_law_count s_t_now_wheel_size : Int32) (r_t_now_law_first r_t_now_law_second r_t_now_law_sort r_t_now_wheel_child r_t_now_wheel_father r_t_now_wheel_husband r_t_now_wheel_wife : jA) : Option (Int32) :=
  if s_t_now_wheel_size = 0 then
  some (-1 : Int32)
  else
  jM (f_X3_firstBroken s_t_now_wheel_size s_t_now_law_count r_t_now_wheel_child r_t_now_wheel_father r_t_now_wheel_husband r_t_now_wheel_wife r_t_now_law_first r_t_now_law_second r_t_now_law_sort) fun r2 =>
  some r2
set_option maxHeartbeats 4000000 in
set_option maxRecDepth 100000 in
theorem t_X11_broken {p : Program} {l : Launch} {e : Env} {s : State} {m : MethodId} {args : Array Value} {below : List Frame} {meth : Method} {c : Code} {A : Nat → Prop} {Q : State → Prop} (G : jGt) (D : va_G) (cI cB cZ : ClassId) (a_t a_t_now a_t_now_law a_t_now_wheel a_t_now_law_first a_t_now_law_second a_t_now_law_sort a_t_now_wheel_child a_t_now_wheel_father a_t_now_wheel_husband a_t_now_wheel_wife : Nat) (u_t_images u_t_texts u_t_turns u_t_kinship u_t_censuses u_t_now_tape u_t_now_people u_t_now_words : Value) (u_t_now_wordCount s_t_now_law_count s_t_now_wheel_size : Int32) (r_t_now_law_first r_t_now_law_second r_t_now_law_sort r_t_now_wheel_child r_t_now_wheel_father r_t_now_wheel_husband r_t_now_wheel_wife : jA)  (C : jCx p s m args c cX11_broken 1 gX11_broken RX11 G D (jT cI cB cZ) A) {o : Int32} (hf : f_X11_broken s_t_now_law_count s_t_now_wheel_size r_t_now_law_first r_t_now_law_second r_t_now_law_sort r_t_now_wheel_child r_t_now_wheel_father r_t_now_wheel_husband r_t_now_wheel_wife = some o) (K : ∀ (H : Heap) (locs : List Loc) (pc : Nat) (ls : Array Slot), va_P D vwCl (w_X11_broken cI cB cZ a_t a_t_now a_t_now_law a_t_now_wheel a_t_now_law_first a_t_now_law_second a_t_now_law_sort a_t_now_wheel_child a_t_now_wheel_father a_t_now_wheel_husband a_t_now_wheel_wife u_t_images u_t_texts u_t_turns u_t_kinship u_t_censuses u_t_now_tape u_t_now_people u_t_now_words u_t_now_wordCount s_t_now_law_count s_t_now_wheel_size r_t_now_law_first r_t_now_law_second r_t_now_law_sort r_t_now_wheel_child r_t_now_wheel_father r_t_now_wheel_husband r_t_now_wheel_wife) H → va_S A s.heap H locs → decode cX11_broken pc = .ok (.ireturn, 1) → W p l e rX11_broken s m args below meth c H locs 0 0 Q (F0 m pc ls [.int o])) {H : Heap} {locs : List Loc} {ls : Array Slot} (hP : va_P D vwCl (w_X11_broken cI cB cZ a_t a_t_now a_t_now_law a_t_now_wheel a_t_now_law_first a_t_now_law_second a_t_now_law_sort a_t_now_wheel_child a_t_now_wheel_father a_t_now_wheel_husband a_t_now_wheel_wife u_t_images u_t_texts u_t_turns u_t_kinship u_t_censuses u_t_now_tape u_t_now_people u_t_now_words u_t_now_wordCount s_t_now_law_count s_t_now_wheel_size r_t_now_law_first r_t_now_law_second r_t_now_law_sort r_t_now_wheel_child r_t_now_wheel_father r_t_now_wheel_husband r_t_now_wheel_wife) H) (hD : va_D A (w_X11_broken cI cB cZ a_t a_t_now a_t_now_law a_t_now_wheel a_t_now_law_first a_t_now_law_second a_t_now_law_sort a_t_now_wheel_child a_t_now_wheel_father a_t_now_wheel_husband a_t_now_wheel_wife u_t_images u_t_texts u_t_turns u_t_kinship u_t_censuses u_t_now_tape u_t_now_people u_t_now_words u_t_now_wordCount s_t_now_law_count s_t_now_wheel_size r_t_now_law_first r_t_now_law_second r_t_now_law_sort r_t_now_wheel_child r_t_now_wheel_father r_t_now_wheel_husband r_t_now_wheel_wife)) (hS : va_S A s.heap H locs) (hl : lv_has ls 1 [(0, .ref a_t)]) : W p l e rX11_broken s m args below meth c H locs 0 0 Q (F0 m 0 ls []) := by
  obtain ⟨⟨hx, hb, hml, hown, hts⟩, hK, hN, hA⟩ := C
  have C : jCx p s m args c cX11_broken 1 gX11_broken RX11 G D (jT cI cB cZ) A := ⟨⟨hx, hb, hml, hown, hts⟩, hK, hN, hA⟩
  unfold f_X11_broken at hf
  refine lv_aload_n hx hb dX11_broken_0 rfl (lv_at hl 0 rfl) ?_
  refine va_get (D := D) (ci := 10) (v := .ref a_t_now) (C := RX11) (T := TX11) (N := 6) hx hb hts iw_X11 hown hK hP 0 rfl rfl 0 (by decide) (hts _ (wG_in k_fl_X11_10 rfl)) (fun _ h9 => h9) rfl dX11_broken_1 ?_
  refine va_get (D := D) (ci := 5) (v := .ref a_t_now_wheel) (C := RX6) (T := TX6) (N := 6) hx hb hts iw_X6 hown hK hP 1 rfl rfl 1 (by decide) (hts _ (wG_in k_fl_X11_65 rfl)) (fun _ h9 => h9) rfl dX11_broken_4 ?_
  refine va_get (D := D) (ci := 9) (v := .int s_t_now_wheel_size) (C := RX10) (T := TX10) (N := 5) hx hb hts iw_X10 hown hK hP 3 rfl rfl 4 (by decide) (hts _ (wG_in k_fl_X11_79 rfl)) (fun _ h9 => h9) rfl dX11_broken_7 ?_
  refine lv_if_ne (tgt := 17) hx hb dX11_broken_10 (by decide) (fun c1 => ?_) (fun c1 => ?_)
  · replace hf := jif_f c1 hf
    refine lv_aload_n hx hb dX11_broken_17 rfl (lv_at hl 0 rfl) ?_
    refine va_get (D := D) (ci := 10) (v := .ref a_t_now) (C := RX11) (T := TX11) (N := 6) hx hb hts iw_X11 hown hK hP 0 rfl rfl 0 (by decide) (hts _ (wG_in k_fl_X11_10 rfl)) (fun _ h9 => h9) rfl dX11_broken_18 ?_
    refine va_get (D := D) (ci := 5) (v := .ref a_t_now_law) (C := RX6) (T := TX6) (N := 6) hx hb hts iw_X6 hown hK hP 1 rfl rfl 2 (by decide) (hts _ (wG_in k_fl_X11_86 rfl)) (fun _ h9 => h9) rfl dX11_broken_21 ?_
    refine lv_aload_n hx hb dX11_broken_24 rfl (lv_at hl 0 rfl) ?_
    refine va_get (D := D) (ci := 10) (v := .ref a_t_now) (C := RX11) (T := TX11) (N := 6) hx hb hts iw_X11 hown hK hP 0 rfl rfl 0 (by decide) (hts _ (wG_in k_fl_X11_10 rfl)) (fun _ h9 => h9) rfl dX11_broken_25 ?_
    refine va_get (D := D) (ci := 5) (v := .ref a_t_now_wheel) (C := RX6) (T := TX6) (N := 6) hx hb hts iw_X6 hown hK hP 1 rfl rfl 1 (by decide) (hts _ (wG_in k_fl_X11_65 rfl)) (fun _ h9 => h9) rfl dX11_broken_28 ?_
    obtain ⟨r2, hgr2, hf⟩ := jM_some hf
    refine jcV_i0 (As := [.ref a_t_now_wheel]) (rest := []) ⟨hx, hb, hml, hown, hts⟩ hK hN hA (c_X3_firstBroken l G D cI cB cZ a_t_now_wheel a_t_now_law a_t_now_wheel_child a_t_now_wheel_father a_t_now_wheel_husband a_t_now_wheel_wife a_t_now_law_first a_t_now_law_second a_t_now_law_sort s_t_now_wheel_size s_t_now_law_count r_t_now_wheel_child r_t_now_wheel_father r_t_now_wheel_husband r_t_now_wheel_wife r_t_now_law_first r_t_now_law_second r_t_now_law_sort hgr2) (cwV 1 hts (wG_V k_ml_X11_138 k_im_X3_firstBroken k_se_X3_firstBroken k_in_X3 k_co_X3_firstBroken) rfl rfl rfl hd_X3_firstBroken ⟨Nat.le_of_ble_eq_true rfl, Nat.le_of_ble_eq_true rfl⟩) hP hD hS [3, 2, 7, 8, 9, 10, 4, 5, 6] rfl rfl rfl (ci := 2) rfl 2 rfl rfl rfl hl.1 rfl (Nat.le_of_ble_eq_true rfl) dX11_broken_31 ⟨Nat.le_of_ble_eq_true rfl, Nat.le_of_ble_eq_true rfl⟩ (fun H locs hP hD hS => ?_)
    have ho := Option.some.inj hf
    subst ho
    exact K _ _ _ _ hP hS dX11_broken_34
  · replace hf := jif_t c1 hf
    refine lv_iconst (v := (-1 : Int32)) hx hb dX11_broken_13 (by decide) ?_
    refine lv_goto (tgt := 34) hx hb dX11_broken_14 (by decide) ?_
    have ho := Option.some.inj hf
    subst ho
    exact K _ _ _ _ hP hS dX11_broken_34
set_option maxHeartbeats 4000000 in
set_option maxRecDepth 100000 in
theorem c_X11_broken (l : Launch) (G : jGt) (D : va_G) (cI cB cZ : ClassId) (a_t a_t_now a_t_now_law a_t_now_wheel a_t_now_law_first a_t_now_law_second a_t_now_law_sort a_t_now_wheel_child a_t_now_wheel_father a_t_now_wheel_husband a_t_now_wheel_wife : Nat) (u_t_images u_t_texts u_t_turns u_t_kinship u_t_censuses u_t_now_tape u_t_now_people u_t_now_words : Value) (u_t_now_wordCount s_t_now_law_count s_t_now_wheel_size : Int32) (r_t_now_law_first r_t_now_law_second r_t_now_law_sort r_t_now_wheel_child r_t_now_wheel_father r_t_now_wheel_husband r_t_now_wheel_wife : jA)  {o : Int32} (hf : f_X11_broken s_t_now_law_count s_t_now_wheel_size r_t_now_law_first r_t_now_law_second r_t_now_law_sort r_t_now_wheel_child r_t_now_wheel_father r_t_now_wheel_husband r_t_now_wheel_wife = some o) : jMi l yX11_broken gX11_broken rX11_broken G D (jT cI cB cZ) [.ref a_t] (w_X11_broken cI cB cZ a_t a_t_now a_t_now_law a_t_now_wheel a_t_now_law_first a_t_now_law_second a_t_now_law_sort a_t_now_wheel_child a_t_now_wheel_father a_t_now_wheel_husband a_t_now_wheel_wife u_t_images u_t_texts u_t_turns u_t_kinship u_t_censuses u_t_now_tape u_t_now_people u_t_now_words u_t_now_wordCount s_t_now_law_count s_t_now_wheel_size r_t_now_law_first r_t_now_law_second r_t_now_law_sort r_t_now_wheel_child r_t_now_wheel_father r_t_now_wheel_husband r_t_now_wheel_wife) (w_X11_broken cI cB cZ a_t a_t_now a_t_now_law a_t_now_wheel a_t_now_law_first a_t_now_law_second a_t_now_law_sort a_t_now_wheel_child a_t_now_wheel_father a_t_now_wheel_husband a_t_now_wheel_wife u_t_images u_t_texts u_t_turns u_t_kinship u_t_censuses u_t_now_tape u_t_now_people u_t_now_words u_t_now_wordCount s_t_now_law_count s_t_now_wheel_size r_t_now_law_first r_t_now_law_second r_t_now_law_sort r_t_now_wheel_child r_t_now_wheel_father r_t_now_wheel_husband r_t_now_wheel_wife) o := by
  refine jmk_i RX11 rfl (by decide +kernel) rfl (Nat.le_of_ble_eq_true rfl) rfl ?_
  intro p e s m args below meth c ls A Q C hP hD hS hl K
  exact t_X11_broken G D cI cB cZ a_t a_t_now a_t_now_law a_t_now_wheel a_t_now_law_first a_t_now_law_second a_t_now_law_sort a_t_now_wheel_child a_t_now_wheel_father a_t_now_wheel_husband a_t_now_wheel_wife u_t_images u_t_texts u_t_turns u_t_kinship u_t_censuses u_t_now_tape u_t_now_people u_t_now_words u_t_now_wordCount s_t_now_law_count s_t_now_wheel_size r_t_now_law_first r_t_now_law_second r_t_now_law_sort r_t_now_wheel_child r_t_now_wheel_father r_t_now_wheel_husband r_t_now_wheel_wife  C hf K hP hD hS hl
abbrev rX11_leads : Room := { frames := 2, cells := 0, slots := 0, locals := 50 }
abbrev gX11_leads : List Cond := wG yX11_leads cX11_leads 4 (some .int)
def w_X11_leads (cI cB cZ : ClassId) (a_t a_t_now a_t_now_wheel a_t_now_words a_t_now_wheel_child a_t_now_wheel_father a_t_now_wheel_husband a_t_now_wheel_wife : Nat) (u_t_images u_t_texts u_t_turns u_t_kinship u_t_censuses u_t_now_tape u_t_now_law u_t_now_people : Value) (s_t_now_wordCount s_t_now_wheel_size : Int32) (r_t_now_words r_t_now_wheel_child r_t_now_wheel_father r_t_now_wheel_husband r_t_now_wheel_wife : jA) : va_W := [(a_t, .inr (10, (oX11 (.ref a_t_now) u_t_images u_t_texts u_t_turns u_t_kinship u_t_censuses))), (a_t_now, .inr (5, (oX6 u_t_now_tape (.ref a_t_now_wheel) u_t_now_law u_t_now_people (.ref a_t_now_words) s_t_now_wordCount))), (a_t_now_wheel, .inr (9, (oX10 (.ref a_t_now_wheel_wife) (.ref a_t_now_wheel_child) (.ref a_t_now_wheel_husband) (.ref a_t_now_wheel_father) s_t_now_wheel_size))), (a_t_now_words, .inl (cI, r_t_now_words.1, .inl r_t_now_words.2)), (a_t_now_wheel_child, .inl (cI, r_t_now_wheel_child.1, .inl r_t_now_wheel_child.2)), (a_t_now_wheel_father, .inl (cI, r_t_now_wheel_father.1, .inl r_t_now_wheel_father.2)), (a_t_now_wheel_husband, .inl (cI, r_t_now_wheel_husband.1, .inl r_t_now_wheel_husband.2)), (a_t_now_wheel_wife, .inl (cI, r_t_now_wheel_wife.1, .inl r_t_now_wheel_wife.2))]
def f_X11_leads (s_t_now_wordCount s_t_now_wheel_size : Int32) (r_t_now_words r_t_now_wheel_child r_t_now_wheel_father r_t_now_wheel_husband r_t_now_wheel_wife : jA) (x1 x2 : Int32) : Option (Int32) :=
  jM (f_X6_wordAt s_t_now_wordCount r_t_now_words x1) fun r1 =>
  if r1 = (-1 : Int32) then
  some (-1 : Int32)
  else
  jM (f_X10_follow s_t_now_wheel_size r_t_now_wheel_child r_t_now_wheel_father r_t_now_wheel_husband r_t_now_wheel_wife r1 x2) fun r3 =>
  some r3
set_option maxHeartbeats 4000000 in
set_option maxRecDepth 100000 in
theorem t_X11_leads {p : Program} {l : Launch} {e : Env} {s : State} {m : MethodId} {args : Array Value} {below : List Frame} {meth : Method} {c : Code} {A : Nat → Prop} {Q : State → Prop} (G : jGt) (D : va_G) (cI cB cZ : ClassId) (a_t a_t_now a_t_now_wheel a_t_now_words a_t_now_wheel_child a_t_now_wheel_father a_t_now_wheel_husband a_t_now_wheel_wife : Nat) (u_t_images u_t_texts u_t_turns u_t_kinship u_t_censuses u_t_now_tape u_t_now_law u_t_now_people : Value) (s_t_now_wordCount s_t_now_wheel_size : Int32) (r_t_now_words r_t_now_wheel_child r_t_now_wheel_father r_t_now_wheel_husband r_t_now_wheel_wife : jA) (x1 x2 : Int32) (C : jCx p s m args c cX11_leads 4 gX11_leads RX11 G D (jT cI cB cZ) A) {o : Int32} (hf : f_X11_leads s_t_now_wordCount s_t_now_wheel_size r_t_now_words r_t_now_wheel_child r_t_now_wheel_father r_t_now_wheel_husband r_t_now_wheel_wife x1 x2 = some o) (K : ∀ (H : Heap) (locs : List Loc) (pc : Nat) (ls : Array Slot), va_P D vwCl (w_X11_leads cI cB cZ a_t a_t_now a_t_now_wheel a_t_now_words a_t_now_wheel_child a_t_now_wheel_father a_t_now_wheel_husband a_t_now_wheel_wife u_t_images u_t_texts u_t_turns u_t_kinship u_t_censuses u_t_now_tape u_t_now_law u_t_now_people s_t_now_wordCount s_t_now_wheel_size r_t_now_words r_t_now_wheel_child r_t_now_wheel_father r_t_now_wheel_husband r_t_now_wheel_wife) H → va_S A s.heap H locs → decode cX11_leads pc = .ok (.ireturn, 1) → W p l e rX11_leads s m args below meth c H locs 0 0 Q (F0 m pc ls [.int o])) {H : Heap} {locs : List Loc} {ls : Array Slot} (hP : va_P D vwCl (w_X11_leads cI cB cZ a_t a_t_now a_t_now_wheel a_t_now_words a_t_now_wheel_child a_t_now_wheel_father a_t_now_wheel_husband a_t_now_wheel_wife u_t_images u_t_texts u_t_turns u_t_kinship u_t_censuses u_t_now_tape u_t_now_law u_t_now_people s_t_now_wordCount s_t_now_wheel_size r_t_now_words r_t_now_wheel_child r_t_now_wheel_father r_t_now_wheel_husband r_t_now_wheel_wife) H) (hD : va_D A (w_X11_leads cI cB cZ a_t a_t_now a_t_now_wheel a_t_now_words a_t_now_wheel_child a_t_now_wheel_father a_t_now_wheel_husband a_t_now_wheel_wife u_t_images u_t_texts u_t_turns u_t_kinship u_t_censuses u_t_now_tape u_t_now_law u_t_now_people s_t_now_wordCount s_t_now_wheel_size r_t_now_words r_t_now_wheel_child r_t_now_wheel_father r_t_now_wheel_husband r_t_now_wheel_wife)) (hS : va_S A s.heap H locs) (hl : lv_has ls 4 [(0, .ref a_t), (1, .int x1), (2, .int x2)]) : W p l e rX11_leads s m args below meth c H locs 0 0 Q (F0 m 0 ls []) := by
  obtain ⟨⟨hx, hb, hml, hown, hts⟩, hK, hN, hA⟩ := C
  have C : jCx p s m args c cX11_leads 4 gX11_leads RX11 G D (jT cI cB cZ) A := ⟨⟨hx, hb, hml, hown, hts⟩, hK, hN, hA⟩
  unfold f_X11_leads at hf
  refine lv_aload_n hx hb dX11_leads_0 rfl (lv_at hl 0 rfl) ?_
  refine va_get (D := D) (ci := 10) (v := .ref a_t_now) (C := RX11) (T := TX11) (N := 6) hx hb hts iw_X11 hown hK hP 0 rfl rfl 0 (by decide) (hts _ (wG_in k_fl_X11_10 rfl)) (fun _ h9 => h9) rfl dX11_leads_1 ?_
  refine lv_iload_n hx hb dX11_leads_4 rfl (lv_at hl 1 rfl) ?_
  obtain ⟨r1, hgr1, hf⟩ := jM_some hf
  refine jcV_i0 (As := [.int x1]) (rest := []) ⟨hx, hb, hml, hown, hts⟩ hK hN hA (c_X6_wordAt l G D cI cB cZ a_t_now a_t_now_words u_t_now_tape (.ref a_t_now_wheel) u_t_now_law u_t_now_people s_t_now_wordCount r_t_now_words x1 hgr1) (cwV 1 hts (wG_V k_ml_X11_141 k_im_X6_wordAt k_se_X6_wordAt k_in_X6 k_co_X6_wordAt) rfl rfl rfl hd_X6_wordAt ⟨Nat.le_of_ble_eq_true rfl, Nat.le_of_ble_eq_true rfl⟩) hP hD hS [1, 3] rfl rfl rfl (ci := 5) rfl 1 rfl rfl rfl hl.1 rfl (Nat.le_of_ble_eq_true rfl) dX11_leads_5 ⟨Nat.le_of_ble_eq_true rfl, Nat.le_of_ble_eq_true rfl⟩ (fun H locs hP hD hS => ?_)
  refine lv_istore_n (lv' := [(3, .int r1), (0, .ref a_t), (1, .int x1), (2, .int x2)]) hx hb dX11_leads_8 rfl hl (by decide) rfl (fun ls hl => ?_)
  refine lv_iload_n hx hb dX11_leads_9 rfl (lv_at hl 0 rfl) ?_
  refine lv_iconst (v := (-1 : Int32)) hx hb dX11_leads_10 (by decide) ?_
  refine lv_icmp_ne (tgt := 18) hx hb dX11_leads_11 (by decide) (fun c2 => ?_) (fun c2 => ?_)
  · replace hf := jif_f c2 hf
    refine lv_aload_n hx hb dX11_leads_18 rfl (lv_at hl 1 rfl) ?_
    refine va_get (D := D) (ci := 10) (v := .ref a_t_now) (C := RX11) (T := TX11) (N := 6) hx hb hts iw_X11 hown hK hP 0 rfl rfl 0 (by decide) (hts _ (wG_in k_fl_X11_10 rfl)) (fun _ h9 => h9) rfl dX11_leads_19 ?_
    refine va_get (D := D) (ci := 5) (v := .ref a_t_now_wheel) (C := RX6) (T := TX6) (N := 6) hx hb hts iw_X6 hown hK hP 1 rfl rfl 1 (by decide) (hts _ (wG_in k_fl_X11_65 rfl)) (fun _ h9 => h9) rfl dX11_leads_22 ?_
    refine lv_iload_n hx hb dX11_leads_25 rfl (lv_at hl 0 rfl) ?_
    refine lv_iload_n hx hb dX11_leads_26 rfl (lv_at hl 3 rfl) ?_
    obtain ⟨r3, hgr3, hf⟩ := jM_some hf
    refine jcV_i0 (As := [.int r1, .int x2]) (rest := []) ⟨hx, hb, hml, hown, hts⟩ hK hN hA (c_X10_follow l G D cI cB cZ a_t_now_wheel a_t_now_wheel_child a_t_now_wheel_father a_t_now_wheel_husband a_t_now_wheel_wife s_t_now_wheel_size r_t_now_wheel_child r_t_now_wheel_father r_t_now_wheel_husband r_t_now_wheel_wife r1 x2 hgr3) (cwV 2 hts (wG_V k_ml_X11_144 k_im_X10_follow k_se_X10_follow k_in_X10 k_co_X10_follow) rfl rfl rfl hd_X10_follow ⟨Nat.le_of_ble_eq_true rfl, Nat.le_of_ble_eq_true rfl⟩) hP hD hS [2, 4, 5, 6, 7] rfl rfl rfl (ci := 9) rfl 2 rfl rfl rfl hl.1 rfl (Nat.le_of_ble_eq_true rfl) dX11_leads_27 ⟨Nat.le_of_ble_eq_true rfl, Nat.le_of_ble_eq_true rfl⟩ (fun H locs hP hD hS => ?_)
    have ho := Option.some.inj hf
    subst ho
    exact K _ _ _ _ hP hS dX11_leads_30
  · replace hf := jif_t c2 hf
    refine lv_iconst (v := (-1 : Int32)) hx hb dX11_leads_14 (by decide) ?_
    refine lv_goto (tgt := 30) hx hb dX11_leads_15 (by decide) ?_
    have ho := Option.some.inj hf
    subst ho
    exact K _ _ _ _ hP hS dX11_leads_30
set_option maxHeartbeats 4000000 in
set_option maxRecDepth 100000 in
theorem c_X11_leads (l : Launch) (G : jGt) (D : va_G) (cI cB cZ : ClassId) (a_t a_t_now a_t_now_wheel a_t_now_words a_t_now_wheel_child a_t_now_wheel_father a_t_now_wheel_husband a_t_now_wheel_wife : Nat) (u_t_images u_t_texts u_t_turns u_t_kinship u_t_censuses u_t_now_tape u_t_now_law u_t_now_people : Value) (s_t_now_wordCount s_t_now_wheel_size : Int32) (r_t_now_words r_t_now_wheel_child r_t_now_wheel_father r_t_now_wheel_husband r_t_now_wheel_wife : jA) (x1 x2 : Int32) {o : Int32} (hf : f_X11_leads s_t_now_wordCount s_t_now_wheel_size r_t_now_words r_t_now_wheel_child r_t_now_wheel_father r_t_now_wheel_husband r_t_now_wheel_wife x1 x2 = some o) : jMi l yX11_leads gX11_leads rX11_leads G D (jT cI cB cZ) [.ref a_t, .int x1, .int x2] (w_X11_leads cI cB cZ a_t a_t_now a_t_now_wheel a_t_now_words a_t_now_wheel_child a_t_now_wheel_father a_t_now_wheel_husband a_t_now_wheel_wife u_t_images u_t_texts u_t_turns u_t_kinship u_t_censuses u_t_now_tape u_t_now_law u_t_now_people s_t_now_wordCount s_t_now_wheel_size r_t_now_words r_t_now_wheel_child r_t_now_wheel_father r_t_now_wheel_husband r_t_now_wheel_wife) (w_X11_leads cI cB cZ a_t a_t_now a_t_now_wheel a_t_now_words a_t_now_wheel_child a_t_now_wheel_father a_t_now_wheel_husband a_t_now_wheel_wife u_t_images u_t_texts u_t_turns u_t_kinship u_t_censuses u_t_now_tape u_t_now_law u_t_now_people s_t_now_wordCount s_t_now_wheel_size r_t_now_words r_t_now_wheel_child r_t_now_wheel_father r_t_now_wheel_husband r_t_now_wheel_wife) o := by
  refine jmk_i RX11 rfl (by decide +kernel) rfl (Nat.le_of_ble_eq_true rfl) rfl ?_
  intro p e s m args below meth c ls A Q C hP hD hS hl K
  exact t_X11_leads G D cI cB cZ a_t a_t_now a_t_now_wheel a_t_now_words a_t_now_wheel_child a_t_now_wheel_father a_t_now_wheel_husband a_t_now_wheel_wife u_t_images u_t_texts u_t_turns u_t_kinship u_t_censuses u_t_now_tape u_t_now_law u_t_now_people s_t_now_wordCount s_t_now_wheel_size r_t_now_words r_t_now_wheel_child r_t_now_wheel_father r_t_now_wheel_husband r_t_now_wheel_wife x1 x2 C hf K hP hD hS hl
abbrev rX11_alike : Room := { frames := 3, cells := 0, slots := 0, locals := 73 }
abbrev gX11_alike : List Cond := wG yX11_alike cX11_alike 5 (some .boolean)
def w_X11_alike (cI cB cZ : ClassId) (a_t a_t_now a_t_now_wheel a_t_now_words a_t_now_wheel_child a_t_now_wheel_father a_t_now_wheel_husband a_t_now_wheel_wife : Nat) (u_t_images u_t_texts u_t_turns u_t_kinship u_t_censuses u_t_now_tape u_t_now_law u_t_now_people : Value) (s_t_now_wordCount s_t_now_wheel_size : Int32) (r_t_now_words r_t_now_wheel_child r_t_now_wheel_father r_t_now_wheel_husband r_t_now_wheel_wife : jA) : va_W := [(a_t, .inr (10, (oX11 (.ref a_t_now) u_t_images u_t_texts u_t_turns u_t_kinship u_t_censuses))), (a_t_now, .inr (5, (oX6 u_t_now_tape (.ref a_t_now_wheel) u_t_now_law u_t_now_people (.ref a_t_now_words) s_t_now_wordCount))), (a_t_now_wheel, .inr (9, (oX10 (.ref a_t_now_wheel_wife) (.ref a_t_now_wheel_child) (.ref a_t_now_wheel_husband) (.ref a_t_now_wheel_father) s_t_now_wheel_size))), (a_t_now_words, .inl (cI, r_t_now_words.1, .inl r_t_now_words.2)), (a_t_now_wheel_child, .inl (cI, r_t_now_wheel_child.1, .inl r_t_now_wheel_child.2)), (a_t_now_wheel_father, .inl (cI, r_t_now_wheel_father.1, .inl r_t_now_wheel_father.2)), (a_t_now_wheel_husband, .inl (cI, r_t_now_wheel_husband.1, .inl r_t_now_wheel_husband.2)), (a_t_now_wheel_wife, .inl (cI, r_t_now_wheel_wife.1, .inl r_t_now_wheel_wife.2))]
def f_X11_alike (s_t_now_wordCount s_t_now_wheel_size : Int32) (r_t_now_words r_t_now_wheel_child r_t_now_wheel_father r_t_now_wheel_husband r_t_now_wheel_wife : jA) (x1 x2 : Int32) : Option (Int32) :=
  jM (f_X6_wordAt s_t_now_wordCount r_t_now_words x1) fun r1 =>
  jM (f_X6_wordAt s_t_now_wordCount r_t_now_words x2) fun r2 =>
  if r1 = (-1 : Int32) then
  some (0 : Int32)
  else
  if r2 = (-1 : Int32) then
  some (0 : Int32)
  else
  if s_t_now_wheel_size ≤ 0 then
  some (0 : Int32)
  else
  jM (f_X10_meansSame s_t_now_wheel_size r_t_now_wheel_child r_t_now_wheel_father r_t_now_wheel_husband r_t_now_wheel_wife r1 r2) fun r6 =>
  if r6 = 0 then
  some (0 : Int32)
  else
  some (1 : Int32)
set_option maxHeartbeats 4000000 in
set_option maxRecDepth 100000 in
theorem t_X11_alike {p : Program} {l : Launch} {e : Env} {s : State} {m : MethodId} {args : Array Value} {below : List Frame} {meth : Method} {c : Code} {A : Nat → Prop} {Q : State → Prop} (G : jGt) (D : va_G) (cI cB cZ : ClassId) (a_t a_t_now a_t_now_wheel a_t_now_words a_t_now_wheel_child a_t_now_wheel_father a_t_now_wheel_husband a_t_now_wheel_wife : Nat) (u_t_images u_t_texts u_t_turns u_t_kinship u_t_censuses u_t_now_tape u_t_now_law u_t_now_people : Value) (s_t_now_wordCount s_t_now_wheel_size : Int32) (r_t_now_words r_t_now_wheel_child r_t_now_wheel_father r_t_now_wheel_husband r_t_now_wheel_wife : jA) (x1 x2 : Int32) (C : jCx p s m args c cX11_alike 5 gX11_alike RX11 G D (jT cI cB cZ) A) {o : Int32} (hf : f_X11_alike s_t_now_wordCount s_t_now_wheel_size r_t_now_words r_t_now_wheel_child r_t_now_wheel_father r_t_now_wheel_husband r_t_now_wheel_wife x1 x2 = some o) (K : ∀ (H : Heap) (locs : List Loc) (pc : Nat) (ls : Array Slot), (o = 0 ∨ o = 1) → va_P D vwCl (w_X11_alike cI cB cZ a_t a_t_now a_t_now_wheel a_t_now_words a_t_now_wheel_child a_t_now_wheel_father a_t_now_wheel_husband a_t_now_wheel_wife u_t_images u_t_texts u_t_turns u_t_kinship u_t_censuses u_t_now_tape u_t_now_law u_t_now_people s_t_now_wordCount s_t_now_wheel_size r_t_now_words r_t_now_wheel_child r_t_now_wheel_father r_t_now_wheel_husband r_t_now_wheel_wife) H → va_S A s.heap H locs → decode cX11_alike pc = .ok (.ireturn, 1) → W p l e rX11_alike s m args below meth c H locs 0 0 Q (F0 m pc ls [.int o])) {H : Heap} {locs : List Loc} {ls : Array Slot} (hP : va_P D vwCl (w_X11_alike cI cB cZ a_t a_t_now a_t_now_wheel a_t_now_words a_t_now_wheel_child a_t_now_wheel_father a_t_now_wheel_husband a_t_now_wheel_wife u_t_images u_t_texts u_t_turns u_t_kinship u_t_censuses u_t_now_tape u_t_now_law u_t_now_people s_t_now_wordCount s_t_now_wheel_size r_t_now_words r_t_now_wheel_child r_t_now_wheel_father r_t_now_wheel_husband r_t_now_wheel_wife) H) (hD : va_D A (w_X11_alike cI cB cZ a_t a_t_now a_t_now_wheel a_t_now_words a_t_now_wheel_child a_t_now_wheel_father a_t_now_wheel_husband a_t_now_wheel_wife u_t_images u_t_texts u_t_turns u_t_kinship u_t_censuses u_t_now_tape u_t_now_law u_t_now_people s_t_now_wordCount s_t_now_wheel_size r_t_now_words r_t_now_wheel_child r_t_now_wheel_father r_t_now_wheel_husband r_t_now_wheel_wife)) (hS : va_S A s.heap H locs) (hl : lv_has ls 5 [(0, .ref a_t), (1, .int x1), (2, .int x2)]) : W p l e rX11_alike s m args below meth c H locs 0 0 Q (F0 m 0 ls []) := by
  obtain ⟨⟨hx, hb, hml, hown, hts⟩, hK, hN, hA⟩ := C
  have C : jCx p s m args c cX11_alike 5 gX11_alike RX11 G D (jT cI cB cZ) A := ⟨⟨hx, hb, hml, hown, hts⟩, hK, hN, hA⟩
  unfold f_X11_alike at hf
  refine lv_aload_n hx hb dX11_alike_0 rfl (lv_at hl 0 rfl) ?_
  refine va_get (D := D) (ci := 10) (v := .ref a_t_now) (C := RX11) (T := TX11) (N := 6) hx hb hts iw_X11 hown hK hP 0 rfl rfl 0 (by decide) (hts _ (wG_in k_fl_X11_10 rfl)) (fun _ h9 => h9) rfl dX11_alike_1 ?_
  refine lv_iload_n hx hb dX11_alike_4 rfl (lv_at hl 1 rfl) ?_
  obtain ⟨r1, hgr1, hf⟩ := jM_some hf
  refine jcV_i0 (As := [.int x1]) (rest := []) ⟨hx, hb, hml, hown, hts⟩ hK hN hA (c_X6_wordAt l G D cI cB cZ a_t_now a_t_now_words u_t_now_tape (.ref a_t_now_wheel) u_t_now_law u_t_now_people s_t_now_wordCount r_t_now_words x1 hgr1) (cwV 1 hts (wG_V k_ml_X11_141 k_im_X6_wordAt k_se_X6_wordAt k_in_X6 k_co_X6_wordAt) rfl rfl rfl hd_X6_wordAt ⟨Nat.le_of_ble_eq_true rfl, Nat.le_of_ble_eq_true rfl⟩) hP hD hS [1, 3] rfl rfl rfl (ci := 5) rfl 1 rfl rfl rfl hl.1 rfl (Nat.le_of_ble_eq_true rfl) dX11_alike_5 ⟨Nat.le_of_ble_eq_true rfl, Nat.le_of_ble_eq_true rfl⟩ (fun H locs hP hD hS => ?_)
  refine lv_istore_n (lv' := [(3, .int r1), (0, .ref a_t), (1, .int x1), (2, .int x2)]) hx hb dX11_alike_8 rfl hl (by decide) rfl (fun ls hl => ?_)
  refine lv_aload_n hx hb dX11_alike_9 rfl (lv_at hl 1 rfl) ?_
  refine va_get (D := D) (ci := 10) (v := .ref a_t_now) (C := RX11) (T := TX11) (N := 6) hx hb hts iw_X11 hown hK hP 0 rfl rfl 0 (by decide) (hts _ (wG_in k_fl_X11_10 rfl)) (fun _ h9 => h9) rfl dX11_alike_10 ?_
  refine lv_iload_n hx hb dX11_alike_13 rfl (lv_at hl 3 rfl) ?_
  obtain ⟨r2, hgr2, hf⟩ := jM_some hf
  refine jcV_i0 (As := [.int x2]) (rest := []) ⟨hx, hb, hml, hown, hts⟩ hK hN hA (c_X6_wordAt l G D cI cB cZ a_t_now a_t_now_words u_t_now_tape (.ref a_t_now_wheel) u_t_now_law u_t_now_people s_t_now_wordCount r_t_now_words x2 hgr2) (cwV 1 hts (wG_V k_ml_X11_141 k_im_X6_wordAt k_se_X6_wordAt k_in_X6 k_co_X6_wordAt) rfl rfl rfl hd_X6_wordAt ⟨Nat.le_of_ble_eq_true rfl, Nat.le_of_ble_eq_true rfl⟩) hP hD hS [1, 3] rfl rfl rfl (ci := 5) rfl 1 rfl rfl rfl hl.1 rfl (Nat.le_of_ble_eq_true rfl) dX11_alike_14 ⟨Nat.le_of_ble_eq_true rfl, Nat.le_of_ble_eq_true rfl⟩ (fun H locs hP hD hS => ?_)
  refine lv_istore (lv' := [(4, .int r2), (3, .int r1), (0, .ref a_t), (1, .int x1), (2, .int x2)]) hx hb dX11_alike_17 hl (by decide) rfl (fun ls hl => ?_)
  refine lv_iload_n hx hb dX11_alike_19 rfl (lv_at hl 1 rfl) ?_
  refine lv_iconst (v := (-1 : Int32)) hx hb dX11_alike_20 (by decide) ?_
  refine lv_icmp_eq (tgt := 63) hx hb dX11_alike_21 (by decide) (fun c3 => ?_) (fun c3 => ?_)
  · replace hf := jif_t c3 hf
    refine lv_iconst (v := (0 : Int32)) hx hb dX11_alike_63 (by decide) ?_
    have ho := Option.some.inj hf
    subst ho
    exact K _ _ _ _ (Or.inl rfl) hP hS dX11_alike_64
  · replace hf := jif_f c3 hf
    refine lv_iload hx hb dX11_alike_24 (lv_at hl 0 rfl) ?_
    refine lv_iconst (v := (-1 : Int32)) hx hb dX11_alike_26 (by decide) ?_
    refine lv_icmp_eq (tgt := 63) hx hb dX11_alike_27 (by decide) (fun c4 => ?_) (fun c4 => ?_)
    · replace hf := jif_t c4 hf
      refine lv_iconst (v := (0 : Int32)) hx hb dX11_alike_63 (by decide) ?_
      have ho := Option.some.inj hf
      subst ho
      exact K _ _ _ _ (Or.inl rfl) hP hS dX11_alike_64
    · replace hf := jif_f c4 hf
      refine lv_aload_n hx hb dX11_alike_30 rfl (lv_at hl 2 rfl) ?_
      refine va_get (D := D) (ci := 10) (v := .ref a_t_now) (C := RX11) (T := TX11) (N := 6) hx hb hts iw_X11 hown hK hP 0 rfl rfl 0 (by decide) (hts _ (wG_in k_fl_X11_10 rfl)) (fun _ h9 => h9) rfl dX11_alike_31 ?_
      refine va_get (D := D) (ci := 5) (v := .ref a_t_now_wheel) (C := RX6) (T := TX6) (N := 6) hx hb hts iw_X6 hown hK hP 1 rfl rfl 1 (by decide) (hts _ (wG_in k_fl_X11_65 rfl)) (fun _ h9 => h9) rfl dX11_alike_34 ?_
      refine va_get (D := D) (ci := 9) (v := .int s_t_now_wheel_size) (C := RX10) (T := TX10) (N := 5) hx hb hts iw_X10 hown hK hP 2 rfl rfl 4 (by decide) (hts _ (wG_in k_fl_X11_79 rfl)) (fun _ h9 => h9) rfl dX11_alike_37 ?_
      refine lv_if_le (tgt := 63) hx hb dX11_alike_40 (by decide) (fun c5 => ?_) (fun c5 => ?_)
      · replace hf := jif_t c5 hf
        refine lv_iconst (v := (0 : Int32)) hx hb dX11_alike_63 (by decide) ?_
        have ho := Option.some.inj hf
        subst ho
        exact K _ _ _ _ (Or.inl rfl) hP hS dX11_alike_64
      · replace hf := jif_f c5 hf
        refine lv_aload_n hx hb dX11_alike_43 rfl (lv_at hl 2 rfl) ?_
        refine va_get (D := D) (ci := 10) (v := .ref a_t_now) (C := RX11) (T := TX11) (N := 6) hx hb hts iw_X11 hown hK hP 0 rfl rfl 0 (by decide) (hts _ (wG_in k_fl_X11_10 rfl)) (fun _ h9 => h9) rfl dX11_alike_44 ?_
        refine va_get (D := D) (ci := 5) (v := .ref a_t_now_wheel) (C := RX6) (T := TX6) (N := 6) hx hb hts iw_X6 hown hK hP 1 rfl rfl 1 (by decide) (hts _ (wG_in k_fl_X11_65 rfl)) (fun _ h9 => h9) rfl dX11_alike_47 ?_
        refine lv_iload_n hx hb dX11_alike_50 rfl (lv_at hl 1 rfl) ?_
        refine lv_iload hx hb dX11_alike_51 (lv_at hl 0 rfl) ?_
        obtain ⟨r6, hgr6, hf⟩ := jM_some hf
        refine jcV_i0 (As := [.int r1, .int r2]) (rest := []) ⟨hx, hb, hml, hown, hts⟩ hK hN hA (c_X10_meansSame l G D cI cB cZ a_t_now_wheel a_t_now_wheel_child a_t_now_wheel_father a_t_now_wheel_husband a_t_now_wheel_wife s_t_now_wheel_size r_t_now_wheel_child r_t_now_wheel_father r_t_now_wheel_husband r_t_now_wheel_wife r1 r2 hgr6) (cwV 2 hts (wG_V k_ml_X11_170 k_im_X10_meansSame k_se_X10_meansSame k_in_X10 k_co_X10_meansSame) rfl rfl rfl hd_X10_meansSame ⟨Nat.le_of_ble_eq_true rfl, Nat.le_of_ble_eq_true rfl⟩) hP hD hS [2, 4, 5, 6, 7] rfl rfl rfl (ci := 9) rfl 2 rfl rfl rfl hl.1 rfl (Nat.le_of_ble_eq_true rfl) dX11_alike_53 ⟨Nat.le_of_ble_eq_true rfl, Nat.le_of_ble_eq_true rfl⟩ (fun H locs hP hD hS => ?_)
        refine lv_if_eq (tgt := 63) hx hb dX11_alike_56 (by decide) (fun c7 => ?_) (fun c7 => ?_)
        · replace hf := jif_t c7 hf
          refine lv_iconst (v := (0 : Int32)) hx hb dX11_alike_63 (by decide) ?_
          have ho := Option.some.inj hf
          subst ho
          exact K _ _ _ _ (Or.inl rfl) hP hS dX11_alike_64
        · replace hf := jif_f c7 hf
          refine lv_iconst (v := (1 : Int32)) hx hb dX11_alike_59 (by decide) ?_
          refine lv_goto (tgt := 64) hx hb dX11_alike_60 (by decide) ?_
          have ho := Option.some.inj hf
          subst ho
          exact K _ _ _ _ (Or.inr rfl) hP hS dX11_alike_64
set_option maxHeartbeats 4000000 in
set_option maxRecDepth 100000 in
theorem c_X11_alike (l : Launch) (G : jGt) (D : va_G) (cI cB cZ : ClassId) (a_t a_t_now a_t_now_wheel a_t_now_words a_t_now_wheel_child a_t_now_wheel_father a_t_now_wheel_husband a_t_now_wheel_wife : Nat) (u_t_images u_t_texts u_t_turns u_t_kinship u_t_censuses u_t_now_tape u_t_now_law u_t_now_people : Value) (s_t_now_wordCount s_t_now_wheel_size : Int32) (r_t_now_words r_t_now_wheel_child r_t_now_wheel_father r_t_now_wheel_husband r_t_now_wheel_wife : jA) (x1 x2 : Int32) {o : Int32} (hf : f_X11_alike s_t_now_wordCount s_t_now_wheel_size r_t_now_words r_t_now_wheel_child r_t_now_wheel_father r_t_now_wheel_husband r_t_now_wheel_wife x1 x2 = some o) : jMi l yX11_alike gX11_alike rX11_alike G D (jT cI cB cZ) [.ref a_t, .int x1, .int x2] (w_X11_alike cI cB cZ a_t a_t_now a_t_now_wheel a_t_now_words a_t_now_wheel_child a_t_now_wheel_father a_t_now_wheel_husband a_t_now_wheel_wife u_t_images u_t_texts u_t_turns u_t_kinship u_t_censuses u_t_now_tape u_t_now_law u_t_now_people s_t_now_wordCount s_t_now_wheel_size r_t_now_words r_t_now_wheel_child r_t_now_wheel_father r_t_now_wheel_husband r_t_now_wheel_wife) (w_X11_alike cI cB cZ a_t a_t_now a_t_now_wheel a_t_now_words a_t_now_wheel_child a_t_now_wheel_father a_t_now_wheel_husband a_t_now_wheel_wife u_t_images u_t_texts u_t_turns u_t_kinship u_t_censuses u_t_now_tape u_t_now_law u_t_now_people s_t_now_wordCount s_t_now_wheel_size r_t_now_words r_t_now_wheel_child r_t_now_wheel_father r_t_now_wheel_husband r_t_now_wheel_wife) o := by
  refine jmk_z RX11 rfl (by decide +kernel) rfl (Nat.le_of_ble_eq_true rfl) rfl ?_
  intro p e s m args below meth c ls A Q C hP hD hS hl K
  exact t_X11_alike G D cI cB cZ a_t a_t_now a_t_now_wheel a_t_now_words a_t_now_wheel_child a_t_now_wheel_father a_t_now_wheel_husband a_t_now_wheel_wife u_t_images u_t_texts u_t_turns u_t_kinship u_t_censuses u_t_now_tape u_t_now_law u_t_now_people s_t_now_wordCount s_t_now_wheel_size r_t_now_words r_t_now_wheel_child r_t_now_wheel_father r_t_now_wheel_husband r_t_now_wheel_wife x1 x2 C hf K hP hD hS hl
abbrev rX11_turnsOf : Room := { frames := 5, cells := 0, slots := 0, locals := 113 }
abbrev gX11_turnsOf : List Cond := wG yX11_turnsOf cX11_turnsOf 1 (some .int)
def w_X11_turnsOf (cI cB cZ : ClassId) (a_t a_t_now a_t_turns a_t_now_wheel a_t_turns_byChild a_t_turns_byFather a_t_turns_byHusband a_t_turns_byWife a_t_turns_searched a_t_turns_slot a_t_turns_turn a_t_now_wheel_child a_t_now_wheel_wife : Nat) (u_t_images u_t_texts u_t_kinship u_t_censuses u_t_now_tape u_t_now_law u_t_now_people u_t_now_words : Value) (u_t_now_wordCount : Int32) (u_t_turns_before u_t_turns_queue u_t_turns_ways u_t_turns_nextWays u_t_now_wheel_husband u_t_now_wheel_father : Value) (s_t_turns_children s_t_turns_count s_t_turns_many s_t_turns_size s_t_turns_wives s_t_now_wheel_size : Int32) (r_t_turns_byChild r_t_turns_byFather r_t_turns_byHusband r_t_turns_byWife r_t_turns_searched r_t_turns_slot r_t_turns_turn r_t_now_wheel_child r_t_now_wheel_wife : jA) : va_W := [(a_t, .inr (10, (oX11 (.ref a_t_now) u_t_images u_t_texts (.ref a_t_turns) u_t_kinship u_t_censuses))), (a_t_now, .inr (5, (oX6 u_t_now_tape (.ref a_t_now_wheel) u_t_now_law u_t_now_people u_t_now_words u_t_now_wordCount))), (a_t_turns, .inr (8, (oX9 s_t_turns_size s_t_turns_wives s_t_turns_children s_t_turns_count s_t_turns_many (.ref a_t_turns_turn) (.ref a_t_turns_slot) (.ref a_t_turns_byWife) (.ref a_t_turns_byChild) (.ref a_t_turns_byHusband) (.ref a_t_turns_byFather) (.ref a_t_turns_searched) u_t_turns_before u_t_turns_queue u_t_turns_ways u_t_turns_nextWays))), (a_t_now_wheel, .inr (9, (oX10 (.ref a_t_now_wheel_wife) (.ref a_t_now_wheel_child) u_t_now_wheel_husband u_t_now_wheel_father s_t_now_wheel_size))), (a_t_turns_byChild, .inl (cI, r_t_turns_byChild.1, .inl r_t_turns_byChild.2)), (a_t_turns_byFather, .inl (cI, r_t_turns_byFather.1, .inl r_t_turns_byFather.2)), (a_t_turns_byHusband, .inl (cI, r_t_turns_byHusband.1, .inl r_t_turns_byHusband.2)), (a_t_turns_byWife, .inl (cI, r_t_turns_byWife.1, .inl r_t_turns_byWife.2)), (a_t_turns_searched, .inl (cZ, r_t_turns_searched.1, .inl r_t_turns_searched.2)), (a_t_turns_slot, .inl (cI, r_t_turns_slot.1, .inl r_t_turns_slot.2)), (a_t_turns_turn, .inl (cI, r_t_turns_turn.1, .inl r_t_turns_turn.2)), (a_t_now_wheel_child, .inl (cI, r_t_now_wheel_child.1, .inl r_t_now_wheel_child.2)), (a_t_now_wheel_wife, .inl (cI, r_t_now_wheel_wife.1, .inl r_t_now_wheel_wife.2))]
def f_X11_turnsOf (s_t_now_wheel_size : Int32) (r_t_now_wheel_child r_t_now_wheel_wife : jA) (s_t_turns_children s_t_turns_count s_t_turns_many s_t_turns_size s_t_turns_wives : Int32) (r_t_turns_byChild r_t_turns_byFather r_t_turns_byHusband r_t_turns_byWife r_t_turns_searched r_t_turns_slot r_t_turns_turn : jA) : Option (Int32 × Int32 × Int32 × Int32 × Int32 × Int32 × jA × jA × jA × jA × jA × jA × jA) :=
  if s_t_now_wheel_size = 0 then
  some ((-1 : Int32), s_t_turns_children, s_t_turns_count, s_t_turns_many, s_t_turns_size, s_t_turns_wives, r_t_turns_byChild, r_t_turns_byFather, r_t_turns_byHusband, r_t_turns_byWife, r_t_turns_searched, r_t_turns_slot, r_t_turns_turn)
  else
  jM (f_X9_countOf s_t_now_wheel_size r_t_now_wheel_child r_t_now_wheel_wife s_t_turns_children s_t_turns_count s_t_turns_many s_t_turns_size s_t_turns_wives r_t_turns_byChild r_t_turns_byFather r_t_turns_byHusband r_t_turns_byWife r_t_turns_searched r_t_turns_slot r_t_turns_turn) fun r2 =>
  some (r2.1, r2.2.1, r2.2.2.1, r2.2.2.2.1, r2.2.2.2.2.1, r2.2.2.2.2.2.1, r2.2.2.2.2.2.2.1, r2.2.2.2.2.2.2.2.1, r2.2.2.2.2.2.2.2.2.1, r2.2.2.2.2.2.2.2.2.2.1, r2.2.2.2.2.2.2.2.2.2.2.1, r2.2.2.2.2.2.2.2.2.2.2.2.1, r2.2.2.2.2.2.2.2.2.2.2.2.2)
set_option maxHeartbeats 4000000 in
set_option maxRecDepth 100000 in
theorem t_X11_turnsOf {p : Program} {l : Launch} {e : Env} {s : State} {m : MethodId} {args : Array Value} {below : List Frame} {meth : Method} {c : Code} {A : Nat → Prop} {Q : State → Prop} (G : jGt) (D : va_G) (cI cB cZ : ClassId) (a_t a_t_now a_t_turns a_t_now_wheel a_t_turns_byChild a_t_turns_byFather a_t_turns_byHusband a_t_turns_byWife a_t_turns_searched a_t_turns_slot a_t_turns_turn a_t_now_wheel_child a_t_now_wheel_wife : Nat) (u_t_images u_t_texts u_t_kinship u_t_censuses u_t_now_tape u_t_now_law u_t_now_people u_t_now_words : Value) (u_t_now_wordCount : Int32) (u_t_turns_before u_t_turns_queue u_t_turns_ways u_t_turns_nextWays u_t_now_wheel_husband u_t_now_wheel_father : Value) (s_t_now_wheel_size : Int32) (r_t_now_wheel_child r_t_now_wheel_wife : jA) (s_t_turns_children s_t_turns_count s_t_turns_many s_t_turns_size s_t_turns_wives : Int32) (r_t_turns_byChild r_t_turns_byFather r_t_turns_byHusband r_t_turns_byWife r_t_turns_searched r_t_turns_slot r_t_turns_turn : jA) (C : jCx p s m args c cX11_turnsOf 1 gX11_turnsOf RX11 G D (jT cI cB cZ) A) {o : Int32 × Int32 × Int32 × Int32 × Int32 × Int32 × jA × jA × jA × jA × jA × jA × jA} (hf : f_X11_turnsOf s_t_now_wheel_size r_t_now_wheel_child r_t_now_wheel_wife s_t_turns_children s_t_turns_count s_t_turns_many s_t_turns_size s_t_turns_wives r_t_turns_byChild r_t_turns_byFather r_t_turns_byHusband r_t_turns_byWife r_t_turns_searched r_t_turns_slot r_t_turns_turn = some o) (K : ∀ (H : Heap) (locs : List Loc) (pc : Nat) (ls : Array Slot), va_P D vwCl (w_X11_turnsOf cI cB cZ a_t a_t_now a_t_turns a_t_now_wheel a_t_turns_byChild a_t_turns_byFather a_t_turns_byHusband a_t_turns_byWife a_t_turns_searched a_t_turns_slot a_t_turns_turn a_t_now_wheel_child a_t_now_wheel_wife u_t_images u_t_texts u_t_kinship u_t_censuses u_t_now_tape u_t_now_law u_t_now_people u_t_now_words u_t_now_wordCount u_t_turns_before u_t_turns_queue u_t_turns_ways u_t_turns_nextWays u_t_now_wheel_husband u_t_now_wheel_father o.2.1 o.2.2.1 o.2.2.2.1 o.2.2.2.2.1 o.2.2.2.2.2.1 s_t_now_wheel_size o.2.2.2.2.2.2.1 o.2.2.2.2.2.2.2.1 o.2.2.2.2.2.2.2.2.1 o.2.2.2.2.2.2.2.2.2.1 o.2.2.2.2.2.2.2.2.2.2.1 o.2.2.2.2.2.2.2.2.2.2.2.1 o.2.2.2.2.2.2.2.2.2.2.2.2 r_t_now_wheel_child r_t_now_wheel_wife) H → va_S A s.heap H locs → decode cX11_turnsOf pc = .ok (.ireturn, 1) → W p l e rX11_turnsOf s m args below meth c H locs 0 0 Q (F0 m pc ls [.int o.1])) {H : Heap} {locs : List Loc} {ls : Array Slot} (hP : va_P D vwCl (w_X11_turnsOf cI cB cZ a_t a_t_now a_t_turns a_t_now_wheel a_t_turns_byChild a_t_turns_byFather a_t_turns_byHusband a_t_turns_byWife a_t_turns_searched a_t_turns_slot a_t_turns_turn a_t_now_wheel_child a_t_now_wheel_wife u_t_images u_t_texts u_t_kinship u_t_censuses u_t_now_tape u_t_now_law u_t_now_people u_t_now_words u_t_now_wordCount u_t_turns_before u_t_turns_queue u_t_turns_ways u_t_turns_nextWays u_t_now_wheel_husband u_t_now_wheel_father s_t_turns_children s_t_turns_count s_t_turns_many s_t_turns_size s_t_turns_wives s_t_now_wheel_size r_t_turns_byChild r_t_turns_byFather r_t_turns_byHusband r_t_turns_byWife r_t_turns_searched r_t_turns_slot r_t_turns_turn r_t_now_wheel_child r_t_now_wheel_wife) H) (hD : va_D A (w_X11_turnsOf cI cB cZ a_t a_t_now a_t_turns a_t_now_wheel a_t_turns_byChild a_t_turns_byFather a_t_turns_byHusband a_t_turns_byWife a_t_turns_searched a_t_turns_slot a_t_turns_turn a_t_now_wheel_child a_t_now_wheel_wife u_t_images u_t_texts u_t_kinship u_t_censuses u_t_now_tape u_t_now_law u_t_now_people u_t_now_words u_t_now_wordCount u_t_turns_before u_t_turns_queue u_t_turns_ways u_t_turns_nextWays u_t_now_wheel_husband u_t_now_wheel_father s_t_turns_children s_t_turns_count s_t_turns_many s_t_turns_size s_t_turns_wives s_t_now_wheel_size r_t_turns_byChild r_t_turns_byFather r_t_turns_byHusband r_t_turns_byWife r_t_turns_searched r_t_turns_slot r_t_turns_turn r_t_now_wheel_child r_t_now_wheel_wife)) (hS : va_S A s.heap H locs) (hl : lv_has ls 1 [(0, .ref a_t)]) : W p l e rX11_turnsOf s m args below meth c H locs 0 0 Q (F0 m 0 ls []) := by
  obtain ⟨⟨hx, hb, hml, hown, hts⟩, hK, hN, hA⟩ := C
  have C : jCx p s m args c cX11_turnsOf 1 gX11_turnsOf RX11 G D (jT cI cB cZ) A := ⟨⟨hx, hb, hml, hown, hts⟩, hK, hN, hA⟩
  unfold f_X11_turnsOf at hf
  refine lv_aload_n hx hb dX11_turnsOf_0 rfl (lv_at hl 0 rfl) ?_
  refine va_get (D := D) (ci := 10) (v := .ref a_t_now) (C := RX11) (T := TX11) (N := 6) hx hb hts iw_X11 hown hK hP 0 rfl rfl 0 (by decide) (hts _ (wG_in k_fl_X11_10 rfl)) (fun _ h9 => h9) rfl dX11_turnsOf_1 ?_
  refine va_get (D := D) (ci := 5) (v := .ref a_t_now_wheel) (C := RX6) (T := TX6) (N := 6) hx hb hts iw_X6 hown hK hP 1 rfl rfl 1 (by decide) (hts _ (wG_in k_fl_X11_65 rfl)) (fun _ h9 => h9) rfl dX11_turnsOf_4 ?_
  refine va_get (D := D) (ci := 9) (v := .int s_t_now_wheel_size) (C := RX10) (T := TX10) (N := 5) hx hb hts iw_X10 hown hK hP 3 rfl rfl 4 (by decide) (hts _ (wG_in k_fl_X11_79 rfl)) (fun _ h9 => h9) rfl dX11_turnsOf_7 ?_
  refine lv_if_ne (tgt := 17) hx hb dX11_turnsOf_10 (by decide) (fun c1 => ?_) (fun c1 => ?_)
  · replace hf := jif_f c1 hf
    refine lv_aload_n hx hb dX11_turnsOf_17 rfl (lv_at hl 0 rfl) ?_
    refine va_get (D := D) (ci := 10) (v := .ref a_t_turns) (C := RX11) (T := TX11) (N := 6) hx hb hts iw_X11 hown hK hP 0 rfl rfl 3 (by decide) (hts _ (wG_in k_fl_X11_30 rfl)) (fun _ h9 => h9) rfl dX11_turnsOf_18 ?_
    refine lv_aload_n hx hb dX11_turnsOf_21 rfl (lv_at hl 0 rfl) ?_
    refine va_get (D := D) (ci := 10) (v := .ref a_t_now) (C := RX11) (T := TX11) (N := 6) hx hb hts iw_X11 hown hK hP 0 rfl rfl 0 (by decide) (hts _ (wG_in k_fl_X11_10 rfl)) (fun _ h9 => h9) rfl dX11_turnsOf_22 ?_
    refine va_get (D := D) (ci := 5) (v := .ref a_t_now_wheel) (C := RX6) (T := TX6) (N := 6) hx hb hts iw_X6 hown hK hP 1 rfl rfl 1 (by decide) (hts _ (wG_in k_fl_X11_65 rfl)) (fun _ h9 => h9) rfl dX11_turnsOf_25 ?_
    obtain ⟨r2, hgr2, hf⟩ := jM_some hf
    refine jcV_i (As := [.ref a_t_now_wheel]) (rest := []) ⟨hx, hb, hml, hown, hts⟩ hK hN hA (c_X9_countOf l G D cI cB cZ a_t_now_wheel a_t_turns a_t_now_wheel_child a_t_now_wheel_wife a_t_turns_byChild a_t_turns_byFather a_t_turns_byHusband a_t_turns_byWife a_t_turns_searched a_t_turns_slot a_t_turns_turn u_t_now_wheel_husband u_t_now_wheel_father u_t_turns_before u_t_turns_queue u_t_turns_ways u_t_turns_nextWays s_t_now_wheel_size r_t_now_wheel_child r_t_now_wheel_wife s_t_turns_children s_t_turns_count s_t_turns_many s_t_turns_size s_t_turns_wives r_t_turns_byChild r_t_turns_byFather r_t_turns_byHusband r_t_turns_byWife r_t_turns_searched r_t_turns_slot r_t_turns_turn hgr2) (cwV 1 hts (wG_V k_ml_X11_134 k_im_X9_countOf k_se_X9_countOf k_in_X9 k_co_X9_countOf) rfl rfl rfl hd_X9_countOf ⟨Nat.le_of_ble_eq_true rfl, Nat.le_of_ble_eq_true rfl⟩) hP hD hS [3, 2, 11, 12, 4, 5, 6, 7, 8, 9, 10] rfl rfl rfl (ci := 8) rfl 2 rfl rfl rfl hl.1 rfl (Nat.le_of_ble_eq_true rfl) dX11_turnsOf_28 ⟨Nat.le_of_ble_eq_true rfl, Nat.le_of_ble_eq_true rfl⟩ (fun H locs hP hD hS => ?_)
    have hP : va_P D vwCl (w_X11_turnsOf cI cB cZ a_t a_t_now a_t_turns a_t_now_wheel a_t_turns_byChild a_t_turns_byFather a_t_turns_byHusband a_t_turns_byWife a_t_turns_searched a_t_turns_slot a_t_turns_turn a_t_now_wheel_child a_t_now_wheel_wife u_t_images u_t_texts u_t_kinship u_t_censuses u_t_now_tape u_t_now_law u_t_now_people u_t_now_words u_t_now_wordCount u_t_turns_before u_t_turns_queue u_t_turns_ways u_t_turns_nextWays u_t_now_wheel_husband u_t_now_wheel_father r2.2.1 r2.2.2.1 r2.2.2.2.1 r2.2.2.2.2.1 r2.2.2.2.2.2.1 s_t_now_wheel_size r2.2.2.2.2.2.2.1 r2.2.2.2.2.2.2.2.1 r2.2.2.2.2.2.2.2.2.1 r2.2.2.2.2.2.2.2.2.2.1 r2.2.2.2.2.2.2.2.2.2.2.1 r2.2.2.2.2.2.2.2.2.2.2.2.1 r2.2.2.2.2.2.2.2.2.2.2.2.2 r_t_now_wheel_child r_t_now_wheel_wife) H := hP
    have hD : va_D A (w_X11_turnsOf cI cB cZ a_t a_t_now a_t_turns a_t_now_wheel a_t_turns_byChild a_t_turns_byFather a_t_turns_byHusband a_t_turns_byWife a_t_turns_searched a_t_turns_slot a_t_turns_turn a_t_now_wheel_child a_t_now_wheel_wife u_t_images u_t_texts u_t_kinship u_t_censuses u_t_now_tape u_t_now_law u_t_now_people u_t_now_words u_t_now_wordCount u_t_turns_before u_t_turns_queue u_t_turns_ways u_t_turns_nextWays u_t_now_wheel_husband u_t_now_wheel_father r2.2.1 r2.2.2.1 r2.2.2.2.1 r2.2.2.2.2.1 r2.2.2.2.2.2.1 s_t_now_wheel_size r2.2.2.2.2.2.2.1 r2.2.2.2.2.2.2.2.1 r2.2.2.2.2.2.2.2.2.1 r2.2.2.2.2.2.2.2.2.2.1 r2.2.2.2.2.2.2.2.2.2.2.1 r2.2.2.2.2.2.2.2.2.2.2.2.1 r2.2.2.2.2.2.2.2.2.2.2.2.2 r_t_now_wheel_child r_t_now_wheel_wife) := hD
    have ho := Option.some.inj hf
    subst ho
    exact K _ _ _ _ hP hS dX11_turnsOf_31
  · replace hf := jif_t c1 hf
    refine lv_iconst (v := (-1 : Int32)) hx hb dX11_turnsOf_13 (by decide) ?_
    refine lv_goto (tgt := 31) hx hb dX11_turnsOf_14 (by decide) ?_
    have ho := Option.some.inj hf
    subst ho
    exact K _ _ _ _ hP hS dX11_turnsOf_31
set_option maxHeartbeats 4000000 in
set_option maxRecDepth 100000 in
theorem c_X11_turnsOf (l : Launch) (G : jGt) (D : va_G) (cI cB cZ : ClassId) (a_t a_t_now a_t_turns a_t_now_wheel a_t_turns_byChild a_t_turns_byFather a_t_turns_byHusband a_t_turns_byWife a_t_turns_searched a_t_turns_slot a_t_turns_turn a_t_now_wheel_child a_t_now_wheel_wife : Nat) (u_t_images u_t_texts u_t_kinship u_t_censuses u_t_now_tape u_t_now_law u_t_now_people u_t_now_words : Value) (u_t_now_wordCount : Int32) (u_t_turns_before u_t_turns_queue u_t_turns_ways u_t_turns_nextWays u_t_now_wheel_husband u_t_now_wheel_father : Value) (s_t_now_wheel_size : Int32) (r_t_now_wheel_child r_t_now_wheel_wife : jA) (s_t_turns_children s_t_turns_count s_t_turns_many s_t_turns_size s_t_turns_wives : Int32) (r_t_turns_byChild r_t_turns_byFather r_t_turns_byHusband r_t_turns_byWife r_t_turns_searched r_t_turns_slot r_t_turns_turn : jA) {o : Int32 × Int32 × Int32 × Int32 × Int32 × Int32 × jA × jA × jA × jA × jA × jA × jA} (hf : f_X11_turnsOf s_t_now_wheel_size r_t_now_wheel_child r_t_now_wheel_wife s_t_turns_children s_t_turns_count s_t_turns_many s_t_turns_size s_t_turns_wives r_t_turns_byChild r_t_turns_byFather r_t_turns_byHusband r_t_turns_byWife r_t_turns_searched r_t_turns_slot r_t_turns_turn = some o) : jMi l yX11_turnsOf gX11_turnsOf rX11_turnsOf G D (jT cI cB cZ) [.ref a_t] (w_X11_turnsOf cI cB cZ a_t a_t_now a_t_turns a_t_now_wheel a_t_turns_byChild a_t_turns_byFather a_t_turns_byHusband a_t_turns_byWife a_t_turns_searched a_t_turns_slot a_t_turns_turn a_t_now_wheel_child a_t_now_wheel_wife u_t_images u_t_texts u_t_kinship u_t_censuses u_t_now_tape u_t_now_law u_t_now_people u_t_now_words u_t_now_wordCount u_t_turns_before u_t_turns_queue u_t_turns_ways u_t_turns_nextWays u_t_now_wheel_husband u_t_now_wheel_father s_t_turns_children s_t_turns_count s_t_turns_many s_t_turns_size s_t_turns_wives s_t_now_wheel_size r_t_turns_byChild r_t_turns_byFather r_t_turns_byHusband r_t_turns_byWife r_t_turns_searched r_t_turns_slot r_t_turns_turn r_t_now_wheel_child r_t_now_wheel_wife) (w_X11_turnsOf cI cB cZ a_t a_t_now a_t_turns a_t_now_wheel a_t_turns_byChild a_t_turns_byFather a_t_turns_byHusband a_t_turns_byWife a_t_turns_searched a_t_turns_slot a_t_turns_turn a_t_now_wheel_child a_t_now_wheel_wife u_t_images u_t_texts u_t_kinship u_t_censuses u_t_now_tape u_t_now_law u_t_now_people u_t_now_words u_t_now_wordCount u_t_turns_before u_t_turns_queue u_t_turns_ways u_t_turns_nextWays u_t_now_wheel_husband u_t_now_wheel_father o.2.1 o.2.2.1 o.2.2.2.1 o.2.2.2.2.1 o.2.2.2.2.2.1 s_t_now_wheel_size o.2.2.2.2.2.2.1 o.2.2.2.2.2.2.2.1 o.2.2.2.2.2.2.2.2.1 o.2.2.2.2.2.2.2.2.2.1 o.2.2.2.2.2.2.2.2.2.2.1 o.2.2.2.2.2.2.2.2.2.2.2.1 o.2.2.2.2.2.2.2.2.2.2.2.2 r_t_now_wheel_child r_t_now_wheel_wife) o.1 := by
  refine jmk_i RX11 rfl (by decide +kernel) rfl (Nat.le_of_ble_eq_true rfl) rfl ?_
  intro p e s m args below meth c ls A Q C hP hD hS hl K
  exact t_X11_turnsOf G D cI cB cZ a_t a_t_now a_t_turns a_t_now_wheel a_t_turns_byChild a_t_turns_byFather a_t_turns_byHusband a_t_turns_byWife a_t_turns_searched a_t_turns_slot a_t_turns_turn a_t_now_wheel_child a_t_now_wheel_wife u_t_images u_t_texts u_t_kinship u_t_censuses u_t_now_tape u_t_now_law u_t_now_people u_t_now_words u_t_now_wordCount u_t_turns_before u_t_turns_queue u_t_turns_ways u_t_turns_nextWays u_t_now_wheel_husband u_t_now_wheel_father s_t_now_wheel_size r_t_now_wheel_child r_t_now_wheel_wife s_t_turns_children s_t_turns_count s_t_turns_many s_t_turns_size s_t_turns_wives r_t_turns_byChild r_t_turns_byFather r_t_turns_byHusband r_t_turns_byWife r_t_turns_searched r_t_turns_slot r_t_turns_turn C hf K hP hD hS hl

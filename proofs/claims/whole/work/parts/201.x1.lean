abbrev rJ7_fill_53178 : Room := { frames := 0, cells := 0, slots := 0, locals := 0 }
abbrev gJ7_fill_53178 : List Cond := wG yJ7_fill_53178 cJ7_fill_53178 4 none
def w_J7_fill_53178 (cI cB cZ : ClassId) (a_p0 : Nat) (r_p0 : jA) : va_W := [(a_p0, .inl (cI, r_p0.1, .inl r_p0.2))]
def f_J7_fill_53178_b5 (r_p0 : jA) (x1 x2 x3 : Int32) : Option ((jA × Int32) ⊕ ((jA))) :=
  if x3 ≤ x2 then
  some (Sum.inr r_p0)
  else
  jS r_p0 x2 x1 fun q3 =>
  some (Sum.inl (q3, (x2 + 1)))
set_option maxHeartbeats 4000000 in
set_option maxRecDepth 100000 in
theorem t_J7_fill_53178_b5 {p : Program} {l : Launch} {e : Env} {s : State} {m : MethodId} {args : Array Value} {below : List Frame} {meth : Method} {c : Code} {A : Nat → Prop} {Q : State → Prop} (G : jGt) (D : va_G) (cI cB cZ : ClassId) (a_p0 : Nat) (r_p0 : jA) (x1 x2 x3 : Int32) (C : jCx p s m args c cJ7_fill_53178 4 gJ7_fill_53178 RJ7 G D (jT cI cB cZ) A) {o : (jA × Int32) ⊕ ((jA))} (hf : f_J7_fill_53178_b5 r_p0 x1 x2 x3 = some o) (K : (∀ z, o = Sum.inl z → ∀ (H : Heap) (locs : List Loc) (ls : Array Slot), va_P D vwCl (w_J7_fill_53178 cI cB cZ a_p0 z.1) H → va_D A (w_J7_fill_53178 cI cB cZ a_p0 z.1) → va_S A s.heap H locs → lv_has ls 4 [(0, .ref a_p0), (1, .int x1), (2, .int z.2), (3, .int x3)] → W p l e rJ7_fill_53178 s m args below meth c H locs 0 0 Q (F0 m 5 ls [])) ∧ (∀ z, o = Sum.inr z → ∀ (H : Heap) (locs : List Loc) (ls : Array Slot), va_P D vwCl (w_J7_fill_53178 cI cB cZ a_p0 z) H → va_D A (w_J7_fill_53178 cI cB cZ a_p0 z) → va_S A s.heap H locs → lv_has ls 4 [] → W p l e rJ7_fill_53178 s m args below meth c H locs 0 0 Q (F0 m 20 ls []))) {H : Heap} {locs : List Loc} {ls : Array Slot} (hP : va_P D vwCl (w_J7_fill_53178 cI cB cZ a_p0 r_p0) H) (hD : va_D A (w_J7_fill_53178 cI cB cZ a_p0 r_p0)) (hS : va_S A s.heap H locs) (hl : lv_has ls 4 [(0, .ref a_p0), (1, .int x1), (2, .int x2), (3, .int x3)]) : W p l e rJ7_fill_53178 s m args below meth c H locs 0 0 Q (F0 m 5 ls []) := by
  obtain ⟨⟨hx, hb, hml, hown, hts⟩, hK, hN, hA⟩ := C
  have C : jCx p s m args c cJ7_fill_53178 4 gJ7_fill_53178 RJ7 G D (jT cI cB cZ) A := ⟨⟨hx, hb, hml, hown, hts⟩, hK, hN, hA⟩
  unfold f_J7_fill_53178_b5 at hf
  refine lv_iload_n hx hb dJ7_fill_53178_5 rfl (lv_at hl 2 rfl) ?_
  refine lv_iload_n hx hb dJ7_fill_53178_6 rfl (lv_at hl 3 rfl) ?_
  refine lv_icmp_ge (tgt := 20) hx hb dJ7_fill_53178_7 (by decide) (fun c2 => ?_) (fun c2 => ?_)
  · replace hf := jif_t c2 hf
    have ho := Option.some.inj hf
    exact (K.2 _ ho.symm) _ _ _ hP hD hS (lv_sub hl [] rfl)
  · replace hf := jif_f c2 hf
    refine lv_aload_n hx hb dJ7_fill_53178_10 rfl (lv_at hl 0 rfl) ?_
    refine lv_iload_n hx hb dJ7_fill_53178_11 rfl (lv_at hl 2 rfl) ?_
    refine lv_iload_n hx hb dJ7_fill_53178_12 rfl (lv_at hl 1 rfl) ?_
    obtain ⟨q3, hq3, iq3, hf⟩ := jS_some hf
    refine ja_iast (P := r_p0) (P' := q3) hx hb hK hP hD hS 0 0 rfl rfl hq3 iq3 dJ7_fill_53178_13 (fun H locs hP hD hS => ?_)
    have hP : va_P D vwCl (w_J7_fill_53178 cI cB cZ a_p0 q3) H := hP
    have hD : va_D A (w_J7_fill_53178 cI cB cZ a_p0 q3) := hD
    refine lv_iinc (v := (x2 + 1)) (lv' := [(2, .int (x2 + 1)), (0, .ref a_p0), (1, .int x1), (3, .int x3)]) hx hb dJ7_fill_53178_14 hl (k := 2) rfl (by first | rfl | decide) (by decide) rfl (fun ls hl => ?_)
    refine lv_goto (tgt := 5) hx hb dJ7_fill_53178_17 (by decide) ?_
    have ho := Option.some.inj hf
    exact K.1 _ ho.symm _ _ _ hP hD hS (lv_sub hl [1, 2, 0, 3] rfl)
def f_J7_fill_53178_l5 (x1 x3 : Int32) (r_p0 : jA) (x2 : Int32) : Option ((jA)) :=
  jI (fun z => f_J7_fill_53178_b5 z.1 x1 z.2 x3) jF (r_p0, x2)
set_option maxHeartbeats 4000000 in
set_option maxRecDepth 100000 in
theorem t_J7_fill_53178_l5 {p : Program} {l : Launch} {e : Env} {s : State} {m : MethodId} {args : Array Value} {below : List Frame} {meth : Method} {c : Code} {A : Nat → Prop} {Q : State → Prop} (G : jGt) (D : va_G) (cI cB cZ : ClassId) (a_p0 : Nat) (x1 x3 : Int32) (C : jCx p s m args c cJ7_fill_53178 4 gJ7_fill_53178 RJ7 G D (jT cI cB cZ) A) : ∀ (n : Nat) (r_p0 : jA) (x2 : Int32) {eo : (jA)}, jI (fun z => f_J7_fill_53178_b5 z.1 x1 z.2 x3) n (r_p0, x2) = some eo → (∀ (H : Heap) (locs : List Loc) (ls : Array Slot), va_P D vwCl (w_J7_fill_53178 cI cB cZ a_p0 eo) H → va_D A (w_J7_fill_53178 cI cB cZ a_p0 eo) → va_S A s.heap H locs → lv_has ls 4 [] → W p l e rJ7_fill_53178 s m args below meth c H locs 0 0 Q (F0 m 20 ls [])) → ∀ (H : Heap) (locs : List Loc) (ls : Array Slot), va_P D vwCl (w_J7_fill_53178 cI cB cZ a_p0 r_p0) H → va_D A (w_J7_fill_53178 cI cB cZ a_p0 r_p0) → va_S A s.heap H locs → lv_has ls 4 [(0, .ref a_p0), (1, .int x1), (2, .int x2), (3, .int x3)] → W p l e rJ7_fill_53178 s m args below meth c H locs 0 0 Q (F0 m 5 ls []) := by
  intro n
  induction n with
  | zero =>
    intro r_p0 x2 eo hf
    exact (jI_zero hf).elim
  | succ n ih =>
    intro r_p0 x2 eo hf K H locs ls hP hD hS hl
    obtain ⟨o, hb1, ho⟩ := jI_some hf
    rcases ho with ⟨z, rfl, hf2⟩ | rfl
    · exact t_J7_fill_53178_b5 G D cI cB cZ a_p0 r_p0 x1 x2 x3 C hb1 ⟨fun z2 hz H locs ls hP hD hS hl => by cases hz; exact ih z.1 z.2 hf2 K H locs ls hP hD hS hl, fun z2 hz => by cases hz⟩ hP hD hS hl
    · exact t_J7_fill_53178_b5 G D cI cB cZ a_p0 r_p0 x1 x2 x3 C hb1 ⟨fun z2 hz => (by cases hz), fun z2 hz => by cases hz; exact K⟩ hP hD hS hl
def f_J7_fill_53178 (r_p0 : jA) (x1 : Int32) : Option (jA) :=
  jV (Int32.ofNat r_p0.1) fun v1 =>
  jM (f_J7_fill_53178_l5 x1 v1 r_p0 (0 : Int32)) fun e4 =>
  some e4
set_option maxHeartbeats 4000000 in
set_option maxRecDepth 100000 in
theorem t_J7_fill_53178 {p : Program} {l : Launch} {e : Env} {s : State} {m : MethodId} {args : Array Value} {below : List Frame} {meth : Method} {c : Code} {A : Nat → Prop} {Q : State → Prop} (G : jGt) (D : va_G) (cI cB cZ : ClassId) (a_p0 : Nat) (r_p0 : jA) (x1 : Int32) (C : jCx p s m args c cJ7_fill_53178 4 gJ7_fill_53178 RJ7 G D (jT cI cB cZ) A) {o : jA} (hf : f_J7_fill_53178 r_p0 x1 = some o) (K : ∀ (H : Heap) (locs : List Loc) (pc : Nat) (ls : Array Slot), va_P D vwCl (w_J7_fill_53178 cI cB cZ a_p0 o) H → va_S A s.heap H locs → decode cJ7_fill_53178 pc = .ok (.return_, 1) → W p l e rJ7_fill_53178 s m args below meth c H locs 0 0 Q (F0 m pc ls [])) {H : Heap} {locs : List Loc} {ls : Array Slot} (hP : va_P D vwCl (w_J7_fill_53178 cI cB cZ a_p0 r_p0) H) (hD : va_D A (w_J7_fill_53178 cI cB cZ a_p0 r_p0)) (hS : va_S A s.heap H locs) (hl : lv_has ls 4 [(0, .ref a_p0), (1, .int x1)]) : W p l e rJ7_fill_53178 s m args below meth c H locs 0 0 Q (F0 m 0 ls []) := by
  obtain ⟨⟨hx, hb, hml, hown, hts⟩, hK, hN, hA⟩ := C
  have C : jCx p s m args c cJ7_fill_53178 4 gJ7_fill_53178 RJ7 G D (jT cI cB cZ) A := ⟨⟨hx, hb, hml, hown, hts⟩, hK, hN, hA⟩
  unfold f_J7_fill_53178 at hf
  refine lv_iconst (v := (0 : Int32)) hx hb dJ7_fill_53178_0 (by decide) ?_
  refine lv_istore_n (lv' := [(2, .int (0 : Int32)), (0, .ref a_p0), (1, .int x1)]) hx hb dJ7_fill_53178_1 rfl hl (by decide) rfl (fun ls hl => ?_)
  refine lv_aload_n hx hb dJ7_fill_53178_2 rfl (lv_at hl 1 rfl) ?_
  refine va_alen (x := (r_p0.1, .inl r_p0.2)) hx hb hK hP 0 0 rfl rfl rfl dJ7_fill_53178_3 ?_
  obtain ⟨v1, hv1, hf⟩ := jV_some hf
  refine jtop hv1 ?_
  refine lv_istore_n (lv' := [(3, .int v1), (2, .int (0 : Int32)), (0, .ref a_p0), (1, .int x1)]) hx hb dJ7_fill_53178_4 rfl hl (by decide) rfl (fun ls hl => ?_)
  obtain ⟨e4, hg4, hf⟩ := jM_some hf
  refine t_J7_fill_53178_l5 G D cI cB cZ a_p0 x1 v1 C jF r_p0 (0 : Int32) hg4 ?_ _ _ _ hP hD hS (lv_sub hl [2, 3, 1, 0] rfl)
  intro H locs ls hP hD hS hl
  have ho := Option.some.inj hf
  subst ho
  exact K _ _ _ _ hP hS dJ7_fill_53178_20
set_option maxHeartbeats 4000000 in
set_option maxRecDepth 100000 in
theorem c_J7_fill_53178 (l : Launch) (G : jGt) (D : va_G) (cI cB cZ : ClassId) (a_p0 : Nat) (r_p0 : jA) (x1 : Int32) {o : jA} (hf : f_J7_fill_53178 r_p0 x1 = some o) : jMv l yJ7_fill_53178 gJ7_fill_53178 rJ7_fill_53178 G D (jT cI cB cZ) [.ref a_p0, .int x1] (w_J7_fill_53178 cI cB cZ a_p0 r_p0) (w_J7_fill_53178 cI cB cZ a_p0 o) := by
  refine jmk_v RJ7 rfl (by decide +kernel) rfl (Nat.le_of_ble_eq_true rfl) rfl ?_
  intro p e s m args below meth c ls A Q C hP hD hS hl K
  exact t_J7_fill_53178 G D cI cB cZ a_p0 r_p0 x1 C hf K hP hD hS hl
abbrev rX10_clear : Room := { frames := 1, cells := 0, slots := 0, locals := 23 }
abbrev gX10_clear : List Cond := wG yX10_clear cX10_clear 2 none
def w_X10_clear (cI cB cZ : ClassId) (a_t a_t_child a_t_wife : Nat) (u_t_husband u_t_father : Value) (s_t_size : Int32) (r_t_child r_t_wife : jA) : va_W := [(a_t, .inr (9, (oX10 (.ref a_t_wife) (.ref a_t_child) u_t_husband u_t_father s_t_size))), (a_t_child, .inl (cI, r_t_child.1, .inl r_t_child.2)), (a_t_wife, .inl (cI, r_t_wife.1, .inl r_t_wife.2))]
def f_X10_clear (s_t_size : Int32) (r_t_child r_t_wife : jA) (x1 : Int32) : Option (Int32 × jA × jA) :=
  jM (f_J7_fill_53178 r_t_wife (-1 : Int32)) fun r1 =>
  jM (f_J7_fill_53178 r_t_child (-1 : Int32)) fun r2 =>
  some (x1, r2, r1)
set_option maxHeartbeats 4000000 in
set_option maxRecDepth 100000 in
theorem t_X10_clear {p : Program} {l : Launch} {e : Env} {s : State} {m : MethodId} {args : Array Value} {below : List Frame} {meth : Method} {c : Code} {A : Nat → Prop} {Q : State → Prop} (G : jGt) (D : va_G) (cI cB cZ : ClassId) (a_t a_t_child a_t_wife : Nat) (u_t_husband u_t_father : Value) (s_t_size : Int32) (r_t_child r_t_wife : jA) (x1 : Int32) (C : jCx p s m args c cX10_clear 2 gX10_clear RX10 G D (jT cI cB cZ) A) {o : Int32 × jA × jA} (hf : f_X10_clear s_t_size r_t_child r_t_wife x1 = some o) (K : ∀ (H : Heap) (locs : List Loc) (pc : Nat) (ls : Array Slot), va_P D vwCl (w_X10_clear cI cB cZ a_t a_t_child a_t_wife u_t_husband u_t_father o.1 o.2.1 o.2.2) H → va_S A s.heap H locs → decode cX10_clear pc = .ok (.return_, 1) → W p l e rX10_clear s m args below meth c H locs 0 0 Q (F0 m pc ls [])) {H : Heap} {locs : List Loc} {ls : Array Slot} (hP : va_P D vwCl (w_X10_clear cI cB cZ a_t a_t_child a_t_wife u_t_husband u_t_father s_t_size r_t_child r_t_wife) H) (hD : va_D A (w_X10_clear cI cB cZ a_t a_t_child a_t_wife u_t_husband u_t_father s_t_size r_t_child r_t_wife)) (hS : va_S A s.heap H locs) (hl : lv_has ls 2 [(0, .ref a_t), (1, .int x1)]) : W p l e rX10_clear s m args below meth c H locs 0 0 Q (F0 m 0 ls []) := by
  obtain ⟨⟨hx, hb, hml, hown, hts⟩, hK, hN, hA⟩ := C
  have C : jCx p s m args c cX10_clear 2 gX10_clear RX10 G D (jT cI cB cZ) A := ⟨⟨hx, hb, hml, hown, hts⟩, hK, hN, hA⟩
  unfold f_X10_clear at hf
  refine lv_aload_n hx hb dX10_clear_0 rfl (lv_at hl 0 rfl) ?_
  refine lv_iload_n hx hb dX10_clear_1 rfl (lv_at hl 1 rfl) ?_
  refine va_put (D := D) (ci := 9) (v := .int x1) (ty := .int) (C := RX10) (T := TX10) (N := 5) hx hb hts iw_X10 tyX10 tyX10_ok nmX10 hown hK hP hD hS 0 rfl rfl 4 (by decide) (hts _ (wG_in k_fl_X10_30 rfl)) (fun _ h9 => h9) rfl (tyX10_ok 4 (by decide)) rfl rfl (Nat.le_of_ble_eq_true rfl) dX10_clear_2 (fun H locs hP hD hS => ?_)
  have hP : va_P D vwCl (w_X10_clear cI cB cZ a_t a_t_child a_t_wife u_t_husband u_t_father x1 r_t_child r_t_wife) H := hP
  have hD : va_D A (w_X10_clear cI cB cZ a_t a_t_child a_t_wife u_t_husband u_t_father x1 r_t_child r_t_wife) := hD
  refine lv_aload_n hx hb dX10_clear_5 rfl (lv_at hl 0 rfl) ?_
  refine va_get (D := D) (ci := 9) (v := .ref a_t_wife) (C := RX10) (T := TX10) (N := 5) hx hb hts iw_X10 hown hK hP 0 rfl rfl 0 (by decide) (hts _ (wG_in k_fl_X10_9 rfl)) (fun _ h9 => h9) rfl dX10_clear_6 ?_
  refine lv_iconst (v := (-1 : Int32)) hx hb dX10_clear_9 (by decide) ?_
  obtain ⟨r1, hgr1, hf⟩ := jM_some hf
  refine jcS_v (As := [.ref a_t_wife, .int (-1 : Int32)]) (rest := []) ⟨hx, hb, hml, hown, hts⟩ hK hN hA (c_J7_fill_53178 l G D cI cB cZ a_t_wife r_t_wife (-1 : Int32) hgr1) (va_cwS 2 hts (wG_S k_ml_X10_34 k_st_J7_fill_53178 k_in_J7 k_co_J7_fill_53178) rfl rfl rfl hd_J7_fill_53178.2 ⟨Nat.le_of_ble_eq_true rfl, Nat.le_of_ble_eq_true rfl⟩) hP hD hS [2] rfl rfl rfl rfl hl.1 rfl (Nat.le_of_ble_eq_true rfl) dX10_clear_10 ⟨Nat.le_of_ble_eq_true rfl, Nat.le_of_ble_eq_true rfl⟩ (fun H locs hP hD hS => ?_)
  have hP : va_P D vwCl (w_X10_clear cI cB cZ a_t a_t_child a_t_wife u_t_husband u_t_father x1 r_t_child r1) H := hP
  have hD : va_D A (w_X10_clear cI cB cZ a_t a_t_child a_t_wife u_t_husband u_t_father x1 r_t_child r1) := hD
  refine lv_aload_n hx hb dX10_clear_13 rfl (lv_at hl 0 rfl) ?_
  refine va_get (D := D) (ci := 9) (v := .ref a_t_child) (C := RX10) (T := TX10) (N := 5) hx hb hts iw_X10 hown hK hP 0 rfl rfl 1 (by decide) (hts _ (wG_in k_fl_X10_15 rfl)) (fun _ h9 => h9) rfl dX10_clear_14 ?_
  refine lv_iconst (v := (-1 : Int32)) hx hb dX10_clear_17 (by decide) ?_
  obtain ⟨r2, hgr2, hf⟩ := jM_some hf
  refine jcS_v (As := [.ref a_t_child, .int (-1 : Int32)]) (rest := []) ⟨hx, hb, hml, hown, hts⟩ hK hN hA (c_J7_fill_53178 l G D cI cB cZ a_t_child r_t_child (-1 : Int32) hgr2) (va_cwS 2 hts (wG_S k_ml_X10_34 k_st_J7_fill_53178 k_in_J7 k_co_J7_fill_53178) rfl rfl rfl hd_J7_fill_53178.2 ⟨Nat.le_of_ble_eq_true rfl, Nat.le_of_ble_eq_true rfl⟩) hP hD hS [1] rfl rfl rfl rfl hl.1 rfl (Nat.le_of_ble_eq_true rfl) dX10_clear_18 ⟨Nat.le_of_ble_eq_true rfl, Nat.le_of_ble_eq_true rfl⟩ (fun H locs hP hD hS => ?_)
  have hP : va_P D vwCl (w_X10_clear cI cB cZ a_t a_t_child a_t_wife u_t_husband u_t_father x1 r2 r1) H := hP
  have hD : va_D A (w_X10_clear cI cB cZ a_t a_t_child a_t_wife u_t_husband u_t_father x1 r2 r1) := hD
  have ho := Option.some.inj hf
  subst ho
  exact K _ _ _ _ hP hS dX10_clear_21
set_option maxHeartbeats 4000000 in
set_option maxRecDepth 100000 in
theorem c_X10_clear (l : Launch) (G : jGt) (D : va_G) (cI cB cZ : ClassId) (a_t a_t_child a_t_wife : Nat) (u_t_husband u_t_father : Value) (s_t_size : Int32) (r_t_child r_t_wife : jA) (x1 : Int32) {o : Int32 × jA × jA} (hf : f_X10_clear s_t_size r_t_child r_t_wife x1 = some o) : jMv l yX10_clear gX10_clear rX10_clear G D (jT cI cB cZ) [.ref a_t, .int x1] (w_X10_clear cI cB cZ a_t a_t_child a_t_wife u_t_husband u_t_father s_t_size r_t_child r_t_wife) (w_X10_clear cI cB cZ a_t a_t_child a_t_wife u_t_husband u_t_father o.1 o.2.1 o.2.2) := by
  refine jmk_v RX10 rfl (by decide +kernel) rfl (Nat.le_of_ble_eq_true rfl) rfl ?_
  intro p e s m args below meth c ls A Q C hP hD hS hl K
  exact t_X10_clear G D cI cB cZ a_t a_t_child a_t_wife u_t_husband u_t_father s_t_size r_t_child r_t_wife x1 C hf K hP hD hS hl
abbrev rX11_set : Room := { frames := 0, cells := 0, slots := 0, locals := 0 }
abbrev gX11_set : List Cond := wG yX11_set cX11_set 3 none
def w_X11_set (cI cB cZ : ClassId) (a_p0 : Nat) (r_p0 : jA) : va_W := [(a_p0, .inl (cI, r_p0.1, .inl r_p0.2))]
def f_X11_set (r_p0 : jA) (x1 x2 : Int32) : Option (jA) :=
  if x1 < 0 then
  some r_p0
  else
  if (Int32.ofNat r_p0.1) ≤ x1 then
  some r_p0
  else
  jS r_p0 x1 x2 fun q3 =>
  some q3
set_option maxHeartbeats 4000000 in
set_option maxRecDepth 100000 in
theorem t_X11_set {p : Program} {l : Launch} {e : Env} {s : State} {m : MethodId} {args : Array Value} {below : List Frame} {meth : Method} {c : Code} {A : Nat → Prop} {Q : State → Prop} (G : jGt) (D : va_G) (cI cB cZ : ClassId) (a_p0 : Nat) (r_p0 : jA) (x1 x2 : Int32) (C : jCx p s m args c cX11_set 3 gX11_set RX11 G D (jT cI cB cZ) A) {o : jA} (hf : f_X11_set r_p0 x1 x2 = some o) (K : ∀ (H : Heap) (locs : List Loc) (pc : Nat) (ls : Array Slot), va_P D vwCl (w_X11_set cI cB cZ a_p0 o) H → va_S A s.heap H locs → decode cX11_set pc = .ok (.return_, 1) → W p l e rX11_set s m args below meth c H locs 0 0 Q (F0 m pc ls [])) {H : Heap} {locs : List Loc} {ls : Array Slot} (hP : va_P D vwCl (w_X11_set cI cB cZ a_p0 r_p0) H) (hD : va_D A (w_X11_set cI cB cZ a_p0 r_p0)) (hS : va_S A s.heap H locs) (hl : lv_has ls 3 [(0, .ref a_p0), (1, .int x1), (2, .int x2)]) : W p l e rX11_set s m args below meth c H locs 0 0 Q (F0 m 0 ls []) := by
  obtain ⟨⟨hx, hb, hml, hown, hts⟩, hK, hN, hA⟩ := C
  have C : jCx p s m args c cX11_set 3 gX11_set RX11 G D (jT cI cB cZ) A := ⟨⟨hx, hb, hml, hown, hts⟩, hK, hN, hA⟩
  unfold f_X11_set at hf
  refine lv_iload_n hx hb dX11_set_0 rfl (lv_at hl 1 rfl) ?_
  refine lv_if_lt (tgt := 14) hx hb dX11_set_1 (by decide) (fun c1 => ?_) (fun c1 => ?_)
  · replace hf := jif_t c1 hf
    have ho := Option.some.inj hf
    subst ho
    exact K _ _ _ _ hP hS dX11_set_14
  · replace hf := jif_f c1 hf
    refine lv_iload_n hx hb dX11_set_4 rfl (lv_at hl 1 rfl) ?_
    refine lv_aload_n hx hb dX11_set_5 rfl (lv_at hl 0 rfl) ?_
    refine va_alen (x := (r_p0.1, .inl r_p0.2)) hx hb hK hP 0 0 rfl rfl rfl dX11_set_6 ?_
    refine lv_icmp_ge (tgt := 14) hx hb dX11_set_7 (by decide) (fun c2 => ?_) (fun c2 => ?_)
    · replace hf := jif_t c2 hf
      have ho := Option.some.inj hf
      subst ho
      exact K _ _ _ _ hP hS dX11_set_14
    · replace hf := jif_f c2 hf
      refine lv_aload_n hx hb dX11_set_10 rfl (lv_at hl 0 rfl) ?_
      refine lv_iload_n hx hb dX11_set_11 rfl (lv_at hl 1 rfl) ?_
      refine lv_iload_n hx hb dX11_set_12 rfl (lv_at hl 2 rfl) ?_
      obtain ⟨q3, hq3, iq3, hf⟩ := jS_some hf
      refine ja_iast (P := r_p0) (P' := q3) hx hb hK hP hD hS 0 0 rfl rfl hq3 iq3 dX11_set_13 (fun H locs hP hD hS => ?_)
      have hP : va_P D vwCl (w_X11_set cI cB cZ a_p0 q3) H := hP
      have hD : va_D A (w_X11_set cI cB cZ a_p0 q3) := hD
      have ho := Option.some.inj hf
      subst ho
      exact K _ _ _ _ hP hS dX11_set_14
set_option maxHeartbeats 4000000 in
set_option maxRecDepth 100000 in
theorem c_X11_set (l : Launch) (G : jGt) (D : va_G) (cI cB cZ : ClassId) (a_p0 : Nat) (r_p0 : jA) (x1 x2 : Int32) {o : jA} (hf : f_X11_set r_p0 x1 x2 = some o) : jMv l yX11_set gX11_set rX11_set G D (jT cI cB cZ) [.ref a_p0, .int x1, .int x2] (w_X11_set cI cB cZ a_p0 r_p0) (w_X11_set cI cB cZ a_p0 o) := by
  refine jmk_v RX11 rfl (by decide +kernel) rfl (Nat.le_of_ble_eq_true rfl) rfl ?_
  intro p e s m args below meth c ls A Q C hP hD hS hl K
  exact t_X11_set G D cI cB cZ a_p0 r_p0 x1 x2 C hf K hP hD hS hl
abbrev rX10_tie : Room := { frames := 1, cells := 0, slots := 0, locals := 22 }
abbrev gX10_tie : List Cond := wG yX10_tie cX10_tie 4 none
def w_X10_tie (cI cB cZ : ClassId) (a_t a_t_child a_t_wife : Nat) (u_t_husband u_t_father : Value) (u_t_size : Int32) (r_t_child r_t_wife : jA) : va_W := [(a_t, .inr (9, (oX10 (.ref a_t_wife) (.ref a_t_child) u_t_husband u_t_father u_t_size))), (a_t_child, .inl (cI, r_t_child.1, .inl r_t_child.2)), (a_t_wife, .inl (cI, r_t_wife.1, .inl r_t_wife.2))]
def f_X10_tie_j15 (r_t_child r_t_wife : jA) (x2 x3 : Int32) : Option (jA × jA) :=
  jM (f_X11_set r_t_child x2 x3) fun r2 =>
  some (r2, r_t_wife)
set_option maxHeartbeats 4000000 in
set_option maxRecDepth 100000 in
theorem t_X10_tie_j15 {p : Program} {l : Launch} {e : Env} {s : State} {m : MethodId} {args : Array Value} {below : List Frame} {meth : Method} {c : Code} {A : Nat → Prop} {Q : State → Prop} (G : jGt) (D : va_G) (cI cB cZ : ClassId) (a_t a_t_child a_t_wife : Nat) (u_t_husband u_t_father : Value) (u_t_size : Int32) (r_t_child r_t_wife : jA) (x2 x3 : Int32) (C : jCx p s m args c cX10_tie 4 gX10_tie RX10 G D (jT cI cB cZ) A) {o : jA × jA} (hf : f_X10_tie_j15 r_t_child r_t_wife x2 x3 = some o) (K : ∀ (H : Heap) (locs : List Loc) (pc : Nat) (ls : Array Slot), va_P D vwCl (w_X10_tie cI cB cZ a_t a_t_child a_t_wife u_t_husband u_t_father u_t_size o.1 o.2) H → va_S A s.heap H locs → decode cX10_tie pc = .ok (.return_, 1) → W p l e rX10_tie s m args below meth c H locs 0 0 Q (F0 m pc ls [])) {H : Heap} {locs : List Loc} {ls : Array Slot} (hP : va_P D vwCl (w_X10_tie cI cB cZ a_t a_t_child a_t_wife u_t_husband u_t_father u_t_size r_t_child r_t_wife) H) (hD : va_D A (w_X10_tie cI cB cZ a_t a_t_child a_t_wife u_t_husband u_t_father u_t_size r_t_child r_t_wife)) (hS : va_S A s.heap H locs) (hl : lv_has ls 4 [(2, .int x2), (3, .int x3)]) : W p l e rX10_tie s m args below meth c H locs 0 0 Q (F0 m 15 ls [.ref a_t_child]) := by
  obtain ⟨⟨hx, hb, hml, hown, hts⟩, hK, hN, hA⟩ := C
  have C : jCx p s m args c cX10_tie 4 gX10_tie RX10 G D (jT cI cB cZ) A := ⟨⟨hx, hb, hml, hown, hts⟩, hK, hN, hA⟩
  unfold f_X10_tie_j15 at hf
  refine lv_iload_n hx hb dX10_tie_15 rfl (lv_at hl 0 rfl) ?_
  refine lv_iload_n hx hb dX10_tie_16 rfl (lv_at hl 1 rfl) ?_
  obtain ⟨r2, hgr2, hf⟩ := jM_some hf
  refine jcN_v (As := [.ref a_t_child, .int x2, .int x3]) (rest := []) ⟨hx, hb, hml, hown, hts⟩ hK hN hA (c_X11_set l G D cI cB cZ a_t_child r_t_child x2 x3 hgr2) ⟨va_cnB 3 hts (wG_good k_co_X11_set) rfl rfl rfl (jN_l nl_X10_44 hN) (hts _ (wG_in k_in_X11 rfl)) hd_X11_set.2 ⟨Nat.le_of_ble_eq_true rfl, Nat.le_of_ble_eq_true rfl⟩, hts _ (wG_in k_st_X11_set rfl), trivial⟩ hP hD hS [1] rfl rfl rfl rfl hl.1 rfl (Nat.le_of_ble_eq_true rfl) dX10_tie_17 ⟨Nat.le_of_ble_eq_true rfl, Nat.le_of_ble_eq_true rfl⟩ (fun H locs hP hD hS => ?_)
  have hP : va_P D vwCl (w_X10_tie cI cB cZ a_t a_t_child a_t_wife u_t_husband u_t_father u_t_size r2 r_t_wife) H := hP
  have hD : va_D A (w_X10_tie cI cB cZ a_t a_t_child a_t_wife u_t_husband u_t_father u_t_size r2 r_t_wife) := hD
  have ho := Option.some.inj hf
  subst ho
  exact K _ _ _ _ hP hS dX10_tie_20
def f_X10_tie_j15b (r_t_child r_t_wife : jA) (x2 x3 : Int32) : Option (jA × jA) :=
  jM (f_X11_set r_t_wife x2 x3) fun r3 =>
  some (r_t_child, r3)
set_option maxHeartbeats 4000000 in
set_option maxRecDepth 100000 in
theorem t_X10_tie_j15b {p : Program} {l : Launch} {e : Env} {s : State} {m : MethodId} {args : Array Value} {below : List Frame} {meth : Method} {c : Code} {A : Nat → Prop} {Q : State → Prop} (G : jGt) (D : va_G) (cI cB cZ : ClassId) (a_t a_t_child a_t_wife : Nat) (u_t_husband u_t_father : Value) (u_t_size : Int32) (r_t_child r_t_wife : jA) (x2 x3 : Int32) (C : jCx p s m args c cX10_tie 4 gX10_tie RX10 G D (jT cI cB cZ) A) {o : jA × jA} (hf : f_X10_tie_j15b r_t_child r_t_wife x2 x3 = some o) (K : ∀ (H : Heap) (locs : List Loc) (pc : Nat) (ls : Array Slot), va_P D vwCl (w_X10_tie cI cB cZ a_t a_t_child a_t_wife u_t_husband u_t_father u_t_size o.1 o.2) H → va_S A s.heap H locs → decode cX10_tie pc = .ok (.return_, 1) → W p l e rX10_tie s m args below meth c H locs 0 0 Q (F0 m pc ls [])) {H : Heap} {locs : List Loc} {ls : Array Slot} (hP : va_P D vwCl (w_X10_tie cI cB cZ a_t a_t_child a_t_wife u_t_husband u_t_father u_t_size r_t_child r_t_wife) H) (hD : va_D A (w_X10_tie cI cB cZ a_t a_t_child a_t_wife u_t_husband u_t_father u_t_size r_t_child r_t_wife)) (hS : va_S A s.heap H locs) (hl : lv_has ls 4 [(2, .int x2), (3, .int x3)]) : W p l e rX10_tie s m args below meth c H locs 0 0 Q (F0 m 15 ls [.ref a_t_wife]) := by
  obtain ⟨⟨hx, hb, hml, hown, hts⟩, hK, hN, hA⟩ := C
  have C : jCx p s m args c cX10_tie 4 gX10_tie RX10 G D (jT cI cB cZ) A := ⟨⟨hx, hb, hml, hown, hts⟩, hK, hN, hA⟩
  unfold f_X10_tie_j15b at hf
  refine lv_iload_n hx hb dX10_tie_15 rfl (lv_at hl 0 rfl) ?_
  refine lv_iload_n hx hb dX10_tie_16 rfl (lv_at hl 1 rfl) ?_
  obtain ⟨r3, hgr3, hf⟩ := jM_some hf
  refine jcN_v (As := [.ref a_t_wife, .int x2, .int x3]) (rest := []) ⟨hx, hb, hml, hown, hts⟩ hK hN hA (c_X11_set l G D cI cB cZ a_t_wife r_t_wife x2 x3 hgr3) ⟨va_cnB 3 hts (wG_good k_co_X11_set) rfl rfl rfl (jN_l nl_X10_44 hN) (hts _ (wG_in k_in_X11 rfl)) hd_X11_set.2 ⟨Nat.le_of_ble_eq_true rfl, Nat.le_of_ble_eq_true rfl⟩, hts _ (wG_in k_st_X11_set rfl), trivial⟩ hP hD hS [2] rfl rfl rfl rfl hl.1 rfl (Nat.le_of_ble_eq_true rfl) dX10_tie_17 ⟨Nat.le_of_ble_eq_true rfl, Nat.le_of_ble_eq_true rfl⟩ (fun H locs hP hD hS => ?_)
  have hP : va_P D vwCl (w_X10_tie cI cB cZ a_t a_t_child a_t_wife u_t_husband u_t_father u_t_size r_t_child r3) H := hP
  have hD : va_D A (w_X10_tie cI cB cZ a_t a_t_child a_t_wife u_t_husband u_t_father u_t_size r_t_child r3) := hD
  have ho := Option.some.inj hf
  subst ho
  exact K _ _ _ _ hP hS dX10_tie_20
def f_X10_tie (r_t_child r_t_wife : jA) (x1 x2 x3 : Int32) : Option (jA × jA) :=
  if x1 = 0 then
  f_X10_tie_j15 r_t_child r_t_wife x2 x3
  else
  f_X10_tie_j15b r_t_child r_t_wife x2 x3
set_option maxHeartbeats 4000000 in
set_option maxRecDepth 100000 in
theorem t_X10_tie {p : Program} {l : Launch} {e : Env} {s : State} {m : MethodId} {args : Array Value} {below : List Frame} {meth : Method} {c : Code} {A : Nat → Prop} {Q : State → Prop} (G : jGt) (D : va_G) (cI cB cZ : ClassId) (a_t a_t_child a_t_wife : Nat) (u_t_husband u_t_father : Value) (u_t_size : Int32) (r_t_child r_t_wife : jA) (x1 x2 x3 : Int32) (C : jCx p s m args c cX10_tie 4 gX10_tie RX10 G D (jT cI cB cZ) A) {o : jA × jA} (hf : f_X10_tie r_t_child r_t_wife x1 x2 x3 = some o) (K : ∀ (H : Heap) (locs : List Loc) (pc : Nat) (ls : Array Slot), va_P D vwCl (w_X10_tie cI cB cZ a_t a_t_child a_t_wife u_t_husband u_t_father u_t_size o.1 o.2) H → va_S A s.heap H locs → decode cX10_tie pc = .ok (.return_, 1) → W p l e rX10_tie s m args below meth c H locs 0 0 Q (F0 m pc ls [])) {H : Heap} {locs : List Loc} {ls : Array Slot} (hP : va_P D vwCl (w_X10_tie cI cB cZ a_t a_t_child a_t_wife u_t_husband u_t_father u_t_size r_t_child r_t_wife) H) (hD : va_D A (w_X10_tie cI cB cZ a_t a_t_child a_t_wife u_t_husband u_t_father u_t_size r_t_child r_t_wife)) (hS : va_S A s.heap H locs) (hl : lv_has ls 4 [(0, .ref a_t), (1, .int x1), (2, .int x2), (3, .int x3)]) : W p l e rX10_tie s m args below meth c H locs 0 0 Q (F0 m 0 ls []) := by
  obtain ⟨⟨hx, hb, hml, hown, hts⟩, hK, hN, hA⟩ := C
  have C : jCx p s m args c cX10_tie 4 gX10_tie RX10 G D (jT cI cB cZ) A := ⟨⟨hx, hb, hml, hown, hts⟩, hK, hN, hA⟩
  unfold f_X10_tie at hf
  refine lv_iload_n hx hb dX10_tie_0 rfl (lv_at hl 1 rfl) ?_
  refine lv_if_eq (tgt := 11) hx hb dX10_tie_1 (by decide) (fun c1 => ?_) (fun c1 => ?_)
  · replace hf := jif_t c1 hf
    refine lv_aload_n hx hb dX10_tie_11 rfl (lv_at hl 0 rfl) ?_
    refine va_get (D := D) (ci := 9) (v := .ref a_t_child) (C := RX10) (T := TX10) (N := 5) hx hb hts iw_X10 hown hK hP 0 rfl rfl 1 (by decide) (hts _ (wG_in k_fl_X10_15 rfl)) (fun _ h9 => h9) rfl dX10_tie_12 ?_
    exact t_X10_tie_j15 G D cI cB cZ a_t a_t_child a_t_wife u_t_husband u_t_father u_t_size r_t_child r_t_wife x2 x3 C hf K hP hD hS (lv_sub hl [2, 3] rfl)
  · replace hf := jif_f c1 hf
    refine lv_aload_n hx hb dX10_tie_4 rfl (lv_at hl 0 rfl) ?_
    refine va_get (D := D) (ci := 9) (v := .ref a_t_wife) (C := RX10) (T := TX10) (N := 5) hx hb hts iw_X10 hown hK hP 0 rfl rfl 0 (by decide) (hts _ (wG_in k_fl_X10_9 rfl)) (fun _ h9 => h9) rfl dX10_tie_5 ?_
    refine lv_goto (tgt := 15) hx hb dX10_tie_8 (by decide) ?_
    exact t_X10_tie_j15b G D cI cB cZ a_t a_t_child a_t_wife u_t_husband u_t_father u_t_size r_t_child r_t_wife x2 x3 C hf K hP hD hS (lv_sub hl [2, 3] rfl)
set_option maxHeartbeats 4000000 in
set_option maxRecDepth 100000 in
theorem c_X10_tie (l : Launch) (G : jGt) (D : va_G) (cI cB cZ : ClassId) (a_t a_t_child a_t_wife : Nat) (u_t_husband u_t_father : Value) (u_t_size : Int32) (r_t_child r_t_wife : jA) (x1 x2 x3 : Int32) {o : jA × jA} (hf : f_X10_tie r_t_child r_t_wife x1 x2 x3 = some o) : jMv l yX10_tie gX10_tie rX10_tie G D (jT cI cB cZ) [.ref a_t, .int x1, .int x2, .int x3] (w_X10_tie cI cB cZ a_t a_t_child a_t_wife u_t_husband u_t_father u_t_size r_t_child r_t_wife) (w_X10_tie cI cB cZ a_t a_t_child a_t_wife u_t_husband u_t_father u_t_size o.1 o.2) := by
  refine jmk_v RX10 rfl (by decide +kernel) rfl (Nat.le_of_ble_eq_true rfl) rfl ?_
  intro p e s m args below meth c ls A Q C hP hD hS hl K
  exact t_X10_tie G D cI cB cZ a_t a_t_child a_t_wife u_t_husband u_t_father u_t_size r_t_child r_t_wife x1 x2 x3 C hf K hP hD hS hl
abbrev rX11_entry : Room := { frames := 0, cells := 0, slots := 0, locals := 0 }
abbrev gX11_entry : List Cond := wG yX11_entry cX11_entry 2 (some .int)
def w_X11_entry (cI cB cZ : ClassId) (a_p0 : Nat) (r_p0 : jA) : va_W := [(a_p0, .inl (cI, r_p0.1, .inl r_p0.2))]
def f_X11_entry (r_p0 : jA) (x1 : Int32) : Option (Int32) :=
  if x1 < 0 then
  some (-1 : Int32)
  else
  if (Int32.ofNat r_p0.1) ≤ x1 then
  some (-1 : Int32)
  else
  jL r_p0 x1 fun v3 =>
  some v3
set_option maxHeartbeats 4000000 in
set_option maxRecDepth 100000 in
theorem t_X11_entry {p : Program} {l : Launch} {e : Env} {s : State} {m : MethodId} {args : Array Value} {below : List Frame} {meth : Method} {c : Code} {A : Nat → Prop} {Q : State → Prop} (G : jGt) (D : va_G) (cI cB cZ : ClassId) (a_p0 : Nat) (r_p0 : jA) (x1 : Int32) (C : jCx p s m args c cX11_entry 2 gX11_entry RX11 G D (jT cI cB cZ) A) {o : Int32} (hf : f_X11_entry r_p0 x1 = some o) (K : ∀ (H : Heap) (locs : List Loc) (pc : Nat) (ls : Array Slot), va_P D vwCl (w_X11_entry cI cB cZ a_p0 r_p0) H → va_S A s.heap H locs → decode cX11_entry pc = .ok (.ireturn, 1) → W p l e rX11_entry s m args below meth c H locs 0 0 Q (F0 m pc ls [.int o])) {H : Heap} {locs : List Loc} {ls : Array Slot} (hP : va_P D vwCl (w_X11_entry cI cB cZ a_p0 r_p0) H) (hD : va_D A (w_X11_entry cI cB cZ a_p0 r_p0)) (hS : va_S A s.heap H locs) (hl : lv_has ls 2 [(0, .ref a_p0), (1, .int x1)]) : W p l e rX11_entry s m args below meth c H locs 0 0 Q (F0 m 0 ls []) := by
  obtain ⟨⟨hx, hb, hml, hown, hts⟩, hK, hN, hA⟩ := C
  have C : jCx p s m args c cX11_entry 2 gX11_entry RX11 G D (jT cI cB cZ) A := ⟨⟨hx, hb, hml, hown, hts⟩, hK, hN, hA⟩
  unfold f_X11_entry at hf
  refine lv_iload_n hx hb dX11_entry_0 rfl (lv_at hl 1 rfl) ?_
  refine lv_if_lt (tgt := 16) hx hb dX11_entry_1 (by decide) (fun c1 => ?_) (fun c1 => ?_)
  · replace hf := jif_t c1 hf
    refine lv_iconst (v := (-1 : Int32)) hx hb dX11_entry_16 (by decide) ?_
    have ho := Option.some.inj hf
    subst ho
    exact K _ _ _ _ hP hS dX11_entry_17
  · replace hf := jif_f c1 hf
    refine lv_iload_n hx hb dX11_entry_4 rfl (lv_at hl 1 rfl) ?_
    refine lv_aload_n hx hb dX11_entry_5 rfl (lv_at hl 0 rfl) ?_
    refine va_alen (x := (r_p0.1, .inl r_p0.2)) hx hb hK hP 0 0 rfl rfl rfl dX11_entry_6 ?_
    refine lv_icmp_ge (tgt := 16) hx hb dX11_entry_7 (by decide) (fun c2 => ?_) (fun c2 => ?_)
    · replace hf := jif_t c2 hf
      refine lv_iconst (v := (-1 : Int32)) hx hb dX11_entry_16 (by decide) ?_
      have ho := Option.some.inj hf
      subst ho
      exact K _ _ _ _ hP hS dX11_entry_17
    · replace hf := jif_f c2 hf
      refine lv_aload_n hx hb dX11_entry_10 rfl (lv_at hl 0 rfl) ?_
      refine lv_iload_n hx hb dX11_entry_11 rfl (lv_at hl 1 rfl) ?_
      obtain ⟨v3, hv3, iv3, hf⟩ := jL_some hf
      refine ja_iald (P := r_p0) hx hb hK hP 0 0 rfl rfl hv3 iv3 dX11_entry_12 ?_
      refine lv_goto (tgt := 17) hx hb dX11_entry_13 (by decide) ?_
      have ho := Option.some.inj hf
      subst ho
      exact K _ _ _ _ hP hS dX11_entry_17
set_option maxHeartbeats 4000000 in
set_option maxRecDepth 100000 in
theorem c_X11_entry (l : Launch) (G : jGt) (D : va_G) (cI cB cZ : ClassId) (a_p0 : Nat) (r_p0 : jA) (x1 : Int32) {o : Int32} (hf : f_X11_entry r_p0 x1 = some o) : jMi l yX11_entry gX11_entry rX11_entry G D (jT cI cB cZ) [.ref a_p0, .int x1] (w_X11_entry cI cB cZ a_p0 r_p0) (w_X11_entry cI cB cZ a_p0 r_p0) o := by
  refine jmk_i RX11 rfl (by decide +kernel) rfl (Nat.le_of_ble_eq_true rfl) rfl ?_
  intro p e s m args below meth c ls A Q C hP hD hS hl K
  exact t_X11_entry G D cI cB cZ a_p0 r_p0 x1 C hf K hP hD hS hl
abbrev rX10_turnBack : Room := { frames := 1, cells := 0, slots := 0, locals := 22 }
abbrev gX10_turnBack : List Cond := wG yX10_turnBack cX10_turnBack 2 none
def w_X10_turnBack (cI cB cZ : ClassId) (a_t a_t_child a_t_father a_t_husband a_t_wife : Nat) (s_t_size : Int32) (r_t_child r_t_father r_t_husband r_t_wife : jA) : va_W := [(a_t, .inr (9, (oX10 (.ref a_t_wife) (.ref a_t_child) (.ref a_t_husband) (.ref a_t_father) s_t_size))), (a_t_child, .inl (cI, r_t_child.1, .inl r_t_child.2)), (a_t_father, .inl (cI, r_t_father.1, .inl r_t_father.2)), (a_t_husband, .inl (cI, r_t_husband.1, .inl r_t_husband.2)), (a_t_wife, .inl (cI, r_t_wife.1, .inl r_t_wife.2))]
def f_X10_turnBack_b2 (s_t_size : Int32) (r_t_child r_t_wife r_t_father r_t_husband : jA) (x1 : Int32) : Option ((jA × jA × Int32) ⊕ ((jA × jA))) :=
  if s_t_size ≤ x1 then
  some (Sum.inr (r_t_father, r_t_husband))
  else
  jM (f_X11_entry r_t_wife x1) fun r2 =>
  jM (f_X11_set r_t_husband r2 x1) fun r3 =>
  jM (f_X11_entry r_t_child x1) fun r4 =>
  jM (f_X11_set r_t_father r4 x1) fun r5 =>
  some (Sum.inl (r5, r3, (x1 + 1)))
set_option maxHeartbeats 4000000 in
set_option maxRecDepth 100000 in
theorem t_X10_turnBack_b2 {p : Program} {l : Launch} {e : Env} {s : State} {m : MethodId} {args : Array Value} {below : List Frame} {meth : Method} {c : Code} {A : Nat → Prop} {Q : State → Prop} (G : jGt) (D : va_G) (cI cB cZ : ClassId) (a_t a_t_child a_t_father a_t_husband a_t_wife : Nat) (s_t_size : Int32) (r_t_child r_t_wife : jA) (r_t_father r_t_husband : jA) (x1 : Int32) (C : jCx p s m args c cX10_turnBack 2 gX10_turnBack RX10 G D (jT cI cB cZ) A) {o : (jA × jA × Int32) ⊕ ((jA × jA))} (hf : f_X10_turnBack_b2 s_t_size r_t_child r_t_wife r_t_father r_t_husband x1 = some o) (K : (∀ z, o = Sum.inl z → ∀ (H : Heap) (locs : List Loc) (ls : Array Slot), va_P D vwCl (w_X10_turnBack cI cB cZ a_t a_t_child a_t_father a_t_husband a_t_wife s_t_size r_t_child z.1 z.2.1 r_t_wife) H → va_D A (w_X10_turnBack cI cB cZ a_t a_t_child a_t_father a_t_husband a_t_wife s_t_size r_t_child z.1 z.2.1 r_t_wife) → va_S A s.heap H locs → lv_has ls 2 [(0, .ref a_t), (1, .int z.2.2)] → W p l e rX10_turnBack s m args below meth c H locs 0 0 Q (F0 m 2 ls [])) ∧ (∀ z, o = Sum.inr z → ∀ (H : Heap) (locs : List Loc) (ls : Array Slot), va_P D vwCl (w_X10_turnBack cI cB cZ a_t a_t_child a_t_father a_t_husband a_t_wife s_t_size r_t_child z.1 z.2 r_t_wife) H → va_D A (w_X10_turnBack cI cB cZ a_t a_t_child a_t_father a_t_husband a_t_wife s_t_size r_t_child z.1 z.2 r_t_wife) → va_S A s.heap H locs → lv_has ls 2 [] → W p l e rX10_turnBack s m args below meth c H locs 0 0 Q (F0 m 48 ls []))) {H : Heap} {locs : List Loc} {ls : Array Slot} (hP : va_P D vwCl (w_X10_turnBack cI cB cZ a_t a_t_child a_t_father a_t_husband a_t_wife s_t_size r_t_child r_t_father r_t_husband r_t_wife) H) (hD : va_D A (w_X10_turnBack cI cB cZ a_t a_t_child a_t_father a_t_husband a_t_wife s_t_size r_t_child r_t_father r_t_husband r_t_wife)) (hS : va_S A s.heap H locs) (hl : lv_has ls 2 [(0, .ref a_t), (1, .int x1)]) : W p l e rX10_turnBack s m args below meth c H locs 0 0 Q (F0 m 2 ls []) := by
  obtain ⟨⟨hx, hb, hml, hown, hts⟩, hK, hN, hA⟩ := C
  have C : jCx p s m args c cX10_turnBack 2 gX10_turnBack RX10 G D (jT cI cB cZ) A := ⟨⟨hx, hb, hml, hown, hts⟩, hK, hN, hA⟩
  unfold f_X10_turnBack_b2 at hf
  refine lv_iload_n hx hb dX10_turnBack_2 rfl (lv_at hl 1 rfl) ?_
  refine lv_aload_n hx hb dX10_turnBack_3 rfl (lv_at hl 0 rfl) ?_
  refine va_get (D := D) (ci := 9) (v := .int s_t_size) (C := RX10) (T := TX10) (N := 5) hx hb hts iw_X10 hown hK hP 0 rfl rfl 4 (by decide) (hts _ (wG_in k_fl_X10_30 rfl)) (fun _ h9 => h9) rfl dX10_turnBack_4 ?_
  refine lv_icmp_ge (tgt := 48) hx hb dX10_turnBack_7 (by decide) (fun c1 => ?_) (fun c1 => ?_)
  · replace hf := jif_t c1 hf
    have ho := Option.some.inj hf
    exact (K.2 _ ho.symm) _ _ _ hP hD hS (lv_sub hl [] rfl)
  · replace hf := jif_f c1 hf
    refine lv_aload_n hx hb dX10_turnBack_10 rfl (lv_at hl 0 rfl) ?_
    refine va_get (D := D) (ci := 9) (v := .ref a_t_husband) (C := RX10) (T := TX10) (N := 5) hx hb hts iw_X10 hown hK hP 0 rfl rfl 2 (by decide) (hts _ (wG_in k_fl_X10_18 rfl)) (fun _ h9 => h9) rfl dX10_turnBack_11 ?_
    refine lv_aload_n hx hb dX10_turnBack_14 rfl (lv_at hl 0 rfl) ?_
    refine va_get (D := D) (ci := 9) (v := .ref a_t_wife) (C := RX10) (T := TX10) (N := 5) hx hb hts iw_X10 hown hK hP 0 rfl rfl 0 (by decide) (hts _ (wG_in k_fl_X10_9 rfl)) (fun _ h9 => h9) rfl dX10_turnBack_15 ?_
    refine lv_iload_n hx hb dX10_turnBack_18 rfl (lv_at hl 1 rfl) ?_
    obtain ⟨r2, hgr2, hf⟩ := jM_some hf
    refine jcN_i0 (As := [.ref a_t_wife, .int x1]) (rest := [.ref a_t_husband]) ⟨hx, hb, hml, hown, hts⟩ hK hN hA (c_X11_entry l G D cI cB cZ a_t_wife r_t_wife x1 hgr2) ⟨va_cnB 2 hts (wG_good k_co_X11_entry) rfl rfl rfl (jN_l nl_X10_40 hN) (hts _ (wG_in k_in_X11 rfl)) hd_X11_entry.2 ⟨Nat.le_of_ble_eq_true rfl, Nat.le_of_ble_eq_true rfl⟩, hts _ (wG_in k_st_X11_entry rfl), trivial⟩ hP hD hS [4] rfl rfl rfl rfl hl.1 rfl (Nat.le_of_ble_eq_true rfl) dX10_turnBack_19 ⟨Nat.le_of_ble_eq_true rfl, Nat.le_of_ble_eq_true rfl⟩ (fun H locs hP hD hS => ?_)
    refine lv_iload_n hx hb dX10_turnBack_22 rfl (lv_at hl 1 rfl) ?_
    obtain ⟨r3, hgr3, hf⟩ := jM_some hf
    refine jcN_v (As := [.ref a_t_husband, .int r2, .int x1]) (rest := []) ⟨hx, hb, hml, hown, hts⟩ hK hN hA (c_X11_set l G D cI cB cZ a_t_husband r_t_husband r2 x1 hgr3) ⟨va_cnB 3 hts (wG_good k_co_X11_set) rfl rfl rfl (jN_l nl_X10_44 hN) (hts _ (wG_in k_in_X11 rfl)) hd_X11_set.2 ⟨Nat.le_of_ble_eq_true rfl, Nat.le_of_ble_eq_true rfl⟩, hts _ (wG_in k_st_X11_set rfl), trivial⟩ hP hD hS [3] rfl rfl rfl rfl hl.1 rfl (Nat.le_of_ble_eq_true rfl) dX10_turnBack_23 ⟨Nat.le_of_ble_eq_true rfl, Nat.le_of_ble_eq_true rfl⟩ (fun H locs hP hD hS => ?_)
    have hP : va_P D vwCl (w_X10_turnBack cI cB cZ a_t a_t_child a_t_father a_t_husband a_t_wife s_t_size r_t_child r_t_father r3 r_t_wife) H := hP
    have hD : va_D A (w_X10_turnBack cI cB cZ a_t a_t_child a_t_father a_t_husband a_t_wife s_t_size r_t_child r_t_father r3 r_t_wife) := hD
    refine lv_aload_n hx hb dX10_turnBack_26 rfl (lv_at hl 0 rfl) ?_
    refine va_get (D := D) (ci := 9) (v := .ref a_t_father) (C := RX10) (T := TX10) (N := 5) hx hb hts iw_X10 hown hK hP 0 rfl rfl 3 (by decide) (hts _ (wG_in k_fl_X10_21 rfl)) (fun _ h9 => h9) rfl dX10_turnBack_27 ?_
    refine lv_aload_n hx hb dX10_turnBack_30 rfl (lv_at hl 0 rfl) ?_
    refine va_get (D := D) (ci := 9) (v := .ref a_t_child) (C := RX10) (T := TX10) (N := 5) hx hb hts iw_X10 hown hK hP 0 rfl rfl 1 (by decide) (hts _ (wG_in k_fl_X10_15 rfl)) (fun _ h9 => h9) rfl dX10_turnBack_31 ?_
    refine lv_iload_n hx hb dX10_turnBack_34 rfl (lv_at hl 1 rfl) ?_
    obtain ⟨r4, hgr4, hf⟩ := jM_some hf
    refine jcN_i0 (As := [.ref a_t_child, .int x1]) (rest := [.ref a_t_father]) ⟨hx, hb, hml, hown, hts⟩ hK hN hA (c_X11_entry l G D cI cB cZ a_t_child r_t_child x1 hgr4) ⟨va_cnB 2 hts (wG_good k_co_X11_entry) rfl rfl rfl (jN_l nl_X10_40 hN) (hts _ (wG_in k_in_X11 rfl)) hd_X11_entry.2 ⟨Nat.le_of_ble_eq_true rfl, Nat.le_of_ble_eq_true rfl⟩, hts _ (wG_in k_st_X11_entry rfl), trivial⟩ hP hD hS [1] rfl rfl rfl rfl hl.1 rfl (Nat.le_of_ble_eq_true rfl) dX10_turnBack_35 ⟨Nat.le_of_ble_eq_true rfl, Nat.le_of_ble_eq_true rfl⟩ (fun H locs hP hD hS => ?_)
    refine lv_iload_n hx hb dX10_turnBack_38 rfl (lv_at hl 1 rfl) ?_
    obtain ⟨r5, hgr5, hf⟩ := jM_some hf
    refine jcN_v (As := [.ref a_t_father, .int r4, .int x1]) (rest := []) ⟨hx, hb, hml, hown, hts⟩ hK hN hA (c_X11_set l G D cI cB cZ a_t_father r_t_father r4 x1 hgr5) ⟨va_cnB 3 hts (wG_good k_co_X11_set) rfl rfl rfl (jN_l nl_X10_44 hN) (hts _ (wG_in k_in_X11 rfl)) hd_X11_set.2 ⟨Nat.le_of_ble_eq_true rfl, Nat.le_of_ble_eq_true rfl⟩, hts _ (wG_in k_st_X11_set rfl), trivial⟩ hP hD hS [2] rfl rfl rfl rfl hl.1 rfl (Nat.le_of_ble_eq_true rfl) dX10_turnBack_39 ⟨Nat.le_of_ble_eq_true rfl, Nat.le_of_ble_eq_true rfl⟩ (fun H locs hP hD hS => ?_)
    have hP : va_P D vwCl (w_X10_turnBack cI cB cZ a_t a_t_child a_t_father a_t_husband a_t_wife s_t_size r_t_child r5 r3 r_t_wife) H := hP
    have hD : va_D A (w_X10_turnBack cI cB cZ a_t a_t_child a_t_father a_t_husband a_t_wife s_t_size r_t_child r5 r3 r_t_wife) := hD
    refine lv_iinc (v := (x1 + 1)) (lv' := [(1, .int (x1 + 1)), (0, .ref a_t)]) hx hb dX10_turnBack_42 hl (k := 1) rfl (by first | rfl | decide) (by decide) rfl (fun ls hl => ?_)
    refine lv_goto (tgt := 2) hx hb dX10_turnBack_45 (by decide) ?_
    have ho := Option.some.inj hf
    exact K.1 _ ho.symm _ _ _ hP hD hS (lv_sub hl [1, 0] rfl)
def f_X10_turnBack_l2 (s_t_size : Int32) (r_t_child r_t_wife r_t_father r_t_husband : jA) (x1 : Int32) : Option ((jA × jA)) :=
  jI (fun z => f_X10_turnBack_b2 s_t_size r_t_child r_t_wife z.1 z.2.1 z.2.2) jF (r_t_father, r_t_husband, x1)
set_option maxHeartbeats 4000000 in
set_option maxRecDepth 100000 in
theorem t_X10_turnBack_l2 {p : Program} {l : Launch} {e : Env} {s : State} {m : MethodId} {args : Array Value} {below : List Frame} {meth : Method} {c : Code} {A : Nat → Prop} {Q : State → Prop} (G : jGt) (D : va_G) (cI cB cZ : ClassId) (a_t a_t_child a_t_father a_t_husband a_t_wife : Nat) (s_t_size : Int32) (r_t_child r_t_wife : jA)  (C : jCx p s m args c cX10_turnBack 2 gX10_turnBack RX10 G D (jT cI cB cZ) A) : ∀ (n : Nat) (r_t_father r_t_husband : jA) (x1 : Int32) {eo : (jA × jA)}, jI (fun z => f_X10_turnBack_b2 s_t_size r_t_child r_t_wife z.1 z.2.1 z.2.2) n (r_t_father, r_t_husband, x1) = some eo → (∀ (H : Heap) (locs : List Loc) (ls : Array Slot), va_P D vwCl (w_X10_turnBack cI cB cZ a_t a_t_child a_t_father a_t_husband a_t_wife s_t_size r_t_child eo.1 eo.2 r_t_wife) H → va_D A (w_X10_turnBack cI cB cZ a_t a_t_child a_t_father a_t_husband a_t_wife s_t_size r_t_child eo.1 eo.2 r_t_wife) → va_S A s.heap H locs → lv_has ls 2 [] → W p l e rX10_turnBack s m args below meth c H locs 0 0 Q (F0 m 48 ls [])) → ∀ (H : Heap) (locs : List Loc) (ls : Array Slot), va_P D vwCl (w_X10_turnBack cI cB cZ a_t a_t_child a_t_father a_t_husband a_t_wife s_t_size r_t_child r_t_father r_t_husband r_t_wife) H → va_D A (w_X10_turnBack cI cB cZ a_t a_t_child a_t_father a_t_husband a_t_wife s_t_size r_t_child r_t_father r_t_husband r_t_wife) → va_S A s.heap H locs → lv_has ls 2 [(0, .ref a_t), (1, .int x1)] → W p l e rX10_turnBack s m args below meth c H locs 0 0 Q (F0 m 2 ls []) := by
  intro n
  induction n with
  | zero =>
    intro r_t_father r_t_husband x1 eo hf
    exact (jI_zero hf).elim
  | succ n ih =>
    intro r_t_father r_t_husband x1 eo hf K H locs ls hP hD hS hl
    obtain ⟨o, hb1, ho⟩ := jI_some hf
    rcases ho with ⟨z, rfl, hf2⟩ | rfl
    · exact t_X10_turnBack_b2 G D cI cB cZ a_t a_t_child a_t_father a_t_husband a_t_wife s_t_size r_t_child r_t_wife r_t_father r_t_husband x1 C hb1 ⟨fun z2 hz H locs ls hP hD hS hl => by cases hz; exact ih z.1 z.2.1 z.2.2 hf2 K H locs ls hP hD hS hl, fun z2 hz => by cases hz⟩ hP hD hS hl
    · exact t_X10_turnBack_b2 G D cI cB cZ a_t a_t_child a_t_father a_t_husband a_t_wife s_t_size r_t_child r_t_wife r_t_father r_t_husband x1 C hb1 ⟨fun z2 hz => (by cases hz), fun z2 hz => by cases hz; exact K⟩ hP hD hS hl
def f_X10_turnBack (s_t_size : Int32) (r_t_child r_t_wife r_t_father r_t_husband : jA) : Option (jA × jA) :=
  jM (f_X10_turnBack_l2 s_t_size r_t_child r_t_wife r_t_father r_t_husband (0 : Int32)) fun e6 =>
  some (e6.1, e6.2)
set_option maxHeartbeats 4000000 in
set_option maxRecDepth 100000 in
theorem t_X10_turnBack {p : Program} {l : Launch} {e : Env} {s : State} {m : MethodId} {args : Array Value} {below : List Frame} {meth : Method} {c : Code} {A : Nat → Prop} {Q : State → Prop} (G : jGt) (D : va_G) (cI cB cZ : ClassId) (a_t a_t_child a_t_father a_t_husband a_t_wife : Nat) (s_t_size : Int32) (r_t_child r_t_wife : jA) (r_t_father r_t_husband : jA) (C : jCx p s m args c cX10_turnBack 2 gX10_turnBack RX10 G D (jT cI cB cZ) A) {o : jA × jA} (hf : f_X10_turnBack s_t_size r_t_child r_t_wife r_t_father r_t_husband = some o) (K : ∀ (H : Heap) (locs : List Loc) (pc : Nat) (ls : Array Slot), va_P D vwCl (w_X10_turnBack cI cB cZ a_t a_t_child a_t_father a_t_husband a_t_wife s_t_size r_t_child o.1 o.2 r_t_wife) H → va_S A s.heap H locs → decode cX10_turnBack pc = .ok (.return_, 1) → W p l e rX10_turnBack s m args below meth c H locs 0 0 Q (F0 m pc ls [])) {H : Heap} {locs : List Loc} {ls : Array Slot} (hP : va_P D vwCl (w_X10_turnBack cI cB cZ a_t a_t_child a_t_father a_t_husband a_t_wife s_t_size r_t_child r_t_father r_t_husband r_t_wife) H) (hD : va_D A (w_X10_turnBack cI cB cZ a_t a_t_child a_t_father a_t_husband a_t_wife s_t_size r_t_child r_t_father r_t_husband r_t_wife)) (hS : va_S A s.heap H locs) (hl : lv_has ls 2 [(0, .ref a_t)]) : W p l e rX10_turnBack s m args below meth c H locs 0 0 Q (F0 m 0 ls []) := by
  obtain ⟨⟨hx, hb, hml, hown, hts⟩, hK, hN, hA⟩ := C
  have C : jCx p s m args c cX10_turnBack 2 gX10_turnBack RX10 G D (jT cI cB cZ) A := ⟨⟨hx, hb, hml, hown, hts⟩, hK, hN, hA⟩
  unfold f_X10_turnBack at hf
  refine lv_iconst (v := (0 : Int32)) hx hb dX10_turnBack_0 (by decide) ?_
  refine lv_istore_n (lv' := [(1, .int (0 : Int32)), (0, .ref a_t)]) hx hb dX10_turnBack_1 rfl hl (by decide) rfl (fun ls hl => ?_)
  obtain ⟨e6, hg6, hf⟩ := jM_some hf
  refine t_X10_turnBack_l2 G D cI cB cZ a_t a_t_child a_t_father a_t_husband a_t_wife s_t_size r_t_child r_t_wife  C jF r_t_father r_t_husband (0 : Int32) hg6 ?_ _ _ _ hP hD hS (lv_sub hl [1, 0] rfl)
  intro H locs ls hP hD hS hl
  have ho := Option.some.inj hf
  subst ho
  exact K _ _ _ _ hP hS dX10_turnBack_48
set_option maxHeartbeats 4000000 in
set_option maxRecDepth 100000 in
theorem c_X10_turnBack (l : Launch) (G : jGt) (D : va_G) (cI cB cZ : ClassId) (a_t a_t_child a_t_father a_t_husband a_t_wife : Nat) (s_t_size : Int32) (r_t_child r_t_wife : jA) (r_t_father r_t_husband : jA) {o : jA × jA} (hf : f_X10_turnBack s_t_size r_t_child r_t_wife r_t_father r_t_husband = some o) : jMv l yX10_turnBack gX10_turnBack rX10_turnBack G D (jT cI cB cZ) [.ref a_t] (w_X10_turnBack cI cB cZ a_t a_t_child a_t_father a_t_husband a_t_wife s_t_size r_t_child r_t_father r_t_husband r_t_wife) (w_X10_turnBack cI cB cZ a_t a_t_child a_t_father a_t_husband a_t_wife s_t_size r_t_child o.1 o.2 r_t_wife) := by
  refine jmk_v RX10 rfl (by decide +kernel) rfl (Nat.le_of_ble_eq_true rfl) rfl ?_
  intro p e s m args below meth c ls A Q C hP hD hS hl K
  exact t_X10_turnBack G D cI cB cZ a_t a_t_child a_t_father a_t_husband a_t_wife s_t_size r_t_child r_t_wife r_t_father r_t_husband C hf K hP hD hS hl
abbrev rX10_put : Room := { frames := 2, cells := 0, slots := 0, locals := 45 }
abbrev gX10_put : List Cond := wG yX10_put cX10_put 5 none
def w_X10_put (cI cB cZ : ClassId) (a_t a_t_child a_t_father a_t_husband a_t_wife : Nat) (s_t_size : Int32) (r_t_child r_t_father r_t_husband r_t_wife : jA) : va_W := [(a_t, .inr (9, (oX10 (.ref a_t_wife) (.ref a_t_child) (.ref a_t_husband) (.ref a_t_father) s_t_size))), (a_t_child, .inl (cI, r_t_child.1, .inl r_t_child.2)), (a_t_father, .inl (cI, r_t_father.1, .inl r_t_father.2)), (a_t_husband, .inl (cI, r_t_husband.1, .inl r_t_husband.2)), (a_t_wife, .inl (cI, r_t_wife.1, .inl r_t_wife.2))]
def f_X10_put_b8 (s_t_size : Int32) (r_t_child r_t_father r_t_husband r_t_wife : jA) (x1 x2 x3 x4 : Int32) : Option ((jA × jA × Int32) ⊕ ((jA × jA))) :=
  if x1 ≤ x4 then
  some (Sum.inr (r_t_child, r_t_wife))
  else
  jM (f_X0_numberAt x1 x2 x4) fun r3 =>
  jM (f_X10_tie r_t_child r_t_wife (1 : Int32) x4 r3) fun r4 =>
  jM (f_X0_numberAt x1 x3 x4) fun r5 =>
  jM (f_X10_tie r4.1 r4.2 (0 : Int32) x4 r5) fun r6 =>
  some (Sum.inl (r6.1, r6.2, (x4 + 1)))
set_option maxHeartbeats 4000000 in
set_option maxRecDepth 100000 in
theorem t_X10_put_b8 {p : Program} {l : Launch} {e : Env} {s : State} {m : MethodId} {args : Array Value} {below : List Frame} {meth : Method} {c : Code} {A : Nat → Prop} {Q : State → Prop} (G : jGt) (D : va_G) (cI cB cZ : ClassId) (a_t a_t_child a_t_father a_t_husband a_t_wife : Nat) (s_t_size : Int32) (r_t_child r_t_father r_t_husband r_t_wife : jA) (x1 x2 x3 x4 : Int32) (C : jCx p s m args c cX10_put 5 gX10_put RX10 G D (jT cI cB cZ) A) {o : (jA × jA × Int32) ⊕ ((jA × jA))} (hf : f_X10_put_b8 s_t_size r_t_child r_t_father r_t_husband r_t_wife x1 x2 x3 x4 = some o) (K : (∀ z, o = Sum.inl z → ∀ (H : Heap) (locs : List Loc) (ls : Array Slot), va_P D vwCl (w_X10_put cI cB cZ a_t a_t_child a_t_father a_t_husband a_t_wife s_t_size z.1 r_t_father r_t_husband z.2.1) H → va_D A (w_X10_put cI cB cZ a_t a_t_child a_t_father a_t_husband a_t_wife s_t_size z.1 r_t_father r_t_husband z.2.1) → va_S A s.heap H locs → lv_has ls 5 [(0, .ref a_t), (1, .int x1), (2, .int x2), (3, .int x3), (4, .int z.2.2)] → W p l e rX10_put s m args below meth c H locs 0 0 Q (F0 m 8 ls [])) ∧ (∀ z, o = Sum.inr z → ∀ (H : Heap) (locs : List Loc) (ls : Array Slot), va_P D vwCl (w_X10_put cI cB cZ a_t a_t_child a_t_father a_t_husband a_t_wife s_t_size z.1 r_t_father r_t_husband z.2) H → va_D A (w_X10_put cI cB cZ a_t a_t_child a_t_father a_t_husband a_t_wife s_t_size z.1 r_t_father r_t_husband z.2) → va_S A s.heap H locs → lv_has ls 5 [(0, .ref a_t)] → W p l e rX10_put s m args below meth c H locs 0 0 Q (F0 m 48 ls []))) {H : Heap} {locs : List Loc} {ls : Array Slot} (hP : va_P D vwCl (w_X10_put cI cB cZ a_t a_t_child a_t_father a_t_husband a_t_wife s_t_size r_t_child r_t_father r_t_husband r_t_wife) H) (hD : va_D A (w_X10_put cI cB cZ a_t a_t_child a_t_father a_t_husband a_t_wife s_t_size r_t_child r_t_father r_t_husband r_t_wife)) (hS : va_S A s.heap H locs) (hl : lv_has ls 5 [(0, .ref a_t), (1, .int x1), (2, .int x2), (3, .int x3), (4, .int x4)]) : W p l e rX10_put s m args below meth c H locs 0 0 Q (F0 m 8 ls []) := by
  obtain ⟨⟨hx, hb, hml, hown, hts⟩, hK, hN, hA⟩ := C
  have C : jCx p s m args c cX10_put 5 gX10_put RX10 G D (jT cI cB cZ) A := ⟨⟨hx, hb, hml, hown, hts⟩, hK, hN, hA⟩
  unfold f_X10_put_b8 at hf
  refine lv_iload hx hb dX10_put_8 (lv_at hl 4 rfl) ?_
  refine lv_iload_n hx hb dX10_put_10 rfl (lv_at hl 1 rfl) ?_
  refine lv_icmp_ge (tgt := 48) hx hb dX10_put_11 (by decide) (fun c2 => ?_) (fun c2 => ?_)
  · replace hf := jif_t c2 hf
    have ho := Option.some.inj hf
    exact (K.2 _ ho.symm) _ _ _ hP hD hS (lv_sub hl [0] rfl)
  · replace hf := jif_f c2 hf
    refine lv_aload_n hx hb dX10_put_14 rfl (lv_at hl 0 rfl) ?_
    refine lv_iconst (v := (1 : Int32)) hx hb dX10_put_15 (by decide) ?_
    refine lv_iload hx hb dX10_put_16 (lv_at hl 4 rfl) ?_
    refine lv_iload_n hx hb dX10_put_18 rfl (lv_at hl 1 rfl) ?_
    refine lv_iload_n hx hb dX10_put_19 rfl (lv_at hl 2 rfl) ?_
    refine lv_iload hx hb dX10_put_20 (lv_at hl 4 rfl) ?_
    obtain ⟨r3, hgr3, hf⟩ := jM_some hf
    refine jcS_i0 (As := [.int x1, .int x2, .int x4]) (rest := [.int x4, .int (1 : Int32), .ref a_t]) ⟨hx, hb, hml, hown, hts⟩ hK hN hA (c_X0_numberAt l G D cI cB cZ x1 x2 x4 hgr3) (va_cwS 3 hts (wG_S k_ml_X10_106 k_st_X0_numberAt k_in_X0 k_co_X0_numberAt) rfl rfl rfl hd_X0_numberAt.2 ⟨Nat.le_of_ble_eq_true rfl, Nat.le_of_ble_eq_true rfl⟩) hP hD hS [] rfl rfl rfl rfl hl.1 rfl (Nat.le_of_ble_eq_true rfl) dX10_put_22 ⟨Nat.le_of_ble_eq_true rfl, Nat.le_of_ble_eq_true rfl⟩ (fun H locs hP hD hS => ?_)
    obtain ⟨r4, hgr4, hf⟩ := jM_some hf
    refine jcV_v (As := [.int (1 : Int32), .int x4, .int r3]) (rest := []) ⟨hx, hb, hml, hown, hts⟩ hK hN hA (c_X10_tie l G D cI cB cZ a_t a_t_child a_t_wife (.ref a_t_husband) (.ref a_t_father) s_t_size r_t_child r_t_wife (1 : Int32) x4 r3 hgr4) (cwV 3 hts (wG_V k_ml_X10_111 k_im_X10_tie k_se_X10_tie k_in_X10 k_co_X10_tie) rfl rfl rfl hd_X10_tie ⟨Nat.le_of_ble_eq_true rfl, Nat.le_of_ble_eq_true rfl⟩) hP hD hS [0, 1, 4] rfl rfl rfl (ci := 9) rfl 0 rfl rfl rfl hl.1 rfl (Nat.le_of_ble_eq_true rfl) dX10_put_25 ⟨Nat.le_of_ble_eq_true rfl, Nat.le_of_ble_eq_true rfl⟩ (fun H locs hP hD hS => ?_)
    have hP : va_P D vwCl (w_X10_put cI cB cZ a_t a_t_child a_t_father a_t_husband a_t_wife s_t_size r4.1 r_t_father r_t_husband r4.2) H := hP
    have hD : va_D A (w_X10_put cI cB cZ a_t a_t_child a_t_father a_t_husband a_t_wife s_t_size r4.1 r_t_father r_t_husband r4.2) := hD
    refine lv_aload_n hx hb dX10_put_28 rfl (lv_at hl 0 rfl) ?_
    refine lv_iconst (v := (0 : Int32)) hx hb dX10_put_29 (by decide) ?_
    refine lv_iload hx hb dX10_put_30 (lv_at hl 4 rfl) ?_
    refine lv_iload_n hx hb dX10_put_32 rfl (lv_at hl 1 rfl) ?_
    refine lv_iload_n hx hb dX10_put_33 rfl (lv_at hl 3 rfl) ?_
    refine lv_iload hx hb dX10_put_34 (lv_at hl 4 rfl) ?_
    obtain ⟨r5, hgr5, hf⟩ := jM_some hf
    refine jcS_i0 (As := [.int x1, .int x3, .int x4]) (rest := [.int x4, .int (0 : Int32), .ref a_t]) ⟨hx, hb, hml, hown, hts⟩ hK hN hA (c_X0_numberAt l G D cI cB cZ x1 x3 x4 hgr5) (va_cwS 3 hts (wG_S k_ml_X10_106 k_st_X0_numberAt k_in_X0 k_co_X0_numberAt) rfl rfl rfl hd_X0_numberAt.2 ⟨Nat.le_of_ble_eq_true rfl, Nat.le_of_ble_eq_true rfl⟩) hP hD hS [] rfl rfl rfl rfl hl.1 rfl (Nat.le_of_ble_eq_true rfl) dX10_put_36 ⟨Nat.le_of_ble_eq_true rfl, Nat.le_of_ble_eq_true rfl⟩ (fun H locs hP hD hS => ?_)
    obtain ⟨r6, hgr6, hf⟩ := jM_some hf
    refine jcV_v (As := [.int (0 : Int32), .int x4, .int r5]) (rest := []) ⟨hx, hb, hml, hown, hts⟩ hK hN hA (c_X10_tie l G D cI cB cZ a_t a_t_child a_t_wife (.ref a_t_husband) (.ref a_t_father) s_t_size r4.1 r4.2 (0 : Int32) x4 r5 hgr6) (cwV 3 hts (wG_V k_ml_X10_111 k_im_X10_tie k_se_X10_tie k_in_X10 k_co_X10_tie) rfl rfl rfl hd_X10_tie ⟨Nat.le_of_ble_eq_true rfl, Nat.le_of_ble_eq_true rfl⟩) hP hD hS [0, 1, 4] rfl rfl rfl (ci := 9) rfl 0 rfl rfl rfl hl.1 rfl (Nat.le_of_ble_eq_true rfl) dX10_put_39 ⟨Nat.le_of_ble_eq_true rfl, Nat.le_of_ble_eq_true rfl⟩ (fun H locs hP hD hS => ?_)
    have hP : va_P D vwCl (w_X10_put cI cB cZ a_t a_t_child a_t_father a_t_husband a_t_wife s_t_size r6.1 r_t_father r_t_husband r6.2) H := hP
    have hD : va_D A (w_X10_put cI cB cZ a_t a_t_child a_t_father a_t_husband a_t_wife s_t_size r6.1 r_t_father r_t_husband r6.2) := hD
    refine lv_iinc (v := (x4 + 1)) (lv' := [(4, .int (x4 + 1)), (0, .ref a_t), (1, .int x1), (2, .int x2), (3, .int x3)]) hx hb dX10_put_42 hl (k := 4) rfl (by first | rfl | decide) (by decide) rfl (fun ls hl => ?_)
    refine lv_goto (tgt := 8) hx hb dX10_put_45 (by decide) ?_
    have ho := Option.some.inj hf
    exact K.1 _ ho.symm _ _ _ hP hD hS (lv_sub hl [1, 2, 3, 4, 0] rfl)
def f_X10_put_l8 (s_t_size : Int32) (r_t_father r_t_husband : jA) (x1 x2 x3 : Int32) (r_t_child r_t_wife : jA) (x4 : Int32) : Option ((jA × jA)) :=
  jI (fun z => f_X10_put_b8 s_t_size z.1 r_t_father r_t_husband z.2.1 x1 x2 x3 z.2.2) jF (r_t_child, r_t_wife, x4)
set_option maxHeartbeats 4000000 in
set_option maxRecDepth 100000 in
theorem t_X10_put_l8 {p : Program} {l : Launch} {e : Env} {s : State} {m : MethodId} {args : Array Value} {below : List Frame} {meth : Method} {c : Code} {A : Nat → Prop} {Q : State → Prop} (G : jGt) (D : va_G) (cI cB cZ : ClassId) (a_t a_t_child a_t_father a_t_husband a_t_wife : Nat) (s_t_size : Int32) (r_t_father r_t_husband : jA) (x1 x2 x3 : Int32) (C : jCx p s m args c cX10_put 5 gX10_put RX10 G D (jT cI cB cZ) A) : ∀ (n : Nat) (r_t_child r_t_wife : jA) (x4 : Int32) {eo : (jA × jA)}, jI (fun z => f_X10_put_b8 s_t_size z.1 r_t_father r_t_husband z.2.1 x1 x2 x3 z.2.2) n (r_t_child, r_t_wife, x4) = some eo → (∀ (H : Heap) (locs : List Loc) (ls : Array Slot), va_P D vwCl (w_X10_put cI cB cZ a_t a_t_child a_t_father a_t_husband a_t_wife s_t_size eo.1 r_t_father r_t_husband eo.2) H → va_D A (w_X10_put cI cB cZ a_t a_t_child a_t_father a_t_husband a_t_wife s_t_size eo.1 r_t_father r_t_husband eo.2) → va_S A s.heap H locs → lv_has ls 5 [(0, .ref a_t)] → W p l e rX10_put s m args below meth c H locs 0 0 Q (F0 m 48 ls [])) → ∀ (H : Heap) (locs : List Loc) (ls : Array Slot), va_P D vwCl (w_X10_put cI cB cZ a_t a_t_child a_t_father a_t_husband a_t_wife s_t_size r_t_child r_t_father r_t_husband r_t_wife) H → va_D A (w_X10_put cI cB cZ a_t a_t_child a_t_father a_t_husband a_t_wife s_t_size r_t_child r_t_father r_t_husband r_t_wife) → va_S A s.heap H locs → lv_has ls 5 [(0, .ref a_t), (1, .int x1), (2, .int x2), (3, .int x3), (4, .int x4)] → W p l e rX10_put s m args below meth c H locs 0 0 Q (F0 m 8 ls []) := by
  intro n
  induction n with
  | zero =>
    intro r_t_child r_t_wife x4 eo hf
    exact (jI_zero hf).elim
  | succ n ih =>
    intro r_t_child r_t_wife x4 eo hf K H locs ls hP hD hS hl
    obtain ⟨o, hb1, ho⟩ := jI_some hf
    rcases ho with ⟨z, rfl, hf2⟩ | rfl
    · exact t_X10_put_b8 G D cI cB cZ a_t a_t_child a_t_father a_t_husband a_t_wife s_t_size r_t_child r_t_father r_t_husband r_t_wife x1 x2 x3 x4 C hb1 ⟨fun z2 hz H locs ls hP hD hS hl => by cases hz; exact ih z.1 z.2.1 z.2.2 hf2 K H locs ls hP hD hS hl, fun z2 hz => by cases hz⟩ hP hD hS hl
    · exact t_X10_put_b8 G D cI cB cZ a_t a_t_child a_t_father a_t_husband a_t_wife s_t_size r_t_child r_t_father r_t_husband r_t_wife x1 x2 x3 x4 C hb1 ⟨fun z2 hz => (by cases hz), fun z2 hz => by cases hz; exact K⟩ hP hD hS hl
def f_X10_put (s_t_size : Int32) (r_t_child r_t_father r_t_husband r_t_wife : jA) (x1 x2 x3 : Int32) : Option (Int32 × jA × jA × jA × jA) :=
  jM (f_X10_clear s_t_size r_t_child r_t_wife x1) fun r1 =>
  jM (f_X10_put_l8 r1.1 r_t_father r_t_husband x1 x2 x3 r1.2.1 r1.2.2 (0 : Int32)) fun e7 =>
  jM (f_X10_turnBack r1.1 e7.1 e7.2 r_t_father r_t_husband) fun r8 =>
  some (r1.1, e7.1, r8.1, r8.2, e7.2)
set_option maxHeartbeats 4000000 in
set_option maxRecDepth 100000 in
theorem t_X10_put {p : Program} {l : Launch} {e : Env} {s : State} {m : MethodId} {args : Array Value} {below : List Frame} {meth : Method} {c : Code} {A : Nat → Prop} {Q : State → Prop} (G : jGt) (D : va_G) (cI cB cZ : ClassId) (a_t a_t_child a_t_father a_t_husband a_t_wife : Nat) (s_t_size : Int32) (r_t_child r_t_father r_t_husband r_t_wife : jA) (x1 x2 x3 : Int32) (C : jCx p s m args c cX10_put 5 gX10_put RX10 G D (jT cI cB cZ) A) {o : Int32 × jA × jA × jA × jA} (hf : f_X10_put s_t_size r_t_child r_t_father r_t_husband r_t_wife x1 x2 x3 = some o) (K : ∀ (H : Heap) (locs : List Loc) (pc : Nat) (ls : Array Slot), va_P D vwCl (w_X10_put cI cB cZ a_t a_t_child a_t_father a_t_husband a_t_wife o.1 o.2.1 o.2.2.1 o.2.2.2.1 o.2.2.2.2) H → va_S A s.heap H locs → decode cX10_put pc = .ok (.return_, 1) → W p l e rX10_put s m args below meth c H locs 0 0 Q (F0 m pc ls [])) {H : Heap} {locs : List Loc} {ls : Array Slot} (hP : va_P D vwCl (w_X10_put cI cB cZ a_t a_t_child a_t_father a_t_husband a_t_wife s_t_size r_t_child r_t_father r_t_husband r_t_wife) H) (hD : va_D A (w_X10_put cI cB cZ a_t a_t_child a_t_father a_t_husband a_t_wife s_t_size r_t_child r_t_father r_t_husband r_t_wife)) (hS : va_S A s.heap H locs) (hl : lv_has ls 5 [(0, .ref a_t), (1, .int x1), (2, .int x2), (3, .int x3)]) : W p l e rX10_put s m args below meth c H locs 0 0 Q (F0 m 0 ls []) := by
  obtain ⟨⟨hx, hb, hml, hown, hts⟩, hK, hN, hA⟩ := C
  have C : jCx p s m args c cX10_put 5 gX10_put RX10 G D (jT cI cB cZ) A := ⟨⟨hx, hb, hml, hown, hts⟩, hK, hN, hA⟩
  unfold f_X10_put at hf
  refine lv_aload_n hx hb dX10_put_0 rfl (lv_at hl 0 rfl) ?_
  refine lv_iload_n hx hb dX10_put_1 rfl (lv_at hl 1 rfl) ?_
  obtain ⟨r1, hgr1, hf⟩ := jM_some hf
  refine jcV_v (As := [.int x1]) (rest := []) ⟨hx, hb, hml, hown, hts⟩ hK hN hA (c_X10_clear l G D cI cB cZ a_t a_t_child a_t_wife (.ref a_t_husband) (.ref a_t_father) s_t_size r_t_child r_t_wife x1 hgr1) (cwV 1 hts (wG_V k_ml_X10_102 k_im_X10_clear k_se_X10_clear k_in_X10 k_co_X10_clear) rfl rfl rfl hd_X10_clear ⟨Nat.le_of_ble_eq_true rfl, Nat.le_of_ble_eq_true rfl⟩) hP hD hS [0, 1, 4] rfl rfl rfl (ci := 9) rfl 0 rfl rfl rfl hl.1 rfl (Nat.le_of_ble_eq_true rfl) dX10_put_2 ⟨Nat.le_of_ble_eq_true rfl, Nat.le_of_ble_eq_true rfl⟩ (fun H locs hP hD hS => ?_)
  have hP : va_P D vwCl (w_X10_put cI cB cZ a_t a_t_child a_t_father a_t_husband a_t_wife r1.1 r1.2.1 r_t_father r_t_husband r1.2.2) H := hP
  have hD : va_D A (w_X10_put cI cB cZ a_t a_t_child a_t_father a_t_husband a_t_wife r1.1 r1.2.1 r_t_father r_t_husband r1.2.2) := hD
  refine lv_iconst (v := (0 : Int32)) hx hb dX10_put_5 (by decide) ?_
  refine lv_istore (lv' := [(4, .int (0 : Int32)), (0, .ref a_t), (1, .int x1), (2, .int x2), (3, .int x3)]) hx hb dX10_put_6 hl (by decide) rfl (fun ls hl => ?_)
  obtain ⟨e7, hg7, hf⟩ := jM_some hf
  refine t_X10_put_l8 G D cI cB cZ a_t a_t_child a_t_father a_t_husband a_t_wife r1.1 r_t_father r_t_husband x1 x2 x3 C jF r1.2.1 r1.2.2 (0 : Int32) hg7 ?_ _ _ _ hP hD hS (lv_sub hl [1, 2, 3, 4, 0] rfl)
  intro H locs ls hP hD hS hl
  refine lv_aload_n hx hb dX10_put_48 rfl (lv_at hl 0 rfl) ?_
  obtain ⟨r8, hgr8, hf⟩ := jM_some hf
  refine jcV_v (As := []) (rest := []) ⟨hx, hb, hml, hown, hts⟩ hK hN hA (c_X10_turnBack l G D cI cB cZ a_t a_t_child a_t_father a_t_husband a_t_wife r1.1 e7.1 e7.2 r_t_father r_t_husband hgr8) (cwV 0 hts (wG_V k_ml_X10_115 k_im_X10_turnBack k_se_X10_turnBack k_in_X10 k_co_X10_turnBack) rfl rfl rfl hd_X10_turnBack ⟨Nat.le_of_ble_eq_true rfl, Nat.le_of_ble_eq_true rfl⟩) hP hD hS [0, 1, 2, 3, 4] rfl rfl rfl (ci := 9) rfl 0 rfl rfl rfl hl.1 rfl (Nat.le_of_ble_eq_true rfl) dX10_put_49 ⟨Nat.le_of_ble_eq_true rfl, Nat.le_of_ble_eq_true rfl⟩ (fun H locs hP hD hS => ?_)
  have hP : va_P D vwCl (w_X10_put cI cB cZ a_t a_t_child a_t_father a_t_husband a_t_wife r1.1 e7.1 r8.1 r8.2 e7.2) H := hP
  have hD : va_D A (w_X10_put cI cB cZ a_t a_t_child a_t_father a_t_husband a_t_wife r1.1 e7.1 r8.1 r8.2 e7.2) := hD
  have ho := Option.some.inj hf
  subst ho
  exact K _ _ _ _ hP hS dX10_put_52
set_option maxHeartbeats 4000000 in
set_option maxRecDepth 100000 in
theorem c_X10_put (l : Launch) (G : jGt) (D : va_G) (cI cB cZ : ClassId) (a_t a_t_child a_t_father a_t_husband a_t_wife : Nat) (s_t_size : Int32) (r_t_child r_t_father r_t_husband r_t_wife : jA) (x1 x2 x3 : Int32) {o : Int32 × jA × jA × jA × jA} (hf : f_X10_put s_t_size r_t_child r_t_father r_t_husband r_t_wife x1 x2 x3 = some o) : jMv l yX10_put gX10_put rX10_put G D (jT cI cB cZ) [.ref a_t, .int x1, .int x2, .int x3] (w_X10_put cI cB cZ a_t a_t_child a_t_father a_t_husband a_t_wife s_t_size r_t_child r_t_father r_t_husband r_t_wife) (w_X10_put cI cB cZ a_t a_t_child a_t_father a_t_husband a_t_wife o.1 o.2.1 o.2.2.1 o.2.2.2.1 o.2.2.2.2) := by
  refine jmk_v RX10 rfl (by decide +kernel) rfl (Nat.le_of_ble_eq_true rfl) rfl ?_
  intro p e s m args below meth c ls A Q C hP hD hS hl K
  exact t_X10_put G D cI cB cZ a_t a_t_child a_t_father a_t_husband a_t_wife s_t_size r_t_child r_t_father r_t_husband r_t_wife x1 x2 x3 C hf K hP hD hS hl
abbrev rX10_reachedFromFirst : Room := { frames := 1, cells := 0, slots := 0, locals := 21 }
abbrev gX10_reachedFromFirst : List Cond := wG yX10_reachedFromFirst cX10_reachedFromFirst 4 (some .int)
def w_X10_reachedFromFirst (cI cB cZ : ClassId) (a_t a_t_child a_t_wife : Nat) (u_t_husband u_t_father : Value) (s_t_size : Int32) (r_t_child r_t_wife : jA) : va_W := [(a_t, .inr (9, (oX10 (.ref a_t_wife) (.ref a_t_child) u_t_husband u_t_father s_t_size))), (a_t_child, .inl (cI, r_t_child.1, .inl r_t_child.2)), (a_t_wife, .inl (cI, r_t_wife.1, .inl r_t_wife.2))]
def f_X10_reachedFromFirst_j54 (x1 x2 x3 : Int32) : Option ((Int32 × Int32) ⊕ ((Int32))) :=
  some (Sum.inl (x1, (x3 + 1)))
set_option maxHeartbeats 4000000 in
set_option maxRecDepth 100000 in
theorem t_X10_reachedFromFirst_j54 {p : Program} {l : Launch} {e : Env} {s : State} {m : MethodId} {args : Array Value} {below : List Frame} {meth : Method} {c : Code} {A : Nat → Prop} {Q : State → Prop} (G : jGt) (D : va_G) (cI cB cZ : ClassId) (a_t a_t_child a_t_wife : Nat) (u_t_husband u_t_father : Value) (s_t_size : Int32) (r_t_child r_t_wife : jA) (x1 x2 x3 : Int32) (C : jCx p s m args c cX10_reachedFromFirst 4 gX10_reachedFromFirst RX10 G D (jT cI cB cZ) A) {o : (Int32 × Int32) ⊕ ((Int32))} (hf : f_X10_reachedFromFirst_j54 x1 x2 x3 = some o) (K : (∀ z, o = Sum.inl z → ∀ (H : Heap) (locs : List Loc) (ls : Array Slot), va_P D vwCl (w_X10_reachedFromFirst cI cB cZ a_t a_t_child a_t_wife u_t_husband u_t_father s_t_size r_t_child r_t_wife) H → va_D A (w_X10_reachedFromFirst cI cB cZ a_t a_t_child a_t_wife u_t_husband u_t_father s_t_size r_t_child r_t_wife) → va_S A s.heap H locs → lv_has ls 4 [(0, .ref a_t), (1, .int z.1), (2, .int x2), (3, .int z.2)] → W p l e rX10_reachedFromFirst s m args below meth c H locs 0 0 Q (F0 m 14 ls [])) ∧ (∀ z, o = Sum.inr z → ∀ (H : Heap) (locs : List Loc) (ls : Array Slot), va_P D vwCl (w_X10_reachedFromFirst cI cB cZ a_t a_t_child a_t_wife u_t_husband u_t_father s_t_size r_t_child r_t_wife) H → va_D A (w_X10_reachedFromFirst cI cB cZ a_t a_t_child a_t_wife u_t_husband u_t_father s_t_size r_t_child r_t_wife) → va_S A s.heap H locs → lv_has ls 4 [(0, .ref a_t), (1, .int z), (2, .int x2)] → W p l e rX10_reachedFromFirst s m args below meth c H locs 0 0 Q (F0 m 60 ls []))) {H : Heap} {locs : List Loc} {ls : Array Slot} (hP : va_P D vwCl (w_X10_reachedFromFirst cI cB cZ a_t a_t_child a_t_wife u_t_husband u_t_father s_t_size r_t_child r_t_wife) H) (hD : va_D A (w_X10_reachedFromFirst cI cB cZ a_t a_t_child a_t_wife u_t_husband u_t_father s_t_size r_t_child r_t_wife)) (hS : va_S A s.heap H locs) (hl : lv_has ls 4 [(0, .ref a_t), (1, .int x1), (2, .int x2), (3, .int x3)]) : W p l e rX10_reachedFromFirst s m args below meth c H locs 0 0 Q (F0 m 54 ls []) := by
  obtain ⟨⟨hx, hb, hml, hown, hts⟩, hK, hN, hA⟩ := C
  have C : jCx p s m args c cX10_reachedFromFirst 4 gX10_reachedFromFirst RX10 G D (jT cI cB cZ) A := ⟨⟨hx, hb, hml, hown, hts⟩, hK, hN, hA⟩
  unfold f_X10_reachedFromFirst_j54 at hf
  refine lv_iinc (v := (x3 + 1)) (lv' := [(3, .int (x3 + 1)), (0, .ref a_t), (1, .int x1), (2, .int x2)]) hx hb dX10_reachedFromFirst_54 hl (k := 3) rfl (by first | rfl | decide) (by decide) rfl (fun ls hl => ?_)
  refine lv_goto (tgt := 14) hx hb dX10_reachedFromFirst_57 (by decide) ?_
  have ho := Option.some.inj hf
  exact K.1 _ ho.symm _ _ _ hP hD hS (lv_sub hl [1, 2, 3, 0] rfl)
def f_X10_reachedFromFirst_b14 (s_t_size : Int32) (r_t_child r_t_wife : jA) (x1 x2 x3 : Int32) : Option ((Int32 × Int32) ⊕ ((Int32))) :=
  if s_t_size ≤ x3 then
  some (Sum.inr x1)
  else
  if ((x1 >>> (x3 &&& 31)) &&& (1 : Int32)) = 0 then
  f_X10_reachedFromFirst_j54 x1 x2 x3
  else
  jM (f_X11_entry r_t_wife x3) fun r4 =>
  jM (f_X11_entry r_t_child x3) fun r5 =>
  jV (x1 ||| (((1 : Int32) <<< (r4 &&& 31)) ||| ((1 : Int32) <<< (r5 &&& 31)))) fun v6 =>
  f_X10_reachedFromFirst_j54 v6 x2 x3
set_option maxHeartbeats 4000000 in
set_option maxRecDepth 100000 in
theorem t_X10_reachedFromFirst_b14 {p : Program} {l : Launch} {e : Env} {s : State} {m : MethodId} {args : Array Value} {below : List Frame} {meth : Method} {c : Code} {A : Nat → Prop} {Q : State → Prop} (G : jGt) (D : va_G) (cI cB cZ : ClassId) (a_t a_t_child a_t_wife : Nat) (u_t_husband u_t_father : Value) (s_t_size : Int32) (r_t_child r_t_wife : jA) (x1 x2 x3 : Int32) (C : jCx p s m args c cX10_reachedFromFirst 4 gX10_reachedFromFirst RX10 G D (jT cI cB cZ) A) {o : (Int32 × Int32) ⊕ ((Int32))} (hf : f_X10_reachedFromFirst_b14 s_t_size r_t_child r_t_wife x1 x2 x3 = some o) (K : (∀ z, o = Sum.inl z → ∀ (H : Heap) (locs : List Loc) (ls : Array Slot), va_P D vwCl (w_X10_reachedFromFirst cI cB cZ a_t a_t_child a_t_wife u_t_husband u_t_father s_t_size r_t_child r_t_wife) H → va_D A (w_X10_reachedFromFirst cI cB cZ a_t a_t_child a_t_wife u_t_husband u_t_father s_t_size r_t_child r_t_wife) → va_S A s.heap H locs → lv_has ls 4 [(0, .ref a_t), (1, .int z.1), (2, .int x2), (3, .int z.2)] → W p l e rX10_reachedFromFirst s m args below meth c H locs 0 0 Q (F0 m 14 ls [])) ∧ (∀ z, o = Sum.inr z → ∀ (H : Heap) (locs : List Loc) (ls : Array Slot), va_P D vwCl (w_X10_reachedFromFirst cI cB cZ a_t a_t_child a_t_wife u_t_husband u_t_father s_t_size r_t_child r_t_wife) H → va_D A (w_X10_reachedFromFirst cI cB cZ a_t a_t_child a_t_wife u_t_husband u_t_father s_t_size r_t_child r_t_wife) → va_S A s.heap H locs → lv_has ls 4 [(0, .ref a_t), (1, .int z), (2, .int x2)] → W p l e rX10_reachedFromFirst s m args below meth c H locs 0 0 Q (F0 m 60 ls []))) {H : Heap} {locs : List Loc} {ls : Array Slot} (hP : va_P D vwCl (w_X10_reachedFromFirst cI cB cZ a_t a_t_child a_t_wife u_t_husband u_t_father s_t_size r_t_child r_t_wife) H) (hD : va_D A (w_X10_reachedFromFirst cI cB cZ a_t a_t_child a_t_wife u_t_husband u_t_father s_t_size r_t_child r_t_wife)) (hS : va_S A s.heap H locs) (hl : lv_has ls 4 [(0, .ref a_t), (1, .int x1), (2, .int x2), (3, .int x3)]) : W p l e rX10_reachedFromFirst s m args below meth c H locs 0 0 Q (F0 m 14 ls []) := by
  obtain ⟨⟨hx, hb, hml, hown, hts⟩, hK, hN, hA⟩ := C
  have C : jCx p s m args c cX10_reachedFromFirst 4 gX10_reachedFromFirst RX10 G D (jT cI cB cZ) A := ⟨⟨hx, hb, hml, hown, hts⟩, hK, hN, hA⟩
  unfold f_X10_reachedFromFirst_b14 at hf
  refine lv_iload_n hx hb dX10_reachedFromFirst_14 rfl (lv_at hl 3 rfl) ?_
  refine lv_aload_n hx hb dX10_reachedFromFirst_15 rfl (lv_at hl 0 rfl) ?_
  refine va_get (D := D) (ci := 9) (v := .int s_t_size) (C := RX10) (T := TX10) (N := 5) hx hb hts iw_X10 hown hK hP 0 rfl rfl 4 (by decide) (hts _ (wG_in k_fl_X10_30 rfl)) (fun _ h9 => h9) rfl dX10_reachedFromFirst_16 ?_
  refine lv_icmp_ge (tgt := 60) hx hb dX10_reachedFromFirst_19 (by decide) (fun c2 => ?_) (fun c2 => ?_)
  · replace hf := jif_t c2 hf
    have ho := Option.some.inj hf
    exact (K.2 _ ho.symm) _ _ _ hP hD hS (lv_sub hl [0, 1, 2] rfl)
  · replace hf := jif_f c2 hf
    refine lv_iload_n hx hb dX10_reachedFromFirst_22 rfl (lv_at hl 1 rfl) ?_
    refine lv_iload_n hx hb dX10_reachedFromFirst_23 rfl (lv_at hl 3 rfl) ?_
    refine lv_ishr hx hb dX10_reachedFromFirst_24 ?_
    refine lv_iconst (v := (1 : Int32)) hx hb dX10_reachedFromFirst_25 (by decide) ?_
    refine lv_iand hx hb dX10_reachedFromFirst_26 ?_
    refine lv_if_eq (tgt := 54) hx hb dX10_reachedFromFirst_27 (by decide) (fun c3 => ?_) (fun c3 => ?_)
    · replace hf := jif_t c3 hf
      exact t_X10_reachedFromFirst_j54 G D cI cB cZ a_t a_t_child a_t_wife u_t_husband u_t_father s_t_size r_t_child r_t_wife x1 x2 x3 C hf K hP hD hS (lv_sub hl [0, 1, 2, 3] rfl)
    · replace hf := jif_f c3 hf
      refine lv_iload_n hx hb dX10_reachedFromFirst_30 rfl (lv_at hl 1 rfl) ?_
      refine lv_iconst (v := (1 : Int32)) hx hb dX10_reachedFromFirst_31 (by decide) ?_
      refine lv_aload_n hx hb dX10_reachedFromFirst_32 rfl (lv_at hl 0 rfl) ?_
      refine va_get (D := D) (ci := 9) (v := .ref a_t_wife) (C := RX10) (T := TX10) (N := 5) hx hb hts iw_X10 hown hK hP 0 rfl rfl 0 (by decide) (hts _ (wG_in k_fl_X10_9 rfl)) (fun _ h9 => h9) rfl dX10_reachedFromFirst_33 ?_
      refine lv_iload_n hx hb dX10_reachedFromFirst_36 rfl (lv_at hl 3 rfl) ?_
      obtain ⟨r4, hgr4, hf⟩ := jM_some hf
      refine jcN_i0 (As := [.ref a_t_wife, .int x3]) (rest := [.int (1 : Int32), .int x1]) ⟨hx, hb, hml, hown, hts⟩ hK hN hA (c_X11_entry l G D cI cB cZ a_t_wife r_t_wife x3 hgr4) ⟨va_cnB 2 hts (wG_good k_co_X11_entry) rfl rfl rfl (jN_l nl_X10_40 hN) (hts _ (wG_in k_in_X11 rfl)) hd_X11_entry.2 ⟨Nat.le_of_ble_eq_true rfl, Nat.le_of_ble_eq_true rfl⟩, hts _ (wG_in k_st_X11_entry rfl), trivial⟩ hP hD hS [2] rfl rfl rfl rfl hl.1 rfl (Nat.le_of_ble_eq_true rfl) dX10_reachedFromFirst_37 ⟨Nat.le_of_ble_eq_true rfl, Nat.le_of_ble_eq_true rfl⟩ (fun H locs hP hD hS => ?_)
      refine lv_ishl hx hb dX10_reachedFromFirst_40 ?_
      refine lv_iconst (v := (1 : Int32)) hx hb dX10_reachedFromFirst_41 (by decide) ?_
      refine lv_aload_n hx hb dX10_reachedFromFirst_42 rfl (lv_at hl 0 rfl) ?_
      refine va_get (D := D) (ci := 9) (v := .ref a_t_child) (C := RX10) (T := TX10) (N := 5) hx hb hts iw_X10 hown hK hP 0 rfl rfl 1 (by decide) (hts _ (wG_in k_fl_X10_15 rfl)) (fun _ h9 => h9) rfl dX10_reachedFromFirst_43 ?_
      refine lv_iload_n hx hb dX10_reachedFromFirst_46 rfl (lv_at hl 3 rfl) ?_
      obtain ⟨r5, hgr5, hf⟩ := jM_some hf
      refine jcN_i0 (As := [.ref a_t_child, .int x3]) (rest := [.int (1 : Int32), .int ((1 : Int32) <<< (r4 &&& 31)), .int x1]) ⟨hx, hb, hml, hown, hts⟩ hK hN hA (c_X11_entry l G D cI cB cZ a_t_child r_t_child x3 hgr5) ⟨va_cnB 2 hts (wG_good k_co_X11_entry) rfl rfl rfl (jN_l nl_X10_40 hN) (hts _ (wG_in k_in_X11 rfl)) hd_X11_entry.2 ⟨Nat.le_of_ble_eq_true rfl, Nat.le_of_ble_eq_true rfl⟩, hts _ (wG_in k_st_X11_entry rfl), trivial⟩ hP hD hS [1] rfl rfl rfl rfl hl.1 rfl (Nat.le_of_ble_eq_true rfl) dX10_reachedFromFirst_47 ⟨Nat.le_of_ble_eq_true rfl, Nat.le_of_ble_eq_true rfl⟩ (fun H locs hP hD hS => ?_)
      refine lv_ishl hx hb dX10_reachedFromFirst_50 ?_
      refine lv_ior hx hb dX10_reachedFromFirst_51 ?_
      refine lv_ior hx hb dX10_reachedFromFirst_52 ?_
      obtain ⟨v6, hv6, hf⟩ := jV_some hf
      refine jtop hv6 ?_
      refine lv_istore_n (lv' := [(1, .int v6), (0, .ref a_t), (2, .int x2), (3, .int x3)]) hx hb dX10_reachedFromFirst_53 rfl hl (by decide) rfl (fun ls hl => ?_)
      exact t_X10_reachedFromFirst_j54 G D cI cB cZ a_t a_t_child a_t_wife u_t_husband u_t_father s_t_size r_t_child r_t_wife v6 x2 x3 C hf K hP hD hS (lv_sub hl [1, 0, 2, 3] rfl)
def f_X10_reachedFromFirst_l14 (s_t_size : Int32) (r_t_child r_t_wife : jA) (x2 x1 x3 : Int32) : Option ((Int32)) :=
  jI (fun z => f_X10_reachedFromFirst_b14 s_t_size r_t_child r_t_wife z.1 x2 z.2) jF (x1, x3)
set_option maxHeartbeats 4000000 in
set_option maxRecDepth 100000 in
theorem t_X10_reachedFromFirst_l14 {p : Program} {l : Launch} {e : Env} {s : State} {m : MethodId} {args : Array Value} {below : List Frame} {meth : Method} {c : Code} {A : Nat → Prop} {Q : State → Prop} (G : jGt) (D : va_G) (cI cB cZ : ClassId) (a_t a_t_child a_t_wife : Nat) (u_t_husband u_t_father : Value) (s_t_size : Int32) (r_t_child r_t_wife : jA) (x2 : Int32) (C : jCx p s m args c cX10_reachedFromFirst 4 gX10_reachedFromFirst RX10 G D (jT cI cB cZ) A) : ∀ (n : Nat) (x1 x3 : Int32) {eo : (Int32)}, jI (fun z => f_X10_reachedFromFirst_b14 s_t_size r_t_child r_t_wife z.1 x2 z.2) n (x1, x3) = some eo → (∀ (H : Heap) (locs : List Loc) (ls : Array Slot), va_P D vwCl (w_X10_reachedFromFirst cI cB cZ a_t a_t_child a_t_wife u_t_husband u_t_father s_t_size r_t_child r_t_wife) H → va_D A (w_X10_reachedFromFirst cI cB cZ a_t a_t_child a_t_wife u_t_husband u_t_father s_t_size r_t_child r_t_wife) → va_S A s.heap H locs → lv_has ls 4 [(0, .ref a_t), (1, .int eo), (2, .int x2)] → W p l e rX10_reachedFromFirst s m args below meth c H locs 0 0 Q (F0 m 60 ls [])) → ∀ (H : Heap) (locs : List Loc) (ls : Array Slot), va_P D vwCl (w_X10_reachedFromFirst cI cB cZ a_t a_t_child a_t_wife u_t_husband u_t_father s_t_size r_t_child r_t_wife) H → va_D A (w_X10_reachedFromFirst cI cB cZ a_t a_t_child a_t_wife u_t_husband u_t_father s_t_size r_t_child r_t_wife) → va_S A s.heap H locs → lv_has ls 4 [(0, .ref a_t), (1, .int x1), (2, .int x2), (3, .int x3)] → W p l e rX10_reachedFromFirst s m args below meth c H locs 0 0 Q (F0 m 14 ls []) := by
  intro n
  induction n with
  | zero =>
    intro x1 x3 eo hf
    exact (jI_zero hf).elim
  | succ n ih =>
    intro x1 x3 eo hf K H locs ls hP hD hS hl
    obtain ⟨o, hb1, ho⟩ := jI_some hf
    rcases ho with ⟨z, rfl, hf2⟩ | rfl
    · exact t_X10_reachedFromFirst_b14 G D cI cB cZ a_t a_t_child a_t_wife u_t_husband u_t_father s_t_size r_t_child r_t_wife x1 x2 x3 C hb1 ⟨fun z2 hz H locs ls hP hD hS hl => by cases hz; exact ih z.1 z.2 hf2 K H locs ls hP hD hS hl, fun z2 hz => by cases hz⟩ hP hD hS hl
    · exact t_X10_reachedFromFirst_b14 G D cI cB cZ a_t a_t_child a_t_wife u_t_husband u_t_father s_t_size r_t_child r_t_wife x1 x2 x3 C hb1 ⟨fun z2 hz => (by cases hz), fun z2 hz => by cases hz; exact K⟩ hP hD hS hl
def f_X10_reachedFromFirst_b4 (s_t_size : Int32) (r_t_child r_t_wife : jA) (x1 x2 : Int32) : Option ((Int32 × Int32) ⊕ ((Int32))) :=
  if s_t_size ≤ x2 then
  some (Sum.inr x1)
  else
  jM (f_X10_reachedFromFirst_l14 s_t_size r_t_child r_t_wife x2 x1 (0 : Int32)) fun e7 =>
  some (Sum.inl (e7, (x2 + 1)))
set_option maxHeartbeats 4000000 in
set_option maxRecDepth 100000 in
theorem t_X10_reachedFromFirst_b4 {p : Program} {l : Launch} {e : Env} {s : State} {m : MethodId} {args : Array Value} {below : List Frame} {meth : Method} {c : Code} {A : Nat → Prop} {Q : State → Prop} (G : jGt) (D : va_G) (cI cB cZ : ClassId) (a_t a_t_child a_t_wife : Nat) (u_t_husband u_t_father : Value) (s_t_size : Int32) (r_t_child r_t_wife : jA) (x1 x2 : Int32) (C : jCx p s m args c cX10_reachedFromFirst 4 gX10_reachedFromFirst RX10 G D (jT cI cB cZ) A) {o : (Int32 × Int32) ⊕ ((Int32))} (hf : f_X10_reachedFromFirst_b4 s_t_size r_t_child r_t_wife x1 x2 = some o) (K : (∀ z, o = Sum.inl z → ∀ (H : Heap) (locs : List Loc) (ls : Array Slot), va_P D vwCl (w_X10_reachedFromFirst cI cB cZ a_t a_t_child a_t_wife u_t_husband u_t_father s_t_size r_t_child r_t_wife) H → va_D A (w_X10_reachedFromFirst cI cB cZ a_t a_t_child a_t_wife u_t_husband u_t_father s_t_size r_t_child r_t_wife) → va_S A s.heap H locs → lv_has ls 4 [(0, .ref a_t), (1, .int z.1), (2, .int z.2)] → W p l e rX10_reachedFromFirst s m args below meth c H locs 0 0 Q (F0 m 4 ls [])) ∧ (∀ z, o = Sum.inr z → ∀ (H : Heap) (locs : List Loc) (ls : Array Slot), va_P D vwCl (w_X10_reachedFromFirst cI cB cZ a_t a_t_child a_t_wife u_t_husband u_t_father s_t_size r_t_child r_t_wife) H → va_D A (w_X10_reachedFromFirst cI cB cZ a_t a_t_child a_t_wife u_t_husband u_t_father s_t_size r_t_child r_t_wife) → va_S A s.heap H locs → lv_has ls 4 [(1, .int z)] → W p l e rX10_reachedFromFirst s m args below meth c H locs 0 0 Q (F0 m 66 ls []))) {H : Heap} {locs : List Loc} {ls : Array Slot} (hP : va_P D vwCl (w_X10_reachedFromFirst cI cB cZ a_t a_t_child a_t_wife u_t_husband u_t_father s_t_size r_t_child r_t_wife) H) (hD : va_D A (w_X10_reachedFromFirst cI cB cZ a_t a_t_child a_t_wife u_t_husband u_t_father s_t_size r_t_child r_t_wife)) (hS : va_S A s.heap H locs) (hl : lv_has ls 4 [(0, .ref a_t), (1, .int x1), (2, .int x2)]) : W p l e rX10_reachedFromFirst s m args below meth c H locs 0 0 Q (F0 m 4 ls []) := by
  obtain ⟨⟨hx, hb, hml, hown, hts⟩, hK, hN, hA⟩ := C
  have C : jCx p s m args c cX10_reachedFromFirst 4 gX10_reachedFromFirst RX10 G D (jT cI cB cZ) A := ⟨⟨hx, hb, hml, hown, hts⟩, hK, hN, hA⟩
  unfold f_X10_reachedFromFirst_b4 at hf
  refine lv_iload_n hx hb dX10_reachedFromFirst_4 rfl (lv_at hl 2 rfl) ?_
  refine lv_aload_n hx hb dX10_reachedFromFirst_5 rfl (lv_at hl 0 rfl) ?_
  refine va_get (D := D) (ci := 9) (v := .int s_t_size) (C := RX10) (T := TX10) (N := 5) hx hb hts iw_X10 hown hK hP 0 rfl rfl 4 (by decide) (hts _ (wG_in k_fl_X10_30 rfl)) (fun _ h9 => h9) rfl dX10_reachedFromFirst_6 ?_
  refine lv_icmp_ge (tgt := 66) hx hb dX10_reachedFromFirst_9 (by decide) (fun c1 => ?_) (fun c1 => ?_)
  · replace hf := jif_t c1 hf
    have ho := Option.some.inj hf
    exact (K.2 _ ho.symm) _ _ _ hP hD hS (lv_sub hl [1] rfl)
  · replace hf := jif_f c1 hf
    refine lv_iconst (v := (0 : Int32)) hx hb dX10_reachedFromFirst_12 (by decide) ?_
    refine lv_istore_n (lv' := [(3, .int (0 : Int32)), (0, .ref a_t), (1, .int x1), (2, .int x2)]) hx hb dX10_reachedFromFirst_13 rfl hl (by decide) rfl (fun ls hl => ?_)
    obtain ⟨e7, hg7, hf⟩ := jM_some hf
    refine t_X10_reachedFromFirst_l14 G D cI cB cZ a_t a_t_child a_t_wife u_t_husband u_t_father s_t_size r_t_child r_t_wife x2 C jF x1 (0 : Int32) hg7 ?_ _ _ _ hP hD hS (lv_sub hl [1, 2, 3, 0] rfl)
    intro H locs ls hP hD hS hl
    refine lv_iinc (v := (x2 + 1)) (lv' := [(2, .int (x2 + 1)), (0, .ref a_t), (1, .int e7)]) hx hb dX10_reachedFromFirst_60 hl (k := 2) rfl (by first | rfl | decide) (by decide) rfl (fun ls hl => ?_)
    refine lv_goto (tgt := 4) hx hb dX10_reachedFromFirst_63 (by decide) ?_
    have ho := Option.some.inj hf
    exact K.1 _ ho.symm _ _ _ hP hD hS (lv_sub hl [1, 2, 0] rfl)
def f_X10_reachedFromFirst_l4 (s_t_size : Int32) (r_t_child r_t_wife : jA) (x1 x2 : Int32) : Option ((Int32)) :=
  jI (fun z => f_X10_reachedFromFirst_b4 s_t_size r_t_child r_t_wife z.1 z.2) jF (x1, x2)
set_option maxHeartbeats 4000000 in
set_option maxRecDepth 100000 in
theorem t_X10_reachedFromFirst_l4 {p : Program} {l : Launch} {e : Env} {s : State} {m : MethodId} {args : Array Value} {below : List Frame} {meth : Method} {c : Code} {A : Nat → Prop} {Q : State → Prop} (G : jGt) (D : va_G) (cI cB cZ : ClassId) (a_t a_t_child a_t_wife : Nat) (u_t_husband u_t_father : Value) (s_t_size : Int32) (r_t_child r_t_wife : jA)  (C : jCx p s m args c cX10_reachedFromFirst 4 gX10_reachedFromFirst RX10 G D (jT cI cB cZ) A) : ∀ (n : Nat) (x1 x2 : Int32) {eo : (Int32)}, jI (fun z => f_X10_reachedFromFirst_b4 s_t_size r_t_child r_t_wife z.1 z.2) n (x1, x2) = some eo → (∀ (H : Heap) (locs : List Loc) (ls : Array Slot), va_P D vwCl (w_X10_reachedFromFirst cI cB cZ a_t a_t_child a_t_wife u_t_husband u_t_father s_t_size r_t_child r_t_wife) H → va_D A (w_X10_reachedFromFirst cI cB cZ a_t a_t_child a_t_wife u_t_husband u_t_father s_t_size r_t_child r_t_wife) → va_S A s.heap H locs → lv_has ls 4 [(1, .int eo)] → W p l e rX10_reachedFromFirst s m args below meth c H locs 0 0 Q (F0 m 66 ls [])) → ∀ (H : Heap) (locs : List Loc) (ls : Array Slot), va_P D vwCl (w_X10_reachedFromFirst cI cB cZ a_t a_t_child a_t_wife u_t_husband u_t_father s_t_size r_t_child r_t_wife) H → va_D A (w_X10_reachedFromFirst cI cB cZ a_t a_t_child a_t_wife u_t_husband u_t_father s_t_size r_t_child r_t_wife) → va_S A s.heap H locs → lv_has ls 4 [(0, .ref a_t), (1, .int x1), (2, .int x2)] → W p l e rX10_reachedFromFirst s m args below meth c H locs 0 0 Q (F0 m 4 ls []) := by
  intro n
  induction n with
  | zero =>
    intro x1 x2 eo hf
    exact (jI_zero hf).elim
  | succ n ih =>
    intro x1 x2 eo hf K H locs ls hP hD hS hl
    obtain ⟨o, hb1, ho⟩ := jI_some hf
    rcases ho with ⟨z, rfl, hf2⟩ | rfl
    · exact t_X10_reachedFromFirst_b4 G D cI cB cZ a_t a_t_child a_t_wife u_t_husband u_t_father s_t_size r_t_child r_t_wife x1 x2 C hb1 ⟨fun z2 hz H locs ls hP hD hS hl => by cases hz; exact ih z.1 z.2 hf2 K H locs ls hP hD hS hl, fun z2 hz => by cases hz⟩ hP hD hS hl
    · exact t_X10_reachedFromFirst_b4 G D cI cB cZ a_t a_t_child a_t_wife u_t_husband u_t_father s_t_size r_t_child r_t_wife x1 x2 C hb1 ⟨fun z2 hz => (by cases hz), fun z2 hz => by cases hz; exact K⟩ hP hD hS hl
def f_X10_reachedFromFirst (s_t_size : Int32) (r_t_child r_t_wife : jA) : Option (Int32) :=
  jM (f_X10_reachedFromFirst_l4 s_t_size r_t_child r_t_wife (1 : Int32) (0 : Int32)) fun e8 =>
  some e8
set_option maxHeartbeats 4000000 in
set_option maxRecDepth 100000 in
theorem t_X10_reachedFromFirst {p : Program} {l : Launch} {e : Env} {s : State} {m : MethodId} {args : Array Value} {below : List Frame} {meth : Method} {c : Code} {A : Nat → Prop} {Q : State → Prop} (G : jGt) (D : va_G) (cI cB cZ : ClassId) (a_t a_t_child a_t_wife : Nat) (u_t_husband u_t_father : Value) (s_t_size : Int32) (r_t_child r_t_wife : jA)  (C : jCx p s m args c cX10_reachedFromFirst 4 gX10_reachedFromFirst RX10 G D (jT cI cB cZ) A) {o : Int32} (hf : f_X10_reachedFromFirst s_t_size r_t_child r_t_wife = some o) (K : ∀ (H : Heap) (locs : List Loc) (pc : Nat) (ls : Array Slot), va_P D vwCl (w_X10_reachedFromFirst cI cB cZ a_t a_t_child a_t_wife u_t_husband u_t_father s_t_size r_t_child r_t_wife) H → va_S A s.heap H locs → decode cX10_reachedFromFirst pc = .ok (.ireturn, 1) → W p l e rX10_reachedFromFirst s m args below meth c H locs 0 0 Q (F0 m pc ls [.int o])) {H : Heap} {locs : List Loc} {ls : Array Slot} (hP : va_P D vwCl (w_X10_reachedFromFirst cI cB cZ a_t a_t_child a_t_wife u_t_husband u_t_father s_t_size r_t_child r_t_wife) H) (hD : va_D A (w_X10_reachedFromFirst cI cB cZ a_t a_t_child a_t_wife u_t_husband u_t_father s_t_size r_t_child r_t_wife)) (hS : va_S A s.heap H locs) (hl : lv_has ls 4 [(0, .ref a_t)]) : W p l e rX10_reachedFromFirst s m args below meth c H locs 0 0 Q (F0 m 0 ls []) := by
  obtain ⟨⟨hx, hb, hml, hown, hts⟩, hK, hN, hA⟩ := C
  have C : jCx p s m args c cX10_reachedFromFirst 4 gX10_reachedFromFirst RX10 G D (jT cI cB cZ) A := ⟨⟨hx, hb, hml, hown, hts⟩, hK, hN, hA⟩
  unfold f_X10_reachedFromFirst at hf
  refine lv_iconst (v := (1 : Int32)) hx hb dX10_reachedFromFirst_0 (by decide) ?_
  refine lv_istore_n (lv' := [(1, .int (1 : Int32)), (0, .ref a_t)]) hx hb dX10_reachedFromFirst_1 rfl hl (by decide) rfl (fun ls hl => ?_)
  refine lv_iconst (v := (0 : Int32)) hx hb dX10_reachedFromFirst_2 (by decide) ?_
  refine lv_istore_n (lv' := [(2, .int (0 : Int32)), (1, .int (1 : Int32)), (0, .ref a_t)]) hx hb dX10_reachedFromFirst_3 rfl hl (by decide) rfl (fun ls hl => ?_)
  obtain ⟨e8, hg8, hf⟩ := jM_some hf
  refine t_X10_reachedFromFirst_l4 G D cI cB cZ a_t a_t_child a_t_wife u_t_husband u_t_father s_t_size r_t_child r_t_wife  C jF (1 : Int32) (0 : Int32) hg8 ?_ _ _ _ hP hD hS (lv_sub hl [2, 1, 0] rfl)
  intro H locs ls hP hD hS hl
  refine lv_iload_n hx hb dX10_reachedFromFirst_66 rfl (lv_at hl 0 rfl) ?_
  have ho := Option.some.inj hf
  subst ho
  exact K _ _ _ _ hP hS dX10_reachedFromFirst_67
set_option maxHeartbeats 4000000 in
set_option maxRecDepth 100000 in
theorem c_X10_reachedFromFirst (l : Launch) (G : jGt) (D : va_G) (cI cB cZ : ClassId) (a_t a_t_child a_t_wife : Nat) (u_t_husband u_t_father : Value) (s_t_size : Int32) (r_t_child r_t_wife : jA)  {o : Int32} (hf : f_X10_reachedFromFirst s_t_size r_t_child r_t_wife = some o) : jMi l yX10_reachedFromFirst gX10_reachedFromFirst rX10_reachedFromFirst G D (jT cI cB cZ) [.ref a_t] (w_X10_reachedFromFirst cI cB cZ a_t a_t_child a_t_wife u_t_husband u_t_father s_t_size r_t_child r_t_wife) (w_X10_reachedFromFirst cI cB cZ a_t a_t_child a_t_wife u_t_husband u_t_father s_t_size r_t_child r_t_wife) o := by
  refine jmk_i RX10 rfl (by decide +kernel) rfl (Nat.le_of_ble_eq_true rfl) rfl ?_
  intro p e s m args below meth c ls A Q C hP hD hS hl K
  exact t_X10_reachedFromFirst G D cI cB cZ a_t a_t_child a_t_wife u_t_husband u_t_father s_t_size r_t_child r_t_wife  C hf K hP hD hS hl
abbrev rX10_isProper : Room := { frames := 2, cells := 0, slots := 0, locals := 44 }
abbrev gX10_isProper : List Cond := wG yX10_isProper cX10_isProper 2 (some .boolean)
def w_X10_isProper (cI cB cZ : ClassId) (a_t a_t_child a_t_wife : Nat) (u_t_husband u_t_father : Value) (s_t_size : Int32) (r_t_child r_t_wife : jA) : va_W := [(a_t, .inr (9, (oX10 (.ref a_t_wife) (.ref a_t_child) u_t_husband u_t_father s_t_size))), (a_t_child, .inl (cI, r_t_child.1, .inl r_t_child.2)), (a_t_wife, .inl (cI, r_t_wife.1, .inl r_t_wife.2))]
def f_X10_isProper_b2 (s_t_size : Int32) (r_t_wife : jA) (x1 : Int32) : Option ((Int32) ⊕ ((Unit) ⊕ ((Unit)))) :=
  if s_t_size ≤ x1 then
  some (Sum.inr (Sum.inr ()))
  else
  jM (f_X11_entry r_t_wife x1) fun r2 =>
  if r2 = x1 then
  some (Sum.inr (Sum.inl ()))
  else
  some (Sum.inl (x1 + 1))
set_option maxHeartbeats 4000000 in
set_option maxRecDepth 100000 in
theorem t_X10_isProper_b2 {p : Program} {l : Launch} {e : Env} {s : State} {m : MethodId} {args : Array Value} {below : List Frame} {meth : Method} {c : Code} {A : Nat → Prop} {Q : State → Prop} (G : jGt) (D : va_G) (cI cB cZ : ClassId) (a_t a_t_child a_t_wife : Nat) (u_t_husband u_t_father : Value) (s_t_size : Int32) (r_t_child r_t_wife : jA) (x1 : Int32) (C : jCx p s m args c cX10_isProper 2 gX10_isProper RX10 G D (jT cI cB cZ) A) {o : (Int32) ⊕ ((Unit) ⊕ ((Unit)))} (hf : f_X10_isProper_b2 s_t_size r_t_wife x1 = some o) (K : (∀ z, o = Sum.inl z → ∀ (H : Heap) (locs : List Loc) (ls : Array Slot), va_P D vwCl (w_X10_isProper cI cB cZ a_t a_t_child a_t_wife u_t_husband u_t_father s_t_size r_t_child r_t_wife) H → va_D A (w_X10_isProper cI cB cZ a_t a_t_child a_t_wife u_t_husband u_t_father s_t_size r_t_child r_t_wife) → va_S A s.heap H locs → lv_has ls 2 [(0, .ref a_t), (1, .int z)] → W p l e rX10_isProper s m args below meth c H locs 0 0 Q (F0 m 2 ls [])) ∧ (∀ z, o = Sum.inr z → (∀ y0, z = Sum.inl y0 → ∀ (H : Heap) (locs : List Loc) (ls : Array Slot), va_P D vwCl (w_X10_isProper cI cB cZ a_t a_t_child a_t_wife u_t_husband u_t_father s_t_size r_t_child r_t_wife) H → va_D A (w_X10_isProper cI cB cZ a_t a_t_child a_t_wife u_t_husband u_t_father s_t_size r_t_child r_t_wife) → va_S A s.heap H locs → lv_has ls 2 [] → W p l e rX10_isProper s m args below meth c H locs 0 0 Q (F0 m 22 ls [])) ∧ (∀ z0, z = Sum.inr z0 → ∀ (H : Heap) (locs : List Loc) (ls : Array Slot), va_P D vwCl (w_X10_isProper cI cB cZ a_t a_t_child a_t_wife u_t_husband u_t_father s_t_size r_t_child r_t_wife) H → va_D A (w_X10_isProper cI cB cZ a_t a_t_child a_t_wife u_t_husband u_t_father s_t_size r_t_child r_t_wife) → va_S A s.heap H locs → lv_has ls 2 [(0, .ref a_t)] → W p l e rX10_isProper s m args below meth c H locs 0 0 Q (F0 m 30 ls [])))) {H : Heap} {locs : List Loc} {ls : Array Slot} (hP : va_P D vwCl (w_X10_isProper cI cB cZ a_t a_t_child a_t_wife u_t_husband u_t_father s_t_size r_t_child r_t_wife) H) (hD : va_D A (w_X10_isProper cI cB cZ a_t a_t_child a_t_wife u_t_husband u_t_father s_t_size r_t_child r_t_wife)) (hS : va_S A s.heap H locs) (hl : lv_has ls 2 [(0, .ref a_t), (1, .int x1)]) : W p l e rX10_isProper s m args below meth c H locs 0 0 Q (F0 m 2 ls []) := by
  obtain ⟨⟨hx, hb, hml, hown, hts⟩, hK, hN, hA⟩ := C
  have C : jCx p s m args c cX10_isProper 2 gX10_isProper RX10 G D (jT cI cB cZ) A := ⟨⟨hx, hb, hml, hown, hts⟩, hK, hN, hA⟩
  unfold f_X10_isProper_b2 at hf
  refine lv_iload_n hx hb dX10_isProper_2 rfl (lv_at hl 1 rfl) ?_
  refine lv_aload_n hx hb dX10_isProper_3 rfl (lv_at hl 0 rfl) ?_
  refine va_get (D := D) (ci := 9) (v := .int s_t_size) (C := RX10) (T := TX10) (N := 5) hx hb hts iw_X10 hown hK hP 0 rfl rfl 4 (by decide) (hts _ (wG_in k_fl_X10_30 rfl)) (fun _ h9 => h9) rfl dX10_isProper_4 ?_
  refine lv_icmp_ge (tgt := 30) hx hb dX10_isProper_7 (by decide) (fun c1 => ?_) (fun c1 => ?_)
  · replace hf := jif_t c1 hf
    have ho := Option.some.inj hf
    exact ((K.2 _ ho.symm).2 _ rfl) _ _ _ hP hD hS (lv_sub hl [0] rfl)
  · replace hf := jif_f c1 hf
    refine lv_aload_n hx hb dX10_isProper_10 rfl (lv_at hl 0 rfl) ?_
    refine va_get (D := D) (ci := 9) (v := .ref a_t_wife) (C := RX10) (T := TX10) (N := 5) hx hb hts iw_X10 hown hK hP 0 rfl rfl 0 (by decide) (hts _ (wG_in k_fl_X10_9 rfl)) (fun _ h9 => h9) rfl dX10_isProper_11 ?_
    refine lv_iload_n hx hb dX10_isProper_14 rfl (lv_at hl 1 rfl) ?_
    obtain ⟨r2, hgr2, hf⟩ := jM_some hf
    refine jcN_i0 (As := [.ref a_t_wife, .int x1]) (rest := []) ⟨hx, hb, hml, hown, hts⟩ hK hN hA (c_X11_entry l G D cI cB cZ a_t_wife r_t_wife x1 hgr2) ⟨va_cnB 2 hts (wG_good k_co_X11_entry) rfl rfl rfl (jN_l nl_X10_40 hN) (hts _ (wG_in k_in_X11 rfl)) hd_X11_entry.2 ⟨Nat.le_of_ble_eq_true rfl, Nat.le_of_ble_eq_true rfl⟩, hts _ (wG_in k_st_X11_entry rfl), trivial⟩ hP hD hS [2] rfl rfl rfl rfl hl.1 rfl (Nat.le_of_ble_eq_true rfl) dX10_isProper_15 ⟨Nat.le_of_ble_eq_true rfl, Nat.le_of_ble_eq_true rfl⟩ (fun H locs hP hD hS => ?_)
    refine lv_iload_n hx hb dX10_isProper_18 rfl (lv_at hl 1 rfl) ?_
    refine lv_icmp_ne (tgt := 24) hx hb dX10_isProper_19 (by decide) (fun c3 => ?_) (fun c3 => ?_)
    · replace hf := jif_f c3 hf
      refine lv_iinc (v := (x1 + 1)) (lv' := [(1, .int (x1 + 1)), (0, .ref a_t)]) hx hb dX10_isProper_24 hl (k := 1) rfl (by first | rfl | decide) (by decide) rfl (fun ls hl => ?_)
      refine lv_goto (tgt := 2) hx hb dX10_isProper_27 (by decide) ?_
      have ho := Option.some.inj hf
      exact K.1 _ ho.symm _ _ _ hP hD hS (lv_sub hl [1, 0] rfl)
    · replace hf := jif_t c3 hf
      have ho := Option.some.inj hf
      exact ((K.2 _ ho.symm).1 _ rfl) _ _ _ hP hD hS (lv_sub hl [] rfl)
def f_X10_isProper_l2 (s_t_size : Int32) (r_t_wife : jA) (x1 : Int32) : Option ((Unit) ⊕ ((Unit))) :=
  jI (fun z => f_X10_isProper_b2 s_t_size r_t_wife z) jF x1
set_option maxHeartbeats 4000000 in
set_option maxRecDepth 100000 in
theorem t_X10_isProper_l2 {p : Program} {l : Launch} {e : Env} {s : State} {m : MethodId} {args : Array Value} {below : List Frame} {meth : Method} {c : Code} {A : Nat → Prop} {Q : State → Prop} (G : jGt) (D : va_G) (cI cB cZ : ClassId) (a_t a_t_child a_t_wife : Nat) (u_t_husband u_t_father : Value) (s_t_size : Int32) (r_t_child r_t_wife : jA)  (C : jCx p s m args c cX10_isProper 2 gX10_isProper RX10 G D (jT cI cB cZ) A) : ∀ (n : Nat) (x1 : Int32) {eo : (Unit) ⊕ ((Unit))}, jI (fun z => f_X10_isProper_b2 s_t_size r_t_wife z) n x1 = some eo → ((∀ y0, eo = Sum.inl y0 → ∀ (H : Heap) (locs : List Loc) (ls : Array Slot), va_P D vwCl (w_X10_isProper cI cB cZ a_t a_t_child a_t_wife u_t_husband u_t_father s_t_size r_t_child r_t_wife) H → va_D A (w_X10_isProper cI cB cZ a_t a_t_child a_t_wife u_t_husband u_t_father s_t_size r_t_child r_t_wife) → va_S A s.heap H locs → lv_has ls 2 [] → W p l e rX10_isProper s m args below meth c H locs 0 0 Q (F0 m 22 ls [])) ∧ (∀ z0, eo = Sum.inr z0 → ∀ (H : Heap) (locs : List Loc) (ls : Array Slot), va_P D vwCl (w_X10_isProper cI cB cZ a_t a_t_child a_t_wife u_t_husband u_t_father s_t_size r_t_child r_t_wife) H → va_D A (w_X10_isProper cI cB cZ a_t a_t_child a_t_wife u_t_husband u_t_father s_t_size r_t_child r_t_wife) → va_S A s.heap H locs → lv_has ls 2 [(0, .ref a_t)] → W p l e rX10_isProper s m args below meth c H locs 0 0 Q (F0 m 30 ls []))) → ∀ (H : Heap) (locs : List Loc) (ls : Array Slot), va_P D vwCl (w_X10_isProper cI cB cZ a_t a_t_child a_t_wife u_t_husband u_t_father s_t_size r_t_child r_t_wife) H → va_D A (w_X10_isProper cI cB cZ a_t a_t_child a_t_wife u_t_husband u_t_father s_t_size r_t_child r_t_wife) → va_S A s.heap H locs → lv_has ls 2 [(0, .ref a_t), (1, .int x1)] → W p l e rX10_isProper s m args below meth c H locs 0 0 Q (F0 m 2 ls []) := by
  intro n
  induction n with
  | zero =>
    intro x1 eo hf
    exact (jI_zero hf).elim
  | succ n ih =>
    intro x1 eo hf K H locs ls hP hD hS hl
    obtain ⟨o, hb1, ho⟩ := jI_some hf
    rcases ho with ⟨z, rfl, hf2⟩ | rfl
    · exact t_X10_isProper_b2 G D cI cB cZ a_t a_t_child a_t_wife u_t_husband u_t_father s_t_size r_t_child r_t_wife x1 C hb1 ⟨fun z2 hz H locs ls hP hD hS hl => by cases hz; exact ih z hf2 K H locs ls hP hD hS hl, fun z2 hz => by cases hz⟩ hP hD hS hl
    · exact t_X10_isProper_b2 G D cI cB cZ a_t a_t_child a_t_wife u_t_husband u_t_father s_t_size r_t_child r_t_wife x1 C hb1 ⟨fun z2 hz => (by cases hz), fun z2 hz => by cases hz; exact K⟩ hP hD hS hl
def f_X10_isProper (s_t_size : Int32) (r_t_child r_t_wife : jA) : Option (Int32) :=
  jM (f_X10_isProper_l2 s_t_size r_t_wife (0 : Int32)) fun e4 =>
  Sum.elim (fun y5 =>
  some (0 : Int32)) (fun w6 =>
  jM (f_X10_reachedFromFirst s_t_size r_t_child r_t_wife) fun r7 =>
  if r7 = (((1 : Int32) <<< (s_t_size &&& 31)) - (1 : Int32)) then
  some (1 : Int32)
  else
  some (0 : Int32)) e4
set_option maxHeartbeats 4000000 in
set_option maxRecDepth 100000 in
theorem t_X10_isProper {p : Program} {l : Launch} {e : Env} {s : State} {m : MethodId} {args : Array Value} {below : List Frame} {meth : Method} {c : Code} {A : Nat → Prop} {Q : State → Prop} (G : jGt) (D : va_G) (cI cB cZ : ClassId) (a_t a_t_child a_t_wife : Nat) (u_t_husband u_t_father : Value) (s_t_size : Int32) (r_t_child r_t_wife : jA)  (C : jCx p s m args c cX10_isProper 2 gX10_isProper RX10 G D (jT cI cB cZ) A) {o : Int32} (hf : f_X10_isProper s_t_size r_t_child r_t_wife = some o) (K : ∀ (H : Heap) (locs : List Loc) (pc : Nat) (ls : Array Slot), (o = 0 ∨ o = 1) → va_P D vwCl (w_X10_isProper cI cB cZ a_t a_t_child a_t_wife u_t_husband u_t_father s_t_size r_t_child r_t_wife) H → va_S A s.heap H locs → decode cX10_isProper pc = .ok (.ireturn, 1) → W p l e rX10_isProper s m args below meth c H locs 0 0 Q (F0 m pc ls [.int o])) {H : Heap} {locs : List Loc} {ls : Array Slot} (hP : va_P D vwCl (w_X10_isProper cI cB cZ a_t a_t_child a_t_wife u_t_husband u_t_father s_t_size r_t_child r_t_wife) H) (hD : va_D A (w_X10_isProper cI cB cZ a_t a_t_child a_t_wife u_t_husband u_t_father s_t_size r_t_child r_t_wife)) (hS : va_S A s.heap H locs) (hl : lv_has ls 2 [(0, .ref a_t)]) : W p l e rX10_isProper s m args below meth c H locs 0 0 Q (F0 m 0 ls []) := by
  obtain ⟨⟨hx, hb, hml, hown, hts⟩, hK, hN, hA⟩ := C
  have C : jCx p s m args c cX10_isProper 2 gX10_isProper RX10 G D (jT cI cB cZ) A := ⟨⟨hx, hb, hml, hown, hts⟩, hK, hN, hA⟩
  unfold f_X10_isProper at hf
  refine lv_iconst (v := (0 : Int32)) hx hb dX10_isProper_0 (by decide) ?_
  refine lv_istore_n (lv' := [(1, .int (0 : Int32)), (0, .ref a_t)]) hx hb dX10_isProper_1 rfl hl (by decide) rfl (fun ls hl => ?_)
  obtain ⟨e4, hg4, hf⟩ := jM_some hf
  refine t_X10_isProper_l2 G D cI cB cZ a_t a_t_child a_t_wife u_t_husband u_t_father s_t_size r_t_child r_t_wife  C jF (0 : Int32) hg4 ?_ _ _ _ hP hD hS (lv_sub hl [1, 0] rfl)
  refine ⟨fun y5 hy => ?_, fun w6 hy => ?_⟩
  · replace hf := jE_l hy hf
    intro H locs ls hP hD hS hl
    refine lv_iconst (v := (0 : Int32)) hx hb dX10_isProper_22 (by decide) ?_
    have ho := Option.some.inj hf
    subst ho
    exact K _ _ _ _ (Or.inl rfl) hP hS dX10_isProper_23
  · replace hf := jE_r hy hf
    intro H locs ls hP hD hS hl
    refine lv_aload_n hx hb dX10_isProper_30 rfl (lv_at hl 0 rfl) ?_
    obtain ⟨r7, hgr7, hf⟩ := jM_some hf
    refine jcV_i0 (As := []) (rest := []) ⟨hx, hb, hml, hown, hts⟩ hK hN hA (c_X10_reachedFromFirst l G D cI cB cZ a_t a_t_child a_t_wife u_t_husband u_t_father s_t_size r_t_child r_t_wife hgr7) (cwV 0 hts (wG_V k_ml_X10_79 k_im_X10_reachedFromFirst k_se_X10_reachedFromFirst k_in_X10 k_co_X10_reachedFromFirst) rfl rfl rfl hd_X10_reachedFromFirst ⟨Nat.le_of_ble_eq_true rfl, Nat.le_of_ble_eq_true rfl⟩) hP hD hS [0, 1, 2] rfl rfl rfl (ci := 9) rfl 0 rfl rfl rfl hl.1 rfl (Nat.le_of_ble_eq_true rfl) dX10_isProper_31 ⟨Nat.le_of_ble_eq_true rfl, Nat.le_of_ble_eq_true rfl⟩ (fun H locs hP hD hS => ?_)
    refine lv_iconst (v := (1 : Int32)) hx hb dX10_isProper_34 (by decide) ?_
    refine lv_aload_n hx hb dX10_isProper_35 rfl (lv_at hl 0 rfl) ?_
    refine va_get (D := D) (ci := 9) (v := .int s_t_size) (C := RX10) (T := TX10) (N := 5) hx hb hts iw_X10 hown hK hP 0 rfl rfl 4 (by decide) (hts _ (wG_in k_fl_X10_30 rfl)) (fun _ h9 => h9) rfl dX10_isProper_36 ?_
    refine lv_ishl hx hb dX10_isProper_39 ?_
    refine lv_iconst (v := (1 : Int32)) hx hb dX10_isProper_40 (by decide) ?_
    refine lv_isub hx hb dX10_isProper_41 ?_
    refine lv_icmp_ne (tgt := 49) hx hb dX10_isProper_42 (by decide) (fun c8 => ?_) (fun c8 => ?_)
    · replace hf := jif_f c8 hf
      refine lv_iconst (v := (0 : Int32)) hx hb dX10_isProper_49 (by decide) ?_
      have ho := Option.some.inj hf
      subst ho
      exact K _ _ _ _ (Or.inl rfl) hP hS dX10_isProper_50
    · replace hf := jif_t c8 hf
      refine lv_iconst (v := (1 : Int32)) hx hb dX10_isProper_45 (by decide) ?_
      refine lv_goto (tgt := 50) hx hb dX10_isProper_46 (by decide) ?_
      have ho := Option.some.inj hf
      subst ho
      exact K _ _ _ _ (Or.inr rfl) hP hS dX10_isProper_50
set_option maxHeartbeats 4000000 in
set_option maxRecDepth 100000 in
theorem c_X10_isProper (l : Launch) (G : jGt) (D : va_G) (cI cB cZ : ClassId) (a_t a_t_child a_t_wife : Nat) (u_t_husband u_t_father : Value) (s_t_size : Int32) (r_t_child r_t_wife : jA)  {o : Int32} (hf : f_X10_isProper s_t_size r_t_child r_t_wife = some o) : jMi l yX10_isProper gX10_isProper rX10_isProper G D (jT cI cB cZ) [.ref a_t] (w_X10_isProper cI cB cZ a_t a_t_child a_t_wife u_t_husband u_t_father s_t_size r_t_child r_t_wife) (w_X10_isProper cI cB cZ a_t a_t_child a_t_wife u_t_husband u_t_father s_t_size r_t_child r_t_wife) o := by
  refine jmk_z RX10 rfl (by decide +kernel) rfl (Nat.le_of_ble_eq_true rfl) rfl ?_
  intro p e s m args below meth c ls A Q C hP hD hS hl K
  exact t_X10_isProper G D cI cB cZ a_t a_t_child a_t_wife u_t_husband u_t_father s_t_size r_t_child r_t_wife  C hf K hP hD hS hl
abbrev rX0_addKindsWith : Room := { frames := 3, cells := 0, slots := 0, locals := 72 }
abbrev gX0_addKindsWith : List Cond := wG yX0_addKindsWith cX0_addKindsWith 4 none
def w_X0_addKindsWith (cI cB cZ : ClassId) (a_t a_t_children a_t_keepers a_t_orders a_t_shares a_t_wheel a_t_wives a_t_wheel_child a_t_wheel_father a_t_wheel_husband a_t_wheel_wife : Nat) (u_t_lawful : Value) (u_t_lawfulCount u_t_lawfulSystems : Int32) (u_t_judgedBy : Value) (u_t_judged s_t_keeperCount s_t_kindCount s_t_orderCount s_t_size : Int32) (r_t_children r_t_keepers r_t_orders r_t_shares : jA) (s_t_wheel_size : Int32) (r_t_wives r_t_wheel_child r_t_wheel_father r_t_wheel_husband r_t_wheel_wife : jA) : va_W := [(a_t, .inr (0, (oX0 s_t_size (.ref a_t_orders) s_t_orderCount (.ref a_t_keepers) s_t_keeperCount (.ref a_t_wives) (.ref a_t_children) (.ref a_t_shares) s_t_kindCount u_t_lawful u_t_lawfulCount u_t_lawfulSystems u_t_judgedBy u_t_judged (.ref a_t_wheel)))), (a_t_children, .inl (cI, r_t_children.1, .inl r_t_children.2)), (a_t_keepers, .inl (cI, r_t_keepers.1, .inl r_t_keepers.2)), (a_t_orders, .inl (cI, r_t_orders.1, .inl r_t_orders.2)), (a_t_shares, .inl (cI, r_t_shares.1, .inl r_t_shares.2)), (a_t_wheel, .inr (9, (oX10 (.ref a_t_wheel_wife) (.ref a_t_wheel_child) (.ref a_t_wheel_husband) (.ref a_t_wheel_father) s_t_wheel_size))), (a_t_wives, .inl (cI, r_t_wives.1, .inl r_t_wives.2)), (a_t_wheel_child, .inl (cI, r_t_wheel_child.1, .inl r_t_wheel_child.2)), (a_t_wheel_father, .inl (cI, r_t_wheel_father.1, .inl r_t_wheel_father.2)), (a_t_wheel_husband, .inl (cI, r_t_wheel_husband.1, .inl r_t_wheel_husband.2)), (a_t_wheel_wife, .inl (cI, r_t_wheel_wife.1, .inl r_t_wheel_wife.2))]
def f_X0_addKindsWith_j118 (s_t_kindCount : Int32) (r_t_children r_t_shares : jA) (s_t_wheel_size : Int32) (r_t_wives r_t_wheel_child r_t_wheel_father r_t_wheel_husband r_t_wheel_wife : jA) (x1 x2 : Int32) : Option ((Int32 × jA × jA × Int32 × jA × jA × jA × jA × jA × Int32) ⊕ ((Int32 × jA × jA × Int32 × jA × jA × jA × jA × jA))) :=
  some (Sum.inl (s_t_kindCount, r_t_children, r_t_shares, s_t_wheel_size, r_t_wives, r_t_wheel_child, r_t_wheel_father, r_t_wheel_husband, r_t_wheel_wife, (x2 + 1)))
set_option maxHeartbeats 4000000 in
set_option maxRecDepth 100000 in
theorem t_X0_addKindsWith_j118 {p : Program} {l : Launch} {e : Env} {s : State} {m : MethodId} {args : Array Value} {below : List Frame} {meth : Method} {c : Code} {A : Nat → Prop} {Q : State → Prop} (G : jGt) (D : va_G) (cI cB cZ : ClassId) (a_t a_t_children a_t_keepers a_t_orders a_t_shares a_t_wheel a_t_wives a_t_wheel_child a_t_wheel_father a_t_wheel_husband a_t_wheel_wife : Nat) (u_t_lawful : Value) (u_t_lawfulCount u_t_lawfulSystems : Int32) (u_t_judgedBy : Value) (u_t_judged s_t_keeperCount s_t_orderCount s_t_size : Int32) (r_t_keepers r_t_orders : jA) (s_t_kindCount : Int32) (r_t_children r_t_shares : jA) (s_t_wheel_size : Int32) (r_t_wives r_t_wheel_child r_t_wheel_father r_t_wheel_husband r_t_wheel_wife : jA) (x1 x2 : Int32) (C : jCx p s m args c cX0_addKindsWith 4 gX0_addKindsWith RX0 G D (jT cI cB cZ) A) {o : (Int32 × jA × jA × Int32 × jA × jA × jA × jA × jA × Int32) ⊕ ((Int32 × jA × jA × Int32 × jA × jA × jA × jA × jA))} (hf : f_X0_addKindsWith_j118 s_t_kindCount r_t_children r_t_shares s_t_wheel_size r_t_wives r_t_wheel_child r_t_wheel_father r_t_wheel_husband r_t_wheel_wife x1 x2 = some o) (K : (∀ z, o = Sum.inl z → ∀ (H : Heap) (locs : List Loc) (ls : Array Slot), va_P D vwCl (w_X0_addKindsWith cI cB cZ a_t a_t_children a_t_keepers a_t_orders a_t_shares a_t_wheel a_t_wives a_t_wheel_child a_t_wheel_father a_t_wheel_husband a_t_wheel_wife u_t_lawful u_t_lawfulCount u_t_lawfulSystems u_t_judgedBy u_t_judged s_t_keeperCount z.1 s_t_orderCount s_t_size z.2.1 r_t_keepers r_t_orders z.2.2.1 z.2.2.2.1 z.2.2.2.2.1 z.2.2.2.2.2.1 z.2.2.2.2.2.2.1 z.2.2.2.2.2.2.2.1 z.2.2.2.2.2.2.2.2.1) H → va_D A (w_X0_addKindsWith cI cB cZ a_t a_t_children a_t_keepers a_t_orders a_t_shares a_t_wheel a_t_wives a_t_wheel_child a_t_wheel_father a_t_wheel_husband a_t_wheel_wife u_t_lawful u_t_lawfulCount u_t_lawfulSystems u_t_judgedBy u_t_judged s_t_keeperCount z.1 s_t_orderCount s_t_size z.2.1 r_t_keepers r_t_orders z.2.2.1 z.2.2.2.1 z.2.2.2.2.1 z.2.2.2.2.2.1 z.2.2.2.2.2.2.1 z.2.2.2.2.2.2.2.1 z.2.2.2.2.2.2.2.2.1) → va_S A s.heap H locs → lv_has ls 4 [(0, .ref a_t), (1, .int x1), (2, .int z.2.2.2.2.2.2.2.2.2)] → W p l e rX0_addKindsWith s m args below meth c H locs 0 0 Q (F0 m 2 ls [])) ∧ (∀ z, o = Sum.inr z → ∀ (H : Heap) (locs : List Loc) (ls : Array Slot), va_P D vwCl (w_X0_addKindsWith cI cB cZ a_t a_t_children a_t_keepers a_t_orders a_t_shares a_t_wheel a_t_wives a_t_wheel_child a_t_wheel_father a_t_wheel_husband a_t_wheel_wife u_t_lawful u_t_lawfulCount u_t_lawfulSystems u_t_judgedBy u_t_judged s_t_keeperCount z.1 s_t_orderCount s_t_size z.2.1 r_t_keepers r_t_orders z.2.2.1 z.2.2.2.1 z.2.2.2.2.1 z.2.2.2.2.2.1 z.2.2.2.2.2.2.1 z.2.2.2.2.2.2.2.1 z.2.2.2.2.2.2.2.2) H → va_D A (w_X0_addKindsWith cI cB cZ a_t a_t_children a_t_keepers a_t_orders a_t_shares a_t_wheel a_t_wives a_t_wheel_child a_t_wheel_father a_t_wheel_husband a_t_wheel_wife u_t_lawful u_t_lawfulCount u_t_lawfulSystems u_t_judgedBy u_t_judged s_t_keeperCount z.1 s_t_orderCount s_t_size z.2.1 r_t_keepers r_t_orders z.2.2.1 z.2.2.2.1 z.2.2.2.2.1 z.2.2.2.2.2.1 z.2.2.2.2.2.2.1 z.2.2.2.2.2.2.2.1 z.2.2.2.2.2.2.2.2) → va_S A s.heap H locs → lv_has ls 4 [] → W p l e rX0_addKindsWith s m args below meth c H locs 0 0 Q (F0 m 124 ls []))) {H : Heap} {locs : List Loc} {ls : Array Slot} (hP : va_P D vwCl (w_X0_addKindsWith cI cB cZ a_t a_t_children a_t_keepers a_t_orders a_t_shares a_t_wheel a_t_wives a_t_wheel_child a_t_wheel_father a_t_wheel_husband a_t_wheel_wife u_t_lawful u_t_lawfulCount u_t_lawfulSystems u_t_judgedBy u_t_judged s_t_keeperCount s_t_kindCount s_t_orderCount s_t_size r_t_children r_t_keepers r_t_orders r_t_shares s_t_wheel_size r_t_wives r_t_wheel_child r_t_wheel_father r_t_wheel_husband r_t_wheel_wife) H) (hD : va_D A (w_X0_addKindsWith cI cB cZ a_t a_t_children a_t_keepers a_t_orders a_t_shares a_t_wheel a_t_wives a_t_wheel_child a_t_wheel_father a_t_wheel_husband a_t_wheel_wife u_t_lawful u_t_lawfulCount u_t_lawfulSystems u_t_judgedBy u_t_judged s_t_keeperCount s_t_kindCount s_t_orderCount s_t_size r_t_children r_t_keepers r_t_orders r_t_shares s_t_wheel_size r_t_wives r_t_wheel_child r_t_wheel_father r_t_wheel_husband r_t_wheel_wife)) (hS : va_S A s.heap H locs) (hl : lv_has ls 4 [(0, .ref a_t), (1, .int x1), (2, .int x2)]) : W p l e rX0_addKindsWith s m args below meth c H locs 0 0 Q (F0 m 118 ls []) := by
  obtain ⟨⟨hx, hb, hml, hown, hts⟩, hK, hN, hA⟩ := C
  have C : jCx p s m args c cX0_addKindsWith 4 gX0_addKindsWith RX0 G D (jT cI cB cZ) A := ⟨⟨hx, hb, hml, hown, hts⟩, hK, hN, hA⟩
  unfold f_X0_addKindsWith_j118 at hf
  refine lv_iinc (v := (x2 + 1)) (lv' := [(2, .int (x2 + 1)), (0, .ref a_t), (1, .int x1)]) hx hb dX0_addKindsWith_118 hl (k := 2) rfl (by first | rfl | decide) (by decide) rfl (fun ls hl => ?_)
  refine lv_goto (tgt := 2) hx hb dX0_addKindsWith_121 (by decide) ?_
  have ho := Option.some.inj hf
  exact K.1 _ ho.symm _ _ _ hP hD hS (lv_sub hl [1, 2, 0] rfl)
def f_X0_addKindsWith_b2 (s_t_keeperCount s_t_orderCount s_t_size : Int32) (r_t_keepers r_t_orders : jA) (s_t_kindCount : Int32) (r_t_children r_t_shares : jA) (s_t_wheel_size : Int32) (r_t_wives r_t_wheel_child r_t_wheel_father r_t_wheel_husband r_t_wheel_wife : jA) (x1 x2 : Int32) : Option ((Int32 × jA × jA × Int32 × jA × jA × jA × jA × jA × Int32) ⊕ ((Int32 × jA × jA × Int32 × jA × jA × jA × jA × jA))) :=
  if s_t_orderCount ≤ x2 then
  some (Sum.inr (s_t_kindCount, r_t_children, r_t_shares, s_t_wheel_size, r_t_wives, r_t_wheel_child, r_t_wheel_father, r_t_wheel_husband, r_t_wheel_wife))
  else
  if (120 : Int32) ≤ x2 then
  some (Sum.inr (s_t_kindCount, r_t_children, r_t_shares, s_t_wheel_size, r_t_wives, r_t_wheel_child, r_t_wheel_father, r_t_wheel_husband, r_t_wheel_wife))
  else
  jL r_t_orders x2 fun v3 =>
  jM (f_X0_namesThatKeep s_t_keeperCount s_t_size r_t_keepers v3) fun r4 =>
  jL r_t_orders x2 fun v5 =>
  jM (f_X10_put s_t_wheel_size r_t_wheel_child r_t_wheel_father r_t_wheel_husband r_t_wheel_wife s_t_size x1 v5) fun r6 =>
  if r4 ≤ 0 then
  f_X0_addKindsWith_j118 s_t_kindCount r_t_children r_t_shares r6.1 r_t_wives r6.2.1 r6.2.2.1 r6.2.2.2.1 r6.2.2.2.2 x1 x2
  else
  if (64 : Int32) ≤ s_t_kindCount then
  f_X0_addKindsWith_j118 s_t_kindCount r_t_children r_t_shares r6.1 r_t_wives r6.2.1 r6.2.2.1 r6.2.2.2.1 r6.2.2.2.2 x1 x2
  else
  jM (f_X10_isProper r6.1 r6.2.1 r6.2.2.2.2) fun r9 =>
  if r9 = 0 then
  f_X0_addKindsWith_j118 s_t_kindCount r_t_children r_t_shares r6.1 r_t_wives r6.2.1 r6.2.2.1 r6.2.2.2.1 r6.2.2.2.2 x1 x2
  else
  jS r_t_wives s_t_kindCount x1 fun q11 =>
  jL r_t_orders x2 fun v12 =>
  jS r_t_children s_t_kindCount v12 fun q13 =>
  jQ r4 <|
  jS r_t_shares s_t_kindCount (s_t_orderCount / r4) fun q15 =>
  jV (s_t_kindCount + (1 : Int32)) fun v16 =>
  f_X0_addKindsWith_j118 v16 q13 q15 r6.1 q11 r6.2.1 r6.2.2.1 r6.2.2.2.1 r6.2.2.2.2 x1 x2
set_option maxHeartbeats 4000000 in
set_option maxRecDepth 100000 in
theorem t_X0_addKindsWith_b2 {p : Program} {l : Launch} {e : Env} {s : State} {m : MethodId} {args : Array Value} {below : List Frame} {meth : Method} {c : Code} {A : Nat → Prop} {Q : State → Prop} (G : jGt) (D : va_G) (cI cB cZ : ClassId) (a_t a_t_children a_t_keepers a_t_orders a_t_shares a_t_wheel a_t_wives a_t_wheel_child a_t_wheel_father a_t_wheel_husband a_t_wheel_wife : Nat) (u_t_lawful : Value) (u_t_lawfulCount u_t_lawfulSystems : Int32) (u_t_judgedBy : Value) (u_t_judged s_t_keeperCount s_t_orderCount s_t_size : Int32) (r_t_keepers r_t_orders : jA) (s_t_kindCount : Int32) (r_t_children r_t_shares : jA) (s_t_wheel_size : Int32) (r_t_wives r_t_wheel_child r_t_wheel_father r_t_wheel_husband r_t_wheel_wife : jA) (x1 x2 : Int32) (C : jCx p s m args c cX0_addKindsWith 4 gX0_addKindsWith RX0 G D (jT cI cB cZ) A) {o : (Int32 × jA × jA × Int32 × jA × jA × jA × jA × jA × Int32) ⊕ ((Int32 × jA × jA × Int32 × jA × jA × jA × jA × jA))} (hf : f_X0_addKindsWith_b2 s_t_keeperCount s_t_orderCount s_t_size r_t_keepers r_t_orders s_t_kindCount r_t_children r_t_shares s_t_wheel_size r_t_wives r_t_wheel_child r_t_wheel_father r_t_wheel_husband r_t_wheel_wife x1 x2 = some o) (K : (∀ z, o = Sum.inl z → ∀ (H : Heap) (locs : List Loc) (ls : Array Slot), va_P D vwCl (w_X0_addKindsWith cI cB cZ a_t a_t_children a_t_keepers a_t_orders a_t_shares a_t_wheel a_t_wives a_t_wheel_child a_t_wheel_father a_t_wheel_husband a_t_wheel_wife u_t_lawful u_t_lawfulCount u_t_lawfulSystems u_t_judgedBy u_t_judged s_t_keeperCount z.1 s_t_orderCount s_t_size z.2.1 r_t_keepers r_t_orders z.2.2.1 z.2.2.2.1 z.2.2.2.2.1 z.2.2.2.2.2.1 z.2.2.2.2.2.2.1 z.2.2.2.2.2.2.2.1 z.2.2.2.2.2.2.2.2.1) H → va_D A (w_X0_addKindsWith cI cB cZ a_t a_t_children a_t_keepers a_t_orders a_t_shares a_t_wheel a_t_wives a_t_wheel_child a_t_wheel_father a_t_wheel_husband a_t_wheel_wife u_t_lawful u_t_lawfulCount u_t_lawfulSystems u_t_judgedBy u_t_judged s_t_keeperCount z.1 s_t_orderCount s_t_size z.2.1 r_t_keepers r_t_orders z.2.2.1 z.2.2.2.1 z.2.2.2.2.1 z.2.2.2.2.2.1 z.2.2.2.2.2.2.1 z.2.2.2.2.2.2.2.1 z.2.2.2.2.2.2.2.2.1) → va_S A s.heap H locs → lv_has ls 4 [(0, .ref a_t), (1, .int x1), (2, .int z.2.2.2.2.2.2.2.2.2)] → W p l e rX0_addKindsWith s m args below meth c H locs 0 0 Q (F0 m 2 ls [])) ∧ (∀ z, o = Sum.inr z → ∀ (H : Heap) (locs : List Loc) (ls : Array Slot), va_P D vwCl (w_X0_addKindsWith cI cB cZ a_t a_t_children a_t_keepers a_t_orders a_t_shares a_t_wheel a_t_wives a_t_wheel_child a_t_wheel_father a_t_wheel_husband a_t_wheel_wife u_t_lawful u_t_lawfulCount u_t_lawfulSystems u_t_judgedBy u_t_judged s_t_keeperCount z.1 s_t_orderCount s_t_size z.2.1 r_t_keepers r_t_orders z.2.2.1 z.2.2.2.1 z.2.2.2.2.1 z.2.2.2.2.2.1 z.2.2.2.2.2.2.1 z.2.2.2.2.2.2.2.1 z.2.2.2.2.2.2.2.2) H → va_D A (w_X0_addKindsWith cI cB cZ a_t a_t_children a_t_keepers a_t_orders a_t_shares a_t_wheel a_t_wives a_t_wheel_child a_t_wheel_father a_t_wheel_husband a_t_wheel_wife u_t_lawful u_t_lawfulCount u_t_lawfulSystems u_t_judgedBy u_t_judged s_t_keeperCount z.1 s_t_orderCount s_t_size z.2.1 r_t_keepers r_t_orders z.2.2.1 z.2.2.2.1 z.2.2.2.2.1 z.2.2.2.2.2.1 z.2.2.2.2.2.2.1 z.2.2.2.2.2.2.2.1 z.2.2.2.2.2.2.2.2) → va_S A s.heap H locs → lv_has ls 4 [] → W p l e rX0_addKindsWith s m args below meth c H locs 0 0 Q (F0 m 124 ls []))) {H : Heap} {locs : List Loc} {ls : Array Slot} (hP : va_P D vwCl (w_X0_addKindsWith cI cB cZ a_t a_t_children a_t_keepers a_t_orders a_t_shares a_t_wheel a_t_wives a_t_wheel_child a_t_wheel_father a_t_wheel_husband a_t_wheel_wife u_t_lawful u_t_lawfulCount u_t_lawfulSystems u_t_judgedBy u_t_judged s_t_keeperCount s_t_kindCount s_t_orderCount s_t_size r_t_children r_t_keepers r_t_orders r_t_shares s_t_wheel_size r_t_wives r_t_wheel_child r_t_wheel_father r_t_wheel_husband r_t_wheel_wife) H) (hD : va_D A (w_X0_addKindsWith cI cB cZ a_t a_t_children a_t_keepers a_t_orders a_t_shares a_t_wheel a_t_wives a_t_wheel_child a_t_wheel_father a_t_wheel_husband a_t_wheel_wife u_t_lawful u_t_lawfulCount u_t_lawfulSystems u_t_judgedBy u_t_judged s_t_keeperCount s_t_kindCount s_t_orderCount s_t_size r_t_children r_t_keepers r_t_orders r_t_shares s_t_wheel_size r_t_wives r_t_wheel_child r_t_wheel_father r_t_wheel_husband r_t_wheel_wife)) (hS : va_S A s.heap H locs) (hl : lv_has ls 4 [(0, .ref a_t), (1, .int x1), (2, .int x2)]) : W p l e rX0_addKindsWith s m args below meth c H locs 0 0 Q (F0 m 2 ls []) := by
  obtain ⟨⟨hx, hb, hml, hown, hts⟩, hK, hN, hA⟩ := C
  have C : jCx p s m args c cX0_addKindsWith 4 gX0_addKindsWith RX0 G D (jT cI cB cZ) A := ⟨⟨hx, hb, hml, hown, hts⟩, hK, hN, hA⟩
  unfold f_X0_addKindsWith_b2 at hf
  refine lv_iload_n hx hb dX0_addKindsWith_2 rfl (lv_at hl 2 rfl) ?_
  refine lv_aload_n hx hb dX0_addKindsWith_3 rfl (lv_at hl 0 rfl) ?_
  refine va_get (D := D) (ci := 0) (v := .int s_t_orderCount) (C := RX0) (T := TX0) (N := 15) hx hb hts iw_X0 hown hK hP 0 rfl rfl 2 (by decide) (hts _ (wG_in k_fl_X0_51 rfl)) (fun _ h9 => h9) rfl dX0_addKindsWith_4 ?_
  refine lv_icmp_ge (tgt := 124) hx hb dX0_addKindsWith_7 (by decide) (fun c1 => ?_) (fun c1 => ?_)
  · replace hf := jif_t c1 hf
    have ho := Option.some.inj hf
    exact (K.2 _ ho.symm) _ _ _ hP hD hS (lv_sub hl [] rfl)
  · replace hf := jif_f c1 hf
    refine lv_iload_n hx hb dX0_addKindsWith_10 rfl (lv_at hl 2 rfl) ?_
    refine lv_bipush (v := (120 : Int32)) hx hb dX0_addKindsWith_11 (by decide) ?_
    refine lv_icmp_ge (tgt := 124) hx hb dX0_addKindsWith_13 (by decide) (fun c2 => ?_) (fun c2 => ?_)
    · replace hf := jif_t c2 hf
      have ho := Option.some.inj hf
      exact (K.2 _ ho.symm) _ _ _ hP hD hS (lv_sub hl [] rfl)
    · replace hf := jif_f c2 hf
      refine lv_aload_n hx hb dX0_addKindsWith_16 rfl (lv_at hl 0 rfl) ?_
      refine lv_aload_n hx hb dX0_addKindsWith_17 rfl (lv_at hl 0 rfl) ?_
      refine va_get (D := D) (ci := 0) (v := .ref a_t_orders) (C := RX0) (T := TX0) (N := 15) hx hb hts iw_X0 hown hK hP 0 rfl rfl 1 (by decide) (hts _ (wG_in k_fl_X0_11 rfl)) (fun _ h9 => h9) rfl dX0_addKindsWith_18 ?_
      refine lv_iload_n hx hb dX0_addKindsWith_21 rfl (lv_at hl 2 rfl) ?_
      obtain ⟨v3, hv3, iv3, hf⟩ := jL_some hf
      refine ja_iald (P := r_t_orders) hx hb hK hP 3 0 rfl rfl hv3 iv3 dX0_addKindsWith_22 ?_
      obtain ⟨r4, hgr4, hf⟩ := jM_some hf
      refine jcV_i0 (As := [.int v3]) (rest := []) ⟨hx, hb, hml, hown, hts⟩ hK hN hA (c_X0_namesThatKeep l G D cI cB cZ a_t a_t_keepers (.ref a_t_orders) s_t_orderCount (.ref a_t_wives) (.ref a_t_children) (.ref a_t_shares) s_t_kindCount u_t_lawful u_t_lawfulCount u_t_lawfulSystems u_t_judgedBy u_t_judged (.ref a_t_wheel) s_t_keeperCount s_t_size r_t_keepers v3 hgr4) (cwV 1 hts (wG_V k_ml_X0_82 k_im_X0_namesThatKeep k_se_X0_namesThatKeep k_in_X0 k_co_X0_namesThatKeep) rfl rfl rfl hd_X0_namesThatKeep ⟨Nat.le_of_ble_eq_true rfl, Nat.le_of_ble_eq_true rfl⟩) hP hD hS [0, 2] rfl rfl rfl (ci := 0) rfl 0 rfl rfl rfl hl.1 rfl (Nat.le_of_ble_eq_true rfl) dX0_addKindsWith_23 ⟨Nat.le_of_ble_eq_true rfl, Nat.le_of_ble_eq_true rfl⟩ (fun H locs hP hD hS => ?_)
      refine lv_istore_n (lv' := [(3, .int r4), (0, .ref a_t), (1, .int x1), (2, .int x2)]) hx hb dX0_addKindsWith_26 rfl hl (by decide) rfl (fun ls hl => ?_)
      refine lv_aload_n hx hb dX0_addKindsWith_27 rfl (lv_at hl 1 rfl) ?_
      refine va_get (D := D) (ci := 0) (v := .ref a_t_wheel) (C := RX0) (T := TX0) (N := 15) hx hb hts iw_X0 hown hK hP 0 rfl rfl 14 (by decide) (hts _ (wG_in k_fl_X0_40 rfl)) (fun _ h9 => h9) rfl dX0_addKindsWith_28 ?_
      refine lv_aload_n hx hb dX0_addKindsWith_31 rfl (lv_at hl 1 rfl) ?_
      refine va_get (D := D) (ci := 0) (v := .int s_t_size) (C := RX0) (T := TX0) (N := 15) hx hb hts iw_X0 hown hK hP 0 rfl rfl 0 (by decide) (hts _ (wG_in k_fl_X0_44 rfl)) (fun _ h9 => h9) rfl dX0_addKindsWith_32 ?_
      refine lv_iload_n hx hb dX0_addKindsWith_35 rfl (lv_at hl 2 rfl) ?_
      refine lv_aload_n hx hb dX0_addKindsWith_36 rfl (lv_at hl 1 rfl) ?_
      refine va_get (D := D) (ci := 0) (v := .ref a_t_orders) (C := RX0) (T := TX0) (N := 15) hx hb hts iw_X0 hown hK hP 0 rfl rfl 1 (by decide) (hts _ (wG_in k_fl_X0_11 rfl)) (fun _ h9 => h9) rfl dX0_addKindsWith_37 ?_
      refine lv_iload_n hx hb dX0_addKindsWith_40 rfl (lv_at hl 3 rfl) ?_
      obtain ⟨v5, hv5, iv5, hf⟩ := jL_some hf
      refine ja_iald (P := r_t_orders) hx hb hK hP 3 0 rfl rfl hv5 iv5 dX0_addKindsWith_41 ?_
      obtain ⟨r6, hgr6, hf⟩ := jM_some hf
      refine jcV_v (As := [.int s_t_size, .int x1, .int v5]) (rest := []) ⟨hx, hb, hml, hown, hts⟩ hK hN hA (c_X10_put l G D cI cB cZ a_t_wheel a_t_wheel_child a_t_wheel_father a_t_wheel_husband a_t_wheel_wife s_t_wheel_size r_t_wheel_child r_t_wheel_father r_t_wheel_husband r_t_wheel_wife s_t_size x1 v5 hgr6) (cwV 3 hts (wG_V k_ml_X0_86 k_im_X10_put k_se_X10_put k_in_X10 k_co_X10_put) rfl rfl rfl hd_X10_put ⟨Nat.le_of_ble_eq_true rfl, Nat.le_of_ble_eq_true rfl⟩) hP hD hS [5, 7, 8, 9, 10] rfl rfl rfl (ci := 9) rfl 5 rfl rfl rfl hl.1 rfl (Nat.le_of_ble_eq_true rfl) dX0_addKindsWith_42 ⟨Nat.le_of_ble_eq_true rfl, Nat.le_of_ble_eq_true rfl⟩ (fun H locs hP hD hS => ?_)
      have hP : va_P D vwCl (w_X0_addKindsWith cI cB cZ a_t a_t_children a_t_keepers a_t_orders a_t_shares a_t_wheel a_t_wives a_t_wheel_child a_t_wheel_father a_t_wheel_husband a_t_wheel_wife u_t_lawful u_t_lawfulCount u_t_lawfulSystems u_t_judgedBy u_t_judged s_t_keeperCount s_t_kindCount s_t_orderCount s_t_size r_t_children r_t_keepers r_t_orders r_t_shares r6.1 r_t_wives r6.2.1 r6.2.2.1 r6.2.2.2.1 r6.2.2.2.2) H := hP
      have hD : va_D A (w_X0_addKindsWith cI cB cZ a_t a_t_children a_t_keepers a_t_orders a_t_shares a_t_wheel a_t_wives a_t_wheel_child a_t_wheel_father a_t_wheel_husband a_t_wheel_wife u_t_lawful u_t_lawfulCount u_t_lawfulSystems u_t_judgedBy u_t_judged s_t_keeperCount s_t_kindCount s_t_orderCount s_t_size r_t_children r_t_keepers r_t_orders r_t_shares r6.1 r_t_wives r6.2.1 r6.2.2.1 r6.2.2.2.1 r6.2.2.2.2) := hD
      refine lv_iload_n hx hb dX0_addKindsWith_45 rfl (lv_at hl 0 rfl) ?_
      refine lv_if_le (tgt := 118) hx hb dX0_addKindsWith_46 (by decide) (fun c7 => ?_) (fun c7 => ?_)
      · replace hf := jif_t c7 hf
        exact t_X0_addKindsWith_j118 G D cI cB cZ a_t a_t_children a_t_keepers a_t_orders a_t_shares a_t_wheel a_t_wives a_t_wheel_child a_t_wheel_father a_t_wheel_husband a_t_wheel_wife u_t_lawful u_t_lawfulCount u_t_lawfulSystems u_t_judgedBy u_t_judged s_t_keeperCount s_t_orderCount s_t_size r_t_keepers r_t_orders s_t_kindCount r_t_children r_t_shares r6.1 r_t_wives r6.2.1 r6.2.2.1 r6.2.2.2.1 r6.2.2.2.2 x1 x2 C hf K hP hD hS (lv_sub hl [1, 2, 3] rfl)
      · replace hf := jif_f c7 hf
        refine lv_aload_n hx hb dX0_addKindsWith_49 rfl (lv_at hl 1 rfl) ?_
        refine va_get (D := D) (ci := 0) (v := .int s_t_kindCount) (C := RX0) (T := TX0) (N := 15) hx hb hts iw_X0 hown hK hP 0 rfl rfl 8 (by decide) (hts _ (wG_in k_fl_X0_90 rfl)) (fun _ h9 => h9) rfl dX0_addKindsWith_50 ?_
        refine lv_bipush (v := (64 : Int32)) hx hb dX0_addKindsWith_53 (by decide) ?_
        refine lv_icmp_ge (tgt := 118) hx hb dX0_addKindsWith_55 (by decide) (fun c8 => ?_) (fun c8 => ?_)
        · replace hf := jif_t c8 hf
          exact t_X0_addKindsWith_j118 G D cI cB cZ a_t a_t_children a_t_keepers a_t_orders a_t_shares a_t_wheel a_t_wives a_t_wheel_child a_t_wheel_father a_t_wheel_husband a_t_wheel_wife u_t_lawful u_t_lawfulCount u_t_lawfulSystems u_t_judgedBy u_t_judged s_t_keeperCount s_t_orderCount s_t_size r_t_keepers r_t_orders s_t_kindCount r_t_children r_t_shares r6.1 r_t_wives r6.2.1 r6.2.2.1 r6.2.2.2.1 r6.2.2.2.2 x1 x2 C hf K hP hD hS (lv_sub hl [1, 2, 3] rfl)
        · replace hf := jif_f c8 hf
          refine lv_aload_n hx hb dX0_addKindsWith_58 rfl (lv_at hl 1 rfl) ?_
          refine va_get (D := D) (ci := 0) (v := .ref a_t_wheel) (C := RX0) (T := TX0) (N := 15) hx hb hts iw_X0 hown hK hP 0 rfl rfl 14 (by decide) (hts _ (wG_in k_fl_X0_40 rfl)) (fun _ h9 => h9) rfl dX0_addKindsWith_59 ?_
          obtain ⟨r9, hgr9, hf⟩ := jM_some hf
          refine jcV_i0 (As := []) (rest := []) ⟨hx, hb, hml, hown, hts⟩ hK hN hA (c_X10_isProper l G D cI cB cZ a_t_wheel a_t_wheel_child a_t_wheel_wife (.ref a_t_wheel_husband) (.ref a_t_wheel_father) r6.1 r6.2.1 r6.2.2.2.2 hgr9) (cwV 0 hts (wG_V k_ml_X0_93 k_im_X10_isProper k_se_X10_isProper k_in_X10 k_co_X10_isProper) rfl rfl rfl hd_X10_isProper ⟨Nat.le_of_ble_eq_true rfl, Nat.le_of_ble_eq_true rfl⟩) hP hD hS [5, 7, 10] rfl rfl rfl (ci := 9) rfl 5 rfl rfl rfl hl.1 rfl (Nat.le_of_ble_eq_true rfl) dX0_addKindsWith_62 ⟨Nat.le_of_ble_eq_true rfl, Nat.le_of_ble_eq_true rfl⟩ (fun H locs hP hD hS => ?_)
          refine lv_if_eq (tgt := 118) hx hb dX0_addKindsWith_65 (by decide) (fun c10 => ?_) (fun c10 => ?_)
          · replace hf := jif_t c10 hf
            exact t_X0_addKindsWith_j118 G D cI cB cZ a_t a_t_children a_t_keepers a_t_orders a_t_shares a_t_wheel a_t_wives a_t_wheel_child a_t_wheel_father a_t_wheel_husband a_t_wheel_wife u_t_lawful u_t_lawfulCount u_t_lawfulSystems u_t_judgedBy u_t_judged s_t_keeperCount s_t_orderCount s_t_size r_t_keepers r_t_orders s_t_kindCount r_t_children r_t_shares r6.1 r_t_wives r6.2.1 r6.2.2.1 r6.2.2.2.1 r6.2.2.2.2 x1 x2 C hf K hP hD hS (lv_sub hl [1, 2, 3] rfl)
          · replace hf := jif_f c10 hf
            refine lv_aload_n hx hb dX0_addKindsWith_68 rfl (lv_at hl 1 rfl) ?_
            refine va_get (D := D) (ci := 0) (v := .ref a_t_wives) (C := RX0) (T := TX0) (N := 15) hx hb hts iw_X0 hown hK hP 0 rfl rfl 5 (by decide) (hts _ (wG_in k_fl_X0_18 rfl)) (fun _ h9 => h9) rfl dX0_addKindsWith_69 ?_
            refine lv_aload_n hx hb dX0_addKindsWith_72 rfl (lv_at hl 1 rfl) ?_
            refine va_get (D := D) (ci := 0) (v := .int s_t_kindCount) (C := RX0) (T := TX0) (N := 15) hx hb hts iw_X0 hown hK hP 0 rfl rfl 8 (by decide) (hts _ (wG_in k_fl_X0_90 rfl)) (fun _ h9 => h9) rfl dX0_addKindsWith_73 ?_
            refine lv_iload_n hx hb dX0_addKindsWith_76 rfl (lv_at hl 2 rfl) ?_
            obtain ⟨q11, hq11, iq11, hf⟩ := jS_some hf
            refine ja_iast (P := r_t_wives) (P' := q11) hx hb hK hP hD hS 6 0 rfl rfl hq11 iq11 dX0_addKindsWith_77 (fun H locs hP hD hS => ?_)
            have hP : va_P D vwCl (w_X0_addKindsWith cI cB cZ a_t a_t_children a_t_keepers a_t_orders a_t_shares a_t_wheel a_t_wives a_t_wheel_child a_t_wheel_father a_t_wheel_husband a_t_wheel_wife u_t_lawful u_t_lawfulCount u_t_lawfulSystems u_t_judgedBy u_t_judged s_t_keeperCount s_t_kindCount s_t_orderCount s_t_size r_t_children r_t_keepers r_t_orders r_t_shares r6.1 q11 r6.2.1 r6.2.2.1 r6.2.2.2.1 r6.2.2.2.2) H := hP
            have hD : va_D A (w_X0_addKindsWith cI cB cZ a_t a_t_children a_t_keepers a_t_orders a_t_shares a_t_wheel a_t_wives a_t_wheel_child a_t_wheel_father a_t_wheel_husband a_t_wheel_wife u_t_lawful u_t_lawfulCount u_t_lawfulSystems u_t_judgedBy u_t_judged s_t_keeperCount s_t_kindCount s_t_orderCount s_t_size r_t_children r_t_keepers r_t_orders r_t_shares r6.1 q11 r6.2.1 r6.2.2.1 r6.2.2.2.1 r6.2.2.2.2) := hD
            refine lv_aload_n hx hb dX0_addKindsWith_78 rfl (lv_at hl 1 rfl) ?_
            refine va_get (D := D) (ci := 0) (v := .ref a_t_children) (C := RX0) (T := TX0) (N := 15) hx hb hts iw_X0 hown hK hP 0 rfl rfl 6 (by decide) (hts _ (wG_in k_fl_X0_21 rfl)) (fun _ h9 => h9) rfl dX0_addKindsWith_79 ?_
            refine lv_aload_n hx hb dX0_addKindsWith_82 rfl (lv_at hl 1 rfl) ?_
            refine va_get (D := D) (ci := 0) (v := .int s_t_kindCount) (C := RX0) (T := TX0) (N := 15) hx hb hts iw_X0 hown hK hP 0 rfl rfl 8 (by decide) (hts _ (wG_in k_fl_X0_90 rfl)) (fun _ h9 => h9) rfl dX0_addKindsWith_83 ?_
            refine lv_aload_n hx hb dX0_addKindsWith_86 rfl (lv_at hl 1 rfl) ?_
            refine va_get (D := D) (ci := 0) (v := .ref a_t_orders) (C := RX0) (T := TX0) (N := 15) hx hb hts iw_X0 hown hK hP 0 rfl rfl 1 (by decide) (hts _ (wG_in k_fl_X0_11 rfl)) (fun _ h9 => h9) rfl dX0_addKindsWith_87 ?_
            refine lv_iload_n hx hb dX0_addKindsWith_90 rfl (lv_at hl 3 rfl) ?_
            obtain ⟨v12, hv12, iv12, hf⟩ := jL_some hf
            refine ja_iald (P := r_t_orders) hx hb hK hP 3 0 rfl rfl hv12 iv12 dX0_addKindsWith_91 ?_
            obtain ⟨q13, hq13, iq13, hf⟩ := jS_some hf
            refine ja_iast (P := r_t_children) (P' := q13) hx hb hK hP hD hS 1 0 rfl rfl hq13 iq13 dX0_addKindsWith_92 (fun H locs hP hD hS => ?_)
            have hP : va_P D vwCl (w_X0_addKindsWith cI cB cZ a_t a_t_children a_t_keepers a_t_orders a_t_shares a_t_wheel a_t_wives a_t_wheel_child a_t_wheel_father a_t_wheel_husband a_t_wheel_wife u_t_lawful u_t_lawfulCount u_t_lawfulSystems u_t_judgedBy u_t_judged s_t_keeperCount s_t_kindCount s_t_orderCount s_t_size q13 r_t_keepers r_t_orders r_t_shares r6.1 q11 r6.2.1 r6.2.2.1 r6.2.2.2.1 r6.2.2.2.2) H := hP
            have hD : va_D A (w_X0_addKindsWith cI cB cZ a_t a_t_children a_t_keepers a_t_orders a_t_shares a_t_wheel a_t_wives a_t_wheel_child a_t_wheel_father a_t_wheel_husband a_t_wheel_wife u_t_lawful u_t_lawfulCount u_t_lawfulSystems u_t_judgedBy u_t_judged s_t_keeperCount s_t_kindCount s_t_orderCount s_t_size q13 r_t_keepers r_t_orders r_t_shares r6.1 q11 r6.2.1 r6.2.2.1 r6.2.2.2.1 r6.2.2.2.2) := hD
            refine lv_aload_n hx hb dX0_addKindsWith_93 rfl (lv_at hl 1 rfl) ?_
            refine va_get (D := D) (ci := 0) (v := .ref a_t_shares) (C := RX0) (T := TX0) (N := 15) hx hb hts iw_X0 hown hK hP 0 rfl rfl 7 (by decide) (hts _ (wG_in k_fl_X0_24 rfl)) (fun _ h9 => h9) rfl dX0_addKindsWith_94 ?_
            refine lv_aload_n hx hb dX0_addKindsWith_97 rfl (lv_at hl 1 rfl) ?_
            refine va_get (D := D) (ci := 0) (v := .int s_t_kindCount) (C := RX0) (T := TX0) (N := 15) hx hb hts iw_X0 hown hK hP 0 rfl rfl 8 (by decide) (hts _ (wG_in k_fl_X0_90 rfl)) (fun _ h9 => h9) rfl dX0_addKindsWith_98 ?_
            refine lv_aload_n hx hb dX0_addKindsWith_101 rfl (lv_at hl 1 rfl) ?_
            refine va_get (D := D) (ci := 0) (v := .int s_t_orderCount) (C := RX0) (T := TX0) (N := 15) hx hb hts iw_X0 hown hK hP 0 rfl rfl 2 (by decide) (hts _ (wG_in k_fl_X0_51 rfl)) (fun _ h9 => h9) rfl dX0_addKindsWith_102 ?_
            refine lv_iload_n hx hb dX0_addKindsWith_105 rfl (lv_at hl 0 rfl) ?_
            obtain ⟨hq14, hf⟩ := jQ_some hf
            refine lv_idiv hx hb dX0_addKindsWith_106 hq14 ?_
            obtain ⟨q15, hq15, iq15, hf⟩ := jS_some hf
            refine ja_iast (P := r_t_shares) (P' := q15) hx hb hK hP hD hS 4 0 rfl rfl hq15 iq15 dX0_addKindsWith_107 (fun H locs hP hD hS => ?_)
            have hP : va_P D vwCl (w_X0_addKindsWith cI cB cZ a_t a_t_children a_t_keepers a_t_orders a_t_shares a_t_wheel a_t_wives a_t_wheel_child a_t_wheel_father a_t_wheel_husband a_t_wheel_wife u_t_lawful u_t_lawfulCount u_t_lawfulSystems u_t_judgedBy u_t_judged s_t_keeperCount s_t_kindCount s_t_orderCount s_t_size q13 r_t_keepers r_t_orders q15 r6.1 q11 r6.2.1 r6.2.2.1 r6.2.2.2.1 r6.2.2.2.2) H := hP
            have hD : va_D A (w_X0_addKindsWith cI cB cZ a_t a_t_children a_t_keepers a_t_orders a_t_shares a_t_wheel a_t_wives a_t_wheel_child a_t_wheel_father a_t_wheel_husband a_t_wheel_wife u_t_lawful u_t_lawfulCount u_t_lawfulSystems u_t_judgedBy u_t_judged s_t_keeperCount s_t_kindCount s_t_orderCount s_t_size q13 r_t_keepers r_t_orders q15 r6.1 q11 r6.2.1 r6.2.2.1 r6.2.2.2.1 r6.2.2.2.2) := hD
            refine lv_aload_n hx hb dX0_addKindsWith_108 rfl (lv_at hl 1 rfl) ?_
            refine lv_dup hx hb dX0_addKindsWith_109 rfl ?_
            refine va_get (D := D) (ci := 0) (v := .int s_t_kindCount) (C := RX0) (T := TX0) (N := 15) hx hb hts iw_X0 hown hK hP 0 rfl rfl 8 (by decide) (hts _ (wG_in k_fl_X0_90 rfl)) (fun _ h9 => h9) rfl dX0_addKindsWith_110 ?_
            refine lv_iconst (v := (1 : Int32)) hx hb dX0_addKindsWith_113 (by decide) ?_
            refine lv_iadd hx hb dX0_addKindsWith_114 ?_
            obtain ⟨v16, hv16, hf⟩ := jV_some hf
            refine jtop hv16 ?_
            refine va_put (D := D) (ci := 0) (v := .int v16) (ty := .int) (C := RX0) (T := TX0) (N := 15) hx hb hts iw_X0 tyX0 tyX0_ok nmX0 hown hK hP hD hS 0 rfl rfl 8 (by decide) (hts _ (wG_in k_fl_X0_90 rfl)) (fun _ h9 => h9) rfl (tyX0_ok 8 (by decide)) rfl rfl (Nat.le_of_ble_eq_true rfl) dX0_addKindsWith_115 (fun H locs hP hD hS => ?_)
            have hP : va_P D vwCl (w_X0_addKindsWith cI cB cZ a_t a_t_children a_t_keepers a_t_orders a_t_shares a_t_wheel a_t_wives a_t_wheel_child a_t_wheel_father a_t_wheel_husband a_t_wheel_wife u_t_lawful u_t_lawfulCount u_t_lawfulSystems u_t_judgedBy u_t_judged s_t_keeperCount v16 s_t_orderCount s_t_size q13 r_t_keepers r_t_orders q15 r6.1 q11 r6.2.1 r6.2.2.1 r6.2.2.2.1 r6.2.2.2.2) H := hP
            have hD : va_D A (w_X0_addKindsWith cI cB cZ a_t a_t_children a_t_keepers a_t_orders a_t_shares a_t_wheel a_t_wives a_t_wheel_child a_t_wheel_father a_t_wheel_husband a_t_wheel_wife u_t_lawful u_t_lawfulCount u_t_lawfulSystems u_t_judgedBy u_t_judged s_t_keeperCount v16 s_t_orderCount s_t_size q13 r_t_keepers r_t_orders q15 r6.1 q11 r6.2.1 r6.2.2.1 r6.2.2.2.1 r6.2.2.2.2) := hD
            exact t_X0_addKindsWith_j118 G D cI cB cZ a_t a_t_children a_t_keepers a_t_orders a_t_shares a_t_wheel a_t_wives a_t_wheel_child a_t_wheel_father a_t_wheel_husband a_t_wheel_wife u_t_lawful u_t_lawfulCount u_t_lawfulSystems u_t_judgedBy u_t_judged s_t_keeperCount s_t_orderCount s_t_size r_t_keepers r_t_orders v16 q13 q15 r6.1 q11 r6.2.1 r6.2.2.1 r6.2.2.2.1 r6.2.2.2.2 x1 x2 C hf K hP hD hS (lv_sub hl [1, 2, 3] rfl)
def f_X0_addKindsWith_l2 (s_t_keeperCount s_t_orderCount s_t_size : Int32) (r_t_keepers r_t_orders : jA) (x1 s_t_kindCount : Int32) (r_t_children r_t_shares : jA) (s_t_wheel_size : Int32) (r_t_wives r_t_wheel_child r_t_wheel_father r_t_wheel_husband r_t_wheel_wife : jA) (x2 : Int32) : Option ((Int32 × jA × jA × Int32 × jA × jA × jA × jA × jA)) :=
  jI (fun z => f_X0_addKindsWith_b2 s_t_keeperCount s_t_orderCount s_t_size r_t_keepers r_t_orders z.1 z.2.1 z.2.2.1 z.2.2.2.1 z.2.2.2.2.1 z.2.2.2.2.2.1 z.2.2.2.2.2.2.1 z.2.2.2.2.2.2.2.1 z.2.2.2.2.2.2.2.2.1 x1 z.2.2.2.2.2.2.2.2.2) jF (s_t_kindCount, r_t_children, r_t_shares, s_t_wheel_size, r_t_wives, r_t_wheel_child, r_t_wheel_father, r_t_wheel_husband, r_t_wheel_wife, x2)
set_option maxHeartbeats 4000000 in
set_option maxRecDepth 100000 in
theorem t_X0_addKindsWith_l2 {p : Program} {l : Launch} {e : Env} {s : State} {m : MethodId} {args : Array Value} {below : List Frame} {meth : Method} {c : Code} {A : Nat → Prop} {Q : State → Prop} (G : jGt) (D : va_G) (cI cB cZ : ClassId) (a_t a_t_children a_t_keepers a_t_orders a_t_shares a_t_wheel a_t_wives a_t_wheel_child a_t_wheel_father a_t_wheel_husband a_t_wheel_wife : Nat) (u_t_lawful : Value) (u_t_lawfulCount u_t_lawfulSystems : Int32) (u_t_judgedBy : Value) (u_t_judged s_t_keeperCount s_t_orderCount s_t_size : Int32) (r_t_keepers r_t_orders : jA) (x1 : Int32) (C : jCx p s m args c cX0_addKindsWith 4 gX0_addKindsWith RX0 G D (jT cI cB cZ) A) : ∀ (n : Nat) (s_t_kindCount : Int32) (r_t_children r_t_shares : jA) (s_t_wheel_size : Int32) (r_t_wives r_t_wheel_child r_t_wheel_father r_t_wheel_husband r_t_wheel_wife : jA) (x2 : Int32) {eo : (Int32 × jA × jA × Int32 × jA × jA × jA × jA × jA)}, jI (fun z => f_X0_addKindsWith_b2 s_t_keeperCount s_t_orderCount s_t_size r_t_keepers r_t_orders z.1 z.2.1 z.2.2.1 z.2.2.2.1 z.2.2.2.2.1 z.2.2.2.2.2.1 z.2.2.2.2.2.2.1 z.2.2.2.2.2.2.2.1 z.2.2.2.2.2.2.2.2.1 x1 z.2.2.2.2.2.2.2.2.2) n (s_t_kindCount, r_t_children, r_t_shares, s_t_wheel_size, r_t_wives, r_t_wheel_child, r_t_wheel_father, r_t_wheel_husband, r_t_wheel_wife, x2) = some eo → (∀ (H : Heap) (locs : List Loc) (ls : Array Slot), va_P D vwCl (w_X0_addKindsWith cI cB cZ a_t a_t_children a_t_keepers a_t_orders a_t_shares a_t_wheel a_t_wives a_t_wheel_child a_t_wheel_father a_t_wheel_husband a_t_wheel_wife u_t_lawful u_t_lawfulCount u_t_lawfulSystems u_t_judgedBy u_t_judged s_t_keeperCount eo.1 s_t_orderCount s_t_size eo.2.1 r_t_keepers r_t_orders eo.2.2.1 eo.2.2.2.1 eo.2.2.2.2.1 eo.2.2.2.2.2.1 eo.2.2.2.2.2.2.1 eo.2.2.2.2.2.2.2.1 eo.2.2.2.2.2.2.2.2) H → va_D A (w_X0_addKindsWith cI cB cZ a_t a_t_children a_t_keepers a_t_orders a_t_shares a_t_wheel a_t_wives a_t_wheel_child a_t_wheel_father a_t_wheel_husband a_t_wheel_wife u_t_lawful u_t_lawfulCount u_t_lawfulSystems u_t_judgedBy u_t_judged s_t_keeperCount eo.1 s_t_orderCount s_t_size eo.2.1 r_t_keepers r_t_orders eo.2.2.1 eo.2.2.2.1 eo.2.2.2.2.1 eo.2.2.2.2.2.1 eo.2.2.2.2.2.2.1 eo.2.2.2.2.2.2.2.1 eo.2.2.2.2.2.2.2.2) → va_S A s.heap H locs → lv_has ls 4 [] → W p l e rX0_addKindsWith s m args below meth c H locs 0 0 Q (F0 m 124 ls [])) → ∀ (H : Heap) (locs : List Loc) (ls : Array Slot), va_P D vwCl (w_X0_addKindsWith cI cB cZ a_t a_t_children a_t_keepers a_t_orders a_t_shares a_t_wheel a_t_wives a_t_wheel_child a_t_wheel_father a_t_wheel_husband a_t_wheel_wife u_t_lawful u_t_lawfulCount u_t_lawfulSystems u_t_judgedBy u_t_judged s_t_keeperCount s_t_kindCount s_t_orderCount s_t_size r_t_children r_t_keepers r_t_orders r_t_shares s_t_wheel_size r_t_wives r_t_wheel_child r_t_wheel_father r_t_wheel_husband r_t_wheel_wife) H → va_D A (w_X0_addKindsWith cI cB cZ a_t a_t_children a_t_keepers a_t_orders a_t_shares a_t_wheel a_t_wives a_t_wheel_child a_t_wheel_father a_t_wheel_husband a_t_wheel_wife u_t_lawful u_t_lawfulCount u_t_lawfulSystems u_t_judgedBy u_t_judged s_t_keeperCount s_t_kindCount s_t_orderCount s_t_size r_t_children r_t_keepers r_t_orders r_t_shares s_t_wheel_size r_t_wives r_t_wheel_child r_t_wheel_father r_t_wheel_husband r_t_wheel_wife) → va_S A s.heap H locs → lv_has ls 4 [(0, .ref a_t), (1, .int x1), (2, .int x2)] → W p l e rX0_addKindsWith s m args below meth c H locs 0 0 Q (F0 m 2 ls []) := by
  intro n
  induction n with
  | zero =>
    intro s_t_kindCount r_t_children r_t_shares s_t_wheel_size r_t_wives r_t_wheel_child r_t_wheel_father r_t_wheel_husband r_t_wheel_wife x2 eo hf
    exact (jI_zero hf).elim
  | succ n ih =>
    intro s_t_kindCount r_t_children r_t_shares s_t_wheel_size r_t_wives r_t_wheel_child r_t_wheel_father r_t_wheel_husband r_t_wheel_wife x2 eo hf K H locs ls hP hD hS hl
    obtain ⟨o, hb1, ho⟩ := jI_some hf
    rcases ho with ⟨z, rfl, hf2⟩ | rfl
    · exact t_X0_addKindsWith_b2 G D cI cB cZ a_t a_t_children a_t_keepers a_t_orders a_t_shares a_t_wheel a_t_wives a_t_wheel_child a_t_wheel_father a_t_wheel_husband a_t_wheel_wife u_t_lawful u_t_lawfulCount u_t_lawfulSystems u_t_judgedBy u_t_judged s_t_keeperCount s_t_orderCount s_t_size r_t_keepers r_t_orders s_t_kindCount r_t_children r_t_shares s_t_wheel_size r_t_wives r_t_wheel_child r_t_wheel_father r_t_wheel_husband r_t_wheel_wife x1 x2 C hb1 ⟨fun z2 hz H locs ls hP hD hS hl => by cases hz; exact ih z.1 z.2.1 z.2.2.1 z.2.2.2.1 z.2.2.2.2.1 z.2.2.2.2.2.1 z.2.2.2.2.2.2.1 z.2.2.2.2.2.2.2.1 z.2.2.2.2.2.2.2.2.1 z.2.2.2.2.2.2.2.2.2 hf2 K H locs ls hP hD hS hl, fun z2 hz => by cases hz⟩ hP hD hS hl
    · exact t_X0_addKindsWith_b2 G D cI cB cZ a_t a_t_children a_t_keepers a_t_orders a_t_shares a_t_wheel a_t_wives a_t_wheel_child a_t_wheel_father a_t_wheel_husband a_t_wheel_wife u_t_lawful u_t_lawfulCount u_t_lawfulSystems u_t_judgedBy u_t_judged s_t_keeperCount s_t_orderCount s_t_size r_t_keepers r_t_orders s_t_kindCount r_t_children r_t_shares s_t_wheel_size r_t_wives r_t_wheel_child r_t_wheel_father r_t_wheel_husband r_t_wheel_wife x1 x2 C hb1 ⟨fun z2 hz => (by cases hz), fun z2 hz => by cases hz; exact K⟩ hP hD hS hl
def f_X0_addKindsWith (s_t_keeperCount s_t_orderCount s_t_size : Int32) (r_t_keepers r_t_orders : jA) (s_t_kindCount : Int32) (r_t_children r_t_shares : jA) (s_t_wheel_size : Int32) (r_t_wives r_t_wheel_child r_t_wheel_father r_t_wheel_husband r_t_wheel_wife : jA) (x1 : Int32) : Option (Int32 × jA × jA × Int32 × jA × jA × jA × jA × jA) :=
  jM (f_X0_addKindsWith_l2 s_t_keeperCount s_t_orderCount s_t_size r_t_keepers r_t_orders x1 s_t_kindCount r_t_children r_t_shares s_t_wheel_size r_t_wives r_t_wheel_child r_t_wheel_father r_t_wheel_husband r_t_wheel_wife (0 : Int32)) fun e17 =>
  some (e17.1, e17.2.1, e17.2.2.1, e17.2.2.2.1, e17.2.2.2.2.1, e17.2.2.2.2.2.1, e17.2.2.2.2.2.2.1, e17.2.2.2.2.2.2.2.1, e17.2.2.2.2.2.2.2.2)
set_option maxHeartbeats 4000000 in
set_option maxRecDepth 100000 in
theorem t_X0_addKindsWith {p : Program} {l : Launch} {e : Env} {s : State} {m : MethodId} {args : Array Value} {below : List Frame} {meth : Method} {c : Code} {A : Nat → Prop} {Q : State → Prop} (G : jGt) (D : va_G) (cI cB cZ : ClassId) (a_t a_t_children a_t_keepers a_t_orders a_t_shares a_t_wheel a_t_wives a_t_wheel_child a_t_wheel_father a_t_wheel_husband a_t_wheel_wife : Nat) (u_t_lawful : Value) (u_t_lawfulCount u_t_lawfulSystems : Int32) (u_t_judgedBy : Value) (u_t_judged s_t_keeperCount s_t_orderCount s_t_size : Int32) (r_t_keepers r_t_orders : jA) (s_t_kindCount : Int32) (r_t_children r_t_shares : jA) (s_t_wheel_size : Int32) (r_t_wives r_t_wheel_child r_t_wheel_father r_t_wheel_husband r_t_wheel_wife : jA) (x1 : Int32) (C : jCx p s m args c cX0_addKindsWith 4 gX0_addKindsWith RX0 G D (jT cI cB cZ) A) {o : Int32 × jA × jA × Int32 × jA × jA × jA × jA × jA} (hf : f_X0_addKindsWith s_t_keeperCount s_t_orderCount s_t_size r_t_keepers r_t_orders s_t_kindCount r_t_children r_t_shares s_t_wheel_size r_t_wives r_t_wheel_child r_t_wheel_father r_t_wheel_husband r_t_wheel_wife x1 = some o) (K : ∀ (H : Heap) (locs : List Loc) (pc : Nat) (ls : Array Slot), va_P D vwCl (w_X0_addKindsWith cI cB cZ a_t a_t_children a_t_keepers a_t_orders a_t_shares a_t_wheel a_t_wives a_t_wheel_child a_t_wheel_father a_t_wheel_husband a_t_wheel_wife u_t_lawful u_t_lawfulCount u_t_lawfulSystems u_t_judgedBy u_t_judged s_t_keeperCount o.1 s_t_orderCount s_t_size o.2.1 r_t_keepers r_t_orders o.2.2.1 o.2.2.2.1 o.2.2.2.2.1 o.2.2.2.2.2.1 o.2.2.2.2.2.2.1 o.2.2.2.2.2.2.2.1 o.2.2.2.2.2.2.2.2) H → va_S A s.heap H locs → decode cX0_addKindsWith pc = .ok (.return_, 1) → W p l e rX0_addKindsWith s m args below meth c H locs 0 0 Q (F0 m pc ls [])) {H : Heap} {locs : List Loc} {ls : Array Slot} (hP : va_P D vwCl (w_X0_addKindsWith cI cB cZ a_t a_t_children a_t_keepers a_t_orders a_t_shares a_t_wheel a_t_wives a_t_wheel_child a_t_wheel_father a_t_wheel_husband a_t_wheel_wife u_t_lawful u_t_lawfulCount u_t_lawfulSystems u_t_judgedBy u_t_judged s_t_keeperCount s_t_kindCount s_t_orderCount s_t_size r_t_children r_t_keepers r_t_orders r_t_shares s_t_wheel_size r_t_wives r_t_wheel_child r_t_wheel_father r_t_wheel_husband r_t_wheel_wife) H) (hD : va_D A (w_X0_addKindsWith cI cB cZ a_t a_t_children a_t_keepers a_t_orders a_t_shares a_t_wheel a_t_wives a_t_wheel_child a_t_wheel_father a_t_wheel_husband a_t_wheel_wife u_t_lawful u_t_lawfulCount u_t_lawfulSystems u_t_judgedBy u_t_judged s_t_keeperCount s_t_kindCount s_t_orderCount s_t_size r_t_children r_t_keepers r_t_orders r_t_shares s_t_wheel_size r_t_wives r_t_wheel_child r_t_wheel_father r_t_wheel_husband r_t_wheel_wife)) (hS : va_S A s.heap H locs) (hl : lv_has ls 4 [(0, .ref a_t), (1, .int x1)]) : W p l e rX0_addKindsWith s m args below meth c H locs 0 0 Q (F0 m 0 ls []) := by
  obtain ⟨⟨hx, hb, hml, hown, hts⟩, hK, hN, hA⟩ := C
  have C : jCx p s m args c cX0_addKindsWith 4 gX0_addKindsWith RX0 G D (jT cI cB cZ) A := ⟨⟨hx, hb, hml, hown, hts⟩, hK, hN, hA⟩
  unfold f_X0_addKindsWith at hf
  refine lv_iconst (v := (0 : Int32)) hx hb dX0_addKindsWith_0 (by decide) ?_
  refine lv_istore_n (lv' := [(2, .int (0 : Int32)), (0, .ref a_t), (1, .int x1)]) hx hb dX0_addKindsWith_1 rfl hl (by decide) rfl (fun ls hl => ?_)
  obtain ⟨e17, hg17, hf⟩ := jM_some hf
  refine t_X0_addKindsWith_l2 G D cI cB cZ a_t a_t_children a_t_keepers a_t_orders a_t_shares a_t_wheel a_t_wives a_t_wheel_child a_t_wheel_father a_t_wheel_husband a_t_wheel_wife u_t_lawful u_t_lawfulCount u_t_lawfulSystems u_t_judgedBy u_t_judged s_t_keeperCount s_t_orderCount s_t_size r_t_keepers r_t_orders x1 C jF s_t_kindCount r_t_children r_t_shares s_t_wheel_size r_t_wives r_t_wheel_child r_t_wheel_father r_t_wheel_husband r_t_wheel_wife (0 : Int32) hg17 ?_ _ _ _ hP hD hS (lv_sub hl [1, 2, 0] rfl)
  intro H locs ls hP hD hS hl
  have ho := Option.some.inj hf
  subst ho
  exact K _ _ _ _ hP hS dX0_addKindsWith_124
set_option maxHeartbeats 4000000 in
set_option maxRecDepth 100000 in
theorem c_X0_addKindsWith (l : Launch) (G : jGt) (D : va_G) (cI cB cZ : ClassId) (a_t a_t_children a_t_keepers a_t_orders a_t_shares a_t_wheel a_t_wives a_t_wheel_child a_t_wheel_father a_t_wheel_husband a_t_wheel_wife : Nat) (u_t_lawful : Value) (u_t_lawfulCount u_t_lawfulSystems : Int32) (u_t_judgedBy : Value) (u_t_judged s_t_keeperCount s_t_orderCount s_t_size : Int32) (r_t_keepers r_t_orders : jA) (s_t_kindCount : Int32) (r_t_children r_t_shares : jA) (s_t_wheel_size : Int32) (r_t_wives r_t_wheel_child r_t_wheel_father r_t_wheel_husband r_t_wheel_wife : jA) (x1 : Int32) {o : Int32 × jA × jA × Int32 × jA × jA × jA × jA × jA} (hf : f_X0_addKindsWith s_t_keeperCount s_t_orderCount s_t_size r_t_keepers r_t_orders s_t_kindCount r_t_children r_t_shares s_t_wheel_size r_t_wives r_t_wheel_child r_t_wheel_father r_t_wheel_husband r_t_wheel_wife x1 = some o) : jMv l yX0_addKindsWith gX0_addKindsWith rX0_addKindsWith G D (jT cI cB cZ) [.ref a_t, .int x1] (w_X0_addKindsWith cI cB cZ a_t a_t_children a_t_keepers a_t_orders a_t_shares a_t_wheel a_t_wives a_t_wheel_child a_t_wheel_father a_t_wheel_husband a_t_wheel_wife u_t_lawful u_t_lawfulCount u_t_lawfulSystems u_t_judgedBy u_t_judged s_t_keeperCount s_t_kindCount s_t_orderCount s_t_size r_t_children r_t_keepers r_t_orders r_t_shares s_t_wheel_size r_t_wives r_t_wheel_child r_t_wheel_father r_t_wheel_husband r_t_wheel_wife) (w_X0_addKindsWith cI cB cZ a_t a_t_children a_t_keepers a_t_orders a_t_shares a_t_wheel a_t_wives a_t_wheel_child a_t_wheel_father a_t_wheel_husband a_t_wheel_wife u_t_lawful u_t_lawfulCount u_t_lawfulSystems u_t_judgedBy u_t_judged s_t_keeperCount o.1 s_t_orderCount s_t_size o.2.1 r_t_keepers r_t_orders o.2.2.1 o.2.2.2.1 o.2.2.2.2.1 o.2.2.2.2.2.1 o.2.2.2.2.2.2.1 o.2.2.2.2.2.2.2.1 o.2.2.2.2.2.2.2.2) := by
  refine jmk_v RX0 rfl (by decide +kernel) rfl (Nat.le_of_ble_eq_true rfl) rfl ?_
  intro p e s m args below meth c ls A Q C hP hD hS hl K
  exact t_X0_addKindsWith G D cI cB cZ a_t a_t_children a_t_keepers a_t_orders a_t_shares a_t_wheel a_t_wives a_t_wheel_child a_t_wheel_father a_t_wheel_husband a_t_wheel_wife u_t_lawful u_t_lawfulCount u_t_lawfulSystems u_t_judgedBy u_t_judged s_t_keeperCount s_t_orderCount s_t_size r_t_keepers r_t_orders s_t_kindCount r_t_children r_t_shares s_t_wheel_size r_t_wives r_t_wheel_child r_t_wheel_father r_t_wheel_husband r_t_wheel_wife x1 C hf K hP hD hS hl
abbrev rX3_sameAs : Room := { frames := 0, cells := 0, slots := 0, locals := 0 }
abbrev gX3_sameAs : List Cond := wG yX3_sameAs cX3_sameAs 3 (some .boolean)
def w_X3_sameAs (cI cB cZ : ClassId) (a_p0 a_t a_p0_first a_p0_second a_p0_sort a_t_first a_t_second a_t_sort : Nat) (s_p0_count s_t_count : Int32) (r_p0_first r_p0_second r_p0_sort r_t_first r_t_second r_t_sort : jA) : va_W := [(a_p0, .inr (2, (oX3 (.ref a_p0_sort) (.ref a_p0_first) (.ref a_p0_second) s_p0_count))), (a_t, .inr (2, (oX3 (.ref a_t_sort) (.ref a_t_first) (.ref a_t_second) s_t_count))), (a_p0_first, .inl (cI, r_p0_first.1, .inl r_p0_first.2)), (a_p0_second, .inl (cI, r_p0_second.1, .inl r_p0_second.2)), (a_p0_sort, .inl (cI, r_p0_sort.1, .inl r_p0_sort.2)), (a_t_first, .inl (cI, r_t_first.1, .inl r_t_first.2)), (a_t_second, .inl (cI, r_t_second.1, .inl r_t_second.2)), (a_t_sort, .inl (cI, r_t_sort.1, .inl r_t_sort.2))]
def f_X3_sameAs_b15 (s_t_count : Int32) (r_p0_first r_p0_second r_p0_sort r_t_first r_t_second r_t_sort : jA) (x2 : Int32) : Option ((Int32) ⊕ ((Unit) ⊕ ((Unit)))) :=
  if s_t_count ≤ x2 then
  some (Sum.inr (Sum.inr ()))
  else
  if (16 : Int32) ≤ x2 then
  some (Sum.inr (Sum.inr ()))
  else
  jL r_t_sort x2 fun v4 =>
  jL r_p0_sort x2 fun v5 =>
  if v4 = v5 then
  jL r_t_first x2 fun v7 =>
  jL r_p0_first x2 fun v8 =>
  if v7 = v8 then
  jL r_t_second x2 fun v10 =>
  jL r_p0_second x2 fun v11 =>
  if v10 = v11 then
  some (Sum.inl (x2 + 1))
  else
  some (Sum.inr (Sum.inl ()))
  else
  some (Sum.inr (Sum.inl ()))
  else
  some (Sum.inr (Sum.inl ()))
set_option maxHeartbeats 4000000 in
set_option maxRecDepth 100000 in
theorem t_X3_sameAs_b15 {p : Program} {l : Launch} {e : Env} {s : State} {m : MethodId} {args : Array Value} {below : List Frame} {meth : Method} {c : Code} {A : Nat → Prop} {Q : State → Prop} (G : jGt) (D : va_G) (cI cB cZ : ClassId) (a_p0 a_t a_p0_first a_p0_second a_p0_sort a_t_first a_t_second a_t_sort : Nat) (s_p0_count s_t_count : Int32) (r_p0_first r_p0_second r_p0_sort r_t_first r_t_second r_t_sort : jA) (x2 : Int32) (C : jCx p s m args c cX3_sameAs 3 gX3_sameAs RX3 G D (jT cI cB cZ) A) {o : (Int32) ⊕ ((Unit) ⊕ ((Unit)))} (hf : f_X3_sameAs_b15 s_t_count r_p0_first r_p0_second r_p0_sort r_t_first r_t_second r_t_sort x2 = some o) (K : (∀ z, o = Sum.inl z → ∀ (H : Heap) (locs : List Loc) (ls : Array Slot), va_P D vwCl (w_X3_sameAs cI cB cZ a_p0 a_t a_p0_first a_p0_second a_p0_sort a_t_first a_t_second a_t_sort s_p0_count s_t_count r_p0_first r_p0_second r_p0_sort r_t_first r_t_second r_t_sort) H → va_D A (w_X3_sameAs cI cB cZ a_p0 a_t a_p0_first a_p0_second a_p0_sort a_t_first a_t_second a_t_sort s_p0_count s_t_count r_p0_first r_p0_second r_p0_sort r_t_first r_t_second r_t_sort) → va_S A s.heap H locs → lv_has ls 3 [(0, .ref a_t), (1, .ref a_p0), (2, .int z)] → W p l e rX3_sameAs s m args below meth c H locs 0 0 Q (F0 m 15 ls [])) ∧ (∀ z, o = Sum.inr z → (∀ y0, z = Sum.inl y0 → ∀ (H : Heap) (locs : List Loc) (ls : Array Slot), va_P D vwCl (w_X3_sameAs cI cB cZ a_p0 a_t a_p0_first a_p0_second a_p0_sort a_t_first a_t_second a_t_sort s_p0_count s_t_count r_p0_first r_p0_second r_p0_sort r_t_first r_t_second r_t_sort) H → va_D A (w_X3_sameAs cI cB cZ a_p0 a_t a_p0_first a_p0_second a_p0_sort a_t_first a_t_second a_t_sort s_p0_count s_t_count r_p0_first r_p0_second r_p0_sort r_t_first r_t_second r_t_sort) → va_S A s.heap H locs → lv_has ls 3 [] → W p l e rX3_sameAs s m args below meth c H locs 0 0 Q (F0 m 74 ls [])) ∧ (∀ z0, z = Sum.inr z0 → ∀ (H : Heap) (locs : List Loc) (ls : Array Slot), va_P D vwCl (w_X3_sameAs cI cB cZ a_p0 a_t a_p0_first a_p0_second a_p0_sort a_t_first a_t_second a_t_sort s_p0_count s_t_count r_p0_first r_p0_second r_p0_sort r_t_first r_t_second r_t_sort) H → va_D A (w_X3_sameAs cI cB cZ a_p0 a_t a_p0_first a_p0_second a_p0_sort a_t_first a_t_second a_t_sort s_p0_count s_t_count r_p0_first r_p0_second r_p0_sort r_t_first r_t_second r_t_sort) → va_S A s.heap H locs → lv_has ls 3 [] → W p l e rX3_sameAs s m args below meth c H locs 0 0 Q (F0 m 82 ls [])))) {H : Heap} {locs : List Loc} {ls : Array Slot} (hP : va_P D vwCl (w_X3_sameAs cI cB cZ a_p0 a_t a_p0_first a_p0_second a_p0_sort a_t_first a_t_second a_t_sort s_p0_count s_t_count r_p0_first r_p0_second r_p0_sort r_t_first r_t_second r_t_sort) H) (hD : va_D A (w_X3_sameAs cI cB cZ a_p0 a_t a_p0_first a_p0_second a_p0_sort a_t_first a_t_second a_t_sort s_p0_count s_t_count r_p0_first r_p0_second r_p0_sort r_t_first r_t_second r_t_sort)) (hS : va_S A s.heap H locs) (hl : lv_has ls 3 [(0, .ref a_t), (1, .ref a_p0), (2, .int x2)]) : W p l e rX3_sameAs s m args below meth c H locs 0 0 Q (F0 m 15 ls []) := by
  obtain ⟨⟨hx, hb, hml, hown, hts⟩, hK, hN, hA⟩ := C
  have C : jCx p s m args c cX3_sameAs 3 gX3_sameAs RX3 G D (jT cI cB cZ) A := ⟨⟨hx, hb, hml, hown, hts⟩, hK, hN, hA⟩
  unfold f_X3_sameAs_b15 at hf
  refine lv_iload_n hx hb dX3_sameAs_15 rfl (lv_at hl 2 rfl) ?_
  refine lv_aload_n hx hb dX3_sameAs_16 rfl (lv_at hl 0 rfl) ?_
  refine va_get (D := D) (ci := 2) (v := .int s_t_count) (C := RX3) (T := TX3) (N := 4) hx hb hts iw_X3 hown hK hP 1 rfl rfl 3 (by decide) (hts _ (wG_in k_fl_X3_27 rfl)) (fun _ h9 => h9) rfl dX3_sameAs_17 ?_
  refine lv_icmp_ge (tgt := 82) hx hb dX3_sameAs_20 (by decide) (fun c2 => ?_) (fun c2 => ?_)
  · replace hf := jif_t c2 hf
    have ho := Option.some.inj hf
    exact ((K.2 _ ho.symm).2 _ rfl) _ _ _ hP hD hS (lv_sub hl [] rfl)
  · replace hf := jif_f c2 hf
    refine lv_iload_n hx hb dX3_sameAs_23 rfl (lv_at hl 2 rfl) ?_
    refine lv_bipush (v := (16 : Int32)) hx hb dX3_sameAs_24 (by decide) ?_
    refine lv_icmp_ge (tgt := 82) hx hb dX3_sameAs_26 (by decide) (fun c3 => ?_) (fun c3 => ?_)
    · replace hf := jif_t c3 hf
      have ho := Option.some.inj hf
      exact ((K.2 _ ho.symm).2 _ rfl) _ _ _ hP hD hS (lv_sub hl [] rfl)
    · replace hf := jif_f c3 hf
      refine lv_aload_n hx hb dX3_sameAs_29 rfl (lv_at hl 0 rfl) ?_
      refine va_get (D := D) (ci := 2) (v := .ref a_t_sort) (C := RX3) (T := TX3) (N := 4) hx hb hts iw_X3 hown hK hP 1 rfl rfl 0 (by decide) (hts _ (wG_in k_fl_X3_11 rfl)) (fun _ h9 => h9) rfl dX3_sameAs_30 ?_
      refine lv_iload_n hx hb dX3_sameAs_33 rfl (lv_at hl 2 rfl) ?_
      obtain ⟨v4, hv4, iv4, hf⟩ := jL_some hf
      refine ja_iald (P := r_t_sort) hx hb hK hP 7 0 rfl rfl hv4 iv4 dX3_sameAs_34 ?_
      refine lv_aload_n hx hb dX3_sameAs_35 rfl (lv_at hl 1 rfl) ?_
      refine va_get (D := D) (ci := 2) (v := .ref a_p0_sort) (C := RX3) (T := TX3) (N := 4) hx hb hts iw_X3 hown hK hP 0 rfl rfl 0 (by decide) (hts _ (wG_in k_fl_X3_11 rfl)) (fun _ h9 => h9) rfl dX3_sameAs_36 ?_
      refine lv_iload_n hx hb dX3_sameAs_39 rfl (lv_at hl 2 rfl) ?_
      obtain ⟨v5, hv5, iv5, hf⟩ := jL_some hf
      refine ja_iald (P := r_p0_sort) hx hb hK hP 4 0 rfl rfl hv5 iv5 dX3_sameAs_40 ?_
      refine lv_icmp_ne (tgt := 74) hx hb dX3_sameAs_41 (by decide) (fun c6 => ?_) (fun c6 => ?_)
      · replace hf := jif_f c6 hf
        have ho := Option.some.inj hf
        exact ((K.2 _ ho.symm).1 _ rfl) _ _ _ hP hD hS (lv_sub hl [] rfl)
      · replace hf := jif_t c6 hf
        refine lv_aload_n hx hb dX3_sameAs_44 rfl (lv_at hl 0 rfl) ?_
        refine va_get (D := D) (ci := 2) (v := .ref a_t_first) (C := RX3) (T := TX3) (N := 4) hx hb hts iw_X3 hown hK hP 1 rfl rfl 1 (by decide) (hts _ (wG_in k_fl_X3_15 rfl)) (fun _ h9 => h9) rfl dX3_sameAs_45 ?_
        refine lv_iload_n hx hb dX3_sameAs_48 rfl (lv_at hl 2 rfl) ?_
        obtain ⟨v7, hv7, iv7, hf⟩ := jL_some hf
        refine ja_iald (P := r_t_first) hx hb hK hP 5 0 rfl rfl hv7 iv7 dX3_sameAs_49 ?_
        refine lv_aload_n hx hb dX3_sameAs_50 rfl (lv_at hl 1 rfl) ?_
        refine va_get (D := D) (ci := 2) (v := .ref a_p0_first) (C := RX3) (T := TX3) (N := 4) hx hb hts iw_X3 hown hK hP 0 rfl rfl 1 (by decide) (hts _ (wG_in k_fl_X3_15 rfl)) (fun _ h9 => h9) rfl dX3_sameAs_51 ?_
        refine lv_iload_n hx hb dX3_sameAs_54 rfl (lv_at hl 2 rfl) ?_
        obtain ⟨v8, hv8, iv8, hf⟩ := jL_some hf
        refine ja_iald (P := r_p0_first) hx hb hK hP 2 0 rfl rfl hv8 iv8 dX3_sameAs_55 ?_
        refine lv_icmp_ne (tgt := 74) hx hb dX3_sameAs_56 (by decide) (fun c9 => ?_) (fun c9 => ?_)
        · replace hf := jif_f c9 hf
          have ho := Option.some.inj hf
          exact ((K.2 _ ho.symm).1 _ rfl) _ _ _ hP hD hS (lv_sub hl [] rfl)
        · replace hf := jif_t c9 hf
          refine lv_aload_n hx hb dX3_sameAs_59 rfl (lv_at hl 0 rfl) ?_
          refine va_get (D := D) (ci := 2) (v := .ref a_t_second) (C := RX3) (T := TX3) (N := 4) hx hb hts iw_X3 hown hK hP 1 rfl rfl 2 (by decide) (hts _ (wG_in k_fl_X3_18 rfl)) (fun _ h9 => h9) rfl dX3_sameAs_60 ?_
          refine lv_iload_n hx hb dX3_sameAs_63 rfl (lv_at hl 2 rfl) ?_
          obtain ⟨v10, hv10, iv10, hf⟩ := jL_some hf
          refine ja_iald (P := r_t_second) hx hb hK hP 6 0 rfl rfl hv10 iv10 dX3_sameAs_64 ?_
          refine lv_aload_n hx hb dX3_sameAs_65 rfl (lv_at hl 1 rfl) ?_
          refine va_get (D := D) (ci := 2) (v := .ref a_p0_second) (C := RX3) (T := TX3) (N := 4) hx hb hts iw_X3 hown hK hP 0 rfl rfl 2 (by decide) (hts _ (wG_in k_fl_X3_18 rfl)) (fun _ h9 => h9) rfl dX3_sameAs_66 ?_
          refine lv_iload_n hx hb dX3_sameAs_69 rfl (lv_at hl 2 rfl) ?_
          obtain ⟨v11, hv11, iv11, hf⟩ := jL_some hf
          refine ja_iald (P := r_p0_second) hx hb hK hP 3 0 rfl rfl hv11 iv11 dX3_sameAs_70 ?_
          refine lv_icmp_eq (tgt := 76) hx hb dX3_sameAs_71 (by decide) (fun c12 => ?_) (fun c12 => ?_)
          · replace hf := jif_t c12 hf
            refine lv_iinc (v := (x2 + 1)) (lv' := [(2, .int (x2 + 1)), (0, .ref a_t), (1, .ref a_p0)]) hx hb dX3_sameAs_76 hl (k := 2) rfl (by first | rfl | decide) (by decide) rfl (fun ls hl => ?_)
            refine lv_goto (tgt := 15) hx hb dX3_sameAs_79 (by decide) ?_
            have ho := Option.some.inj hf
            exact K.1 _ ho.symm _ _ _ hP hD hS (lv_sub hl [1, 2, 0] rfl)
          · replace hf := jif_f c12 hf
            have ho := Option.some.inj hf
            exact ((K.2 _ ho.symm).1 _ rfl) _ _ _ hP hD hS (lv_sub hl [] rfl)
def f_X3_sameAs_l15 (s_t_count : Int32) (r_p0_first r_p0_second r_p0_sort r_t_first r_t_second r_t_sort : jA) (x2 : Int32) : Option ((Unit) ⊕ ((Unit))) :=
  jI (fun z => f_X3_sameAs_b15 s_t_count r_p0_first r_p0_second r_p0_sort r_t_first r_t_second r_t_sort z) jF x2
set_option maxHeartbeats 4000000 in
set_option maxRecDepth 100000 in
theorem t_X3_sameAs_l15 {p : Program} {l : Launch} {e : Env} {s : State} {m : MethodId} {args : Array Value} {below : List Frame} {meth : Method} {c : Code} {A : Nat → Prop} {Q : State → Prop} (G : jGt) (D : va_G) (cI cB cZ : ClassId) (a_p0 a_t a_p0_first a_p0_second a_p0_sort a_t_first a_t_second a_t_sort : Nat) (s_p0_count s_t_count : Int32) (r_p0_first r_p0_second r_p0_sort r_t_first r_t_second r_t_sort : jA)  (C : jCx p s m args c cX3_sameAs 3 gX3_sameAs RX3 G D (jT cI cB cZ) A) : ∀ (n : Nat) (x2 : Int32) {eo : (Unit) ⊕ ((Unit))}, jI (fun z => f_X3_sameAs_b15 s_t_count r_p0_first r_p0_second r_p0_sort r_t_first r_t_second r_t_sort z) n x2 = some eo → ((∀ y0, eo = Sum.inl y0 → ∀ (H : Heap) (locs : List Loc) (ls : Array Slot), va_P D vwCl (w_X3_sameAs cI cB cZ a_p0 a_t a_p0_first a_p0_second a_p0_sort a_t_first a_t_second a_t_sort s_p0_count s_t_count r_p0_first r_p0_second r_p0_sort r_t_first r_t_second r_t_sort) H → va_D A (w_X3_sameAs cI cB cZ a_p0 a_t a_p0_first a_p0_second a_p0_sort a_t_first a_t_second a_t_sort s_p0_count s_t_count r_p0_first r_p0_second r_p0_sort r_t_first r_t_second r_t_sort) → va_S A s.heap H locs → lv_has ls 3 [] → W p l e rX3_sameAs s m args below meth c H locs 0 0 Q (F0 m 74 ls [])) ∧ (∀ z0, eo = Sum.inr z0 → ∀ (H : Heap) (locs : List Loc) (ls : Array Slot), va_P D vwCl (w_X3_sameAs cI cB cZ a_p0 a_t a_p0_first a_p0_second a_p0_sort a_t_first a_t_second a_t_sort s_p0_count s_t_count r_p0_first r_p0_second r_p0_sort r_t_first r_t_second r_t_sort) H → va_D A (w_X3_sameAs cI cB cZ a_p0 a_t a_p0_first a_p0_second a_p0_sort a_t_first a_t_second a_t_sort s_p0_count s_t_count r_p0_first r_p0_second r_p0_sort r_t_first r_t_second r_t_sort) → va_S A s.heap H locs → lv_has ls 3 [] → W p l e rX3_sameAs s m args below meth c H locs 0 0 Q (F0 m 82 ls []))) → ∀ (H : Heap) (locs : List Loc) (ls : Array Slot), va_P D vwCl (w_X3_sameAs cI cB cZ a_p0 a_t a_p0_first a_p0_second a_p0_sort a_t_first a_t_second a_t_sort s_p0_count s_t_count r_p0_first r_p0_second r_p0_sort r_t_first r_t_second r_t_sort) H → va_D A (w_X3_sameAs cI cB cZ a_p0 a_t a_p0_first a_p0_second a_p0_sort a_t_first a_t_second a_t_sort s_p0_count s_t_count r_p0_first r_p0_second r_p0_sort r_t_first r_t_second r_t_sort) → va_S A s.heap H locs → lv_has ls 3 [(0, .ref a_t), (1, .ref a_p0), (2, .int x2)] → W p l e rX3_sameAs s m args below meth c H locs 0 0 Q (F0 m 15 ls []) := by
  intro n
  induction n with
  | zero =>
    intro x2 eo hf
    exact (jI_zero hf).elim
  | succ n ih =>
    intro x2 eo hf K H locs ls hP hD hS hl
    obtain ⟨o, hb1, ho⟩ := jI_some hf
    rcases ho with ⟨z, rfl, hf2⟩ | rfl
    · exact t_X3_sameAs_b15 G D cI cB cZ a_p0 a_t a_p0_first a_p0_second a_p0_sort a_t_first a_t_second a_t_sort s_p0_count s_t_count r_p0_first r_p0_second r_p0_sort r_t_first r_t_second r_t_sort x2 C hb1 ⟨fun z2 hz H locs ls hP hD hS hl => by cases hz; exact ih z hf2 K H locs ls hP hD hS hl, fun z2 hz => by cases hz⟩ hP hD hS hl
    · exact t_X3_sameAs_b15 G D cI cB cZ a_p0 a_t a_p0_first a_p0_second a_p0_sort a_t_first a_t_second a_t_sort s_p0_count s_t_count r_p0_first r_p0_second r_p0_sort r_t_first r_t_second r_t_sort x2 C hb1 ⟨fun z2 hz => (by cases hz), fun z2 hz => by cases hz; exact K⟩ hP hD hS hl
def f_X3_sameAs (s_p0_count s_t_count : Int32) (r_p0_first r_p0_second r_p0_sort r_t_first r_t_second r_t_sort : jA) : Option (Int32) :=
  if s_t_count = s_p0_count then
  jM (f_X3_sameAs_l15 s_t_count r_p0_first r_p0_second r_p0_sort r_t_first r_t_second r_t_sort (0 : Int32)) fun e13 =>
  Sum.elim (fun y14 =>
  some (0 : Int32)) (fun w15 =>
  some (1 : Int32)) e13
  else
  some (0 : Int32)
set_option maxHeartbeats 4000000 in
set_option maxRecDepth 100000 in
theorem t_X3_sameAs {p : Program} {l : Launch} {e : Env} {s : State} {m : MethodId} {args : Array Value} {below : List Frame} {meth : Method} {c : Code} {A : Nat → Prop} {Q : State → Prop} (G : jGt) (D : va_G) (cI cB cZ : ClassId) (a_p0 a_t a_p0_first a_p0_second a_p0_sort a_t_first a_t_second a_t_sort : Nat) (s_p0_count s_t_count : Int32) (r_p0_first r_p0_second r_p0_sort r_t_first r_t_second r_t_sort : jA)  (C : jCx p s m args c cX3_sameAs 3 gX3_sameAs RX3 G D (jT cI cB cZ) A) {o : Int32} (hf : f_X3_sameAs s_p0_count s_t_count r_p0_first r_p0_second r_p0_sort r_t_first r_t_second r_t_sort = some o) (K : ∀ (H : Heap) (locs : List Loc) (pc : Nat) (ls : Array Slot), (o = 0 ∨ o = 1) → va_P D vwCl (w_X3_sameAs cI cB cZ a_p0 a_t a_p0_first a_p0_second a_p0_sort a_t_first a_t_second a_t_sort s_p0_count s_t_count r_p0_first r_p0_second r_p0_sort r_t_first r_t_second r_t_sort) H → va_S A s.heap H locs → decode cX3_sameAs pc = .ok (.ireturn, 1) → W p l e rX3_sameAs s m args below meth c H locs 0 0 Q (F0 m pc ls [.int o])) {H : Heap} {locs : List Loc} {ls : Array Slot} (hP : va_P D vwCl (w_X3_sameAs cI cB cZ a_p0 a_t a_p0_first a_p0_second a_p0_sort a_t_first a_t_second a_t_sort s_p0_count s_t_count r_p0_first r_p0_second r_p0_sort r_t_first r_t_second r_t_sort) H) (hD : va_D A (w_X3_sameAs cI cB cZ a_p0 a_t a_p0_first a_p0_second a_p0_sort a_t_first a_t_second a_t_sort s_p0_count s_t_count r_p0_first r_p0_second r_p0_sort r_t_first r_t_second r_t_sort)) (hS : va_S A s.heap H locs) (hl : lv_has ls 3 [(0, .ref a_t), (1, .ref a_p0)]) : W p l e rX3_sameAs s m args below meth c H locs 0 0 Q (F0 m 0 ls []) := by
  obtain ⟨⟨hx, hb, hml, hown, hts⟩, hK, hN, hA⟩ := C
  have C : jCx p s m args c cX3_sameAs 3 gX3_sameAs RX3 G D (jT cI cB cZ) A := ⟨⟨hx, hb, hml, hown, hts⟩, hK, hN, hA⟩
  unfold f_X3_sameAs at hf
  refine lv_aload_n hx hb dX3_sameAs_0 rfl (lv_at hl 0 rfl) ?_
  refine va_get (D := D) (ci := 2) (v := .int s_t_count) (C := RX3) (T := TX3) (N := 4) hx hb hts iw_X3 hown hK hP 1 rfl rfl 3 (by decide) (hts _ (wG_in k_fl_X3_27 rfl)) (fun _ h9 => h9) rfl dX3_sameAs_1 ?_
  refine lv_aload_n hx hb dX3_sameAs_4 rfl (lv_at hl 1 rfl) ?_
  refine va_get (D := D) (ci := 2) (v := .int s_p0_count) (C := RX3) (T := TX3) (N := 4) hx hb hts iw_X3 hown hK hP 0 rfl rfl 3 (by decide) (hts _ (wG_in k_fl_X3_27 rfl)) (fun _ h9 => h9) rfl dX3_sameAs_5 ?_
  refine lv_icmp_eq (tgt := 13) hx hb dX3_sameAs_8 (by decide) (fun c1 => ?_) (fun c1 => ?_)
  · replace hf := jif_t c1 hf
    refine lv_iconst (v := (0 : Int32)) hx hb dX3_sameAs_13 (by decide) ?_
    refine lv_istore_n (lv' := [(2, .int (0 : Int32)), (0, .ref a_t), (1, .ref a_p0)]) hx hb dX3_sameAs_14 rfl hl (by decide) rfl (fun ls hl => ?_)
    obtain ⟨e13, hg13, hf⟩ := jM_some hf
    refine t_X3_sameAs_l15 G D cI cB cZ a_p0 a_t a_p0_first a_p0_second a_p0_sort a_t_first a_t_second a_t_sort s_p0_count s_t_count r_p0_first r_p0_second r_p0_sort r_t_first r_t_second r_t_sort  C jF (0 : Int32) hg13 ?_ _ _ _ hP hD hS (lv_sub hl [1, 2, 0] rfl)
    refine ⟨fun y14 hy => ?_, fun w15 hy => ?_⟩
    · replace hf := jE_l hy hf
      intro H locs ls hP hD hS hl
      refine lv_iconst (v := (0 : Int32)) hx hb dX3_sameAs_74 (by decide) ?_
      have ho := Option.some.inj hf
      subst ho
      exact K _ _ _ _ (Or.inl rfl) hP hS dX3_sameAs_75
    · replace hf := jE_r hy hf
      intro H locs ls hP hD hS hl
      refine lv_iconst (v := (1 : Int32)) hx hb dX3_sameAs_82 (by decide) ?_
      have ho := Option.some.inj hf
      subst ho
      exact K _ _ _ _ (Or.inr rfl) hP hS dX3_sameAs_83
  · replace hf := jif_f c1 hf
    refine lv_iconst (v := (0 : Int32)) hx hb dX3_sameAs_11 (by decide) ?_
    have ho := Option.some.inj hf
    subst ho
    exact K _ _ _ _ (Or.inl rfl) hP hS dX3_sameAs_12
set_option maxHeartbeats 4000000 in
set_option maxRecDepth 100000 in
theorem c_X3_sameAs (l : Launch) (G : jGt) (D : va_G) (cI cB cZ : ClassId) (a_p0 a_t a_p0_first a_p0_second a_p0_sort a_t_first a_t_second a_t_sort : Nat) (s_p0_count s_t_count : Int32) (r_p0_first r_p0_second r_p0_sort r_t_first r_t_second r_t_sort : jA)  {o : Int32} (hf : f_X3_sameAs s_p0_count s_t_count r_p0_first r_p0_second r_p0_sort r_t_first r_t_second r_t_sort = some o) : jMi l yX3_sameAs gX3_sameAs rX3_sameAs G D (jT cI cB cZ) [.ref a_t, .ref a_p0] (w_X3_sameAs cI cB cZ a_p0 a_t a_p0_first a_p0_second a_p0_sort a_t_first a_t_second a_t_sort s_p0_count s_t_count r_p0_first r_p0_second r_p0_sort r_t_first r_t_second r_t_sort) (w_X3_sameAs cI cB cZ a_p0 a_t a_p0_first a_p0_second a_p0_sort a_t_first a_t_second a_t_sort s_p0_count s_t_count r_p0_first r_p0_second r_p0_sort r_t_first r_t_second r_t_sort) o := by
  refine jmk_z RX3 rfl (by decide +kernel) rfl (Nat.le_of_ble_eq_true rfl) rfl ?_
  intro p e s m args below meth c ls A Q C hP hD hS hl K
  exact t_X3_sameAs G D cI cB cZ a_p0 a_t a_p0_first a_p0_second a_p0_sort a_t_first a_t_second a_t_sort s_p0_count s_t_count r_p0_first r_p0_second r_p0_sort r_t_first r_t_second r_t_sort  C hf K hP hD hS hl

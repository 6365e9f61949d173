abbrev rX3_copyFrom : Room := { frames := 1, cells := 0, slots := 0, locals := 26 }
abbrev gX3_copyFrom : List Cond := wG yX3_copyFrom cX3_copyFrom 2 none
def w_X3_copyFrom (cI cB cZ : ClassId) (a_p0 a_t a_p0_first a_p0_second a_p0_sort a_t_first a_t_second a_t_sort : Nat) (s_p0_count s_t_count : Int32) (r_p0_first r_p0_second r_p0_sort r_t_first r_t_second r_t_sort : jA) : va_W := [(a_p0, .inr (2, (oX3 (.ref a_p0_sort) (.ref a_p0_first) (.ref a_p0_second) s_p0_count))), (a_t, .inr (2, (oX3 (.ref a_t_sort) (.ref a_t_first) (.ref a_t_second) s_t_count))), (a_p0_first, .inl (cI, r_p0_first.1, .inl r_p0_first.2)), (a_p0_second, .inl (cI, r_p0_second.1, .inl r_p0_second.2)), (a_p0_sort, .inl (cI, r_p0_sort.1, .inl r_p0_sort.2)), (a_t_first, .inl (cI, r_t_first.1, .inl r_t_first.2)), (a_t_second, .inl (cI, r_t_second.1, .inl r_t_second.2)), (a_t_sort, .inl (cI, r_t_sort.1, .inl r_t_sort.2))]
def f_X3_copyFrom (s_p0_count : Int32) (r_p0_first r_p0_second r_p0_sort : jA) (s_t_count : Int32) (r_t_first r_t_second r_t_sort : jA) : Option (Int32 × jA × jA × jA) :=
  jY .int r_p0_sort r_t_sort (0 : Int32) (0 : Int32) (16 : Int32) fun q1 =>
  jY .int r_p0_first r_t_first (0 : Int32) (0 : Int32) (16 : Int32) fun q2 =>
  jY .int r_p0_second r_t_second (0 : Int32) (0 : Int32) (16 : Int32) fun q3 =>
  some (s_p0_count, q2, q3, q1)
set_option maxHeartbeats 4000000 in
set_option maxRecDepth 100000 in
theorem t_X3_copyFrom {p : Program} {l : Launch} {e : Env} {s : State} {m : MethodId} {args : Array Value} {below : List Frame} {meth : Method} {c : Code} {A : Nat → Prop} {Q : State → Prop} (G : jGt) (D : va_G) (cI cB cZ : ClassId) (a_p0 a_t a_p0_first a_p0_second a_p0_sort a_t_first a_t_second a_t_sort : Nat) (s_p0_count : Int32) (r_p0_first r_p0_second r_p0_sort : jA) (s_t_count : Int32) (r_t_first r_t_second r_t_sort : jA) (C : jCx p s m args c cX3_copyFrom 2 gX3_copyFrom RX3 G D (jT cI cB cZ) A) {o : Int32 × jA × jA × jA} (hf : f_X3_copyFrom s_p0_count r_p0_first r_p0_second r_p0_sort s_t_count r_t_first r_t_second r_t_sort = some o) (K : ∀ (H : Heap) (locs : List Loc) (pc : Nat) (ls : Array Slot), va_P D vwCl (w_X3_copyFrom cI cB cZ a_p0 a_t a_p0_first a_p0_second a_p0_sort a_t_first a_t_second a_t_sort s_p0_count o.1 r_p0_first r_p0_second r_p0_sort o.2.1 o.2.2.1 o.2.2.2) H → va_S A s.heap H locs → decode cX3_copyFrom pc = .ok (.return_, 1) → W p l e rX3_copyFrom s m args below meth c H locs 0 0 Q (F0 m pc ls [])) {H : Heap} {locs : List Loc} {ls : Array Slot} (hP : va_P D vwCl (w_X3_copyFrom cI cB cZ a_p0 a_t a_p0_first a_p0_second a_p0_sort a_t_first a_t_second a_t_sort s_p0_count s_t_count r_p0_first r_p0_second r_p0_sort r_t_first r_t_second r_t_sort) H) (hD : va_D A (w_X3_copyFrom cI cB cZ a_p0 a_t a_p0_first a_p0_second a_p0_sort a_t_first a_t_second a_t_sort s_p0_count s_t_count r_p0_first r_p0_second r_p0_sort r_t_first r_t_second r_t_sort)) (hS : va_S A s.heap H locs) (hl : lv_has ls 2 [(0, .ref a_t), (1, .ref a_p0)]) : W p l e rX3_copyFrom s m args below meth c H locs 0 0 Q (F0 m 0 ls []) := by
  obtain ⟨⟨hx, hb, hml, hown, hts⟩, hK, hN, hA⟩ := C
  have C : jCx p s m args c cX3_copyFrom 2 gX3_copyFrom RX3 G D (jT cI cB cZ) A := ⟨⟨hx, hb, hml, hown, hts⟩, hK, hN, hA⟩
  unfold f_X3_copyFrom at hf
  refine lv_aload_n hx hb dX3_copyFrom_0 rfl (lv_at hl 1 rfl) ?_
  refine va_get (D := D) (ci := 2) (v := .ref a_p0_sort) (C := RX3) (T := TX3) (N := 4) hx hb hts iw_X3 hown hK hP 0 rfl rfl 0 (by decide) (hts _ (wG_in k_fl_X3_11 rfl)) (fun _ h9 => h9) rfl dX3_copyFrom_1 ?_
  refine lv_iconst (v := (0 : Int32)) hx hb dX3_copyFrom_4 (by decide) ?_
  refine lv_aload_n hx hb dX3_copyFrom_5 rfl (lv_at hl 0 rfl) ?_
  refine va_get (D := D) (ci := 2) (v := .ref a_t_sort) (C := RX3) (T := TX3) (N := 4) hx hb hts iw_X3 hown hK hP 1 rfl rfl 0 (by decide) (hts _ (wG_in k_fl_X3_11 rfl)) (fun _ h9 => h9) rfl dX3_copyFrom_6 ?_
  refine lv_iconst (v := (0 : Int32)) hx hb dX3_copyFrom_9 (by decide) ?_
  refine lv_bipush (v := (16 : Int32)) hx hb dX3_copyFrom_10 (by decide) ?_
  obtain ⟨q1, hq1, iq1, hf⟩ := jY_some hf
  refine ja_copy (P := r_p0_sort) (P2 := r_t_sort) (P' := q1) (ty := .int) hx hb (hml.trans hl.1.symm) hown (hts _ (wG_in k_ml_X3_21 rfl)) (hts _ (wG_in k_nat_ac rfl)) (hts _ (wG_in k_st_ac rfl)) (hts _ (wG_in k_in_sys rfl)) hK hP hD hS 4 7 0 rfl rfl rfl rfl hq1 iq1 (Nat.le_of_ble_eq_true rfl) (Nat.le_of_ble_eq_true rfl) dX3_copyFrom_12 (fun H locs hP hD hS => ?_)
  have hP : va_P D vwCl (w_X3_copyFrom cI cB cZ a_p0 a_t a_p0_first a_p0_second a_p0_sort a_t_first a_t_second a_t_sort s_p0_count s_t_count r_p0_first r_p0_second r_p0_sort r_t_first r_t_second q1) H := hP
  have hD : va_D A (w_X3_copyFrom cI cB cZ a_p0 a_t a_p0_first a_p0_second a_p0_sort a_t_first a_t_second a_t_sort s_p0_count s_t_count r_p0_first r_p0_second r_p0_sort r_t_first r_t_second q1) := hD
  refine lv_aload_n hx hb dX3_copyFrom_15 rfl (lv_at hl 1 rfl) ?_
  refine va_get (D := D) (ci := 2) (v := .ref a_p0_first) (C := RX3) (T := TX3) (N := 4) hx hb hts iw_X3 hown hK hP 0 rfl rfl 1 (by decide) (hts _ (wG_in k_fl_X3_15 rfl)) (fun _ h9 => h9) rfl dX3_copyFrom_16 ?_
  refine lv_iconst (v := (0 : Int32)) hx hb dX3_copyFrom_19 (by decide) ?_
  refine lv_aload_n hx hb dX3_copyFrom_20 rfl (lv_at hl 0 rfl) ?_
  refine va_get (D := D) (ci := 2) (v := .ref a_t_first) (C := RX3) (T := TX3) (N := 4) hx hb hts iw_X3 hown hK hP 1 rfl rfl 1 (by decide) (hts _ (wG_in k_fl_X3_15 rfl)) (fun _ h9 => h9) rfl dX3_copyFrom_21 ?_
  refine lv_iconst (v := (0 : Int32)) hx hb dX3_copyFrom_24 (by decide) ?_
  refine lv_bipush (v := (16 : Int32)) hx hb dX3_copyFrom_25 (by decide) ?_
  obtain ⟨q2, hq2, iq2, hf⟩ := jY_some hf
  refine ja_copy (P := r_p0_first) (P2 := r_t_first) (P' := q2) (ty := .int) hx hb (hml.trans hl.1.symm) hown (hts _ (wG_in k_ml_X3_21 rfl)) (hts _ (wG_in k_nat_ac rfl)) (hts _ (wG_in k_st_ac rfl)) (hts _ (wG_in k_in_sys rfl)) hK hP hD hS 2 5 0 rfl rfl rfl rfl hq2 iq2 (Nat.le_of_ble_eq_true rfl) (Nat.le_of_ble_eq_true rfl) dX3_copyFrom_27 (fun H locs hP hD hS => ?_)
  have hP : va_P D vwCl (w_X3_copyFrom cI cB cZ a_p0 a_t a_p0_first a_p0_second a_p0_sort a_t_first a_t_second a_t_sort s_p0_count s_t_count r_p0_first r_p0_second r_p0_sort q2 r_t_second q1) H := hP
  have hD : va_D A (w_X3_copyFrom cI cB cZ a_p0 a_t a_p0_first a_p0_second a_p0_sort a_t_first a_t_second a_t_sort s_p0_count s_t_count r_p0_first r_p0_second r_p0_sort q2 r_t_second q1) := hD
  refine lv_aload_n hx hb dX3_copyFrom_30 rfl (lv_at hl 1 rfl) ?_
  refine va_get (D := D) (ci := 2) (v := .ref a_p0_second) (C := RX3) (T := TX3) (N := 4) hx hb hts iw_X3 hown hK hP 0 rfl rfl 2 (by decide) (hts _ (wG_in k_fl_X3_18 rfl)) (fun _ h9 => h9) rfl dX3_copyFrom_31 ?_
  refine lv_iconst (v := (0 : Int32)) hx hb dX3_copyFrom_34 (by decide) ?_
  refine lv_aload_n hx hb dX3_copyFrom_35 rfl (lv_at hl 0 rfl) ?_
  refine va_get (D := D) (ci := 2) (v := .ref a_t_second) (C := RX3) (T := TX3) (N := 4) hx hb hts iw_X3 hown hK hP 1 rfl rfl 2 (by decide) (hts _ (wG_in k_fl_X3_18 rfl)) (fun _ h9 => h9) rfl dX3_copyFrom_36 ?_
  refine lv_iconst (v := (0 : Int32)) hx hb dX3_copyFrom_39 (by decide) ?_
  refine lv_bipush (v := (16 : Int32)) hx hb dX3_copyFrom_40 (by decide) ?_
  obtain ⟨q3, hq3, iq3, hf⟩ := jY_some hf
  refine ja_copy (P := r_p0_second) (P2 := r_t_second) (P' := q3) (ty := .int) hx hb (hml.trans hl.1.symm) hown (hts _ (wG_in k_ml_X3_21 rfl)) (hts _ (wG_in k_nat_ac rfl)) (hts _ (wG_in k_st_ac rfl)) (hts _ (wG_in k_in_sys rfl)) hK hP hD hS 3 6 0 rfl rfl rfl rfl hq3 iq3 (Nat.le_of_ble_eq_true rfl) (Nat.le_of_ble_eq_true rfl) dX3_copyFrom_42 (fun H locs hP hD hS => ?_)
  have hP : va_P D vwCl (w_X3_copyFrom cI cB cZ a_p0 a_t a_p0_first a_p0_second a_p0_sort a_t_first a_t_second a_t_sort s_p0_count s_t_count r_p0_first r_p0_second r_p0_sort q2 q3 q1) H := hP
  have hD : va_D A (w_X3_copyFrom cI cB cZ a_p0 a_t a_p0_first a_p0_second a_p0_sort a_t_first a_t_second a_t_sort s_p0_count s_t_count r_p0_first r_p0_second r_p0_sort q2 q3 q1) := hD
  refine lv_aload_n hx hb dX3_copyFrom_45 rfl (lv_at hl 0 rfl) ?_
  refine lv_aload_n hx hb dX3_copyFrom_46 rfl (lv_at hl 1 rfl) ?_
  refine va_get (D := D) (ci := 2) (v := .int s_p0_count) (C := RX3) (T := TX3) (N := 4) hx hb hts iw_X3 hown hK hP 0 rfl rfl 3 (by decide) (hts _ (wG_in k_fl_X3_27 rfl)) (fun _ h9 => h9) rfl dX3_copyFrom_47 ?_
  refine va_put (D := D) (ci := 2) (v := .int s_p0_count) (ty := .int) (C := RX3) (T := TX3) (N := 4) hx hb hts iw_X3 tyX3 tyX3_ok nmX3 hown hK hP hD hS 1 rfl rfl 3 (by decide) (hts _ (wG_in k_fl_X3_27 rfl)) (fun _ h9 => h9) rfl (tyX3_ok 3 (by decide)) rfl rfl (Nat.le_of_ble_eq_true rfl) dX3_copyFrom_50 (fun H locs hP hD hS => ?_)
  have hP : va_P D vwCl (w_X3_copyFrom cI cB cZ a_p0 a_t a_p0_first a_p0_second a_p0_sort a_t_first a_t_second a_t_sort s_p0_count s_p0_count r_p0_first r_p0_second r_p0_sort q2 q3 q1) H := hP
  have hD : va_D A (w_X3_copyFrom cI cB cZ a_p0 a_t a_p0_first a_p0_second a_p0_sort a_t_first a_t_second a_t_sort s_p0_count s_p0_count r_p0_first r_p0_second r_p0_sort q2 q3 q1) := hD
  have ho := Option.some.inj hf
  subst ho
  exact K _ _ _ _ hP hS dX3_copyFrom_53
set_option maxHeartbeats 4000000 in
set_option maxRecDepth 100000 in
theorem c_X3_copyFrom (l : Launch) (G : jGt) (D : va_G) (cI cB cZ : ClassId) (a_p0 a_t a_p0_first a_p0_second a_p0_sort a_t_first a_t_second a_t_sort : Nat) (s_p0_count : Int32) (r_p0_first r_p0_second r_p0_sort : jA) (s_t_count : Int32) (r_t_first r_t_second r_t_sort : jA) {o : Int32 × jA × jA × jA} (hf : f_X3_copyFrom s_p0_count r_p0_first r_p0_second r_p0_sort s_t_count r_t_first r_t_second r_t_sort = some o) : jMv l yX3_copyFrom gX3_copyFrom rX3_copyFrom G D (jT cI cB cZ) [.ref a_t, .ref a_p0] (w_X3_copyFrom cI cB cZ a_p0 a_t a_p0_first a_p0_second a_p0_sort a_t_first a_t_second a_t_sort s_p0_count s_t_count r_p0_first r_p0_second r_p0_sort r_t_first r_t_second r_t_sort) (w_X3_copyFrom cI cB cZ a_p0 a_t a_p0_first a_p0_second a_p0_sort a_t_first a_t_second a_t_sort s_p0_count o.1 r_p0_first r_p0_second r_p0_sort o.2.1 o.2.2.1 o.2.2.2) := by
  refine jmk_v RX3 rfl (by decide +kernel) rfl (Nat.le_of_ble_eq_true rfl) rfl ?_
  intro p e s m args below meth c ls A Q C hP hD hS hl K
  exact t_X3_copyFrom G D cI cB cZ a_p0 a_t a_p0_first a_p0_second a_p0_sort a_t_first a_t_second a_t_sort s_p0_count r_p0_first r_p0_second r_p0_sort s_t_count r_t_first r_t_second r_t_sort C hf K hP hD hS hl
abbrev rX10_has : Room := { frames := 0, cells := 0, slots := 0, locals := 0 }
abbrev gX10_has : List Cond := wG yX10_has cX10_has 2 (some .boolean)
def w_X10_has (cI cB cZ : ClassId) (a_t : Nat) (u_t_wife u_t_child u_t_husband u_t_father : Value) (s_t_size : Int32) : va_W := [(a_t, .inr (9, (oX10 u_t_wife u_t_child u_t_husband u_t_father s_t_size)))]
def f_X10_has (s_t_size x1 : Int32) : Option (Int32) :=
  if x1 < 0 then
  some (0 : Int32)
  else
  if s_t_size ≤ x1 then
  some (0 : Int32)
  else
  some (1 : Int32)
set_option maxHeartbeats 4000000 in
set_option maxRecDepth 100000 in
theorem t_X10_has {p : Program} {l : Launch} {e : Env} {s : State} {m : MethodId} {args : Array Value} {below : List Frame} {meth : Method} {c : Code} {A : Nat → Prop} {Q : State → Prop} (G : jGt) (D : va_G) (cI cB cZ : ClassId) (a_t : Nat) (u_t_wife u_t_child u_t_husband u_t_father : Value) (s_t_size : Int32) (x1 : Int32) (C : jCx p s m args c cX10_has 2 gX10_has RX10 G D (jT cI cB cZ) A) {o : Int32} (hf : f_X10_has s_t_size x1 = some o) (K : ∀ (H : Heap) (locs : List Loc) (pc : Nat) (ls : Array Slot), (o = 0 ∨ o = 1) → va_P D vwCl (w_X10_has cI cB cZ a_t u_t_wife u_t_child u_t_husband u_t_father s_t_size) H → va_S A s.heap H locs → decode cX10_has pc = .ok (.ireturn, 1) → W p l e rX10_has s m args below meth c H locs 0 0 Q (F0 m pc ls [.int o])) {H : Heap} {locs : List Loc} {ls : Array Slot} (hP : va_P D vwCl (w_X10_has cI cB cZ a_t u_t_wife u_t_child u_t_husband u_t_father s_t_size) H) (hD : va_D A (w_X10_has cI cB cZ a_t u_t_wife u_t_child u_t_husband u_t_father s_t_size)) (hS : va_S A s.heap H locs) (hl : lv_has ls 2 [(0, .ref a_t), (1, .int x1)]) : W p l e rX10_has s m args below meth c H locs 0 0 Q (F0 m 0 ls []) := by
  obtain ⟨⟨hx, hb, hml, hown, hts⟩, hK, hN, hA⟩ := C
  have C : jCx p s m args c cX10_has 2 gX10_has RX10 G D (jT cI cB cZ) A := ⟨⟨hx, hb, hml, hown, hts⟩, hK, hN, hA⟩
  unfold f_X10_has at hf
  refine lv_iload_n hx hb dX10_has_0 rfl (lv_at hl 1 rfl) ?_
  refine lv_if_lt (tgt := 16) hx hb dX10_has_1 (by decide) (fun c1 => ?_) (fun c1 => ?_)
  · replace hf := jif_t c1 hf
    refine lv_iconst (v := (0 : Int32)) hx hb dX10_has_16 (by decide) ?_
    have ho := Option.some.inj hf
    subst ho
    exact K _ _ _ _ (Or.inl rfl) hP hS dX10_has_17
  · replace hf := jif_f c1 hf
    refine lv_iload_n hx hb dX10_has_4 rfl (lv_at hl 1 rfl) ?_
    refine lv_aload_n hx hb dX10_has_5 rfl (lv_at hl 0 rfl) ?_
    refine va_get (D := D) (ci := 9) (v := .int s_t_size) (C := RX10) (T := TX10) (N := 5) hx hb hts iw_X10 hown hK hP 0 rfl rfl 4 (by decide) (hts _ (wG_in k_fl_X10_30 rfl)) (fun _ h9 => h9) rfl dX10_has_6 ?_
    refine lv_icmp_ge (tgt := 16) hx hb dX10_has_9 (by decide) (fun c2 => ?_) (fun c2 => ?_)
    · replace hf := jif_t c2 hf
      refine lv_iconst (v := (0 : Int32)) hx hb dX10_has_16 (by decide) ?_
      have ho := Option.some.inj hf
      subst ho
      exact K _ _ _ _ (Or.inl rfl) hP hS dX10_has_17
    · replace hf := jif_f c2 hf
      refine lv_iconst (v := (1 : Int32)) hx hb dX10_has_12 (by decide) ?_
      refine lv_goto (tgt := 17) hx hb dX10_has_13 (by decide) ?_
      have ho := Option.some.inj hf
      subst ho
      exact K _ _ _ _ (Or.inr rfl) hP hS dX10_has_17
set_option maxHeartbeats 4000000 in
set_option maxRecDepth 100000 in
theorem c_X10_has (l : Launch) (G : jGt) (D : va_G) (cI cB cZ : ClassId) (a_t : Nat) (u_t_wife u_t_child u_t_husband u_t_father : Value) (s_t_size : Int32) (x1 : Int32) {o : Int32} (hf : f_X10_has s_t_size x1 = some o) : jMi l yX10_has gX10_has rX10_has G D (jT cI cB cZ) [.ref a_t, .int x1] (w_X10_has cI cB cZ a_t u_t_wife u_t_child u_t_husband u_t_father s_t_size) (w_X10_has cI cB cZ a_t u_t_wife u_t_child u_t_husband u_t_father s_t_size) o := by
  refine jmk_z RX10 rfl (by decide +kernel) rfl (Nat.le_of_ble_eq_true rfl) rfl ?_
  intro p e s m args below meth c ls A Q C hP hD hS hl K
  exact t_X10_has G D cI cB cZ a_t u_t_wife u_t_child u_t_husband u_t_father s_t_size x1 C hf K hP hD hS hl
abbrev rX1_from : Room := { frames := 0, cells := 0, slots := 0, locals := 0 }
abbrev gX1_from : List Cond := wG yX1_from cX1_from 1 (some .int)
def f_X1_from (x0 : Int32) : Option (Int32) :=
  some ((x0 >>> ((28 : Int32) &&& 31)) &&& (1 : Int32))
set_option maxHeartbeats 4000000 in
set_option maxRecDepth 100000 in
theorem t_X1_from {p : Program} {l : Launch} {e : Env} {s : State} {m : MethodId} {args : Array Value} {below : List Frame} {meth : Method} {c : Code} {A : Nat → Prop} {Q : State → Prop} (G : jGt) (D : va_G) (cI cB cZ : ClassId) (x0 : Int32) (C : jCx p s m args c cX1_from 1 gX1_from RX1 G D (jT cI cB cZ) A) {o : Int32} (hf : f_X1_from x0 = some o) (K : ∀ (H : Heap) (locs : List Loc) (pc : Nat) (ls : Array Slot), va_P D vwCl [] H → va_S A s.heap H locs → decode cX1_from pc = .ok (.ireturn, 1) → W p l e rX1_from s m args below meth c H locs 0 0 Q (F0 m pc ls [.int o])) {H : Heap} {locs : List Loc} {ls : Array Slot} (hP : va_P D vwCl [] H) (hD : va_D A []) (hS : va_S A s.heap H locs) (hl : lv_has ls 1 [(0, .int x0)]) : W p l e rX1_from s m args below meth c H locs 0 0 Q (F0 m 0 ls []) := by
  obtain ⟨⟨hx, hb, hml, hown, hts⟩, hK, hN, hA⟩ := C
  have C : jCx p s m args c cX1_from 1 gX1_from RX1 G D (jT cI cB cZ) A := ⟨⟨hx, hb, hml, hown, hts⟩, hK, hN, hA⟩
  unfold f_X1_from at hf
  refine lv_iload_n hx hb dX1_from_0 rfl (lv_at hl 0 rfl) ?_
  refine lv_bipush (v := (28 : Int32)) hx hb dX1_from_1 (by decide) ?_
  refine lv_ishr hx hb dX1_from_3 ?_
  refine lv_iconst (v := (1 : Int32)) hx hb dX1_from_4 (by decide) ?_
  refine lv_iand hx hb dX1_from_5 ?_
  have ho := Option.some.inj hf
  subst ho
  exact K _ _ _ _ hP hS dX1_from_6
set_option maxHeartbeats 4000000 in
set_option maxRecDepth 100000 in
theorem c_X1_from (l : Launch) (G : jGt) (D : va_G) (cI cB cZ : ClassId) (x0 : Int32) {o : Int32} (hf : f_X1_from x0 = some o) : jMi l yX1_from gX1_from rX1_from G D (jT cI cB cZ) [.int x0] [] [] o := by
  refine jmk_i RX1 rfl (by decide +kernel) rfl (Nat.le_of_ble_eq_true rfl) rfl ?_
  intro p e s m args below meth c ls A Q C hP hD hS hl K
  exact t_X1_from G D cI cB cZ x0 C hf K hP hD hS hl
abbrev rX1_size : Room := { frames := 0, cells := 0, slots := 0, locals := 0 }
abbrev gX1_size : List Cond := wG yX1_size cX1_size 1 (some .int)
def f_X1_size (x0 : Int32) : Option (Int32) :=
  some ((x0 >>> ((24 : Int32) &&& 31)) &&& (15 : Int32))
set_option maxHeartbeats 4000000 in
set_option maxRecDepth 100000 in
theorem t_X1_size {p : Program} {l : Launch} {e : Env} {s : State} {m : MethodId} {args : Array Value} {below : List Frame} {meth : Method} {c : Code} {A : Nat → Prop} {Q : State → Prop} (G : jGt) (D : va_G) (cI cB cZ : ClassId) (x0 : Int32) (C : jCx p s m args c cX1_size 1 gX1_size RX1 G D (jT cI cB cZ) A) {o : Int32} (hf : f_X1_size x0 = some o) (K : ∀ (H : Heap) (locs : List Loc) (pc : Nat) (ls : Array Slot), va_P D vwCl [] H → va_S A s.heap H locs → decode cX1_size pc = .ok (.ireturn, 1) → W p l e rX1_size s m args below meth c H locs 0 0 Q (F0 m pc ls [.int o])) {H : Heap} {locs : List Loc} {ls : Array Slot} (hP : va_P D vwCl [] H) (hD : va_D A []) (hS : va_S A s.heap H locs) (hl : lv_has ls 1 [(0, .int x0)]) : W p l e rX1_size s m args below meth c H locs 0 0 Q (F0 m 0 ls []) := by
  obtain ⟨⟨hx, hb, hml, hown, hts⟩, hK, hN, hA⟩ := C
  have C : jCx p s m args c cX1_size 1 gX1_size RX1 G D (jT cI cB cZ) A := ⟨⟨hx, hb, hml, hown, hts⟩, hK, hN, hA⟩
  unfold f_X1_size at hf
  refine lv_iload_n hx hb dX1_size_0 rfl (lv_at hl 0 rfl) ?_
  refine lv_bipush (v := (24 : Int32)) hx hb dX1_size_1 (by decide) ?_
  refine lv_ishr hx hb dX1_size_3 ?_
  refine lv_bipush (v := (15 : Int32)) hx hb dX1_size_4 (by decide) ?_
  refine lv_iand hx hb dX1_size_6 ?_
  have ho := Option.some.inj hf
  subst ho
  exact K _ _ _ _ hP hS dX1_size_7
set_option maxHeartbeats 4000000 in
set_option maxRecDepth 100000 in
theorem c_X1_size (l : Launch) (G : jGt) (D : va_G) (cI cB cZ : ClassId) (x0 : Int32) {o : Int32} (hf : f_X1_size x0 = some o) : jMi l yX1_size gX1_size rX1_size G D (jT cI cB cZ) [.int x0] [] [] o := by
  refine jmk_i RX1 rfl (by decide +kernel) rfl (Nat.le_of_ble_eq_true rfl) rfl ?_
  intro p e s m args below meth c ls A Q C hP hD hS hl K
  exact t_X1_size G D cI cB cZ x0 C hf K hP hD hS hl
abbrev rX1_letterAt : Room := { frames := 0, cells := 0, slots := 0, locals := 0 }
abbrev gX1_letterAt : List Cond := wG yX1_letterAt cX1_letterAt 2 (some .int)
def f_X1_letterAt (x0 x1 : Int32) : Option (Int32) :=
  some ((x0 >>> (((3 : Int32) * x1) &&& 31)) &&& (7 : Int32))
set_option maxHeartbeats 4000000 in
set_option maxRecDepth 100000 in
theorem t_X1_letterAt {p : Program} {l : Launch} {e : Env} {s : State} {m : MethodId} {args : Array Value} {below : List Frame} {meth : Method} {c : Code} {A : Nat → Prop} {Q : State → Prop} (G : jGt) (D : va_G) (cI cB cZ : ClassId) (x0 x1 : Int32) (C : jCx p s m args c cX1_letterAt 2 gX1_letterAt RX1 G D (jT cI cB cZ) A) {o : Int32} (hf : f_X1_letterAt x0 x1 = some o) (K : ∀ (H : Heap) (locs : List Loc) (pc : Nat) (ls : Array Slot), va_P D vwCl [] H → va_S A s.heap H locs → decode cX1_letterAt pc = .ok (.ireturn, 1) → W p l e rX1_letterAt s m args below meth c H locs 0 0 Q (F0 m pc ls [.int o])) {H : Heap} {locs : List Loc} {ls : Array Slot} (hP : va_P D vwCl [] H) (hD : va_D A []) (hS : va_S A s.heap H locs) (hl : lv_has ls 2 [(0, .int x0), (1, .int x1)]) : W p l e rX1_letterAt s m args below meth c H locs 0 0 Q (F0 m 0 ls []) := by
  obtain ⟨⟨hx, hb, hml, hown, hts⟩, hK, hN, hA⟩ := C
  have C : jCx p s m args c cX1_letterAt 2 gX1_letterAt RX1 G D (jT cI cB cZ) A := ⟨⟨hx, hb, hml, hown, hts⟩, hK, hN, hA⟩
  unfold f_X1_letterAt at hf
  refine lv_iload_n hx hb dX1_letterAt_0 rfl (lv_at hl 0 rfl) ?_
  refine lv_iconst (v := (3 : Int32)) hx hb dX1_letterAt_1 (by decide) ?_
  refine lv_iload_n hx hb dX1_letterAt_2 rfl (lv_at hl 1 rfl) ?_
  refine lv_imul hx hb dX1_letterAt_3 ?_
  refine lv_ishr hx hb dX1_letterAt_4 ?_
  refine lv_bipush (v := (7 : Int32)) hx hb dX1_letterAt_5 (by decide) ?_
  refine lv_iand hx hb dX1_letterAt_7 ?_
  have ho := Option.some.inj hf
  subst ho
  exact K _ _ _ _ hP hS dX1_letterAt_8
set_option maxHeartbeats 4000000 in
set_option maxRecDepth 100000 in
theorem c_X1_letterAt (l : Launch) (G : jGt) (D : va_G) (cI cB cZ : ClassId) (x0 x1 : Int32) {o : Int32} (hf : f_X1_letterAt x0 x1 = some o) : jMi l yX1_letterAt gX1_letterAt rX1_letterAt G D (jT cI cB cZ) [.int x0, .int x1] [] [] o := by
  refine jmk_i RX1 rfl (by decide +kernel) rfl (Nat.le_of_ble_eq_true rfl) rfl ?_
  intro p e s m args below meth c ls A Q C hP hD hS hl K
  exact t_X1_letterAt G D cI cB cZ x0 x1 C hf K hP hD hS hl
abbrev rX10_step : Room := { frames := 0, cells := 0, slots := 0, locals := 0 }
abbrev gX10_step : List Cond := wG yX10_step cX10_step 5 (some .int)
def w_X10_step (cI cB cZ : ClassId) (a_t a_t_child a_t_father a_t_husband a_t_wife : Nat) (u_t_size : Int32) (r_t_child r_t_father r_t_husband r_t_wife : jA) : va_W := [(a_t, .inr (9, (oX10 (.ref a_t_wife) (.ref a_t_child) (.ref a_t_husband) (.ref a_t_father) u_t_size))), (a_t_child, .inl (cI, r_t_child.1, .inl r_t_child.2)), (a_t_father, .inl (cI, r_t_father.1, .inl r_t_father.2)), (a_t_husband, .inl (cI, r_t_husband.1, .inl r_t_husband.2)), (a_t_wife, .inl (cI, r_t_wife.1, .inl r_t_wife.2))]
def f_X10_step_j100 (r_t_child : jA) (k1 : Int32) : Option (Int32) :=
  jL r_t_child k1 fun v10 =>
  some v10
set_option maxHeartbeats 4000000 in
set_option maxRecDepth 100000 in
theorem t_X10_step_j100 {p : Program} {l : Launch} {e : Env} {s : State} {m : MethodId} {args : Array Value} {below : List Frame} {meth : Method} {c : Code} {A : Nat → Prop} {Q : State → Prop} (G : jGt) (D : va_G) (cI cB cZ : ClassId) (a_t a_t_child a_t_father a_t_husband a_t_wife : Nat) (u_t_size : Int32) (r_t_child r_t_father r_t_husband r_t_wife : jA) (k1 : Int32) (C : jCx p s m args c cX10_step 5 gX10_step RX10 G D (jT cI cB cZ) A) {o : Int32} (hf : f_X10_step_j100 r_t_child k1 = some o) (K : ∀ (H : Heap) (locs : List Loc) (pc : Nat) (ls : Array Slot), va_P D vwCl (w_X10_step cI cB cZ a_t a_t_child a_t_father a_t_husband a_t_wife u_t_size r_t_child r_t_father r_t_husband r_t_wife) H → va_S A s.heap H locs → decode cX10_step pc = .ok (.ireturn, 1) → W p l e rX10_step s m args below meth c H locs 0 0 Q (F0 m pc ls [.int o])) {H : Heap} {locs : List Loc} {ls : Array Slot} (hP : va_P D vwCl (w_X10_step cI cB cZ a_t a_t_child a_t_father a_t_husband a_t_wife u_t_size r_t_child r_t_father r_t_husband r_t_wife) H) (hD : va_D A (w_X10_step cI cB cZ a_t a_t_child a_t_father a_t_husband a_t_wife u_t_size r_t_child r_t_father r_t_husband r_t_wife)) (hS : va_S A s.heap H locs) (hl : lv_has ls 5 []) : W p l e rX10_step s m args below meth c H locs 0 0 Q (F0 m 100 ls [.int k1, .ref a_t_child]) := by
  obtain ⟨⟨hx, hb, hml, hown, hts⟩, hK, hN, hA⟩ := C
  have C : jCx p s m args c cX10_step 5 gX10_step RX10 G D (jT cI cB cZ) A := ⟨⟨hx, hb, hml, hown, hts⟩, hK, hN, hA⟩
  unfold f_X10_step_j100 at hf
  obtain ⟨v10, hv10, iv10, hf⟩ := jL_some hf
  refine ja_iald (P := r_t_child) hx hb hK hP 1 0 rfl rfl hv10 iv10 dX10_step_100 ?_
  have ho := Option.some.inj hf
  subst ho
  exact K _ _ _ _ hP hS dX10_step_101
def f_X10_step_j76 (r_t_child r_t_husband : jA) (x2 x4 : Int32) : Option (Int32) :=
  if x2 = (1 : Int32) then
  f_X10_step_j100 r_t_child x4
  else
  jL r_t_husband x4 fun v9 =>
  f_X10_step_j100 r_t_child (v9 &&& (7 : Int32))
set_option maxHeartbeats 4000000 in
set_option maxRecDepth 100000 in
theorem t_X10_step_j76 {p : Program} {l : Launch} {e : Env} {s : State} {m : MethodId} {args : Array Value} {below : List Frame} {meth : Method} {c : Code} {A : Nat → Prop} {Q : State → Prop} (G : jGt) (D : va_G) (cI cB cZ : ClassId) (a_t a_t_child a_t_father a_t_husband a_t_wife : Nat) (u_t_size : Int32) (r_t_child r_t_father r_t_husband r_t_wife : jA) (x2 x4 : Int32) (C : jCx p s m args c cX10_step 5 gX10_step RX10 G D (jT cI cB cZ) A) {o : Int32} (hf : f_X10_step_j76 r_t_child r_t_husband x2 x4 = some o) (K : ∀ (H : Heap) (locs : List Loc) (pc : Nat) (ls : Array Slot), va_P D vwCl (w_X10_step cI cB cZ a_t a_t_child a_t_father a_t_husband a_t_wife u_t_size r_t_child r_t_father r_t_husband r_t_wife) H → va_S A s.heap H locs → decode cX10_step pc = .ok (.ireturn, 1) → W p l e rX10_step s m args below meth c H locs 0 0 Q (F0 m pc ls [.int o])) {H : Heap} {locs : List Loc} {ls : Array Slot} (hP : va_P D vwCl (w_X10_step cI cB cZ a_t a_t_child a_t_father a_t_husband a_t_wife u_t_size r_t_child r_t_father r_t_husband r_t_wife) H) (hD : va_D A (w_X10_step cI cB cZ a_t a_t_child a_t_father a_t_husband a_t_wife u_t_size r_t_child r_t_father r_t_husband r_t_wife)) (hS : va_S A s.heap H locs) (hl : lv_has ls 5 [(0, .ref a_t), (2, .int x2), (4, .int x4)]) : W p l e rX10_step s m args below meth c H locs 0 0 Q (F0 m 76 ls []) := by
  obtain ⟨⟨hx, hb, hml, hown, hts⟩, hK, hN, hA⟩ := C
  have C : jCx p s m args c cX10_step 5 gX10_step RX10 G D (jT cI cB cZ) A := ⟨⟨hx, hb, hml, hown, hts⟩, hK, hN, hA⟩
  unfold f_X10_step_j76 at hf
  refine lv_aload_n hx hb dX10_step_76 rfl (lv_at hl 0 rfl) ?_
  refine va_get (D := D) (ci := 9) (v := .ref a_t_child) (C := RX10) (T := TX10) (N := 5) hx hb hts iw_X10 hown hK hP 0 rfl rfl 1 (by decide) (hts _ (wG_in k_fl_X10_15 rfl)) (fun _ h9 => h9) rfl dX10_step_77 ?_
  refine lv_iload_n hx hb dX10_step_80 rfl (lv_at hl 1 rfl) ?_
  refine lv_iconst (v := (1 : Int32)) hx hb dX10_step_81 (by decide) ?_
  refine lv_icmp_ne (tgt := 90) hx hb dX10_step_82 (by decide) (fun c8 => ?_) (fun c8 => ?_)
  · replace hf := jif_f c8 hf
    refine lv_aload_n hx hb dX10_step_90 rfl (lv_at hl 0 rfl) ?_
    refine va_get (D := D) (ci := 9) (v := .ref a_t_husband) (C := RX10) (T := TX10) (N := 5) hx hb hts iw_X10 hown hK hP 0 rfl rfl 2 (by decide) (hts _ (wG_in k_fl_X10_18 rfl)) (fun _ h9 => h9) rfl dX10_step_91 ?_
    refine lv_iload hx hb dX10_step_94 (lv_at hl 2 rfl) ?_
    obtain ⟨v9, hv9, iv9, hf⟩ := jL_some hf
    refine ja_iald (P := r_t_husband) hx hb hK hP 3 0 rfl rfl hv9 iv9 dX10_step_96 ?_
    refine lv_bipush (v := (7 : Int32)) hx hb dX10_step_97 (by decide) ?_
    refine lv_iand hx hb dX10_step_99 ?_
    exact t_X10_step_j100 G D cI cB cZ a_t a_t_child a_t_father a_t_husband a_t_wife u_t_size r_t_child r_t_father r_t_husband r_t_wife (v9 &&& (7 : Int32)) C hf K hP hD hS (lv_sub hl [] rfl)
  · replace hf := jif_t c8 hf
    refine lv_iload hx hb dX10_step_85 (lv_at hl 2 rfl) ?_
    refine lv_goto (tgt := 100) hx hb dX10_step_87 (by decide) ?_
    exact t_X10_step_j100 G D cI cB cZ a_t a_t_child a_t_father a_t_husband a_t_wife u_t_size r_t_child r_t_father r_t_husband r_t_wife x4 C hf K hP hD hS (lv_sub hl [] rfl)
def f_X10_step (r_t_child r_t_father r_t_husband r_t_wife : jA) (x1 x2 x3 : Int32) : Option (Int32) :=
  jV (x3 &&& (7 : Int32)) fun v1 =>
  if x1 = (0 : Int32) then
  jL r_t_father v1 fun v3 =>
  some v3
  else if x1 = (1 : Int32) then
  jL r_t_father v1 fun v5 =>
  jL r_t_wife (v5 &&& (7 : Int32)) fun v6 =>
  some v6
  else if x1 = (2 : Int32) then
  f_X10_step_j76 r_t_child r_t_husband x2 v1
  else if x1 = (3 : Int32) then
  f_X10_step_j76 r_t_child r_t_husband x2 v1
  else if x1 = (4 : Int32) then
  some x3
  else if x1 = (5 : Int32) then
  some x3
  else if x1 = (6 : Int32) then
  jL r_t_husband v1 fun v15 =>
  some v15
  else if x1 = (7 : Int32) then
  jL r_t_wife v1 fun v17 =>
  some v17
  else some x3
set_option maxHeartbeats 4000000 in
set_option maxRecDepth 100000 in
theorem t_X10_step {p : Program} {l : Launch} {e : Env} {s : State} {m : MethodId} {args : Array Value} {below : List Frame} {meth : Method} {c : Code} {A : Nat → Prop} {Q : State → Prop} (G : jGt) (D : va_G) (cI cB cZ : ClassId) (a_t a_t_child a_t_father a_t_husband a_t_wife : Nat) (u_t_size : Int32) (r_t_child r_t_father r_t_husband r_t_wife : jA) (x1 x2 x3 : Int32) (C : jCx p s m args c cX10_step 5 gX10_step RX10 G D (jT cI cB cZ) A) {o : Int32} (hf : f_X10_step r_t_child r_t_father r_t_husband r_t_wife x1 x2 x3 = some o) (K : ∀ (H : Heap) (locs : List Loc) (pc : Nat) (ls : Array Slot), va_P D vwCl (w_X10_step cI cB cZ a_t a_t_child a_t_father a_t_husband a_t_wife u_t_size r_t_child r_t_father r_t_husband r_t_wife) H → va_S A s.heap H locs → decode cX10_step pc = .ok (.ireturn, 1) → W p l e rX10_step s m args below meth c H locs 0 0 Q (F0 m pc ls [.int o])) {H : Heap} {locs : List Loc} {ls : Array Slot} (hP : va_P D vwCl (w_X10_step cI cB cZ a_t a_t_child a_t_father a_t_husband a_t_wife u_t_size r_t_child r_t_father r_t_husband r_t_wife) H) (hD : va_D A (w_X10_step cI cB cZ a_t a_t_child a_t_father a_t_husband a_t_wife u_t_size r_t_child r_t_father r_t_husband r_t_wife)) (hS : va_S A s.heap H locs) (hl : lv_has ls 5 [(0, .ref a_t), (1, .int x1), (2, .int x2), (3, .int x3)]) : W p l e rX10_step s m args below meth c H locs 0 0 Q (F0 m 0 ls []) := by
  obtain ⟨⟨hx, hb, hml, hown, hts⟩, hK, hN, hA⟩ := C
  have C : jCx p s m args c cX10_step 5 gX10_step RX10 G D (jT cI cB cZ) A := ⟨⟨hx, hb, hml, hown, hts⟩, hK, hN, hA⟩
  unfold f_X10_step at hf
  refine lv_iload_n hx hb dX10_step_0 rfl (lv_at hl 3 rfl) ?_
  refine lv_bipush (v := (7 : Int32)) hx hb dX10_step_1 (by decide) ?_
  refine lv_iand hx hb dX10_step_3 ?_
  obtain ⟨v1, hv1, hf⟩ := jV_some hf
  refine jtop hv1 ?_
  refine lv_istore (lv' := [(4, .int v1), (0, .ref a_t), (1, .int x1), (2, .int x2), (3, .int x3)]) hx hb dX10_step_4 hl (by decide) rfl (fun ls hl => ?_)
  refine lv_iload_n hx hb dX10_step_6 rfl (lv_at hl 2 rfl) ?_
  by_cases c2 : x1 = (0 : Int32)
  · replace hf := jif_t c2 hf
    refine lv_tableIn (tgt := 52) hx hb dX10_step_7 (by rw [c2]; decide) (by rw [c2]; decide) (by rw [c2]; rfl) (by decide) ?_
    refine lv_aload_n hx hb dX10_step_52 rfl (lv_at hl 1 rfl) ?_
    refine va_get (D := D) (ci := 9) (v := .ref a_t_father) (C := RX10) (T := TX10) (N := 5) hx hb hts iw_X10 hown hK hP 0 rfl rfl 3 (by decide) (hts _ (wG_in k_fl_X10_21 rfl)) (fun _ h9 => h9) rfl dX10_step_53 ?_
    refine lv_iload hx hb dX10_step_56 (lv_at hl 0 rfl) ?_
    obtain ⟨v3, hv3, iv3, hf⟩ := jL_some hf
    refine ja_iald (P := r_t_father) hx hb hK hP 2 0 rfl rfl hv3 iv3 dX10_step_58 ?_
    have ho := Option.some.inj hf
    subst ho
    exact K _ _ _ _ hP hS dX10_step_59
  replace hf := jif_f c2 hf
  by_cases c4 : x1 = (1 : Int32)
  · replace hf := jif_t c4 hf
    refine lv_tableIn (tgt := 60) hx hb dX10_step_7 (by rw [c4]; decide) (by rw [c4]; decide) (by rw [c4]; rfl) (by decide) ?_
    refine lv_aload_n hx hb dX10_step_60 rfl (lv_at hl 1 rfl) ?_
    refine va_get (D := D) (ci := 9) (v := .ref a_t_wife) (C := RX10) (T := TX10) (N := 5) hx hb hts iw_X10 hown hK hP 0 rfl rfl 0 (by decide) (hts _ (wG_in k_fl_X10_9 rfl)) (fun _ h9 => h9) rfl dX10_step_61 ?_
    refine lv_aload_n hx hb dX10_step_64 rfl (lv_at hl 1 rfl) ?_
    refine va_get (D := D) (ci := 9) (v := .ref a_t_father) (C := RX10) (T := TX10) (N := 5) hx hb hts iw_X10 hown hK hP 0 rfl rfl 3 (by decide) (hts _ (wG_in k_fl_X10_21 rfl)) (fun _ h9 => h9) rfl dX10_step_65 ?_
    refine lv_iload hx hb dX10_step_68 (lv_at hl 0 rfl) ?_
    obtain ⟨v5, hv5, iv5, hf⟩ := jL_some hf
    refine ja_iald (P := r_t_father) hx hb hK hP 2 0 rfl rfl hv5 iv5 dX10_step_70 ?_
    refine lv_bipush (v := (7 : Int32)) hx hb dX10_step_71 (by decide) ?_
    refine lv_iand hx hb dX10_step_73 ?_
    obtain ⟨v6, hv6, iv6, hf⟩ := jL_some hf
    refine ja_iald (P := r_t_wife) hx hb hK hP 4 0 rfl rfl hv6 iv6 dX10_step_74 ?_
    have ho := Option.some.inj hf
    subst ho
    exact K _ _ _ _ hP hS dX10_step_75
  replace hf := jif_f c4 hf
  by_cases c7 : x1 = (2 : Int32)
  · replace hf := jif_t c7 hf
    refine lv_tableIn (tgt := 76) hx hb dX10_step_7 (by rw [c7]; decide) (by rw [c7]; decide) (by rw [c7]; rfl) (by decide) ?_
    exact t_X10_step_j76 G D cI cB cZ a_t a_t_child a_t_father a_t_husband a_t_wife u_t_size r_t_child r_t_father r_t_husband r_t_wife x2 v1 C hf K hP hD hS (lv_sub hl [1, 3, 0] rfl)
  replace hf := jif_f c7 hf
  by_cases c11 : x1 = (3 : Int32)
  · replace hf := jif_t c11 hf
    refine lv_tableIn (tgt := 76) hx hb dX10_step_7 (by rw [c11]; decide) (by rw [c11]; decide) (by rw [c11]; rfl) (by decide) ?_
    exact t_X10_step_j76 G D cI cB cZ a_t a_t_child a_t_father a_t_husband a_t_wife u_t_size r_t_child r_t_father r_t_husband r_t_wife x2 v1 C hf K hP hD hS (lv_sub hl [1, 3, 0] rfl)
  replace hf := jif_f c11 hf
  by_cases c12 : x1 = (4 : Int32)
  · replace hf := jif_t c12 hf
    refine lv_tableIn (tgt := 118) hx hb dX10_step_7 (by rw [c12]; decide) (by rw [c12]; decide) (by rw [c12]; rfl) (by decide) ?_
    refine lv_iload_n hx hb dX10_step_118 rfl (lv_at hl 4 rfl) ?_
    have ho := Option.some.inj hf
    subst ho
    exact K _ _ _ _ hP hS dX10_step_119
  replace hf := jif_f c12 hf
  by_cases c13 : x1 = (5 : Int32)
  · replace hf := jif_t c13 hf
    refine lv_tableIn (tgt := 118) hx hb dX10_step_7 (by rw [c13]; decide) (by rw [c13]; decide) (by rw [c13]; rfl) (by decide) ?_
    refine lv_iload_n hx hb dX10_step_118 rfl (lv_at hl 4 rfl) ?_
    have ho := Option.some.inj hf
    subst ho
    exact K _ _ _ _ hP hS dX10_step_119
  replace hf := jif_f c13 hf
  by_cases c14 : x1 = (6 : Int32)
  · replace hf := jif_t c14 hf
    refine lv_tableIn (tgt := 102) hx hb dX10_step_7 (by rw [c14]; decide) (by rw [c14]; decide) (by rw [c14]; rfl) (by decide) ?_
    refine lv_aload_n hx hb dX10_step_102 rfl (lv_at hl 1 rfl) ?_
    refine va_get (D := D) (ci := 9) (v := .ref a_t_husband) (C := RX10) (T := TX10) (N := 5) hx hb hts iw_X10 hown hK hP 0 rfl rfl 2 (by decide) (hts _ (wG_in k_fl_X10_18 rfl)) (fun _ h9 => h9) rfl dX10_step_103 ?_
    refine lv_iload hx hb dX10_step_106 (lv_at hl 0 rfl) ?_
    obtain ⟨v15, hv15, iv15, hf⟩ := jL_some hf
    refine ja_iald (P := r_t_husband) hx hb hK hP 3 0 rfl rfl hv15 iv15 dX10_step_108 ?_
    have ho := Option.some.inj hf
    subst ho
    exact K _ _ _ _ hP hS dX10_step_109
  replace hf := jif_f c14 hf
  by_cases c16 : x1 = (7 : Int32)
  · replace hf := jif_t c16 hf
    refine lv_tableIn (tgt := 110) hx hb dX10_step_7 (by rw [c16]; decide) (by rw [c16]; decide) (by rw [c16]; rfl) (by decide) ?_
    refine lv_aload_n hx hb dX10_step_110 rfl (lv_at hl 1 rfl) ?_
    refine va_get (D := D) (ci := 9) (v := .ref a_t_wife) (C := RX10) (T := TX10) (N := 5) hx hb hts iw_X10 hown hK hP 0 rfl rfl 0 (by decide) (hts _ (wG_in k_fl_X10_9 rfl)) (fun _ h9 => h9) rfl dX10_step_111 ?_
    refine lv_iload hx hb dX10_step_114 (lv_at hl 0 rfl) ?_
    obtain ⟨v17, hv17, iv17, hf⟩ := jL_some hf
    refine ja_iald (P := r_t_wife) hx hb hK hP 4 0 rfl rfl hv17 iv17 dX10_step_116 ?_
    have ho := Option.some.inj hf
    subst ho
    exact K _ _ _ _ hP hS dX10_step_117
  replace hf := jif_f c16 hf
  refine lv_tableOut (tgt := 118) hx hb dX10_step_7 (jtab_out (lo := 0) (n := 8) (fun k hk => match k, hk with | 0, _ => c2 | 1, _ => c4 | 2, _ => c7 | 3, _ => c11 | 4, _ => c12 | 5, _ => c13 | 6, _ => c14 | 7, _ => c16 | (k + 8), h => absurd h (by omega))) (by decide) ?_
  refine lv_iload_n hx hb dX10_step_118 rfl (lv_at hl 4 rfl) ?_
  have ho := Option.some.inj hf
  subst ho
  exact K _ _ _ _ hP hS dX10_step_119
set_option maxHeartbeats 4000000 in
set_option maxRecDepth 100000 in
theorem c_X10_step (l : Launch) (G : jGt) (D : va_G) (cI cB cZ : ClassId) (a_t a_t_child a_t_father a_t_husband a_t_wife : Nat) (u_t_size : Int32) (r_t_child r_t_father r_t_husband r_t_wife : jA) (x1 x2 x3 : Int32) {o : Int32} (hf : f_X10_step r_t_child r_t_father r_t_husband r_t_wife x1 x2 x3 = some o) : jMi l yX10_step gX10_step rX10_step G D (jT cI cB cZ) [.ref a_t, .int x1, .int x2, .int x3] (w_X10_step cI cB cZ a_t a_t_child a_t_father a_t_husband a_t_wife u_t_size r_t_child r_t_father r_t_husband r_t_wife) (w_X10_step cI cB cZ a_t a_t_child a_t_father a_t_husband a_t_wife u_t_size r_t_child r_t_father r_t_husband r_t_wife) o := by
  refine jmk_i RX10 rfl (by decide +kernel) rfl (Nat.le_of_ble_eq_true rfl) rfl ?_
  intro p e s m args below meth c ls A Q C hP hD hS hl K
  exact t_X10_step G D cI cB cZ a_t a_t_child a_t_father a_t_husband a_t_wife u_t_size r_t_child r_t_father r_t_husband r_t_wife x1 x2 x3 C hf K hP hD hS hl
abbrev rX1_sexOf : Room := { frames := 0, cells := 0, slots := 0, locals := 0 }
abbrev gX1_sexOf : List Cond := wG yX1_sexOf cX1_sexOf 1 (some .int)
def f_X1_sexOf (x0 : Int32) : Option (Int32) :=
  if (x0 &&& (1 : Int32)) = 0 then
  some (1 : Int32)
  else
  some (0 : Int32)
set_option maxHeartbeats 4000000 in
set_option maxRecDepth 100000 in
theorem t_X1_sexOf {p : Program} {l : Launch} {e : Env} {s : State} {m : MethodId} {args : Array Value} {below : List Frame} {meth : Method} {c : Code} {A : Nat → Prop} {Q : State → Prop} (G : jGt) (D : va_G) (cI cB cZ : ClassId) (x0 : Int32) (C : jCx p s m args c cX1_sexOf 1 gX1_sexOf RX1 G D (jT cI cB cZ) A) {o : Int32} (hf : f_X1_sexOf x0 = some o) (K : ∀ (H : Heap) (locs : List Loc) (pc : Nat) (ls : Array Slot), va_P D vwCl [] H → va_S A s.heap H locs → decode cX1_sexOf pc = .ok (.ireturn, 1) → W p l e rX1_sexOf s m args below meth c H locs 0 0 Q (F0 m pc ls [.int o])) {H : Heap} {locs : List Loc} {ls : Array Slot} (hP : va_P D vwCl [] H) (hD : va_D A []) (hS : va_S A s.heap H locs) (hl : lv_has ls 1 [(0, .int x0)]) : W p l e rX1_sexOf s m args below meth c H locs 0 0 Q (F0 m 0 ls []) := by
  obtain ⟨⟨hx, hb, hml, hown, hts⟩, hK, hN, hA⟩ := C
  have C : jCx p s m args c cX1_sexOf 1 gX1_sexOf RX1 G D (jT cI cB cZ) A := ⟨⟨hx, hb, hml, hown, hts⟩, hK, hN, hA⟩
  unfold f_X1_sexOf at hf
  refine lv_iload_n hx hb dX1_sexOf_0 rfl (lv_at hl 0 rfl) ?_
  refine lv_iconst (v := (1 : Int32)) hx hb dX1_sexOf_1 (by decide) ?_
  refine lv_iand hx hb dX1_sexOf_2 ?_
  refine lv_if_ne (tgt := 10) hx hb dX1_sexOf_3 (by decide) (fun c1 => ?_) (fun c1 => ?_)
  · replace hf := jif_f c1 hf
    refine lv_iconst (v := (0 : Int32)) hx hb dX1_sexOf_10 (by decide) ?_
    have ho := Option.some.inj hf
    subst ho
    exact K _ _ _ _ hP hS dX1_sexOf_11
  · replace hf := jif_t c1 hf
    refine lv_iconst (v := (1 : Int32)) hx hb dX1_sexOf_6 (by decide) ?_
    refine lv_goto (tgt := 11) hx hb dX1_sexOf_7 (by decide) ?_
    have ho := Option.some.inj hf
    subst ho
    exact K _ _ _ _ hP hS dX1_sexOf_11
set_option maxHeartbeats 4000000 in
set_option maxRecDepth 100000 in
theorem c_X1_sexOf (l : Launch) (G : jGt) (D : va_G) (cI cB cZ : ClassId) (x0 : Int32) {o : Int32} (hf : f_X1_sexOf x0 = some o) : jMi l yX1_sexOf gX1_sexOf rX1_sexOf G D (jT cI cB cZ) [.int x0] [] [] o := by
  refine jmk_i RX1 rfl (by decide +kernel) rfl (Nat.le_of_ble_eq_true rfl) rfl ?_
  intro p e s m args below meth c ls A Q C hP hD hS hl K
  exact t_X1_sexOf G D cI cB cZ x0 C hf K hP hD hS hl
abbrev rX10_follow : Room := { frames := 1, cells := 0, slots := 0, locals := 24 }
abbrev gX10_follow : List Cond := wG yX10_follow cX10_follow 7 (some .int)
def w_X10_follow (cI cB cZ : ClassId) (a_t a_t_child a_t_father a_t_husband a_t_wife : Nat) (s_t_size : Int32) (r_t_child r_t_father r_t_husband r_t_wife : jA) : va_W := [(a_t, .inr (9, (oX10 (.ref a_t_wife) (.ref a_t_child) (.ref a_t_husband) (.ref a_t_father) s_t_size))), (a_t_child, .inl (cI, r_t_child.1, .inl r_t_child.2)), (a_t_father, .inl (cI, r_t_father.1, .inl r_t_father.2)), (a_t_husband, .inl (cI, r_t_husband.1, .inl r_t_husband.2)), (a_t_wife, .inl (cI, r_t_wife.1, .inl r_t_wife.2))]
def f_X10_follow_b21 (r_t_child r_t_father r_t_husband r_t_wife : jA) (x1 x3 x4 x5 : Int32) : Option ((Int32 × Int32 × Int32) ⊕ ((Int32))) :=
  jM (f_X1_size x1) fun r4 =>
  if r4 ≤ x5 then
  some (Sum.inr x4)
  else
  jM (f_X1_letterAt x1 x5) fun r6 =>
  jM (f_X10_step r_t_child r_t_father r_t_husband r_t_wife r6 x3 x4) fun r7 =>
  jM (f_X1_sexOf r6) fun r8 =>
  some (Sum.inl (r8, r7, (x5 + 1)))
set_option maxHeartbeats 4000000 in
set_option maxRecDepth 100000 in
theorem t_X10_follow_b21 {p : Program} {l : Launch} {e : Env} {s : State} {m : MethodId} {args : Array Value} {below : List Frame} {meth : Method} {c : Code} {A : Nat → Prop} {Q : State → Prop} (G : jGt) (D : va_G) (cI cB cZ : ClassId) (a_t a_t_child a_t_father a_t_husband a_t_wife : Nat) (s_t_size : Int32) (r_t_child r_t_father r_t_husband r_t_wife : jA) (x1 x3 x4 x5 : Int32) (C : jCx p s m args c cX10_follow 7 gX10_follow RX10 G D (jT cI cB cZ) A) {o : (Int32 × Int32 × Int32) ⊕ ((Int32))} (hf : f_X10_follow_b21 r_t_child r_t_father r_t_husband r_t_wife x1 x3 x4 x5 = some o) (K : (∀ z, o = Sum.inl z → ∀ (H : Heap) (locs : List Loc) (ls : Array Slot), va_P D vwCl (w_X10_follow cI cB cZ a_t a_t_child a_t_father a_t_husband a_t_wife s_t_size r_t_child r_t_father r_t_husband r_t_wife) H → va_D A (w_X10_follow cI cB cZ a_t a_t_child a_t_father a_t_husband a_t_wife s_t_size r_t_child r_t_father r_t_husband r_t_wife) → va_S A s.heap H locs → lv_has ls 7 [(0, .ref a_t), (1, .int x1), (3, .int z.1), (4, .int z.2.1), (5, .int z.2.2)] → W p l e rX10_follow s m args below meth c H locs 0 0 Q (F0 m 21 ls [])) ∧ (∀ z, o = Sum.inr z → ∀ (H : Heap) (locs : List Loc) (ls : Array Slot), va_P D vwCl (w_X10_follow cI cB cZ a_t a_t_child a_t_father a_t_husband a_t_wife s_t_size r_t_child r_t_father r_t_husband r_t_wife) H → va_D A (w_X10_follow cI cB cZ a_t a_t_child a_t_father a_t_husband a_t_wife s_t_size r_t_child r_t_father r_t_husband r_t_wife) → va_S A s.heap H locs → lv_has ls 7 [(4, .int z)] → W p l e rX10_follow s m args below meth c H locs 0 0 Q (F0 m 61 ls []))) {H : Heap} {locs : List Loc} {ls : Array Slot} (hP : va_P D vwCl (w_X10_follow cI cB cZ a_t a_t_child a_t_father a_t_husband a_t_wife s_t_size r_t_child r_t_father r_t_husband r_t_wife) H) (hD : va_D A (w_X10_follow cI cB cZ a_t a_t_child a_t_father a_t_husband a_t_wife s_t_size r_t_child r_t_father r_t_husband r_t_wife)) (hS : va_S A s.heap H locs) (hl : lv_has ls 7 [(0, .ref a_t), (1, .int x1), (3, .int x3), (4, .int x4), (5, .int x5)]) : W p l e rX10_follow s m args below meth c H locs 0 0 Q (F0 m 21 ls []) := by
  obtain ⟨⟨hx, hb, hml, hown, hts⟩, hK, hN, hA⟩ := C
  have C : jCx p s m args c cX10_follow 7 gX10_follow RX10 G D (jT cI cB cZ) A := ⟨⟨hx, hb, hml, hown, hts⟩, hK, hN, hA⟩
  unfold f_X10_follow_b21 at hf
  refine lv_iload hx hb dX10_follow_21 (lv_at hl 4 rfl) ?_
  refine lv_iload_n hx hb dX10_follow_23 rfl (lv_at hl 1 rfl) ?_
  obtain ⟨r4, hgr4, hf⟩ := jM_some hf
  refine jcS_i0 (As := [.int x1]) (rest := [.int x5]) ⟨hx, hb, hml, hown, hts⟩ hK hN hA (c_X1_size l G D cI cB cZ x1 hgr4) (va_cwS 1 hts (wG_S k_ml_X10_58 k_st_X1_size k_in_X1 k_co_X1_size) rfl rfl rfl hd_X1_size.2 ⟨Nat.le_of_ble_eq_true rfl, Nat.le_of_ble_eq_true rfl⟩) hP hD hS [] rfl rfl rfl rfl hl.1 rfl (Nat.le_of_ble_eq_true rfl) dX10_follow_24 ⟨Nat.le_of_ble_eq_true rfl, Nat.le_of_ble_eq_true rfl⟩ (fun H locs hP hD hS => ?_)
  refine lv_icmp_ge (tgt := 61) hx hb dX10_follow_27 (by decide) (fun c5 => ?_) (fun c5 => ?_)
  · replace hf := jif_t c5 hf
    have ho := Option.some.inj hf
    exact (K.2 _ ho.symm) _ _ _ hP hD hS (lv_sub hl [3] rfl)
  · replace hf := jif_f c5 hf
    refine lv_iload_n hx hb dX10_follow_30 rfl (lv_at hl 1 rfl) ?_
    refine lv_iload hx hb dX10_follow_31 (lv_at hl 4 rfl) ?_
    obtain ⟨r6, hgr6, hf⟩ := jM_some hf
    refine jcS_i0 (As := [.int x1, .int x5]) (rest := []) ⟨hx, hb, hml, hown, hts⟩ hK hN hA (c_X1_letterAt l G D cI cB cZ x1 x5 hgr6) (va_cwS 2 hts (wG_S k_ml_X10_60 k_st_X1_letterAt k_in_X1 k_co_X1_letterAt) rfl rfl rfl hd_X1_letterAt.2 ⟨Nat.le_of_ble_eq_true rfl, Nat.le_of_ble_eq_true rfl⟩) hP hD hS [] rfl rfl rfl rfl hl.1 rfl (Nat.le_of_ble_eq_true rfl) dX10_follow_33 ⟨Nat.le_of_ble_eq_true rfl, Nat.le_of_ble_eq_true rfl⟩ (fun H locs hP hD hS => ?_)
    refine lv_istore (lv' := [(6, .int r6), (0, .ref a_t), (1, .int x1), (3, .int x3), (4, .int x4), (5, .int x5)]) hx hb dX10_follow_36 hl (by decide) rfl (fun ls hl => ?_)
    refine lv_aload_n hx hb dX10_follow_38 rfl (lv_at hl 1 rfl) ?_
    refine lv_iload hx hb dX10_follow_39 (lv_at hl 0 rfl) ?_
    refine lv_iload_n hx hb dX10_follow_41 rfl (lv_at hl 3 rfl) ?_
    refine lv_iload hx hb dX10_follow_42 (lv_at hl 4 rfl) ?_
    obtain ⟨r7, hgr7, hf⟩ := jM_some hf
    refine jcV_i0 (As := [.int r6, .int x3, .int x4]) (rest := []) ⟨hx, hb, hml, hown, hts⟩ hK hN hA (c_X10_step l G D cI cB cZ a_t a_t_child a_t_father a_t_husband a_t_wife s_t_size r_t_child r_t_father r_t_husband r_t_wife r6 x3 x4 hgr7) (cwV 3 hts (wG_V k_ml_X10_64 k_im_X10_step k_se_X10_step k_in_X10 k_co_X10_step) rfl rfl rfl hd_X10_step ⟨Nat.le_of_ble_eq_true rfl, Nat.le_of_ble_eq_true rfl⟩) hP hD hS [0, 1, 2, 3, 4] rfl rfl rfl (ci := 9) rfl 0 rfl rfl rfl hl.1 rfl (Nat.le_of_ble_eq_true rfl) dX10_follow_44 ⟨Nat.le_of_ble_eq_true rfl, Nat.le_of_ble_eq_true rfl⟩ (fun H locs hP hD hS => ?_)
    refine lv_istore (lv' := [(4, .int r7), (6, .int r6), (0, .ref a_t), (1, .int x1), (3, .int x3), (5, .int x5)]) hx hb dX10_follow_47 hl (by decide) rfl (fun ls hl => ?_)
    refine lv_iload hx hb dX10_follow_49 (lv_at hl 1 rfl) ?_
    obtain ⟨r8, hgr8, hf⟩ := jM_some hf
    refine jcS_i0 (As := [.int r6]) (rest := []) ⟨hx, hb, hml, hown, hts⟩ hK hN hA (c_X1_sexOf l G D cI cB cZ r6 hgr8) (va_cwS 1 hts (wG_S k_ml_X10_68 k_st_X1_sexOf k_in_X1 k_co_X1_sexOf) rfl rfl rfl hd_X1_sexOf.2 ⟨Nat.le_of_ble_eq_true rfl, Nat.le_of_ble_eq_true rfl⟩) hP hD hS [] rfl rfl rfl rfl hl.1 rfl (Nat.le_of_ble_eq_true rfl) dX10_follow_51 ⟨Nat.le_of_ble_eq_true rfl, Nat.le_of_ble_eq_true rfl⟩ (fun H locs hP hD hS => ?_)
    refine lv_istore_n (lv' := [(3, .int r8), (4, .int r7), (6, .int r6), (0, .ref a_t), (1, .int x1), (5, .int x5)]) hx hb dX10_follow_54 rfl hl (by decide) rfl (fun ls hl => ?_)
    refine lv_iinc (v := (x5 + 1)) (lv' := [(5, .int (x5 + 1)), (3, .int r8), (4, .int r7), (6, .int r6), (0, .ref a_t), (1, .int x1)]) hx hb dX10_follow_55 hl (k := 5) rfl (by first | rfl | decide) (by decide) rfl (fun ls hl => ?_)
    refine lv_goto (tgt := 21) hx hb dX10_follow_58 (by decide) ?_
    have ho := Option.some.inj hf
    exact K.1 _ ho.symm _ _ _ hP hD hS (lv_sub hl [4, 5, 1, 2, 0] rfl)
def f_X10_follow_l21 (r_t_child r_t_father r_t_husband r_t_wife : jA) (x1 x3 x4 x5 : Int32) : Option ((Int32)) :=
  jI (fun z => f_X10_follow_b21 r_t_child r_t_father r_t_husband r_t_wife x1 z.1 z.2.1 z.2.2) jF (x3, x4, x5)
set_option maxHeartbeats 4000000 in
set_option maxRecDepth 100000 in
theorem t_X10_follow_l21 {p : Program} {l : Launch} {e : Env} {s : State} {m : MethodId} {args : Array Value} {below : List Frame} {meth : Method} {c : Code} {A : Nat → Prop} {Q : State → Prop} (G : jGt) (D : va_G) (cI cB cZ : ClassId) (a_t a_t_child a_t_father a_t_husband a_t_wife : Nat) (s_t_size : Int32) (r_t_child r_t_father r_t_husband r_t_wife : jA) (x1 : Int32) (C : jCx p s m args c cX10_follow 7 gX10_follow RX10 G D (jT cI cB cZ) A) : ∀ (n : Nat) (x3 x4 x5 : Int32) {eo : (Int32)}, jI (fun z => f_X10_follow_b21 r_t_child r_t_father r_t_husband r_t_wife x1 z.1 z.2.1 z.2.2) n (x3, x4, x5) = some eo → (∀ (H : Heap) (locs : List Loc) (ls : Array Slot), va_P D vwCl (w_X10_follow cI cB cZ a_t a_t_child a_t_father a_t_husband a_t_wife s_t_size r_t_child r_t_father r_t_husband r_t_wife) H → va_D A (w_X10_follow cI cB cZ a_t a_t_child a_t_father a_t_husband a_t_wife s_t_size r_t_child r_t_father r_t_husband r_t_wife) → va_S A s.heap H locs → lv_has ls 7 [(4, .int eo)] → W p l e rX10_follow s m args below meth c H locs 0 0 Q (F0 m 61 ls [])) → ∀ (H : Heap) (locs : List Loc) (ls : Array Slot), va_P D vwCl (w_X10_follow cI cB cZ a_t a_t_child a_t_father a_t_husband a_t_wife s_t_size r_t_child r_t_father r_t_husband r_t_wife) H → va_D A (w_X10_follow cI cB cZ a_t a_t_child a_t_father a_t_husband a_t_wife s_t_size r_t_child r_t_father r_t_husband r_t_wife) → va_S A s.heap H locs → lv_has ls 7 [(0, .ref a_t), (1, .int x1), (3, .int x3), (4, .int x4), (5, .int x5)] → W p l e rX10_follow s m args below meth c H locs 0 0 Q (F0 m 21 ls []) := by
  intro n
  induction n with
  | zero =>
    intro x3 x4 x5 eo hf
    exact (jI_zero hf).elim
  | succ n ih =>
    intro x3 x4 x5 eo hf K H locs ls hP hD hS hl
    obtain ⟨o, hb1, ho⟩ := jI_some hf
    rcases ho with ⟨z, rfl, hf2⟩ | rfl
    · exact t_X10_follow_b21 G D cI cB cZ a_t a_t_child a_t_father a_t_husband a_t_wife s_t_size r_t_child r_t_father r_t_husband r_t_wife x1 x3 x4 x5 C hb1 ⟨fun z2 hz H locs ls hP hD hS hl => by cases hz; exact ih z.1 z.2.1 z.2.2 hf2 K H locs ls hP hD hS hl, fun z2 hz => by cases hz⟩ hP hD hS hl
    · exact t_X10_follow_b21 G D cI cB cZ a_t a_t_child a_t_father a_t_husband a_t_wife s_t_size r_t_child r_t_father r_t_husband r_t_wife x1 x3 x4 x5 C hb1 ⟨fun z2 hz => (by cases hz), fun z2 hz => by cases hz; exact K⟩ hP hD hS hl
def f_X10_follow (s_t_size : Int32) (r_t_child r_t_father r_t_husband r_t_wife : jA) (x1 x2 : Int32) : Option (Int32) :=
  jM (f_X10_has s_t_size x2) fun r1 =>
  if r1 = 0 then
  some (-1 : Int32)
  else
  jM (f_X1_from x1) fun r3 =>
  jM (f_X10_follow_l21 r_t_child r_t_father r_t_husband r_t_wife x1 r3 x2 (0 : Int32)) fun e9 =>
  some e9
set_option maxHeartbeats 4000000 in
set_option maxRecDepth 100000 in
theorem t_X10_follow {p : Program} {l : Launch} {e : Env} {s : State} {m : MethodId} {args : Array Value} {below : List Frame} {meth : Method} {c : Code} {A : Nat → Prop} {Q : State → Prop} (G : jGt) (D : va_G) (cI cB cZ : ClassId) (a_t a_t_child a_t_father a_t_husband a_t_wife : Nat) (s_t_size : Int32) (r_t_child r_t_father r_t_husband r_t_wife : jA) (x1 x2 : Int32) (C : jCx p s m args c cX10_follow 7 gX10_follow RX10 G D (jT cI cB cZ) A) {o : Int32} (hf : f_X10_follow s_t_size r_t_child r_t_father r_t_husband r_t_wife x1 x2 = some o) (K : ∀ (H : Heap) (locs : List Loc) (pc : Nat) (ls : Array Slot), va_P D vwCl (w_X10_follow cI cB cZ a_t a_t_child a_t_father a_t_husband a_t_wife s_t_size r_t_child r_t_father r_t_husband r_t_wife) H → va_S A s.heap H locs → decode cX10_follow pc = .ok (.ireturn, 1) → W p l e rX10_follow s m args below meth c H locs 0 0 Q (F0 m pc ls [.int o])) {H : Heap} {locs : List Loc} {ls : Array Slot} (hP : va_P D vwCl (w_X10_follow cI cB cZ a_t a_t_child a_t_father a_t_husband a_t_wife s_t_size r_t_child r_t_father r_t_husband r_t_wife) H) (hD : va_D A (w_X10_follow cI cB cZ a_t a_t_child a_t_father a_t_husband a_t_wife s_t_size r_t_child r_t_father r_t_husband r_t_wife)) (hS : va_S A s.heap H locs) (hl : lv_has ls 7 [(0, .ref a_t), (1, .int x1), (2, .int x2)]) : W p l e rX10_follow s m args below meth c H locs 0 0 Q (F0 m 0 ls []) := by
  obtain ⟨⟨hx, hb, hml, hown, hts⟩, hK, hN, hA⟩ := C
  have C : jCx p s m args c cX10_follow 7 gX10_follow RX10 G D (jT cI cB cZ) A := ⟨⟨hx, hb, hml, hown, hts⟩, hK, hN, hA⟩
  unfold f_X10_follow at hf
  refine lv_aload_n hx hb dX10_follow_0 rfl (lv_at hl 0 rfl) ?_
  refine lv_iload_n hx hb dX10_follow_1 rfl (lv_at hl 2 rfl) ?_
  obtain ⟨r1, hgr1, hf⟩ := jM_some hf
  refine jcV_i0 (As := [.int x2]) (rest := []) ⟨hx, hb, hml, hown, hts⟩ hK hN hA (c_X10_has l G D cI cB cZ a_t (.ref a_t_wife) (.ref a_t_child) (.ref a_t_husband) (.ref a_t_father) s_t_size x2 hgr1) (cwV 1 hts (wG_V k_ml_X10_48 k_im_X10_has k_se_X10_has k_in_X10 k_co_X10_has) rfl rfl rfl hd_X10_has ⟨Nat.le_of_ble_eq_true rfl, Nat.le_of_ble_eq_true rfl⟩) hP hD hS [0] rfl rfl rfl (ci := 9) rfl 0 rfl rfl rfl hl.1 rfl (Nat.le_of_ble_eq_true rfl) dX10_follow_2 ⟨Nat.le_of_ble_eq_true rfl, Nat.le_of_ble_eq_true rfl⟩ (fun H locs hP hD hS => ?_)
  refine lv_if_ne (tgt := 10) hx hb dX10_follow_5 (by decide) (fun c2 => ?_) (fun c2 => ?_)
  · replace hf := jif_f c2 hf
    refine lv_iload_n hx hb dX10_follow_10 rfl (lv_at hl 1 rfl) ?_
    obtain ⟨r3, hgr3, hf⟩ := jM_some hf
    refine jcS_i0 (As := [.int x1]) (rest := []) ⟨hx, hb, hml, hown, hts⟩ hK hN hA (c_X1_from l G D cI cB cZ x1 hgr3) (va_cwS 1 hts (wG_S k_ml_X10_52 k_st_X1_from k_in_X1 k_co_X1_from) rfl rfl rfl hd_X1_from.2 ⟨Nat.le_of_ble_eq_true rfl, Nat.le_of_ble_eq_true rfl⟩) hP hD hS [] rfl rfl rfl rfl hl.1 rfl (Nat.le_of_ble_eq_true rfl) dX10_follow_11 ⟨Nat.le_of_ble_eq_true rfl, Nat.le_of_ble_eq_true rfl⟩ (fun H locs hP hD hS => ?_)
    refine lv_istore_n (lv' := [(3, .int r3), (0, .ref a_t), (1, .int x1), (2, .int x2)]) hx hb dX10_follow_14 rfl hl (by decide) rfl (fun ls hl => ?_)
    refine lv_iload_n hx hb dX10_follow_15 rfl (lv_at hl 3 rfl) ?_
    refine lv_istore (lv' := [(4, .int x2), (3, .int r3), (0, .ref a_t), (1, .int x1), (2, .int x2)]) hx hb dX10_follow_16 hl (by decide) rfl (fun ls hl => ?_)
    refine lv_iconst (v := (0 : Int32)) hx hb dX10_follow_18 (by decide) ?_
    refine lv_istore (lv' := [(5, .int (0 : Int32)), (4, .int x2), (3, .int r3), (0, .ref a_t), (1, .int x1), (2, .int x2)]) hx hb dX10_follow_19 hl (by decide) rfl (fun ls hl => ?_)
    obtain ⟨e9, hg9, hf⟩ := jM_some hf
    refine t_X10_follow_l21 G D cI cB cZ a_t a_t_child a_t_father a_t_husband a_t_wife s_t_size r_t_child r_t_father r_t_husband r_t_wife x1 C jF r3 x2 (0 : Int32) hg9 ?_ _ _ _ hP hD hS (lv_sub hl [3, 4, 2, 1, 0] rfl)
    intro H locs ls hP hD hS hl
    refine lv_iload hx hb dX10_follow_61 (lv_at hl 0 rfl) ?_
    have ho := Option.some.inj hf
    subst ho
    exact K _ _ _ _ hP hS dX10_follow_63
  · replace hf := jif_t c2 hf
    refine lv_iconst (v := (-1 : Int32)) hx hb dX10_follow_8 (by decide) ?_
    have ho := Option.some.inj hf
    subst ho
    exact K _ _ _ _ hP hS dX10_follow_9
set_option maxHeartbeats 4000000 in
set_option maxRecDepth 100000 in
theorem c_X10_follow (l : Launch) (G : jGt) (D : va_G) (cI cB cZ : ClassId) (a_t a_t_child a_t_father a_t_husband a_t_wife : Nat) (s_t_size : Int32) (r_t_child r_t_father r_t_husband r_t_wife : jA) (x1 x2 : Int32) {o : Int32} (hf : f_X10_follow s_t_size r_t_child r_t_father r_t_husband r_t_wife x1 x2 = some o) : jMi l yX10_follow gX10_follow rX10_follow G D (jT cI cB cZ) [.ref a_t, .int x1, .int x2] (w_X10_follow cI cB cZ a_t a_t_child a_t_father a_t_husband a_t_wife s_t_size r_t_child r_t_father r_t_husband r_t_wife) (w_X10_follow cI cB cZ a_t a_t_child a_t_father a_t_husband a_t_wife s_t_size r_t_child r_t_father r_t_husband r_t_wife) o := by
  refine jmk_i RX10 rfl (by decide +kernel) rfl (Nat.le_of_ble_eq_true rfl) rfl ?_
  intro p e s m args below meth c ls A Q C hP hD hS hl K
  exact t_X10_follow G D cI cB cZ a_t a_t_child a_t_father a_t_husband a_t_wife s_t_size r_t_child r_t_father r_t_husband r_t_wife x1 x2 C hf K hP hD hS hl
abbrev rX10_keeps : Room := { frames := 2, cells := 0, slots := 0, locals := 50 }
abbrev gX10_keeps : List Cond := wG yX10_keeps cX10_keeps 7 (some .boolean)
def w_X10_keeps (cI cB cZ : ClassId) (a_t a_t_child a_t_father a_t_husband a_t_wife : Nat) (s_t_size : Int32) (r_t_child r_t_father r_t_husband r_t_wife : jA) : va_W := [(a_t, .inr (9, (oX10 (.ref a_t_wife) (.ref a_t_child) (.ref a_t_husband) (.ref a_t_father) s_t_size))), (a_t_child, .inl (cI, r_t_child.1, .inl r_t_child.2)), (a_t_father, .inl (cI, r_t_father.1, .inl r_t_father.2)), (a_t_husband, .inl (cI, r_t_husband.1, .inl r_t_husband.2)), (a_t_wife, .inl (cI, r_t_wife.1, .inl r_t_wife.2))]
def f_X10_keeps_j82 (x1 x2 x3 x4 : Int32) : Option ((Int32) ⊕ ((Unit) ⊕ ((Unit) ⊕ ((Unit))))) :=
  some (Sum.inl (x4 + 1))
set_option maxHeartbeats 4000000 in
set_option maxRecDepth 100000 in
theorem t_X10_keeps_j82 {p : Program} {l : Launch} {e : Env} {s : State} {m : MethodId} {args : Array Value} {below : List Frame} {meth : Method} {c : Code} {A : Nat → Prop} {Q : State → Prop} (G : jGt) (D : va_G) (cI cB cZ : ClassId) (a_t a_t_child a_t_father a_t_husband a_t_wife : Nat) (s_t_size : Int32) (r_t_child r_t_father r_t_husband r_t_wife : jA) (x1 x2 x3 x4 : Int32) (C : jCx p s m args c cX10_keeps 7 gX10_keeps RX10 G D (jT cI cB cZ) A) {o : (Int32) ⊕ ((Unit) ⊕ ((Unit) ⊕ ((Unit))))} (hf : f_X10_keeps_j82 x1 x2 x3 x4 = some o) (K : (∀ z, o = Sum.inl z → ∀ (H : Heap) (locs : List Loc) (ls : Array Slot), va_P D vwCl (w_X10_keeps cI cB cZ a_t a_t_child a_t_father a_t_husband a_t_wife s_t_size r_t_child r_t_father r_t_husband r_t_wife) H → va_D A (w_X10_keeps cI cB cZ a_t a_t_child a_t_father a_t_husband a_t_wife s_t_size r_t_child r_t_father r_t_husband r_t_wife) → va_S A s.heap H locs → lv_has ls 7 [(0, .ref a_t), (1, .int x1), (2, .int x2), (3, .int x3), (4, .int z)] → W p l e rX10_keeps s m args below meth c H locs 0 0 Q (F0 m 3 ls [])) ∧ (∀ z, o = Sum.inr z → (∀ y0, z = Sum.inl y0 → ∀ (H : Heap) (locs : List Loc) (ls : Array Slot), va_P D vwCl (w_X10_keeps cI cB cZ a_t a_t_child a_t_father a_t_husband a_t_wife s_t_size r_t_child r_t_father r_t_husband r_t_wife) H → va_D A (w_X10_keeps cI cB cZ a_t a_t_child a_t_father a_t_husband a_t_wife s_t_size r_t_child r_t_father r_t_husband r_t_wife) → va_S A s.heap H locs → lv_has ls 7 [] → W p l e rX10_keeps s m args below meth c H locs 0 0 Q (F0 m 61 ls [])) ∧ (∀ z0, z = Sum.inr z0 → (∀ y1, z0 = Sum.inl y1 → ∀ (H : Heap) (locs : List Loc) (ls : Array Slot), va_P D vwCl (w_X10_keeps cI cB cZ a_t a_t_child a_t_father a_t_husband a_t_wife s_t_size r_t_child r_t_father r_t_husband r_t_wife) H → va_D A (w_X10_keeps cI cB cZ a_t a_t_child a_t_father a_t_husband a_t_wife s_t_size r_t_child r_t_father r_t_husband r_t_wife) → va_S A s.heap H locs → lv_has ls 7 [] → W p l e rX10_keeps s m args below meth c H locs 0 0 Q (F0 m 80 ls [])) ∧ (∀ z1, z0 = Sum.inr z1 → ∀ (H : Heap) (locs : List Loc) (ls : Array Slot), va_P D vwCl (w_X10_keeps cI cB cZ a_t a_t_child a_t_father a_t_husband a_t_wife s_t_size r_t_child r_t_father r_t_husband r_t_wife) H → va_D A (w_X10_keeps cI cB cZ a_t a_t_child a_t_father a_t_husband a_t_wife s_t_size r_t_child r_t_father r_t_husband r_t_wife) → va_S A s.heap H locs → lv_has ls 7 [] → W p l e rX10_keeps s m args below meth c H locs 0 0 Q (F0 m 88 ls []))))) {H : Heap} {locs : List Loc} {ls : Array Slot} (hP : va_P D vwCl (w_X10_keeps cI cB cZ a_t a_t_child a_t_father a_t_husband a_t_wife s_t_size r_t_child r_t_father r_t_husband r_t_wife) H) (hD : va_D A (w_X10_keeps cI cB cZ a_t a_t_child a_t_father a_t_husband a_t_wife s_t_size r_t_child r_t_father r_t_husband r_t_wife)) (hS : va_S A s.heap H locs) (hl : lv_has ls 7 [(0, .ref a_t), (1, .int x1), (2, .int x2), (3, .int x3), (4, .int x4)]) : W p l e rX10_keeps s m args below meth c H locs 0 0 Q (F0 m 82 ls []) := by
  obtain ⟨⟨hx, hb, hml, hown, hts⟩, hK, hN, hA⟩ := C
  have C : jCx p s m args c cX10_keeps 7 gX10_keeps RX10 G D (jT cI cB cZ) A := ⟨⟨hx, hb, hml, hown, hts⟩, hK, hN, hA⟩
  unfold f_X10_keeps_j82 at hf
  refine lv_iinc (v := (x4 + 1)) (lv' := [(4, .int (x4 + 1)), (0, .ref a_t), (1, .int x1), (2, .int x2), (3, .int x3)]) hx hb dX10_keeps_82 hl (k := 4) rfl (by first | rfl | decide) (by decide) rfl (fun ls hl => ?_)
  refine lv_goto (tgt := 3) hx hb dX10_keeps_85 (by decide) ?_
  have ho := Option.some.inj hf
  exact K.1 _ ho.symm _ _ _ hP hD hS (lv_sub hl [1, 2, 3, 4, 0] rfl)
def f_X10_keeps_j63 (s_t_size : Int32) (r_t_child r_t_father r_t_husband r_t_wife : jA) (x1 x2 x3 x4 x5 : Int32) : Option ((Int32) ⊕ ((Unit) ⊕ ((Unit) ⊕ ((Unit))))) :=
  if x1 = (2 : Int32) then
  jM (f_X10_follow s_t_size r_t_child r_t_father r_t_husband r_t_wife x3 x4) fun r8 =>
  if x5 = r8 then
  f_X10_keeps_j82 x1 x2 x3 x4
  else
  some (Sum.inr (Sum.inr (Sum.inl ())))
  else
  f_X10_keeps_j82 x1 x2 x3 x4
set_option maxHeartbeats 4000000 in
set_option maxRecDepth 100000 in
theorem t_X10_keeps_j63 {p : Program} {l : Launch} {e : Env} {s : State} {m : MethodId} {args : Array Value} {below : List Frame} {meth : Method} {c : Code} {A : Nat → Prop} {Q : State → Prop} (G : jGt) (D : va_G) (cI cB cZ : ClassId) (a_t a_t_child a_t_father a_t_husband a_t_wife : Nat) (s_t_size : Int32) (r_t_child r_t_father r_t_husband r_t_wife : jA) (x1 x2 x3 x4 x5 : Int32) (C : jCx p s m args c cX10_keeps 7 gX10_keeps RX10 G D (jT cI cB cZ) A) {o : (Int32) ⊕ ((Unit) ⊕ ((Unit) ⊕ ((Unit))))} (hf : f_X10_keeps_j63 s_t_size r_t_child r_t_father r_t_husband r_t_wife x1 x2 x3 x4 x5 = some o) (K : (∀ z, o = Sum.inl z → ∀ (H : Heap) (locs : List Loc) (ls : Array Slot), va_P D vwCl (w_X10_keeps cI cB cZ a_t a_t_child a_t_father a_t_husband a_t_wife s_t_size r_t_child r_t_father r_t_husband r_t_wife) H → va_D A (w_X10_keeps cI cB cZ a_t a_t_child a_t_father a_t_husband a_t_wife s_t_size r_t_child r_t_father r_t_husband r_t_wife) → va_S A s.heap H locs → lv_has ls 7 [(0, .ref a_t), (1, .int x1), (2, .int x2), (3, .int x3), (4, .int z)] → W p l e rX10_keeps s m args below meth c H locs 0 0 Q (F0 m 3 ls [])) ∧ (∀ z, o = Sum.inr z → (∀ y0, z = Sum.inl y0 → ∀ (H : Heap) (locs : List Loc) (ls : Array Slot), va_P D vwCl (w_X10_keeps cI cB cZ a_t a_t_child a_t_father a_t_husband a_t_wife s_t_size r_t_child r_t_father r_t_husband r_t_wife) H → va_D A (w_X10_keeps cI cB cZ a_t a_t_child a_t_father a_t_husband a_t_wife s_t_size r_t_child r_t_father r_t_husband r_t_wife) → va_S A s.heap H locs → lv_has ls 7 [] → W p l e rX10_keeps s m args below meth c H locs 0 0 Q (F0 m 61 ls [])) ∧ (∀ z0, z = Sum.inr z0 → (∀ y1, z0 = Sum.inl y1 → ∀ (H : Heap) (locs : List Loc) (ls : Array Slot), va_P D vwCl (w_X10_keeps cI cB cZ a_t a_t_child a_t_father a_t_husband a_t_wife s_t_size r_t_child r_t_father r_t_husband r_t_wife) H → va_D A (w_X10_keeps cI cB cZ a_t a_t_child a_t_father a_t_husband a_t_wife s_t_size r_t_child r_t_father r_t_husband r_t_wife) → va_S A s.heap H locs → lv_has ls 7 [] → W p l e rX10_keeps s m args below meth c H locs 0 0 Q (F0 m 80 ls [])) ∧ (∀ z1, z0 = Sum.inr z1 → ∀ (H : Heap) (locs : List Loc) (ls : Array Slot), va_P D vwCl (w_X10_keeps cI cB cZ a_t a_t_child a_t_father a_t_husband a_t_wife s_t_size r_t_child r_t_father r_t_husband r_t_wife) H → va_D A (w_X10_keeps cI cB cZ a_t a_t_child a_t_father a_t_husband a_t_wife s_t_size r_t_child r_t_father r_t_husband r_t_wife) → va_S A s.heap H locs → lv_has ls 7 [] → W p l e rX10_keeps s m args below meth c H locs 0 0 Q (F0 m 88 ls []))))) {H : Heap} {locs : List Loc} {ls : Array Slot} (hP : va_P D vwCl (w_X10_keeps cI cB cZ a_t a_t_child a_t_father a_t_husband a_t_wife s_t_size r_t_child r_t_father r_t_husband r_t_wife) H) (hD : va_D A (w_X10_keeps cI cB cZ a_t a_t_child a_t_father a_t_husband a_t_wife s_t_size r_t_child r_t_father r_t_husband r_t_wife)) (hS : va_S A s.heap H locs) (hl : lv_has ls 7 [(0, .ref a_t), (1, .int x1), (2, .int x2), (3, .int x3), (4, .int x4), (5, .int x5)]) : W p l e rX10_keeps s m args below meth c H locs 0 0 Q (F0 m 63 ls []) := by
  obtain ⟨⟨hx, hb, hml, hown, hts⟩, hK, hN, hA⟩ := C
  have C : jCx p s m args c cX10_keeps 7 gX10_keeps RX10 G D (jT cI cB cZ) A := ⟨⟨hx, hb, hml, hown, hts⟩, hK, hN, hA⟩
  unfold f_X10_keeps_j63 at hf
  refine lv_iload_n hx hb dX10_keeps_63 rfl (lv_at hl 1 rfl) ?_
  refine lv_iconst (v := (2 : Int32)) hx hb dX10_keeps_64 (by decide) ?_
  refine lv_icmp_ne (tgt := 82) hx hb dX10_keeps_65 (by decide) (fun c7 => ?_) (fun c7 => ?_)
  · replace hf := jif_f c7 hf
    exact t_X10_keeps_j82 G D cI cB cZ a_t a_t_child a_t_father a_t_husband a_t_wife s_t_size r_t_child r_t_father r_t_husband r_t_wife x1 x2 x3 x4 C hf K hP hD hS (lv_sub hl [0, 1, 2, 3, 4] rfl)
  · replace hf := jif_t c7 hf
    refine lv_iload hx hb dX10_keeps_68 (lv_at hl 5 rfl) ?_
    refine lv_aload_n hx hb dX10_keeps_70 rfl (lv_at hl 0 rfl) ?_
    refine lv_iload_n hx hb dX10_keeps_71 rfl (lv_at hl 3 rfl) ?_
    refine lv_iload hx hb dX10_keeps_72 (lv_at hl 4 rfl) ?_
    obtain ⟨r8, hgr8, hf⟩ := jM_some hf
    refine jcV_i0 (As := [.int x3, .int x4]) (rest := [.int x5]) ⟨hx, hb, hml, hown, hts⟩ hK hN hA (c_X10_follow l G D cI cB cZ a_t a_t_child a_t_father a_t_husband a_t_wife s_t_size r_t_child r_t_father r_t_husband r_t_wife x3 x4 hgr8) (cwV 2 hts (wG_V k_ml_X10_71 k_im_X10_follow k_se_X10_follow k_in_X10 k_co_X10_follow) rfl rfl rfl hd_X10_follow ⟨Nat.le_of_ble_eq_true rfl, Nat.le_of_ble_eq_true rfl⟩) hP hD hS [0, 1, 2, 3, 4] rfl rfl rfl (ci := 9) rfl 0 rfl rfl rfl hl.1 rfl (Nat.le_of_ble_eq_true rfl) dX10_keeps_74 ⟨Nat.le_of_ble_eq_true rfl, Nat.le_of_ble_eq_true rfl⟩ (fun H locs hP hD hS => ?_)
    refine lv_icmp_eq (tgt := 82) hx hb dX10_keeps_77 (by decide) (fun c9 => ?_) (fun c9 => ?_)
    · replace hf := jif_t c9 hf
      exact t_X10_keeps_j82 G D cI cB cZ a_t a_t_child a_t_father a_t_husband a_t_wife s_t_size r_t_child r_t_father r_t_husband r_t_wife x1 x2 x3 x4 C hf K hP hD hS (lv_sub hl [0, 1, 2, 3, 4] rfl)
    · replace hf := jif_f c9 hf
      have ho := Option.some.inj hf
      exact (((K.2 _ ho.symm).2 _ rfl).1 _ rfl) _ _ _ hP hD hS (lv_sub hl [] rfl)
def f_X10_keeps_j51 (s_t_size : Int32) (r_t_child r_t_father r_t_husband r_t_wife : jA) (x1 x2 x3 x4 x5 x6 : Int32) : Option ((Int32) ⊕ ((Unit) ⊕ ((Unit) ⊕ ((Unit))))) :=
  if x1 = (1 : Int32) then
  if x6 = 0 then
  some (Sum.inr (Sum.inl ()))
  else
  f_X10_keeps_j63 s_t_size r_t_child r_t_father r_t_husband r_t_wife x1 x2 x3 x4 x5
  else
  f_X10_keeps_j63 s_t_size r_t_child r_t_father r_t_husband r_t_wife x1 x2 x3 x4 x5
set_option maxHeartbeats 4000000 in
set_option maxRecDepth 100000 in
theorem t_X10_keeps_j51 {p : Program} {l : Launch} {e : Env} {s : State} {m : MethodId} {args : Array Value} {below : List Frame} {meth : Method} {c : Code} {A : Nat → Prop} {Q : State → Prop} (G : jGt) (D : va_G) (cI cB cZ : ClassId) (a_t a_t_child a_t_father a_t_husband a_t_wife : Nat) (s_t_size : Int32) (r_t_child r_t_father r_t_husband r_t_wife : jA) (x1 x2 x3 x4 x5 x6 : Int32) (C : jCx p s m args c cX10_keeps 7 gX10_keeps RX10 G D (jT cI cB cZ) A) {o : (Int32) ⊕ ((Unit) ⊕ ((Unit) ⊕ ((Unit))))} (hf : f_X10_keeps_j51 s_t_size r_t_child r_t_father r_t_husband r_t_wife x1 x2 x3 x4 x5 x6 = some o) (K : (∀ z, o = Sum.inl z → ∀ (H : Heap) (locs : List Loc) (ls : Array Slot), va_P D vwCl (w_X10_keeps cI cB cZ a_t a_t_child a_t_father a_t_husband a_t_wife s_t_size r_t_child r_t_father r_t_husband r_t_wife) H → va_D A (w_X10_keeps cI cB cZ a_t a_t_child a_t_father a_t_husband a_t_wife s_t_size r_t_child r_t_father r_t_husband r_t_wife) → va_S A s.heap H locs → lv_has ls 7 [(0, .ref a_t), (1, .int x1), (2, .int x2), (3, .int x3), (4, .int z)] → W p l e rX10_keeps s m args below meth c H locs 0 0 Q (F0 m 3 ls [])) ∧ (∀ z, o = Sum.inr z → (∀ y0, z = Sum.inl y0 → ∀ (H : Heap) (locs : List Loc) (ls : Array Slot), va_P D vwCl (w_X10_keeps cI cB cZ a_t a_t_child a_t_father a_t_husband a_t_wife s_t_size r_t_child r_t_father r_t_husband r_t_wife) H → va_D A (w_X10_keeps cI cB cZ a_t a_t_child a_t_father a_t_husband a_t_wife s_t_size r_t_child r_t_father r_t_husband r_t_wife) → va_S A s.heap H locs → lv_has ls 7 [] → W p l e rX10_keeps s m args below meth c H locs 0 0 Q (F0 m 61 ls [])) ∧ (∀ z0, z = Sum.inr z0 → (∀ y1, z0 = Sum.inl y1 → ∀ (H : Heap) (locs : List Loc) (ls : Array Slot), va_P D vwCl (w_X10_keeps cI cB cZ a_t a_t_child a_t_father a_t_husband a_t_wife s_t_size r_t_child r_t_father r_t_husband r_t_wife) H → va_D A (w_X10_keeps cI cB cZ a_t a_t_child a_t_father a_t_husband a_t_wife s_t_size r_t_child r_t_father r_t_husband r_t_wife) → va_S A s.heap H locs → lv_has ls 7 [] → W p l e rX10_keeps s m args below meth c H locs 0 0 Q (F0 m 80 ls [])) ∧ (∀ z1, z0 = Sum.inr z1 → ∀ (H : Heap) (locs : List Loc) (ls : Array Slot), va_P D vwCl (w_X10_keeps cI cB cZ a_t a_t_child a_t_father a_t_husband a_t_wife s_t_size r_t_child r_t_father r_t_husband r_t_wife) H → va_D A (w_X10_keeps cI cB cZ a_t a_t_child a_t_father a_t_husband a_t_wife s_t_size r_t_child r_t_father r_t_husband r_t_wife) → va_S A s.heap H locs → lv_has ls 7 [] → W p l e rX10_keeps s m args below meth c H locs 0 0 Q (F0 m 88 ls []))))) {H : Heap} {locs : List Loc} {ls : Array Slot} (hP : va_P D vwCl (w_X10_keeps cI cB cZ a_t a_t_child a_t_father a_t_husband a_t_wife s_t_size r_t_child r_t_father r_t_husband r_t_wife) H) (hD : va_D A (w_X10_keeps cI cB cZ a_t a_t_child a_t_father a_t_husband a_t_wife s_t_size r_t_child r_t_father r_t_husband r_t_wife)) (hS : va_S A s.heap H locs) (hl : lv_has ls 7 [(0, .ref a_t), (1, .int x1), (2, .int x2), (3, .int x3), (4, .int x4), (5, .int x5), (6, .int x6)]) : W p l e rX10_keeps s m args below meth c H locs 0 0 Q (F0 m 51 ls []) := by
  obtain ⟨⟨hx, hb, hml, hown, hts⟩, hK, hN, hA⟩ := C
  have C : jCx p s m args c cX10_keeps 7 gX10_keeps RX10 G D (jT cI cB cZ) A := ⟨⟨hx, hb, hml, hown, hts⟩, hK, hN, hA⟩
  unfold f_X10_keeps_j51 at hf
  refine lv_iload_n hx hb dX10_keeps_51 rfl (lv_at hl 1 rfl) ?_
  refine lv_iconst (v := (1 : Int32)) hx hb dX10_keeps_52 (by decide) ?_
  refine lv_icmp_ne (tgt := 63) hx hb dX10_keeps_53 (by decide) (fun c6 => ?_) (fun c6 => ?_)
  · replace hf := jif_f c6 hf
    exact t_X10_keeps_j63 G D cI cB cZ a_t a_t_child a_t_father a_t_husband a_t_wife s_t_size r_t_child r_t_father r_t_husband r_t_wife x1 x2 x3 x4 x5 C hf K hP hD hS (lv_sub hl [0, 1, 2, 3, 4, 5] rfl)
  · replace hf := jif_t c6 hf
    refine lv_iload hx hb dX10_keeps_56 (lv_at hl 6 rfl) ?_
    refine lv_if_ne (tgt := 63) hx hb dX10_keeps_58 (by decide) (fun c10 => ?_) (fun c10 => ?_)
    · replace hf := jif_f c10 hf
      exact t_X10_keeps_j63 G D cI cB cZ a_t a_t_child a_t_father a_t_husband a_t_wife s_t_size r_t_child r_t_father r_t_husband r_t_wife x1 x2 x3 x4 x5 C hf K hP hD hS (lv_sub hl [0, 1, 2, 3, 4, 5] rfl)
    · replace hf := jif_t c10 hf
      have ho := Option.some.inj hf
      exact ((K.2 _ ho.symm).1 _ rfl) _ _ _ hP hD hS (lv_sub hl [] rfl)
def f_X10_keeps_j40 (s_t_size : Int32) (r_t_child r_t_father r_t_husband r_t_wife : jA) (x1 x2 x3 x4 x5 k0 : Int32) : Option ((Int32) ⊕ ((Unit) ⊕ ((Unit) ⊕ ((Unit))))) :=
  if x1 = 0 then
  if k0 = 0 then
  f_X10_keeps_j51 s_t_size r_t_child r_t_father r_t_husband r_t_wife x1 x2 x3 x4 x5 k0
  else
  some (Sum.inr (Sum.inl ()))
  else
  f_X10_keeps_j51 s_t_size r_t_child r_t_father r_t_husband r_t_wife x1 x2 x3 x4 x5 k0
set_option maxHeartbeats 4000000 in
set_option maxRecDepth 100000 in
theorem t_X10_keeps_j40 {p : Program} {l : Launch} {e : Env} {s : State} {m : MethodId} {args : Array Value} {below : List Frame} {meth : Method} {c : Code} {A : Nat → Prop} {Q : State → Prop} (G : jGt) (D : va_G) (cI cB cZ : ClassId) (a_t a_t_child a_t_father a_t_husband a_t_wife : Nat) (s_t_size : Int32) (r_t_child r_t_father r_t_husband r_t_wife : jA) (x1 x2 x3 x4 x5 k0 : Int32) (C : jCx p s m args c cX10_keeps 7 gX10_keeps RX10 G D (jT cI cB cZ) A) {o : (Int32) ⊕ ((Unit) ⊕ ((Unit) ⊕ ((Unit))))} (hf : f_X10_keeps_j40 s_t_size r_t_child r_t_father r_t_husband r_t_wife x1 x2 x3 x4 x5 k0 = some o) (K : (∀ z, o = Sum.inl z → ∀ (H : Heap) (locs : List Loc) (ls : Array Slot), va_P D vwCl (w_X10_keeps cI cB cZ a_t a_t_child a_t_father a_t_husband a_t_wife s_t_size r_t_child r_t_father r_t_husband r_t_wife) H → va_D A (w_X10_keeps cI cB cZ a_t a_t_child a_t_father a_t_husband a_t_wife s_t_size r_t_child r_t_father r_t_husband r_t_wife) → va_S A s.heap H locs → lv_has ls 7 [(0, .ref a_t), (1, .int x1), (2, .int x2), (3, .int x3), (4, .int z)] → W p l e rX10_keeps s m args below meth c H locs 0 0 Q (F0 m 3 ls [])) ∧ (∀ z, o = Sum.inr z → (∀ y0, z = Sum.inl y0 → ∀ (H : Heap) (locs : List Loc) (ls : Array Slot), va_P D vwCl (w_X10_keeps cI cB cZ a_t a_t_child a_t_father a_t_husband a_t_wife s_t_size r_t_child r_t_father r_t_husband r_t_wife) H → va_D A (w_X10_keeps cI cB cZ a_t a_t_child a_t_father a_t_husband a_t_wife s_t_size r_t_child r_t_father r_t_husband r_t_wife) → va_S A s.heap H locs → lv_has ls 7 [] → W p l e rX10_keeps s m args below meth c H locs 0 0 Q (F0 m 61 ls [])) ∧ (∀ z0, z = Sum.inr z0 → (∀ y1, z0 = Sum.inl y1 → ∀ (H : Heap) (locs : List Loc) (ls : Array Slot), va_P D vwCl (w_X10_keeps cI cB cZ a_t a_t_child a_t_father a_t_husband a_t_wife s_t_size r_t_child r_t_father r_t_husband r_t_wife) H → va_D A (w_X10_keeps cI cB cZ a_t a_t_child a_t_father a_t_husband a_t_wife s_t_size r_t_child r_t_father r_t_husband r_t_wife) → va_S A s.heap H locs → lv_has ls 7 [] → W p l e rX10_keeps s m args below meth c H locs 0 0 Q (F0 m 80 ls [])) ∧ (∀ z1, z0 = Sum.inr z1 → ∀ (H : Heap) (locs : List Loc) (ls : Array Slot), va_P D vwCl (w_X10_keeps cI cB cZ a_t a_t_child a_t_father a_t_husband a_t_wife s_t_size r_t_child r_t_father r_t_husband r_t_wife) H → va_D A (w_X10_keeps cI cB cZ a_t a_t_child a_t_father a_t_husband a_t_wife s_t_size r_t_child r_t_father r_t_husband r_t_wife) → va_S A s.heap H locs → lv_has ls 7 [] → W p l e rX10_keeps s m args below meth c H locs 0 0 Q (F0 m 88 ls []))))) {H : Heap} {locs : List Loc} {ls : Array Slot} (hP : va_P D vwCl (w_X10_keeps cI cB cZ a_t a_t_child a_t_father a_t_husband a_t_wife s_t_size r_t_child r_t_father r_t_husband r_t_wife) H) (hD : va_D A (w_X10_keeps cI cB cZ a_t a_t_child a_t_father a_t_husband a_t_wife s_t_size r_t_child r_t_father r_t_husband r_t_wife)) (hS : va_S A s.heap H locs) (hl : lv_has ls 7 [(0, .ref a_t), (1, .int x1), (2, .int x2), (3, .int x3), (4, .int x4), (5, .int x5)]) : W p l e rX10_keeps s m args below meth c H locs 0 0 Q (F0 m 40 ls [.int k0]) := by
  obtain ⟨⟨hx, hb, hml, hown, hts⟩, hK, hN, hA⟩ := C
  have C : jCx p s m args c cX10_keeps 7 gX10_keeps RX10 G D (jT cI cB cZ) A := ⟨⟨hx, hb, hml, hown, hts⟩, hK, hN, hA⟩
  unfold f_X10_keeps_j40 at hf
  refine lv_istore (lv' := [(6, .int k0), (0, .ref a_t), (1, .int x1), (2, .int x2), (3, .int x3), (4, .int x4), (5, .int x5)]) hx hb dX10_keeps_40 hl (by decide) rfl (fun ls hl => ?_)
  refine lv_iload_n hx hb dX10_keeps_42 rfl (lv_at hl 2 rfl) ?_
  refine lv_if_ne (tgt := 51) hx hb dX10_keeps_43 (by decide) (fun c5 => ?_) (fun c5 => ?_)
  · replace hf := jif_f c5 hf
    exact t_X10_keeps_j51 G D cI cB cZ a_t a_t_child a_t_father a_t_husband a_t_wife s_t_size r_t_child r_t_father r_t_husband r_t_wife x1 x2 x3 x4 x5 k0 C hf K hP hD hS (lv_sub hl [1, 2, 3, 4, 5, 6, 0] rfl)
  · replace hf := jif_t c5 hf
    refine lv_iload hx hb dX10_keeps_46 (lv_at hl 0 rfl) ?_
    refine lv_if_ne (tgt := 61) hx hb dX10_keeps_48 (by decide) (fun c11 => ?_) (fun c11 => ?_)
    · replace hf := jif_f c11 hf
      have ho := Option.some.inj hf
      exact ((K.2 _ ho.symm).1 _ rfl) _ _ _ hP hD hS (lv_sub hl [] rfl)
    · replace hf := jif_t c11 hf
      exact t_X10_keeps_j51 G D cI cB cZ a_t a_t_child a_t_father a_t_husband a_t_wife s_t_size r_t_child r_t_father r_t_husband r_t_wife x1 x2 x3 x4 x5 k0 C hf K hP hD hS (lv_sub hl [1, 2, 3, 4, 5, 6, 0] rfl)
def f_X10_keeps_b3 (s_t_size : Int32) (r_t_child r_t_father r_t_husband r_t_wife : jA) (x1 x2 x3 x4 : Int32) : Option ((Int32) ⊕ ((Unit) ⊕ ((Unit) ⊕ ((Unit))))) :=
  if s_t_size ≤ x4 then
  some (Sum.inr (Sum.inr (Sum.inr ())))
  else
  jM (f_X10_follow s_t_size r_t_child r_t_father r_t_husband r_t_wife x2 x4) fun r2 =>
  jM (f_X11_entry r_t_wife x4) fun r3 =>
  if r2 = r3 then
  f_X10_keeps_j40 s_t_size r_t_child r_t_father r_t_husband r_t_wife x1 x2 x3 x4 r2 (1 : Int32)
  else
  f_X10_keeps_j40 s_t_size r_t_child r_t_father r_t_husband r_t_wife x1 x2 x3 x4 r2 (0 : Int32)
set_option maxHeartbeats 4000000 in
set_option maxRecDepth 100000 in
theorem t_X10_keeps_b3 {p : Program} {l : Launch} {e : Env} {s : State} {m : MethodId} {args : Array Value} {below : List Frame} {meth : Method} {c : Code} {A : Nat → Prop} {Q : State → Prop} (G : jGt) (D : va_G) (cI cB cZ : ClassId) (a_t a_t_child a_t_father a_t_husband a_t_wife : Nat) (s_t_size : Int32) (r_t_child r_t_father r_t_husband r_t_wife : jA) (x1 x2 x3 x4 : Int32) (C : jCx p s m args c cX10_keeps 7 gX10_keeps RX10 G D (jT cI cB cZ) A) {o : (Int32) ⊕ ((Unit) ⊕ ((Unit) ⊕ ((Unit))))} (hf : f_X10_keeps_b3 s_t_size r_t_child r_t_father r_t_husband r_t_wife x1 x2 x3 x4 = some o) (K : (∀ z, o = Sum.inl z → ∀ (H : Heap) (locs : List Loc) (ls : Array Slot), va_P D vwCl (w_X10_keeps cI cB cZ a_t a_t_child a_t_father a_t_husband a_t_wife s_t_size r_t_child r_t_father r_t_husband r_t_wife) H → va_D A (w_X10_keeps cI cB cZ a_t a_t_child a_t_father a_t_husband a_t_wife s_t_size r_t_child r_t_father r_t_husband r_t_wife) → va_S A s.heap H locs → lv_has ls 7 [(0, .ref a_t), (1, .int x1), (2, .int x2), (3, .int x3), (4, .int z)] → W p l e rX10_keeps s m args below meth c H locs 0 0 Q (F0 m 3 ls [])) ∧ (∀ z, o = Sum.inr z → (∀ y0, z = Sum.inl y0 → ∀ (H : Heap) (locs : List Loc) (ls : Array Slot), va_P D vwCl (w_X10_keeps cI cB cZ a_t a_t_child a_t_father a_t_husband a_t_wife s_t_size r_t_child r_t_father r_t_husband r_t_wife) H → va_D A (w_X10_keeps cI cB cZ a_t a_t_child a_t_father a_t_husband a_t_wife s_t_size r_t_child r_t_father r_t_husband r_t_wife) → va_S A s.heap H locs → lv_has ls 7 [] → W p l e rX10_keeps s m args below meth c H locs 0 0 Q (F0 m 61 ls [])) ∧ (∀ z0, z = Sum.inr z0 → (∀ y1, z0 = Sum.inl y1 → ∀ (H : Heap) (locs : List Loc) (ls : Array Slot), va_P D vwCl (w_X10_keeps cI cB cZ a_t a_t_child a_t_father a_t_husband a_t_wife s_t_size r_t_child r_t_father r_t_husband r_t_wife) H → va_D A (w_X10_keeps cI cB cZ a_t a_t_child a_t_father a_t_husband a_t_wife s_t_size r_t_child r_t_father r_t_husband r_t_wife) → va_S A s.heap H locs → lv_has ls 7 [] → W p l e rX10_keeps s m args below meth c H locs 0 0 Q (F0 m 80 ls [])) ∧ (∀ z1, z0 = Sum.inr z1 → ∀ (H : Heap) (locs : List Loc) (ls : Array Slot), va_P D vwCl (w_X10_keeps cI cB cZ a_t a_t_child a_t_father a_t_husband a_t_wife s_t_size r_t_child r_t_father r_t_husband r_t_wife) H → va_D A (w_X10_keeps cI cB cZ a_t a_t_child a_t_father a_t_husband a_t_wife s_t_size r_t_child r_t_father r_t_husband r_t_wife) → va_S A s.heap H locs → lv_has ls 7 [] → W p l e rX10_keeps s m args below meth c H locs 0 0 Q (F0 m 88 ls []))))) {H : Heap} {locs : List Loc} {ls : Array Slot} (hP : va_P D vwCl (w_X10_keeps cI cB cZ a_t a_t_child a_t_father a_t_husband a_t_wife s_t_size r_t_child r_t_father r_t_husband r_t_wife) H) (hD : va_D A (w_X10_keeps cI cB cZ a_t a_t_child a_t_father a_t_husband a_t_wife s_t_size r_t_child r_t_father r_t_husband r_t_wife)) (hS : va_S A s.heap H locs) (hl : lv_has ls 7 [(0, .ref a_t), (1, .int x1), (2, .int x2), (3, .int x3), (4, .int x4)]) : W p l e rX10_keeps s m args below meth c H locs 0 0 Q (F0 m 3 ls []) := by
  obtain ⟨⟨hx, hb, hml, hown, hts⟩, hK, hN, hA⟩ := C
  have C : jCx p s m args c cX10_keeps 7 gX10_keeps RX10 G D (jT cI cB cZ) A := ⟨⟨hx, hb, hml, hown, hts⟩, hK, hN, hA⟩
  unfold f_X10_keeps_b3 at hf
  refine lv_iload hx hb dX10_keeps_3 (lv_at hl 4 rfl) ?_
  refine lv_aload_n hx hb dX10_keeps_5 rfl (lv_at hl 0 rfl) ?_
  refine va_get (D := D) (ci := 9) (v := .int s_t_size) (C := RX10) (T := TX10) (N := 5) hx hb hts iw_X10 hown hK hP 0 rfl rfl 4 (by decide) (hts _ (wG_in k_fl_X10_30 rfl)) (fun _ h9 => h9) rfl dX10_keeps_6 ?_
  refine lv_icmp_ge (tgt := 88) hx hb dX10_keeps_9 (by decide) (fun c1 => ?_) (fun c1 => ?_)
  · replace hf := jif_t c1 hf
    have ho := Option.some.inj hf
    exact (((K.2 _ ho.symm).2 _ rfl).2 _ rfl) _ _ _ hP hD hS (lv_sub hl [] rfl)
  · replace hf := jif_f c1 hf
    refine lv_aload_n hx hb dX10_keeps_12 rfl (lv_at hl 0 rfl) ?_
    refine lv_iload_n hx hb dX10_keeps_13 rfl (lv_at hl 2 rfl) ?_
    refine lv_iload hx hb dX10_keeps_14 (lv_at hl 4 rfl) ?_
    obtain ⟨r2, hgr2, hf⟩ := jM_some hf
    refine jcV_i0 (As := [.int x2, .int x4]) (rest := []) ⟨hx, hb, hml, hown, hts⟩ hK hN hA (c_X10_follow l G D cI cB cZ a_t a_t_child a_t_father a_t_husband a_t_wife s_t_size r_t_child r_t_father r_t_husband r_t_wife x2 x4 hgr2) (cwV 2 hts (wG_V k_ml_X10_71 k_im_X10_follow k_se_X10_follow k_in_X10 k_co_X10_follow) rfl rfl rfl hd_X10_follow ⟨Nat.le_of_ble_eq_true rfl, Nat.le_of_ble_eq_true rfl⟩) hP hD hS [0, 1, 2, 3, 4] rfl rfl rfl (ci := 9) rfl 0 rfl rfl rfl hl.1 rfl (Nat.le_of_ble_eq_true rfl) dX10_keeps_16 ⟨Nat.le_of_ble_eq_true rfl, Nat.le_of_ble_eq_true rfl⟩ (fun H locs hP hD hS => ?_)
    refine lv_istore (lv' := [(5, .int r2), (0, .ref a_t), (1, .int x1), (2, .int x2), (3, .int x3), (4, .int x4)]) hx hb dX10_keeps_19 hl (by decide) rfl (fun ls hl => ?_)
    refine lv_iload hx hb dX10_keeps_21 (lv_at hl 0 rfl) ?_
    refine lv_aload_n hx hb dX10_keeps_23 rfl (lv_at hl 1 rfl) ?_
    refine va_get (D := D) (ci := 9) (v := .ref a_t_wife) (C := RX10) (T := TX10) (N := 5) hx hb hts iw_X10 hown hK hP 0 rfl rfl 0 (by decide) (hts _ (wG_in k_fl_X10_9 rfl)) (fun _ h9 => h9) rfl dX10_keeps_24 ?_
    refine lv_iload hx hb dX10_keeps_27 (lv_at hl 5 rfl) ?_
    obtain ⟨r3, hgr3, hf⟩ := jM_some hf
    refine jcN_i0 (As := [.ref a_t_wife, .int x4]) (rest := [.int r2]) ⟨hx, hb, hml, hown, hts⟩ hK hN hA (c_X11_entry l G D cI cB cZ a_t_wife r_t_wife x4 hgr3) ⟨va_cnB 2 hts (wG_good k_co_X11_entry) rfl rfl rfl (jN_l nl_X10_40 hN) (hts _ (wG_in k_in_X11 rfl)) hd_X11_entry.2 ⟨Nat.le_of_ble_eq_true rfl, Nat.le_of_ble_eq_true rfl⟩, hts _ (wG_in k_st_X11_entry rfl), trivial⟩ hP hD hS [4] rfl rfl rfl rfl hl.1 rfl (Nat.le_of_ble_eq_true rfl) dX10_keeps_29 ⟨Nat.le_of_ble_eq_true rfl, Nat.le_of_ble_eq_true rfl⟩ (fun H locs hP hD hS => ?_)
    refine lv_icmp_ne (tgt := 39) hx hb dX10_keeps_32 (by decide) (fun c4 => ?_) (fun c4 => ?_)
    · replace hf := jif_f c4 hf
      refine lv_iconst (v := (0 : Int32)) hx hb dX10_keeps_39 (by decide) ?_
      exact t_X10_keeps_j40 G D cI cB cZ a_t a_t_child a_t_father a_t_husband a_t_wife s_t_size r_t_child r_t_father r_t_husband r_t_wife x1 x2 x3 x4 r2 (0 : Int32) C hf K hP hD hS (lv_sub hl [1, 2, 3, 4, 5, 0] rfl)
    · replace hf := jif_t c4 hf
      refine lv_iconst (v := (1 : Int32)) hx hb dX10_keeps_35 (by decide) ?_
      refine lv_goto (tgt := 40) hx hb dX10_keeps_36 (by decide) ?_
      exact t_X10_keeps_j40 G D cI cB cZ a_t a_t_child a_t_father a_t_husband a_t_wife s_t_size r_t_child r_t_father r_t_husband r_t_wife x1 x2 x3 x4 r2 (1 : Int32) C hf K hP hD hS (lv_sub hl [1, 2, 3, 4, 5, 0] rfl)
def f_X10_keeps_l3 (s_t_size : Int32) (r_t_child r_t_father r_t_husband r_t_wife : jA) (x1 x2 x3 x4 : Int32) : Option ((Unit) ⊕ ((Unit) ⊕ ((Unit)))) :=
  jI (fun z => f_X10_keeps_b3 s_t_size r_t_child r_t_father r_t_husband r_t_wife x1 x2 x3 z) jF x4
set_option maxHeartbeats 4000000 in
set_option maxRecDepth 100000 in
theorem t_X10_keeps_l3 {p : Program} {l : Launch} {e : Env} {s : State} {m : MethodId} {args : Array Value} {below : List Frame} {meth : Method} {c : Code} {A : Nat → Prop} {Q : State → Prop} (G : jGt) (D : va_G) (cI cB cZ : ClassId) (a_t a_t_child a_t_father a_t_husband a_t_wife : Nat) (s_t_size : Int32) (r_t_child r_t_father r_t_husband r_t_wife : jA) (x1 x2 x3 : Int32) (C : jCx p s m args c cX10_keeps 7 gX10_keeps RX10 G D (jT cI cB cZ) A) : ∀ (n : Nat) (x4 : Int32) {eo : (Unit) ⊕ ((Unit) ⊕ ((Unit)))}, jI (fun z => f_X10_keeps_b3 s_t_size r_t_child r_t_father r_t_husband r_t_wife x1 x2 x3 z) n x4 = some eo → ((∀ y0, eo = Sum.inl y0 → ∀ (H : Heap) (locs : List Loc) (ls : Array Slot), va_P D vwCl (w_X10_keeps cI cB cZ a_t a_t_child a_t_father a_t_husband a_t_wife s_t_size r_t_child r_t_father r_t_husband r_t_wife) H → va_D A (w_X10_keeps cI cB cZ a_t a_t_child a_t_father a_t_husband a_t_wife s_t_size r_t_child r_t_father r_t_husband r_t_wife) → va_S A s.heap H locs → lv_has ls 7 [] → W p l e rX10_keeps s m args below meth c H locs 0 0 Q (F0 m 61 ls [])) ∧ (∀ z0, eo = Sum.inr z0 → (∀ y1, z0 = Sum.inl y1 → ∀ (H : Heap) (locs : List Loc) (ls : Array Slot), va_P D vwCl (w_X10_keeps cI cB cZ a_t a_t_child a_t_father a_t_husband a_t_wife s_t_size r_t_child r_t_father r_t_husband r_t_wife) H → va_D A (w_X10_keeps cI cB cZ a_t a_t_child a_t_father a_t_husband a_t_wife s_t_size r_t_child r_t_father r_t_husband r_t_wife) → va_S A s.heap H locs → lv_has ls 7 [] → W p l e rX10_keeps s m args below meth c H locs 0 0 Q (F0 m 80 ls [])) ∧ (∀ z1, z0 = Sum.inr z1 → ∀ (H : Heap) (locs : List Loc) (ls : Array Slot), va_P D vwCl (w_X10_keeps cI cB cZ a_t a_t_child a_t_father a_t_husband a_t_wife s_t_size r_t_child r_t_father r_t_husband r_t_wife) H → va_D A (w_X10_keeps cI cB cZ a_t a_t_child a_t_father a_t_husband a_t_wife s_t_size r_t_child r_t_father r_t_husband r_t_wife) → va_S A s.heap H locs → lv_has ls 7 [] → W p l e rX10_keeps s m args below meth c H locs 0 0 Q (F0 m 88 ls [])))) → ∀ (H : Heap) (locs : List Loc) (ls : Array Slot), va_P D vwCl (w_X10_keeps cI cB cZ a_t a_t_child a_t_father a_t_husband a_t_wife s_t_size r_t_child r_t_father r_t_husband r_t_wife) H → va_D A (w_X10_keeps cI cB cZ a_t a_t_child a_t_father a_t_husband a_t_wife s_t_size r_t_child r_t_father r_t_husband r_t_wife) → va_S A s.heap H locs → lv_has ls 7 [(0, .ref a_t), (1, .int x1), (2, .int x2), (3, .int x3), (4, .int x4)] → W p l e rX10_keeps s m args below meth c H locs 0 0 Q (F0 m 3 ls []) := by
  intro n
  induction n with
  | zero =>
    intro x4 eo hf
    exact (jI_zero hf).elim
  | succ n ih =>
    intro x4 eo hf K H locs ls hP hD hS hl
    obtain ⟨o, hb1, ho⟩ := jI_some hf
    rcases ho with ⟨z, rfl, hf2⟩ | rfl
    · exact t_X10_keeps_b3 G D cI cB cZ a_t a_t_child a_t_father a_t_husband a_t_wife s_t_size r_t_child r_t_father r_t_husband r_t_wife x1 x2 x3 x4 C hb1 ⟨fun z2 hz H locs ls hP hD hS hl => by cases hz; exact ih z hf2 K H locs ls hP hD hS hl, fun z2 hz => by cases hz⟩ hP hD hS hl
    · exact t_X10_keeps_b3 G D cI cB cZ a_t a_t_child a_t_father a_t_husband a_t_wife s_t_size r_t_child r_t_father r_t_husband r_t_wife x1 x2 x3 x4 C hb1 ⟨fun z2 hz => (by cases hz), fun z2 hz => by cases hz; exact K⟩ hP hD hS hl
def f_X10_keeps (s_t_size : Int32) (r_t_child r_t_father r_t_husband r_t_wife : jA) (x1 x2 x3 : Int32) : Option (Int32) :=
  jM (f_X10_keeps_l3 s_t_size r_t_child r_t_father r_t_husband r_t_wife x1 x2 x3 (0 : Int32)) fun e12 =>
  Sum.elim (fun y13 =>
  some (0 : Int32)) (fun w14 =>
  Sum.elim (fun y15 =>
  some (0 : Int32)) (fun w16 =>
  some (1 : Int32)) w14) e12
set_option maxHeartbeats 4000000 in
set_option maxRecDepth 100000 in
theorem t_X10_keeps {p : Program} {l : Launch} {e : Env} {s : State} {m : MethodId} {args : Array Value} {below : List Frame} {meth : Method} {c : Code} {A : Nat → Prop} {Q : State → Prop} (G : jGt) (D : va_G) (cI cB cZ : ClassId) (a_t a_t_child a_t_father a_t_husband a_t_wife : Nat) (s_t_size : Int32) (r_t_child r_t_father r_t_husband r_t_wife : jA) (x1 x2 x3 : Int32) (C : jCx p s m args c cX10_keeps 7 gX10_keeps RX10 G D (jT cI cB cZ) A) {o : Int32} (hf : f_X10_keeps s_t_size r_t_child r_t_father r_t_husband r_t_wife x1 x2 x3 = some o) (K : ∀ (H : Heap) (locs : List Loc) (pc : Nat) (ls : Array Slot), (o = 0 ∨ o = 1) → va_P D vwCl (w_X10_keeps cI cB cZ a_t a_t_child a_t_father a_t_husband a_t_wife s_t_size r_t_child r_t_father r_t_husband r_t_wife) H → va_S A s.heap H locs → decode cX10_keeps pc = .ok (.ireturn, 1) → W p l e rX10_keeps s m args below meth c H locs 0 0 Q (F0 m pc ls [.int o])) {H : Heap} {locs : List Loc} {ls : Array Slot} (hP : va_P D vwCl (w_X10_keeps cI cB cZ a_t a_t_child a_t_father a_t_husband a_t_wife s_t_size r_t_child r_t_father r_t_husband r_t_wife) H) (hD : va_D A (w_X10_keeps cI cB cZ a_t a_t_child a_t_father a_t_husband a_t_wife s_t_size r_t_child r_t_father r_t_husband r_t_wife)) (hS : va_S A s.heap H locs) (hl : lv_has ls 7 [(0, .ref a_t), (1, .int x1), (2, .int x2), (3, .int x3)]) : W p l e rX10_keeps s m args below meth c H locs 0 0 Q (F0 m 0 ls []) := by
  obtain ⟨⟨hx, hb, hml, hown, hts⟩, hK, hN, hA⟩ := C
  have C : jCx p s m args c cX10_keeps 7 gX10_keeps RX10 G D (jT cI cB cZ) A := ⟨⟨hx, hb, hml, hown, hts⟩, hK, hN, hA⟩
  unfold f_X10_keeps at hf
  refine lv_iconst (v := (0 : Int32)) hx hb dX10_keeps_0 (by decide) ?_
  refine lv_istore (lv' := [(4, .int (0 : Int32)), (0, .ref a_t), (1, .int x1), (2, .int x2), (3, .int x3)]) hx hb dX10_keeps_1 hl (by decide) rfl (fun ls hl => ?_)
  obtain ⟨e12, hg12, hf⟩ := jM_some hf
  refine t_X10_keeps_l3 G D cI cB cZ a_t a_t_child a_t_father a_t_husband a_t_wife s_t_size r_t_child r_t_father r_t_husband r_t_wife x1 x2 x3 C jF (0 : Int32) hg12 ?_ _ _ _ hP hD hS (lv_sub hl [1, 2, 3, 4, 0] rfl)
  refine ⟨fun y13 hy => ?_, fun w14 hy => ?_⟩
  · replace hf := jE_l hy hf
    intro H locs ls hP hD hS hl
    refine lv_iconst (v := (0 : Int32)) hx hb dX10_keeps_61 (by decide) ?_
    have ho := Option.some.inj hf
    subst ho
    exact K _ _ _ _ (Or.inl rfl) hP hS dX10_keeps_62
  · replace hf := jE_r hy hf
    refine ⟨fun y15 hy => ?_, fun w16 hy => ?_⟩
    · replace hf := jE_l hy hf
      intro H locs ls hP hD hS hl
      refine lv_iconst (v := (0 : Int32)) hx hb dX10_keeps_80 (by decide) ?_
      have ho := Option.some.inj hf
      subst ho
      exact K _ _ _ _ (Or.inl rfl) hP hS dX10_keeps_81
    · replace hf := jE_r hy hf
      intro H locs ls hP hD hS hl
      refine lv_iconst (v := (1 : Int32)) hx hb dX10_keeps_88 (by decide) ?_
      have ho := Option.some.inj hf
      subst ho
      exact K _ _ _ _ (Or.inr rfl) hP hS dX10_keeps_89
set_option maxHeartbeats 4000000 in
set_option maxRecDepth 100000 in
theorem c_X10_keeps (l : Launch) (G : jGt) (D : va_G) (cI cB cZ : ClassId) (a_t a_t_child a_t_father a_t_husband a_t_wife : Nat) (s_t_size : Int32) (r_t_child r_t_father r_t_husband r_t_wife : jA) (x1 x2 x3 : Int32) {o : Int32} (hf : f_X10_keeps s_t_size r_t_child r_t_father r_t_husband r_t_wife x1 x2 x3 = some o) : jMi l yX10_keeps gX10_keeps rX10_keeps G D (jT cI cB cZ) [.ref a_t, .int x1, .int x2, .int x3] (w_X10_keeps cI cB cZ a_t a_t_child a_t_father a_t_husband a_t_wife s_t_size r_t_child r_t_father r_t_husband r_t_wife) (w_X10_keeps cI cB cZ a_t a_t_child a_t_father a_t_husband a_t_wife s_t_size r_t_child r_t_father r_t_husband r_t_wife) o := by
  refine jmk_z RX10 rfl (by decide +kernel) rfl (Nat.le_of_ble_eq_true rfl) rfl ?_
  intro p e s m args below meth c ls A Q C hP hD hS hl K
  exact t_X10_keeps G D cI cB cZ a_t a_t_child a_t_father a_t_husband a_t_wife s_t_size r_t_child r_t_father r_t_husband r_t_wife x1 x2 x3 C hf K hP hD hS hl
abbrev rX3_firstBroken : Room := { frames := 3, cells := 0, slots := 0, locals := 76 }
abbrev gX3_firstBroken : List Cond := wG yX3_firstBroken cX3_firstBroken 3 (some .int)
def w_X3_firstBroken (cI cB cZ : ClassId) (a_p0 a_t a_p0_child a_p0_father a_p0_husband a_p0_wife a_t_first a_t_second a_t_sort : Nat) (s_p0_size s_t_count : Int32) (r_p0_child r_p0_father r_p0_husband r_p0_wife r_t_first r_t_second r_t_sort : jA) : va_W := [(a_p0, .inr (9, (oX10 (.ref a_p0_wife) (.ref a_p0_child) (.ref a_p0_husband) (.ref a_p0_father) s_p0_size))), (a_t, .inr (2, (oX3 (.ref a_t_sort) (.ref a_t_first) (.ref a_t_second) s_t_count))), (a_p0_child, .inl (cI, r_p0_child.1, .inl r_p0_child.2)), (a_p0_father, .inl (cI, r_p0_father.1, .inl r_p0_father.2)), (a_p0_husband, .inl (cI, r_p0_husband.1, .inl r_p0_husband.2)), (a_p0_wife, .inl (cI, r_p0_wife.1, .inl r_p0_wife.2)), (a_t_first, .inl (cI, r_t_first.1, .inl r_t_first.2)), (a_t_second, .inl (cI, r_t_second.1, .inl r_t_second.2)), (a_t_sort, .inl (cI, r_t_sort.1, .inl r_t_sort.2))]
def f_X3_firstBroken_b2 (s_p0_size s_t_count : Int32) (r_p0_child r_p0_father r_p0_husband r_p0_wife r_t_first r_t_second r_t_sort : jA) (x2 : Int32) : Option ((Int32) ⊕ ((Int32) ⊕ ((Unit)))) :=
  if s_t_count ≤ x2 then
  some (Sum.inr (Sum.inr ()))
  else
  if (16 : Int32) ≤ x2 then
  some (Sum.inr (Sum.inr ()))
  else
  jL r_t_sort x2 fun v3 =>
  jL r_t_first x2 fun v4 =>
  jL r_t_second x2 fun v5 =>
  jM (f_X10_keeps s_p0_size r_p0_child r_p0_father r_p0_husband r_p0_wife v3 v4 v5) fun r6 =>
  if r6 = 0 then
  some (Sum.inr (Sum.inl x2))
  else
  some (Sum.inl (x2 + 1))
set_option maxHeartbeats 4000000 in
set_option maxRecDepth 100000 in
theorem t_X3_firstBroken_b2 {p : Program} {l : Launch} {e : Env} {s : State} {m : MethodId} {args : Array Value} {below : List Frame} {meth : Method} {c : Code} {A : Nat → Prop} {Q : State → Prop} (G : jGt) (D : va_G) (cI cB cZ : ClassId) (a_p0 a_t a_p0_child a_p0_father a_p0_husband a_p0_wife a_t_first a_t_second a_t_sort : Nat) (s_p0_size s_t_count : Int32) (r_p0_child r_p0_father r_p0_husband r_p0_wife r_t_first r_t_second r_t_sort : jA) (x2 : Int32) (C : jCx p s m args c cX3_firstBroken 3 gX3_firstBroken RX3 G D (jT cI cB cZ) A) {o : (Int32) ⊕ ((Int32) ⊕ ((Unit)))} (hf : f_X3_firstBroken_b2 s_p0_size s_t_count r_p0_child r_p0_father r_p0_husband r_p0_wife r_t_first r_t_second r_t_sort x2 = some o) (K : (∀ z, o = Sum.inl z → ∀ (H : Heap) (locs : List Loc) (ls : Array Slot), va_P D vwCl (w_X3_firstBroken cI cB cZ a_p0 a_t a_p0_child a_p0_father a_p0_husband a_p0_wife a_t_first a_t_second a_t_sort s_p0_size s_t_count r_p0_child r_p0_father r_p0_husband r_p0_wife r_t_first r_t_second r_t_sort) H → va_D A (w_X3_firstBroken cI cB cZ a_p0 a_t a_p0_child a_p0_father a_p0_husband a_p0_wife a_t_first a_t_second a_t_sort s_p0_size s_t_count r_p0_child r_p0_father r_p0_husband r_p0_wife r_t_first r_t_second r_t_sort) → va_S A s.heap H locs → lv_has ls 3 [(0, .ref a_t), (1, .ref a_p0), (2, .int z)] → W p l e rX3_firstBroken s m args below meth c H locs 0 0 Q (F0 m 2 ls [])) ∧ (∀ z, o = Sum.inr z → (∀ y0, z = Sum.inl y0 → ∀ (H : Heap) (locs : List Loc) (ls : Array Slot), va_P D vwCl (w_X3_firstBroken cI cB cZ a_p0 a_t a_p0_child a_p0_father a_p0_husband a_p0_wife a_t_first a_t_second a_t_sort s_p0_size s_t_count r_p0_child r_p0_father r_p0_husband r_p0_wife r_t_first r_t_second r_t_sort) H → va_D A (w_X3_firstBroken cI cB cZ a_p0 a_t a_p0_child a_p0_father a_p0_husband a_p0_wife a_t_first a_t_second a_t_sort s_p0_size s_t_count r_p0_child r_p0_father r_p0_husband r_p0_wife r_t_first r_t_second r_t_sort) → va_S A s.heap H locs → lv_has ls 3 [(2, .int y0)] → W p l e rX3_firstBroken s m args below meth c H locs 0 0 Q (F0 m 41 ls [])) ∧ (∀ z0, z = Sum.inr z0 → ∀ (H : Heap) (locs : List Loc) (ls : Array Slot), va_P D vwCl (w_X3_firstBroken cI cB cZ a_p0 a_t a_p0_child a_p0_father a_p0_husband a_p0_wife a_t_first a_t_second a_t_sort s_p0_size s_t_count r_p0_child r_p0_father r_p0_husband r_p0_wife r_t_first r_t_second r_t_sort) H → va_D A (w_X3_firstBroken cI cB cZ a_p0 a_t a_p0_child a_p0_father a_p0_husband a_p0_wife a_t_first a_t_second a_t_sort s_p0_size s_t_count r_p0_child r_p0_father r_p0_husband r_p0_wife r_t_first r_t_second r_t_sort) → va_S A s.heap H locs → lv_has ls 3 [] → W p l e rX3_firstBroken s m args below meth c H locs 0 0 Q (F0 m 49 ls [])))) {H : Heap} {locs : List Loc} {ls : Array Slot} (hP : va_P D vwCl (w_X3_firstBroken cI cB cZ a_p0 a_t a_p0_child a_p0_father a_p0_husband a_p0_wife a_t_first a_t_second a_t_sort s_p0_size s_t_count r_p0_child r_p0_father r_p0_husband r_p0_wife r_t_first r_t_second r_t_sort) H) (hD : va_D A (w_X3_firstBroken cI cB cZ a_p0 a_t a_p0_child a_p0_father a_p0_husband a_p0_wife a_t_first a_t_second a_t_sort s_p0_size s_t_count r_p0_child r_p0_father r_p0_husband r_p0_wife r_t_first r_t_second r_t_sort)) (hS : va_S A s.heap H locs) (hl : lv_has ls 3 [(0, .ref a_t), (1, .ref a_p0), (2, .int x2)]) : W p l e rX3_firstBroken s m args below meth c H locs 0 0 Q (F0 m 2 ls []) := by
  obtain ⟨⟨hx, hb, hml, hown, hts⟩, hK, hN, hA⟩ := C
  have C : jCx p s m args c cX3_firstBroken 3 gX3_firstBroken RX3 G D (jT cI cB cZ) A := ⟨⟨hx, hb, hml, hown, hts⟩, hK, hN, hA⟩
  unfold f_X3_firstBroken_b2 at hf
  refine lv_iload_n hx hb dX3_firstBroken_2 rfl (lv_at hl 2 rfl) ?_
  refine lv_aload_n hx hb dX3_firstBroken_3 rfl (lv_at hl 0 rfl) ?_
  refine va_get (D := D) (ci := 2) (v := .int s_t_count) (C := RX3) (T := TX3) (N := 4) hx hb hts iw_X3 hown hK hP 1 rfl rfl 3 (by decide) (hts _ (wG_in k_fl_X3_27 rfl)) (fun _ h9 => h9) rfl dX3_firstBroken_4 ?_
  refine lv_icmp_ge (tgt := 49) hx hb dX3_firstBroken_7 (by decide) (fun c1 => ?_) (fun c1 => ?_)
  · replace hf := jif_t c1 hf
    have ho := Option.some.inj hf
    exact ((K.2 _ ho.symm).2 _ rfl) _ _ _ hP hD hS (lv_sub hl [] rfl)
  · replace hf := jif_f c1 hf
    refine lv_iload_n hx hb dX3_firstBroken_10 rfl (lv_at hl 2 rfl) ?_
    refine lv_bipush (v := (16 : Int32)) hx hb dX3_firstBroken_11 (by decide) ?_
    refine lv_icmp_ge (tgt := 49) hx hb dX3_firstBroken_13 (by decide) (fun c2 => ?_) (fun c2 => ?_)
    · replace hf := jif_t c2 hf
      have ho := Option.some.inj hf
      exact ((K.2 _ ho.symm).2 _ rfl) _ _ _ hP hD hS (lv_sub hl [] rfl)
    · replace hf := jif_f c2 hf
      refine lv_aload_n hx hb dX3_firstBroken_16 rfl (lv_at hl 1 rfl) ?_
      refine lv_aload_n hx hb dX3_firstBroken_17 rfl (lv_at hl 0 rfl) ?_
      refine va_get (D := D) (ci := 2) (v := .ref a_t_sort) (C := RX3) (T := TX3) (N := 4) hx hb hts iw_X3 hown hK hP 1 rfl rfl 0 (by decide) (hts _ (wG_in k_fl_X3_11 rfl)) (fun _ h9 => h9) rfl dX3_firstBroken_18 ?_
      refine lv_iload_n hx hb dX3_firstBroken_21 rfl (lv_at hl 2 rfl) ?_
      obtain ⟨v3, hv3, iv3, hf⟩ := jL_some hf
      refine ja_iald (P := r_t_sort) hx hb hK hP 8 0 rfl rfl hv3 iv3 dX3_firstBroken_22 ?_
      refine lv_aload_n hx hb dX3_firstBroken_23 rfl (lv_at hl 0 rfl) ?_
      refine va_get (D := D) (ci := 2) (v := .ref a_t_first) (C := RX3) (T := TX3) (N := 4) hx hb hts iw_X3 hown hK hP 1 rfl rfl 1 (by decide) (hts _ (wG_in k_fl_X3_15 rfl)) (fun _ h9 => h9) rfl dX3_firstBroken_24 ?_
      refine lv_iload_n hx hb dX3_firstBroken_27 rfl (lv_at hl 2 rfl) ?_
      obtain ⟨v4, hv4, iv4, hf⟩ := jL_some hf
      refine ja_iald (P := r_t_first) hx hb hK hP 6 0 rfl rfl hv4 iv4 dX3_firstBroken_28 ?_
      refine lv_aload_n hx hb dX3_firstBroken_29 rfl (lv_at hl 0 rfl) ?_
      refine va_get (D := D) (ci := 2) (v := .ref a_t_second) (C := RX3) (T := TX3) (N := 4) hx hb hts iw_X3 hown hK hP 1 rfl rfl 2 (by decide) (hts _ (wG_in k_fl_X3_18 rfl)) (fun _ h9 => h9) rfl dX3_firstBroken_30 ?_
      refine lv_iload_n hx hb dX3_firstBroken_33 rfl (lv_at hl 2 rfl) ?_
      obtain ⟨v5, hv5, iv5, hf⟩ := jL_some hf
      refine ja_iald (P := r_t_second) hx hb hK hP 7 0 rfl rfl hv5 iv5 dX3_firstBroken_34 ?_
      obtain ⟨r6, hgr6, hf⟩ := jM_some hf
      refine jcV_i0 (As := [.int v3, .int v4, .int v5]) (rest := []) ⟨hx, hb, hml, hown, hts⟩ hK hN hA (c_X10_keeps l G D cI cB cZ a_p0 a_p0_child a_p0_father a_p0_husband a_p0_wife s_p0_size r_p0_child r_p0_father r_p0_husband r_p0_wife v3 v4 v5 hgr6) (cwV 3 hts (wG_V k_ml_X3_31 k_im_X10_keeps k_se_X10_keeps k_in_X10 k_co_X10_keeps) rfl rfl rfl hd_X10_keeps ⟨Nat.le_of_ble_eq_true rfl, Nat.le_of_ble_eq_true rfl⟩) hP hD hS [0, 2, 3, 4, 5] rfl rfl rfl (ci := 9) rfl 0 rfl rfl rfl hl.1 rfl (Nat.le_of_ble_eq_true rfl) dX3_firstBroken_35 ⟨Nat.le_of_ble_eq_true rfl, Nat.le_of_ble_eq_true rfl⟩ (fun H locs hP hD hS => ?_)
      refine lv_if_ne (tgt := 43) hx hb dX3_firstBroken_38 (by decide) (fun c7 => ?_) (fun c7 => ?_)
      · replace hf := jif_f c7 hf
        refine lv_iinc (v := (x2 + 1)) (lv' := [(2, .int (x2 + 1)), (0, .ref a_t), (1, .ref a_p0)]) hx hb dX3_firstBroken_43 hl (k := 2) rfl (by first | rfl | decide) (by decide) rfl (fun ls hl => ?_)
        refine lv_goto (tgt := 2) hx hb dX3_firstBroken_46 (by decide) ?_
        have ho := Option.some.inj hf
        exact K.1 _ ho.symm _ _ _ hP hD hS (lv_sub hl [1, 2, 0] rfl)
      · replace hf := jif_t c7 hf
        have ho := Option.some.inj hf
        exact ((K.2 _ ho.symm).1 _ rfl) _ _ _ hP hD hS (lv_sub hl [2] rfl)
def f_X3_firstBroken_l2 (s_p0_size s_t_count : Int32) (r_p0_child r_p0_father r_p0_husband r_p0_wife r_t_first r_t_second r_t_sort : jA) (x2 : Int32) : Option ((Int32) ⊕ ((Unit))) :=
  jI (fun z => f_X3_firstBroken_b2 s_p0_size s_t_count r_p0_child r_p0_father r_p0_husband r_p0_wife r_t_first r_t_second r_t_sort z) jF x2
set_option maxHeartbeats 4000000 in
set_option maxRecDepth 100000 in
theorem t_X3_firstBroken_l2 {p : Program} {l : Launch} {e : Env} {s : State} {m : MethodId} {args : Array Value} {below : List Frame} {meth : Method} {c : Code} {A : Nat → Prop} {Q : State → Prop} (G : jGt) (D : va_G) (cI cB cZ : ClassId) (a_p0 a_t a_p0_child a_p0_father a_p0_husband a_p0_wife a_t_first a_t_second a_t_sort : Nat) (s_p0_size s_t_count : Int32) (r_p0_child r_p0_father r_p0_husband r_p0_wife r_t_first r_t_second r_t_sort : jA)  (C : jCx p s m args c cX3_firstBroken 3 gX3_firstBroken RX3 G D (jT cI cB cZ) A) : ∀ (n : Nat) (x2 : Int32) {eo : (Int32) ⊕ ((Unit))}, jI (fun z => f_X3_firstBroken_b2 s_p0_size s_t_count r_p0_child r_p0_father r_p0_husband r_p0_wife r_t_first r_t_second r_t_sort z) n x2 = some eo → ((∀ y0, eo = Sum.inl y0 → ∀ (H : Heap) (locs : List Loc) (ls : Array Slot), va_P D vwCl (w_X3_firstBroken cI cB cZ a_p0 a_t a_p0_child a_p0_father a_p0_husband a_p0_wife a_t_first a_t_second a_t_sort s_p0_size s_t_count r_p0_child r_p0_father r_p0_husband r_p0_wife r_t_first r_t_second r_t_sort) H → va_D A (w_X3_firstBroken cI cB cZ a_p0 a_t a_p0_child a_p0_father a_p0_husband a_p0_wife a_t_first a_t_second a_t_sort s_p0_size s_t_count r_p0_child r_p0_father r_p0_husband r_p0_wife r_t_first r_t_second r_t_sort) → va_S A s.heap H locs → lv_has ls 3 [(2, .int y0)] → W p l e rX3_firstBroken s m args below meth c H locs 0 0 Q (F0 m 41 ls [])) ∧ (∀ z0, eo = Sum.inr z0 → ∀ (H : Heap) (locs : List Loc) (ls : Array Slot), va_P D vwCl (w_X3_firstBroken cI cB cZ a_p0 a_t a_p0_child a_p0_father a_p0_husband a_p0_wife a_t_first a_t_second a_t_sort s_p0_size s_t_count r_p0_child r_p0_father r_p0_husband r_p0_wife r_t_first r_t_second r_t_sort) H → va_D A (w_X3_firstBroken cI cB cZ a_p0 a_t a_p0_child a_p0_father a_p0_husband a_p0_wife a_t_first a_t_second a_t_sort s_p0_size s_t_count r_p0_child r_p0_father r_p0_husband r_p0_wife r_t_first r_t_second r_t_sort) → va_S A s.heap H locs → lv_has ls 3 [] → W p l e rX3_firstBroken s m args below meth c H locs 0 0 Q (F0 m 49 ls []))) → ∀ (H : Heap) (locs : List Loc) (ls : Array Slot), va_P D vwCl (w_X3_firstBroken cI cB cZ a_p0 a_t a_p0_child a_p0_father a_p0_husband a_p0_wife a_t_first a_t_second a_t_sort s_p0_size s_t_count r_p0_child r_p0_father r_p0_husband r_p0_wife r_t_first r_t_second r_t_sort) H → va_D A (w_X3_firstBroken cI cB cZ a_p0 a_t a_p0_child a_p0_father a_p0_husband a_p0_wife a_t_first a_t_second a_t_sort s_p0_size s_t_count r_p0_child r_p0_father r_p0_husband r_p0_wife r_t_first r_t_second r_t_sort) → va_S A s.heap H locs → lv_has ls 3 [(0, .ref a_t), (1, .ref a_p0), (2, .int x2)] → W p l e rX3_firstBroken s m args below meth c H locs 0 0 Q (F0 m 2 ls []) := by
  intro n
  induction n with
  | zero =>
    intro x2 eo hf
    exact (jI_zero hf).elim
  | succ n ih =>
    intro x2 eo hf K H locs ls hP hD hS hl
    obtain ⟨o, hb1, ho⟩ := jI_some hf
    rcases ho with ⟨z, rfl, hf2⟩ | rfl
    · exact t_X3_firstBroken_b2 G D cI cB cZ a_p0 a_t a_p0_child a_p0_father a_p0_husband a_p0_wife a_t_first a_t_second a_t_sort s_p0_size s_t_count r_p0_child r_p0_father r_p0_husband r_p0_wife r_t_first r_t_second r_t_sort x2 C hb1 ⟨fun z2 hz H locs ls hP hD hS hl => by cases hz; exact ih z hf2 K H locs ls hP hD hS hl, fun z2 hz => by cases hz⟩ hP hD hS hl
    · exact t_X3_firstBroken_b2 G D cI cB cZ a_p0 a_t a_p0_child a_p0_father a_p0_husband a_p0_wife a_t_first a_t_second a_t_sort s_p0_size s_t_count r_p0_child r_p0_father r_p0_husband r_p0_wife r_t_first r_t_second r_t_sort x2 C hb1 ⟨fun z2 hz => (by cases hz), fun z2 hz => by cases hz; exact K⟩ hP hD hS hl
def f_X3_firstBroken (s_p0_size s_t_count : Int32) (r_p0_child r_p0_father r_p0_husband r_p0_wife r_t_first r_t_second r_t_sort : jA) : Option (Int32) :=
  jM (f_X3_firstBroken_l2 s_p0_size s_t_count r_p0_child r_p0_father r_p0_husband r_p0_wife r_t_first r_t_second r_t_sort (0 : Int32)) fun e8 =>
  Sum.elim (fun y9 =>
  some y9) (fun w10 =>
  some (-1 : Int32)) e8
set_option maxHeartbeats 4000000 in
set_option maxRecDepth 100000 in
theorem t_X3_firstBroken {p : Program} {l : Launch} {e : Env} {s : State} {m : MethodId} {args : Array Value} {below : List Frame} {meth : Method} {c : Code} {A : Nat → Prop} {Q : State → Prop} (G : jGt) (D : va_G) (cI cB cZ : ClassId) (a_p0 a_t a_p0_child a_p0_father a_p0_husband a_p0_wife a_t_first a_t_second a_t_sort : Nat) (s_p0_size s_t_count : Int32) (r_p0_child r_p0_father r_p0_husband r_p0_wife r_t_first r_t_second r_t_sort : jA)  (C : jCx p s m args c cX3_firstBroken 3 gX3_firstBroken RX3 G D (jT cI cB cZ) A) {o : Int32} (hf : f_X3_firstBroken s_p0_size s_t_count r_p0_child r_p0_father r_p0_husband r_p0_wife r_t_first r_t_second r_t_sort = some o) (K : ∀ (H : Heap) (locs : List Loc) (pc : Nat) (ls : Array Slot), va_P D vwCl (w_X3_firstBroken cI cB cZ a_p0 a_t a_p0_child a_p0_father a_p0_husband a_p0_wife a_t_first a_t_second a_t_sort s_p0_size s_t_count r_p0_child r_p0_father r_p0_husband r_p0_wife r_t_first r_t_second r_t_sort) H → va_S A s.heap H locs → decode cX3_firstBroken pc = .ok (.ireturn, 1) → W p l e rX3_firstBroken s m args below meth c H locs 0 0 Q (F0 m pc ls [.int o])) {H : Heap} {locs : List Loc} {ls : Array Slot} (hP : va_P D vwCl (w_X3_firstBroken cI cB cZ a_p0 a_t a_p0_child a_p0_father a_p0_husband a_p0_wife a_t_first a_t_second a_t_sort s_p0_size s_t_count r_p0_child r_p0_father r_p0_husband r_p0_wife r_t_first r_t_second r_t_sort) H) (hD : va_D A (w_X3_firstBroken cI cB cZ a_p0 a_t a_p0_child a_p0_father a_p0_husband a_p0_wife a_t_first a_t_second a_t_sort s_p0_size s_t_count r_p0_child r_p0_father r_p0_husband r_p0_wife r_t_first r_t_second r_t_sort)) (hS : va_S A s.heap H locs) (hl : lv_has ls 3 [(0, .ref a_t), (1, .ref a_p0)]) : W p l e rX3_firstBroken s m args below meth c H locs 0 0 Q (F0 m 0 ls []) := by
  obtain ⟨⟨hx, hb, hml, hown, hts⟩, hK, hN, hA⟩ := C
  have C : jCx p s m args c cX3_firstBroken 3 gX3_firstBroken RX3 G D (jT cI cB cZ) A := ⟨⟨hx, hb, hml, hown, hts⟩, hK, hN, hA⟩
  unfold f_X3_firstBroken at hf
  refine lv_iconst (v := (0 : Int32)) hx hb dX3_firstBroken_0 (by decide) ?_
  refine lv_istore_n (lv' := [(2, .int (0 : Int32)), (0, .ref a_t), (1, .ref a_p0)]) hx hb dX3_firstBroken_1 rfl hl (by decide) rfl (fun ls hl => ?_)
  obtain ⟨e8, hg8, hf⟩ := jM_some hf
  refine t_X3_firstBroken_l2 G D cI cB cZ a_p0 a_t a_p0_child a_p0_father a_p0_husband a_p0_wife a_t_first a_t_second a_t_sort s_p0_size s_t_count r_p0_child r_p0_father r_p0_husband r_p0_wife r_t_first r_t_second r_t_sort  C jF (0 : Int32) hg8 ?_ _ _ _ hP hD hS (lv_sub hl [1, 2, 0] rfl)
  refine ⟨fun y9 hy => ?_, fun w10 hy => ?_⟩
  · replace hf := jE_l hy hf
    intro H locs ls hP hD hS hl
    refine lv_iload_n hx hb dX3_firstBroken_41 rfl (lv_at hl 0 rfl) ?_
    have ho := Option.some.inj hf
    subst ho
    exact K _ _ _ _ hP hS dX3_firstBroken_42
  · replace hf := jE_r hy hf
    intro H locs ls hP hD hS hl
    refine lv_iconst (v := (-1 : Int32)) hx hb dX3_firstBroken_49 (by decide) ?_
    have ho := Option.some.inj hf
    subst ho
    exact K _ _ _ _ hP hS dX3_firstBroken_50
set_option maxHeartbeats 4000000 in
set_option maxRecDepth 100000 in
theorem c_X3_firstBroken (l : Launch) (G : jGt) (D : va_G) (cI cB cZ : ClassId) (a_p0 a_t a_p0_child a_p0_father a_p0_husband a_p0_wife a_t_first a_t_second a_t_sort : Nat) (s_p0_size s_t_count : Int32) (r_p0_child r_p0_father r_p0_husband r_p0_wife r_t_first r_t_second r_t_sort : jA)  {o : Int32} (hf : f_X3_firstBroken s_p0_size s_t_count r_p0_child r_p0_father r_p0_husband r_p0_wife r_t_first r_t_second r_t_sort = some o) : jMi l yX3_firstBroken gX3_firstBroken rX3_firstBroken G D (jT cI cB cZ) [.ref a_t, .ref a_p0] (w_X3_firstBroken cI cB cZ a_p0 a_t a_p0_child a_p0_father a_p0_husband a_p0_wife a_t_first a_t_second a_t_sort s_p0_size s_t_count r_p0_child r_p0_father r_p0_husband r_p0_wife r_t_first r_t_second r_t_sort) (w_X3_firstBroken cI cB cZ a_p0 a_t a_p0_child a_p0_father a_p0_husband a_p0_wife a_t_first a_t_second a_t_sort s_p0_size s_t_count r_p0_child r_p0_father r_p0_husband r_p0_wife r_t_first r_t_second r_t_sort) o := by
  refine jmk_i RX3 rfl (by decide +kernel) rfl (Nat.le_of_ble_eq_true rfl) rfl ?_
  intro p e s m args below meth c ls A Q C hP hD hS hl K
  exact t_X3_firstBroken G D cI cB cZ a_p0 a_t a_p0_child a_p0_father a_p0_husband a_p0_wife a_t_first a_t_second a_t_sort s_p0_size s_t_count r_p0_child r_p0_father r_p0_husband r_p0_wife r_t_first r_t_second r_t_sort  C hf K hP hD hS hl
abbrev rX0_judge : Room := { frames := 4, cells := 0, slots := 0, locals := 98 }
abbrev gX0_judge : List Cond := wG yX0_judge cX0_judge 3 none
def w_X0_judge (cI cB cZ : ClassId) (a_p0 a_t a_p0_first a_p0_second a_p0_sort a_t_children a_t_judgedBy a_t_lawful a_t_shares a_t_wheel a_t_wives a_t_judgedBy_first a_t_judgedBy_second a_t_judgedBy_sort a_t_wheel_child a_t_wheel_father a_t_wheel_husband a_t_wheel_wife : Nat) (u_t_orders : Value) (u_t_orderCount : Int32) (u_t_keepers : Value) (u_t_keeperCount s_p0_count s_t_judged s_t_kindCount s_t_lawfulCount s_t_lawfulSystems s_t_size : Int32) (r_p0_first r_p0_second r_p0_sort r_t_children : jA) (s_t_judgedBy_count : Int32) (r_t_lawful r_t_shares : jA) (s_t_wheel_size : Int32) (r_t_wives r_t_judgedBy_first r_t_judgedBy_second r_t_judgedBy_sort r_t_wheel_child r_t_wheel_father r_t_wheel_husband r_t_wheel_wife : jA) : va_W := [(a_p0, .inr (2, (oX3 (.ref a_p0_sort) (.ref a_p0_first) (.ref a_p0_second) s_p0_count))), (a_t, .inr (0, (oX0 s_t_size u_t_orders u_t_orderCount u_t_keepers u_t_keeperCount (.ref a_t_wives) (.ref a_t_children) (.ref a_t_shares) s_t_kindCount (.ref a_t_lawful) s_t_lawfulCount s_t_lawfulSystems (.ref a_t_judgedBy) s_t_judged (.ref a_t_wheel)))), (a_p0_first, .inl (cI, r_p0_first.1, .inl r_p0_first.2)), (a_p0_second, .inl (cI, r_p0_second.1, .inl r_p0_second.2)), (a_p0_sort, .inl (cI, r_p0_sort.1, .inl r_p0_sort.2)), (a_t_children, .inl (cI, r_t_children.1, .inl r_t_children.2)), (a_t_judgedBy, .inr (2, (oX3 (.ref a_t_judgedBy_sort) (.ref a_t_judgedBy_first) (.ref a_t_judgedBy_second) s_t_judgedBy_count))), (a_t_lawful, .inl (cI, r_t_lawful.1, .inl r_t_lawful.2)), (a_t_shares, .inl (cI, r_t_shares.1, .inl r_t_shares.2)), (a_t_wheel, .inr (9, (oX10 (.ref a_t_wheel_wife) (.ref a_t_wheel_child) (.ref a_t_wheel_husband) (.ref a_t_wheel_father) s_t_wheel_size))), (a_t_wives, .inl (cI, r_t_wives.1, .inl r_t_wives.2)), (a_t_judgedBy_first, .inl (cI, r_t_judgedBy_first.1, .inl r_t_judgedBy_first.2)), (a_t_judgedBy_second, .inl (cI, r_t_judgedBy_second.1, .inl r_t_judgedBy_second.2)), (a_t_judgedBy_sort, .inl (cI, r_t_judgedBy_sort.1, .inl r_t_judgedBy_sort.2)), (a_t_wheel_child, .inl (cI, r_t_wheel_child.1, .inl r_t_wheel_child.2)), (a_t_wheel_father, .inl (cI, r_t_wheel_father.1, .inl r_t_wheel_father.2)), (a_t_wheel_husband, .inl (cI, r_t_wheel_husband.1, .inl r_t_wheel_husband.2)), (a_t_wheel_wife, .inl (cI, r_t_wheel_wife.1, .inl r_t_wheel_wife.2))]
set_option maxRecDepth 100000 in
theorem ws_X0_judge_0 (cI cB cZ : ClassId) (a_p0 a_t a_p0_first a_p0_second a_p0_sort a_t_children a_t_judgedBy a_t_lawful a_t_shares a_t_wheel a_t_wives a_t_judgedBy_first a_t_judgedBy_second a_t_judgedBy_sort a_t_wheel_child a_t_wheel_father a_t_wheel_husband a_t_wheel_wife : Nat) (u_t_orders : Value) (u_t_orderCount : Int32) (u_t_keepers : Value) (u_t_keeperCount s_p0_count s_t_judged s_t_kindCount s_t_lawfulCount s_t_lawfulSystems s_t_size : Int32) (r_p0_first r_p0_second r_p0_sort r_t_children : jA) (s_t_judgedBy_count : Int32) (r_t_lawful r_t_shares : jA) (s_t_wheel_size : Int32) (r_t_wives r_t_judgedBy_first r_t_judgedBy_second r_t_judgedBy_sort r_t_wheel_child r_t_wheel_father r_t_wheel_husband r_t_wheel_wife : jA) (z0 : Int32) : (w_X0_judge cI cB cZ a_p0 a_t a_p0_first a_p0_second a_p0_sort a_t_children a_t_judgedBy a_t_lawful a_t_shares a_t_wheel a_t_wives a_t_judgedBy_first a_t_judgedBy_second a_t_judgedBy_sort a_t_wheel_child a_t_wheel_father a_t_wheel_husband a_t_wheel_wife u_t_orders u_t_orderCount u_t_keepers u_t_keeperCount s_p0_count s_t_judged s_t_kindCount s_t_lawfulCount s_t_lawfulSystems s_t_size r_p0_first r_p0_second r_p0_sort r_t_children s_t_judgedBy_count r_t_lawful r_t_shares s_t_wheel_size r_t_wives r_t_judgedBy_first r_t_judgedBy_second r_t_judgedBy_sort r_t_wheel_child r_t_wheel_father r_t_wheel_husband r_t_wheel_wife).set 0 (a_p0, .inr (2, (oX3 (.ref a_p0_sort) (.ref a_p0_first) (.ref a_p0_second) z0))) = w_X0_judge cI cB cZ a_p0 a_t a_p0_first a_p0_second a_p0_sort a_t_children a_t_judgedBy a_t_lawful a_t_shares a_t_wheel a_t_wives a_t_judgedBy_first a_t_judgedBy_second a_t_judgedBy_sort a_t_wheel_child a_t_wheel_father a_t_wheel_husband a_t_wheel_wife u_t_orders u_t_orderCount u_t_keepers u_t_keeperCount z0 s_t_judged s_t_kindCount s_t_lawfulCount s_t_lawfulSystems s_t_size r_p0_first r_p0_second r_p0_sort r_t_children s_t_judgedBy_count r_t_lawful r_t_shares s_t_wheel_size r_t_wives r_t_judgedBy_first r_t_judgedBy_second r_t_judgedBy_sort r_t_wheel_child r_t_wheel_father r_t_wheel_husband r_t_wheel_wife := rfl
set_option maxRecDepth 100000 in
theorem ws_X0_judge_1 (cI cB cZ : ClassId) (a_p0 a_t a_p0_first a_p0_second a_p0_sort a_t_children a_t_judgedBy a_t_lawful a_t_shares a_t_wheel a_t_wives a_t_judgedBy_first a_t_judgedBy_second a_t_judgedBy_sort a_t_wheel_child a_t_wheel_father a_t_wheel_husband a_t_wheel_wife : Nat) (u_t_orders : Value) (u_t_orderCount : Int32) (u_t_keepers : Value) (u_t_keeperCount s_p0_count s_t_judged s_t_kindCount s_t_lawfulCount s_t_lawfulSystems s_t_size : Int32) (r_p0_first r_p0_second r_p0_sort r_t_children : jA) (s_t_judgedBy_count : Int32) (r_t_lawful r_t_shares : jA) (s_t_wheel_size : Int32) (r_t_wives r_t_judgedBy_first r_t_judgedBy_second r_t_judgedBy_sort r_t_wheel_child r_t_wheel_father r_t_wheel_husband r_t_wheel_wife : jA) (z0 z1 z2 z3 z4 : Int32) : (w_X0_judge cI cB cZ a_p0 a_t a_p0_first a_p0_second a_p0_sort a_t_children a_t_judgedBy a_t_lawful a_t_shares a_t_wheel a_t_wives a_t_judgedBy_first a_t_judgedBy_second a_t_judgedBy_sort a_t_wheel_child a_t_wheel_father a_t_wheel_husband a_t_wheel_wife u_t_orders u_t_orderCount u_t_keepers u_t_keeperCount s_p0_count s_t_judged s_t_kindCount s_t_lawfulCount s_t_lawfulSystems s_t_size r_p0_first r_p0_second r_p0_sort r_t_children s_t_judgedBy_count r_t_lawful r_t_shares s_t_wheel_size r_t_wives r_t_judgedBy_first r_t_judgedBy_second r_t_judgedBy_sort r_t_wheel_child r_t_wheel_father r_t_wheel_husband r_t_wheel_wife).set 1 (a_t, .inr (0, (oX0 z0 u_t_orders u_t_orderCount u_t_keepers u_t_keeperCount (.ref a_t_wives) (.ref a_t_children) (.ref a_t_shares) z1 (.ref a_t_lawful) z2 z3 (.ref a_t_judgedBy) z4 (.ref a_t_wheel)))) = w_X0_judge cI cB cZ a_p0 a_t a_p0_first a_p0_second a_p0_sort a_t_children a_t_judgedBy a_t_lawful a_t_shares a_t_wheel a_t_wives a_t_judgedBy_first a_t_judgedBy_second a_t_judgedBy_sort a_t_wheel_child a_t_wheel_father a_t_wheel_husband a_t_wheel_wife u_t_orders u_t_orderCount u_t_keepers u_t_keeperCount s_p0_count z4 z1 z2 z3 z0 r_p0_first r_p0_second r_p0_sort r_t_children s_t_judgedBy_count r_t_lawful r_t_shares s_t_wheel_size r_t_wives r_t_judgedBy_first r_t_judgedBy_second r_t_judgedBy_sort r_t_wheel_child r_t_wheel_father r_t_wheel_husband r_t_wheel_wife := rfl
set_option maxRecDepth 100000 in
theorem ws_X0_judge_2 (cI cB cZ : ClassId) (a_p0 a_t a_p0_first a_p0_second a_p0_sort a_t_children a_t_judgedBy a_t_lawful a_t_shares a_t_wheel a_t_wives a_t_judgedBy_first a_t_judgedBy_second a_t_judgedBy_sort a_t_wheel_child a_t_wheel_father a_t_wheel_husband a_t_wheel_wife : Nat) (u_t_orders : Value) (u_t_orderCount : Int32) (u_t_keepers : Value) (u_t_keeperCount s_p0_count s_t_judged s_t_kindCount s_t_lawfulCount s_t_lawfulSystems s_t_size : Int32) (r_p0_first r_p0_second r_p0_sort r_t_children : jA) (s_t_judgedBy_count : Int32) (r_t_lawful r_t_shares : jA) (s_t_wheel_size : Int32) (r_t_wives r_t_judgedBy_first r_t_judgedBy_second r_t_judgedBy_sort r_t_wheel_child r_t_wheel_father r_t_wheel_husband r_t_wheel_wife : jA) (z0 : jA) : (w_X0_judge cI cB cZ a_p0 a_t a_p0_first a_p0_second a_p0_sort a_t_children a_t_judgedBy a_t_lawful a_t_shares a_t_wheel a_t_wives a_t_judgedBy_first a_t_judgedBy_second a_t_judgedBy_sort a_t_wheel_child a_t_wheel_father a_t_wheel_husband a_t_wheel_wife u_t_orders u_t_orderCount u_t_keepers u_t_keeperCount s_p0_count s_t_judged s_t_kindCount s_t_lawfulCount s_t_lawfulSystems s_t_size r_p0_first r_p0_second r_p0_sort r_t_children s_t_judgedBy_count r_t_lawful r_t_shares s_t_wheel_size r_t_wives r_t_judgedBy_first r_t_judgedBy_second r_t_judgedBy_sort r_t_wheel_child r_t_wheel_father r_t_wheel_husband r_t_wheel_wife).set 2 (a_p0_first, .inl (cI, z0.1, .inl z0.2)) = w_X0_judge cI cB cZ a_p0 a_t a_p0_first a_p0_second a_p0_sort a_t_children a_t_judgedBy a_t_lawful a_t_shares a_t_wheel a_t_wives a_t_judgedBy_first a_t_judgedBy_second a_t_judgedBy_sort a_t_wheel_child a_t_wheel_father a_t_wheel_husband a_t_wheel_wife u_t_orders u_t_orderCount u_t_keepers u_t_keeperCount s_p0_count s_t_judged s_t_kindCount s_t_lawfulCount s_t_lawfulSystems s_t_size z0 r_p0_second r_p0_sort r_t_children s_t_judgedBy_count r_t_lawful r_t_shares s_t_wheel_size r_t_wives r_t_judgedBy_first r_t_judgedBy_second r_t_judgedBy_sort r_t_wheel_child r_t_wheel_father r_t_wheel_husband r_t_wheel_wife := rfl
set_option maxRecDepth 100000 in
theorem ws_X0_judge_3 (cI cB cZ : ClassId) (a_p0 a_t a_p0_first a_p0_second a_p0_sort a_t_children a_t_judgedBy a_t_lawful a_t_shares a_t_wheel a_t_wives a_t_judgedBy_first a_t_judgedBy_second a_t_judgedBy_sort a_t_wheel_child a_t_wheel_father a_t_wheel_husband a_t_wheel_wife : Nat) (u_t_orders : Value) (u_t_orderCount : Int32) (u_t_keepers : Value) (u_t_keeperCount s_p0_count s_t_judged s_t_kindCount s_t_lawfulCount s_t_lawfulSystems s_t_size : Int32) (r_p0_first r_p0_second r_p0_sort r_t_children : jA) (s_t_judgedBy_count : Int32) (r_t_lawful r_t_shares : jA) (s_t_wheel_size : Int32) (r_t_wives r_t_judgedBy_first r_t_judgedBy_second r_t_judgedBy_sort r_t_wheel_child r_t_wheel_father r_t_wheel_husband r_t_wheel_wife : jA) (z0 : jA) : (w_X0_judge cI cB cZ a_p0 a_t a_p0_first a_p0_second a_p0_sort a_t_children a_t_judgedBy a_t_lawful a_t_shares a_t_wheel a_t_wives a_t_judgedBy_first a_t_judgedBy_second a_t_judgedBy_sort a_t_wheel_child a_t_wheel_father a_t_wheel_husband a_t_wheel_wife u_t_orders u_t_orderCount u_t_keepers u_t_keeperCount s_p0_count s_t_judged s_t_kindCount s_t_lawfulCount s_t_lawfulSystems s_t_size r_p0_first r_p0_second r_p0_sort r_t_children s_t_judgedBy_count r_t_lawful r_t_shares s_t_wheel_size r_t_wives r_t_judgedBy_first r_t_judgedBy_second r_t_judgedBy_sort r_t_wheel_child r_t_wheel_father r_t_wheel_husband r_t_wheel_wife).set 3 (a_p0_second, .inl (cI, z0.1, .inl z0.2)) = w_X0_judge cI cB cZ a_p0 a_t a_p0_first a_p0_second a_p0_sort a_t_children a_t_judgedBy a_t_lawful a_t_shares a_t_wheel a_t_wives a_t_judgedBy_first a_t_judgedBy_second a_t_judgedBy_sort a_t_wheel_child a_t_wheel_father a_t_wheel_husband a_t_wheel_wife u_t_orders u_t_orderCount u_t_keepers u_t_keeperCount s_p0_count s_t_judged s_t_kindCount s_t_lawfulCount s_t_lawfulSystems s_t_size r_p0_first z0 r_p0_sort r_t_children s_t_judgedBy_count r_t_lawful r_t_shares s_t_wheel_size r_t_wives r_t_judgedBy_first r_t_judgedBy_second r_t_judgedBy_sort r_t_wheel_child r_t_wheel_father r_t_wheel_husband r_t_wheel_wife := rfl
set_option maxRecDepth 100000 in
theorem ws_X0_judge_4 (cI cB cZ : ClassId) (a_p0 a_t a_p0_first a_p0_second a_p0_sort a_t_children a_t_judgedBy a_t_lawful a_t_shares a_t_wheel a_t_wives a_t_judgedBy_first a_t_judgedBy_second a_t_judgedBy_sort a_t_wheel_child a_t_wheel_father a_t_wheel_husband a_t_wheel_wife : Nat) (u_t_orders : Value) (u_t_orderCount : Int32) (u_t_keepers : Value) (u_t_keeperCount s_p0_count s_t_judged s_t_kindCount s_t_lawfulCount s_t_lawfulSystems s_t_size : Int32) (r_p0_first r_p0_second r_p0_sort r_t_children : jA) (s_t_judgedBy_count : Int32) (r_t_lawful r_t_shares : jA) (s_t_wheel_size : Int32) (r_t_wives r_t_judgedBy_first r_t_judgedBy_second r_t_judgedBy_sort r_t_wheel_child r_t_wheel_father r_t_wheel_husband r_t_wheel_wife : jA) (z0 : jA) : (w_X0_judge cI cB cZ a_p0 a_t a_p0_first a_p0_second a_p0_sort a_t_children a_t_judgedBy a_t_lawful a_t_shares a_t_wheel a_t_wives a_t_judgedBy_first a_t_judgedBy_second a_t_judgedBy_sort a_t_wheel_child a_t_wheel_father a_t_wheel_husband a_t_wheel_wife u_t_orders u_t_orderCount u_t_keepers u_t_keeperCount s_p0_count s_t_judged s_t_kindCount s_t_lawfulCount s_t_lawfulSystems s_t_size r_p0_first r_p0_second r_p0_sort r_t_children s_t_judgedBy_count r_t_lawful r_t_shares s_t_wheel_size r_t_wives r_t_judgedBy_first r_t_judgedBy_second r_t_judgedBy_sort r_t_wheel_child r_t_wheel_father r_t_wheel_husband r_t_wheel_wife).set 4 (a_p0_sort, .inl (cI, z0.1, .inl z0.2)) = w_X0_judge cI cB cZ a_p0 a_t a_p0_first a_p0_second a_p0_sort a_t_children a_t_judgedBy a_t_lawful a_t_shares a_t_wheel a_t_wives a_t_judgedBy_first a_t_judgedBy_second a_t_judgedBy_sort a_t_wheel_child a_t_wheel_father a_t_wheel_husband a_t_wheel_wife u_t_orders u_t_orderCount u_t_keepers u_t_keeperCount s_p0_count s_t_judged s_t_kindCount s_t_lawfulCount s_t_lawfulSystems s_t_size r_p0_first r_p0_second z0 r_t_children s_t_judgedBy_count r_t_lawful r_t_shares s_t_wheel_size r_t_wives r_t_judgedBy_first r_t_judgedBy_second r_t_judgedBy_sort r_t_wheel_child r_t_wheel_father r_t_wheel_husband r_t_wheel_wife := rfl
set_option maxRecDepth 100000 in
theorem ws_X0_judge_5 (cI cB cZ : ClassId) (a_p0 a_t a_p0_first a_p0_second a_p0_sort a_t_children a_t_judgedBy a_t_lawful a_t_shares a_t_wheel a_t_wives a_t_judgedBy_first a_t_judgedBy_second a_t_judgedBy_sort a_t_wheel_child a_t_wheel_father a_t_wheel_husband a_t_wheel_wife : Nat) (u_t_orders : Value) (u_t_orderCount : Int32) (u_t_keepers : Value) (u_t_keeperCount s_p0_count s_t_judged s_t_kindCount s_t_lawfulCount s_t_lawfulSystems s_t_size : Int32) (r_p0_first r_p0_second r_p0_sort r_t_children : jA) (s_t_judgedBy_count : Int32) (r_t_lawful r_t_shares : jA) (s_t_wheel_size : Int32) (r_t_wives r_t_judgedBy_first r_t_judgedBy_second r_t_judgedBy_sort r_t_wheel_child r_t_wheel_father r_t_wheel_husband r_t_wheel_wife : jA) (z0 : jA) : (w_X0_judge cI cB cZ a_p0 a_t a_p0_first a_p0_second a_p0_sort a_t_children a_t_judgedBy a_t_lawful a_t_shares a_t_wheel a_t_wives a_t_judgedBy_first a_t_judgedBy_second a_t_judgedBy_sort a_t_wheel_child a_t_wheel_father a_t_wheel_husband a_t_wheel_wife u_t_orders u_t_orderCount u_t_keepers u_t_keeperCount s_p0_count s_t_judged s_t_kindCount s_t_lawfulCount s_t_lawfulSystems s_t_size r_p0_first r_p0_second r_p0_sort r_t_children s_t_judgedBy_count r_t_lawful r_t_shares s_t_wheel_size r_t_wives r_t_judgedBy_first r_t_judgedBy_second r_t_judgedBy_sort r_t_wheel_child r_t_wheel_father r_t_wheel_husband r_t_wheel_wife).set 5 (a_t_children, .inl (cI, z0.1, .inl z0.2)) = w_X0_judge cI cB cZ a_p0 a_t a_p0_first a_p0_second a_p0_sort a_t_children a_t_judgedBy a_t_lawful a_t_shares a_t_wheel a_t_wives a_t_judgedBy_first a_t_judgedBy_second a_t_judgedBy_sort a_t_wheel_child a_t_wheel_father a_t_wheel_husband a_t_wheel_wife u_t_orders u_t_orderCount u_t_keepers u_t_keeperCount s_p0_count s_t_judged s_t_kindCount s_t_lawfulCount s_t_lawfulSystems s_t_size r_p0_first r_p0_second r_p0_sort z0 s_t_judgedBy_count r_t_lawful r_t_shares s_t_wheel_size r_t_wives r_t_judgedBy_first r_t_judgedBy_second r_t_judgedBy_sort r_t_wheel_child r_t_wheel_father r_t_wheel_husband r_t_wheel_wife := rfl
set_option maxRecDepth 100000 in
theorem ws_X0_judge_6 (cI cB cZ : ClassId) (a_p0 a_t a_p0_first a_p0_second a_p0_sort a_t_children a_t_judgedBy a_t_lawful a_t_shares a_t_wheel a_t_wives a_t_judgedBy_first a_t_judgedBy_second a_t_judgedBy_sort a_t_wheel_child a_t_wheel_father a_t_wheel_husband a_t_wheel_wife : Nat) (u_t_orders : Value) (u_t_orderCount : Int32) (u_t_keepers : Value) (u_t_keeperCount s_p0_count s_t_judged s_t_kindCount s_t_lawfulCount s_t_lawfulSystems s_t_size : Int32) (r_p0_first r_p0_second r_p0_sort r_t_children : jA) (s_t_judgedBy_count : Int32) (r_t_lawful r_t_shares : jA) (s_t_wheel_size : Int32) (r_t_wives r_t_judgedBy_first r_t_judgedBy_second r_t_judgedBy_sort r_t_wheel_child r_t_wheel_father r_t_wheel_husband r_t_wheel_wife : jA) (z0 : Int32) : (w_X0_judge cI cB cZ a_p0 a_t a_p0_first a_p0_second a_p0_sort a_t_children a_t_judgedBy a_t_lawful a_t_shares a_t_wheel a_t_wives a_t_judgedBy_first a_t_judgedBy_second a_t_judgedBy_sort a_t_wheel_child a_t_wheel_father a_t_wheel_husband a_t_wheel_wife u_t_orders u_t_orderCount u_t_keepers u_t_keeperCount s_p0_count s_t_judged s_t_kindCount s_t_lawfulCount s_t_lawfulSystems s_t_size r_p0_first r_p0_second r_p0_sort r_t_children s_t_judgedBy_count r_t_lawful r_t_shares s_t_wheel_size r_t_wives r_t_judgedBy_first r_t_judgedBy_second r_t_judgedBy_sort r_t_wheel_child r_t_wheel_father r_t_wheel_husband r_t_wheel_wife).set 6 (a_t_judgedBy, .inr (2, (oX3 (.ref a_t_judgedBy_sort) (.ref a_t_judgedBy_first) (.ref a_t_judgedBy_second) z0))) = w_X0_judge cI cB cZ a_p0 a_t a_p0_first a_p0_second a_p0_sort a_t_children a_t_judgedBy a_t_lawful a_t_shares a_t_wheel a_t_wives a_t_judgedBy_first a_t_judgedBy_second a_t_judgedBy_sort a_t_wheel_child a_t_wheel_father a_t_wheel_husband a_t_wheel_wife u_t_orders u_t_orderCount u_t_keepers u_t_keeperCount s_p0_count s_t_judged s_t_kindCount s_t_lawfulCount s_t_lawfulSystems s_t_size r_p0_first r_p0_second r_p0_sort r_t_children z0 r_t_lawful r_t_shares s_t_wheel_size r_t_wives r_t_judgedBy_first r_t_judgedBy_second r_t_judgedBy_sort r_t_wheel_child r_t_wheel_father r_t_wheel_husband r_t_wheel_wife := rfl
set_option maxRecDepth 100000 in
theorem ws_X0_judge_7 (cI cB cZ : ClassId) (a_p0 a_t a_p0_first a_p0_second a_p0_sort a_t_children a_t_judgedBy a_t_lawful a_t_shares a_t_wheel a_t_wives a_t_judgedBy_first a_t_judgedBy_second a_t_judgedBy_sort a_t_wheel_child a_t_wheel_father a_t_wheel_husband a_t_wheel_wife : Nat) (u_t_orders : Value) (u_t_orderCount : Int32) (u_t_keepers : Value) (u_t_keeperCount s_p0_count s_t_judged s_t_kindCount s_t_lawfulCount s_t_lawfulSystems s_t_size : Int32) (r_p0_first r_p0_second r_p0_sort r_t_children : jA) (s_t_judgedBy_count : Int32) (r_t_lawful r_t_shares : jA) (s_t_wheel_size : Int32) (r_t_wives r_t_judgedBy_first r_t_judgedBy_second r_t_judgedBy_sort r_t_wheel_child r_t_wheel_father r_t_wheel_husband r_t_wheel_wife : jA) (z0 : jA) : (w_X0_judge cI cB cZ a_p0 a_t a_p0_first a_p0_second a_p0_sort a_t_children a_t_judgedBy a_t_lawful a_t_shares a_t_wheel a_t_wives a_t_judgedBy_first a_t_judgedBy_second a_t_judgedBy_sort a_t_wheel_child a_t_wheel_father a_t_wheel_husband a_t_wheel_wife u_t_orders u_t_orderCount u_t_keepers u_t_keeperCount s_p0_count s_t_judged s_t_kindCount s_t_lawfulCount s_t_lawfulSystems s_t_size r_p0_first r_p0_second r_p0_sort r_t_children s_t_judgedBy_count r_t_lawful r_t_shares s_t_wheel_size r_t_wives r_t_judgedBy_first r_t_judgedBy_second r_t_judgedBy_sort r_t_wheel_child r_t_wheel_father r_t_wheel_husband r_t_wheel_wife).set 7 (a_t_lawful, .inl (cI, z0.1, .inl z0.2)) = w_X0_judge cI cB cZ a_p0 a_t a_p0_first a_p0_second a_p0_sort a_t_children a_t_judgedBy a_t_lawful a_t_shares a_t_wheel a_t_wives a_t_judgedBy_first a_t_judgedBy_second a_t_judgedBy_sort a_t_wheel_child a_t_wheel_father a_t_wheel_husband a_t_wheel_wife u_t_orders u_t_orderCount u_t_keepers u_t_keeperCount s_p0_count s_t_judged s_t_kindCount s_t_lawfulCount s_t_lawfulSystems s_t_size r_p0_first r_p0_second r_p0_sort r_t_children s_t_judgedBy_count z0 r_t_shares s_t_wheel_size r_t_wives r_t_judgedBy_first r_t_judgedBy_second r_t_judgedBy_sort r_t_wheel_child r_t_wheel_father r_t_wheel_husband r_t_wheel_wife := rfl
set_option maxRecDepth 100000 in
theorem ws_X0_judge_8 (cI cB cZ : ClassId) (a_p0 a_t a_p0_first a_p0_second a_p0_sort a_t_children a_t_judgedBy a_t_lawful a_t_shares a_t_wheel a_t_wives a_t_judgedBy_first a_t_judgedBy_second a_t_judgedBy_sort a_t_wheel_child a_t_wheel_father a_t_wheel_husband a_t_wheel_wife : Nat) (u_t_orders : Value) (u_t_orderCount : Int32) (u_t_keepers : Value) (u_t_keeperCount s_p0_count s_t_judged s_t_kindCount s_t_lawfulCount s_t_lawfulSystems s_t_size : Int32) (r_p0_first r_p0_second r_p0_sort r_t_children : jA) (s_t_judgedBy_count : Int32) (r_t_lawful r_t_shares : jA) (s_t_wheel_size : Int32) (r_t_wives r_t_judgedBy_first r_t_judgedBy_second r_t_judgedBy_sort r_t_wheel_child r_t_wheel_father r_t_wheel_husband r_t_wheel_wife : jA) (z0 : jA) : (w_X0_judge cI cB cZ a_p0 a_t a_p0_first a_p0_second a_p0_sort a_t_children a_t_judgedBy a_t_lawful a_t_shares a_t_wheel a_t_wives a_t_judgedBy_first a_t_judgedBy_second a_t_judgedBy_sort a_t_wheel_child a_t_wheel_father a_t_wheel_husband a_t_wheel_wife u_t_orders u_t_orderCount u_t_keepers u_t_keeperCount s_p0_count s_t_judged s_t_kindCount s_t_lawfulCount s_t_lawfulSystems s_t_size r_p0_first r_p0_second r_p0_sort r_t_children s_t_judgedBy_count r_t_lawful r_t_shares s_t_wheel_size r_t_wives r_t_judgedBy_first r_t_judgedBy_second r_t_judgedBy_sort r_t_wheel_child r_t_wheel_father r_t_wheel_husband r_t_wheel_wife).set 8 (a_t_shares, .inl (cI, z0.1, .inl z0.2)) = w_X0_judge cI cB cZ a_p0 a_t a_p0_first a_p0_second a_p0_sort a_t_children a_t_judgedBy a_t_lawful a_t_shares a_t_wheel a_t_wives a_t_judgedBy_first a_t_judgedBy_second a_t_judgedBy_sort a_t_wheel_child a_t_wheel_father a_t_wheel_husband a_t_wheel_wife u_t_orders u_t_orderCount u_t_keepers u_t_keeperCount s_p0_count s_t_judged s_t_kindCount s_t_lawfulCount s_t_lawfulSystems s_t_size r_p0_first r_p0_second r_p0_sort r_t_children s_t_judgedBy_count r_t_lawful z0 s_t_wheel_size r_t_wives r_t_judgedBy_first r_t_judgedBy_second r_t_judgedBy_sort r_t_wheel_child r_t_wheel_father r_t_wheel_husband r_t_wheel_wife := rfl
set_option maxRecDepth 100000 in
theorem ws_X0_judge_9 (cI cB cZ : ClassId) (a_p0 a_t a_p0_first a_p0_second a_p0_sort a_t_children a_t_judgedBy a_t_lawful a_t_shares a_t_wheel a_t_wives a_t_judgedBy_first a_t_judgedBy_second a_t_judgedBy_sort a_t_wheel_child a_t_wheel_father a_t_wheel_husband a_t_wheel_wife : Nat) (u_t_orders : Value) (u_t_orderCount : Int32) (u_t_keepers : Value) (u_t_keeperCount s_p0_count s_t_judged s_t_kindCount s_t_lawfulCount s_t_lawfulSystems s_t_size : Int32) (r_p0_first r_p0_second r_p0_sort r_t_children : jA) (s_t_judgedBy_count : Int32) (r_t_lawful r_t_shares : jA) (s_t_wheel_size : Int32) (r_t_wives r_t_judgedBy_first r_t_judgedBy_second r_t_judgedBy_sort r_t_wheel_child r_t_wheel_father r_t_wheel_husband r_t_wheel_wife : jA) (z0 : Int32) : (w_X0_judge cI cB cZ a_p0 a_t a_p0_first a_p0_second a_p0_sort a_t_children a_t_judgedBy a_t_lawful a_t_shares a_t_wheel a_t_wives a_t_judgedBy_first a_t_judgedBy_second a_t_judgedBy_sort a_t_wheel_child a_t_wheel_father a_t_wheel_husband a_t_wheel_wife u_t_orders u_t_orderCount u_t_keepers u_t_keeperCount s_p0_count s_t_judged s_t_kindCount s_t_lawfulCount s_t_lawfulSystems s_t_size r_p0_first r_p0_second r_p0_sort r_t_children s_t_judgedBy_count r_t_lawful r_t_shares s_t_wheel_size r_t_wives r_t_judgedBy_first r_t_judgedBy_second r_t_judgedBy_sort r_t_wheel_child r_t_wheel_father r_t_wheel_husband r_t_wheel_wife).set 9 (a_t_wheel, .inr (9, (oX10 (.ref a_t_wheel_wife) (.ref a_t_wheel_child) (.ref a_t_wheel_husband) (.ref a_t_wheel_father) z0))) = w_X0_judge cI cB cZ a_p0 a_t a_p0_first a_p0_second a_p0_sort a_t_children a_t_judgedBy a_t_lawful a_t_shares a_t_wheel a_t_wives a_t_judgedBy_first a_t_judgedBy_second a_t_judgedBy_sort a_t_wheel_child a_t_wheel_father a_t_wheel_husband a_t_wheel_wife u_t_orders u_t_orderCount u_t_keepers u_t_keeperCount s_p0_count s_t_judged s_t_kindCount s_t_lawfulCount s_t_lawfulSystems s_t_size r_p0_first r_p0_second r_p0_sort r_t_children s_t_judgedBy_count r_t_lawful r_t_shares z0 r_t_wives r_t_judgedBy_first r_t_judgedBy_second r_t_judgedBy_sort r_t_wheel_child r_t_wheel_father r_t_wheel_husband r_t_wheel_wife := rfl
set_option maxRecDepth 100000 in
theorem ws_X0_judge_10 (cI cB cZ : ClassId) (a_p0 a_t a_p0_first a_p0_second a_p0_sort a_t_children a_t_judgedBy a_t_lawful a_t_shares a_t_wheel a_t_wives a_t_judgedBy_first a_t_judgedBy_second a_t_judgedBy_sort a_t_wheel_child a_t_wheel_father a_t_wheel_husband a_t_wheel_wife : Nat) (u_t_orders : Value) (u_t_orderCount : Int32) (u_t_keepers : Value) (u_t_keeperCount s_p0_count s_t_judged s_t_kindCount s_t_lawfulCount s_t_lawfulSystems s_t_size : Int32) (r_p0_first r_p0_second r_p0_sort r_t_children : jA) (s_t_judgedBy_count : Int32) (r_t_lawful r_t_shares : jA) (s_t_wheel_size : Int32) (r_t_wives r_t_judgedBy_first r_t_judgedBy_second r_t_judgedBy_sort r_t_wheel_child r_t_wheel_father r_t_wheel_husband r_t_wheel_wife : jA) (z0 : jA) : (w_X0_judge cI cB cZ a_p0 a_t a_p0_first a_p0_second a_p0_sort a_t_children a_t_judgedBy a_t_lawful a_t_shares a_t_wheel a_t_wives a_t_judgedBy_first a_t_judgedBy_second a_t_judgedBy_sort a_t_wheel_child a_t_wheel_father a_t_wheel_husband a_t_wheel_wife u_t_orders u_t_orderCount u_t_keepers u_t_keeperCount s_p0_count s_t_judged s_t_kindCount s_t_lawfulCount s_t_lawfulSystems s_t_size r_p0_first r_p0_second r_p0_sort r_t_children s_t_judgedBy_count r_t_lawful r_t_shares s_t_wheel_size r_t_wives r_t_judgedBy_first r_t_judgedBy_second r_t_judgedBy_sort r_t_wheel_child r_t_wheel_father r_t_wheel_husband r_t_wheel_wife).set 10 (a_t_wives, .inl (cI, z0.1, .inl z0.2)) = w_X0_judge cI cB cZ a_p0 a_t a_p0_first a_p0_second a_p0_sort a_t_children a_t_judgedBy a_t_lawful a_t_shares a_t_wheel a_t_wives a_t_judgedBy_first a_t_judgedBy_second a_t_judgedBy_sort a_t_wheel_child a_t_wheel_father a_t_wheel_husband a_t_wheel_wife u_t_orders u_t_orderCount u_t_keepers u_t_keeperCount s_p0_count s_t_judged s_t_kindCount s_t_lawfulCount s_t_lawfulSystems s_t_size r_p0_first r_p0_second r_p0_sort r_t_children s_t_judgedBy_count r_t_lawful r_t_shares s_t_wheel_size z0 r_t_judgedBy_first r_t_judgedBy_second r_t_judgedBy_sort r_t_wheel_child r_t_wheel_father r_t_wheel_husband r_t_wheel_wife := rfl
set_option maxRecDepth 100000 in
theorem ws_X0_judge_11 (cI cB cZ : ClassId) (a_p0 a_t a_p0_first a_p0_second a_p0_sort a_t_children a_t_judgedBy a_t_lawful a_t_shares a_t_wheel a_t_wives a_t_judgedBy_first a_t_judgedBy_second a_t_judgedBy_sort a_t_wheel_child a_t_wheel_father a_t_wheel_husband a_t_wheel_wife : Nat) (u_t_orders : Value) (u_t_orderCount : Int32) (u_t_keepers : Value) (u_t_keeperCount s_p0_count s_t_judged s_t_kindCount s_t_lawfulCount s_t_lawfulSystems s_t_size : Int32) (r_p0_first r_p0_second r_p0_sort r_t_children : jA) (s_t_judgedBy_count : Int32) (r_t_lawful r_t_shares : jA) (s_t_wheel_size : Int32) (r_t_wives r_t_judgedBy_first r_t_judgedBy_second r_t_judgedBy_sort r_t_wheel_child r_t_wheel_father r_t_wheel_husband r_t_wheel_wife : jA) (z0 : jA) : (w_X0_judge cI cB cZ a_p0 a_t a_p0_first a_p0_second a_p0_sort a_t_children a_t_judgedBy a_t_lawful a_t_shares a_t_wheel a_t_wives a_t_judgedBy_first a_t_judgedBy_second a_t_judgedBy_sort a_t_wheel_child a_t_wheel_father a_t_wheel_husband a_t_wheel_wife u_t_orders u_t_orderCount u_t_keepers u_t_keeperCount s_p0_count s_t_judged s_t_kindCount s_t_lawfulCount s_t_lawfulSystems s_t_size r_p0_first r_p0_second r_p0_sort r_t_children s_t_judgedBy_count r_t_lawful r_t_shares s_t_wheel_size r_t_wives r_t_judgedBy_first r_t_judgedBy_second r_t_judgedBy_sort r_t_wheel_child r_t_wheel_father r_t_wheel_husband r_t_wheel_wife).set 11 (a_t_judgedBy_first, .inl (cI, z0.1, .inl z0.2)) = w_X0_judge cI cB cZ a_p0 a_t a_p0_first a_p0_second a_p0_sort a_t_children a_t_judgedBy a_t_lawful a_t_shares a_t_wheel a_t_wives a_t_judgedBy_first a_t_judgedBy_second a_t_judgedBy_sort a_t_wheel_child a_t_wheel_father a_t_wheel_husband a_t_wheel_wife u_t_orders u_t_orderCount u_t_keepers u_t_keeperCount s_p0_count s_t_judged s_t_kindCount s_t_lawfulCount s_t_lawfulSystems s_t_size r_p0_first r_p0_second r_p0_sort r_t_children s_t_judgedBy_count r_t_lawful r_t_shares s_t_wheel_size r_t_wives z0 r_t_judgedBy_second r_t_judgedBy_sort r_t_wheel_child r_t_wheel_father r_t_wheel_husband r_t_wheel_wife := rfl
set_option maxRecDepth 100000 in
theorem ws_X0_judge_12 (cI cB cZ : ClassId) (a_p0 a_t a_p0_first a_p0_second a_p0_sort a_t_children a_t_judgedBy a_t_lawful a_t_shares a_t_wheel a_t_wives a_t_judgedBy_first a_t_judgedBy_second a_t_judgedBy_sort a_t_wheel_child a_t_wheel_father a_t_wheel_husband a_t_wheel_wife : Nat) (u_t_orders : Value) (u_t_orderCount : Int32) (u_t_keepers : Value) (u_t_keeperCount s_p0_count s_t_judged s_t_kindCount s_t_lawfulCount s_t_lawfulSystems s_t_size : Int32) (r_p0_first r_p0_second r_p0_sort r_t_children : jA) (s_t_judgedBy_count : Int32) (r_t_lawful r_t_shares : jA) (s_t_wheel_size : Int32) (r_t_wives r_t_judgedBy_first r_t_judgedBy_second r_t_judgedBy_sort r_t_wheel_child r_t_wheel_father r_t_wheel_husband r_t_wheel_wife : jA) (z0 : jA) : (w_X0_judge cI cB cZ a_p0 a_t a_p0_first a_p0_second a_p0_sort a_t_children a_t_judgedBy a_t_lawful a_t_shares a_t_wheel a_t_wives a_t_judgedBy_first a_t_judgedBy_second a_t_judgedBy_sort a_t_wheel_child a_t_wheel_father a_t_wheel_husband a_t_wheel_wife u_t_orders u_t_orderCount u_t_keepers u_t_keeperCount s_p0_count s_t_judged s_t_kindCount s_t_lawfulCount s_t_lawfulSystems s_t_size r_p0_first r_p0_second r_p0_sort r_t_children s_t_judgedBy_count r_t_lawful r_t_shares s_t_wheel_size r_t_wives r_t_judgedBy_first r_t_judgedBy_second r_t_judgedBy_sort r_t_wheel_child r_t_wheel_father r_t_wheel_husband r_t_wheel_wife).set 12 (a_t_judgedBy_second, .inl (cI, z0.1, .inl z0.2)) = w_X0_judge cI cB cZ a_p0 a_t a_p0_first a_p0_second a_p0_sort a_t_children a_t_judgedBy a_t_lawful a_t_shares a_t_wheel a_t_wives a_t_judgedBy_first a_t_judgedBy_second a_t_judgedBy_sort a_t_wheel_child a_t_wheel_father a_t_wheel_husband a_t_wheel_wife u_t_orders u_t_orderCount u_t_keepers u_t_keeperCount s_p0_count s_t_judged s_t_kindCount s_t_lawfulCount s_t_lawfulSystems s_t_size r_p0_first r_p0_second r_p0_sort r_t_children s_t_judgedBy_count r_t_lawful r_t_shares s_t_wheel_size r_t_wives r_t_judgedBy_first z0 r_t_judgedBy_sort r_t_wheel_child r_t_wheel_father r_t_wheel_husband r_t_wheel_wife := rfl
set_option maxRecDepth 100000 in
theorem ws_X0_judge_13 (cI cB cZ : ClassId) (a_p0 a_t a_p0_first a_p0_second a_p0_sort a_t_children a_t_judgedBy a_t_lawful a_t_shares a_t_wheel a_t_wives a_t_judgedBy_first a_t_judgedBy_second a_t_judgedBy_sort a_t_wheel_child a_t_wheel_father a_t_wheel_husband a_t_wheel_wife : Nat) (u_t_orders : Value) (u_t_orderCount : Int32) (u_t_keepers : Value) (u_t_keeperCount s_p0_count s_t_judged s_t_kindCount s_t_lawfulCount s_t_lawfulSystems s_t_size : Int32) (r_p0_first r_p0_second r_p0_sort r_t_children : jA) (s_t_judgedBy_count : Int32) (r_t_lawful r_t_shares : jA) (s_t_wheel_size : Int32) (r_t_wives r_t_judgedBy_first r_t_judgedBy_second r_t_judgedBy_sort r_t_wheel_child r_t_wheel_father r_t_wheel_husband r_t_wheel_wife : jA) (z0 : jA) : (w_X0_judge cI cB cZ a_p0 a_t a_p0_first a_p0_second a_p0_sort a_t_children a_t_judgedBy a_t_lawful a_t_shares a_t_wheel a_t_wives a_t_judgedBy_first a_t_judgedBy_second a_t_judgedBy_sort a_t_wheel_child a_t_wheel_father a_t_wheel_husband a_t_wheel_wife u_t_orders u_t_orderCount u_t_keepers u_t_keeperCount s_p0_count s_t_judged s_t_kindCount s_t_lawfulCount s_t_lawfulSystems s_t_size r_p0_first r_p0_second r_p0_sort r_t_children s_t_judgedBy_count r_t_lawful r_t_shares s_t_wheel_size r_t_wives r_t_judgedBy_first r_t_judgedBy_second r_t_judgedBy_sort r_t_wheel_child r_t_wheel_father r_t_wheel_husband r_t_wheel_wife).set 13 (a_t_judgedBy_sort, .inl (cI, z0.1, .inl z0.2)) = w_X0_judge cI cB cZ a_p0 a_t a_p0_first a_p0_second a_p0_sort a_t_children a_t_judgedBy a_t_lawful a_t_shares a_t_wheel a_t_wives a_t_judgedBy_first a_t_judgedBy_second a_t_judgedBy_sort a_t_wheel_child a_t_wheel_father a_t_wheel_husband a_t_wheel_wife u_t_orders u_t_orderCount u_t_keepers u_t_keeperCount s_p0_count s_t_judged s_t_kindCount s_t_lawfulCount s_t_lawfulSystems s_t_size r_p0_first r_p0_second r_p0_sort r_t_children s_t_judgedBy_count r_t_lawful r_t_shares s_t_wheel_size r_t_wives r_t_judgedBy_first r_t_judgedBy_second z0 r_t_wheel_child r_t_wheel_father r_t_wheel_husband r_t_wheel_wife := rfl
set_option maxRecDepth 100000 in
theorem ws_X0_judge_14 (cI cB cZ : ClassId) (a_p0 a_t a_p0_first a_p0_second a_p0_sort a_t_children a_t_judgedBy a_t_lawful a_t_shares a_t_wheel a_t_wives a_t_judgedBy_first a_t_judgedBy_second a_t_judgedBy_sort a_t_wheel_child a_t_wheel_father a_t_wheel_husband a_t_wheel_wife : Nat) (u_t_orders : Value) (u_t_orderCount : Int32) (u_t_keepers : Value) (u_t_keeperCount s_p0_count s_t_judged s_t_kindCount s_t_lawfulCount s_t_lawfulSystems s_t_size : Int32) (r_p0_first r_p0_second r_p0_sort r_t_children : jA) (s_t_judgedBy_count : Int32) (r_t_lawful r_t_shares : jA) (s_t_wheel_size : Int32) (r_t_wives r_t_judgedBy_first r_t_judgedBy_second r_t_judgedBy_sort r_t_wheel_child r_t_wheel_father r_t_wheel_husband r_t_wheel_wife : jA) (z0 : jA) : (w_X0_judge cI cB cZ a_p0 a_t a_p0_first a_p0_second a_p0_sort a_t_children a_t_judgedBy a_t_lawful a_t_shares a_t_wheel a_t_wives a_t_judgedBy_first a_t_judgedBy_second a_t_judgedBy_sort a_t_wheel_child a_t_wheel_father a_t_wheel_husband a_t_wheel_wife u_t_orders u_t_orderCount u_t_keepers u_t_keeperCount s_p0_count s_t_judged s_t_kindCount s_t_lawfulCount s_t_lawfulSystems s_t_size r_p0_first r_p0_second r_p0_sort r_t_children s_t_judgedBy_count r_t_lawful r_t_shares s_t_wheel_size r_t_wives r_t_judgedBy_first r_t_judgedBy_second r_t_judgedBy_sort r_t_wheel_child r_t_wheel_father r_t_wheel_husband r_t_wheel_wife).set 14 (a_t_wheel_child, .inl (cI, z0.1, .inl z0.2)) = w_X0_judge cI cB cZ a_p0 a_t a_p0_first a_p0_second a_p0_sort a_t_children a_t_judgedBy a_t_lawful a_t_shares a_t_wheel a_t_wives a_t_judgedBy_first a_t_judgedBy_second a_t_judgedBy_sort a_t_wheel_child a_t_wheel_father a_t_wheel_husband a_t_wheel_wife u_t_orders u_t_orderCount u_t_keepers u_t_keeperCount s_p0_count s_t_judged s_t_kindCount s_t_lawfulCount s_t_lawfulSystems s_t_size r_p0_first r_p0_second r_p0_sort r_t_children s_t_judgedBy_count r_t_lawful r_t_shares s_t_wheel_size r_t_wives r_t_judgedBy_first r_t_judgedBy_second r_t_judgedBy_sort z0 r_t_wheel_father r_t_wheel_husband r_t_wheel_wife := rfl
set_option maxRecDepth 100000 in
theorem ws_X0_judge_15 (cI cB cZ : ClassId) (a_p0 a_t a_p0_first a_p0_second a_p0_sort a_t_children a_t_judgedBy a_t_lawful a_t_shares a_t_wheel a_t_wives a_t_judgedBy_first a_t_judgedBy_second a_t_judgedBy_sort a_t_wheel_child a_t_wheel_father a_t_wheel_husband a_t_wheel_wife : Nat) (u_t_orders : Value) (u_t_orderCount : Int32) (u_t_keepers : Value) (u_t_keeperCount s_p0_count s_t_judged s_t_kindCount s_t_lawfulCount s_t_lawfulSystems s_t_size : Int32) (r_p0_first r_p0_second r_p0_sort r_t_children : jA) (s_t_judgedBy_count : Int32) (r_t_lawful r_t_shares : jA) (s_t_wheel_size : Int32) (r_t_wives r_t_judgedBy_first r_t_judgedBy_second r_t_judgedBy_sort r_t_wheel_child r_t_wheel_father r_t_wheel_husband r_t_wheel_wife : jA) (z0 : jA) : (w_X0_judge cI cB cZ a_p0 a_t a_p0_first a_p0_second a_p0_sort a_t_children a_t_judgedBy a_t_lawful a_t_shares a_t_wheel a_t_wives a_t_judgedBy_first a_t_judgedBy_second a_t_judgedBy_sort a_t_wheel_child a_t_wheel_father a_t_wheel_husband a_t_wheel_wife u_t_orders u_t_orderCount u_t_keepers u_t_keeperCount s_p0_count s_t_judged s_t_kindCount s_t_lawfulCount s_t_lawfulSystems s_t_size r_p0_first r_p0_second r_p0_sort r_t_children s_t_judgedBy_count r_t_lawful r_t_shares s_t_wheel_size r_t_wives r_t_judgedBy_first r_t_judgedBy_second r_t_judgedBy_sort r_t_wheel_child r_t_wheel_father r_t_wheel_husband r_t_wheel_wife).set 15 (a_t_wheel_father, .inl (cI, z0.1, .inl z0.2)) = w_X0_judge cI cB cZ a_p0 a_t a_p0_first a_p0_second a_p0_sort a_t_children a_t_judgedBy a_t_lawful a_t_shares a_t_wheel a_t_wives a_t_judgedBy_first a_t_judgedBy_second a_t_judgedBy_sort a_t_wheel_child a_t_wheel_father a_t_wheel_husband a_t_wheel_wife u_t_orders u_t_orderCount u_t_keepers u_t_keeperCount s_p0_count s_t_judged s_t_kindCount s_t_lawfulCount s_t_lawfulSystems s_t_size r_p0_first r_p0_second r_p0_sort r_t_children s_t_judgedBy_count r_t_lawful r_t_shares s_t_wheel_size r_t_wives r_t_judgedBy_first r_t_judgedBy_second r_t_judgedBy_sort r_t_wheel_child z0 r_t_wheel_husband r_t_wheel_wife := rfl
set_option maxRecDepth 100000 in
theorem ws_X0_judge_16 (cI cB cZ : ClassId) (a_p0 a_t a_p0_first a_p0_second a_p0_sort a_t_children a_t_judgedBy a_t_lawful a_t_shares a_t_wheel a_t_wives a_t_judgedBy_first a_t_judgedBy_second a_t_judgedBy_sort a_t_wheel_child a_t_wheel_father a_t_wheel_husband a_t_wheel_wife : Nat) (u_t_orders : Value) (u_t_orderCount : Int32) (u_t_keepers : Value) (u_t_keeperCount s_p0_count s_t_judged s_t_kindCount s_t_lawfulCount s_t_lawfulSystems s_t_size : Int32) (r_p0_first r_p0_second r_p0_sort r_t_children : jA) (s_t_judgedBy_count : Int32) (r_t_lawful r_t_shares : jA) (s_t_wheel_size : Int32) (r_t_wives r_t_judgedBy_first r_t_judgedBy_second r_t_judgedBy_sort r_t_wheel_child r_t_wheel_father r_t_wheel_husband r_t_wheel_wife : jA) (z0 : jA) : (w_X0_judge cI cB cZ a_p0 a_t a_p0_first a_p0_second a_p0_sort a_t_children a_t_judgedBy a_t_lawful a_t_shares a_t_wheel a_t_wives a_t_judgedBy_first a_t_judgedBy_second a_t_judgedBy_sort a_t_wheel_child a_t_wheel_father a_t_wheel_husband a_t_wheel_wife u_t_orders u_t_orderCount u_t_keepers u_t_keeperCount s_p0_count s_t_judged s_t_kindCount s_t_lawfulCount s_t_lawfulSystems s_t_size r_p0_first r_p0_second r_p0_sort r_t_children s_t_judgedBy_count r_t_lawful r_t_shares s_t_wheel_size r_t_wives r_t_judgedBy_first r_t_judgedBy_second r_t_judgedBy_sort r_t_wheel_child r_t_wheel_father r_t_wheel_husband r_t_wheel_wife).set 16 (a_t_wheel_husband, .inl (cI, z0.1, .inl z0.2)) = w_X0_judge cI cB cZ a_p0 a_t a_p0_first a_p0_second a_p0_sort a_t_children a_t_judgedBy a_t_lawful a_t_shares a_t_wheel a_t_wives a_t_judgedBy_first a_t_judgedBy_second a_t_judgedBy_sort a_t_wheel_child a_t_wheel_father a_t_wheel_husband a_t_wheel_wife u_t_orders u_t_orderCount u_t_keepers u_t_keeperCount s_p0_count s_t_judged s_t_kindCount s_t_lawfulCount s_t_lawfulSystems s_t_size r_p0_first r_p0_second r_p0_sort r_t_children s_t_judgedBy_count r_t_lawful r_t_shares s_t_wheel_size r_t_wives r_t_judgedBy_first r_t_judgedBy_second r_t_judgedBy_sort r_t_wheel_child r_t_wheel_father z0 r_t_wheel_wife := rfl
set_option maxRecDepth 100000 in
theorem ws_X0_judge_17 (cI cB cZ : ClassId) (a_p0 a_t a_p0_first a_p0_second a_p0_sort a_t_children a_t_judgedBy a_t_lawful a_t_shares a_t_wheel a_t_wives a_t_judgedBy_first a_t_judgedBy_second a_t_judgedBy_sort a_t_wheel_child a_t_wheel_father a_t_wheel_husband a_t_wheel_wife : Nat) (u_t_orders : Value) (u_t_orderCount : Int32) (u_t_keepers : Value) (u_t_keeperCount s_p0_count s_t_judged s_t_kindCount s_t_lawfulCount s_t_lawfulSystems s_t_size : Int32) (r_p0_first r_p0_second r_p0_sort r_t_children : jA) (s_t_judgedBy_count : Int32) (r_t_lawful r_t_shares : jA) (s_t_wheel_size : Int32) (r_t_wives r_t_judgedBy_first r_t_judgedBy_second r_t_judgedBy_sort r_t_wheel_child r_t_wheel_father r_t_wheel_husband r_t_wheel_wife : jA) (z0 : jA) : (w_X0_judge cI cB cZ a_p0 a_t a_p0_first a_p0_second a_p0_sort a_t_children a_t_judgedBy a_t_lawful a_t_shares a_t_wheel a_t_wives a_t_judgedBy_first a_t_judgedBy_second a_t_judgedBy_sort a_t_wheel_child a_t_wheel_father a_t_wheel_husband a_t_wheel_wife u_t_orders u_t_orderCount u_t_keepers u_t_keeperCount s_p0_count s_t_judged s_t_kindCount s_t_lawfulCount s_t_lawfulSystems s_t_size r_p0_first r_p0_second r_p0_sort r_t_children s_t_judgedBy_count r_t_lawful r_t_shares s_t_wheel_size r_t_wives r_t_judgedBy_first r_t_judgedBy_second r_t_judgedBy_sort r_t_wheel_child r_t_wheel_father r_t_wheel_husband r_t_wheel_wife).set 17 (a_t_wheel_wife, .inl (cI, z0.1, .inl z0.2)) = w_X0_judge cI cB cZ a_p0 a_t a_p0_first a_p0_second a_p0_sort a_t_children a_t_judgedBy a_t_lawful a_t_shares a_t_wheel a_t_wives a_t_judgedBy_first a_t_judgedBy_second a_t_judgedBy_sort a_t_wheel_child a_t_wheel_father a_t_wheel_husband a_t_wheel_wife u_t_orders u_t_orderCount u_t_keepers u_t_keeperCount s_p0_count s_t_judged s_t_kindCount s_t_lawfulCount s_t_lawfulSystems s_t_size r_p0_first r_p0_second r_p0_sort r_t_children s_t_judgedBy_count r_t_lawful r_t_shares s_t_wheel_size r_t_wives r_t_judgedBy_first r_t_judgedBy_second r_t_judgedBy_sort r_t_wheel_child r_t_wheel_father r_t_wheel_husband z0 := rfl
def f_X0_judge_j137 (s_t_judged s_t_lawfulCount s_t_lawfulSystems s_t_judgedBy_count : Int32) (r_t_lawful : jA) (s_t_wheel_size : Int32) (r_t_judgedBy_first r_t_judgedBy_second r_t_judgedBy_sort r_t_wheel_child r_t_wheel_father r_t_wheel_husband r_t_wheel_wife : jA) (x2 : Int32) : Option ((Int32 × Int32 × jA × Int32 × jA × jA × jA × jA × Int32) ⊕ ((Int32 × Int32 × jA × Int32 × jA × jA × jA × jA))) :=
  some (Sum.inl (s_t_lawfulCount, s_t_lawfulSystems, r_t_lawful, s_t_wheel_size, r_t_wheel_child, r_t_wheel_father, r_t_wheel_husband, r_t_wheel_wife, (x2 + 1)))
set_option maxHeartbeats 4000000 in
set_option maxRecDepth 100000 in
theorem t_X0_judge_j137 {p : Program} {l : Launch} {e : Env} {s : State} {m : MethodId} {args : Array Value} {below : List Frame} {meth : Method} {c : Code} {A : Nat → Prop} {Q : State → Prop} (G : jGt) (D : va_G) (cI cB cZ : ClassId) (a_p0 a_t a_p0_first a_p0_second a_p0_sort a_t_children a_t_judgedBy a_t_lawful a_t_shares a_t_wheel a_t_wives a_t_judgedBy_first a_t_judgedBy_second a_t_judgedBy_sort a_t_wheel_child a_t_wheel_father a_t_wheel_husband a_t_wheel_wife : Nat) (u_t_orders : Value) (u_t_orderCount : Int32) (u_t_keepers : Value) (u_t_keeperCount s_p0_count s_t_kindCount s_t_size : Int32) (r_p0_first r_p0_second r_p0_sort r_t_children r_t_shares r_t_wives : jA) (s_t_judged s_t_lawfulCount s_t_lawfulSystems s_t_judgedBy_count : Int32) (r_t_lawful : jA) (s_t_wheel_size : Int32) (r_t_judgedBy_first r_t_judgedBy_second r_t_judgedBy_sort r_t_wheel_child r_t_wheel_father r_t_wheel_husband r_t_wheel_wife : jA) (x2 : Int32) (C : jCx p s m args c cX0_judge 3 gX0_judge RX0 G D (jT cI cB cZ) A) {o : (Int32 × Int32 × jA × Int32 × jA × jA × jA × jA × Int32) ⊕ ((Int32 × Int32 × jA × Int32 × jA × jA × jA × jA))} (hf : f_X0_judge_j137 s_t_judged s_t_lawfulCount s_t_lawfulSystems s_t_judgedBy_count r_t_lawful s_t_wheel_size r_t_judgedBy_first r_t_judgedBy_second r_t_judgedBy_sort r_t_wheel_child r_t_wheel_father r_t_wheel_husband r_t_wheel_wife x2 = some o) (K : (∀ z, o = Sum.inl z → ∀ (H : Heap) (locs : List Loc) (ls : Array Slot), va_P D vwCl (w_X0_judge cI cB cZ a_p0 a_t a_p0_first a_p0_second a_p0_sort a_t_children a_t_judgedBy a_t_lawful a_t_shares a_t_wheel a_t_wives a_t_judgedBy_first a_t_judgedBy_second a_t_judgedBy_sort a_t_wheel_child a_t_wheel_father a_t_wheel_husband a_t_wheel_wife u_t_orders u_t_orderCount u_t_keepers u_t_keeperCount s_p0_count s_t_judged s_t_kindCount z.1 z.2.1 s_t_size r_p0_first r_p0_second r_p0_sort r_t_children s_t_judgedBy_count z.2.2.1 r_t_shares z.2.2.2.1 r_t_wives r_t_judgedBy_first r_t_judgedBy_second r_t_judgedBy_sort z.2.2.2.2.1 z.2.2.2.2.2.1 z.2.2.2.2.2.2.1 z.2.2.2.2.2.2.2.1) H → va_D A (w_X0_judge cI cB cZ a_p0 a_t a_p0_first a_p0_second a_p0_sort a_t_children a_t_judgedBy a_t_lawful a_t_shares a_t_wheel a_t_wives a_t_judgedBy_first a_t_judgedBy_second a_t_judgedBy_sort a_t_wheel_child a_t_wheel_father a_t_wheel_husband a_t_wheel_wife u_t_orders u_t_orderCount u_t_keepers u_t_keeperCount s_p0_count s_t_judged s_t_kindCount z.1 z.2.1 s_t_size r_p0_first r_p0_second r_p0_sort r_t_children s_t_judgedBy_count z.2.2.1 r_t_shares z.2.2.2.1 r_t_wives r_t_judgedBy_first r_t_judgedBy_second r_t_judgedBy_sort z.2.2.2.2.1 z.2.2.2.2.2.1 z.2.2.2.2.2.2.1 z.2.2.2.2.2.2.2.1) → va_S A s.heap H locs → lv_has ls 3 [(0, .ref a_t), (1, .ref a_p0), (2, .int z.2.2.2.2.2.2.2.2)] → W p l e rX0_judge s m args below meth c H locs 0 0 Q (F0 m 44 ls [])) ∧ (∀ z, o = Sum.inr z → ∀ (H : Heap) (locs : List Loc) (ls : Array Slot), va_P D vwCl (w_X0_judge cI cB cZ a_p0 a_t a_p0_first a_p0_second a_p0_sort a_t_children a_t_judgedBy a_t_lawful a_t_shares a_t_wheel a_t_wives a_t_judgedBy_first a_t_judgedBy_second a_t_judgedBy_sort a_t_wheel_child a_t_wheel_father a_t_wheel_husband a_t_wheel_wife u_t_orders u_t_orderCount u_t_keepers u_t_keeperCount s_p0_count s_t_judged s_t_kindCount z.1 z.2.1 s_t_size r_p0_first r_p0_second r_p0_sort r_t_children s_t_judgedBy_count z.2.2.1 r_t_shares z.2.2.2.1 r_t_wives r_t_judgedBy_first r_t_judgedBy_second r_t_judgedBy_sort z.2.2.2.2.1 z.2.2.2.2.2.1 z.2.2.2.2.2.2.1 z.2.2.2.2.2.2.2) H → va_D A (w_X0_judge cI cB cZ a_p0 a_t a_p0_first a_p0_second a_p0_sort a_t_children a_t_judgedBy a_t_lawful a_t_shares a_t_wheel a_t_wives a_t_judgedBy_first a_t_judgedBy_second a_t_judgedBy_sort a_t_wheel_child a_t_wheel_father a_t_wheel_husband a_t_wheel_wife u_t_orders u_t_orderCount u_t_keepers u_t_keeperCount s_p0_count s_t_judged s_t_kindCount z.1 z.2.1 s_t_size r_p0_first r_p0_second r_p0_sort r_t_children s_t_judgedBy_count z.2.2.1 r_t_shares z.2.2.2.1 r_t_wives r_t_judgedBy_first r_t_judgedBy_second r_t_judgedBy_sort z.2.2.2.2.1 z.2.2.2.2.2.1 z.2.2.2.2.2.2.1 z.2.2.2.2.2.2.2) → va_S A s.heap H locs → lv_has ls 3 [] → W p l e rX0_judge s m args below meth c H locs 0 0 Q (F0 m 143 ls []))) {H : Heap} {locs : List Loc} {ls : Array Slot} (hP : va_P D vwCl (w_X0_judge cI cB cZ a_p0 a_t a_p0_first a_p0_second a_p0_sort a_t_children a_t_judgedBy a_t_lawful a_t_shares a_t_wheel a_t_wives a_t_judgedBy_first a_t_judgedBy_second a_t_judgedBy_sort a_t_wheel_child a_t_wheel_father a_t_wheel_husband a_t_wheel_wife u_t_orders u_t_orderCount u_t_keepers u_t_keeperCount s_p0_count s_t_judged s_t_kindCount s_t_lawfulCount s_t_lawfulSystems s_t_size r_p0_first r_p0_second r_p0_sort r_t_children s_t_judgedBy_count r_t_lawful r_t_shares s_t_wheel_size r_t_wives r_t_judgedBy_first r_t_judgedBy_second r_t_judgedBy_sort r_t_wheel_child r_t_wheel_father r_t_wheel_husband r_t_wheel_wife) H) (hD : va_D A (w_X0_judge cI cB cZ a_p0 a_t a_p0_first a_p0_second a_p0_sort a_t_children a_t_judgedBy a_t_lawful a_t_shares a_t_wheel a_t_wives a_t_judgedBy_first a_t_judgedBy_second a_t_judgedBy_sort a_t_wheel_child a_t_wheel_father a_t_wheel_husband a_t_wheel_wife u_t_orders u_t_orderCount u_t_keepers u_t_keeperCount s_p0_count s_t_judged s_t_kindCount s_t_lawfulCount s_t_lawfulSystems s_t_size r_p0_first r_p0_second r_p0_sort r_t_children s_t_judgedBy_count r_t_lawful r_t_shares s_t_wheel_size r_t_wives r_t_judgedBy_first r_t_judgedBy_second r_t_judgedBy_sort r_t_wheel_child r_t_wheel_father r_t_wheel_husband r_t_wheel_wife)) (hS : va_S A s.heap H locs) (hl : lv_has ls 3 [(0, .ref a_t), (1, .ref a_p0), (2, .int x2)]) : W p l e rX0_judge s m args below meth c H locs 0 0 Q (F0 m 137 ls []) := by
  obtain ⟨⟨hx, hb, hml, hown, hts⟩, hK, hN, hA⟩ := C
  have C : jCx p s m args c cX0_judge 3 gX0_judge RX0 G D (jT cI cB cZ) A := ⟨⟨hx, hb, hml, hown, hts⟩, hK, hN, hA⟩
  unfold f_X0_judge_j137 at hf
  refine lv_iinc (v := (x2 + 1)) (lv' := [(2, .int (x2 + 1)), (0, .ref a_t), (1, .ref a_p0)]) hx hb dX0_judge_137 hl (k := 2) rfl (by first | rfl | decide) (by decide) rfl (fun ls hl => ?_)
  refine lv_goto (tgt := 44) hx hb dX0_judge_140 (by decide) ?_
  have ho := Option.some.inj hf
  exact K.1 _ ho.symm _ _ _ hP hD hS (lv_sub hl [1, 2, 0] rfl)
def f_X0_judge_b44 (s_p0_count s_t_kindCount s_t_size : Int32) (r_p0_first r_p0_second r_p0_sort r_t_children r_t_shares r_t_wives : jA) (s_t_judged s_t_lawfulCount s_t_lawfulSystems s_t_judgedBy_count : Int32) (r_t_lawful : jA) (s_t_wheel_size : Int32) (r_t_judgedBy_first r_t_judgedBy_second r_t_judgedBy_sort r_t_wheel_child r_t_wheel_father r_t_wheel_husband r_t_wheel_wife : jA) (x2 : Int32) : Option ((Int32 × Int32 × jA × Int32 × jA × jA × jA × jA × Int32) ⊕ ((Int32 × Int32 × jA × Int32 × jA × jA × jA × jA))) :=
  if s_t_kindCount ≤ x2 then
  some (Sum.inr (s_t_lawfulCount, s_t_lawfulSystems, r_t_lawful, s_t_wheel_size, r_t_wheel_child, r_t_wheel_father, r_t_wheel_husband, r_t_wheel_wife))
  else
  if (64 : Int32) ≤ x2 then
  some (Sum.inr (s_t_lawfulCount, s_t_lawfulSystems, r_t_lawful, s_t_wheel_size, r_t_wheel_child, r_t_wheel_father, r_t_wheel_husband, r_t_wheel_wife))
  else
  jL r_t_wives x2 fun v5 =>
  jL r_t_children x2 fun v6 =>
  jM (f_X10_put s_t_wheel_size r_t_wheel_child r_t_wheel_father r_t_wheel_husband r_t_wheel_wife s_t_size v5 v6) fun r7 =>
  jM (f_X3_firstBroken r7.1 s_p0_count r7.2.1 r7.2.2.1 r7.2.2.2.1 r7.2.2.2.2 r_p0_first r_p0_second r_p0_sort) fun r8 =>
  if r8 = (-1 : Int32) then
  if (64 : Int32) ≤ s_t_lawfulCount then
  f_X0_judge_j137 s_t_judged s_t_lawfulCount s_t_lawfulSystems s_t_judgedBy_count r_t_lawful r7.1 r_t_judgedBy_first r_t_judgedBy_second r_t_judgedBy_sort r7.2.1 r7.2.2.1 r7.2.2.2.1 r7.2.2.2.2 x2
  else
  jS r_t_lawful s_t_lawfulCount x2 fun q11 =>
  jV (s_t_lawfulCount + (1 : Int32)) fun v12 =>
  jL r_t_shares x2 fun v13 =>
  jV (s_t_lawfulSystems + v13) fun v14 =>
  f_X0_judge_j137 s_t_judged v12 v14 s_t_judgedBy_count q11 r7.1 r_t_judgedBy_first r_t_judgedBy_second r_t_judgedBy_sort r7.2.1 r7.2.2.1 r7.2.2.2.1 r7.2.2.2.2 x2
  else
  f_X0_judge_j137 s_t_judged s_t_lawfulCount s_t_lawfulSystems s_t_judgedBy_count r_t_lawful r7.1 r_t_judgedBy_first r_t_judgedBy_second r_t_judgedBy_sort r7.2.1 r7.2.2.1 r7.2.2.2.1 r7.2.2.2.2 x2
set_option maxHeartbeats 4000000 in
set_option maxRecDepth 100000 in
theorem t_X0_judge_b44 {p : Program} {l : Launch} {e : Env} {s : State} {m : MethodId} {args : Array Value} {below : List Frame} {meth : Method} {c : Code} {A : Nat → Prop} {Q : State → Prop} (G : jGt) (D : va_G) (cI cB cZ : ClassId) (a_p0 a_t a_p0_first a_p0_second a_p0_sort a_t_children a_t_judgedBy a_t_lawful a_t_shares a_t_wheel a_t_wives a_t_judgedBy_first a_t_judgedBy_second a_t_judgedBy_sort a_t_wheel_child a_t_wheel_father a_t_wheel_husband a_t_wheel_wife : Nat) (u_t_orders : Value) (u_t_orderCount : Int32) (u_t_keepers : Value) (u_t_keeperCount s_p0_count s_t_kindCount s_t_size : Int32) (r_p0_first r_p0_second r_p0_sort r_t_children r_t_shares r_t_wives : jA) (s_t_judged s_t_lawfulCount s_t_lawfulSystems s_t_judgedBy_count : Int32) (r_t_lawful : jA) (s_t_wheel_size : Int32) (r_t_judgedBy_first r_t_judgedBy_second r_t_judgedBy_sort r_t_wheel_child r_t_wheel_father r_t_wheel_husband r_t_wheel_wife : jA) (x2 : Int32) (C : jCx p s m args c cX0_judge 3 gX0_judge RX0 G D (jT cI cB cZ) A) {o : (Int32 × Int32 × jA × Int32 × jA × jA × jA × jA × Int32) ⊕ ((Int32 × Int32 × jA × Int32 × jA × jA × jA × jA))} (hf : f_X0_judge_b44 s_p0_count s_t_kindCount s_t_size r_p0_first r_p0_second r_p0_sort r_t_children r_t_shares r_t_wives s_t_judged s_t_lawfulCount s_t_lawfulSystems s_t_judgedBy_count r_t_lawful s_t_wheel_size r_t_judgedBy_first r_t_judgedBy_second r_t_judgedBy_sort r_t_wheel_child r_t_wheel_father r_t_wheel_husband r_t_wheel_wife x2 = some o) (K : (∀ z, o = Sum.inl z → ∀ (H : Heap) (locs : List Loc) (ls : Array Slot), va_P D vwCl (w_X0_judge cI cB cZ a_p0 a_t a_p0_first a_p0_second a_p0_sort a_t_children a_t_judgedBy a_t_lawful a_t_shares a_t_wheel a_t_wives a_t_judgedBy_first a_t_judgedBy_second a_t_judgedBy_sort a_t_wheel_child a_t_wheel_father a_t_wheel_husband a_t_wheel_wife u_t_orders u_t_orderCount u_t_keepers u_t_keeperCount s_p0_count s_t_judged s_t_kindCount z.1 z.2.1 s_t_size r_p0_first r_p0_second r_p0_sort r_t_children s_t_judgedBy_count z.2.2.1 r_t_shares z.2.2.2.1 r_t_wives r_t_judgedBy_first r_t_judgedBy_second r_t_judgedBy_sort z.2.2.2.2.1 z.2.2.2.2.2.1 z.2.2.2.2.2.2.1 z.2.2.2.2.2.2.2.1) H → va_D A (w_X0_judge cI cB cZ a_p0 a_t a_p0_first a_p0_second a_p0_sort a_t_children a_t_judgedBy a_t_lawful a_t_shares a_t_wheel a_t_wives a_t_judgedBy_first a_t_judgedBy_second a_t_judgedBy_sort a_t_wheel_child a_t_wheel_father a_t_wheel_husband a_t_wheel_wife u_t_orders u_t_orderCount u_t_keepers u_t_keeperCount s_p0_count s_t_judged s_t_kindCount z.1 z.2.1 s_t_size r_p0_first r_p0_second r_p0_sort r_t_children s_t_judgedBy_count z.2.2.1 r_t_shares z.2.2.2.1 r_t_wives r_t_judgedBy_first r_t_judgedBy_second r_t_judgedBy_sort z.2.2.2.2.1 z.2.2.2.2.2.1 z.2.2.2.2.2.2.1 z.2.2.2.2.2.2.2.1) → va_S A s.heap H locs → lv_has ls 3 [(0, .ref a_t), (1, .ref a_p0), (2, .int z.2.2.2.2.2.2.2.2)] → W p l e rX0_judge s m args below meth c H locs 0 0 Q (F0 m 44 ls [])) ∧ (∀ z, o = Sum.inr z → ∀ (H : Heap) (locs : List Loc) (ls : Array Slot), va_P D vwCl (w_X0_judge cI cB cZ a_p0 a_t a_p0_first a_p0_second a_p0_sort a_t_children a_t_judgedBy a_t_lawful a_t_shares a_t_wheel a_t_wives a_t_judgedBy_first a_t_judgedBy_second a_t_judgedBy_sort a_t_wheel_child a_t_wheel_father a_t_wheel_husband a_t_wheel_wife u_t_orders u_t_orderCount u_t_keepers u_t_keeperCount s_p0_count s_t_judged s_t_kindCount z.1 z.2.1 s_t_size r_p0_first r_p0_second r_p0_sort r_t_children s_t_judgedBy_count z.2.2.1 r_t_shares z.2.2.2.1 r_t_wives r_t_judgedBy_first r_t_judgedBy_second r_t_judgedBy_sort z.2.2.2.2.1 z.2.2.2.2.2.1 z.2.2.2.2.2.2.1 z.2.2.2.2.2.2.2) H → va_D A (w_X0_judge cI cB cZ a_p0 a_t a_p0_first a_p0_second a_p0_sort a_t_children a_t_judgedBy a_t_lawful a_t_shares a_t_wheel a_t_wives a_t_judgedBy_first a_t_judgedBy_second a_t_judgedBy_sort a_t_wheel_child a_t_wheel_father a_t_wheel_husband a_t_wheel_wife u_t_orders u_t_orderCount u_t_keepers u_t_keeperCount s_p0_count s_t_judged s_t_kindCount z.1 z.2.1 s_t_size r_p0_first r_p0_second r_p0_sort r_t_children s_t_judgedBy_count z.2.2.1 r_t_shares z.2.2.2.1 r_t_wives r_t_judgedBy_first r_t_judgedBy_second r_t_judgedBy_sort z.2.2.2.2.1 z.2.2.2.2.2.1 z.2.2.2.2.2.2.1 z.2.2.2.2.2.2.2) → va_S A s.heap H locs → lv_has ls 3 [] → W p l e rX0_judge s m args below meth c H locs 0 0 Q (F0 m 143 ls []))) {H : Heap} {locs : List Loc} {ls : Array Slot} (hP : va_P D vwCl (w_X0_judge cI cB cZ a_p0 a_t a_p0_first a_p0_second a_p0_sort a_t_children a_t_judgedBy a_t_lawful a_t_shares a_t_wheel a_t_wives a_t_judgedBy_first a_t_judgedBy_second a_t_judgedBy_sort a_t_wheel_child a_t_wheel_father a_t_wheel_husband a_t_wheel_wife u_t_orders u_t_orderCount u_t_keepers u_t_keeperCount s_p0_count s_t_judged s_t_kindCount s_t_lawfulCount s_t_lawfulSystems s_t_size r_p0_first r_p0_second r_p0_sort r_t_children s_t_judgedBy_count r_t_lawful r_t_shares s_t_wheel_size r_t_wives r_t_judgedBy_first r_t_judgedBy_second r_t_judgedBy_sort r_t_wheel_child r_t_wheel_father r_t_wheel_husband r_t_wheel_wife) H) (hD : va_D A (w_X0_judge cI cB cZ a_p0 a_t a_p0_first a_p0_second a_p0_sort a_t_children a_t_judgedBy a_t_lawful a_t_shares a_t_wheel a_t_wives a_t_judgedBy_first a_t_judgedBy_second a_t_judgedBy_sort a_t_wheel_child a_t_wheel_father a_t_wheel_husband a_t_wheel_wife u_t_orders u_t_orderCount u_t_keepers u_t_keeperCount s_p0_count s_t_judged s_t_kindCount s_t_lawfulCount s_t_lawfulSystems s_t_size r_p0_first r_p0_second r_p0_sort r_t_children s_t_judgedBy_count r_t_lawful r_t_shares s_t_wheel_size r_t_wives r_t_judgedBy_first r_t_judgedBy_second r_t_judgedBy_sort r_t_wheel_child r_t_wheel_father r_t_wheel_husband r_t_wheel_wife)) (hS : va_S A s.heap H locs) (hl : lv_has ls 3 [(0, .ref a_t), (1, .ref a_p0), (2, .int x2)]) : W p l e rX0_judge s m args below meth c H locs 0 0 Q (F0 m 44 ls []) := by
  obtain ⟨⟨hx, hb, hml, hown, hts⟩, hK, hN, hA⟩ := C
  have C : jCx p s m args c cX0_judge 3 gX0_judge RX0 G D (jT cI cB cZ) A := ⟨⟨hx, hb, hml, hown, hts⟩, hK, hN, hA⟩
  unfold f_X0_judge_b44 at hf
  refine lv_iload_n hx hb dX0_judge_44 rfl (lv_at hl 2 rfl) ?_
  refine lv_aload_n hx hb dX0_judge_45 rfl (lv_at hl 0 rfl) ?_
  refine va_get (D := D) (ci := 0) (v := .int s_t_kindCount) (C := RX0) (T := TX0) (N := 15) hx hb hts iw_X0 hown hK hP 1 rfl rfl 8 (by decide) (hts _ (wG_in k_fl_X0_90 rfl)) (fun _ h9 => h9) rfl dX0_judge_46 ?_
  refine lv_icmp_ge (tgt := 143) hx hb dX0_judge_49 (by decide) (fun c3 => ?_) (fun c3 => ?_)
  · replace hf := jif_t c3 hf
    have ho := Option.some.inj hf
    exact (K.2 _ ho.symm) _ _ _ hP hD hS (lv_sub hl [] rfl)
  · replace hf := jif_f c3 hf
    refine lv_iload_n hx hb dX0_judge_52 rfl (lv_at hl 2 rfl) ?_
    refine lv_bipush (v := (64 : Int32)) hx hb dX0_judge_53 (by decide) ?_
    refine lv_icmp_ge (tgt := 143) hx hb dX0_judge_55 (by decide) (fun c4 => ?_) (fun c4 => ?_)
    · replace hf := jif_t c4 hf
      have ho := Option.some.inj hf
      exact (K.2 _ ho.symm) _ _ _ hP hD hS (lv_sub hl [] rfl)
    · replace hf := jif_f c4 hf
      refine lv_aload_n hx hb dX0_judge_58 rfl (lv_at hl 0 rfl) ?_
      refine va_get (D := D) (ci := 0) (v := .ref a_t_wheel) (C := RX0) (T := TX0) (N := 15) hx hb hts iw_X0 hown hK hP 1 rfl rfl 14 (by decide) (hts _ (wG_in k_fl_X0_40 rfl)) (fun _ h9 => h9) rfl dX0_judge_59 ?_
      refine lv_aload_n hx hb dX0_judge_62 rfl (lv_at hl 0 rfl) ?_
      refine va_get (D := D) (ci := 0) (v := .int s_t_size) (C := RX0) (T := TX0) (N := 15) hx hb hts iw_X0 hown hK hP 1 rfl rfl 0 (by decide) (hts _ (wG_in k_fl_X0_44 rfl)) (fun _ h9 => h9) rfl dX0_judge_63 ?_
      refine lv_aload_n hx hb dX0_judge_66 rfl (lv_at hl 0 rfl) ?_
      refine va_get (D := D) (ci := 0) (v := .ref a_t_wives) (C := RX0) (T := TX0) (N := 15) hx hb hts iw_X0 hown hK hP 1 rfl rfl 5 (by decide) (hts _ (wG_in k_fl_X0_18 rfl)) (fun _ h9 => h9) rfl dX0_judge_67 ?_
      refine lv_iload_n hx hb dX0_judge_70 rfl (lv_at hl 2 rfl) ?_
      obtain ⟨v5, hv5, iv5, hf⟩ := jL_some hf
      refine ja_iald (P := r_t_wives) hx hb hK hP 10 0 rfl rfl hv5 iv5 dX0_judge_71 ?_
      refine lv_aload_n hx hb dX0_judge_72 rfl (lv_at hl 0 rfl) ?_
      refine va_get (D := D) (ci := 0) (v := .ref a_t_children) (C := RX0) (T := TX0) (N := 15) hx hb hts iw_X0 hown hK hP 1 rfl rfl 6 (by decide) (hts _ (wG_in k_fl_X0_21 rfl)) (fun _ h9 => h9) rfl dX0_judge_73 ?_
      refine lv_iload_n hx hb dX0_judge_76 rfl (lv_at hl 2 rfl) ?_
      obtain ⟨v6, hv6, iv6, hf⟩ := jL_some hf
      refine ja_iald (P := r_t_children) hx hb hK hP 5 0 rfl rfl hv6 iv6 dX0_judge_77 ?_
      obtain ⟨r7, hgr7, hf⟩ := jM_some hf
      refine jcV_v (As := [.int s_t_size, .int v5, .int v6]) (rest := []) ⟨hx, hb, hml, hown, hts⟩ hK hN hA (c_X10_put l G D cI cB cZ a_t_wheel a_t_wheel_child a_t_wheel_father a_t_wheel_husband a_t_wheel_wife s_t_wheel_size r_t_wheel_child r_t_wheel_father r_t_wheel_husband r_t_wheel_wife s_t_size v5 v6 hgr7) (cwV 3 hts (wG_V k_ml_X0_86 k_im_X10_put k_se_X10_put k_in_X10 k_co_X10_put) rfl rfl rfl hd_X10_put ⟨Nat.le_of_ble_eq_true rfl, Nat.le_of_ble_eq_true rfl⟩) hP hD hS [9, 14, 15, 16, 17] rfl rfl rfl (ci := 9) rfl 9 rfl rfl rfl hl.1 rfl (Nat.le_of_ble_eq_true rfl) dX0_judge_78 ⟨Nat.le_of_ble_eq_true rfl, Nat.le_of_ble_eq_true rfl⟩ (fun H locs hP hD hS => ?_)
      simp only [jset_cons, jset_nil, w_X10_put, ws_X0_judge_9, ws_X0_judge_14, ws_X0_judge_15, ws_X0_judge_16, ws_X0_judge_17] at hP hD
      have hP : va_P D vwCl (w_X0_judge cI cB cZ a_p0 a_t a_p0_first a_p0_second a_p0_sort a_t_children a_t_judgedBy a_t_lawful a_t_shares a_t_wheel a_t_wives a_t_judgedBy_first a_t_judgedBy_second a_t_judgedBy_sort a_t_wheel_child a_t_wheel_father a_t_wheel_husband a_t_wheel_wife u_t_orders u_t_orderCount u_t_keepers u_t_keeperCount s_p0_count s_t_judged s_t_kindCount s_t_lawfulCount s_t_lawfulSystems s_t_size r_p0_first r_p0_second r_p0_sort r_t_children s_t_judgedBy_count r_t_lawful r_t_shares r7.1 r_t_wives r_t_judgedBy_first r_t_judgedBy_second r_t_judgedBy_sort r7.2.1 r7.2.2.1 r7.2.2.2.1 r7.2.2.2.2) H := hP
      have hD : va_D A (w_X0_judge cI cB cZ a_p0 a_t a_p0_first a_p0_second a_p0_sort a_t_children a_t_judgedBy a_t_lawful a_t_shares a_t_wheel a_t_wives a_t_judgedBy_first a_t_judgedBy_second a_t_judgedBy_sort a_t_wheel_child a_t_wheel_father a_t_wheel_husband a_t_wheel_wife u_t_orders u_t_orderCount u_t_keepers u_t_keeperCount s_p0_count s_t_judged s_t_kindCount s_t_lawfulCount s_t_lawfulSystems s_t_size r_p0_first r_p0_second r_p0_sort r_t_children s_t_judgedBy_count r_t_lawful r_t_shares r7.1 r_t_wives r_t_judgedBy_first r_t_judgedBy_second r_t_judgedBy_sort r7.2.1 r7.2.2.1 r7.2.2.2.1 r7.2.2.2.2) := hD
      refine lv_aload_n hx hb dX0_judge_81 rfl (lv_at hl 1 rfl) ?_
      refine lv_aload_n hx hb dX0_judge_82 rfl (lv_at hl 0 rfl) ?_
      refine va_get (D := D) (ci := 0) (v := .ref a_t_wheel) (C := RX0) (T := TX0) (N := 15) hx hb hts iw_X0 hown hK hP 1 rfl rfl 14 (by decide) (hts _ (wG_in k_fl_X0_40 rfl)) (fun _ h9 => h9) rfl dX0_judge_83 ?_
      obtain ⟨r8, hgr8, hf⟩ := jM_some hf
      refine jcV_i0 (As := [.ref a_t_wheel]) (rest := []) ⟨hx, hb, hml, hown, hts⟩ hK hN hA (c_X3_firstBroken l G D cI cB cZ a_t_wheel a_p0 a_t_wheel_child a_t_wheel_father a_t_wheel_husband a_t_wheel_wife a_p0_first a_p0_second a_p0_sort r7.1 s_p0_count r7.2.1 r7.2.2.1 r7.2.2.2.1 r7.2.2.2.2 r_p0_first r_p0_second r_p0_sort hgr8) (cwV 1 hts (wG_V k_ml_X0_115 k_im_X3_firstBroken k_se_X3_firstBroken k_in_X3 k_co_X3_firstBroken) rfl rfl rfl hd_X3_firstBroken ⟨Nat.le_of_ble_eq_true rfl, Nat.le_of_ble_eq_true rfl⟩) hP hD hS [9, 0, 14, 15, 16, 17, 2, 3, 4] rfl rfl rfl (ci := 2) rfl 0 rfl rfl rfl hl.1 rfl (Nat.le_of_ble_eq_true rfl) dX0_judge_86 ⟨Nat.le_of_ble_eq_true rfl, Nat.le_of_ble_eq_true rfl⟩ (fun H locs hP hD hS => ?_)
      refine lv_iconst (v := (-1 : Int32)) hx hb dX0_judge_89 (by decide) ?_
      refine lv_icmp_ne (tgt := 137) hx hb dX0_judge_90 (by decide) (fun c9 => ?_) (fun c9 => ?_)
      · replace hf := jif_f c9 hf
        exact t_X0_judge_j137 G D cI cB cZ a_p0 a_t a_p0_first a_p0_second a_p0_sort a_t_children a_t_judgedBy a_t_lawful a_t_shares a_t_wheel a_t_wives a_t_judgedBy_first a_t_judgedBy_second a_t_judgedBy_sort a_t_wheel_child a_t_wheel_father a_t_wheel_husband a_t_wheel_wife u_t_orders u_t_orderCount u_t_keepers u_t_keeperCount s_p0_count s_t_kindCount s_t_size r_p0_first r_p0_second r_p0_sort r_t_children r_t_shares r_t_wives s_t_judged s_t_lawfulCount s_t_lawfulSystems s_t_judgedBy_count r_t_lawful r7.1 r_t_judgedBy_first r_t_judgedBy_second r_t_judgedBy_sort r7.2.1 r7.2.2.1 r7.2.2.2.1 r7.2.2.2.2 x2 C hf K hP hD hS (lv_sub hl [0, 1, 2] rfl)
      · replace hf := jif_t c9 hf
        refine lv_aload_n hx hb dX0_judge_93 rfl (lv_at hl 0 rfl) ?_
        refine va_get (D := D) (ci := 0) (v := .int s_t_lawfulCount) (C := RX0) (T := TX0) (N := 15) hx hb hts iw_X0 hown hK hP 1 rfl rfl 10 (by decide) (hts _ (wG_in k_fl_X0_109 rfl)) (fun _ h9 => h9) rfl dX0_judge_94 ?_
        refine lv_bipush (v := (64 : Int32)) hx hb dX0_judge_97 (by decide) ?_
        refine lv_icmp_ge (tgt := 137) hx hb dX0_judge_99 (by decide) (fun c10 => ?_) (fun c10 => ?_)
        · replace hf := jif_t c10 hf
          exact t_X0_judge_j137 G D cI cB cZ a_p0 a_t a_p0_first a_p0_second a_p0_sort a_t_children a_t_judgedBy a_t_lawful a_t_shares a_t_wheel a_t_wives a_t_judgedBy_first a_t_judgedBy_second a_t_judgedBy_sort a_t_wheel_child a_t_wheel_father a_t_wheel_husband a_t_wheel_wife u_t_orders u_t_orderCount u_t_keepers u_t_keeperCount s_p0_count s_t_kindCount s_t_size r_p0_first r_p0_second r_p0_sort r_t_children r_t_shares r_t_wives s_t_judged s_t_lawfulCount s_t_lawfulSystems s_t_judgedBy_count r_t_lawful r7.1 r_t_judgedBy_first r_t_judgedBy_second r_t_judgedBy_sort r7.2.1 r7.2.2.1 r7.2.2.2.1 r7.2.2.2.2 x2 C hf K hP hD hS (lv_sub hl [0, 1, 2] rfl)
        · replace hf := jif_f c10 hf
          refine lv_aload_n hx hb dX0_judge_102 rfl (lv_at hl 0 rfl) ?_
          refine va_get (D := D) (ci := 0) (v := .ref a_t_lawful) (C := RX0) (T := TX0) (N := 15) hx hb hts iw_X0 hown hK hP 1 rfl rfl 9 (by decide) (hts _ (wG_in k_fl_X0_27 rfl)) (fun _ h9 => h9) rfl dX0_judge_103 ?_
          refine lv_aload_n hx hb dX0_judge_106 rfl (lv_at hl 0 rfl) ?_
          refine va_get (D := D) (ci := 0) (v := .int s_t_lawfulCount) (C := RX0) (T := TX0) (N := 15) hx hb hts iw_X0 hown hK hP 1 rfl rfl 10 (by decide) (hts _ (wG_in k_fl_X0_109 rfl)) (fun _ h9 => h9) rfl dX0_judge_107 ?_
          refine lv_iload_n hx hb dX0_judge_110 rfl (lv_at hl 2 rfl) ?_
          obtain ⟨q11, hq11, iq11, hf⟩ := jS_some hf
          refine ja_iast (P := r_t_lawful) (P' := q11) hx hb hK hP hD hS 7 0 rfl rfl hq11 iq11 dX0_judge_111 (fun H locs hP hD hS => ?_)
          have hP : va_P D vwCl (w_X0_judge cI cB cZ a_p0 a_t a_p0_first a_p0_second a_p0_sort a_t_children a_t_judgedBy a_t_lawful a_t_shares a_t_wheel a_t_wives a_t_judgedBy_first a_t_judgedBy_second a_t_judgedBy_sort a_t_wheel_child a_t_wheel_father a_t_wheel_husband a_t_wheel_wife u_t_orders u_t_orderCount u_t_keepers u_t_keeperCount s_p0_count s_t_judged s_t_kindCount s_t_lawfulCount s_t_lawfulSystems s_t_size r_p0_first r_p0_second r_p0_sort r_t_children s_t_judgedBy_count q11 r_t_shares r7.1 r_t_wives r_t_judgedBy_first r_t_judgedBy_second r_t_judgedBy_sort r7.2.1 r7.2.2.1 r7.2.2.2.1 r7.2.2.2.2) H := hP
          have hD : va_D A (w_X0_judge cI cB cZ a_p0 a_t a_p0_first a_p0_second a_p0_sort a_t_children a_t_judgedBy a_t_lawful a_t_shares a_t_wheel a_t_wives a_t_judgedBy_first a_t_judgedBy_second a_t_judgedBy_sort a_t_wheel_child a_t_wheel_father a_t_wheel_husband a_t_wheel_wife u_t_orders u_t_orderCount u_t_keepers u_t_keeperCount s_p0_count s_t_judged s_t_kindCount s_t_lawfulCount s_t_lawfulSystems s_t_size r_p0_first r_p0_second r_p0_sort r_t_children s_t_judgedBy_count q11 r_t_shares r7.1 r_t_wives r_t_judgedBy_first r_t_judgedBy_second r_t_judgedBy_sort r7.2.1 r7.2.2.1 r7.2.2.2.1 r7.2.2.2.2) := hD
          refine lv_aload_n hx hb dX0_judge_112 rfl (lv_at hl 0 rfl) ?_
          refine lv_dup hx hb dX0_judge_113 rfl ?_
          refine va_get (D := D) (ci := 0) (v := .int s_t_lawfulCount) (C := RX0) (T := TX0) (N := 15) hx hb hts iw_X0 hown hK hP 1 rfl rfl 10 (by decide) (hts _ (wG_in k_fl_X0_109 rfl)) (fun _ h9 => h9) rfl dX0_judge_114 ?_
          refine lv_iconst (v := (1 : Int32)) hx hb dX0_judge_117 (by decide) ?_
          refine lv_iadd hx hb dX0_judge_118 ?_
          obtain ⟨v12, hv12, hf⟩ := jV_some hf
          refine jtop hv12 ?_
          refine va_put (D := D) (ci := 0) (v := .int v12) (ty := .int) (C := RX0) (T := TX0) (N := 15) hx hb hts iw_X0 tyX0 tyX0_ok nmX0 hown hK hP hD hS 1 rfl rfl 10 (by decide) (hts _ (wG_in k_fl_X0_109 rfl)) (fun _ h9 => h9) rfl (tyX0_ok 10 (by decide)) rfl rfl (Nat.le_of_ble_eq_true rfl) dX0_judge_119 (fun H locs hP hD hS => ?_)
          have hP : va_P D vwCl (w_X0_judge cI cB cZ a_p0 a_t a_p0_first a_p0_second a_p0_sort a_t_children a_t_judgedBy a_t_lawful a_t_shares a_t_wheel a_t_wives a_t_judgedBy_first a_t_judgedBy_second a_t_judgedBy_sort a_t_wheel_child a_t_wheel_father a_t_wheel_husband a_t_wheel_wife u_t_orders u_t_orderCount u_t_keepers u_t_keeperCount s_p0_count s_t_judged s_t_kindCount v12 s_t_lawfulSystems s_t_size r_p0_first r_p0_second r_p0_sort r_t_children s_t_judgedBy_count q11 r_t_shares r7.1 r_t_wives r_t_judgedBy_first r_t_judgedBy_second r_t_judgedBy_sort r7.2.1 r7.2.2.1 r7.2.2.2.1 r7.2.2.2.2) H := hP
          have hD : va_D A (w_X0_judge cI cB cZ a_p0 a_t a_p0_first a_p0_second a_p0_sort a_t_children a_t_judgedBy a_t_lawful a_t_shares a_t_wheel a_t_wives a_t_judgedBy_first a_t_judgedBy_second a_t_judgedBy_sort a_t_wheel_child a_t_wheel_father a_t_wheel_husband a_t_wheel_wife u_t_orders u_t_orderCount u_t_keepers u_t_keeperCount s_p0_count s_t_judged s_t_kindCount v12 s_t_lawfulSystems s_t_size r_p0_first r_p0_second r_p0_sort r_t_children s_t_judgedBy_count q11 r_t_shares r7.1 r_t_wives r_t_judgedBy_first r_t_judgedBy_second r_t_judgedBy_sort r7.2.1 r7.2.2.1 r7.2.2.2.1 r7.2.2.2.2) := hD
          refine lv_aload_n hx hb dX0_judge_122 rfl (lv_at hl 0 rfl) ?_
          refine lv_dup hx hb dX0_judge_123 rfl ?_
          refine va_get (D := D) (ci := 0) (v := .int s_t_lawfulSystems) (C := RX0) (T := TX0) (N := 15) hx hb hts iw_X0 hown hK hP 1 rfl rfl 11 (by decide) (hts _ (wG_in k_fl_X0_112 rfl)) (fun _ h9 => h9) rfl dX0_judge_124 ?_
          refine lv_aload_n hx hb dX0_judge_127 rfl (lv_at hl 0 rfl) ?_
          refine va_get (D := D) (ci := 0) (v := .ref a_t_shares) (C := RX0) (T := TX0) (N := 15) hx hb hts iw_X0 hown hK hP 1 rfl rfl 7 (by decide) (hts _ (wG_in k_fl_X0_24 rfl)) (fun _ h9 => h9) rfl dX0_judge_128 ?_
          refine lv_iload_n hx hb dX0_judge_131 rfl (lv_at hl 2 rfl) ?_
          obtain ⟨v13, hv13, iv13, hf⟩ := jL_some hf
          refine ja_iald (P := r_t_shares) hx hb hK hP 8 0 rfl rfl hv13 iv13 dX0_judge_132 ?_
          refine lv_iadd hx hb dX0_judge_133 ?_
          obtain ⟨v14, hv14, hf⟩ := jV_some hf
          refine jtop hv14 ?_
          refine va_put (D := D) (ci := 0) (v := .int v14) (ty := .int) (C := RX0) (T := TX0) (N := 15) hx hb hts iw_X0 tyX0 tyX0_ok nmX0 hown hK hP hD hS 1 rfl rfl 11 (by decide) (hts _ (wG_in k_fl_X0_112 rfl)) (fun _ h9 => h9) rfl (tyX0_ok 11 (by decide)) rfl rfl (Nat.le_of_ble_eq_true rfl) dX0_judge_134 (fun H locs hP hD hS => ?_)
          have hP : va_P D vwCl (w_X0_judge cI cB cZ a_p0 a_t a_p0_first a_p0_second a_p0_sort a_t_children a_t_judgedBy a_t_lawful a_t_shares a_t_wheel a_t_wives a_t_judgedBy_first a_t_judgedBy_second a_t_judgedBy_sort a_t_wheel_child a_t_wheel_father a_t_wheel_husband a_t_wheel_wife u_t_orders u_t_orderCount u_t_keepers u_t_keeperCount s_p0_count s_t_judged s_t_kindCount v12 v14 s_t_size r_p0_first r_p0_second r_p0_sort r_t_children s_t_judgedBy_count q11 r_t_shares r7.1 r_t_wives r_t_judgedBy_first r_t_judgedBy_second r_t_judgedBy_sort r7.2.1 r7.2.2.1 r7.2.2.2.1 r7.2.2.2.2) H := hP
          have hD : va_D A (w_X0_judge cI cB cZ a_p0 a_t a_p0_first a_p0_second a_p0_sort a_t_children a_t_judgedBy a_t_lawful a_t_shares a_t_wheel a_t_wives a_t_judgedBy_first a_t_judgedBy_second a_t_judgedBy_sort a_t_wheel_child a_t_wheel_father a_t_wheel_husband a_t_wheel_wife u_t_orders u_t_orderCount u_t_keepers u_t_keeperCount s_p0_count s_t_judged s_t_kindCount v12 v14 s_t_size r_p0_first r_p0_second r_p0_sort r_t_children s_t_judgedBy_count q11 r_t_shares r7.1 r_t_wives r_t_judgedBy_first r_t_judgedBy_second r_t_judgedBy_sort r7.2.1 r7.2.2.1 r7.2.2.2.1 r7.2.2.2.2) := hD
          exact t_X0_judge_j137 G D cI cB cZ a_p0 a_t a_p0_first a_p0_second a_p0_sort a_t_children a_t_judgedBy a_t_lawful a_t_shares a_t_wheel a_t_wives a_t_judgedBy_first a_t_judgedBy_second a_t_judgedBy_sort a_t_wheel_child a_t_wheel_father a_t_wheel_husband a_t_wheel_wife u_t_orders u_t_orderCount u_t_keepers u_t_keeperCount s_p0_count s_t_kindCount s_t_size r_p0_first r_p0_second r_p0_sort r_t_children r_t_shares r_t_wives s_t_judged v12 v14 s_t_judgedBy_count q11 r7.1 r_t_judgedBy_first r_t_judgedBy_second r_t_judgedBy_sort r7.2.1 r7.2.2.1 r7.2.2.2.1 r7.2.2.2.2 x2 C hf K hP hD hS (lv_sub hl [0, 1, 2] rfl)
def f_X0_judge_l44 (s_p0_count s_t_kindCount s_t_size : Int32) (r_p0_first r_p0_second r_p0_sort r_t_children r_t_shares r_t_wives : jA) (s_t_judged s_t_judgedBy_count : Int32) (r_t_judgedBy_first r_t_judgedBy_second r_t_judgedBy_sort : jA) (s_t_lawfulCount s_t_lawfulSystems : Int32) (r_t_lawful : jA) (s_t_wheel_size : Int32) (r_t_wheel_child r_t_wheel_father r_t_wheel_husband r_t_wheel_wife : jA) (x2 : Int32) : Option ((Int32 × Int32 × jA × Int32 × jA × jA × jA × jA)) :=
  jI (fun z => f_X0_judge_b44 s_p0_count s_t_kindCount s_t_size r_p0_first r_p0_second r_p0_sort r_t_children r_t_shares r_t_wives s_t_judged z.1 z.2.1 s_t_judgedBy_count z.2.2.1 z.2.2.2.1 r_t_judgedBy_first r_t_judgedBy_second r_t_judgedBy_sort z.2.2.2.2.1 z.2.2.2.2.2.1 z.2.2.2.2.2.2.1 z.2.2.2.2.2.2.2.1 z.2.2.2.2.2.2.2.2) jF (s_t_lawfulCount, s_t_lawfulSystems, r_t_lawful, s_t_wheel_size, r_t_wheel_child, r_t_wheel_father, r_t_wheel_husband, r_t_wheel_wife, x2)
set_option maxHeartbeats 4000000 in
set_option maxRecDepth 100000 in
theorem t_X0_judge_l44 {p : Program} {l : Launch} {e : Env} {s : State} {m : MethodId} {args : Array Value} {below : List Frame} {meth : Method} {c : Code} {A : Nat → Prop} {Q : State → Prop} (G : jGt) (D : va_G) (cI cB cZ : ClassId) (a_p0 a_t a_p0_first a_p0_second a_p0_sort a_t_children a_t_judgedBy a_t_lawful a_t_shares a_t_wheel a_t_wives a_t_judgedBy_first a_t_judgedBy_second a_t_judgedBy_sort a_t_wheel_child a_t_wheel_father a_t_wheel_husband a_t_wheel_wife : Nat) (u_t_orders : Value) (u_t_orderCount : Int32) (u_t_keepers : Value) (u_t_keeperCount s_p0_count s_t_kindCount s_t_size : Int32) (r_p0_first r_p0_second r_p0_sort r_t_children r_t_shares r_t_wives : jA) (s_t_judged s_t_judgedBy_count : Int32) (r_t_judgedBy_first r_t_judgedBy_second r_t_judgedBy_sort : jA) (C : jCx p s m args c cX0_judge 3 gX0_judge RX0 G D (jT cI cB cZ) A) : ∀ (n : Nat) (s_t_lawfulCount s_t_lawfulSystems : Int32) (r_t_lawful : jA) (s_t_wheel_size : Int32) (r_t_wheel_child r_t_wheel_father r_t_wheel_husband r_t_wheel_wife : jA) (x2 : Int32) {eo : (Int32 × Int32 × jA × Int32 × jA × jA × jA × jA)}, jI (fun z => f_X0_judge_b44 s_p0_count s_t_kindCount s_t_size r_p0_first r_p0_second r_p0_sort r_t_children r_t_shares r_t_wives s_t_judged z.1 z.2.1 s_t_judgedBy_count z.2.2.1 z.2.2.2.1 r_t_judgedBy_first r_t_judgedBy_second r_t_judgedBy_sort z.2.2.2.2.1 z.2.2.2.2.2.1 z.2.2.2.2.2.2.1 z.2.2.2.2.2.2.2.1 z.2.2.2.2.2.2.2.2) n (s_t_lawfulCount, s_t_lawfulSystems, r_t_lawful, s_t_wheel_size, r_t_wheel_child, r_t_wheel_father, r_t_wheel_husband, r_t_wheel_wife, x2) = some eo → (∀ (H : Heap) (locs : List Loc) (ls : Array Slot), va_P D vwCl (w_X0_judge cI cB cZ a_p0 a_t a_p0_first a_p0_second a_p0_sort a_t_children a_t_judgedBy a_t_lawful a_t_shares a_t_wheel a_t_wives a_t_judgedBy_first a_t_judgedBy_second a_t_judgedBy_sort a_t_wheel_child a_t_wheel_father a_t_wheel_husband a_t_wheel_wife u_t_orders u_t_orderCount u_t_keepers u_t_keeperCount s_p0_count s_t_judged s_t_kindCount eo.1 eo.2.1 s_t_size r_p0_first r_p0_second r_p0_sort r_t_children s_t_judgedBy_count eo.2.2.1 r_t_shares eo.2.2.2.1 r_t_wives r_t_judgedBy_first r_t_judgedBy_second r_t_judgedBy_sort eo.2.2.2.2.1 eo.2.2.2.2.2.1 eo.2.2.2.2.2.2.1 eo.2.2.2.2.2.2.2) H → va_D A (w_X0_judge cI cB cZ a_p0 a_t a_p0_first a_p0_second a_p0_sort a_t_children a_t_judgedBy a_t_lawful a_t_shares a_t_wheel a_t_wives a_t_judgedBy_first a_t_judgedBy_second a_t_judgedBy_sort a_t_wheel_child a_t_wheel_father a_t_wheel_husband a_t_wheel_wife u_t_orders u_t_orderCount u_t_keepers u_t_keeperCount s_p0_count s_t_judged s_t_kindCount eo.1 eo.2.1 s_t_size r_p0_first r_p0_second r_p0_sort r_t_children s_t_judgedBy_count eo.2.2.1 r_t_shares eo.2.2.2.1 r_t_wives r_t_judgedBy_first r_t_judgedBy_second r_t_judgedBy_sort eo.2.2.2.2.1 eo.2.2.2.2.2.1 eo.2.2.2.2.2.2.1 eo.2.2.2.2.2.2.2) → va_S A s.heap H locs → lv_has ls 3 [] → W p l e rX0_judge s m args below meth c H locs 0 0 Q (F0 m 143 ls [])) → ∀ (H : Heap) (locs : List Loc) (ls : Array Slot), va_P D vwCl (w_X0_judge cI cB cZ a_p0 a_t a_p0_first a_p0_second a_p0_sort a_t_children a_t_judgedBy a_t_lawful a_t_shares a_t_wheel a_t_wives a_t_judgedBy_first a_t_judgedBy_second a_t_judgedBy_sort a_t_wheel_child a_t_wheel_father a_t_wheel_husband a_t_wheel_wife u_t_orders u_t_orderCount u_t_keepers u_t_keeperCount s_p0_count s_t_judged s_t_kindCount s_t_lawfulCount s_t_lawfulSystems s_t_size r_p0_first r_p0_second r_p0_sort r_t_children s_t_judgedBy_count r_t_lawful r_t_shares s_t_wheel_size r_t_wives r_t_judgedBy_first r_t_judgedBy_second r_t_judgedBy_sort r_t_wheel_child r_t_wheel_father r_t_wheel_husband r_t_wheel_wife) H → va_D A (w_X0_judge cI cB cZ a_p0 a_t a_p0_first a_p0_second a_p0_sort a_t_children a_t_judgedBy a_t_lawful a_t_shares a_t_wheel a_t_wives a_t_judgedBy_first a_t_judgedBy_second a_t_judgedBy_sort a_t_wheel_child a_t_wheel_father a_t_wheel_husband a_t_wheel_wife u_t_orders u_t_orderCount u_t_keepers u_t_keeperCount s_p0_count s_t_judged s_t_kindCount s_t_lawfulCount s_t_lawfulSystems s_t_size r_p0_first r_p0_second r_p0_sort r_t_children s_t_judgedBy_count r_t_lawful r_t_shares s_t_wheel_size r_t_wives r_t_judgedBy_first r_t_judgedBy_second r_t_judgedBy_sort r_t_wheel_child r_t_wheel_father r_t_wheel_husband r_t_wheel_wife) → va_S A s.heap H locs → lv_has ls 3 [(0, .ref a_t), (1, .ref a_p0), (2, .int x2)] → W p l e rX0_judge s m args below meth c H locs 0 0 Q (F0 m 44 ls []) := by
  intro n
  induction n with
  | zero =>
    intro s_t_lawfulCount s_t_lawfulSystems r_t_lawful s_t_wheel_size r_t_wheel_child r_t_wheel_father r_t_wheel_husband r_t_wheel_wife x2 eo hf
    exact (jI_zero hf).elim
  | succ n ih =>
    intro s_t_lawfulCount s_t_lawfulSystems r_t_lawful s_t_wheel_size r_t_wheel_child r_t_wheel_father r_t_wheel_husband r_t_wheel_wife x2 eo hf K H locs ls hP hD hS hl
    obtain ⟨o, hb1, ho⟩ := jI_some hf
    rcases ho with ⟨z, rfl, hf2⟩ | rfl
    · exact t_X0_judge_b44 G D cI cB cZ a_p0 a_t a_p0_first a_p0_second a_p0_sort a_t_children a_t_judgedBy a_t_lawful a_t_shares a_t_wheel a_t_wives a_t_judgedBy_first a_t_judgedBy_second a_t_judgedBy_sort a_t_wheel_child a_t_wheel_father a_t_wheel_husband a_t_wheel_wife u_t_orders u_t_orderCount u_t_keepers u_t_keeperCount s_p0_count s_t_kindCount s_t_size r_p0_first r_p0_second r_p0_sort r_t_children r_t_shares r_t_wives s_t_judged s_t_lawfulCount s_t_lawfulSystems s_t_judgedBy_count r_t_lawful s_t_wheel_size r_t_judgedBy_first r_t_judgedBy_second r_t_judgedBy_sort r_t_wheel_child r_t_wheel_father r_t_wheel_husband r_t_wheel_wife x2 C hb1 ⟨fun z2 hz H locs ls hP hD hS hl => by cases hz; exact ih z.1 z.2.1 z.2.2.1 z.2.2.2.1 z.2.2.2.2.1 z.2.2.2.2.2.1 z.2.2.2.2.2.2.1 z.2.2.2.2.2.2.2.1 z.2.2.2.2.2.2.2.2 hf2 K H locs ls hP hD hS hl, fun z2 hz => by cases hz⟩ hP hD hS hl
    · exact t_X0_judge_b44 G D cI cB cZ a_p0 a_t a_p0_first a_p0_second a_p0_sort a_t_children a_t_judgedBy a_t_lawful a_t_shares a_t_wheel a_t_wives a_t_judgedBy_first a_t_judgedBy_second a_t_judgedBy_sort a_t_wheel_child a_t_wheel_father a_t_wheel_husband a_t_wheel_wife u_t_orders u_t_orderCount u_t_keepers u_t_keeperCount s_p0_count s_t_kindCount s_t_size r_p0_first r_p0_second r_p0_sort r_t_children r_t_shares r_t_wives s_t_judged s_t_lawfulCount s_t_lawfulSystems s_t_judgedBy_count r_t_lawful s_t_wheel_size r_t_judgedBy_first r_t_judgedBy_second r_t_judgedBy_sort r_t_wheel_child r_t_wheel_father r_t_wheel_husband r_t_wheel_wife x2 C hb1 ⟨fun z2 hz => (by cases hz), fun z2 hz => by cases hz; exact K⟩ hP hD hS hl
def f_X0_judge_j19 (s_p0_count s_t_kindCount s_t_size : Int32) (r_p0_first r_p0_second r_p0_sort r_t_children r_t_shares r_t_wives : jA) (s_t_judged s_t_lawfulCount s_t_lawfulSystems s_t_judgedBy_count : Int32) (r_t_lawful : jA) (s_t_wheel_size : Int32) (r_t_judgedBy_first r_t_judgedBy_second r_t_judgedBy_sort r_t_wheel_child r_t_wheel_father r_t_wheel_husband r_t_wheel_wife : jA) : Option (Int32 × Int32 × Int32 × Int32 × jA × Int32 × jA × jA × jA × jA × jA × jA × jA) :=
  jM (f_X3_copyFrom s_p0_count r_p0_first r_p0_second r_p0_sort s_t_judgedBy_count r_t_judgedBy_first r_t_judgedBy_second r_t_judgedBy_sort) fun r2 =>
  jM (f_X0_judge_l44 s_p0_count s_t_kindCount s_t_size r_p0_first r_p0_second r_p0_sort r_t_children r_t_shares r_t_wives (1 : Int32) r2.1 r2.2.1 r2.2.2.1 r2.2.2.2 (0 : Int32) (0 : Int32) r_t_lawful s_t_wheel_size r_t_wheel_child r_t_wheel_father r_t_wheel_husband r_t_wheel_wife (0 : Int32)) fun e15 =>
  some ((1 : Int32), e15.1, e15.2.1, r2.1, e15.2.2.1, e15.2.2.2.1, r2.2.1, r2.2.2.1, r2.2.2.2, e15.2.2.2.2.1, e15.2.2.2.2.2.1, e15.2.2.2.2.2.2.1, e15.2.2.2.2.2.2.2)
set_option maxHeartbeats 4000000 in
set_option maxRecDepth 100000 in
theorem t_X0_judge_j19 {p : Program} {l : Launch} {e : Env} {s : State} {m : MethodId} {args : Array Value} {below : List Frame} {meth : Method} {c : Code} {A : Nat → Prop} {Q : State → Prop} (G : jGt) (D : va_G) (cI cB cZ : ClassId) (a_p0 a_t a_p0_first a_p0_second a_p0_sort a_t_children a_t_judgedBy a_t_lawful a_t_shares a_t_wheel a_t_wives a_t_judgedBy_first a_t_judgedBy_second a_t_judgedBy_sort a_t_wheel_child a_t_wheel_father a_t_wheel_husband a_t_wheel_wife : Nat) (u_t_orders : Value) (u_t_orderCount : Int32) (u_t_keepers : Value) (u_t_keeperCount s_p0_count s_t_kindCount s_t_size : Int32) (r_p0_first r_p0_second r_p0_sort r_t_children r_t_shares r_t_wives : jA) (s_t_judged s_t_lawfulCount s_t_lawfulSystems s_t_judgedBy_count : Int32) (r_t_lawful : jA) (s_t_wheel_size : Int32) (r_t_judgedBy_first r_t_judgedBy_second r_t_judgedBy_sort r_t_wheel_child r_t_wheel_father r_t_wheel_husband r_t_wheel_wife : jA) (C : jCx p s m args c cX0_judge 3 gX0_judge RX0 G D (jT cI cB cZ) A) {o : Int32 × Int32 × Int32 × Int32 × jA × Int32 × jA × jA × jA × jA × jA × jA × jA} (hf : f_X0_judge_j19 s_p0_count s_t_kindCount s_t_size r_p0_first r_p0_second r_p0_sort r_t_children r_t_shares r_t_wives s_t_judged s_t_lawfulCount s_t_lawfulSystems s_t_judgedBy_count r_t_lawful s_t_wheel_size r_t_judgedBy_first r_t_judgedBy_second r_t_judgedBy_sort r_t_wheel_child r_t_wheel_father r_t_wheel_husband r_t_wheel_wife = some o) (K : ∀ (H : Heap) (locs : List Loc) (pc : Nat) (ls : Array Slot), va_P D vwCl (w_X0_judge cI cB cZ a_p0 a_t a_p0_first a_p0_second a_p0_sort a_t_children a_t_judgedBy a_t_lawful a_t_shares a_t_wheel a_t_wives a_t_judgedBy_first a_t_judgedBy_second a_t_judgedBy_sort a_t_wheel_child a_t_wheel_father a_t_wheel_husband a_t_wheel_wife u_t_orders u_t_orderCount u_t_keepers u_t_keeperCount s_p0_count o.1 s_t_kindCount o.2.1 o.2.2.1 s_t_size r_p0_first r_p0_second r_p0_sort r_t_children o.2.2.2.1 o.2.2.2.2.1 r_t_shares o.2.2.2.2.2.1 r_t_wives o.2.2.2.2.2.2.1 o.2.2.2.2.2.2.2.1 o.2.2.2.2.2.2.2.2.1 o.2.2.2.2.2.2.2.2.2.1 o.2.2.2.2.2.2.2.2.2.2.1 o.2.2.2.2.2.2.2.2.2.2.2.1 o.2.2.2.2.2.2.2.2.2.2.2.2) H → va_S A s.heap H locs → decode cX0_judge pc = .ok (.return_, 1) → W p l e rX0_judge s m args below meth c H locs 0 0 Q (F0 m pc ls [])) {H : Heap} {locs : List Loc} {ls : Array Slot} (hP : va_P D vwCl (w_X0_judge cI cB cZ a_p0 a_t a_p0_first a_p0_second a_p0_sort a_t_children a_t_judgedBy a_t_lawful a_t_shares a_t_wheel a_t_wives a_t_judgedBy_first a_t_judgedBy_second a_t_judgedBy_sort a_t_wheel_child a_t_wheel_father a_t_wheel_husband a_t_wheel_wife u_t_orders u_t_orderCount u_t_keepers u_t_keeperCount s_p0_count s_t_judged s_t_kindCount s_t_lawfulCount s_t_lawfulSystems s_t_size r_p0_first r_p0_second r_p0_sort r_t_children s_t_judgedBy_count r_t_lawful r_t_shares s_t_wheel_size r_t_wives r_t_judgedBy_first r_t_judgedBy_second r_t_judgedBy_sort r_t_wheel_child r_t_wheel_father r_t_wheel_husband r_t_wheel_wife) H) (hD : va_D A (w_X0_judge cI cB cZ a_p0 a_t a_p0_first a_p0_second a_p0_sort a_t_children a_t_judgedBy a_t_lawful a_t_shares a_t_wheel a_t_wives a_t_judgedBy_first a_t_judgedBy_second a_t_judgedBy_sort a_t_wheel_child a_t_wheel_father a_t_wheel_husband a_t_wheel_wife u_t_orders u_t_orderCount u_t_keepers u_t_keeperCount s_p0_count s_t_judged s_t_kindCount s_t_lawfulCount s_t_lawfulSystems s_t_size r_p0_first r_p0_second r_p0_sort r_t_children s_t_judgedBy_count r_t_lawful r_t_shares s_t_wheel_size r_t_wives r_t_judgedBy_first r_t_judgedBy_second r_t_judgedBy_sort r_t_wheel_child r_t_wheel_father r_t_wheel_husband r_t_wheel_wife)) (hS : va_S A s.heap H locs) (hl : lv_has ls 3 [(0, .ref a_t), (1, .ref a_p0)]) : W p l e rX0_judge s m args below meth c H locs 0 0 Q (F0 m 19 ls []) := by
  obtain ⟨⟨hx, hb, hml, hown, hts⟩, hK, hN, hA⟩ := C
  have C : jCx p s m args c cX0_judge 3 gX0_judge RX0 G D (jT cI cB cZ) A := ⟨⟨hx, hb, hml, hown, hts⟩, hK, hN, hA⟩
  unfold f_X0_judge_j19 at hf
  refine lv_aload_n hx hb dX0_judge_19 rfl (lv_at hl 0 rfl) ?_
  refine lv_iconst (v := (1 : Int32)) hx hb dX0_judge_20 (by decide) ?_
  refine va_put (D := D) (ci := 0) (v := .int (1 : Int32)) (ty := .boolean) (C := RX0) (T := TX0) (N := 15) hx hb hts iw_X0 tyX0 tyX0_ok nmX0 hown hK hP hD hS 1 rfl rfl 13 (by decide) (hts _ (wG_in k_fl_X0_97 rfl)) (fun _ h9 => h9) rfl (tyX0_ok 13 (by decide)) (by decide) (by decide) (Nat.le_of_ble_eq_true rfl) dX0_judge_21 (fun H locs hP hD hS => ?_)
  have hP : va_P D vwCl (w_X0_judge cI cB cZ a_p0 a_t a_p0_first a_p0_second a_p0_sort a_t_children a_t_judgedBy a_t_lawful a_t_shares a_t_wheel a_t_wives a_t_judgedBy_first a_t_judgedBy_second a_t_judgedBy_sort a_t_wheel_child a_t_wheel_father a_t_wheel_husband a_t_wheel_wife u_t_orders u_t_orderCount u_t_keepers u_t_keeperCount s_p0_count (1 : Int32) s_t_kindCount s_t_lawfulCount s_t_lawfulSystems s_t_size r_p0_first r_p0_second r_p0_sort r_t_children s_t_judgedBy_count r_t_lawful r_t_shares s_t_wheel_size r_t_wives r_t_judgedBy_first r_t_judgedBy_second r_t_judgedBy_sort r_t_wheel_child r_t_wheel_father r_t_wheel_husband r_t_wheel_wife) H := hP
  have hD : va_D A (w_X0_judge cI cB cZ a_p0 a_t a_p0_first a_p0_second a_p0_sort a_t_children a_t_judgedBy a_t_lawful a_t_shares a_t_wheel a_t_wives a_t_judgedBy_first a_t_judgedBy_second a_t_judgedBy_sort a_t_wheel_child a_t_wheel_father a_t_wheel_husband a_t_wheel_wife u_t_orders u_t_orderCount u_t_keepers u_t_keeperCount s_p0_count (1 : Int32) s_t_kindCount s_t_lawfulCount s_t_lawfulSystems s_t_size r_p0_first r_p0_second r_p0_sort r_t_children s_t_judgedBy_count r_t_lawful r_t_shares s_t_wheel_size r_t_wives r_t_judgedBy_first r_t_judgedBy_second r_t_judgedBy_sort r_t_wheel_child r_t_wheel_father r_t_wheel_husband r_t_wheel_wife) := hD
  refine lv_aload_n hx hb dX0_judge_24 rfl (lv_at hl 0 rfl) ?_
  refine va_get (D := D) (ci := 0) (v := .ref a_t_judgedBy) (C := RX0) (T := TX0) (N := 15) hx hb hts iw_X0 hown hK hP 1 rfl rfl 12 (by decide) (hts _ (wG_in k_fl_X0_33 rfl)) (fun _ h9 => h9) rfl dX0_judge_25 ?_
  refine lv_aload_n hx hb dX0_judge_28 rfl (lv_at hl 1 rfl) ?_
  obtain ⟨r2, hgr2, hf⟩ := jM_some hf
  refine jcV_v (As := [.ref a_p0]) (rest := []) ⟨hx, hb, hml, hown, hts⟩ hK hN hA (c_X3_copyFrom l G D cI cB cZ a_p0 a_t_judgedBy a_p0_first a_p0_second a_p0_sort a_t_judgedBy_first a_t_judgedBy_second a_t_judgedBy_sort s_p0_count r_p0_first r_p0_second r_p0_sort s_t_judgedBy_count r_t_judgedBy_first r_t_judgedBy_second r_t_judgedBy_sort hgr2) (cwV 1 hts (wG_V k_ml_X0_105 k_im_X3_copyFrom k_se_X3_copyFrom k_in_X3 k_co_X3_copyFrom) rfl rfl rfl hd_X3_copyFrom ⟨Nat.le_of_ble_eq_true rfl, Nat.le_of_ble_eq_true rfl⟩) hP hD hS [0, 6, 2, 3, 4, 11, 12, 13] rfl rfl rfl (ci := 2) rfl 6 rfl rfl rfl hl.1 rfl (Nat.le_of_ble_eq_true rfl) dX0_judge_29 ⟨Nat.le_of_ble_eq_true rfl, Nat.le_of_ble_eq_true rfl⟩ (fun H locs hP hD hS => ?_)
  simp only [jset_cons, jset_nil, w_X3_copyFrom, ws_X0_judge_0, ws_X0_judge_6, ws_X0_judge_2, ws_X0_judge_3, ws_X0_judge_4, ws_X0_judge_11, ws_X0_judge_12, ws_X0_judge_13] at hP hD
  have hP : va_P D vwCl (w_X0_judge cI cB cZ a_p0 a_t a_p0_first a_p0_second a_p0_sort a_t_children a_t_judgedBy a_t_lawful a_t_shares a_t_wheel a_t_wives a_t_judgedBy_first a_t_judgedBy_second a_t_judgedBy_sort a_t_wheel_child a_t_wheel_father a_t_wheel_husband a_t_wheel_wife u_t_orders u_t_orderCount u_t_keepers u_t_keeperCount s_p0_count (1 : Int32) s_t_kindCount s_t_lawfulCount s_t_lawfulSystems s_t_size r_p0_first r_p0_second r_p0_sort r_t_children r2.1 r_t_lawful r_t_shares s_t_wheel_size r_t_wives r2.2.1 r2.2.2.1 r2.2.2.2 r_t_wheel_child r_t_wheel_father r_t_wheel_husband r_t_wheel_wife) H := hP
  have hD : va_D A (w_X0_judge cI cB cZ a_p0 a_t a_p0_first a_p0_second a_p0_sort a_t_children a_t_judgedBy a_t_lawful a_t_shares a_t_wheel a_t_wives a_t_judgedBy_first a_t_judgedBy_second a_t_judgedBy_sort a_t_wheel_child a_t_wheel_father a_t_wheel_husband a_t_wheel_wife u_t_orders u_t_orderCount u_t_keepers u_t_keeperCount s_p0_count (1 : Int32) s_t_kindCount s_t_lawfulCount s_t_lawfulSystems s_t_size r_p0_first r_p0_second r_p0_sort r_t_children r2.1 r_t_lawful r_t_shares s_t_wheel_size r_t_wives r2.2.1 r2.2.2.1 r2.2.2.2 r_t_wheel_child r_t_wheel_father r_t_wheel_husband r_t_wheel_wife) := hD
  refine lv_aload_n hx hb dX0_judge_32 rfl (lv_at hl 0 rfl) ?_
  refine lv_iconst (v := (0 : Int32)) hx hb dX0_judge_33 (by decide) ?_
  refine va_put (D := D) (ci := 0) (v := .int (0 : Int32)) (ty := .int) (C := RX0) (T := TX0) (N := 15) hx hb hts iw_X0 tyX0 tyX0_ok nmX0 hown hK hP hD hS 1 rfl rfl 10 (by decide) (hts _ (wG_in k_fl_X0_109 rfl)) (fun _ h9 => h9) rfl (tyX0_ok 10 (by decide)) rfl rfl (Nat.le_of_ble_eq_true rfl) dX0_judge_34 (fun H locs hP hD hS => ?_)
  have hP : va_P D vwCl (w_X0_judge cI cB cZ a_p0 a_t a_p0_first a_p0_second a_p0_sort a_t_children a_t_judgedBy a_t_lawful a_t_shares a_t_wheel a_t_wives a_t_judgedBy_first a_t_judgedBy_second a_t_judgedBy_sort a_t_wheel_child a_t_wheel_father a_t_wheel_husband a_t_wheel_wife u_t_orders u_t_orderCount u_t_keepers u_t_keeperCount s_p0_count (1 : Int32) s_t_kindCount (0 : Int32) s_t_lawfulSystems s_t_size r_p0_first r_p0_second r_p0_sort r_t_children r2.1 r_t_lawful r_t_shares s_t_wheel_size r_t_wives r2.2.1 r2.2.2.1 r2.2.2.2 r_t_wheel_child r_t_wheel_father r_t_wheel_husband r_t_wheel_wife) H := hP
  have hD : va_D A (w_X0_judge cI cB cZ a_p0 a_t a_p0_first a_p0_second a_p0_sort a_t_children a_t_judgedBy a_t_lawful a_t_shares a_t_wheel a_t_wives a_t_judgedBy_first a_t_judgedBy_second a_t_judgedBy_sort a_t_wheel_child a_t_wheel_father a_t_wheel_husband a_t_wheel_wife u_t_orders u_t_orderCount u_t_keepers u_t_keeperCount s_p0_count (1 : Int32) s_t_kindCount (0 : Int32) s_t_lawfulSystems s_t_size r_p0_first r_p0_second r_p0_sort r_t_children r2.1 r_t_lawful r_t_shares s_t_wheel_size r_t_wives r2.2.1 r2.2.2.1 r2.2.2.2 r_t_wheel_child r_t_wheel_father r_t_wheel_husband r_t_wheel_wife) := hD
  refine lv_aload_n hx hb dX0_judge_37 rfl (lv_at hl 0 rfl) ?_
  refine lv_iconst (v := (0 : Int32)) hx hb dX0_judge_38 (by decide) ?_
  refine va_put (D := D) (ci := 0) (v := .int (0 : Int32)) (ty := .int) (C := RX0) (T := TX0) (N := 15) hx hb hts iw_X0 tyX0 tyX0_ok nmX0 hown hK hP hD hS 1 rfl rfl 11 (by decide) (hts _ (wG_in k_fl_X0_112 rfl)) (fun _ h9 => h9) rfl (tyX0_ok 11 (by decide)) rfl rfl (Nat.le_of_ble_eq_true rfl) dX0_judge_39 (fun H locs hP hD hS => ?_)
  have hP : va_P D vwCl (w_X0_judge cI cB cZ a_p0 a_t a_p0_first a_p0_second a_p0_sort a_t_children a_t_judgedBy a_t_lawful a_t_shares a_t_wheel a_t_wives a_t_judgedBy_first a_t_judgedBy_second a_t_judgedBy_sort a_t_wheel_child a_t_wheel_father a_t_wheel_husband a_t_wheel_wife u_t_orders u_t_orderCount u_t_keepers u_t_keeperCount s_p0_count (1 : Int32) s_t_kindCount (0 : Int32) (0 : Int32) s_t_size r_p0_first r_p0_second r_p0_sort r_t_children r2.1 r_t_lawful r_t_shares s_t_wheel_size r_t_wives r2.2.1 r2.2.2.1 r2.2.2.2 r_t_wheel_child r_t_wheel_father r_t_wheel_husband r_t_wheel_wife) H := hP
  have hD : va_D A (w_X0_judge cI cB cZ a_p0 a_t a_p0_first a_p0_second a_p0_sort a_t_children a_t_judgedBy a_t_lawful a_t_shares a_t_wheel a_t_wives a_t_judgedBy_first a_t_judgedBy_second a_t_judgedBy_sort a_t_wheel_child a_t_wheel_father a_t_wheel_husband a_t_wheel_wife u_t_orders u_t_orderCount u_t_keepers u_t_keeperCount s_p0_count (1 : Int32) s_t_kindCount (0 : Int32) (0 : Int32) s_t_size r_p0_first r_p0_second r_p0_sort r_t_children r2.1 r_t_lawful r_t_shares s_t_wheel_size r_t_wives r2.2.1 r2.2.2.1 r2.2.2.2 r_t_wheel_child r_t_wheel_father r_t_wheel_husband r_t_wheel_wife) := hD
  refine lv_iconst (v := (0 : Int32)) hx hb dX0_judge_42 (by decide) ?_
  refine lv_istore_n (lv' := [(2, .int (0 : Int32)), (0, .ref a_t), (1, .ref a_p0)]) hx hb dX0_judge_43 rfl hl (by decide) rfl (fun ls hl => ?_)
  obtain ⟨e15, hg15, hf⟩ := jM_some hf
  refine t_X0_judge_l44 G D cI cB cZ a_p0 a_t a_p0_first a_p0_second a_p0_sort a_t_children a_t_judgedBy a_t_lawful a_t_shares a_t_wheel a_t_wives a_t_judgedBy_first a_t_judgedBy_second a_t_judgedBy_sort a_t_wheel_child a_t_wheel_father a_t_wheel_husband a_t_wheel_wife u_t_orders u_t_orderCount u_t_keepers u_t_keeperCount s_p0_count s_t_kindCount s_t_size r_p0_first r_p0_second r_p0_sort r_t_children r_t_shares r_t_wives (1 : Int32) r2.1 r2.2.1 r2.2.2.1 r2.2.2.2 C jF (0 : Int32) (0 : Int32) r_t_lawful s_t_wheel_size r_t_wheel_child r_t_wheel_father r_t_wheel_husband r_t_wheel_wife (0 : Int32) hg15 ?_ _ _ _ hP hD hS (lv_sub hl [1, 2, 0] rfl)
  intro H locs ls hP hD hS hl
  have ho := Option.some.inj hf
  subst ho
  exact K _ _ _ _ hP hS dX0_judge_143
def f_X0_judge (s_p0_count s_t_kindCount s_t_size : Int32) (r_p0_first r_p0_second r_p0_sort r_t_children r_t_shares r_t_wives : jA) (s_t_judged s_t_lawfulCount s_t_lawfulSystems s_t_judgedBy_count : Int32) (r_t_lawful : jA) (s_t_wheel_size : Int32) (r_t_judgedBy_first r_t_judgedBy_second r_t_judgedBy_sort r_t_wheel_child r_t_wheel_father r_t_wheel_husband r_t_wheel_wife : jA) : Option (Int32 × Int32 × Int32 × Int32 × jA × Int32 × jA × jA × jA × jA × jA × jA × jA) :=
  if s_t_judged = 0 then
  f_X0_judge_j19 s_p0_count s_t_kindCount s_t_size r_p0_first r_p0_second r_p0_sort r_t_children r_t_shares r_t_wives s_t_judged s_t_lawfulCount s_t_lawfulSystems s_t_judgedBy_count r_t_lawful s_t_wheel_size r_t_judgedBy_first r_t_judgedBy_second r_t_judgedBy_sort r_t_wheel_child r_t_wheel_father r_t_wheel_husband r_t_wheel_wife
  else
  jM (f_X3_sameAs s_p0_count s_t_judgedBy_count r_p0_first r_p0_second r_p0_sort r_t_judgedBy_first r_t_judgedBy_second r_t_judgedBy_sort) fun r16 =>
  if r16 = 0 then
  f_X0_judge_j19 s_p0_count s_t_kindCount s_t_size r_p0_first r_p0_second r_p0_sort r_t_children r_t_shares r_t_wives s_t_judged s_t_lawfulCount s_t_lawfulSystems s_t_judgedBy_count r_t_lawful s_t_wheel_size r_t_judgedBy_first r_t_judgedBy_second r_t_judgedBy_sort r_t_wheel_child r_t_wheel_father r_t_wheel_husband r_t_wheel_wife
  else
  some (s_t_judged, s_t_lawfulCount, s_t_lawfulSystems, s_t_judgedBy_count, r_t_lawful, s_t_wheel_size, r_t_judgedBy_first, r_t_judgedBy_second, r_t_judgedBy_sort, r_t_wheel_child, r_t_wheel_father, r_t_wheel_husband, r_t_wheel_wife)
set_option maxHeartbeats 4000000 in
set_option maxRecDepth 100000 in
theorem t_X0_judge {p : Program} {l : Launch} {e : Env} {s : State} {m : MethodId} {args : Array Value} {below : List Frame} {meth : Method} {c : Code} {A : Nat → Prop} {Q : State → Prop} (G : jGt) (D : va_G) (cI cB cZ : ClassId) (a_p0 a_t a_p0_first a_p0_second a_p0_sort a_t_children a_t_judgedBy a_t_lawful a_t_shares a_t_wheel a_t_wives a_t_judgedBy_first a_t_judgedBy_second a_t_judgedBy_sort a_t_wheel_child a_t_wheel_father a_t_wheel_husband a_t_wheel_wife : Nat) (u_t_orders : Value) (u_t_orderCount : Int32) (u_t_keepers : Value) (u_t_keeperCount s_p0_count s_t_kindCount s_t_size : Int32) (r_p0_first r_p0_second r_p0_sort r_t_children r_t_shares r_t_wives : jA) (s_t_judged s_t_lawfulCount s_t_lawfulSystems s_t_judgedBy_count : Int32) (r_t_lawful : jA) (s_t_wheel_size : Int32) (r_t_judgedBy_first r_t_judgedBy_second r_t_judgedBy_sort r_t_wheel_child r_t_wheel_father r_t_wheel_husband r_t_wheel_wife : jA) (C : jCx p s m args c cX0_judge 3 gX0_judge RX0 G D (jT cI cB cZ) A) {o : Int32 × Int32 × Int32 × Int32 × jA × Int32 × jA × jA × jA × jA × jA × jA × jA} (hf : f_X0_judge s_p0_count s_t_kindCount s_t_size r_p0_first r_p0_second r_p0_sort r_t_children r_t_shares r_t_wives s_t_judged s_t_lawfulCount s_t_lawfulSystems s_t_judgedBy_count r_t_lawful s_t_wheel_size r_t_judgedBy_first r_t_judgedBy_second r_t_judgedBy_sort r_t_wheel_child r_t_wheel_father r_t_wheel_husband r_t_wheel_wife = some o) (K : ∀ (H : Heap) (locs : List Loc) (pc : Nat) (ls : Array Slot), va_P D vwCl (w_X0_judge cI cB cZ a_p0 a_t a_p0_first a_p0_second a_p0_sort a_t_children a_t_judgedBy a_t_lawful a_t_shares a_t_wheel a_t_wives a_t_judgedBy_first a_t_judgedBy_second a_t_judgedBy_sort a_t_wheel_child a_t_wheel_father a_t_wheel_husband a_t_wheel_wife u_t_orders u_t_orderCount u_t_keepers u_t_keeperCount s_p0_count o.1 s_t_kindCount o.2.1 o.2.2.1 s_t_size r_p0_first r_p0_second r_p0_sort r_t_children o.2.2.2.1 o.2.2.2.2.1 r_t_shares o.2.2.2.2.2.1 r_t_wives o.2.2.2.2.2.2.1 o.2.2.2.2.2.2.2.1 o.2.2.2.2.2.2.2.2.1 o.2.2.2.2.2.2.2.2.2.1 o.2.2.2.2.2.2.2.2.2.2.1 o.2.2.2.2.2.2.2.2.2.2.2.1 o.2.2.2.2.2.2.2.2.2.2.2.2) H → va_S A s.heap H locs → decode cX0_judge pc = .ok (.return_, 1) → W p l e rX0_judge s m args below meth c H locs 0 0 Q (F0 m pc ls [])) {H : Heap} {locs : List Loc} {ls : Array Slot} (hP : va_P D vwCl (w_X0_judge cI cB cZ a_p0 a_t a_p0_first a_p0_second a_p0_sort a_t_children a_t_judgedBy a_t_lawful a_t_shares a_t_wheel a_t_wives a_t_judgedBy_first a_t_judgedBy_second a_t_judgedBy_sort a_t_wheel_child a_t_wheel_father a_t_wheel_husband a_t_wheel_wife u_t_orders u_t_orderCount u_t_keepers u_t_keeperCount s_p0_count s_t_judged s_t_kindCount s_t_lawfulCount s_t_lawfulSystems s_t_size r_p0_first r_p0_second r_p0_sort r_t_children s_t_judgedBy_count r_t_lawful r_t_shares s_t_wheel_size r_t_wives r_t_judgedBy_first r_t_judgedBy_second r_t_judgedBy_sort r_t_wheel_child r_t_wheel_father r_t_wheel_husband r_t_wheel_wife) H) (hD : va_D A (w_X0_judge cI cB cZ a_p0 a_t a_p0_first a_p0_second a_p0_sort a_t_children a_t_judgedBy a_t_lawful a_t_shares a_t_wheel a_t_wives a_t_judgedBy_first a_t_judgedBy_second a_t_judgedBy_sort a_t_wheel_child a_t_wheel_father a_t_wheel_husband a_t_wheel_wife u_t_orders u_t_orderCount u_t_keepers u_t_keeperCount s_p0_count s_t_judged s_t_kindCount s_t_lawfulCount s_t_lawfulSystems s_t_size r_p0_first r_p0_second r_p0_sort r_t_children s_t_judgedBy_count r_t_lawful r_t_shares s_t_wheel_size r_t_wives r_t_judgedBy_first r_t_judgedBy_second r_t_judgedBy_sort r_t_wheel_child r_t_wheel_father r_t_wheel_husband r_t_wheel_wife)) (hS : va_S A s.heap H locs) (hl : lv_has ls 3 [(0, .ref a_t), (1, .ref a_p0)]) : W p l e rX0_judge s m args below meth c H locs 0 0 Q (F0 m 0 ls []) := by
  obtain ⟨⟨hx, hb, hml, hown, hts⟩, hK, hN, hA⟩ := C
  have C : jCx p s m args c cX0_judge 3 gX0_judge RX0 G D (jT cI cB cZ) A := ⟨⟨hx, hb, hml, hown, hts⟩, hK, hN, hA⟩
  unfold f_X0_judge at hf
  refine lv_aload_n hx hb dX0_judge_0 rfl (lv_at hl 0 rfl) ?_
  refine va_get (D := D) (ci := 0) (v := .int s_t_judged) (C := RX0) (T := TX0) (N := 15) hx hb hts iw_X0 hown hK hP 1 rfl rfl 13 (by decide) (hts _ (wG_in k_fl_X0_97 rfl)) (fun _ h9 => h9) rfl dX0_judge_1 ?_
  refine lv_if_eq (tgt := 19) hx hb dX0_judge_4 (by decide) (fun c1 => ?_) (fun c1 => ?_)
  · replace hf := jif_t c1 hf
    exact t_X0_judge_j19 G D cI cB cZ a_p0 a_t a_p0_first a_p0_second a_p0_sort a_t_children a_t_judgedBy a_t_lawful a_t_shares a_t_wheel a_t_wives a_t_judgedBy_first a_t_judgedBy_second a_t_judgedBy_sort a_t_wheel_child a_t_wheel_father a_t_wheel_husband a_t_wheel_wife u_t_orders u_t_orderCount u_t_keepers u_t_keeperCount s_p0_count s_t_kindCount s_t_size r_p0_first r_p0_second r_p0_sort r_t_children r_t_shares r_t_wives s_t_judged s_t_lawfulCount s_t_lawfulSystems s_t_judgedBy_count r_t_lawful s_t_wheel_size r_t_judgedBy_first r_t_judgedBy_second r_t_judgedBy_sort r_t_wheel_child r_t_wheel_father r_t_wheel_husband r_t_wheel_wife C hf K hP hD hS (lv_sub hl [0, 1] rfl)
  · replace hf := jif_f c1 hf
    refine lv_aload_n hx hb dX0_judge_7 rfl (lv_at hl 0 rfl) ?_
    refine va_get (D := D) (ci := 0) (v := .ref a_t_judgedBy) (C := RX0) (T := TX0) (N := 15) hx hb hts iw_X0 hown hK hP 1 rfl rfl 12 (by decide) (hts _ (wG_in k_fl_X0_33 rfl)) (fun _ h9 => h9) rfl dX0_judge_8 ?_
    refine lv_aload_n hx hb dX0_judge_11 rfl (lv_at hl 1 rfl) ?_
    obtain ⟨r16, hgr16, hf⟩ := jM_some hf
    refine jcV_i0 (As := [.ref a_p0]) (rest := []) ⟨hx, hb, hml, hown, hts⟩ hK hN hA (c_X3_sameAs l G D cI cB cZ a_p0 a_t_judgedBy a_p0_first a_p0_second a_p0_sort a_t_judgedBy_first a_t_judgedBy_second a_t_judgedBy_sort s_p0_count s_t_judgedBy_count r_p0_first r_p0_second r_p0_sort r_t_judgedBy_first r_t_judgedBy_second r_t_judgedBy_sort hgr16) (cwV 1 hts (wG_V k_ml_X0_101 k_im_X3_sameAs k_se_X3_sameAs k_in_X3 k_co_X3_sameAs) rfl rfl rfl hd_X3_sameAs ⟨Nat.le_of_ble_eq_true rfl, Nat.le_of_ble_eq_true rfl⟩) hP hD hS [0, 6, 2, 3, 4, 11, 12, 13] rfl rfl rfl (ci := 2) rfl 6 rfl rfl rfl hl.1 rfl (Nat.le_of_ble_eq_true rfl) dX0_judge_12 ⟨Nat.le_of_ble_eq_true rfl, Nat.le_of_ble_eq_true rfl⟩ (fun H locs hP hD hS => ?_)
    refine lv_if_eq (tgt := 19) hx hb dX0_judge_15 (by decide) (fun c17 => ?_) (fun c17 => ?_)
    · replace hf := jif_t c17 hf
      exact t_X0_judge_j19 G D cI cB cZ a_p0 a_t a_p0_first a_p0_second a_p0_sort a_t_children a_t_judgedBy a_t_lawful a_t_shares a_t_wheel a_t_wives a_t_judgedBy_first a_t_judgedBy_second a_t_judgedBy_sort a_t_wheel_child a_t_wheel_father a_t_wheel_husband a_t_wheel_wife u_t_orders u_t_orderCount u_t_keepers u_t_keeperCount s_p0_count s_t_kindCount s_t_size r_p0_first r_p0_second r_p0_sort r_t_children r_t_shares r_t_wives s_t_judged s_t_lawfulCount s_t_lawfulSystems s_t_judgedBy_count r_t_lawful s_t_wheel_size r_t_judgedBy_first r_t_judgedBy_second r_t_judgedBy_sort r_t_wheel_child r_t_wheel_father r_t_wheel_husband r_t_wheel_wife C hf K hP hD hS (lv_sub hl [0, 1] rfl)
    · replace hf := jif_f c17 hf
      have ho := Option.some.inj hf
      subst ho
      exact K _ _ _ _ hP hS dX0_judge_18
set_option maxHeartbeats 4000000 in
set_option maxRecDepth 100000 in
theorem c_X0_judge (l : Launch) (G : jGt) (D : va_G) (cI cB cZ : ClassId) (a_p0 a_t a_p0_first a_p0_second a_p0_sort a_t_children a_t_judgedBy a_t_lawful a_t_shares a_t_wheel a_t_wives a_t_judgedBy_first a_t_judgedBy_second a_t_judgedBy_sort a_t_wheel_child a_t_wheel_father a_t_wheel_husband a_t_wheel_wife : Nat) (u_t_orders : Value) (u_t_orderCount : Int32) (u_t_keepers : Value) (u_t_keeperCount s_p0_count s_t_kindCount s_t_size : Int32) (r_p0_first r_p0_second r_p0_sort r_t_children r_t_shares r_t_wives : jA) (s_t_judged s_t_lawfulCount s_t_lawfulSystems s_t_judgedBy_count : Int32) (r_t_lawful : jA) (s_t_wheel_size : Int32) (r_t_judgedBy_first r_t_judgedBy_second r_t_judgedBy_sort r_t_wheel_child r_t_wheel_father r_t_wheel_husband r_t_wheel_wife : jA) {o : Int32 × Int32 × Int32 × Int32 × jA × Int32 × jA × jA × jA × jA × jA × jA × jA} (hf : f_X0_judge s_p0_count s_t_kindCount s_t_size r_p0_first r_p0_second r_p0_sort r_t_children r_t_shares r_t_wives s_t_judged s_t_lawfulCount s_t_lawfulSystems s_t_judgedBy_count r_t_lawful s_t_wheel_size r_t_judgedBy_first r_t_judgedBy_second r_t_judgedBy_sort r_t_wheel_child r_t_wheel_father r_t_wheel_husband r_t_wheel_wife = some o) : jMv l yX0_judge gX0_judge rX0_judge G D (jT cI cB cZ) [.ref a_t, .ref a_p0] (w_X0_judge cI cB cZ a_p0 a_t a_p0_first a_p0_second a_p0_sort a_t_children a_t_judgedBy a_t_lawful a_t_shares a_t_wheel a_t_wives a_t_judgedBy_first a_t_judgedBy_second a_t_judgedBy_sort a_t_wheel_child a_t_wheel_father a_t_wheel_husband a_t_wheel_wife u_t_orders u_t_orderCount u_t_keepers u_t_keeperCount s_p0_count s_t_judged s_t_kindCount s_t_lawfulCount s_t_lawfulSystems s_t_size r_p0_first r_p0_second r_p0_sort r_t_children s_t_judgedBy_count r_t_lawful r_t_shares s_t_wheel_size r_t_wives r_t_judgedBy_first r_t_judgedBy_second r_t_judgedBy_sort r_t_wheel_child r_t_wheel_father r_t_wheel_husband r_t_wheel_wife) (w_X0_judge cI cB cZ a_p0 a_t a_p0_first a_p0_second a_p0_sort a_t_children a_t_judgedBy a_t_lawful a_t_shares a_t_wheel a_t_wives a_t_judgedBy_first a_t_judgedBy_second a_t_judgedBy_sort a_t_wheel_child a_t_wheel_father a_t_wheel_husband a_t_wheel_wife u_t_orders u_t_orderCount u_t_keepers u_t_keeperCount s_p0_count o.1 s_t_kindCount o.2.1 o.2.2.1 s_t_size r_p0_first r_p0_second r_p0_sort r_t_children o.2.2.2.1 o.2.2.2.2.1 r_t_shares o.2.2.2.2.2.1 r_t_wives o.2.2.2.2.2.2.1 o.2.2.2.2.2.2.2.1 o.2.2.2.2.2.2.2.2.1 o.2.2.2.2.2.2.2.2.2.1 o.2.2.2.2.2.2.2.2.2.2.1 o.2.2.2.2.2.2.2.2.2.2.2.1 o.2.2.2.2.2.2.2.2.2.2.2.2) := by
  refine jmk_v RX0 rfl (by decide +kernel) rfl (Nat.le_of_ble_eq_true rfl) rfl ?_
  intro p e s m args below meth c ls A Q C hP hD hS hl K
  exact t_X0_judge G D cI cB cZ a_p0 a_t a_p0_first a_p0_second a_p0_sort a_t_children a_t_judgedBy a_t_lawful a_t_shares a_t_wheel a_t_wives a_t_judgedBy_first a_t_judgedBy_second a_t_judgedBy_sort a_t_wheel_child a_t_wheel_father a_t_wheel_husband a_t_wheel_wife u_t_orders u_t_orderCount u_t_keepers u_t_keeperCount s_p0_count s_t_kindCount s_t_size r_p0_first r_p0_second r_p0_sort r_t_children r_t_shares r_t_wives s_t_judged s_t_lawfulCount s_t_lawfulSystems s_t_judgedBy_count r_t_lawful s_t_wheel_size r_t_judgedBy_first r_t_judgedBy_second r_t_judgedBy_sort r_t_wheel_child r_t_wheel_father r_t_wheel_husband r_t_wheel_wife C hf K hP hD hS hl

abbrev rX5_size : Room := { frames := 0, cells := 0, slots := 0, locals := 0 }
abbrev gX5_size : List Cond := wG yX5_size cX5_size 1 (some .int)
def w_X5_size (cI cB cZ : ClassId) (a_t : Nat) (u_t_tape : Value) (u_t_sort u_t_length u_t_fault u_t_place s_t_after s_t_start : Int32) : va_W := [(a_t, .inr (4, (oX5 u_t_tape u_t_sort s_t_after u_t_length s_t_start u_t_fault u_t_place)))]
def f_X5_size (s_t_after s_t_start : Int32) : Option (Int32) :=
  some (s_t_after - s_t_start)
set_option maxHeartbeats 4000000 in
set_option maxRecDepth 100000 in
theorem t_X5_size {p : Program} {l : Launch} {e : Env} {s : State} {m : MethodId} {args : Array Value} {below : List Frame} {meth : Method} {c : Code} {A : Nat → Prop} {Q : State → Prop} (G : jGt) (D : va_G) (cI cB cZ : ClassId) (a_t : Nat) (u_t_tape : Value) (u_t_sort u_t_length u_t_fault u_t_place s_t_after s_t_start : Int32)  (C : jCx p s m args c cX5_size 1 gX5_size RX5 G D (jT cI cB cZ) A) {o : Int32} (hf : f_X5_size s_t_after s_t_start = some o) (K : ∀ (H : Heap) (locs : List Loc) (pc : Nat) (ls : Array Slot), va_P D vwCl (w_X5_size cI cB cZ a_t u_t_tape u_t_sort u_t_length u_t_fault u_t_place s_t_after s_t_start) H → va_S A s.heap H locs → decode cX5_size pc = .ok (.ireturn, 1) → W p l e rX5_size s m args below meth c H locs 0 0 Q (F0 m pc ls [.int o])) {H : Heap} {locs : List Loc} {ls : Array Slot} (hP : va_P D vwCl (w_X5_size cI cB cZ a_t u_t_tape u_t_sort u_t_length u_t_fault u_t_place s_t_after s_t_start) H) (hD : va_D A (w_X5_size cI cB cZ a_t u_t_tape u_t_sort u_t_length u_t_fault u_t_place s_t_after s_t_start)) (hS : va_S A s.heap H locs) (hl : lv_has ls 1 [(0, .ref a_t)]) : W p l e rX5_size s m args below meth c H locs 0 0 Q (F0 m 0 ls []) := by
  obtain ⟨⟨hx, hb, hml, hown, hts⟩, hK, hN, hA⟩ := C
  have C : jCx p s m args c cX5_size 1 gX5_size RX5 G D (jT cI cB cZ) A := ⟨⟨hx, hb, hml, hown, hts⟩, hK, hN, hA⟩
  unfold f_X5_size at hf
  refine lv_aload_n hx hb dX5_size_0 rfl (lv_at hl 0 rfl) ?_
  refine va_get (D := D) (ci := 4) (v := .int s_t_after) (C := RX5) (T := TX5) (N := 7) hx hb hts iw_X5 hown hK hP 0 rfl rfl 2 (by decide) (hts _ (wG_in k_fl_X5_28 rfl)) (fun _ h9 => h9) rfl dX5_size_1 ?_
  refine lv_aload_n hx hb dX5_size_4 rfl (lv_at hl 0 rfl) ?_
  refine va_get (D := D) (ci := 4) (v := .int s_t_start) (C := RX5) (T := TX5) (N := 7) hx hb hts iw_X5 hown hK hP 0 rfl rfl 4 (by decide) (hts _ (wG_in k_fl_X5_35 rfl)) (fun _ h9 => h9) rfl dX5_size_5 ?_
  refine lv_isub hx hb dX5_size_8 ?_
  have ho := Option.some.inj hf
  subst ho
  exact K _ _ _ _ hP hS dX5_size_9
set_option maxHeartbeats 4000000 in
set_option maxRecDepth 100000 in
theorem c_X5_size (l : Launch) (G : jGt) (D : va_G) (cI cB cZ : ClassId) (a_t : Nat) (u_t_tape : Value) (u_t_sort u_t_length u_t_fault u_t_place s_t_after s_t_start : Int32)  {o : Int32} (hf : f_X5_size s_t_after s_t_start = some o) : jMi l yX5_size gX5_size rX5_size G D (jT cI cB cZ) [.ref a_t] (w_X5_size cI cB cZ a_t u_t_tape u_t_sort u_t_length u_t_fault u_t_place s_t_after s_t_start) (w_X5_size cI cB cZ a_t u_t_tape u_t_sort u_t_length u_t_fault u_t_place s_t_after s_t_start) o := by
  refine jmk_i RX5 rfl (by decide +kernel) rfl (Nat.le_of_ble_eq_true rfl) ?_
  intro p e s m args below meth c ls A Q C hP hD hS hl K
  exact t_X5_size G D cI cB cZ a_t u_t_tape u_t_sort u_t_length u_t_fault u_t_place s_t_after s_t_start  C hf K hP hD hS hl
abbrev rX5_atEnd : Room := { frames := 0, cells := 0, slots := 0, locals := 0 }
abbrev gX5_atEnd : List Cond := wG yX5_atEnd cX5_atEnd 1 (some .boolean)
def w_X5_atEnd (cI cB cZ : ClassId) (a_t : Nat) (u_t_tape : Value) (u_t_after u_t_length u_t_start u_t_fault u_t_place s_t_sort : Int32) : va_W := [(a_t, .inr (4, (oX5 u_t_tape s_t_sort u_t_after u_t_length u_t_start u_t_fault u_t_place)))]
def f_X5_atEnd (s_t_sort : Int32) : Option (Int32) :=
  if s_t_sort = (4 : Int32) then
  some (1 : Int32)
  else
  some (0 : Int32)
set_option maxHeartbeats 4000000 in
set_option maxRecDepth 100000 in
theorem t_X5_atEnd {p : Program} {l : Launch} {e : Env} {s : State} {m : MethodId} {args : Array Value} {below : List Frame} {meth : Method} {c : Code} {A : Nat → Prop} {Q : State → Prop} (G : jGt) (D : va_G) (cI cB cZ : ClassId) (a_t : Nat) (u_t_tape : Value) (u_t_after u_t_length u_t_start u_t_fault u_t_place s_t_sort : Int32)  (C : jCx p s m args c cX5_atEnd 1 gX5_atEnd RX5 G D (jT cI cB cZ) A) {o : Int32} (hf : f_X5_atEnd s_t_sort = some o) (K : ∀ (H : Heap) (locs : List Loc) (pc : Nat) (ls : Array Slot), (o = 0 ∨ o = 1) → va_P D vwCl (w_X5_atEnd cI cB cZ a_t u_t_tape u_t_after u_t_length u_t_start u_t_fault u_t_place s_t_sort) H → va_S A s.heap H locs → decode cX5_atEnd pc = .ok (.ireturn, 1) → W p l e rX5_atEnd s m args below meth c H locs 0 0 Q (F0 m pc ls [.int o])) {H : Heap} {locs : List Loc} {ls : Array Slot} (hP : va_P D vwCl (w_X5_atEnd cI cB cZ a_t u_t_tape u_t_after u_t_length u_t_start u_t_fault u_t_place s_t_sort) H) (hD : va_D A (w_X5_atEnd cI cB cZ a_t u_t_tape u_t_after u_t_length u_t_start u_t_fault u_t_place s_t_sort)) (hS : va_S A s.heap H locs) (hl : lv_has ls 1 [(0, .ref a_t)]) : W p l e rX5_atEnd s m args below meth c H locs 0 0 Q (F0 m 0 ls []) := by
  obtain ⟨⟨hx, hb, hml, hown, hts⟩, hK, hN, hA⟩ := C
  have C : jCx p s m args c cX5_atEnd 1 gX5_atEnd RX5 G D (jT cI cB cZ) A := ⟨⟨hx, hb, hml, hown, hts⟩, hK, hN, hA⟩
  unfold f_X5_atEnd at hf
  refine lv_aload_n hx hb dX5_atEnd_0 rfl (lv_at hl 0 rfl) ?_
  refine va_get (D := D) (ci := 4) (v := .int s_t_sort) (C := RX5) (T := TX5) (N := 7) hx hb hts iw_X5 hown hK hP 0 rfl rfl 1 (by decide) (hts _ (wG_in k_fl_X5_38 rfl)) (fun _ h9 => h9) rfl dX5_atEnd_1 ?_
  refine lv_iconst (v := (4 : Int32)) hx hb dX5_atEnd_4 (by decide) ?_
  refine lv_icmp_ne (tgt := 12) hx hb dX5_atEnd_5 (by decide) (fun c1 => ?_) (fun c1 => ?_)
  · replace hf := jif_f c1 hf
    refine lv_iconst (v := (0 : Int32)) hx hb dX5_atEnd_12 (by decide) ?_
    have ho := Option.some.inj hf
    subst ho
    exact K _ _ _ _ (Or.inl rfl) hP hS dX5_atEnd_13
  · replace hf := jif_t c1 hf
    refine lv_iconst (v := (1 : Int32)) hx hb dX5_atEnd_8 (by decide) ?_
    refine lv_goto (tgt := 13) hx hb dX5_atEnd_9 (by decide) ?_
    have ho := Option.some.inj hf
    subst ho
    exact K _ _ _ _ (Or.inr rfl) hP hS dX5_atEnd_13
set_option maxHeartbeats 4000000 in
set_option maxRecDepth 100000 in
theorem c_X5_atEnd (l : Launch) (G : jGt) (D : va_G) (cI cB cZ : ClassId) (a_t : Nat) (u_t_tape : Value) (u_t_after u_t_length u_t_start u_t_fault u_t_place s_t_sort : Int32)  {o : Int32} (hf : f_X5_atEnd s_t_sort = some o) : jMi l yX5_atEnd gX5_atEnd rX5_atEnd G D (jT cI cB cZ) [.ref a_t] (w_X5_atEnd cI cB cZ a_t u_t_tape u_t_after u_t_length u_t_start u_t_fault u_t_place s_t_sort) (w_X5_atEnd cI cB cZ a_t u_t_tape u_t_after u_t_length u_t_start u_t_fault u_t_place s_t_sort) o := by
  refine jmk_z RX5 rfl (by decide +kernel) rfl (Nat.le_of_ble_eq_true rfl) ?_
  intro p e s m args below meth c ls A Q C hP hD hS hl K
  exact t_X5_atEnd G D cI cB cZ a_t u_t_tape u_t_after u_t_length u_t_start u_t_fault u_t_place s_t_sort  C hf K hP hD hS hl
abbrev rX5_byteAt : Room := { frames := 0, cells := 0, slots := 0, locals := 0 }
abbrev gX5_byteAt : List Cond := wG yX5_byteAt cX5_byteAt 2 (some .int)
def w_X5_byteAt (cI cB cZ : ClassId) (a_t a_t_tape a_t_tape_bytes : Nat) (u_t_sort u_t_after u_t_start u_t_fault u_t_place u_t_tape_length u_t_tape_fault u_t_tape_place s_t_length : Int32) (r_t_tape_bytes : jA) : va_W := [(a_t, .inr (4, (oX5 (.ref a_t_tape) u_t_sort u_t_after s_t_length u_t_start u_t_fault u_t_place))), (a_t_tape, .inr (6, (oX7 (.ref a_t_tape_bytes) u_t_tape_length u_t_tape_fault u_t_tape_place))), (a_t_tape_bytes, .inl (cB, r_t_tape_bytes.1, .inl r_t_tape_bytes.2))]
def f_X5_byteAt (s_t_length : Int32) (r_t_tape_bytes : jA) (x1 : Int32) : Option (Int32) :=
  if x1 < 0 then
  some (-1 : Int32)
  else
  if s_t_length ≤ x1 then
  some (-1 : Int32)
  else
  if x1 < (Int32.ofNat r_t_tape_bytes.1) then
  jL r_t_tape_bytes x1 fun v4 =>
  some (v4 &&& (255 : Int32))
  else
  some (-1 : Int32)
set_option maxHeartbeats 4000000 in
set_option maxRecDepth 100000 in
theorem t_X5_byteAt {p : Program} {l : Launch} {e : Env} {s : State} {m : MethodId} {args : Array Value} {below : List Frame} {meth : Method} {c : Code} {A : Nat → Prop} {Q : State → Prop} (G : jGt) (D : va_G) (cI cB cZ : ClassId) (a_t a_t_tape a_t_tape_bytes : Nat) (u_t_sort u_t_after u_t_start u_t_fault u_t_place u_t_tape_length u_t_tape_fault u_t_tape_place s_t_length : Int32) (r_t_tape_bytes : jA) (x1 : Int32) (C : jCx p s m args c cX5_byteAt 2 gX5_byteAt RX5 G D (jT cI cB cZ) A) {o : Int32} (hf : f_X5_byteAt s_t_length r_t_tape_bytes x1 = some o) (K : ∀ (H : Heap) (locs : List Loc) (pc : Nat) (ls : Array Slot), va_P D vwCl (w_X5_byteAt cI cB cZ a_t a_t_tape a_t_tape_bytes u_t_sort u_t_after u_t_start u_t_fault u_t_place u_t_tape_length u_t_tape_fault u_t_tape_place s_t_length r_t_tape_bytes) H → va_S A s.heap H locs → decode cX5_byteAt pc = .ok (.ireturn, 1) → W p l e rX5_byteAt s m args below meth c H locs 0 0 Q (F0 m pc ls [.int o])) {H : Heap} {locs : List Loc} {ls : Array Slot} (hP : va_P D vwCl (w_X5_byteAt cI cB cZ a_t a_t_tape a_t_tape_bytes u_t_sort u_t_after u_t_start u_t_fault u_t_place u_t_tape_length u_t_tape_fault u_t_tape_place s_t_length r_t_tape_bytes) H) (hD : va_D A (w_X5_byteAt cI cB cZ a_t a_t_tape a_t_tape_bytes u_t_sort u_t_after u_t_start u_t_fault u_t_place u_t_tape_length u_t_tape_fault u_t_tape_place s_t_length r_t_tape_bytes)) (hS : va_S A s.heap H locs) (hl : lv_has ls 2 [(0, .ref a_t), (1, .int x1)]) : W p l e rX5_byteAt s m args below meth c H locs 0 0 Q (F0 m 0 ls []) := by
  obtain ⟨⟨hx, hb, hml, hown, hts⟩, hK, hN, hA⟩ := C
  have C : jCx p s m args c cX5_byteAt 2 gX5_byteAt RX5 G D (jT cI cB cZ) A := ⟨⟨hx, hb, hml, hown, hts⟩, hK, hN, hA⟩
  unfold f_X5_byteAt at hf
  refine lv_aload_n hx hb dX5_byteAt_0 rfl (lv_at hl 0 rfl) ?_
  refine va_get (D := D) (ci := 4) (v := .ref a_t_tape) (C := RX5) (T := TX5) (N := 7) hx hb hts iw_X5 hown hK hP 0 rfl rfl 0 (by decide) (hts _ (wG_in k_fl_X5_9 rfl)) (fun _ h9 => h9) rfl dX5_byteAt_1 ?_
  refine lv_ifnull hx hb dX5_byteAt_4 ?_
  refine lv_iload_n hx hb dX5_byteAt_7 rfl (lv_at hl 1 rfl) ?_
  refine lv_if_lt (tgt := 31) hx hb dX5_byteAt_8 (by decide) (fun c1 => ?_) (fun c1 => ?_)
  · replace hf := jif_t c1 hf
    refine lv_iconst (v := (-1 : Int32)) hx hb dX5_byteAt_31 (by decide) ?_
    have ho := Option.some.inj hf
    subst ho
    exact K _ _ _ _ hP hS dX5_byteAt_32
  · replace hf := jif_f c1 hf
    refine lv_iload_n hx hb dX5_byteAt_11 rfl (lv_at hl 1 rfl) ?_
    refine lv_aload_n hx hb dX5_byteAt_12 rfl (lv_at hl 0 rfl) ?_
    refine va_get (D := D) (ci := 4) (v := .int s_t_length) (C := RX5) (T := TX5) (N := 7) hx hb hts iw_X5 hown hK hP 0 rfl rfl 3 (by decide) (hts _ (wG_in k_fl_X5_21 rfl)) (fun _ h9 => h9) rfl dX5_byteAt_13 ?_
    refine lv_icmp_ge (tgt := 31) hx hb dX5_byteAt_16 (by decide) (fun c2 => ?_) (fun c2 => ?_)
    · replace hf := jif_t c2 hf
      refine lv_iconst (v := (-1 : Int32)) hx hb dX5_byteAt_31 (by decide) ?_
      have ho := Option.some.inj hf
      subst ho
      exact K _ _ _ _ hP hS dX5_byteAt_32
    · replace hf := jif_f c2 hf
      refine lv_iload_n hx hb dX5_byteAt_19 rfl (lv_at hl 1 rfl) ?_
      refine lv_aload_n hx hb dX5_byteAt_20 rfl (lv_at hl 0 rfl) ?_
      refine va_get (D := D) (ci := 4) (v := .ref a_t_tape) (C := RX5) (T := TX5) (N := 7) hx hb hts iw_X5 hown hK hP 0 rfl rfl 0 (by decide) (hts _ (wG_in k_fl_X5_9 rfl)) (fun _ h9 => h9) rfl dX5_byteAt_21 ?_
      refine va_get (D := D) (ci := 6) (v := .ref a_t_tape_bytes) (C := RX7) (T := TX7) (N := 4) hx hb hts iw_X7 hown hK hP 1 rfl rfl 0 (by decide) (hts _ (wG_in k_fl_X5_41 rfl)) (fun _ h9 => h9) rfl dX5_byteAt_24 ?_
      refine va_alen (x := (r_t_tape_bytes.1, .inl r_t_tape_bytes.2)) hx hb hK hP 2 1 rfl rfl rfl dX5_byteAt_27 ?_
      refine lv_icmp_lt (tgt := 33) hx hb dX5_byteAt_28 (by decide) (fun c3 => ?_) (fun c3 => ?_)
      · replace hf := jif_t c3 hf
        refine lv_aload_n hx hb dX5_byteAt_33 rfl (lv_at hl 0 rfl) ?_
        refine va_get (D := D) (ci := 4) (v := .ref a_t_tape) (C := RX5) (T := TX5) (N := 7) hx hb hts iw_X5 hown hK hP 0 rfl rfl 0 (by decide) (hts _ (wG_in k_fl_X5_9 rfl)) (fun _ h9 => h9) rfl dX5_byteAt_34 ?_
        refine va_get (D := D) (ci := 6) (v := .ref a_t_tape_bytes) (C := RX7) (T := TX7) (N := 4) hx hb hts iw_X7 hown hK hP 1 rfl rfl 0 (by decide) (hts _ (wG_in k_fl_X5_41 rfl)) (fun _ h9 => h9) rfl dX5_byteAt_37 ?_
        refine lv_iload_n hx hb dX5_byteAt_40 rfl (lv_at hl 1 rfl) ?_
        obtain ⟨v4, hv4, iv4, hf⟩ := jL_some hf
        refine ja_bald (P := r_t_tape_bytes) hx hb hK hP 2 1 rfl rfl hv4 iv4 dX5_byteAt_41 ?_
        refine lv_sipush (v := (255 : Int32)) hx hb dX5_byteAt_42 (by decide) ?_
        refine lv_iand hx hb dX5_byteAt_45 ?_
        have ho := Option.some.inj hf
        subst ho
        exact K _ _ _ _ hP hS dX5_byteAt_46
      · replace hf := jif_f c3 hf
        refine lv_iconst (v := (-1 : Int32)) hx hb dX5_byteAt_31 (by decide) ?_
        have ho := Option.some.inj hf
        subst ho
        exact K _ _ _ _ hP hS dX5_byteAt_32
set_option maxHeartbeats 4000000 in
set_option maxRecDepth 100000 in
theorem c_X5_byteAt (l : Launch) (G : jGt) (D : va_G) (cI cB cZ : ClassId) (a_t a_t_tape a_t_tape_bytes : Nat) (u_t_sort u_t_after u_t_start u_t_fault u_t_place u_t_tape_length u_t_tape_fault u_t_tape_place s_t_length : Int32) (r_t_tape_bytes : jA) (x1 : Int32) {o : Int32} (hf : f_X5_byteAt s_t_length r_t_tape_bytes x1 = some o) : jMi l yX5_byteAt gX5_byteAt rX5_byteAt G D (jT cI cB cZ) [.ref a_t, .int x1] (w_X5_byteAt cI cB cZ a_t a_t_tape a_t_tape_bytes u_t_sort u_t_after u_t_start u_t_fault u_t_place u_t_tape_length u_t_tape_fault u_t_tape_place s_t_length r_t_tape_bytes) (w_X5_byteAt cI cB cZ a_t a_t_tape a_t_tape_bytes u_t_sort u_t_after u_t_start u_t_fault u_t_place u_t_tape_length u_t_tape_fault u_t_tape_place s_t_length r_t_tape_bytes) o := by
  refine jmk_i RX5 rfl (by decide +kernel) rfl (Nat.le_of_ble_eq_true rfl) ?_
  intro p e s m args below meth c ls A Q C hP hD hS hl K
  exact t_X5_byteAt G D cI cB cZ a_t a_t_tape a_t_tape_bytes u_t_sort u_t_after u_t_start u_t_fault u_t_place u_t_tape_length u_t_tape_fault u_t_tape_place s_t_length r_t_tape_bytes x1 C hf K hP hD hS hl
abbrev rX5_skipBlanks : Room := { frames := 1, cells := 0, slots := 0, locals := 21 }
abbrev gX5_skipBlanks : List Cond := wG yX5_skipBlanks cX5_skipBlanks 2 (some .int)
def w_X5_skipBlanks (cI cB cZ : ClassId) (a_t a_t_tape a_t_tape_bytes : Nat) (u_t_sort u_t_start u_t_fault u_t_place u_t_tape_length u_t_tape_fault u_t_tape_place s_t_after s_t_length : Int32) (r_t_tape_bytes : jA) : va_W := [(a_t, .inr (4, (oX5 (.ref a_t_tape) u_t_sort s_t_after s_t_length u_t_start u_t_fault u_t_place))), (a_t_tape, .inr (6, (oX7 (.ref a_t_tape_bytes) u_t_tape_length u_t_tape_fault u_t_tape_place))), (a_t_tape_bytes, .inl (cB, r_t_tape_bytes.1, .inl r_t_tape_bytes.2))]
def f_X5_skipBlanks_j35 (x1 : Int32) : Option ((Int32) ⊕ ((Int32) ⊕ ((Unit)))) :=
  some (Sum.inl (x1 + 1))
set_option maxHeartbeats 4000000 in
set_option maxRecDepth 100000 in
theorem t_X5_skipBlanks_j35 {p : Program} {l : Launch} {e : Env} {s : State} {m : MethodId} {args : Array Value} {below : List Frame} {meth : Method} {c : Code} {A : Nat → Prop} {Q : State → Prop} (G : jGt) (D : va_G) (cI cB cZ : ClassId) (a_t a_t_tape a_t_tape_bytes : Nat) (u_t_sort u_t_start u_t_fault u_t_place u_t_tape_length u_t_tape_fault u_t_tape_place s_t_after s_t_length : Int32) (r_t_tape_bytes : jA) (x1 : Int32) (C : jCx p s m args c cX5_skipBlanks 2 gX5_skipBlanks RX5 G D (jT cI cB cZ) A) {o : (Int32) ⊕ ((Int32) ⊕ ((Unit)))} (hf : f_X5_skipBlanks_j35 x1 = some o) (K : (∀ z, o = Sum.inl z → ∀ (H : Heap) (locs : List Loc) (ls : Array Slot), va_P D vwCl (w_X5_skipBlanks cI cB cZ a_t a_t_tape a_t_tape_bytes u_t_sort u_t_start u_t_fault u_t_place u_t_tape_length u_t_tape_fault u_t_tape_place s_t_after s_t_length r_t_tape_bytes) H → va_D A (w_X5_skipBlanks cI cB cZ a_t a_t_tape a_t_tape_bytes u_t_sort u_t_start u_t_fault u_t_place u_t_tape_length u_t_tape_fault u_t_tape_place s_t_after s_t_length r_t_tape_bytes) → va_S A s.heap H locs → lv_has ls 2 [(0, .ref a_t), (1, .int z)] → W p l e rX5_skipBlanks s m args below meth c H locs 0 0 Q (F0 m 5 ls [])) ∧ (∀ z, o = Sum.inr z → (∀ y0, z = Sum.inl y0 → ∀ (H : Heap) (locs : List Loc) (ls : Array Slot), va_P D vwCl (w_X5_skipBlanks cI cB cZ a_t a_t_tape a_t_tape_bytes u_t_sort u_t_start u_t_fault u_t_place u_t_tape_length u_t_tape_fault u_t_tape_place s_t_after s_t_length r_t_tape_bytes) H → va_D A (w_X5_skipBlanks cI cB cZ a_t a_t_tape a_t_tape_bytes u_t_sort u_t_start u_t_fault u_t_place u_t_tape_length u_t_tape_fault u_t_tape_place s_t_after s_t_length r_t_tape_bytes) → va_S A s.heap H locs → lv_has ls 2 [(1, .int y0)] → W p l e rX5_skipBlanks s m args below meth c H locs 0 0 Q (F0 m 33 ls [])) ∧ (∀ z0, z = Sum.inr z0 → ∀ (H : Heap) (locs : List Loc) (ls : Array Slot), va_P D vwCl (w_X5_skipBlanks cI cB cZ a_t a_t_tape a_t_tape_bytes u_t_sort u_t_start u_t_fault u_t_place u_t_tape_length u_t_tape_fault u_t_tape_place s_t_after s_t_length r_t_tape_bytes) H → va_D A (w_X5_skipBlanks cI cB cZ a_t a_t_tape a_t_tape_bytes u_t_sort u_t_start u_t_fault u_t_place u_t_tape_length u_t_tape_fault u_t_tape_place s_t_after s_t_length r_t_tape_bytes) → va_S A s.heap H locs → lv_has ls 2 [(0, .ref a_t)] → W p l e rX5_skipBlanks s m args below meth c H locs 0 0 Q (F0 m 41 ls [])))) {H : Heap} {locs : List Loc} {ls : Array Slot} (hP : va_P D vwCl (w_X5_skipBlanks cI cB cZ a_t a_t_tape a_t_tape_bytes u_t_sort u_t_start u_t_fault u_t_place u_t_tape_length u_t_tape_fault u_t_tape_place s_t_after s_t_length r_t_tape_bytes) H) (hD : va_D A (w_X5_skipBlanks cI cB cZ a_t a_t_tape a_t_tape_bytes u_t_sort u_t_start u_t_fault u_t_place u_t_tape_length u_t_tape_fault u_t_tape_place s_t_after s_t_length r_t_tape_bytes)) (hS : va_S A s.heap H locs) (hl : lv_has ls 2 [(0, .ref a_t), (1, .int x1)]) : W p l e rX5_skipBlanks s m args below meth c H locs 0 0 Q (F0 m 35 ls []) := by
  obtain ⟨⟨hx, hb, hml, hown, hts⟩, hK, hN, hA⟩ := C
  have C : jCx p s m args c cX5_skipBlanks 2 gX5_skipBlanks RX5 G D (jT cI cB cZ) A := ⟨⟨hx, hb, hml, hown, hts⟩, hK, hN, hA⟩
  unfold f_X5_skipBlanks_j35 at hf
  refine lv_iinc (v := (x1 + 1)) (lv' := [(1, .int (x1 + 1)), (0, .ref a_t)]) hx hb dX5_skipBlanks_35 hl (k := 1) rfl (by first | rfl | decide) (by decide) rfl (fun ls hl => ?_)
  refine lv_goto (tgt := 5) hx hb dX5_skipBlanks_38 (by decide) ?_
  have ho := Option.some.inj hf
  exact K.1 _ ho.symm _ _ _ hP hD hS (lv_sub hl [1, 0] rfl)
def f_X5_skipBlanks_b5 (s_t_length : Int32) (r_t_tape_bytes : jA) (x1 : Int32) : Option ((Int32) ⊕ ((Int32) ⊕ ((Unit)))) :=
  if s_t_length ≤ x1 then
  some (Sum.inr (Sum.inr ()))
  else
  jM (f_X5_byteAt s_t_length r_t_tape_bytes x1) fun r2 =>
  if r2 = (32 : Int32) then
  f_X5_skipBlanks_j35 x1
  else
  jM (f_X5_byteAt s_t_length r_t_tape_bytes x1) fun r4 =>
  if r4 = (10 : Int32) then
  f_X5_skipBlanks_j35 x1
  else
  some (Sum.inr (Sum.inl x1))
set_option maxHeartbeats 4000000 in
set_option maxRecDepth 100000 in
theorem t_X5_skipBlanks_b5 {p : Program} {l : Launch} {e : Env} {s : State} {m : MethodId} {args : Array Value} {below : List Frame} {meth : Method} {c : Code} {A : Nat → Prop} {Q : State → Prop} (G : jGt) (D : va_G) (cI cB cZ : ClassId) (a_t a_t_tape a_t_tape_bytes : Nat) (u_t_sort u_t_start u_t_fault u_t_place u_t_tape_length u_t_tape_fault u_t_tape_place s_t_after s_t_length : Int32) (r_t_tape_bytes : jA) (x1 : Int32) (C : jCx p s m args c cX5_skipBlanks 2 gX5_skipBlanks RX5 G D (jT cI cB cZ) A) {o : (Int32) ⊕ ((Int32) ⊕ ((Unit)))} (hf : f_X5_skipBlanks_b5 s_t_length r_t_tape_bytes x1 = some o) (K : (∀ z, o = Sum.inl z → ∀ (H : Heap) (locs : List Loc) (ls : Array Slot), va_P D vwCl (w_X5_skipBlanks cI cB cZ a_t a_t_tape a_t_tape_bytes u_t_sort u_t_start u_t_fault u_t_place u_t_tape_length u_t_tape_fault u_t_tape_place s_t_after s_t_length r_t_tape_bytes) H → va_D A (w_X5_skipBlanks cI cB cZ a_t a_t_tape a_t_tape_bytes u_t_sort u_t_start u_t_fault u_t_place u_t_tape_length u_t_tape_fault u_t_tape_place s_t_after s_t_length r_t_tape_bytes) → va_S A s.heap H locs → lv_has ls 2 [(0, .ref a_t), (1, .int z)] → W p l e rX5_skipBlanks s m args below meth c H locs 0 0 Q (F0 m 5 ls [])) ∧ (∀ z, o = Sum.inr z → (∀ y0, z = Sum.inl y0 → ∀ (H : Heap) (locs : List Loc) (ls : Array Slot), va_P D vwCl (w_X5_skipBlanks cI cB cZ a_t a_t_tape a_t_tape_bytes u_t_sort u_t_start u_t_fault u_t_place u_t_tape_length u_t_tape_fault u_t_tape_place s_t_after s_t_length r_t_tape_bytes) H → va_D A (w_X5_skipBlanks cI cB cZ a_t a_t_tape a_t_tape_bytes u_t_sort u_t_start u_t_fault u_t_place u_t_tape_length u_t_tape_fault u_t_tape_place s_t_after s_t_length r_t_tape_bytes) → va_S A s.heap H locs → lv_has ls 2 [(1, .int y0)] → W p l e rX5_skipBlanks s m args below meth c H locs 0 0 Q (F0 m 33 ls [])) ∧ (∀ z0, z = Sum.inr z0 → ∀ (H : Heap) (locs : List Loc) (ls : Array Slot), va_P D vwCl (w_X5_skipBlanks cI cB cZ a_t a_t_tape a_t_tape_bytes u_t_sort u_t_start u_t_fault u_t_place u_t_tape_length u_t_tape_fault u_t_tape_place s_t_after s_t_length r_t_tape_bytes) H → va_D A (w_X5_skipBlanks cI cB cZ a_t a_t_tape a_t_tape_bytes u_t_sort u_t_start u_t_fault u_t_place u_t_tape_length u_t_tape_fault u_t_tape_place s_t_after s_t_length r_t_tape_bytes) → va_S A s.heap H locs → lv_has ls 2 [(0, .ref a_t)] → W p l e rX5_skipBlanks s m args below meth c H locs 0 0 Q (F0 m 41 ls [])))) {H : Heap} {locs : List Loc} {ls : Array Slot} (hP : va_P D vwCl (w_X5_skipBlanks cI cB cZ a_t a_t_tape a_t_tape_bytes u_t_sort u_t_start u_t_fault u_t_place u_t_tape_length u_t_tape_fault u_t_tape_place s_t_after s_t_length r_t_tape_bytes) H) (hD : va_D A (w_X5_skipBlanks cI cB cZ a_t a_t_tape a_t_tape_bytes u_t_sort u_t_start u_t_fault u_t_place u_t_tape_length u_t_tape_fault u_t_tape_place s_t_after s_t_length r_t_tape_bytes)) (hS : va_S A s.heap H locs) (hl : lv_has ls 2 [(0, .ref a_t), (1, .int x1)]) : W p l e rX5_skipBlanks s m args below meth c H locs 0 0 Q (F0 m 5 ls []) := by
  obtain ⟨⟨hx, hb, hml, hown, hts⟩, hK, hN, hA⟩ := C
  have C : jCx p s m args c cX5_skipBlanks 2 gX5_skipBlanks RX5 G D (jT cI cB cZ) A := ⟨⟨hx, hb, hml, hown, hts⟩, hK, hN, hA⟩
  unfold f_X5_skipBlanks_b5 at hf
  refine lv_iload_n hx hb dX5_skipBlanks_5 rfl (lv_at hl 1 rfl) ?_
  refine lv_aload_n hx hb dX5_skipBlanks_6 rfl (lv_at hl 0 rfl) ?_
  refine va_get (D := D) (ci := 4) (v := .int s_t_length) (C := RX5) (T := TX5) (N := 7) hx hb hts iw_X5 hown hK hP 0 rfl rfl 3 (by decide) (hts _ (wG_in k_fl_X5_21 rfl)) (fun _ h9 => h9) rfl dX5_skipBlanks_7 ?_
  refine lv_icmp_ge (tgt := 41) hx hb dX5_skipBlanks_10 (by decide) (fun c1 => ?_) (fun c1 => ?_)
  · replace hf := jif_t c1 hf
    have ho := Option.some.inj hf
    exact ((K.2 _ ho.symm).2 _ rfl) _ _ _ hP hD hS (lv_sub hl [0] rfl)
  · replace hf := jif_f c1 hf
    refine lv_aload_n hx hb dX5_skipBlanks_13 rfl (lv_at hl 0 rfl) ?_
    refine lv_iload_n hx hb dX5_skipBlanks_14 rfl (lv_at hl 1 rfl) ?_
    obtain ⟨r2, hgr2, hf⟩ := jM_some hf
    refine jcV_i (As := [.int x1]) (rest := []) ⟨hx, hb, hml, hown, hts⟩ hK hN hA (c_X5_byteAt l G D cI cB cZ a_t a_t_tape a_t_tape_bytes u_t_sort s_t_after u_t_start u_t_fault u_t_place u_t_tape_length u_t_tape_fault u_t_tape_place s_t_length r_t_tape_bytes x1 hgr2) (cwV 1 hts (wG_V k_ml_X5_49 k_im_X5_byteAt k_se_X5_byteAt k_in_X5 k_co_X5_byteAt) rfl rfl rfl hd_X5_byteAt ⟨Nat.le_of_ble_eq_true rfl, Nat.le_of_ble_eq_true rfl⟩) hP hD hS (w_X5_skipBlanks cI cB cZ a_t a_t_tape a_t_tape_bytes u_t_sort u_t_start u_t_fault u_t_place u_t_tape_length u_t_tape_fault u_t_tape_place s_t_after s_t_length r_t_tape_bytes) [0, 1, 2] [] rfl rfl rfl (N := 3) rfl (by decide +kernel) rfl (by decide +kernel) (by decide +kernel) (ci := 4) rfl 0 rfl rfl rfl hl.1 rfl (Nat.le_of_ble_eq_true rfl) dX5_skipBlanks_15 ⟨Nat.le_of_ble_eq_true rfl, Nat.le_of_ble_eq_true rfl⟩ (fun H locs hP hD hS => ?_)
    refine lv_bipush (v := (32 : Int32)) hx hb dX5_skipBlanks_18 (by decide) ?_
    refine lv_icmp_eq (tgt := 35) hx hb dX5_skipBlanks_20 (by decide) (fun c3 => ?_) (fun c3 => ?_)
    · replace hf := jif_t c3 hf
      exact t_X5_skipBlanks_j35 G D cI cB cZ a_t a_t_tape a_t_tape_bytes u_t_sort u_t_start u_t_fault u_t_place u_t_tape_length u_t_tape_fault u_t_tape_place s_t_after s_t_length r_t_tape_bytes x1 C hf K hP hD hS (lv_sub hl [0, 1] rfl)
    · replace hf := jif_f c3 hf
      refine lv_aload_n hx hb dX5_skipBlanks_23 rfl (lv_at hl 0 rfl) ?_
      refine lv_iload_n hx hb dX5_skipBlanks_24 rfl (lv_at hl 1 rfl) ?_
      obtain ⟨r4, hgr4, hf⟩ := jM_some hf
      refine jcV_i (As := [.int x1]) (rest := []) ⟨hx, hb, hml, hown, hts⟩ hK hN hA (c_X5_byteAt l G D cI cB cZ a_t a_t_tape a_t_tape_bytes u_t_sort s_t_after u_t_start u_t_fault u_t_place u_t_tape_length u_t_tape_fault u_t_tape_place s_t_length r_t_tape_bytes x1 hgr4) (cwV 1 hts (wG_V k_ml_X5_49 k_im_X5_byteAt k_se_X5_byteAt k_in_X5 k_co_X5_byteAt) rfl rfl rfl hd_X5_byteAt ⟨Nat.le_of_ble_eq_true rfl, Nat.le_of_ble_eq_true rfl⟩) hP hD hS (w_X5_skipBlanks cI cB cZ a_t a_t_tape a_t_tape_bytes u_t_sort u_t_start u_t_fault u_t_place u_t_tape_length u_t_tape_fault u_t_tape_place s_t_after s_t_length r_t_tape_bytes) [0, 1, 2] [] rfl rfl rfl (N := 3) rfl (by decide +kernel) rfl (by decide +kernel) (by decide +kernel) (ci := 4) rfl 0 rfl rfl rfl hl.1 rfl (Nat.le_of_ble_eq_true rfl) dX5_skipBlanks_25 ⟨Nat.le_of_ble_eq_true rfl, Nat.le_of_ble_eq_true rfl⟩ (fun H locs hP hD hS => ?_)
      refine lv_bipush (v := (10 : Int32)) hx hb dX5_skipBlanks_28 (by decide) ?_
      refine lv_icmp_eq (tgt := 35) hx hb dX5_skipBlanks_30 (by decide) (fun c5 => ?_) (fun c5 => ?_)
      · replace hf := jif_t c5 hf
        exact t_X5_skipBlanks_j35 G D cI cB cZ a_t a_t_tape a_t_tape_bytes u_t_sort u_t_start u_t_fault u_t_place u_t_tape_length u_t_tape_fault u_t_tape_place s_t_after s_t_length r_t_tape_bytes x1 C hf K hP hD hS (lv_sub hl [0, 1] rfl)
      · replace hf := jif_f c5 hf
        have ho := Option.some.inj hf
        exact ((K.2 _ ho.symm).1 _ rfl) _ _ _ hP hD hS (lv_sub hl [1] rfl)
def f_X5_skipBlanks_l5 (s_t_length : Int32) (r_t_tape_bytes : jA) (x1 : Int32) : Option ((Int32) ⊕ ((Unit))) :=
  jI (fun z => f_X5_skipBlanks_b5 s_t_length r_t_tape_bytes z) jF x1
set_option maxHeartbeats 4000000 in
set_option maxRecDepth 100000 in
theorem t_X5_skipBlanks_l5 {p : Program} {l : Launch} {e : Env} {s : State} {m : MethodId} {args : Array Value} {below : List Frame} {meth : Method} {c : Code} {A : Nat → Prop} {Q : State → Prop} (G : jGt) (D : va_G) (cI cB cZ : ClassId) (a_t a_t_tape a_t_tape_bytes : Nat) (u_t_sort u_t_start u_t_fault u_t_place u_t_tape_length u_t_tape_fault u_t_tape_place s_t_after s_t_length : Int32) (r_t_tape_bytes : jA)  (C : jCx p s m args c cX5_skipBlanks 2 gX5_skipBlanks RX5 G D (jT cI cB cZ) A) : ∀ (n : Nat) (x1 : Int32) {eo : (Int32) ⊕ ((Unit))}, jI (fun z => f_X5_skipBlanks_b5 s_t_length r_t_tape_bytes z) n x1 = some eo → ((∀ y0, eo = Sum.inl y0 → ∀ (H : Heap) (locs : List Loc) (ls : Array Slot), va_P D vwCl (w_X5_skipBlanks cI cB cZ a_t a_t_tape a_t_tape_bytes u_t_sort u_t_start u_t_fault u_t_place u_t_tape_length u_t_tape_fault u_t_tape_place s_t_after s_t_length r_t_tape_bytes) H → va_D A (w_X5_skipBlanks cI cB cZ a_t a_t_tape a_t_tape_bytes u_t_sort u_t_start u_t_fault u_t_place u_t_tape_length u_t_tape_fault u_t_tape_place s_t_after s_t_length r_t_tape_bytes) → va_S A s.heap H locs → lv_has ls 2 [(1, .int y0)] → W p l e rX5_skipBlanks s m args below meth c H locs 0 0 Q (F0 m 33 ls [])) ∧ (∀ z0, eo = Sum.inr z0 → ∀ (H : Heap) (locs : List Loc) (ls : Array Slot), va_P D vwCl (w_X5_skipBlanks cI cB cZ a_t a_t_tape a_t_tape_bytes u_t_sort u_t_start u_t_fault u_t_place u_t_tape_length u_t_tape_fault u_t_tape_place s_t_after s_t_length r_t_tape_bytes) H → va_D A (w_X5_skipBlanks cI cB cZ a_t a_t_tape a_t_tape_bytes u_t_sort u_t_start u_t_fault u_t_place u_t_tape_length u_t_tape_fault u_t_tape_place s_t_after s_t_length r_t_tape_bytes) → va_S A s.heap H locs → lv_has ls 2 [(0, .ref a_t)] → W p l e rX5_skipBlanks s m args below meth c H locs 0 0 Q (F0 m 41 ls []))) → ∀ (H : Heap) (locs : List Loc) (ls : Array Slot), va_P D vwCl (w_X5_skipBlanks cI cB cZ a_t a_t_tape a_t_tape_bytes u_t_sort u_t_start u_t_fault u_t_place u_t_tape_length u_t_tape_fault u_t_tape_place s_t_after s_t_length r_t_tape_bytes) H → va_D A (w_X5_skipBlanks cI cB cZ a_t a_t_tape a_t_tape_bytes u_t_sort u_t_start u_t_fault u_t_place u_t_tape_length u_t_tape_fault u_t_tape_place s_t_after s_t_length r_t_tape_bytes) → va_S A s.heap H locs → lv_has ls 2 [(0, .ref a_t), (1, .int x1)] → W p l e rX5_skipBlanks s m args below meth c H locs 0 0 Q (F0 m 5 ls []) := by
  intro n
  induction n with
  | zero =>
    intro x1 eo hf
    exact (jI_zero hf).elim
  | succ n ih =>
    intro x1 eo hf K H locs ls hP hD hS hl
    obtain ⟨o, hb1, ho⟩ := jI_some hf
    rcases ho with ⟨z, rfl, hf2⟩ | rfl
    · exact t_X5_skipBlanks_b5 G D cI cB cZ a_t a_t_tape a_t_tape_bytes u_t_sort u_t_start u_t_fault u_t_place u_t_tape_length u_t_tape_fault u_t_tape_place s_t_after s_t_length r_t_tape_bytes x1 C hb1 ⟨fun z2 hz H locs ls hP hD hS hl => by cases hz; exact ih z hf2 K H locs ls hP hD hS hl, fun z2 hz => by cases hz⟩ hP hD hS hl
    · exact t_X5_skipBlanks_b5 G D cI cB cZ a_t a_t_tape a_t_tape_bytes u_t_sort u_t_start u_t_fault u_t_place u_t_tape_length u_t_tape_fault u_t_tape_place s_t_after s_t_length r_t_tape_bytes x1 C hb1 ⟨fun z2 hz => (by cases hz), fun z2 hz => by cases hz; exact K⟩ hP hD hS hl
def f_X5_skipBlanks (s_t_after s_t_length : Int32) (r_t_tape_bytes : jA) : Option (Int32) :=
  jM (f_X5_skipBlanks_l5 s_t_length r_t_tape_bytes s_t_after) fun e6 =>
  Sum.elim (fun y7 =>
  some y7) (fun w8 =>
  some s_t_length) e6
set_option maxHeartbeats 4000000 in
set_option maxRecDepth 100000 in
theorem t_X5_skipBlanks {p : Program} {l : Launch} {e : Env} {s : State} {m : MethodId} {args : Array Value} {below : List Frame} {meth : Method} {c : Code} {A : Nat → Prop} {Q : State → Prop} (G : jGt) (D : va_G) (cI cB cZ : ClassId) (a_t a_t_tape a_t_tape_bytes : Nat) (u_t_sort u_t_start u_t_fault u_t_place u_t_tape_length u_t_tape_fault u_t_tape_place s_t_after s_t_length : Int32) (r_t_tape_bytes : jA)  (C : jCx p s m args c cX5_skipBlanks 2 gX5_skipBlanks RX5 G D (jT cI cB cZ) A) {o : Int32} (hf : f_X5_skipBlanks s_t_after s_t_length r_t_tape_bytes = some o) (K : ∀ (H : Heap) (locs : List Loc) (pc : Nat) (ls : Array Slot), va_P D vwCl (w_X5_skipBlanks cI cB cZ a_t a_t_tape a_t_tape_bytes u_t_sort u_t_start u_t_fault u_t_place u_t_tape_length u_t_tape_fault u_t_tape_place s_t_after s_t_length r_t_tape_bytes) H → va_S A s.heap H locs → decode cX5_skipBlanks pc = .ok (.ireturn, 1) → W p l e rX5_skipBlanks s m args below meth c H locs 0 0 Q (F0 m pc ls [.int o])) {H : Heap} {locs : List Loc} {ls : Array Slot} (hP : va_P D vwCl (w_X5_skipBlanks cI cB cZ a_t a_t_tape a_t_tape_bytes u_t_sort u_t_start u_t_fault u_t_place u_t_tape_length u_t_tape_fault u_t_tape_place s_t_after s_t_length r_t_tape_bytes) H) (hD : va_D A (w_X5_skipBlanks cI cB cZ a_t a_t_tape a_t_tape_bytes u_t_sort u_t_start u_t_fault u_t_place u_t_tape_length u_t_tape_fault u_t_tape_place s_t_after s_t_length r_t_tape_bytes)) (hS : va_S A s.heap H locs) (hl : lv_has ls 2 [(0, .ref a_t)]) : W p l e rX5_skipBlanks s m args below meth c H locs 0 0 Q (F0 m 0 ls []) := by
  obtain ⟨⟨hx, hb, hml, hown, hts⟩, hK, hN, hA⟩ := C
  have C : jCx p s m args c cX5_skipBlanks 2 gX5_skipBlanks RX5 G D (jT cI cB cZ) A := ⟨⟨hx, hb, hml, hown, hts⟩, hK, hN, hA⟩
  unfold f_X5_skipBlanks at hf
  refine lv_aload_n hx hb dX5_skipBlanks_0 rfl (lv_at hl 0 rfl) ?_
  refine va_get (D := D) (ci := 4) (v := .int s_t_after) (C := RX5) (T := TX5) (N := 7) hx hb hts iw_X5 hown hK hP 0 rfl rfl 2 (by decide) (hts _ (wG_in k_fl_X5_28 rfl)) (fun _ h9 => h9) rfl dX5_skipBlanks_1 ?_
  refine lv_istore_n (lv' := [(1, .int s_t_after), (0, .ref a_t)]) hx hb dX5_skipBlanks_4 rfl hl (by decide) rfl (fun ls hl => ?_)
  obtain ⟨e6, hg6, hf⟩ := jM_some hf
  refine t_X5_skipBlanks_l5 G D cI cB cZ a_t a_t_tape a_t_tape_bytes u_t_sort u_t_start u_t_fault u_t_place u_t_tape_length u_t_tape_fault u_t_tape_place s_t_after s_t_length r_t_tape_bytes  C jF s_t_after hg6 ?_ _ _ _ hP hD hS (lv_sub hl [1, 0] rfl)
  refine ⟨fun y7 hy => ?_, fun w8 hy => ?_⟩
  · replace hf := jE_l hy hf
    intro H locs ls hP hD hS hl
    refine lv_iload_n hx hb dX5_skipBlanks_33 rfl (lv_at hl 0 rfl) ?_
    have ho := Option.some.inj hf
    subst ho
    exact K _ _ _ _ hP hS dX5_skipBlanks_34
  · replace hf := jE_r hy hf
    intro H locs ls hP hD hS hl
    refine lv_aload_n hx hb dX5_skipBlanks_41 rfl (lv_at hl 0 rfl) ?_
    refine va_get (D := D) (ci := 4) (v := .int s_t_length) (C := RX5) (T := TX5) (N := 7) hx hb hts iw_X5 hown hK hP 0 rfl rfl 3 (by decide) (hts _ (wG_in k_fl_X5_21 rfl)) (fun _ h9 => h9) rfl dX5_skipBlanks_42 ?_
    have ho := Option.some.inj hf
    subst ho
    exact K _ _ _ _ hP hS dX5_skipBlanks_45
set_option maxHeartbeats 4000000 in
set_option maxRecDepth 100000 in
theorem c_X5_skipBlanks (l : Launch) (G : jGt) (D : va_G) (cI cB cZ : ClassId) (a_t a_t_tape a_t_tape_bytes : Nat) (u_t_sort u_t_start u_t_fault u_t_place u_t_tape_length u_t_tape_fault u_t_tape_place s_t_after s_t_length : Int32) (r_t_tape_bytes : jA)  {o : Int32} (hf : f_X5_skipBlanks s_t_after s_t_length r_t_tape_bytes = some o) : jMi l yX5_skipBlanks gX5_skipBlanks rX5_skipBlanks G D (jT cI cB cZ) [.ref a_t] (w_X5_skipBlanks cI cB cZ a_t a_t_tape a_t_tape_bytes u_t_sort u_t_start u_t_fault u_t_place u_t_tape_length u_t_tape_fault u_t_tape_place s_t_after s_t_length r_t_tape_bytes) (w_X5_skipBlanks cI cB cZ a_t a_t_tape a_t_tape_bytes u_t_sort u_t_start u_t_fault u_t_place u_t_tape_length u_t_tape_fault u_t_tape_place s_t_after s_t_length r_t_tape_bytes) o := by
  refine jmk_i RX5 rfl (by decide +kernel) rfl (Nat.le_of_ble_eq_true rfl) ?_
  intro p e s m args below meth c ls A Q C hP hD hS hl K
  exact t_X5_skipBlanks G D cI cB cZ a_t a_t_tape a_t_tape_bytes u_t_sort u_t_start u_t_fault u_t_place u_t_tape_length u_t_tape_fault u_t_tape_place s_t_after s_t_length r_t_tape_bytes  C hf K hP hD hS hl
abbrev rX5_isLetter : Room := { frames := 0, cells := 0, slots := 0, locals := 0 }
abbrev gX5_isLetter : List Cond := wG yX5_isLetter cX5_isLetter 1 (some .boolean)
def f_X5_isLetter (x0 : Int32) : Option (Int32) :=
  if x0 < (97 : Int32) then
  some (0 : Int32)
  else
  if (122 : Int32) < x0 then
  some (0 : Int32)
  else
  some (1 : Int32)
set_option maxHeartbeats 4000000 in
set_option maxRecDepth 100000 in
theorem t_X5_isLetter {p : Program} {l : Launch} {e : Env} {s : State} {m : MethodId} {args : Array Value} {below : List Frame} {meth : Method} {c : Code} {A : Nat → Prop} {Q : State → Prop} (G : jGt) (D : va_G) (cI cB cZ : ClassId) (x0 : Int32) (C : jCx p s m args c cX5_isLetter 1 gX5_isLetter RX5 G D (jT cI cB cZ) A) {o : Int32} (hf : f_X5_isLetter x0 = some o) (K : ∀ (H : Heap) (locs : List Loc) (pc : Nat) (ls : Array Slot), (o = 0 ∨ o = 1) → va_P D vwCl [] H → va_S A s.heap H locs → decode cX5_isLetter pc = .ok (.ireturn, 1) → W p l e rX5_isLetter s m args below meth c H locs 0 0 Q (F0 m pc ls [.int o])) {H : Heap} {locs : List Loc} {ls : Array Slot} (hP : va_P D vwCl [] H) (hD : va_D A []) (hS : va_S A s.heap H locs) (hl : lv_has ls 1 [(0, .int x0)]) : W p l e rX5_isLetter s m args below meth c H locs 0 0 Q (F0 m 0 ls []) := by
  obtain ⟨⟨hx, hb, hml, hown, hts⟩, hK, hN, hA⟩ := C
  have C : jCx p s m args c cX5_isLetter 1 gX5_isLetter RX5 G D (jT cI cB cZ) A := ⟨⟨hx, hb, hml, hown, hts⟩, hK, hN, hA⟩
  unfold f_X5_isLetter at hf
  refine lv_iload_n hx hb dX5_isLetter_0 rfl (lv_at hl 0 rfl) ?_
  refine lv_bipush (v := (97 : Int32)) hx hb dX5_isLetter_1 (by decide) ?_
  refine lv_icmp_lt (tgt := 16) hx hb dX5_isLetter_3 (by decide) (fun c1 => ?_) (fun c1 => ?_)
  · replace hf := jif_t c1 hf
    refine lv_iconst (v := (0 : Int32)) hx hb dX5_isLetter_16 (by decide) ?_
    have ho := Option.some.inj hf
    subst ho
    exact K _ _ _ _ (Or.inl rfl) hP hS dX5_isLetter_17
  · replace hf := jif_f c1 hf
    refine lv_iload_n hx hb dX5_isLetter_6 rfl (lv_at hl 0 rfl) ?_
    refine lv_bipush (v := (122 : Int32)) hx hb dX5_isLetter_7 (by decide) ?_
    refine lv_icmp_gt (tgt := 16) hx hb dX5_isLetter_9 (by decide) (fun c2 => ?_) (fun c2 => ?_)
    · replace hf := jif_t c2 hf
      refine lv_iconst (v := (0 : Int32)) hx hb dX5_isLetter_16 (by decide) ?_
      have ho := Option.some.inj hf
      subst ho
      exact K _ _ _ _ (Or.inl rfl) hP hS dX5_isLetter_17
    · replace hf := jif_f c2 hf
      refine lv_iconst (v := (1 : Int32)) hx hb dX5_isLetter_12 (by decide) ?_
      refine lv_goto (tgt := 17) hx hb dX5_isLetter_13 (by decide) ?_
      have ho := Option.some.inj hf
      subst ho
      exact K _ _ _ _ (Or.inr rfl) hP hS dX5_isLetter_17
set_option maxHeartbeats 4000000 in
set_option maxRecDepth 100000 in
theorem c_X5_isLetter (l : Launch) (G : jGt) (D : va_G) (cI cB cZ : ClassId) (x0 : Int32) {o : Int32} (hf : f_X5_isLetter x0 = some o) : jMi l yX5_isLetter gX5_isLetter rX5_isLetter G D (jT cI cB cZ) [.int x0] [] [] o := by
  refine jmk_z RX5 rfl (by decide +kernel) rfl (Nat.le_of_ble_eq_true rfl) ?_
  intro p e s m args below meth c ls A Q C hP hD hS hl K
  exact t_X5_isLetter G D cI cB cZ x0 C hf K hP hD hS hl
abbrev rX5_endOfRow : Room := { frames := 1, cells := 0, slots := 0, locals := 21 }
abbrev gX5_endOfRow : List Cond := wG yX5_endOfRow cX5_endOfRow 4 (some .int)
def w_X5_endOfRow (cI cB cZ : ClassId) (a_t a_t_tape a_t_tape_bytes : Nat) (u_t_sort u_t_after u_t_fault u_t_place u_t_tape_length u_t_tape_fault u_t_tape_place s_t_length s_t_start : Int32) (r_t_tape_bytes : jA) : va_W := [(a_t, .inr (4, (oX5 (.ref a_t_tape) u_t_sort u_t_after s_t_length s_t_start u_t_fault u_t_place))), (a_t_tape, .inr (6, (oX7 (.ref a_t_tape_bytes) u_t_tape_length u_t_tape_fault u_t_tape_place))), (a_t_tape_bytes, .inl (cB, r_t_tape_bytes.1, .inl r_t_tape_bytes.2))]
def f_X5_endOfRow_b5 (s_t_length : Int32) (r_t_tape_bytes : jA) (x1 x2 x3 : Int32) : Option ((Int32) ⊕ ((Int32) ⊕ ((Unit)))) :=
  if s_t_length ≤ x3 then
  some (Sum.inr (Sum.inr ()))
  else
  jM (f_X5_byteAt s_t_length r_t_tape_bytes x3) fun r2 =>
  if r2 < x1 then
  some (Sum.inr (Sum.inl x3))
  else
  jM (f_X5_byteAt s_t_length r_t_tape_bytes x3) fun r4 =>
  if r4 ≤ x2 then
  some (Sum.inl (x3 + 1))
  else
  some (Sum.inr (Sum.inl x3))
set_option maxHeartbeats 4000000 in
set_option maxRecDepth 100000 in
theorem t_X5_endOfRow_b5 {p : Program} {l : Launch} {e : Env} {s : State} {m : MethodId} {args : Array Value} {below : List Frame} {meth : Method} {c : Code} {A : Nat → Prop} {Q : State → Prop} (G : jGt) (D : va_G) (cI cB cZ : ClassId) (a_t a_t_tape a_t_tape_bytes : Nat) (u_t_sort u_t_after u_t_fault u_t_place u_t_tape_length u_t_tape_fault u_t_tape_place s_t_length s_t_start : Int32) (r_t_tape_bytes : jA) (x1 x2 x3 : Int32) (C : jCx p s m args c cX5_endOfRow 4 gX5_endOfRow RX5 G D (jT cI cB cZ) A) {o : (Int32) ⊕ ((Int32) ⊕ ((Unit)))} (hf : f_X5_endOfRow_b5 s_t_length r_t_tape_bytes x1 x2 x3 = some o) (K : (∀ z, o = Sum.inl z → ∀ (H : Heap) (locs : List Loc) (ls : Array Slot), va_P D vwCl (w_X5_endOfRow cI cB cZ a_t a_t_tape a_t_tape_bytes u_t_sort u_t_after u_t_fault u_t_place u_t_tape_length u_t_tape_fault u_t_tape_place s_t_length s_t_start r_t_tape_bytes) H → va_D A (w_X5_endOfRow cI cB cZ a_t a_t_tape a_t_tape_bytes u_t_sort u_t_after u_t_fault u_t_place u_t_tape_length u_t_tape_fault u_t_tape_place s_t_length s_t_start r_t_tape_bytes) → va_S A s.heap H locs → lv_has ls 4 [(0, .ref a_t), (1, .int x1), (2, .int x2), (3, .int z)] → W p l e rX5_endOfRow s m args below meth c H locs 0 0 Q (F0 m 5 ls [])) ∧ (∀ z, o = Sum.inr z → (∀ y0, z = Sum.inl y0 → ∀ (H : Heap) (locs : List Loc) (ls : Array Slot), va_P D vwCl (w_X5_endOfRow cI cB cZ a_t a_t_tape a_t_tape_bytes u_t_sort u_t_after u_t_fault u_t_place u_t_tape_length u_t_tape_fault u_t_tape_place s_t_length s_t_start r_t_tape_bytes) H → va_D A (w_X5_endOfRow cI cB cZ a_t a_t_tape a_t_tape_bytes u_t_sort u_t_after u_t_fault u_t_place u_t_tape_length u_t_tape_fault u_t_tape_place s_t_length s_t_start r_t_tape_bytes) → va_S A s.heap H locs → lv_has ls 4 [(3, .int y0)] → W p l e rX5_endOfRow s m args below meth c H locs 0 0 Q (F0 m 31 ls [])) ∧ (∀ z0, z = Sum.inr z0 → ∀ (H : Heap) (locs : List Loc) (ls : Array Slot), va_P D vwCl (w_X5_endOfRow cI cB cZ a_t a_t_tape a_t_tape_bytes u_t_sort u_t_after u_t_fault u_t_place u_t_tape_length u_t_tape_fault u_t_tape_place s_t_length s_t_start r_t_tape_bytes) H → va_D A (w_X5_endOfRow cI cB cZ a_t a_t_tape a_t_tape_bytes u_t_sort u_t_after u_t_fault u_t_place u_t_tape_length u_t_tape_fault u_t_tape_place s_t_length s_t_start r_t_tape_bytes) → va_S A s.heap H locs → lv_has ls 4 [(0, .ref a_t)] → W p l e rX5_endOfRow s m args below meth c H locs 0 0 Q (F0 m 39 ls [])))) {H : Heap} {locs : List Loc} {ls : Array Slot} (hP : va_P D vwCl (w_X5_endOfRow cI cB cZ a_t a_t_tape a_t_tape_bytes u_t_sort u_t_after u_t_fault u_t_place u_t_tape_length u_t_tape_fault u_t_tape_place s_t_length s_t_start r_t_tape_bytes) H) (hD : va_D A (w_X5_endOfRow cI cB cZ a_t a_t_tape a_t_tape_bytes u_t_sort u_t_after u_t_fault u_t_place u_t_tape_length u_t_tape_fault u_t_tape_place s_t_length s_t_start r_t_tape_bytes)) (hS : va_S A s.heap H locs) (hl : lv_has ls 4 [(0, .ref a_t), (1, .int x1), (2, .int x2), (3, .int x3)]) : W p l e rX5_endOfRow s m args below meth c H locs 0 0 Q (F0 m 5 ls []) := by
  obtain ⟨⟨hx, hb, hml, hown, hts⟩, hK, hN, hA⟩ := C
  have C : jCx p s m args c cX5_endOfRow 4 gX5_endOfRow RX5 G D (jT cI cB cZ) A := ⟨⟨hx, hb, hml, hown, hts⟩, hK, hN, hA⟩
  unfold f_X5_endOfRow_b5 at hf
  refine lv_iload_n hx hb dX5_endOfRow_5 rfl (lv_at hl 3 rfl) ?_
  refine lv_aload_n hx hb dX5_endOfRow_6 rfl (lv_at hl 0 rfl) ?_
  refine va_get (D := D) (ci := 4) (v := .int s_t_length) (C := RX5) (T := TX5) (N := 7) hx hb hts iw_X5 hown hK hP 0 rfl rfl 3 (by decide) (hts _ (wG_in k_fl_X5_21 rfl)) (fun _ h9 => h9) rfl dX5_endOfRow_7 ?_
  refine lv_icmp_ge (tgt := 39) hx hb dX5_endOfRow_10 (by decide) (fun c1 => ?_) (fun c1 => ?_)
  · replace hf := jif_t c1 hf
    have ho := Option.some.inj hf
    exact ((K.2 _ ho.symm).2 _ rfl) _ _ _ hP hD hS (lv_sub hl [0] rfl)
  · replace hf := jif_f c1 hf
    refine lv_aload_n hx hb dX5_endOfRow_13 rfl (lv_at hl 0 rfl) ?_
    refine lv_iload_n hx hb dX5_endOfRow_14 rfl (lv_at hl 3 rfl) ?_
    obtain ⟨r2, hgr2, hf⟩ := jM_some hf
    refine jcV_i (As := [.int x3]) (rest := []) ⟨hx, hb, hml, hown, hts⟩ hK hN hA (c_X5_byteAt l G D cI cB cZ a_t a_t_tape a_t_tape_bytes u_t_sort u_t_after s_t_start u_t_fault u_t_place u_t_tape_length u_t_tape_fault u_t_tape_place s_t_length r_t_tape_bytes x3 hgr2) (cwV 1 hts (wG_V k_ml_X5_49 k_im_X5_byteAt k_se_X5_byteAt k_in_X5 k_co_X5_byteAt) rfl rfl rfl hd_X5_byteAt ⟨Nat.le_of_ble_eq_true rfl, Nat.le_of_ble_eq_true rfl⟩) hP hD hS (w_X5_endOfRow cI cB cZ a_t a_t_tape a_t_tape_bytes u_t_sort u_t_after u_t_fault u_t_place u_t_tape_length u_t_tape_fault u_t_tape_place s_t_length s_t_start r_t_tape_bytes) [0, 1, 2] [] rfl rfl rfl (N := 3) rfl (by decide +kernel) rfl (by decide +kernel) (by decide +kernel) (ci := 4) rfl 0 rfl rfl rfl hl.1 rfl (Nat.le_of_ble_eq_true rfl) dX5_endOfRow_15 ⟨Nat.le_of_ble_eq_true rfl, Nat.le_of_ble_eq_true rfl⟩ (fun H locs hP hD hS => ?_)
    refine lv_iload_n hx hb dX5_endOfRow_18 rfl (lv_at hl 1 rfl) ?_
    refine lv_icmp_lt (tgt := 31) hx hb dX5_endOfRow_19 (by decide) (fun c3 => ?_) (fun c3 => ?_)
    · replace hf := jif_t c3 hf
      have ho := Option.some.inj hf
      exact ((K.2 _ ho.symm).1 _ rfl) _ _ _ hP hD hS (lv_sub hl [3] rfl)
    · replace hf := jif_f c3 hf
      refine lv_aload_n hx hb dX5_endOfRow_22 rfl (lv_at hl 0 rfl) ?_
      refine lv_iload_n hx hb dX5_endOfRow_23 rfl (lv_at hl 3 rfl) ?_
      obtain ⟨r4, hgr4, hf⟩ := jM_some hf
      refine jcV_i (As := [.int x3]) (rest := []) ⟨hx, hb, hml, hown, hts⟩ hK hN hA (c_X5_byteAt l G D cI cB cZ a_t a_t_tape a_t_tape_bytes u_t_sort u_t_after s_t_start u_t_fault u_t_place u_t_tape_length u_t_tape_fault u_t_tape_place s_t_length r_t_tape_bytes x3 hgr4) (cwV 1 hts (wG_V k_ml_X5_49 k_im_X5_byteAt k_se_X5_byteAt k_in_X5 k_co_X5_byteAt) rfl rfl rfl hd_X5_byteAt ⟨Nat.le_of_ble_eq_true rfl, Nat.le_of_ble_eq_true rfl⟩) hP hD hS (w_X5_endOfRow cI cB cZ a_t a_t_tape a_t_tape_bytes u_t_sort u_t_after u_t_fault u_t_place u_t_tape_length u_t_tape_fault u_t_tape_place s_t_length s_t_start r_t_tape_bytes) [0, 1, 2] [] rfl rfl rfl (N := 3) rfl (by decide +kernel) rfl (by decide +kernel) (by decide +kernel) (ci := 4) rfl 0 rfl rfl rfl hl.1 rfl (Nat.le_of_ble_eq_true rfl) dX5_endOfRow_24 ⟨Nat.le_of_ble_eq_true rfl, Nat.le_of_ble_eq_true rfl⟩ (fun H locs hP hD hS => ?_)
      refine lv_iload_n hx hb dX5_endOfRow_27 rfl (lv_at hl 2 rfl) ?_
      refine lv_icmp_le (tgt := 33) hx hb dX5_endOfRow_28 (by decide) (fun c5 => ?_) (fun c5 => ?_)
      · replace hf := jif_t c5 hf
        refine lv_iinc (v := (x3 + 1)) (lv' := [(3, .int (x3 + 1)), (0, .ref a_t), (1, .int x1), (2, .int x2)]) hx hb dX5_endOfRow_33 hl (k := 3) rfl (by first | rfl | decide) (by decide) rfl (fun ls hl => ?_)
        refine lv_goto (tgt := 5) hx hb dX5_endOfRow_36 (by decide) ?_
        have ho := Option.some.inj hf
        exact K.1 _ ho.symm _ _ _ hP hD hS (lv_sub hl [1, 2, 3, 0] rfl)
      · replace hf := jif_f c5 hf
        have ho := Option.some.inj hf
        exact ((K.2 _ ho.symm).1 _ rfl) _ _ _ hP hD hS (lv_sub hl [3] rfl)
def f_X5_endOfRow_l5 (s_t_length : Int32) (r_t_tape_bytes : jA) (x1 x2 x3 : Int32) : Option ((Int32) ⊕ ((Unit))) :=
  jI (fun z => f_X5_endOfRow_b5 s_t_length r_t_tape_bytes x1 x2 z) jF x3
set_option maxHeartbeats 4000000 in
set_option maxRecDepth 100000 in
theorem t_X5_endOfRow_l5 {p : Program} {l : Launch} {e : Env} {s : State} {m : MethodId} {args : Array Value} {below : List Frame} {meth : Method} {c : Code} {A : Nat → Prop} {Q : State → Prop} (G : jGt) (D : va_G) (cI cB cZ : ClassId) (a_t a_t_tape a_t_tape_bytes : Nat) (u_t_sort u_t_after u_t_fault u_t_place u_t_tape_length u_t_tape_fault u_t_tape_place s_t_length s_t_start : Int32) (r_t_tape_bytes : jA) (x1 x2 : Int32) (C : jCx p s m args c cX5_endOfRow 4 gX5_endOfRow RX5 G D (jT cI cB cZ) A) : ∀ (n : Nat) (x3 : Int32) {eo : (Int32) ⊕ ((Unit))}, jI (fun z => f_X5_endOfRow_b5 s_t_length r_t_tape_bytes x1 x2 z) n x3 = some eo → ((∀ y0, eo = Sum.inl y0 → ∀ (H : Heap) (locs : List Loc) (ls : Array Slot), va_P D vwCl (w_X5_endOfRow cI cB cZ a_t a_t_tape a_t_tape_bytes u_t_sort u_t_after u_t_fault u_t_place u_t_tape_length u_t_tape_fault u_t_tape_place s_t_length s_t_start r_t_tape_bytes) H → va_D A (w_X5_endOfRow cI cB cZ a_t a_t_tape a_t_tape_bytes u_t_sort u_t_after u_t_fault u_t_place u_t_tape_length u_t_tape_fault u_t_tape_place s_t_length s_t_start r_t_tape_bytes) → va_S A s.heap H locs → lv_has ls 4 [(3, .int y0)] → W p l e rX5_endOfRow s m args below meth c H locs 0 0 Q (F0 m 31 ls [])) ∧ (∀ z0, eo = Sum.inr z0 → ∀ (H : Heap) (locs : List Loc) (ls : Array Slot), va_P D vwCl (w_X5_endOfRow cI cB cZ a_t a_t_tape a_t_tape_bytes u_t_sort u_t_after u_t_fault u_t_place u_t_tape_length u_t_tape_fault u_t_tape_place s_t_length s_t_start r_t_tape_bytes) H → va_D A (w_X5_endOfRow cI cB cZ a_t a_t_tape a_t_tape_bytes u_t_sort u_t_after u_t_fault u_t_place u_t_tape_length u_t_tape_fault u_t_tape_place s_t_length s_t_start r_t_tape_bytes) → va_S A s.heap H locs → lv_has ls 4 [(0, .ref a_t)] → W p l e rX5_endOfRow s m args below meth c H locs 0 0 Q (F0 m 39 ls []))) → ∀ (H : Heap) (locs : List Loc) (ls : Array Slot), va_P D vwCl (w_X5_endOfRow cI cB cZ a_t a_t_tape a_t_tape_bytes u_t_sort u_t_after u_t_fault u_t_place u_t_tape_length u_t_tape_fault u_t_tape_place s_t_length s_t_start r_t_tape_bytes) H → va_D A (w_X5_endOfRow cI cB cZ a_t a_t_tape a_t_tape_bytes u_t_sort u_t_after u_t_fault u_t_place u_t_tape_length u_t_tape_fault u_t_tape_place s_t_length s_t_start r_t_tape_bytes) → va_S A s.heap H locs → lv_has ls 4 [(0, .ref a_t), (1, .int x1), (2, .int x2), (3, .int x3)] → W p l e rX5_endOfRow s m args below meth c H locs 0 0 Q (F0 m 5 ls []) := by
  intro n
  induction n with
  | zero =>
    intro x3 eo hf
    exact (jI_zero hf).elim
  | succ n ih =>
    intro x3 eo hf K H locs ls hP hD hS hl
    obtain ⟨o, hb1, ho⟩ := jI_some hf
    rcases ho with ⟨z, rfl, hf2⟩ | rfl
    · exact t_X5_endOfRow_b5 G D cI cB cZ a_t a_t_tape a_t_tape_bytes u_t_sort u_t_after u_t_fault u_t_place u_t_tape_length u_t_tape_fault u_t_tape_place s_t_length s_t_start r_t_tape_bytes x1 x2 x3 C hb1 ⟨fun z2 hz H locs ls hP hD hS hl => by cases hz; exact ih z hf2 K H locs ls hP hD hS hl, fun z2 hz => by cases hz⟩ hP hD hS hl
    · exact t_X5_endOfRow_b5 G D cI cB cZ a_t a_t_tape a_t_tape_bytes u_t_sort u_t_after u_t_fault u_t_place u_t_tape_length u_t_tape_fault u_t_tape_place s_t_length s_t_start r_t_tape_bytes x1 x2 x3 C hb1 ⟨fun z2 hz => (by cases hz), fun z2 hz => by cases hz; exact K⟩ hP hD hS hl
def f_X5_endOfRow (s_t_length s_t_start : Int32) (r_t_tape_bytes : jA) (x1 x2 : Int32) : Option (Int32) :=
  jM (f_X5_endOfRow_l5 s_t_length r_t_tape_bytes x1 x2 s_t_start) fun e6 =>
  Sum.elim (fun y7 =>
  some y7) (fun w8 =>
  some s_t_length) e6
set_option maxHeartbeats 4000000 in
set_option maxRecDepth 100000 in
theorem t_X5_endOfRow {p : Program} {l : Launch} {e : Env} {s : State} {m : MethodId} {args : Array Value} {below : List Frame} {meth : Method} {c : Code} {A : Nat → Prop} {Q : State → Prop} (G : jGt) (D : va_G) (cI cB cZ : ClassId) (a_t a_t_tape a_t_tape_bytes : Nat) (u_t_sort u_t_after u_t_fault u_t_place u_t_tape_length u_t_tape_fault u_t_tape_place s_t_length s_t_start : Int32) (r_t_tape_bytes : jA) (x1 x2 : Int32) (C : jCx p s m args c cX5_endOfRow 4 gX5_endOfRow RX5 G D (jT cI cB cZ) A) {o : Int32} (hf : f_X5_endOfRow s_t_length s_t_start r_t_tape_bytes x1 x2 = some o) (K : ∀ (H : Heap) (locs : List Loc) (pc : Nat) (ls : Array Slot), va_P D vwCl (w_X5_endOfRow cI cB cZ a_t a_t_tape a_t_tape_bytes u_t_sort u_t_after u_t_fault u_t_place u_t_tape_length u_t_tape_fault u_t_tape_place s_t_length s_t_start r_t_tape_bytes) H → va_S A s.heap H locs → decode cX5_endOfRow pc = .ok (.ireturn, 1) → W p l e rX5_endOfRow s m args below meth c H locs 0 0 Q (F0 m pc ls [.int o])) {H : Heap} {locs : List Loc} {ls : Array Slot} (hP : va_P D vwCl (w_X5_endOfRow cI cB cZ a_t a_t_tape a_t_tape_bytes u_t_sort u_t_after u_t_fault u_t_place u_t_tape_length u_t_tape_fault u_t_tape_place s_t_length s_t_start r_t_tape_bytes) H) (hD : va_D A (w_X5_endOfRow cI cB cZ a_t a_t_tape a_t_tape_bytes u_t_sort u_t_after u_t_fault u_t_place u_t_tape_length u_t_tape_fault u_t_tape_place s_t_length s_t_start r_t_tape_bytes)) (hS : va_S A s.heap H locs) (hl : lv_has ls 4 [(0, .ref a_t), (1, .int x1), (2, .int x2)]) : W p l e rX5_endOfRow s m args below meth c H locs 0 0 Q (F0 m 0 ls []) := by
  obtain ⟨⟨hx, hb, hml, hown, hts⟩, hK, hN, hA⟩ := C
  have C : jCx p s m args c cX5_endOfRow 4 gX5_endOfRow RX5 G D (jT cI cB cZ) A := ⟨⟨hx, hb, hml, hown, hts⟩, hK, hN, hA⟩
  unfold f_X5_endOfRow at hf
  refine lv_aload_n hx hb dX5_endOfRow_0 rfl (lv_at hl 0 rfl) ?_
  refine va_get (D := D) (ci := 4) (v := .int s_t_start) (C := RX5) (T := TX5) (N := 7) hx hb hts iw_X5 hown hK hP 0 rfl rfl 4 (by decide) (hts _ (wG_in k_fl_X5_35 rfl)) (fun _ h9 => h9) rfl dX5_endOfRow_1 ?_
  refine lv_istore_n (lv' := [(3, .int s_t_start), (0, .ref a_t), (1, .int x1), (2, .int x2)]) hx hb dX5_endOfRow_4 rfl hl (by decide) rfl (fun ls hl => ?_)
  obtain ⟨e6, hg6, hf⟩ := jM_some hf
  refine t_X5_endOfRow_l5 G D cI cB cZ a_t a_t_tape a_t_tape_bytes u_t_sort u_t_after u_t_fault u_t_place u_t_tape_length u_t_tape_fault u_t_tape_place s_t_length s_t_start r_t_tape_bytes x1 x2 C jF s_t_start hg6 ?_ _ _ _ hP hD hS (lv_sub hl [1, 2, 3, 0] rfl)
  refine ⟨fun y7 hy => ?_, fun w8 hy => ?_⟩
  · replace hf := jE_l hy hf
    intro H locs ls hP hD hS hl
    refine lv_iload_n hx hb dX5_endOfRow_31 rfl (lv_at hl 0 rfl) ?_
    have ho := Option.some.inj hf
    subst ho
    exact K _ _ _ _ hP hS dX5_endOfRow_32
  · replace hf := jE_r hy hf
    intro H locs ls hP hD hS hl
    refine lv_aload_n hx hb dX5_endOfRow_39 rfl (lv_at hl 0 rfl) ?_
    refine va_get (D := D) (ci := 4) (v := .int s_t_length) (C := RX5) (T := TX5) (N := 7) hx hb hts iw_X5 hown hK hP 0 rfl rfl 3 (by decide) (hts _ (wG_in k_fl_X5_21 rfl)) (fun _ h9 => h9) rfl dX5_endOfRow_40 ?_
    have ho := Option.some.inj hf
    subst ho
    exact K _ _ _ _ hP hS dX5_endOfRow_43
set_option maxHeartbeats 4000000 in
set_option maxRecDepth 100000 in
theorem c_X5_endOfRow (l : Launch) (G : jGt) (D : va_G) (cI cB cZ : ClassId) (a_t a_t_tape a_t_tape_bytes : Nat) (u_t_sort u_t_after u_t_fault u_t_place u_t_tape_length u_t_tape_fault u_t_tape_place s_t_length s_t_start : Int32) (r_t_tape_bytes : jA) (x1 x2 : Int32) {o : Int32} (hf : f_X5_endOfRow s_t_length s_t_start r_t_tape_bytes x1 x2 = some o) : jMi l yX5_endOfRow gX5_endOfRow rX5_endOfRow G D (jT cI cB cZ) [.ref a_t, .int x1, .int x2] (w_X5_endOfRow cI cB cZ a_t a_t_tape a_t_tape_bytes u_t_sort u_t_after u_t_fault u_t_place u_t_tape_length u_t_tape_fault u_t_tape_place s_t_length s_t_start r_t_tape_bytes) (w_X5_endOfRow cI cB cZ a_t a_t_tape a_t_tape_bytes u_t_sort u_t_after u_t_fault u_t_place u_t_tape_length u_t_tape_fault u_t_tape_place s_t_length s_t_start r_t_tape_bytes) o := by
  refine jmk_i RX5 rfl (by decide +kernel) rfl (Nat.le_of_ble_eq_true rfl) ?_
  intro p e s m args below meth c ls A Q C hP hD hS hl K
  exact t_X5_endOfRow G D cI cB cZ a_t a_t_tape a_t_tape_bytes u_t_sort u_t_after u_t_fault u_t_place u_t_tape_length u_t_tape_fault u_t_tape_place s_t_length s_t_start r_t_tape_bytes x1 x2 C hf K hP hD hS hl
abbrev rX5_next : Room := { frames := 2, cells := 0, slots := 0, locals := 44 }
abbrev gX5_next : List Cond := wG yX5_next cX5_next 2 none
def w_X5_next (cI cB cZ : ClassId) (a_t a_t_tape a_t_tape_bytes : Nat) (u_t_fault u_t_place u_t_tape_length u_t_tape_fault u_t_tape_place s_t_after s_t_length s_t_sort s_t_start : Int32) (r_t_tape_bytes : jA) : va_W := [(a_t, .inr (4, (oX5 (.ref a_t_tape) s_t_sort s_t_after s_t_length s_t_start u_t_fault u_t_place))), (a_t_tape, .inr (6, (oX7 (.ref a_t_tape_bytes) u_t_tape_length u_t_tape_fault u_t_tape_place))), (a_t_tape_bytes, .inl (cB, r_t_tape_bytes.1, .inl r_t_tape_bytes.2))]
def f_X5_next_j98 (s_t_after s_t_sort s_t_start x1 : Int32) : Option (Int32 × Int32 × Int32) :=
  if x1 = (59 : Int32) then
  some (s_t_after, (3 : Int32), s_t_start)
  else
  if x1 = (-1 : Int32) then
  some (s_t_start, (4 : Int32), s_t_start)
  else
  some (s_t_after, (5 : Int32), s_t_start)
set_option maxHeartbeats 4000000 in
set_option maxRecDepth 100000 in
theorem t_X5_next_j98 {p : Program} {l : Launch} {e : Env} {s : State} {m : MethodId} {args : Array Value} {below : List Frame} {meth : Method} {c : Code} {A : Nat → Prop} {Q : State → Prop} (G : jGt) (D : va_G) (cI cB cZ : ClassId) (a_t a_t_tape a_t_tape_bytes : Nat) (u_t_fault u_t_place u_t_tape_length u_t_tape_fault u_t_tape_place s_t_length : Int32) (r_t_tape_bytes : jA) (s_t_after s_t_sort s_t_start x1 : Int32) (C : jCx p s m args c cX5_next 2 gX5_next RX5 G D (jT cI cB cZ) A) {o : Int32 × Int32 × Int32} (hf : f_X5_next_j98 s_t_after s_t_sort s_t_start x1 = some o) (K : ∀ (H : Heap) (locs : List Loc) (pc : Nat) (ls : Array Slot), va_P D vwCl (w_X5_next cI cB cZ a_t a_t_tape a_t_tape_bytes u_t_fault u_t_place u_t_tape_length u_t_tape_fault u_t_tape_place o.1 s_t_length o.2.1 o.2.2 r_t_tape_bytes) H → va_S A s.heap H locs → decode cX5_next pc = .ok (.return_, 1) → W p l e rX5_next s m args below meth c H locs 0 0 Q (F0 m pc ls [])) {H : Heap} {locs : List Loc} {ls : Array Slot} (hP : va_P D vwCl (w_X5_next cI cB cZ a_t a_t_tape a_t_tape_bytes u_t_fault u_t_place u_t_tape_length u_t_tape_fault u_t_tape_place s_t_after s_t_length s_t_sort s_t_start r_t_tape_bytes) H) (hD : va_D A (w_X5_next cI cB cZ a_t a_t_tape a_t_tape_bytes u_t_fault u_t_place u_t_tape_length u_t_tape_fault u_t_tape_place s_t_after s_t_length s_t_sort s_t_start r_t_tape_bytes)) (hS : va_S A s.heap H locs) (hl : lv_has ls 2 [(0, .ref a_t), (1, .int x1)]) : W p l e rX5_next s m args below meth c H locs 0 0 Q (F0 m 98 ls []) := by
  obtain ⟨⟨hx, hb, hml, hown, hts⟩, hK, hN, hA⟩ := C
  have C : jCx p s m args c cX5_next 2 gX5_next RX5 G D (jT cI cB cZ) A := ⟨⟨hx, hb, hml, hown, hts⟩, hK, hN, hA⟩
  unfold f_X5_next_j98 at hf
  refine lv_iload_n hx hb dX5_next_98 rfl (lv_at hl 1 rfl) ?_
  refine lv_bipush (v := (59 : Int32)) hx hb dX5_next_99 (by decide) ?_
  refine lv_icmp_ne (tgt := 112) hx hb dX5_next_101 (by decide) (fun c7 => ?_) (fun c7 => ?_)
  · replace hf := jif_f c7 hf
    refine lv_iload_n hx hb dX5_next_112 rfl (lv_at hl 1 rfl) ?_
    refine lv_iconst (v := (-1 : Int32)) hx hb dX5_next_113 (by decide) ?_
    refine lv_icmp_ne (tgt := 133) hx hb dX5_next_114 (by decide) (fun c8 => ?_) (fun c8 => ?_)
    · replace hf := jif_f c8 hf
      refine lv_aload_n hx hb dX5_next_133 rfl (lv_at hl 0 rfl) ?_
      refine lv_iconst (v := (5 : Int32)) hx hb dX5_next_134 (by decide) ?_
      refine va_put (D := D) (ci := 4) (v := .int (5 : Int32)) (ty := .int) (C := RX5) (T := TX5) (N := 7) hx hb hts iw_X5 tyX5 tyX5_ok nmX5 hown hK hP hD hS 0 rfl rfl 1 (by decide) (hts _ (wG_in k_fl_X5_38 rfl)) (fun _ h9 => h9) rfl (tyX5_ok 1 (by decide)) rfl rfl (Nat.le_of_ble_eq_true rfl) dX5_next_135 (fun H locs hP hD hS => ?_)
      have hP : va_P D vwCl (w_X5_next cI cB cZ a_t a_t_tape a_t_tape_bytes u_t_fault u_t_place u_t_tape_length u_t_tape_fault u_t_tape_place s_t_after s_t_length (5 : Int32) s_t_start r_t_tape_bytes) H := hP
      have hD : va_D A (w_X5_next cI cB cZ a_t a_t_tape a_t_tape_bytes u_t_fault u_t_place u_t_tape_length u_t_tape_fault u_t_tape_place s_t_after s_t_length (5 : Int32) s_t_start r_t_tape_bytes) := hD
      have ho := Option.some.inj hf
      subst ho
      exact K _ _ _ _ hP hS dX5_next_138
    · replace hf := jif_t c8 hf
      refine lv_aload_n hx hb dX5_next_117 rfl (lv_at hl 0 rfl) ?_
      refine lv_iconst (v := (4 : Int32)) hx hb dX5_next_118 (by decide) ?_
      refine va_put (D := D) (ci := 4) (v := .int (4 : Int32)) (ty := .int) (C := RX5) (T := TX5) (N := 7) hx hb hts iw_X5 tyX5 tyX5_ok nmX5 hown hK hP hD hS 0 rfl rfl 1 (by decide) (hts _ (wG_in k_fl_X5_38 rfl)) (fun _ h9 => h9) rfl (tyX5_ok 1 (by decide)) rfl rfl (Nat.le_of_ble_eq_true rfl) dX5_next_119 (fun H locs hP hD hS => ?_)
      have hP : va_P D vwCl (w_X5_next cI cB cZ a_t a_t_tape a_t_tape_bytes u_t_fault u_t_place u_t_tape_length u_t_tape_fault u_t_tape_place s_t_after s_t_length (4 : Int32) s_t_start r_t_tape_bytes) H := hP
      have hD : va_D A (w_X5_next cI cB cZ a_t a_t_tape a_t_tape_bytes u_t_fault u_t_place u_t_tape_length u_t_tape_fault u_t_tape_place s_t_after s_t_length (4 : Int32) s_t_start r_t_tape_bytes) := hD
      refine lv_aload_n hx hb dX5_next_122 rfl (lv_at hl 0 rfl) ?_
      refine lv_aload_n hx hb dX5_next_123 rfl (lv_at hl 0 rfl) ?_
      refine va_get (D := D) (ci := 4) (v := .int s_t_start) (C := RX5) (T := TX5) (N := 7) hx hb hts iw_X5 hown hK hP 0 rfl rfl 4 (by decide) (hts _ (wG_in k_fl_X5_35 rfl)) (fun _ h9 => h9) rfl dX5_next_124 ?_
      refine va_put (D := D) (ci := 4) (v := .int s_t_start) (ty := .int) (C := RX5) (T := TX5) (N := 7) hx hb hts iw_X5 tyX5 tyX5_ok nmX5 hown hK hP hD hS 0 rfl rfl 2 (by decide) (hts _ (wG_in k_fl_X5_28 rfl)) (fun _ h9 => h9) rfl (tyX5_ok 2 (by decide)) rfl rfl (Nat.le_of_ble_eq_true rfl) dX5_next_127 (fun H locs hP hD hS => ?_)
      have hP : va_P D vwCl (w_X5_next cI cB cZ a_t a_t_tape a_t_tape_bytes u_t_fault u_t_place u_t_tape_length u_t_tape_fault u_t_tape_place s_t_start s_t_length (4 : Int32) s_t_start r_t_tape_bytes) H := hP
      have hD : va_D A (w_X5_next cI cB cZ a_t a_t_tape a_t_tape_bytes u_t_fault u_t_place u_t_tape_length u_t_tape_fault u_t_tape_place s_t_start s_t_length (4 : Int32) s_t_start r_t_tape_bytes) := hD
      refine lv_goto (tgt := 138) hx hb dX5_next_130 (by decide) ?_
      have ho := Option.some.inj hf
      subst ho
      exact K _ _ _ _ hP hS dX5_next_138
  · replace hf := jif_t c7 hf
    refine lv_aload_n hx hb dX5_next_104 rfl (lv_at hl 0 rfl) ?_
    refine lv_iconst (v := (3 : Int32)) hx hb dX5_next_105 (by decide) ?_
    refine va_put (D := D) (ci := 4) (v := .int (3 : Int32)) (ty := .int) (C := RX5) (T := TX5) (N := 7) hx hb hts iw_X5 tyX5 tyX5_ok nmX5 hown hK hP hD hS 0 rfl rfl 1 (by decide) (hts _ (wG_in k_fl_X5_38 rfl)) (fun _ h9 => h9) rfl (tyX5_ok 1 (by decide)) rfl rfl (Nat.le_of_ble_eq_true rfl) dX5_next_106 (fun H locs hP hD hS => ?_)
    have hP : va_P D vwCl (w_X5_next cI cB cZ a_t a_t_tape a_t_tape_bytes u_t_fault u_t_place u_t_tape_length u_t_tape_fault u_t_tape_place s_t_after s_t_length (3 : Int32) s_t_start r_t_tape_bytes) H := hP
    have hD : va_D A (w_X5_next cI cB cZ a_t a_t_tape a_t_tape_bytes u_t_fault u_t_place u_t_tape_length u_t_tape_fault u_t_tape_place s_t_after s_t_length (3 : Int32) s_t_start r_t_tape_bytes) := hD
    refine lv_goto (tgt := 138) hx hb dX5_next_109 (by decide) ?_
    have ho := Option.some.inj hf
    subst ho
    exact K _ _ _ _ hP hS dX5_next_138
def f_X5_next_j92 (s_t_after s_t_sort s_t_start k1 : Int32) : Option (Int32 × Int32 × Int32) :=
  some (s_t_after, k1, s_t_start)
set_option maxHeartbeats 4000000 in
set_option maxRecDepth 100000 in
theorem t_X5_next_j92 {p : Program} {l : Launch} {e : Env} {s : State} {m : MethodId} {args : Array Value} {below : List Frame} {meth : Method} {c : Code} {A : Nat → Prop} {Q : State → Prop} (G : jGt) (D : va_G) (cI cB cZ : ClassId) (a_t a_t_tape a_t_tape_bytes : Nat) (u_t_fault u_t_place u_t_tape_length u_t_tape_fault u_t_tape_place s_t_length : Int32) (r_t_tape_bytes : jA) (s_t_after s_t_sort s_t_start k1 : Int32) (C : jCx p s m args c cX5_next 2 gX5_next RX5 G D (jT cI cB cZ) A) {o : Int32 × Int32 × Int32} (hf : f_X5_next_j92 s_t_after s_t_sort s_t_start k1 = some o) (K : ∀ (H : Heap) (locs : List Loc) (pc : Nat) (ls : Array Slot), va_P D vwCl (w_X5_next cI cB cZ a_t a_t_tape a_t_tape_bytes u_t_fault u_t_place u_t_tape_length u_t_tape_fault u_t_tape_place o.1 s_t_length o.2.1 o.2.2 r_t_tape_bytes) H → va_S A s.heap H locs → decode cX5_next pc = .ok (.return_, 1) → W p l e rX5_next s m args below meth c H locs 0 0 Q (F0 m pc ls [])) {H : Heap} {locs : List Loc} {ls : Array Slot} (hP : va_P D vwCl (w_X5_next cI cB cZ a_t a_t_tape a_t_tape_bytes u_t_fault u_t_place u_t_tape_length u_t_tape_fault u_t_tape_place s_t_after s_t_length s_t_sort s_t_start r_t_tape_bytes) H) (hD : va_D A (w_X5_next cI cB cZ a_t a_t_tape a_t_tape_bytes u_t_fault u_t_place u_t_tape_length u_t_tape_fault u_t_tape_place s_t_after s_t_length s_t_sort s_t_start r_t_tape_bytes)) (hS : va_S A s.heap H locs) (hl : lv_has ls 2 []) : W p l e rX5_next s m args below meth c H locs 0 0 Q (F0 m 92 ls [.int k1, .ref a_t]) := by
  obtain ⟨⟨hx, hb, hml, hown, hts⟩, hK, hN, hA⟩ := C
  have C : jCx p s m args c cX5_next 2 gX5_next RX5 G D (jT cI cB cZ) A := ⟨⟨hx, hb, hml, hown, hts⟩, hK, hN, hA⟩
  unfold f_X5_next_j92 at hf
  refine va_put (D := D) (ci := 4) (v := .int k1) (ty := .int) (C := RX5) (T := TX5) (N := 7) hx hb hts iw_X5 tyX5 tyX5_ok nmX5 hown hK hP hD hS 0 rfl rfl 1 (by decide) (hts _ (wG_in k_fl_X5_38 rfl)) (fun _ h9 => h9) rfl (tyX5_ok 1 (by decide)) rfl rfl (Nat.le_of_ble_eq_true rfl) dX5_next_92 (fun H locs hP hD hS => ?_)
  have hP : va_P D vwCl (w_X5_next cI cB cZ a_t a_t_tape a_t_tape_bytes u_t_fault u_t_place u_t_tape_length u_t_tape_fault u_t_tape_place s_t_after s_t_length k1 s_t_start r_t_tape_bytes) H := hP
  have hD : va_D A (w_X5_next cI cB cZ a_t a_t_tape a_t_tape_bytes u_t_fault u_t_place u_t_tape_length u_t_tape_fault u_t_tape_place s_t_after s_t_length k1 s_t_start r_t_tape_bytes) := hD
  refine lv_goto (tgt := 138) hx hb dX5_next_95 (by decide) ?_
  have ho := Option.some.inj hf
  subst ho
  exact K _ _ _ _ hP hS dX5_next_138
def f_X5_next (s_t_length : Int32) (r_t_tape_bytes : jA) (s_t_after s_t_sort s_t_start : Int32) : Option (Int32 × Int32 × Int32) :=
  jM (f_X5_skipBlanks s_t_after s_t_length r_t_tape_bytes) fun r1 =>
  jM (f_X5_byteAt s_t_length r_t_tape_bytes r1) fun r2 =>
  jV (r1 + (1 : Int32)) fun v3 =>
  jM (f_X5_isLetter r2) fun r4 =>
  if r4 = 0 then
  if r2 < (48 : Int32) then
  f_X5_next_j98 v3 s_t_sort r1 r2
  else
  if (57 : Int32) < r2 then
  f_X5_next_j98 v3 s_t_sort r1 r2
  else
  jM (f_X5_endOfRow s_t_length r1 r_t_tape_bytes (48 : Int32) (57 : Int32)) fun r10 =>
  jM (f_X5_size r10 r1) fun r11 =>
  if r11 ≤ (4 : Int32) then
  f_X5_next_j92 r10 s_t_sort r1 (2 : Int32)
  else
  f_X5_next_j92 r10 s_t_sort r1 (5 : Int32)
  else
  jM (f_X5_endOfRow s_t_length r1 r_t_tape_bytes (97 : Int32) (122 : Int32)) fun r13 =>
  some (r13, (1 : Int32), r1)
set_option maxHeartbeats 4000000 in
set_option maxRecDepth 100000 in
theorem t_X5_next {p : Program} {l : Launch} {e : Env} {s : State} {m : MethodId} {args : Array Value} {below : List Frame} {meth : Method} {c : Code} {A : Nat → Prop} {Q : State → Prop} (G : jGt) (D : va_G) (cI cB cZ : ClassId) (a_t a_t_tape a_t_tape_bytes : Nat) (u_t_fault u_t_place u_t_tape_length u_t_tape_fault u_t_tape_place s_t_length : Int32) (r_t_tape_bytes : jA) (s_t_after s_t_sort s_t_start : Int32) (C : jCx p s m args c cX5_next 2 gX5_next RX5 G D (jT cI cB cZ) A) {o : Int32 × Int32 × Int32} (hf : f_X5_next s_t_length r_t_tape_bytes s_t_after s_t_sort s_t_start = some o) (K : ∀ (H : Heap) (locs : List Loc) (pc : Nat) (ls : Array Slot), va_P D vwCl (w_X5_next cI cB cZ a_t a_t_tape a_t_tape_bytes u_t_fault u_t_place u_t_tape_length u_t_tape_fault u_t_tape_place o.1 s_t_length o.2.1 o.2.2 r_t_tape_bytes) H → va_S A s.heap H locs → decode cX5_next pc = .ok (.return_, 1) → W p l e rX5_next s m args below meth c H locs 0 0 Q (F0 m pc ls [])) {H : Heap} {locs : List Loc} {ls : Array Slot} (hP : va_P D vwCl (w_X5_next cI cB cZ a_t a_t_tape a_t_tape_bytes u_t_fault u_t_place u_t_tape_length u_t_tape_fault u_t_tape_place s_t_after s_t_length s_t_sort s_t_start r_t_tape_bytes) H) (hD : va_D A (w_X5_next cI cB cZ a_t a_t_tape a_t_tape_bytes u_t_fault u_t_place u_t_tape_length u_t_tape_fault u_t_tape_place s_t_after s_t_length s_t_sort s_t_start r_t_tape_bytes)) (hS : va_S A s.heap H locs) (hl : lv_has ls 2 [(0, .ref a_t)]) : W p l e rX5_next s m args below meth c H locs 0 0 Q (F0 m 0 ls []) := by
  obtain ⟨⟨hx, hb, hml, hown, hts⟩, hK, hN, hA⟩ := C
  have C : jCx p s m args c cX5_next 2 gX5_next RX5 G D (jT cI cB cZ) A := ⟨⟨hx, hb, hml, hown, hts⟩, hK, hN, hA⟩
  unfold f_X5_next at hf
  refine lv_aload_n hx hb dX5_next_0 rfl (lv_at hl 0 rfl) ?_
  refine lv_aload_n hx hb dX5_next_1 rfl (lv_at hl 0 rfl) ?_
  obtain ⟨r1, hgr1, hf⟩ := jM_some hf
  refine jcV_i (As := []) (rest := [.ref a_t]) ⟨hx, hb, hml, hown, hts⟩ hK hN hA (c_X5_skipBlanks l G D cI cB cZ a_t a_t_tape a_t_tape_bytes s_t_sort s_t_start u_t_fault u_t_place u_t_tape_length u_t_tape_fault u_t_tape_place s_t_after s_t_length r_t_tape_bytes hgr1) (cwV 0 hts (wG_V k_ml_X5_45 k_im_X5_skipBlanks k_se_X5_skipBlanks k_in_X5 k_co_X5_skipBlanks) rfl rfl rfl hd_X5_skipBlanks ⟨Nat.le_of_ble_eq_true rfl, Nat.le_of_ble_eq_true rfl⟩) hP hD hS (w_X5_next cI cB cZ a_t a_t_tape a_t_tape_bytes u_t_fault u_t_place u_t_tape_length u_t_tape_fault u_t_tape_place s_t_after s_t_length s_t_sort s_t_start r_t_tape_bytes) [0, 1, 2] [] rfl rfl rfl (N := 3) rfl (by decide +kernel) rfl (by decide +kernel) (by decide +kernel) (ci := 4) rfl 0 rfl rfl rfl hl.1 rfl (Nat.le_of_ble_eq_true rfl) dX5_next_2 ⟨Nat.le_of_ble_eq_true rfl, Nat.le_of_ble_eq_true rfl⟩ (fun H locs hP hD hS => ?_)
  refine va_put (D := D) (ci := 4) (v := .int r1) (ty := .int) (C := RX5) (T := TX5) (N := 7) hx hb hts iw_X5 tyX5 tyX5_ok nmX5 hown hK hP hD hS 0 rfl rfl 4 (by decide) (hts _ (wG_in k_fl_X5_35 rfl)) (fun _ h9 => h9) rfl (tyX5_ok 4 (by decide)) rfl rfl (Nat.le_of_ble_eq_true rfl) dX5_next_5 (fun H locs hP hD hS => ?_)
  have hP : va_P D vwCl (w_X5_next cI cB cZ a_t a_t_tape a_t_tape_bytes u_t_fault u_t_place u_t_tape_length u_t_tape_fault u_t_tape_place s_t_after s_t_length s_t_sort r1 r_t_tape_bytes) H := hP
  have hD : va_D A (w_X5_next cI cB cZ a_t a_t_tape a_t_tape_bytes u_t_fault u_t_place u_t_tape_length u_t_tape_fault u_t_tape_place s_t_after s_t_length s_t_sort r1 r_t_tape_bytes) := hD
  refine lv_aload_n hx hb dX5_next_8 rfl (lv_at hl 0 rfl) ?_
  refine lv_aload_n hx hb dX5_next_9 rfl (lv_at hl 0 rfl) ?_
  refine va_get (D := D) (ci := 4) (v := .int r1) (C := RX5) (T := TX5) (N := 7) hx hb hts iw_X5 hown hK hP 0 rfl rfl 4 (by decide) (hts _ (wG_in k_fl_X5_35 rfl)) (fun _ h9 => h9) rfl dX5_next_10 ?_
  obtain ⟨r2, hgr2, hf⟩ := jM_some hf
  refine jcV_i (As := [.int r1]) (rest := []) ⟨hx, hb, hml, hown, hts⟩ hK hN hA (c_X5_byteAt l G D cI cB cZ a_t a_t_tape a_t_tape_bytes s_t_sort s_t_after r1 u_t_fault u_t_place u_t_tape_length u_t_tape_fault u_t_tape_place s_t_length r_t_tape_bytes r1 hgr2) (cwV 1 hts (wG_V k_ml_X5_49 k_im_X5_byteAt k_se_X5_byteAt k_in_X5 k_co_X5_byteAt) rfl rfl rfl hd_X5_byteAt ⟨Nat.le_of_ble_eq_true rfl, Nat.le_of_ble_eq_true rfl⟩) hP hD hS (w_X5_next cI cB cZ a_t a_t_tape a_t_tape_bytes u_t_fault u_t_place u_t_tape_length u_t_tape_fault u_t_tape_place s_t_after s_t_length s_t_sort r1 r_t_tape_bytes) [0, 1, 2] [] rfl rfl rfl (N := 3) rfl (by decide +kernel) rfl (by decide +kernel) (by decide +kernel) (ci := 4) rfl 0 rfl rfl rfl hl.1 rfl (Nat.le_of_ble_eq_true rfl) dX5_next_13 ⟨Nat.le_of_ble_eq_true rfl, Nat.le_of_ble_eq_true rfl⟩ (fun H locs hP hD hS => ?_)
  refine lv_istore_n (lv' := [(1, .int r2), (0, .ref a_t)]) hx hb dX5_next_16 rfl hl (by decide) rfl (fun ls hl => ?_)
  refine lv_aload_n hx hb dX5_next_17 rfl (lv_at hl 1 rfl) ?_
  refine lv_aload_n hx hb dX5_next_18 rfl (lv_at hl 1 rfl) ?_
  refine va_get (D := D) (ci := 4) (v := .int r1) (C := RX5) (T := TX5) (N := 7) hx hb hts iw_X5 hown hK hP 0 rfl rfl 4 (by decide) (hts _ (wG_in k_fl_X5_35 rfl)) (fun _ h9 => h9) rfl dX5_next_19 ?_
  refine lv_iconst (v := (1 : Int32)) hx hb dX5_next_22 (by decide) ?_
  refine lv_iadd hx hb dX5_next_23 ?_
  obtain ⟨v3, hv3, hf⟩ := jV_some hf
  refine jtop hv3 ?_
  refine va_put (D := D) (ci := 4) (v := .int v3) (ty := .int) (C := RX5) (T := TX5) (N := 7) hx hb hts iw_X5 tyX5 tyX5_ok nmX5 hown hK hP hD hS 0 rfl rfl 2 (by decide) (hts _ (wG_in k_fl_X5_28 rfl)) (fun _ h9 => h9) rfl (tyX5_ok 2 (by decide)) rfl rfl (Nat.le_of_ble_eq_true rfl) dX5_next_24 (fun H locs hP hD hS => ?_)
  have hP : va_P D vwCl (w_X5_next cI cB cZ a_t a_t_tape a_t_tape_bytes u_t_fault u_t_place u_t_tape_length u_t_tape_fault u_t_tape_place v3 s_t_length s_t_sort r1 r_t_tape_bytes) H := hP
  have hD : va_D A (w_X5_next cI cB cZ a_t a_t_tape a_t_tape_bytes u_t_fault u_t_place u_t_tape_length u_t_tape_fault u_t_tape_place v3 s_t_length s_t_sort r1 r_t_tape_bytes) := hD
  refine lv_iload_n hx hb dX5_next_27 rfl (lv_at hl 0 rfl) ?_
  obtain ⟨r4, hgr4, hf⟩ := jM_some hf
  refine jcS_i (As := [.int r2]) (rest := []) ⟨hx, hb, hml, hown, hts⟩ hK hN hA (c_X5_isLetter l G D cI cB cZ r2 hgr4) (va_cwS 1 hts (wG_S k_ml_X5_53 k_st_X5_isLetter k_in_X5 k_co_X5_isLetter) rfl rfl rfl hd_X5_isLetter.2 ⟨Nat.le_of_ble_eq_true rfl, Nat.le_of_ble_eq_true rfl⟩) hP hD hS (w_X5_next cI cB cZ a_t a_t_tape a_t_tape_bytes u_t_fault u_t_place u_t_tape_length u_t_tape_fault u_t_tape_place v3 s_t_length s_t_sort r1 r_t_tape_bytes) [] [0, 1, 2] rfl rfl rfl (N := 3) rfl (by decide +kernel) rfl (by decide +kernel) (by decide +kernel) rfl hl.1 rfl (Nat.le_of_ble_eq_true rfl) dX5_next_28 ⟨Nat.le_of_ble_eq_true rfl, Nat.le_of_ble_eq_true rfl⟩ (fun H locs hP hD hS => ?_)
  refine lv_if_eq (tgt := 54) hx hb dX5_next_31 (by decide) (fun c5 => ?_) (fun c5 => ?_)
  · replace hf := jif_t c5 hf
    refine lv_iload_n hx hb dX5_next_54 rfl (lv_at hl 0 rfl) ?_
    refine lv_bipush (v := (48 : Int32)) hx hb dX5_next_55 (by decide) ?_
    refine lv_icmp_lt (tgt := 98) hx hb dX5_next_57 (by decide) (fun c6 => ?_) (fun c6 => ?_)
    · replace hf := jif_t c6 hf
      exact t_X5_next_j98 G D cI cB cZ a_t a_t_tape a_t_tape_bytes u_t_fault u_t_place u_t_tape_length u_t_tape_fault u_t_tape_place s_t_length r_t_tape_bytes v3 s_t_sort r1 r2 C hf K hP hD hS (lv_sub hl [1, 0] rfl)
    · replace hf := jif_f c6 hf
      refine lv_iload_n hx hb dX5_next_60 rfl (lv_at hl 0 rfl) ?_
      refine lv_bipush (v := (57 : Int32)) hx hb dX5_next_61 (by decide) ?_
      refine lv_icmp_gt (tgt := 98) hx hb dX5_next_63 (by decide) (fun c9 => ?_) (fun c9 => ?_)
      · replace hf := jif_t c9 hf
        exact t_X5_next_j98 G D cI cB cZ a_t a_t_tape a_t_tape_bytes u_t_fault u_t_place u_t_tape_length u_t_tape_fault u_t_tape_place s_t_length r_t_tape_bytes v3 s_t_sort r1 r2 C hf K hP hD hS (lv_sub hl [1, 0] rfl)
      · replace hf := jif_f c9 hf
        refine lv_aload_n hx hb dX5_next_66 rfl (lv_at hl 1 rfl) ?_
        refine lv_aload_n hx hb dX5_next_67 rfl (lv_at hl 1 rfl) ?_
        refine lv_bipush (v := (48 : Int32)) hx hb dX5_next_68 (by decide) ?_
        refine lv_bipush (v := (57 : Int32)) hx hb dX5_next_70 (by decide) ?_
        obtain ⟨r10, hgr10, hf⟩ := jM_some hf
        refine jcV_i (As := [.int (48 : Int32), .int (57 : Int32)]) (rest := [.ref a_t]) ⟨hx, hb, hml, hown, hts⟩ hK hN hA (c_X5_endOfRow l G D cI cB cZ a_t a_t_tape a_t_tape_bytes s_t_sort v3 u_t_fault u_t_place u_t_tape_length u_t_tape_fault u_t_tape_place s_t_length r1 r_t_tape_bytes (48 : Int32) (57 : Int32) hgr10) (cwV 2 hts (wG_V k_ml_X5_57 k_im_X5_endOfRow k_se_X5_endOfRow k_in_X5 k_co_X5_endOfRow) rfl rfl rfl hd_X5_endOfRow ⟨Nat.le_of_ble_eq_true rfl, Nat.le_of_ble_eq_true rfl⟩) hP hD hS (w_X5_next cI cB cZ a_t a_t_tape a_t_tape_bytes u_t_fault u_t_place u_t_tape_length u_t_tape_fault u_t_tape_place v3 s_t_length s_t_sort r1 r_t_tape_bytes) [0, 1, 2] [] rfl rfl rfl (N := 3) rfl (by decide +kernel) rfl (by decide +kernel) (by decide +kernel) (ci := 4) rfl 0 rfl rfl rfl hl.1 rfl (Nat.le_of_ble_eq_true rfl) dX5_next_72 ⟨Nat.le_of_ble_eq_true rfl, Nat.le_of_ble_eq_true rfl⟩ (fun H locs hP hD hS => ?_)
        refine va_put (D := D) (ci := 4) (v := .int r10) (ty := .int) (C := RX5) (T := TX5) (N := 7) hx hb hts iw_X5 tyX5 tyX5_ok nmX5 hown hK hP hD hS 0 rfl rfl 2 (by decide) (hts _ (wG_in k_fl_X5_28 rfl)) (fun _ h9 => h9) rfl (tyX5_ok 2 (by decide)) rfl rfl (Nat.le_of_ble_eq_true rfl) dX5_next_75 (fun H locs hP hD hS => ?_)
        have hP : va_P D vwCl (w_X5_next cI cB cZ a_t a_t_tape a_t_tape_bytes u_t_fault u_t_place u_t_tape_length u_t_tape_fault u_t_tape_place r10 s_t_length s_t_sort r1 r_t_tape_bytes) H := hP
        have hD : va_D A (w_X5_next cI cB cZ a_t a_t_tape a_t_tape_bytes u_t_fault u_t_place u_t_tape_length u_t_tape_fault u_t_tape_place r10 s_t_length s_t_sort r1 r_t_tape_bytes) := hD
        refine lv_aload_n hx hb dX5_next_78 rfl (lv_at hl 1 rfl) ?_
        refine lv_aload_n hx hb dX5_next_79 rfl (lv_at hl 1 rfl) ?_
        obtain ⟨r11, hgr11, hf⟩ := jM_some hf
        refine jcV_i (As := []) (rest := [.ref a_t]) ⟨hx, hb, hml, hown, hts⟩ hK hN hA (c_X5_size l G D cI cB cZ a_t (.ref a_t_tape) s_t_sort s_t_length u_t_fault u_t_place r10 r1 hgr11) (cwV 0 hts (wG_V k_ml_X5_61 k_im_X5_size k_se_X5_size k_in_X5 k_co_X5_size) rfl rfl rfl hd_X5_size ⟨Nat.le_of_ble_eq_true rfl, Nat.le_of_ble_eq_true rfl⟩) hP hD hS (w_X5_next cI cB cZ a_t a_t_tape a_t_tape_bytes u_t_fault u_t_place u_t_tape_length u_t_tape_fault u_t_tape_place r10 s_t_length s_t_sort r1 r_t_tape_bytes) [0] [1, 2] rfl rfl rfl (N := 3) rfl (by decide +kernel) rfl (by decide +kernel) (by decide +kernel) (ci := 4) rfl 0 rfl rfl rfl hl.1 rfl (Nat.le_of_ble_eq_true rfl) dX5_next_80 ⟨Nat.le_of_ble_eq_true rfl, Nat.le_of_ble_eq_true rfl⟩ (fun H locs hP hD hS => ?_)
        refine lv_iconst (v := (4 : Int32)) hx hb dX5_next_83 (by decide) ?_
        refine lv_icmp_le (tgt := 91) hx hb dX5_next_84 (by decide) (fun c12 => ?_) (fun c12 => ?_)
        · replace hf := jif_t c12 hf
          refine lv_iconst (v := (2 : Int32)) hx hb dX5_next_91 (by decide) ?_
          exact t_X5_next_j92 G D cI cB cZ a_t a_t_tape a_t_tape_bytes u_t_fault u_t_place u_t_tape_length u_t_tape_fault u_t_tape_place s_t_length r_t_tape_bytes r10 s_t_sort r1 (2 : Int32) C hf K hP hD hS (lv_sub hl [] rfl)
        · replace hf := jif_f c12 hf
          refine lv_iconst (v := (5 : Int32)) hx hb dX5_next_87 (by decide) ?_
          refine lv_goto (tgt := 92) hx hb dX5_next_88 (by decide) ?_
          exact t_X5_next_j92 G D cI cB cZ a_t a_t_tape a_t_tape_bytes u_t_fault u_t_place u_t_tape_length u_t_tape_fault u_t_tape_place s_t_length r_t_tape_bytes r10 s_t_sort r1 (5 : Int32) C hf K hP hD hS (lv_sub hl [] rfl)
  · replace hf := jif_f c5 hf
    refine lv_aload_n hx hb dX5_next_34 rfl (lv_at hl 1 rfl) ?_
    refine lv_aload_n hx hb dX5_next_35 rfl (lv_at hl 1 rfl) ?_
    refine lv_bipush (v := (97 : Int32)) hx hb dX5_next_36 (by decide) ?_
    refine lv_bipush (v := (122 : Int32)) hx hb dX5_next_38 (by decide) ?_
    obtain ⟨r13, hgr13, hf⟩ := jM_some hf
    refine jcV_i (As := [.int (97 : Int32), .int (122 : Int32)]) (rest := [.ref a_t]) ⟨hx, hb, hml, hown, hts⟩ hK hN hA (c_X5_endOfRow l G D cI cB cZ a_t a_t_tape a_t_tape_bytes s_t_sort v3 u_t_fault u_t_place u_t_tape_length u_t_tape_fault u_t_tape_place s_t_length r1 r_t_tape_bytes (97 : Int32) (122 : Int32) hgr13) (cwV 2 hts (wG_V k_ml_X5_57 k_im_X5_endOfRow k_se_X5_endOfRow k_in_X5 k_co_X5_endOfRow) rfl rfl rfl hd_X5_endOfRow ⟨Nat.le_of_ble_eq_true rfl, Nat.le_of_ble_eq_true rfl⟩) hP hD hS (w_X5_next cI cB cZ a_t a_t_tape a_t_tape_bytes u_t_fault u_t_place u_t_tape_length u_t_tape_fault u_t_tape_place v3 s_t_length s_t_sort r1 r_t_tape_bytes) [0, 1, 2] [] rfl rfl rfl (N := 3) rfl (by decide +kernel) rfl (by decide +kernel) (by decide +kernel) (ci := 4) rfl 0 rfl rfl rfl hl.1 rfl (Nat.le_of_ble_eq_true rfl) dX5_next_40 ⟨Nat.le_of_ble_eq_true rfl, Nat.le_of_ble_eq_true rfl⟩ (fun H locs hP hD hS => ?_)
    refine va_put (D := D) (ci := 4) (v := .int r13) (ty := .int) (C := RX5) (T := TX5) (N := 7) hx hb hts iw_X5 tyX5 tyX5_ok nmX5 hown hK hP hD hS 0 rfl rfl 2 (by decide) (hts _ (wG_in k_fl_X5_28 rfl)) (fun _ h9 => h9) rfl (tyX5_ok 2 (by decide)) rfl rfl (Nat.le_of_ble_eq_true rfl) dX5_next_43 (fun H locs hP hD hS => ?_)
    have hP : va_P D vwCl (w_X5_next cI cB cZ a_t a_t_tape a_t_tape_bytes u_t_fault u_t_place u_t_tape_length u_t_tape_fault u_t_tape_place r13 s_t_length s_t_sort r1 r_t_tape_bytes) H := hP
    have hD : va_D A (w_X5_next cI cB cZ a_t a_t_tape a_t_tape_bytes u_t_fault u_t_place u_t_tape_length u_t_tape_fault u_t_tape_place r13 s_t_length s_t_sort r1 r_t_tape_bytes) := hD
    refine lv_aload_n hx hb dX5_next_46 rfl (lv_at hl 1 rfl) ?_
    refine lv_iconst (v := (1 : Int32)) hx hb dX5_next_47 (by decide) ?_
    refine va_put (D := D) (ci := 4) (v := .int (1 : Int32)) (ty := .int) (C := RX5) (T := TX5) (N := 7) hx hb hts iw_X5 tyX5 tyX5_ok nmX5 hown hK hP hD hS 0 rfl rfl 1 (by decide) (hts _ (wG_in k_fl_X5_38 rfl)) (fun _ h9 => h9) rfl (tyX5_ok 1 (by decide)) rfl rfl (Nat.le_of_ble_eq_true rfl) dX5_next_48 (fun H locs hP hD hS => ?_)
    have hP : va_P D vwCl (w_X5_next cI cB cZ a_t a_t_tape a_t_tape_bytes u_t_fault u_t_place u_t_tape_length u_t_tape_fault u_t_tape_place r13 s_t_length (1 : Int32) r1 r_t_tape_bytes) H := hP
    have hD : va_D A (w_X5_next cI cB cZ a_t a_t_tape a_t_tape_bytes u_t_fault u_t_place u_t_tape_length u_t_tape_fault u_t_tape_place r13 s_t_length (1 : Int32) r1 r_t_tape_bytes) := hD
    refine lv_goto (tgt := 138) hx hb dX5_next_51 (by decide) ?_
    have ho := Option.some.inj hf
    subst ho
    exact K _ _ _ _ hP hS dX5_next_138
set_option maxHeartbeats 4000000 in
set_option maxRecDepth 100000 in
theorem c_X5_next (l : Launch) (G : jGt) (D : va_G) (cI cB cZ : ClassId) (a_t a_t_tape a_t_tape_bytes : Nat) (u_t_fault u_t_place u_t_tape_length u_t_tape_fault u_t_tape_place s_t_length : Int32) (r_t_tape_bytes : jA) (s_t_after s_t_sort s_t_start : Int32) {o : Int32 × Int32 × Int32} (hf : f_X5_next s_t_length r_t_tape_bytes s_t_after s_t_sort s_t_start = some o) : jMv l yX5_next gX5_next rX5_next G D (jT cI cB cZ) [.ref a_t] (w_X5_next cI cB cZ a_t a_t_tape a_t_tape_bytes u_t_fault u_t_place u_t_tape_length u_t_tape_fault u_t_tape_place s_t_after s_t_length s_t_sort s_t_start r_t_tape_bytes) (w_X5_next cI cB cZ a_t a_t_tape a_t_tape_bytes u_t_fault u_t_place u_t_tape_length u_t_tape_fault u_t_tape_place o.1 s_t_length o.2.1 o.2.2 r_t_tape_bytes) := by
  refine jmk_v RX5 rfl (by decide +kernel) rfl (Nat.le_of_ble_eq_true rfl) ?_
  intro p e s m args below meth c ls A Q C hP hD hS hl K
  exact t_X5_next G D cI cB cZ a_t a_t_tape a_t_tape_bytes u_t_fault u_t_place u_t_tape_length u_t_tape_fault u_t_tape_place s_t_length r_t_tape_bytes s_t_after s_t_sort s_t_start C hf K hP hD hS hl
abbrev rX5_refuse : Room := { frames := 0, cells := 0, slots := 0, locals := 0 }
abbrev gX5_refuse : List Cond := wG yX5_refuse cX5_refuse 1 (some .boolean)
def w_X5_refuse (cI cB cZ : ClassId) (a_t : Nat) (u_t_tape : Value) (u_t_sort u_t_after u_t_length s_t_fault s_t_place s_t_start : Int32) : va_W := [(a_t, .inr (4, (oX5 u_t_tape u_t_sort u_t_after u_t_length s_t_start s_t_fault s_t_place)))]
def f_X5_refuse (s_t_start s_t_fault s_t_place : Int32) : Option (Int32 × Int32 × Int32) :=
  some ((0 : Int32), (1 : Int32), s_t_start)
set_option maxHeartbeats 4000000 in
set_option maxRecDepth 100000 in
theorem t_X5_refuse {p : Program} {l : Launch} {e : Env} {s : State} {m : MethodId} {args : Array Value} {below : List Frame} {meth : Method} {c : Code} {A : Nat → Prop} {Q : State → Prop} (G : jGt) (D : va_G) (cI cB cZ : ClassId) (a_t : Nat) (u_t_tape : Value) (u_t_sort u_t_after u_t_length s_t_start : Int32) (s_t_fault s_t_place : Int32) (C : jCx p s m args c cX5_refuse 1 gX5_refuse RX5 G D (jT cI cB cZ) A) {o : Int32 × Int32 × Int32} (hf : f_X5_refuse s_t_start s_t_fault s_t_place = some o) (K : ∀ (H : Heap) (locs : List Loc) (pc : Nat) (ls : Array Slot), (o.1 = 0 ∨ o.1 = 1) → va_P D vwCl (w_X5_refuse cI cB cZ a_t u_t_tape u_t_sort u_t_after u_t_length o.2.1 o.2.2 s_t_start) H → va_S A s.heap H locs → decode cX5_refuse pc = .ok (.ireturn, 1) → W p l e rX5_refuse s m args below meth c H locs 0 0 Q (F0 m pc ls [.int o.1])) {H : Heap} {locs : List Loc} {ls : Array Slot} (hP : va_P D vwCl (w_X5_refuse cI cB cZ a_t u_t_tape u_t_sort u_t_after u_t_length s_t_fault s_t_place s_t_start) H) (hD : va_D A (w_X5_refuse cI cB cZ a_t u_t_tape u_t_sort u_t_after u_t_length s_t_fault s_t_place s_t_start)) (hS : va_S A s.heap H locs) (hl : lv_has ls 1 [(0, .ref a_t)]) : W p l e rX5_refuse s m args below meth c H locs 0 0 Q (F0 m 0 ls []) := by
  obtain ⟨⟨hx, hb, hml, hown, hts⟩, hK, hN, hA⟩ := C
  have C : jCx p s m args c cX5_refuse 1 gX5_refuse RX5 G D (jT cI cB cZ) A := ⟨⟨hx, hb, hml, hown, hts⟩, hK, hN, hA⟩
  unfold f_X5_refuse at hf
  refine lv_aload_n hx hb dX5_refuse_0 rfl (lv_at hl 0 rfl) ?_
  refine lv_iconst (v := (1 : Int32)) hx hb dX5_refuse_1 (by decide) ?_
  refine va_put (D := D) (ci := 4) (v := .int (1 : Int32)) (ty := .int) (C := RX5) (T := TX5) (N := 7) hx hb hts iw_X5 tyX5 tyX5_ok nmX5 hown hK hP hD hS 0 rfl rfl 5 (by decide) (hts _ (wG_in k_fl_X5_22 rfl)) (fun _ h9 => h9) rfl (tyX5_ok 5 (by decide)) rfl rfl (Nat.le_of_ble_eq_true rfl) dX5_refuse_2 (fun H locs hP hD hS => ?_)
  have hP : va_P D vwCl (w_X5_refuse cI cB cZ a_t u_t_tape u_t_sort u_t_after u_t_length (1 : Int32) s_t_place s_t_start) H := hP
  have hD : va_D A (w_X5_refuse cI cB cZ a_t u_t_tape u_t_sort u_t_after u_t_length (1 : Int32) s_t_place s_t_start) := hD
  refine lv_aload_n hx hb dX5_refuse_5 rfl (lv_at hl 0 rfl) ?_
  refine lv_aload_n hx hb dX5_refuse_6 rfl (lv_at hl 0 rfl) ?_
  refine va_get (D := D) (ci := 4) (v := .int s_t_start) (C := RX5) (T := TX5) (N := 7) hx hb hts iw_X5 hown hK hP 0 rfl rfl 4 (by decide) (hts _ (wG_in k_fl_X5_35 rfl)) (fun _ h9 => h9) rfl dX5_refuse_7 ?_
  refine va_put (D := D) (ci := 4) (v := .int s_t_start) (ty := .int) (C := RX5) (T := TX5) (N := 7) hx hb hts iw_X5 tyX5 tyX5_ok nmX5 hown hK hP hD hS 0 rfl rfl 6 (by decide) (hts _ (wG_in k_fl_X5_25 rfl)) (fun _ h9 => h9) rfl (tyX5_ok 6 (by decide)) rfl rfl (Nat.le_of_ble_eq_true rfl) dX5_refuse_10 (fun H locs hP hD hS => ?_)
  have hP : va_P D vwCl (w_X5_refuse cI cB cZ a_t u_t_tape u_t_sort u_t_after u_t_length (1 : Int32) s_t_start s_t_start) H := hP
  have hD : va_D A (w_X5_refuse cI cB cZ a_t u_t_tape u_t_sort u_t_after u_t_length (1 : Int32) s_t_start s_t_start) := hD
  refine lv_iconst (v := (0 : Int32)) hx hb dX5_refuse_13 (by decide) ?_
  have ho := Option.some.inj hf
  subst ho
  exact K _ _ _ _ (Or.inl rfl) hP hS dX5_refuse_14
set_option maxHeartbeats 4000000 in
set_option maxRecDepth 100000 in
theorem c_X5_refuse (l : Launch) (G : jGt) (D : va_G) (cI cB cZ : ClassId) (a_t : Nat) (u_t_tape : Value) (u_t_sort u_t_after u_t_length s_t_start : Int32) (s_t_fault s_t_place : Int32) {o : Int32 × Int32 × Int32} (hf : f_X5_refuse s_t_start s_t_fault s_t_place = some o) : jMi l yX5_refuse gX5_refuse rX5_refuse G D (jT cI cB cZ) [.ref a_t] (w_X5_refuse cI cB cZ a_t u_t_tape u_t_sort u_t_after u_t_length s_t_fault s_t_place s_t_start) (w_X5_refuse cI cB cZ a_t u_t_tape u_t_sort u_t_after u_t_length o.2.1 o.2.2 s_t_start) o.1 := by
  refine jmk_z RX5 rfl (by decide +kernel) rfl (Nat.le_of_ble_eq_true rfl) ?_
  intro p e s m args below meth c ls A Q C hP hD hS hl K
  exact t_X5_refuse G D cI cB cZ a_t u_t_tape u_t_sort u_t_after u_t_length s_t_start s_t_fault s_t_place C hf K hP hD hS hl
abbrev rX5_takeMark : Room := { frames := 3, cells := 0, slots := 0, locals := 65 }
abbrev gX5_takeMark : List Cond := wG yX5_takeMark cX5_takeMark 1 (some .boolean)
def w_X5_takeMark (cI cB cZ : ClassId) (a_t a_t_tape a_t_tape_bytes : Nat) (u_t_tape_length u_t_tape_fault u_t_tape_place s_t_after s_t_fault s_t_length s_t_place s_t_sort s_t_start : Int32) (r_t_tape_bytes : jA) : va_W := [(a_t, .inr (4, (oX5 (.ref a_t_tape) s_t_sort s_t_after s_t_length s_t_start s_t_fault s_t_place))), (a_t_tape, .inr (6, (oX7 (.ref a_t_tape_bytes) u_t_tape_length u_t_tape_fault u_t_tape_place))), (a_t_tape_bytes, .inl (cB, r_t_tape_bytes.1, .inl r_t_tape_bytes.2))]
def f_X5_takeMark (s_t_length : Int32) (r_t_tape_bytes : jA) (s_t_after s_t_fault s_t_place s_t_sort s_t_start : Int32) : Option (Int32 × Int32 × Int32 × Int32 × Int32 × Int32) :=
  if s_t_sort = (3 : Int32) then
  jM (f_X5_next s_t_length r_t_tape_bytes s_t_after s_t_sort s_t_start) fun r2 =>
  some ((1 : Int32), r2.1, s_t_fault, s_t_place, r2.2.1, r2.2.2)
  else
  jM (f_X5_refuse s_t_start s_t_fault s_t_place) fun r3 =>
  jZ r3.1 (some (r3.1, s_t_after, r3.2.1, r3.2.2, s_t_sort, s_t_start))
set_option maxHeartbeats 4000000 in
set_option maxRecDepth 100000 in
theorem t_X5_takeMark {p : Program} {l : Launch} {e : Env} {s : State} {m : MethodId} {args : Array Value} {below : List Frame} {meth : Method} {c : Code} {A : Nat → Prop} {Q : State → Prop} (G : jGt) (D : va_G) (cI cB cZ : ClassId) (a_t a_t_tape a_t_tape_bytes : Nat) (u_t_tape_length u_t_tape_fault u_t_tape_place s_t_length : Int32) (r_t_tape_bytes : jA) (s_t_after s_t_fault s_t_place s_t_sort s_t_start : Int32) (C : jCx p s m args c cX5_takeMark 1 gX5_takeMark RX5 G D (jT cI cB cZ) A) {o : Int32 × Int32 × Int32 × Int32 × Int32 × Int32} (hf : f_X5_takeMark s_t_length r_t_tape_bytes s_t_after s_t_fault s_t_place s_t_sort s_t_start = some o) (K : ∀ (H : Heap) (locs : List Loc) (pc : Nat) (ls : Array Slot), (o.1 = 0 ∨ o.1 = 1) → va_P D vwCl (w_X5_takeMark cI cB cZ a_t a_t_tape a_t_tape_bytes u_t_tape_length u_t_tape_fault u_t_tape_place o.2.1 o.2.2.1 s_t_length o.2.2.2.1 o.2.2.2.2.1 o.2.2.2.2.2 r_t_tape_bytes) H → va_S A s.heap H locs → decode cX5_takeMark pc = .ok (.ireturn, 1) → W p l e rX5_takeMark s m args below meth c H locs 0 0 Q (F0 m pc ls [.int o.1])) {H : Heap} {locs : List Loc} {ls : Array Slot} (hP : va_P D vwCl (w_X5_takeMark cI cB cZ a_t a_t_tape a_t_tape_bytes u_t_tape_length u_t_tape_fault u_t_tape_place s_t_after s_t_fault s_t_length s_t_place s_t_sort s_t_start r_t_tape_bytes) H) (hD : va_D A (w_X5_takeMark cI cB cZ a_t a_t_tape a_t_tape_bytes u_t_tape_length u_t_tape_fault u_t_tape_place s_t_after s_t_fault s_t_length s_t_place s_t_sort s_t_start r_t_tape_bytes)) (hS : va_S A s.heap H locs) (hl : lv_has ls 1 [(0, .ref a_t)]) : W p l e rX5_takeMark s m args below meth c H locs 0 0 Q (F0 m 0 ls []) := by
  obtain ⟨⟨hx, hb, hml, hown, hts⟩, hK, hN, hA⟩ := C
  have C : jCx p s m args c cX5_takeMark 1 gX5_takeMark RX5 G D (jT cI cB cZ) A := ⟨⟨hx, hb, hml, hown, hts⟩, hK, hN, hA⟩
  unfold f_X5_takeMark at hf
  refine lv_aload_n hx hb dX5_takeMark_0 rfl (lv_at hl 0 rfl) ?_
  refine va_get (D := D) (ci := 4) (v := .int s_t_sort) (C := RX5) (T := TX5) (N := 7) hx hb hts iw_X5 hown hK hP 0 rfl rfl 1 (by decide) (hts _ (wG_in k_fl_X5_38 rfl)) (fun _ h9 => h9) rfl dX5_takeMark_1 ?_
  refine lv_iconst (v := (3 : Int32)) hx hb dX5_takeMark_4 (by decide) ?_
  refine lv_icmp_eq (tgt := 13) hx hb dX5_takeMark_5 (by decide) (fun c1 => ?_) (fun c1 => ?_)
  · replace hf := jif_t c1 hf
    refine lv_aload_n hx hb dX5_takeMark_13 rfl (lv_at hl 0 rfl) ?_
    obtain ⟨r2, hgr2, hf⟩ := jM_some hf
    refine jcV_v (As := []) (rest := []) ⟨hx, hb, hml, hown, hts⟩ hK hN hA (c_X5_next l G D cI cB cZ a_t a_t_tape a_t_tape_bytes s_t_fault s_t_place u_t_tape_length u_t_tape_fault u_t_tape_place s_t_length r_t_tape_bytes s_t_after s_t_sort s_t_start hgr2) (cwV 0 hts (wG_V k_ml_X5_85 k_im_X5_next k_se_X5_next k_in_X5 k_co_X5_next) rfl rfl rfl hd_X5_next ⟨Nat.le_of_ble_eq_true rfl, Nat.le_of_ble_eq_true rfl⟩) hP hD hS (w_X5_takeMark cI cB cZ a_t a_t_tape a_t_tape_bytes u_t_tape_length u_t_tape_fault u_t_tape_place r2.1 s_t_fault s_t_length s_t_place r2.2.1 r2.2.2 r_t_tape_bytes) [0, 1, 2] [] rfl rfl rfl (N := 3) rfl (by decide +kernel) rfl (by decide +kernel) (by decide +kernel) (ci := 4) rfl 0 rfl rfl rfl hl.1 rfl (Nat.le_of_ble_eq_true rfl) dX5_takeMark_14 ⟨Nat.le_of_ble_eq_true rfl, Nat.le_of_ble_eq_true rfl⟩ (fun H locs hP hD hS => ?_)
    refine lv_iconst (v := (1 : Int32)) hx hb dX5_takeMark_17 (by decide) ?_
    have ho := Option.some.inj hf
    subst ho
    exact K _ _ _ _ (Or.inr rfl) hP hS dX5_takeMark_18
  · replace hf := jif_f c1 hf
    refine lv_aload_n hx hb dX5_takeMark_8 rfl (lv_at hl 0 rfl) ?_
    obtain ⟨r3, hgr3, hf⟩ := jM_some hf
    refine jcV_i (As := []) (rest := []) ⟨hx, hb, hml, hown, hts⟩ hK hN hA (c_X5_refuse l G D cI cB cZ a_t (.ref a_t_tape) s_t_sort s_t_after s_t_length s_t_start s_t_fault s_t_place hgr3) (cwV 0 hts (wG_V k_ml_X5_81 k_im_X5_refuse k_se_X5_refuse k_in_X5 k_co_X5_refuse) rfl rfl rfl hd_X5_refuse ⟨Nat.le_of_ble_eq_true rfl, Nat.le_of_ble_eq_true rfl⟩) hP hD hS (w_X5_takeMark cI cB cZ a_t a_t_tape a_t_tape_bytes u_t_tape_length u_t_tape_fault u_t_tape_place s_t_after r3.2.1 s_t_length r3.2.2 s_t_sort s_t_start r_t_tape_bytes) [0] [1, 2] rfl rfl rfl (N := 3) rfl (by decide +kernel) rfl (by decide +kernel) (by decide +kernel) (ci := 4) rfl 0 rfl rfl rfl hl.1 rfl (Nat.le_of_ble_eq_true rfl) dX5_takeMark_9 ⟨Nat.le_of_ble_eq_true rfl, Nat.le_of_ble_eq_true rfl⟩ (fun H locs hP hD hS => ?_)
    obtain ⟨hz, hf⟩ := jZ_some hf
    have ho := Option.some.inj hf
    subst ho
    exact K _ _ _ _ hz hP hS dX5_takeMark_12
set_option maxHeartbeats 4000000 in
set_option maxRecDepth 100000 in
theorem c_X5_takeMark (l : Launch) (G : jGt) (D : va_G) (cI cB cZ : ClassId) (a_t a_t_tape a_t_tape_bytes : Nat) (u_t_tape_length u_t_tape_fault u_t_tape_place s_t_length : Int32) (r_t_tape_bytes : jA) (s_t_after s_t_fault s_t_place s_t_sort s_t_start : Int32) {o : Int32 × Int32 × Int32 × Int32 × Int32 × Int32} (hf : f_X5_takeMark s_t_length r_t_tape_bytes s_t_after s_t_fault s_t_place s_t_sort s_t_start = some o) : jMi l yX5_takeMark gX5_takeMark rX5_takeMark G D (jT cI cB cZ) [.ref a_t] (w_X5_takeMark cI cB cZ a_t a_t_tape a_t_tape_bytes u_t_tape_length u_t_tape_fault u_t_tape_place s_t_after s_t_fault s_t_length s_t_place s_t_sort s_t_start r_t_tape_bytes) (w_X5_takeMark cI cB cZ a_t a_t_tape a_t_tape_bytes u_t_tape_length u_t_tape_fault u_t_tape_place o.2.1 o.2.2.1 s_t_length o.2.2.2.1 o.2.2.2.2.1 o.2.2.2.2.2 r_t_tape_bytes) o.1 := by
  refine jmk_z RX5 rfl (by decide +kernel) rfl (Nat.le_of_ble_eq_true rfl) ?_
  intro p e s m args below meth c ls A Q C hP hD hS hl K
  exact t_X5_takeMark G D cI cB cZ a_t a_t_tape a_t_tape_bytes u_t_tape_length u_t_tape_fault u_t_tape_place s_t_length r_t_tape_bytes s_t_after s_t_fault s_t_place s_t_sort s_t_start C hf K hP hD hS hl
abbrev rX5_takeNumber : Room := { frames := 3, cells := 0, slots := 0, locals := 65 }
abbrev gX5_takeNumber : List Cond := wG yX5_takeNumber cX5_takeNumber 3 (some .int)
def w_X5_takeNumber (cI cB cZ : ClassId) (a_t a_t_tape a_t_tape_bytes : Nat) (u_t_tape_length u_t_tape_fault u_t_tape_place s_t_after s_t_fault s_t_length s_t_place s_t_sort s_t_start : Int32) (r_t_tape_bytes : jA) : va_W := [(a_t, .inr (4, (oX5 (.ref a_t_tape) s_t_sort s_t_after s_t_length s_t_start s_t_fault s_t_place))), (a_t_tape, .inr (6, (oX7 (.ref a_t_tape_bytes) u_t_tape_length u_t_tape_fault u_t_tape_place))), (a_t_tape_bytes, .inl (cB, r_t_tape_bytes.1, .inl r_t_tape_bytes.2))]
def f_X5_takeNumber_b22 (s_t_length : Int32) (r_t_tape_bytes : jA) (s_t_after s_t_fault s_t_place s_t_sort s_t_start x1 x2 : Int32) : Option ((Int32 × Int32) ⊕ ((Int32))) :=
  if s_t_after ≤ x2 then
  some (Sum.inr x1)
  else
  jM (f_X5_byteAt s_t_length r_t_tape_bytes x2) fun r3 =>
  jV (((x1 * (10 : Int32)) + r3) - (48 : Int32)) fun v4 =>
  some (Sum.inl (v4, (x2 + 1)))
set_option maxHeartbeats 4000000 in
set_option maxRecDepth 100000 in
theorem t_X5_takeNumber_b22 {p : Program} {l : Launch} {e : Env} {s : State} {m : MethodId} {args : Array Value} {below : List Frame} {meth : Method} {c : Code} {A : Nat → Prop} {Q : State → Prop} (G : jGt) (D : va_G) (cI cB cZ : ClassId) (a_t a_t_tape a_t_tape_bytes : Nat) (u_t_tape_length u_t_tape_fault u_t_tape_place s_t_length : Int32) (r_t_tape_bytes : jA) (s_t_after s_t_fault s_t_place s_t_sort s_t_start x1 x2 : Int32) (C : jCx p s m args c cX5_takeNumber 3 gX5_takeNumber RX5 G D (jT cI cB cZ) A) {o : (Int32 × Int32) ⊕ ((Int32))} (hf : f_X5_takeNumber_b22 s_t_length r_t_tape_bytes s_t_after s_t_fault s_t_place s_t_sort s_t_start x1 x2 = some o) (K : (∀ z, o = Sum.inl z → ∀ (H : Heap) (locs : List Loc) (ls : Array Slot), va_P D vwCl (w_X5_takeNumber cI cB cZ a_t a_t_tape a_t_tape_bytes u_t_tape_length u_t_tape_fault u_t_tape_place s_t_after s_t_fault s_t_length s_t_place s_t_sort s_t_start r_t_tape_bytes) H → va_D A (w_X5_takeNumber cI cB cZ a_t a_t_tape a_t_tape_bytes u_t_tape_length u_t_tape_fault u_t_tape_place s_t_after s_t_fault s_t_length s_t_place s_t_sort s_t_start r_t_tape_bytes) → va_S A s.heap H locs → lv_has ls 3 [(0, .ref a_t), (1, .int z.1), (2, .int z.2)] → W p l e rX5_takeNumber s m args below meth c H locs 0 0 Q (F0 m 22 ls [])) ∧ (∀ z, o = Sum.inr z → ∀ (H : Heap) (locs : List Loc) (ls : Array Slot), va_P D vwCl (w_X5_takeNumber cI cB cZ a_t a_t_tape a_t_tape_bytes u_t_tape_length u_t_tape_fault u_t_tape_place s_t_after s_t_fault s_t_length s_t_place s_t_sort s_t_start r_t_tape_bytes) H → va_D A (w_X5_takeNumber cI cB cZ a_t a_t_tape a_t_tape_bytes u_t_tape_length u_t_tape_fault u_t_tape_place s_t_after s_t_fault s_t_length s_t_place s_t_sort s_t_start r_t_tape_bytes) → va_S A s.heap H locs → lv_has ls 3 [(0, .ref a_t), (1, .int z)] → W p l e rX5_takeNumber s m args below meth c H locs 0 0 Q (F0 m 50 ls []))) {H : Heap} {locs : List Loc} {ls : Array Slot} (hP : va_P D vwCl (w_X5_takeNumber cI cB cZ a_t a_t_tape a_t_tape_bytes u_t_tape_length u_t_tape_fault u_t_tape_place s_t_after s_t_fault s_t_length s_t_place s_t_sort s_t_start r_t_tape_bytes) H) (hD : va_D A (w_X5_takeNumber cI cB cZ a_t a_t_tape a_t_tape_bytes u_t_tape_length u_t_tape_fault u_t_tape_place s_t_after s_t_fault s_t_length s_t_place s_t_sort s_t_start r_t_tape_bytes)) (hS : va_S A s.heap H locs) (hl : lv_has ls 3 [(0, .ref a_t), (1, .int x1), (2, .int x2)]) : W p l e rX5_takeNumber s m args below meth c H locs 0 0 Q (F0 m 22 ls []) := by
  obtain ⟨⟨hx, hb, hml, hown, hts⟩, hK, hN, hA⟩ := C
  have C : jCx p s m args c cX5_takeNumber 3 gX5_takeNumber RX5 G D (jT cI cB cZ) A := ⟨⟨hx, hb, hml, hown, hts⟩, hK, hN, hA⟩
  unfold f_X5_takeNumber_b22 at hf
  refine lv_iload_n hx hb dX5_takeNumber_22 rfl (lv_at hl 2 rfl) ?_
  refine lv_aload_n hx hb dX5_takeNumber_23 rfl (lv_at hl 0 rfl) ?_
  refine va_get (D := D) (ci := 4) (v := .int s_t_after) (C := RX5) (T := TX5) (N := 7) hx hb hts iw_X5 hown hK hP 0 rfl rfl 2 (by decide) (hts _ (wG_in k_fl_X5_28 rfl)) (fun _ h9 => h9) rfl dX5_takeNumber_24 ?_
  refine lv_icmp_ge (tgt := 50) hx hb dX5_takeNumber_27 (by decide) (fun c2 => ?_) (fun c2 => ?_)
  · replace hf := jif_t c2 hf
    have ho := Option.some.inj hf
    exact (K.2 _ ho.symm) _ _ _ hP hD hS (lv_sub hl [0, 1] rfl)
  · replace hf := jif_f c2 hf
    refine lv_iload_n hx hb dX5_takeNumber_30 rfl (lv_at hl 1 rfl) ?_
    refine lv_bipush (v := (10 : Int32)) hx hb dX5_takeNumber_31 (by decide) ?_
    refine lv_imul hx hb dX5_takeNumber_33 ?_
    refine lv_aload_n hx hb dX5_takeNumber_34 rfl (lv_at hl 0 rfl) ?_
    refine lv_iload_n hx hb dX5_takeNumber_35 rfl (lv_at hl 2 rfl) ?_
    obtain ⟨r3, hgr3, hf⟩ := jM_some hf
    refine jcV_i (As := [.int x2]) (rest := [.int (x1 * (10 : Int32))]) ⟨hx, hb, hml, hown, hts⟩ hK hN hA (c_X5_byteAt l G D cI cB cZ a_t a_t_tape a_t_tape_bytes s_t_sort s_t_after s_t_start s_t_fault s_t_place u_t_tape_length u_t_tape_fault u_t_tape_place s_t_length r_t_tape_bytes x2 hgr3) (cwV 1 hts (wG_V k_ml_X5_49 k_im_X5_byteAt k_se_X5_byteAt k_in_X5 k_co_X5_byteAt) rfl rfl rfl hd_X5_byteAt ⟨Nat.le_of_ble_eq_true rfl, Nat.le_of_ble_eq_true rfl⟩) hP hD hS (w_X5_takeNumber cI cB cZ a_t a_t_tape a_t_tape_bytes u_t_tape_length u_t_tape_fault u_t_tape_place s_t_after s_t_fault s_t_length s_t_place s_t_sort s_t_start r_t_tape_bytes) [0, 1, 2] [] rfl rfl rfl (N := 3) rfl (by decide +kernel) rfl (by decide +kernel) (by decide +kernel) (ci := 4) rfl 0 rfl rfl rfl hl.1 rfl (Nat.le_of_ble_eq_true rfl) dX5_takeNumber_36 ⟨Nat.le_of_ble_eq_true rfl, Nat.le_of_ble_eq_true rfl⟩ (fun H locs hP hD hS => ?_)
    refine lv_iadd hx hb dX5_takeNumber_39 ?_
    refine lv_bipush (v := (48 : Int32)) hx hb dX5_takeNumber_40 (by decide) ?_
    refine lv_isub hx hb dX5_takeNumber_42 ?_
    obtain ⟨v4, hv4, hf⟩ := jV_some hf
    refine jtop hv4 ?_
    refine lv_istore_n (lv' := [(1, .int v4), (0, .ref a_t), (2, .int x2)]) hx hb dX5_takeNumber_43 rfl hl (by decide) rfl (fun ls hl => ?_)
    refine lv_iinc (v := (x2 + 1)) (lv' := [(2, .int (x2 + 1)), (1, .int v4), (0, .ref a_t)]) hx hb dX5_takeNumber_44 hl (k := 2) rfl (by first | rfl | decide) (by decide) rfl (fun ls hl => ?_)
    refine lv_goto (tgt := 22) hx hb dX5_takeNumber_47 (by decide) ?_
    have ho := Option.some.inj hf
    exact K.1 _ ho.symm _ _ _ hP hD hS (lv_sub hl [2, 1, 0] rfl)
def f_X5_takeNumber_l22 (s_t_length : Int32) (r_t_tape_bytes : jA) (s_t_after s_t_fault s_t_place s_t_sort s_t_start x1 x2 : Int32) : Option ((Int32)) :=
  jI (fun z => f_X5_takeNumber_b22 s_t_length r_t_tape_bytes s_t_after s_t_fault s_t_place s_t_sort s_t_start z.1 z.2) jF (x1, x2)
set_option maxHeartbeats 4000000 in
set_option maxRecDepth 100000 in
theorem t_X5_takeNumber_l22 {p : Program} {l : Launch} {e : Env} {s : State} {m : MethodId} {args : Array Value} {below : List Frame} {meth : Method} {c : Code} {A : Nat → Prop} {Q : State → Prop} (G : jGt) (D : va_G) (cI cB cZ : ClassId) (a_t a_t_tape a_t_tape_bytes : Nat) (u_t_tape_length u_t_tape_fault u_t_tape_place s_t_length : Int32) (r_t_tape_bytes : jA) (s_t_after s_t_fault s_t_place s_t_sort s_t_start : Int32) (C : jCx p s m args c cX5_takeNumber 3 gX5_takeNumber RX5 G D (jT cI cB cZ) A) : ∀ (n : Nat) (x1 x2 : Int32) {eo : (Int32)}, jI (fun z => f_X5_takeNumber_b22 s_t_length r_t_tape_bytes s_t_after s_t_fault s_t_place s_t_sort s_t_start z.1 z.2) n (x1, x2) = some eo → (∀ (H : Heap) (locs : List Loc) (ls : Array Slot), va_P D vwCl (w_X5_takeNumber cI cB cZ a_t a_t_tape a_t_tape_bytes u_t_tape_length u_t_tape_fault u_t_tape_place s_t_after s_t_fault s_t_length s_t_place s_t_sort s_t_start r_t_tape_bytes) H → va_D A (w_X5_takeNumber cI cB cZ a_t a_t_tape a_t_tape_bytes u_t_tape_length u_t_tape_fault u_t_tape_place s_t_after s_t_fault s_t_length s_t_place s_t_sort s_t_start r_t_tape_bytes) → va_S A s.heap H locs → lv_has ls 3 [(0, .ref a_t), (1, .int eo)] → W p l e rX5_takeNumber s m args below meth c H locs 0 0 Q (F0 m 50 ls [])) → ∀ (H : Heap) (locs : List Loc) (ls : Array Slot), va_P D vwCl (w_X5_takeNumber cI cB cZ a_t a_t_tape a_t_tape_bytes u_t_tape_length u_t_tape_fault u_t_tape_place s_t_after s_t_fault s_t_length s_t_place s_t_sort s_t_start r_t_tape_bytes) H → va_D A (w_X5_takeNumber cI cB cZ a_t a_t_tape a_t_tape_bytes u_t_tape_length u_t_tape_fault u_t_tape_place s_t_after s_t_fault s_t_length s_t_place s_t_sort s_t_start r_t_tape_bytes) → va_S A s.heap H locs → lv_has ls 3 [(0, .ref a_t), (1, .int x1), (2, .int x2)] → W p l e rX5_takeNumber s m args below meth c H locs 0 0 Q (F0 m 22 ls []) := by
  intro n
  induction n with
  | zero =>
    intro x1 x2 eo hf
    exact (jI_zero hf).elim
  | succ n ih =>
    intro x1 x2 eo hf K H locs ls hP hD hS hl
    obtain ⟨o, hb1, ho⟩ := jI_some hf
    rcases ho with ⟨z, rfl, hf2⟩ | rfl
    · exact t_X5_takeNumber_b22 G D cI cB cZ a_t a_t_tape a_t_tape_bytes u_t_tape_length u_t_tape_fault u_t_tape_place s_t_length r_t_tape_bytes s_t_after s_t_fault s_t_place s_t_sort s_t_start x1 x2 C hb1 ⟨fun z2 hz H locs ls hP hD hS hl => by cases hz; exact ih z.1 z.2 hf2 K H locs ls hP hD hS hl, fun z2 hz => by cases hz⟩ hP hD hS hl
    · exact t_X5_takeNumber_b22 G D cI cB cZ a_t a_t_tape a_t_tape_bytes u_t_tape_length u_t_tape_fault u_t_tape_place s_t_length r_t_tape_bytes s_t_after s_t_fault s_t_place s_t_sort s_t_start x1 x2 C hb1 ⟨fun z2 hz => (by cases hz), fun z2 hz => by cases hz; exact K⟩ hP hD hS hl
def f_X5_takeNumber (s_t_length : Int32) (r_t_tape_bytes : jA) (s_t_after s_t_fault s_t_place s_t_sort s_t_start : Int32) : Option (Int32 × Int32 × Int32 × Int32 × Int32 × Int32) :=
  if s_t_sort = (2 : Int32) then
  jM (f_X5_takeNumber_l22 s_t_length r_t_tape_bytes s_t_after s_t_fault s_t_place s_t_sort s_t_start (0 : Int32) s_t_start) fun e5 =>
  jM (f_X5_next s_t_length r_t_tape_bytes s_t_after s_t_sort s_t_start) fun r6 =>
  some (e5, r6.1, s_t_fault, s_t_place, r6.2.1, r6.2.2)
  else
  jM (f_X5_refuse s_t_start s_t_fault s_t_place) fun r7 =>
  some ((-1 : Int32), s_t_after, r7.2.1, r7.2.2, s_t_sort, s_t_start)
set_option maxHeartbeats 4000000 in
set_option maxRecDepth 100000 in
theorem t_X5_takeNumber {p : Program} {l : Launch} {e : Env} {s : State} {m : MethodId} {args : Array Value} {below : List Frame} {meth : Method} {c : Code} {A : Nat → Prop} {Q : State → Prop} (G : jGt) (D : va_G) (cI cB cZ : ClassId) (a_t a_t_tape a_t_tape_bytes : Nat) (u_t_tape_length u_t_tape_fault u_t_tape_place s_t_length : Int32) (r_t_tape_bytes : jA) (s_t_after s_t_fault s_t_place s_t_sort s_t_start : Int32) (C : jCx p s m args c cX5_takeNumber 3 gX5_takeNumber RX5 G D (jT cI cB cZ) A) {o : Int32 × Int32 × Int32 × Int32 × Int32 × Int32} (hf : f_X5_takeNumber s_t_length r_t_tape_bytes s_t_after s_t_fault s_t_place s_t_sort s_t_start = some o) (K : ∀ (H : Heap) (locs : List Loc) (pc : Nat) (ls : Array Slot), va_P D vwCl (w_X5_takeNumber cI cB cZ a_t a_t_tape a_t_tape_bytes u_t_tape_length u_t_tape_fault u_t_tape_place o.2.1 o.2.2.1 s_t_length o.2.2.2.1 o.2.2.2.2.1 o.2.2.2.2.2 r_t_tape_bytes) H → va_S A s.heap H locs → decode cX5_takeNumber pc = .ok (.ireturn, 1) → W p l e rX5_takeNumber s m args below meth c H locs 0 0 Q (F0 m pc ls [.int o.1])) {H : Heap} {locs : List Loc} {ls : Array Slot} (hP : va_P D vwCl (w_X5_takeNumber cI cB cZ a_t a_t_tape a_t_tape_bytes u_t_tape_length u_t_tape_fault u_t_tape_place s_t_after s_t_fault s_t_length s_t_place s_t_sort s_t_start r_t_tape_bytes) H) (hD : va_D A (w_X5_takeNumber cI cB cZ a_t a_t_tape a_t_tape_bytes u_t_tape_length u_t_tape_fault u_t_tape_place s_t_after s_t_fault s_t_length s_t_place s_t_sort s_t_start r_t_tape_bytes)) (hS : va_S A s.heap H locs) (hl : lv_has ls 3 [(0, .ref a_t)]) : W p l e rX5_takeNumber s m args below meth c H locs 0 0 Q (F0 m 0 ls []) := by
  obtain ⟨⟨hx, hb, hml, hown, hts⟩, hK, hN, hA⟩ := C
  have C : jCx p s m args c cX5_takeNumber 3 gX5_takeNumber RX5 G D (jT cI cB cZ) A := ⟨⟨hx, hb, hml, hown, hts⟩, hK, hN, hA⟩
  unfold f_X5_takeNumber at hf
  refine lv_aload_n hx hb dX5_takeNumber_0 rfl (lv_at hl 0 rfl) ?_
  refine va_get (D := D) (ci := 4) (v := .int s_t_sort) (C := RX5) (T := TX5) (N := 7) hx hb hts iw_X5 hown hK hP 0 rfl rfl 1 (by decide) (hts _ (wG_in k_fl_X5_38 rfl)) (fun _ h9 => h9) rfl dX5_takeNumber_1 ?_
  refine lv_iconst (v := (2 : Int32)) hx hb dX5_takeNumber_4 (by decide) ?_
  refine lv_icmp_eq (tgt := 15) hx hb dX5_takeNumber_5 (by decide) (fun c1 => ?_) (fun c1 => ?_)
  · replace hf := jif_t c1 hf
    refine lv_iconst (v := (0 : Int32)) hx hb dX5_takeNumber_15 (by decide) ?_
    refine lv_istore_n (lv' := [(1, .int (0 : Int32)), (0, .ref a_t)]) hx hb dX5_takeNumber_16 rfl hl (by decide) rfl (fun ls hl => ?_)
    refine lv_aload_n hx hb dX5_takeNumber_17 rfl (lv_at hl 1 rfl) ?_
    refine va_get (D := D) (ci := 4) (v := .int s_t_start) (C := RX5) (T := TX5) (N := 7) hx hb hts iw_X5 hown hK hP 0 rfl rfl 4 (by decide) (hts _ (wG_in k_fl_X5_35 rfl)) (fun _ h9 => h9) rfl dX5_takeNumber_18 ?_
    refine lv_istore_n (lv' := [(2, .int s_t_start), (1, .int (0 : Int32)), (0, .ref a_t)]) hx hb dX5_takeNumber_21 rfl hl (by decide) rfl (fun ls hl => ?_)
    obtain ⟨e5, hg5, hf⟩ := jM_some hf
    refine t_X5_takeNumber_l22 G D cI cB cZ a_t a_t_tape a_t_tape_bytes u_t_tape_length u_t_tape_fault u_t_tape_place s_t_length r_t_tape_bytes s_t_after s_t_fault s_t_place s_t_sort s_t_start C jF (0 : Int32) s_t_start hg5 ?_ _ _ _ hP hD hS (lv_sub hl [2, 1, 0] rfl)
    intro H locs ls hP hD hS hl
    refine lv_aload_n hx hb dX5_takeNumber_50 rfl (lv_at hl 0 rfl) ?_
    obtain ⟨r6, hgr6, hf⟩ := jM_some hf
    refine jcV_v (As := []) (rest := []) ⟨hx, hb, hml, hown, hts⟩ hK hN hA (c_X5_next l G D cI cB cZ a_t a_t_tape a_t_tape_bytes s_t_fault s_t_place u_t_tape_length u_t_tape_fault u_t_tape_place s_t_length r_t_tape_bytes s_t_after s_t_sort s_t_start hgr6) (cwV 0 hts (wG_V k_ml_X5_85 k_im_X5_next k_se_X5_next k_in_X5 k_co_X5_next) rfl rfl rfl hd_X5_next ⟨Nat.le_of_ble_eq_true rfl, Nat.le_of_ble_eq_true rfl⟩) hP hD hS (w_X5_takeNumber cI cB cZ a_t a_t_tape a_t_tape_bytes u_t_tape_length u_t_tape_fault u_t_tape_place r6.1 s_t_fault s_t_length s_t_place r6.2.1 r6.2.2 r_t_tape_bytes) [0, 1, 2] [] rfl rfl rfl (N := 3) rfl (by decide +kernel) rfl (by decide +kernel) (by decide +kernel) (ci := 4) rfl 0 rfl rfl rfl hl.1 rfl (Nat.le_of_ble_eq_true rfl) dX5_takeNumber_51 ⟨Nat.le_of_ble_eq_true rfl, Nat.le_of_ble_eq_true rfl⟩ (fun H locs hP hD hS => ?_)
    refine lv_iload_n hx hb dX5_takeNumber_54 rfl (lv_at hl 1 rfl) ?_
    have ho := Option.some.inj hf
    subst ho
    exact K _ _ _ _ hP hS dX5_takeNumber_55
  · replace hf := jif_f c1 hf
    refine lv_aload_n hx hb dX5_takeNumber_8 rfl (lv_at hl 0 rfl) ?_
    obtain ⟨r7, hgr7, hf⟩ := jM_some hf
    refine jcV_i (As := []) (rest := []) ⟨hx, hb, hml, hown, hts⟩ hK hN hA (c_X5_refuse l G D cI cB cZ a_t (.ref a_t_tape) s_t_sort s_t_after s_t_length s_t_start s_t_fault s_t_place hgr7) (cwV 0 hts (wG_V k_ml_X5_81 k_im_X5_refuse k_se_X5_refuse k_in_X5 k_co_X5_refuse) rfl rfl rfl hd_X5_refuse ⟨Nat.le_of_ble_eq_true rfl, Nat.le_of_ble_eq_true rfl⟩) hP hD hS (w_X5_takeNumber cI cB cZ a_t a_t_tape a_t_tape_bytes u_t_tape_length u_t_tape_fault u_t_tape_place s_t_after r7.2.1 s_t_length r7.2.2 s_t_sort s_t_start r_t_tape_bytes) [0] [1, 2] rfl rfl rfl (N := 3) rfl (by decide +kernel) rfl (by decide +kernel) (by decide +kernel) (ci := 4) rfl 0 rfl rfl rfl hl.1 rfl (Nat.le_of_ble_eq_true rfl) dX5_takeNumber_9 ⟨Nat.le_of_ble_eq_true rfl, Nat.le_of_ble_eq_true rfl⟩ (fun H locs hP hD hS => ?_)
    refine lv_pop hx hb dX5_takeNumber_12 rfl ?_
    refine lv_iconst (v := (-1 : Int32)) hx hb dX5_takeNumber_13 (by decide) ?_
    have ho := Option.some.inj hf
    subst ho
    exact K _ _ _ _ hP hS dX5_takeNumber_14
set_option maxHeartbeats 4000000 in
set_option maxRecDepth 100000 in
theorem c_X5_takeNumber (l : Launch) (G : jGt) (D : va_G) (cI cB cZ : ClassId) (a_t a_t_tape a_t_tape_bytes : Nat) (u_t_tape_length u_t_tape_fault u_t_tape_place s_t_length : Int32) (r_t_tape_bytes : jA) (s_t_after s_t_fault s_t_place s_t_sort s_t_start : Int32) {o : Int32 × Int32 × Int32 × Int32 × Int32 × Int32} (hf : f_X5_takeNumber s_t_length r_t_tape_bytes s_t_after s_t_fault s_t_place s_t_sort s_t_start = some o) : jMi l yX5_takeNumber gX5_takeNumber rX5_takeNumber G D (jT cI cB cZ) [.ref a_t] (w_X5_takeNumber cI cB cZ a_t a_t_tape a_t_tape_bytes u_t_tape_length u_t_tape_fault u_t_tape_place s_t_after s_t_fault s_t_length s_t_place s_t_sort s_t_start r_t_tape_bytes) (w_X5_takeNumber cI cB cZ a_t a_t_tape a_t_tape_bytes u_t_tape_length u_t_tape_fault u_t_tape_place o.2.1 o.2.2.1 s_t_length o.2.2.2.1 o.2.2.2.2.1 o.2.2.2.2.2 r_t_tape_bytes) o.1 := by
  refine jmk_i RX5 rfl (by decide +kernel) rfl (Nat.le_of_ble_eq_true rfl) ?_
  intro p e s m args below meth c ls A Q C hP hD hS hl K
  exact t_X5_takeNumber G D cI cB cZ a_t a_t_tape a_t_tape_bytes u_t_tape_length u_t_tape_fault u_t_tape_place s_t_length r_t_tape_bytes s_t_after s_t_fault s_t_place s_t_sort s_t_start C hf K hP hD hS hl
abbrev rX5_takeClass : Room := { frames := 3, cells := 0, slots := 0, locals := 65 }
abbrev gX5_takeClass : List Cond := wG yX5_takeClass cX5_takeClass 2 (some .int)
def w_X5_takeClass (cI cB cZ : ClassId) (a_t a_t_tape a_t_tape_bytes : Nat) (u_t_tape_length u_t_tape_fault u_t_tape_place s_t_after s_t_fault s_t_length s_t_place s_t_sort s_t_start : Int32) (r_t_tape_bytes : jA) : va_W := [(a_t, .inr (4, (oX5 (.ref a_t_tape) s_t_sort s_t_after s_t_length s_t_start s_t_fault s_t_place))), (a_t_tape, .inr (6, (oX7 (.ref a_t_tape_bytes) u_t_tape_length u_t_tape_fault u_t_tape_place))), (a_t_tape_bytes, .inl (cB, r_t_tape_bytes.1, .inl r_t_tape_bytes.2))]
def f_X5_takeClass_j34 (s_t_after s_t_fault s_t_place s_t_sort s_t_start : Int32) : Option (Int32 × Int32 × Int32 × Int32 × Int32 × Int32) :=
  jM (f_X5_refuse s_t_start s_t_fault s_t_place) fun r4 =>
  some ((-1 : Int32), s_t_after, r4.2.1, r4.2.2, s_t_sort, s_t_start)
set_option maxHeartbeats 4000000 in
set_option maxRecDepth 100000 in
theorem t_X5_takeClass_j34 {p : Program} {l : Launch} {e : Env} {s : State} {m : MethodId} {args : Array Value} {below : List Frame} {meth : Method} {c : Code} {A : Nat → Prop} {Q : State → Prop} (G : jGt) (D : va_G) (cI cB cZ : ClassId) (a_t a_t_tape a_t_tape_bytes : Nat) (u_t_tape_length u_t_tape_fault u_t_tape_place s_t_length : Int32) (r_t_tape_bytes : jA) (s_t_after s_t_fault s_t_place s_t_sort s_t_start : Int32) (C : jCx p s m args c cX5_takeClass 2 gX5_takeClass RX5 G D (jT cI cB cZ) A) {o : Int32 × Int32 × Int32 × Int32 × Int32 × Int32} (hf : f_X5_takeClass_j34 s_t_after s_t_fault s_t_place s_t_sort s_t_start = some o) (K : ∀ (H : Heap) (locs : List Loc) (pc : Nat) (ls : Array Slot), va_P D vwCl (w_X5_takeClass cI cB cZ a_t a_t_tape a_t_tape_bytes u_t_tape_length u_t_tape_fault u_t_tape_place o.2.1 o.2.2.1 s_t_length o.2.2.2.1 o.2.2.2.2.1 o.2.2.2.2.2 r_t_tape_bytes) H → va_S A s.heap H locs → decode cX5_takeClass pc = .ok (.ireturn, 1) → W p l e rX5_takeClass s m args below meth c H locs 0 0 Q (F0 m pc ls [.int o.1])) {H : Heap} {locs : List Loc} {ls : Array Slot} (hP : va_P D vwCl (w_X5_takeClass cI cB cZ a_t a_t_tape a_t_tape_bytes u_t_tape_length u_t_tape_fault u_t_tape_place s_t_after s_t_fault s_t_length s_t_place s_t_sort s_t_start r_t_tape_bytes) H) (hD : va_D A (w_X5_takeClass cI cB cZ a_t a_t_tape a_t_tape_bytes u_t_tape_length u_t_tape_fault u_t_tape_place s_t_after s_t_fault s_t_length s_t_place s_t_sort s_t_start r_t_tape_bytes)) (hS : va_S A s.heap H locs) (hl : lv_has ls 2 [(0, .ref a_t)]) : W p l e rX5_takeClass s m args below meth c H locs 0 0 Q (F0 m 34 ls []) := by
  obtain ⟨⟨hx, hb, hml, hown, hts⟩, hK, hN, hA⟩ := C
  have C : jCx p s m args c cX5_takeClass 2 gX5_takeClass RX5 G D (jT cI cB cZ) A := ⟨⟨hx, hb, hml, hown, hts⟩, hK, hN, hA⟩
  unfold f_X5_takeClass_j34 at hf
  refine lv_aload_n hx hb dX5_takeClass_34 rfl (lv_at hl 0 rfl) ?_
  obtain ⟨r4, hgr4, hf⟩ := jM_some hf
  refine jcV_i (As := []) (rest := []) ⟨hx, hb, hml, hown, hts⟩ hK hN hA (c_X5_refuse l G D cI cB cZ a_t (.ref a_t_tape) s_t_sort s_t_after s_t_length s_t_start s_t_fault s_t_place hgr4) (cwV 0 hts (wG_V k_ml_X5_81 k_im_X5_refuse k_se_X5_refuse k_in_X5 k_co_X5_refuse) rfl rfl rfl hd_X5_refuse ⟨Nat.le_of_ble_eq_true rfl, Nat.le_of_ble_eq_true rfl⟩) hP hD hS (w_X5_takeClass cI cB cZ a_t a_t_tape a_t_tape_bytes u_t_tape_length u_t_tape_fault u_t_tape_place s_t_after r4.2.1 s_t_length r4.2.2 s_t_sort s_t_start r_t_tape_bytes) [0] [1, 2] rfl rfl rfl (N := 3) rfl (by decide +kernel) rfl (by decide +kernel) (by decide +kernel) (ci := 4) rfl 0 rfl rfl rfl hl.1 rfl (Nat.le_of_ble_eq_true rfl) dX5_takeClass_35 ⟨Nat.le_of_ble_eq_true rfl, Nat.le_of_ble_eq_true rfl⟩ (fun H locs hP hD hS => ?_)
  refine lv_pop hx hb dX5_takeClass_38 rfl ?_
  refine lv_iconst (v := (-1 : Int32)) hx hb dX5_takeClass_39 (by decide) ?_
  have ho := Option.some.inj hf
  subst ho
  exact K _ _ _ _ hP hS dX5_takeClass_40
def f_X5_takeClass (s_t_length : Int32) (r_t_tape_bytes : jA) (s_t_after s_t_fault s_t_place s_t_sort s_t_start : Int32) : Option (Int32 × Int32 × Int32 × Int32 × Int32 × Int32) :=
  jM (f_X5_byteAt s_t_length r_t_tape_bytes s_t_start) fun r1 =>
  jV (r1 - (97 : Int32)) fun v2 =>
  if s_t_sort = (1 : Int32) then
  jM (f_X5_size s_t_after s_t_start) fun r5 =>
  if r5 = (1 : Int32) then
  if v2 < (8 : Int32) then
  jM (f_X5_next s_t_length r_t_tape_bytes s_t_after s_t_sort s_t_start) fun r8 =>
  some (v2, r8.1, s_t_fault, s_t_place, r8.2.1, r8.2.2)
  else
  f_X5_takeClass_j34 s_t_after s_t_fault s_t_place s_t_sort s_t_start
  else
  f_X5_takeClass_j34 s_t_after s_t_fault s_t_place s_t_sort s_t_start
  else
  f_X5_takeClass_j34 s_t_after s_t_fault s_t_place s_t_sort s_t_start
set_option maxHeartbeats 4000000 in
set_option maxRecDepth 100000 in
theorem t_X5_takeClass {p : Program} {l : Launch} {e : Env} {s : State} {m : MethodId} {args : Array Value} {below : List Frame} {meth : Method} {c : Code} {A : Nat → Prop} {Q : State → Prop} (G : jGt) (D : va_G) (cI cB cZ : ClassId) (a_t a_t_tape a_t_tape_bytes : Nat) (u_t_tape_length u_t_tape_fault u_t_tape_place s_t_length : Int32) (r_t_tape_bytes : jA) (s_t_after s_t_fault s_t_place s_t_sort s_t_start : Int32) (C : jCx p s m args c cX5_takeClass 2 gX5_takeClass RX5 G D (jT cI cB cZ) A) {o : Int32 × Int32 × Int32 × Int32 × Int32 × Int32} (hf : f_X5_takeClass s_t_length r_t_tape_bytes s_t_after s_t_fault s_t_place s_t_sort s_t_start = some o) (K : ∀ (H : Heap) (locs : List Loc) (pc : Nat) (ls : Array Slot), va_P D vwCl (w_X5_takeClass cI cB cZ a_t a_t_tape a_t_tape_bytes u_t_tape_length u_t_tape_fault u_t_tape_place o.2.1 o.2.2.1 s_t_length o.2.2.2.1 o.2.2.2.2.1 o.2.2.2.2.2 r_t_tape_bytes) H → va_S A s.heap H locs → decode cX5_takeClass pc = .ok (.ireturn, 1) → W p l e rX5_takeClass s m args below meth c H locs 0 0 Q (F0 m pc ls [.int o.1])) {H : Heap} {locs : List Loc} {ls : Array Slot} (hP : va_P D vwCl (w_X5_takeClass cI cB cZ a_t a_t_tape a_t_tape_bytes u_t_tape_length u_t_tape_fault u_t_tape_place s_t_after s_t_fault s_t_length s_t_place s_t_sort s_t_start r_t_tape_bytes) H) (hD : va_D A (w_X5_takeClass cI cB cZ a_t a_t_tape a_t_tape_bytes u_t_tape_length u_t_tape_fault u_t_tape_place s_t_after s_t_fault s_t_length s_t_place s_t_sort s_t_start r_t_tape_bytes)) (hS : va_S A s.heap H locs) (hl : lv_has ls 2 [(0, .ref a_t)]) : W p l e rX5_takeClass s m args below meth c H locs 0 0 Q (F0 m 0 ls []) := by
  obtain ⟨⟨hx, hb, hml, hown, hts⟩, hK, hN, hA⟩ := C
  have C : jCx p s m args c cX5_takeClass 2 gX5_takeClass RX5 G D (jT cI cB cZ) A := ⟨⟨hx, hb, hml, hown, hts⟩, hK, hN, hA⟩
  unfold f_X5_takeClass at hf
  refine lv_aload_n hx hb dX5_takeClass_0 rfl (lv_at hl 0 rfl) ?_
  refine lv_aload_n hx hb dX5_takeClass_1 rfl (lv_at hl 0 rfl) ?_
  refine va_get (D := D) (ci := 4) (v := .int s_t_start) (C := RX5) (T := TX5) (N := 7) hx hb hts iw_X5 hown hK hP 0 rfl rfl 4 (by decide) (hts _ (wG_in k_fl_X5_35 rfl)) (fun _ h9 => h9) rfl dX5_takeClass_2 ?_
  obtain ⟨r1, hgr1, hf⟩ := jM_some hf
  refine jcV_i (As := [.int s_t_start]) (rest := []) ⟨hx, hb, hml, hown, hts⟩ hK hN hA (c_X5_byteAt l G D cI cB cZ a_t a_t_tape a_t_tape_bytes s_t_sort s_t_after s_t_start s_t_fault s_t_place u_t_tape_length u_t_tape_fault u_t_tape_place s_t_length r_t_tape_bytes s_t_start hgr1) (cwV 1 hts (wG_V k_ml_X5_49 k_im_X5_byteAt k_se_X5_byteAt k_in_X5 k_co_X5_byteAt) rfl rfl rfl hd_X5_byteAt ⟨Nat.le_of_ble_eq_true rfl, Nat.le_of_ble_eq_true rfl⟩) hP hD hS (w_X5_takeClass cI cB cZ a_t a_t_tape a_t_tape_bytes u_t_tape_length u_t_tape_fault u_t_tape_place s_t_after s_t_fault s_t_length s_t_place s_t_sort s_t_start r_t_tape_bytes) [0, 1, 2] [] rfl rfl rfl (N := 3) rfl (by decide +kernel) rfl (by decide +kernel) (by decide +kernel) (ci := 4) rfl 0 rfl rfl rfl hl.1 rfl (Nat.le_of_ble_eq_true rfl) dX5_takeClass_5 ⟨Nat.le_of_ble_eq_true rfl, Nat.le_of_ble_eq_true rfl⟩ (fun H locs hP hD hS => ?_)
  refine lv_bipush (v := (97 : Int32)) hx hb dX5_takeClass_8 (by decide) ?_
  refine lv_isub hx hb dX5_takeClass_10 ?_
  obtain ⟨v2, hv2, hf⟩ := jV_some hf
  refine jtop hv2 ?_
  refine lv_istore_n (lv' := [(1, .int v2), (0, .ref a_t)]) hx hb dX5_takeClass_11 rfl hl (by decide) rfl (fun ls hl => ?_)
  refine lv_aload_n hx hb dX5_takeClass_12 rfl (lv_at hl 1 rfl) ?_
  refine va_get (D := D) (ci := 4) (v := .int s_t_sort) (C := RX5) (T := TX5) (N := 7) hx hb hts iw_X5 hown hK hP 0 rfl rfl 1 (by decide) (hts _ (wG_in k_fl_X5_38 rfl)) (fun _ h9 => h9) rfl dX5_takeClass_13 ?_
  refine lv_iconst (v := (1 : Int32)) hx hb dX5_takeClass_16 (by decide) ?_
  refine lv_icmp_ne (tgt := 34) hx hb dX5_takeClass_17 (by decide) (fun c3 => ?_) (fun c3 => ?_)
  · replace hf := jif_f c3 hf
    exact t_X5_takeClass_j34 G D cI cB cZ a_t a_t_tape a_t_tape_bytes u_t_tape_length u_t_tape_fault u_t_tape_place s_t_length r_t_tape_bytes s_t_after s_t_fault s_t_place s_t_sort s_t_start C hf K hP hD hS (lv_sub hl [1] rfl)
  · replace hf := jif_t c3 hf
    refine lv_aload_n hx hb dX5_takeClass_20 rfl (lv_at hl 1 rfl) ?_
    obtain ⟨r5, hgr5, hf⟩ := jM_some hf
    refine jcV_i (As := []) (rest := []) ⟨hx, hb, hml, hown, hts⟩ hK hN hA (c_X5_size l G D cI cB cZ a_t (.ref a_t_tape) s_t_sort s_t_length s_t_fault s_t_place s_t_after s_t_start hgr5) (cwV 0 hts (wG_V k_ml_X5_61 k_im_X5_size k_se_X5_size k_in_X5 k_co_X5_size) rfl rfl rfl hd_X5_size ⟨Nat.le_of_ble_eq_true rfl, Nat.le_of_ble_eq_true rfl⟩) hP hD hS (w_X5_takeClass cI cB cZ a_t a_t_tape a_t_tape_bytes u_t_tape_length u_t_tape_fault u_t_tape_place s_t_after s_t_fault s_t_length s_t_place s_t_sort s_t_start r_t_tape_bytes) [0] [1, 2] rfl rfl rfl (N := 3) rfl (by decide +kernel) rfl (by decide +kernel) (by decide +kernel) (ci := 4) rfl 0 rfl rfl rfl hl.1 rfl (Nat.le_of_ble_eq_true rfl) dX5_takeClass_21 ⟨Nat.le_of_ble_eq_true rfl, Nat.le_of_ble_eq_true rfl⟩ (fun H locs hP hD hS => ?_)
    refine lv_iconst (v := (1 : Int32)) hx hb dX5_takeClass_24 (by decide) ?_
    refine lv_icmp_ne (tgt := 34) hx hb dX5_takeClass_25 (by decide) (fun c6 => ?_) (fun c6 => ?_)
    · replace hf := jif_f c6 hf
      exact t_X5_takeClass_j34 G D cI cB cZ a_t a_t_tape a_t_tape_bytes u_t_tape_length u_t_tape_fault u_t_tape_place s_t_length r_t_tape_bytes s_t_after s_t_fault s_t_place s_t_sort s_t_start C hf K hP hD hS (lv_sub hl [1] rfl)
    · replace hf := jif_t c6 hf
      refine lv_iload_n hx hb dX5_takeClass_28 rfl (lv_at hl 0 rfl) ?_
      refine lv_bipush (v := (8 : Int32)) hx hb dX5_takeClass_29 (by decide) ?_
      refine lv_icmp_lt (tgt := 41) hx hb dX5_takeClass_31 (by decide) (fun c7 => ?_) (fun c7 => ?_)
      · replace hf := jif_t c7 hf
        refine lv_aload_n hx hb dX5_takeClass_41 rfl (lv_at hl 1 rfl) ?_
        obtain ⟨r8, hgr8, hf⟩ := jM_some hf
        refine jcV_v (As := []) (rest := []) ⟨hx, hb, hml, hown, hts⟩ hK hN hA (c_X5_next l G D cI cB cZ a_t a_t_tape a_t_tape_bytes s_t_fault s_t_place u_t_tape_length u_t_tape_fault u_t_tape_place s_t_length r_t_tape_bytes s_t_after s_t_sort s_t_start hgr8) (cwV 0 hts (wG_V k_ml_X5_85 k_im_X5_next k_se_X5_next k_in_X5 k_co_X5_next) rfl rfl rfl hd_X5_next ⟨Nat.le_of_ble_eq_true rfl, Nat.le_of_ble_eq_true rfl⟩) hP hD hS (w_X5_takeClass cI cB cZ a_t a_t_tape a_t_tape_bytes u_t_tape_length u_t_tape_fault u_t_tape_place r8.1 s_t_fault s_t_length s_t_place r8.2.1 r8.2.2 r_t_tape_bytes) [0, 1, 2] [] rfl rfl rfl (N := 3) rfl (by decide +kernel) rfl (by decide +kernel) (by decide +kernel) (ci := 4) rfl 0 rfl rfl rfl hl.1 rfl (Nat.le_of_ble_eq_true rfl) dX5_takeClass_42 ⟨Nat.le_of_ble_eq_true rfl, Nat.le_of_ble_eq_true rfl⟩ (fun H locs hP hD hS => ?_)
        refine lv_iload_n hx hb dX5_takeClass_45 rfl (lv_at hl 0 rfl) ?_
        have ho := Option.some.inj hf
        subst ho
        exact K _ _ _ _ hP hS dX5_takeClass_46
      · replace hf := jif_f c7 hf
        exact t_X5_takeClass_j34 G D cI cB cZ a_t a_t_tape a_t_tape_bytes u_t_tape_length u_t_tape_fault u_t_tape_place s_t_length r_t_tape_bytes s_t_after s_t_fault s_t_place s_t_sort s_t_start C hf K hP hD hS (lv_sub hl [1] rfl)
set_option maxHeartbeats 4000000 in
set_option maxRecDepth 100000 in
theorem c_X5_takeClass (l : Launch) (G : jGt) (D : va_G) (cI cB cZ : ClassId) (a_t a_t_tape a_t_tape_bytes : Nat) (u_t_tape_length u_t_tape_fault u_t_tape_place s_t_length : Int32) (r_t_tape_bytes : jA) (s_t_after s_t_fault s_t_place s_t_sort s_t_start : Int32) {o : Int32 × Int32 × Int32 × Int32 × Int32 × Int32} (hf : f_X5_takeClass s_t_length r_t_tape_bytes s_t_after s_t_fault s_t_place s_t_sort s_t_start = some o) : jMi l yX5_takeClass gX5_takeClass rX5_takeClass G D (jT cI cB cZ) [.ref a_t] (w_X5_takeClass cI cB cZ a_t a_t_tape a_t_tape_bytes u_t_tape_length u_t_tape_fault u_t_tape_place s_t_after s_t_fault s_t_length s_t_place s_t_sort s_t_start r_t_tape_bytes) (w_X5_takeClass cI cB cZ a_t a_t_tape a_t_tape_bytes u_t_tape_length u_t_tape_fault u_t_tape_place o.2.1 o.2.2.1 s_t_length o.2.2.2.1 o.2.2.2.2.1 o.2.2.2.2.2 r_t_tape_bytes) o.1 := by
  refine jmk_i RX5 rfl (by decide +kernel) rfl (Nat.le_of_ble_eq_true rfl) ?_
  intro p e s m args below meth c ls A Q C hP hD hS hl K
  exact t_X5_takeClass G D cI cB cZ a_t a_t_tape a_t_tape_bytes u_t_tape_length u_t_tape_fault u_t_tape_place s_t_length r_t_tape_bytes s_t_after s_t_fault s_t_place s_t_sort s_t_start C hf K hP hD hS hl
abbrev rX5_blame : Room := { frames := 0, cells := 0, slots := 0, locals := 0 }
abbrev gX5_blame : List Cond := wG yX5_blame cX5_blame 3 none
def w_X5_blame (cI cB cZ : ClassId) (a_t : Nat) (u_t_tape : Value) (u_t_sort u_t_after u_t_length u_t_start s_t_fault s_t_place : Int32) : va_W := [(a_t, .inr (4, (oX5 u_t_tape u_t_sort u_t_after u_t_length u_t_start s_t_fault s_t_place)))]
def f_X5_blame (s_t_fault s_t_place x1 x2 : Int32) : Option (Int32 × Int32) :=
  if s_t_fault = 0 then
  some (x1, x2)
  else
  some (s_t_fault, s_t_place)
set_option maxHeartbeats 4000000 in
set_option maxRecDepth 100000 in
theorem t_X5_blame {p : Program} {l : Launch} {e : Env} {s : State} {m : MethodId} {args : Array Value} {below : List Frame} {meth : Method} {c : Code} {A : Nat → Prop} {Q : State → Prop} (G : jGt) (D : va_G) (cI cB cZ : ClassId) (a_t : Nat) (u_t_tape : Value) (u_t_sort u_t_after u_t_length u_t_start : Int32) (s_t_fault s_t_place x1 x2 : Int32) (C : jCx p s m args c cX5_blame 3 gX5_blame RX5 G D (jT cI cB cZ) A) {o : Int32 × Int32} (hf : f_X5_blame s_t_fault s_t_place x1 x2 = some o) (K : ∀ (H : Heap) (locs : List Loc) (pc : Nat) (ls : Array Slot), va_P D vwCl (w_X5_blame cI cB cZ a_t u_t_tape u_t_sort u_t_after u_t_length u_t_start o.1 o.2) H → va_S A s.heap H locs → decode cX5_blame pc = .ok (.return_, 1) → W p l e rX5_blame s m args below meth c H locs 0 0 Q (F0 m pc ls [])) {H : Heap} {locs : List Loc} {ls : Array Slot} (hP : va_P D vwCl (w_X5_blame cI cB cZ a_t u_t_tape u_t_sort u_t_after u_t_length u_t_start s_t_fault s_t_place) H) (hD : va_D A (w_X5_blame cI cB cZ a_t u_t_tape u_t_sort u_t_after u_t_length u_t_start s_t_fault s_t_place)) (hS : va_S A s.heap H locs) (hl : lv_has ls 3 [(0, .ref a_t), (1, .int x1), (2, .int x2)]) : W p l e rX5_blame s m args below meth c H locs 0 0 Q (F0 m 0 ls []) := by
  obtain ⟨⟨hx, hb, hml, hown, hts⟩, hK, hN, hA⟩ := C
  have C : jCx p s m args c cX5_blame 3 gX5_blame RX5 G D (jT cI cB cZ) A := ⟨⟨hx, hb, hml, hown, hts⟩, hK, hN, hA⟩
  unfold f_X5_blame at hf
  refine lv_aload_n hx hb dX5_blame_0 rfl (lv_at hl 0 rfl) ?_
  refine va_get (D := D) (ci := 4) (v := .int s_t_fault) (C := RX5) (T := TX5) (N := 7) hx hb hts iw_X5 hown hK hP 0 rfl rfl 5 (by decide) (hts _ (wG_in k_fl_X5_22 rfl)) (fun _ h9 => h9) rfl dX5_blame_1 ?_
  refine lv_if_ne (tgt := 17) hx hb dX5_blame_4 (by decide) (fun c1 => ?_) (fun c1 => ?_)
  · replace hf := jif_f c1 hf
    have ho := Option.some.inj hf
    subst ho
    exact K _ _ _ _ hP hS dX5_blame_17
  · replace hf := jif_t c1 hf
    refine lv_aload_n hx hb dX5_blame_7 rfl (lv_at hl 0 rfl) ?_
    refine lv_iload_n hx hb dX5_blame_8 rfl (lv_at hl 1 rfl) ?_
    refine va_put (D := D) (ci := 4) (v := .int x1) (ty := .int) (C := RX5) (T := TX5) (N := 7) hx hb hts iw_X5 tyX5 tyX5_ok nmX5 hown hK hP hD hS 0 rfl rfl 5 (by decide) (hts _ (wG_in k_fl_X5_22 rfl)) (fun _ h9 => h9) rfl (tyX5_ok 5 (by decide)) rfl rfl (Nat.le_of_ble_eq_true rfl) dX5_blame_9 (fun H locs hP hD hS => ?_)
    have hP : va_P D vwCl (w_X5_blame cI cB cZ a_t u_t_tape u_t_sort u_t_after u_t_length u_t_start x1 s_t_place) H := hP
    have hD : va_D A (w_X5_blame cI cB cZ a_t u_t_tape u_t_sort u_t_after u_t_length u_t_start x1 s_t_place) := hD
    refine lv_aload_n hx hb dX5_blame_12 rfl (lv_at hl 0 rfl) ?_
    refine lv_iload_n hx hb dX5_blame_13 rfl (lv_at hl 2 rfl) ?_
    refine va_put (D := D) (ci := 4) (v := .int x2) (ty := .int) (C := RX5) (T := TX5) (N := 7) hx hb hts iw_X5 tyX5 tyX5_ok nmX5 hown hK hP hD hS 0 rfl rfl 6 (by decide) (hts _ (wG_in k_fl_X5_25 rfl)) (fun _ h9 => h9) rfl (tyX5_ok 6 (by decide)) rfl rfl (Nat.le_of_ble_eq_true rfl) dX5_blame_14 (fun H locs hP hD hS => ?_)
    have hP : va_P D vwCl (w_X5_blame cI cB cZ a_t u_t_tape u_t_sort u_t_after u_t_length u_t_start x1 x2) H := hP
    have hD : va_D A (w_X5_blame cI cB cZ a_t u_t_tape u_t_sort u_t_after u_t_length u_t_start x1 x2) := hD
    have ho := Option.some.inj hf
    subst ho
    exact K _ _ _ _ hP hS dX5_blame_17
set_option maxHeartbeats 4000000 in
set_option maxRecDepth 100000 in
theorem c_X5_blame (l : Launch) (G : jGt) (D : va_G) (cI cB cZ : ClassId) (a_t : Nat) (u_t_tape : Value) (u_t_sort u_t_after u_t_length u_t_start : Int32) (s_t_fault s_t_place x1 x2 : Int32) {o : Int32 × Int32} (hf : f_X5_blame s_t_fault s_t_place x1 x2 = some o) : jMv l yX5_blame gX5_blame rX5_blame G D (jT cI cB cZ) [.ref a_t, .int x1, .int x2] (w_X5_blame cI cB cZ a_t u_t_tape u_t_sort u_t_after u_t_length u_t_start s_t_fault s_t_place) (w_X5_blame cI cB cZ a_t u_t_tape u_t_sort u_t_after u_t_length u_t_start o.1 o.2) := by
  refine jmk_v RX5 rfl (by decide +kernel) rfl (Nat.le_of_ble_eq_true rfl) ?_
  intro p e s m args below meth c ls A Q C hP hD hS hl K
  exact t_X5_blame G D cI cB cZ a_t u_t_tape u_t_sort u_t_after u_t_length u_t_start s_t_fault s_t_place x1 x2 C hf K hP hD hS hl
abbrev rX7_copyFrom : Room := { frames := 1, cells := 0, slots := 0, locals := 26 }
abbrev gX7_copyFrom : List Cond := wG yX7_copyFrom cX7_copyFrom 2 none
def w_X7_copyFrom (cI cB cZ : ClassId) (a_p0 a_t a_p0_bytes a_t_bytes : Nat) (s_p0_fault s_p0_length s_p0_place s_t_fault s_t_length s_t_place : Int32) (r_p0_bytes r_t_bytes : jA) : va_W := [(a_p0, .inr (6, (oX7 (.ref a_p0_bytes) s_p0_length s_p0_fault s_p0_place))), (a_t, .inr (6, (oX7 (.ref a_t_bytes) s_t_length s_t_fault s_t_place))), (a_p0_bytes, .inl (cB, r_p0_bytes.1, .inl r_p0_bytes.2)), (a_t_bytes, .inl (cB, r_t_bytes.1, .inl r_t_bytes.2))]
def f_X7_copyFrom (s_p0_fault s_p0_length s_p0_place : Int32) (r_p0_bytes : jA) (s_t_fault s_t_length s_t_place : Int32) (r_t_bytes : jA) : Option (Int32 × Int32 × Int32 × jA) :=
  jY .byte r_p0_bytes r_t_bytes (0 : Int32) (0 : Int32) (400 : Int32) fun q1 =>
  some (s_p0_fault, s_p0_length, s_p0_place, q1)
set_option maxHeartbeats 4000000 in
set_option maxRecDepth 100000 in
theorem t_X7_copyFrom {p : Program} {l : Launch} {e : Env} {s : State} {m : MethodId} {args : Array Value} {below : List Frame} {meth : Method} {c : Code} {A : Nat → Prop} {Q : State → Prop} (G : jGt) (D : va_G) (cI cB cZ : ClassId) (a_p0 a_t a_p0_bytes a_t_bytes : Nat) (s_p0_fault s_p0_length s_p0_place : Int32) (r_p0_bytes : jA) (s_t_fault s_t_length s_t_place : Int32) (r_t_bytes : jA) (C : jCx p s m args c cX7_copyFrom 2 gX7_copyFrom RX7 G D (jT cI cB cZ) A) {o : Int32 × Int32 × Int32 × jA} (hf : f_X7_copyFrom s_p0_fault s_p0_length s_p0_place r_p0_bytes s_t_fault s_t_length s_t_place r_t_bytes = some o) (K : ∀ (H : Heap) (locs : List Loc) (pc : Nat) (ls : Array Slot), va_P D vwCl (w_X7_copyFrom cI cB cZ a_p0 a_t a_p0_bytes a_t_bytes s_p0_fault s_p0_length s_p0_place o.1 o.2.1 o.2.2.1 r_p0_bytes o.2.2.2) H → va_S A s.heap H locs → decode cX7_copyFrom pc = .ok (.return_, 1) → W p l e rX7_copyFrom s m args below meth c H locs 0 0 Q (F0 m pc ls [])) {H : Heap} {locs : List Loc} {ls : Array Slot} (hP : va_P D vwCl (w_X7_copyFrom cI cB cZ a_p0 a_t a_p0_bytes a_t_bytes s_p0_fault s_p0_length s_p0_place s_t_fault s_t_length s_t_place r_p0_bytes r_t_bytes) H) (hD : va_D A (w_X7_copyFrom cI cB cZ a_p0 a_t a_p0_bytes a_t_bytes s_p0_fault s_p0_length s_p0_place s_t_fault s_t_length s_t_place r_p0_bytes r_t_bytes)) (hS : va_S A s.heap H locs) (hl : lv_has ls 2 [(0, .ref a_t), (1, .ref a_p0)]) : W p l e rX7_copyFrom s m args below meth c H locs 0 0 Q (F0 m 0 ls []) := by
  obtain ⟨⟨hx, hb, hml, hown, hts⟩, hK, hN, hA⟩ := C
  have C : jCx p s m args c cX7_copyFrom 2 gX7_copyFrom RX7 G D (jT cI cB cZ) A := ⟨⟨hx, hb, hml, hown, hts⟩, hK, hN, hA⟩
  unfold f_X7_copyFrom at hf
  refine lv_aload_n hx hb dX7_copyFrom_0 rfl (lv_at hl 1 rfl) ?_
  refine va_get (D := D) (ci := 6) (v := .ref a_p0_bytes) (C := RX7) (T := TX7) (N := 4) hx hb hts iw_X7 hown hK hP 0 rfl rfl 0 (by decide) (hts _ (wG_in k_fl_X7_11 rfl)) (fun _ h9 => h9) rfl dX7_copyFrom_1 ?_
  refine lv_iconst (v := (0 : Int32)) hx hb dX7_copyFrom_4 (by decide) ?_
  refine lv_aload_n hx hb dX7_copyFrom_5 rfl (lv_at hl 0 rfl) ?_
  refine va_get (D := D) (ci := 6) (v := .ref a_t_bytes) (C := RX7) (T := TX7) (N := 4) hx hb hts iw_X7 hown hK hP 1 rfl rfl 0 (by decide) (hts _ (wG_in k_fl_X7_11 rfl)) (fun _ h9 => h9) rfl dX7_copyFrom_6 ?_
  refine lv_iconst (v := (0 : Int32)) hx hb dX7_copyFrom_9 (by decide) ?_
  refine lv_sipush (v := (400 : Int32)) hx hb dX7_copyFrom_10 (by decide) ?_
  obtain ⟨q1, hq1, iq1, hf⟩ := jY_some hf
  refine ja_copy (P := r_p0_bytes) (P2 := r_t_bytes) (P' := q1) (ty := .byte) hx hb (hml.trans hl.1.symm) hown (hts _ (wG_in k_ml_X7_19 rfl)) (hts _ (wG_in k_nat_ac rfl)) (hts _ (wG_in k_st_ac rfl)) (hts _ (wG_in k_in_sys rfl)) hK hP hD hS 2 3 1 rfl rfl rfl rfl hq1 iq1 (Nat.le_of_ble_eq_true rfl) (Nat.le_of_ble_eq_true rfl) dX7_copyFrom_13 (fun H locs hP hD hS => ?_)
  have hP : va_P D vwCl (w_X7_copyFrom cI cB cZ a_p0 a_t a_p0_bytes a_t_bytes s_p0_fault s_p0_length s_p0_place s_t_fault s_t_length s_t_place r_p0_bytes q1) H := hP
  have hD : va_D A (w_X7_copyFrom cI cB cZ a_p0 a_t a_p0_bytes a_t_bytes s_p0_fault s_p0_length s_p0_place s_t_fault s_t_length s_t_place r_p0_bytes q1) := hD
  refine lv_aload_n hx hb dX7_copyFrom_16 rfl (lv_at hl 0 rfl) ?_
  refine lv_aload_n hx hb dX7_copyFrom_17 rfl (lv_at hl 1 rfl) ?_
  refine va_get (D := D) (ci := 6) (v := .int s_p0_length) (C := RX7) (T := TX7) (N := 4) hx hb hts iw_X7 hown hK hP 0 rfl rfl 1 (by decide) (hts _ (wG_in k_fl_X7_25 rfl)) (fun _ h9 => h9) rfl dX7_copyFrom_18 ?_
  refine va_put (D := D) (ci := 6) (v := .int s_p0_length) (ty := .int) (C := RX7) (T := TX7) (N := 4) hx hb hts iw_X7 tyX7 tyX7_ok nmX7 hown hK hP hD hS 1 rfl rfl 1 (by decide) (hts _ (wG_in k_fl_X7_25 rfl)) (fun _ h9 => h9) rfl (tyX7_ok 1 (by decide)) rfl rfl (Nat.le_of_ble_eq_true rfl) dX7_copyFrom_21 (fun H locs hP hD hS => ?_)
  have hP : va_P D vwCl (w_X7_copyFrom cI cB cZ a_p0 a_t a_p0_bytes a_t_bytes s_p0_fault s_p0_length s_p0_place s_t_fault s_p0_length s_t_place r_p0_bytes q1) H := hP
  have hD : va_D A (w_X7_copyFrom cI cB cZ a_p0 a_t a_p0_bytes a_t_bytes s_p0_fault s_p0_length s_p0_place s_t_fault s_p0_length s_t_place r_p0_bytes q1) := hD
  refine lv_aload_n hx hb dX7_copyFrom_24 rfl (lv_at hl 0 rfl) ?_
  refine lv_aload_n hx hb dX7_copyFrom_25 rfl (lv_at hl 1 rfl) ?_
  refine va_get (D := D) (ci := 6) (v := .int s_p0_fault) (C := RX7) (T := TX7) (N := 4) hx hb hts iw_X7 hown hK hP 0 rfl rfl 2 (by decide) (hts _ (wG_in k_fl_X7_28 rfl)) (fun _ h9 => h9) rfl dX7_copyFrom_26 ?_
  refine va_put (D := D) (ci := 6) (v := .int s_p0_fault) (ty := .int) (C := RX7) (T := TX7) (N := 4) hx hb hts iw_X7 tyX7 tyX7_ok nmX7 hown hK hP hD hS 1 rfl rfl 2 (by decide) (hts _ (wG_in k_fl_X7_28 rfl)) (fun _ h9 => h9) rfl (tyX7_ok 2 (by decide)) rfl rfl (Nat.le_of_ble_eq_true rfl) dX7_copyFrom_29 (fun H locs hP hD hS => ?_)
  have hP : va_P D vwCl (w_X7_copyFrom cI cB cZ a_p0 a_t a_p0_bytes a_t_bytes s_p0_fault s_p0_length s_p0_place s_p0_fault s_p0_length s_t_place r_p0_bytes q1) H := hP
  have hD : va_D A (w_X7_copyFrom cI cB cZ a_p0 a_t a_p0_bytes a_t_bytes s_p0_fault s_p0_length s_p0_place s_p0_fault s_p0_length s_t_place r_p0_bytes q1) := hD
  refine lv_aload_n hx hb dX7_copyFrom_32 rfl (lv_at hl 0 rfl) ?_
  refine lv_aload_n hx hb dX7_copyFrom_33 rfl (lv_at hl 1 rfl) ?_
  refine va_get (D := D) (ci := 6) (v := .int s_p0_place) (C := RX7) (T := TX7) (N := 4) hx hb hts iw_X7 hown hK hP 0 rfl rfl 3 (by decide) (hts _ (wG_in k_fl_X7_15 rfl)) (fun _ h9 => h9) rfl dX7_copyFrom_34 ?_
  refine va_put (D := D) (ci := 6) (v := .int s_p0_place) (ty := .int) (C := RX7) (T := TX7) (N := 4) hx hb hts iw_X7 tyX7 tyX7_ok nmX7 hown hK hP hD hS 1 rfl rfl 3 (by decide) (hts _ (wG_in k_fl_X7_15 rfl)) (fun _ h9 => h9) rfl (tyX7_ok 3 (by decide)) rfl rfl (Nat.le_of_ble_eq_true rfl) dX7_copyFrom_37 (fun H locs hP hD hS => ?_)
  have hP : va_P D vwCl (w_X7_copyFrom cI cB cZ a_p0 a_t a_p0_bytes a_t_bytes s_p0_fault s_p0_length s_p0_place s_p0_fault s_p0_length s_p0_place r_p0_bytes q1) H := hP
  have hD : va_D A (w_X7_copyFrom cI cB cZ a_p0 a_t a_p0_bytes a_t_bytes s_p0_fault s_p0_length s_p0_place s_p0_fault s_p0_length s_p0_place r_p0_bytes q1) := hD
  have ho := Option.some.inj hf
  subst ho
  exact K _ _ _ _ hP hS dX7_copyFrom_40
set_option maxHeartbeats 4000000 in
set_option maxRecDepth 100000 in
theorem c_X7_copyFrom (l : Launch) (G : jGt) (D : va_G) (cI cB cZ : ClassId) (a_p0 a_t a_p0_bytes a_t_bytes : Nat) (s_p0_fault s_p0_length s_p0_place : Int32) (r_p0_bytes : jA) (s_t_fault s_t_length s_t_place : Int32) (r_t_bytes : jA) {o : Int32 × Int32 × Int32 × jA} (hf : f_X7_copyFrom s_p0_fault s_p0_length s_p0_place r_p0_bytes s_t_fault s_t_length s_t_place r_t_bytes = some o) : jMv l yX7_copyFrom gX7_copyFrom rX7_copyFrom G D (jT cI cB cZ) [.ref a_t, .ref a_p0] (w_X7_copyFrom cI cB cZ a_p0 a_t a_p0_bytes a_t_bytes s_p0_fault s_p0_length s_p0_place s_t_fault s_t_length s_t_place r_p0_bytes r_t_bytes) (w_X7_copyFrom cI cB cZ a_p0 a_t a_p0_bytes a_t_bytes s_p0_fault s_p0_length s_p0_place o.1 o.2.1 o.2.2.1 r_p0_bytes o.2.2.2) := by
  refine jmk_v RX7 rfl (by decide +kernel) rfl (Nat.le_of_ble_eq_true rfl) ?_
  intro p e s m args below meth c ls A Q C hP hD hS hl K
  exact t_X7_copyFrom G D cI cB cZ a_p0 a_t a_p0_bytes a_t_bytes s_p0_fault s_p0_length s_p0_place r_p0_bytes s_t_fault s_t_length s_t_place r_t_bytes C hf K hP hD hS hl
abbrev rX10_copyFrom : Room := { frames := 1, cells := 0, slots := 0, locals := 26 }
abbrev gX10_copyFrom : List Cond := wG yX10_copyFrom cX10_copyFrom 2 none
def w_X10_copyFrom (cI cB cZ : ClassId) (a_p0 a_t a_p0_child a_p0_father a_p0_husband a_p0_wife a_t_child a_t_father a_t_husband a_t_wife : Nat) (s_p0_size s_t_size : Int32) (r_p0_child r_p0_father r_p0_husband r_p0_wife r_t_child r_t_father r_t_husband r_t_wife : jA) : va_W := [(a_p0, .inr (9, (oX10 (.ref a_p0_wife) (.ref a_p0_child) (.ref a_p0_husband) (.ref a_p0_father) s_p0_size))), (a_t, .inr (9, (oX10 (.ref a_t_wife) (.ref a_t_child) (.ref a_t_husband) (.ref a_t_father) s_t_size))), (a_p0_child, .inl (cI, r_p0_child.1, .inl r_p0_child.2)), (a_p0_father, .inl (cI, r_p0_father.1, .inl r_p0_father.2)), (a_p0_husband, .inl (cI, r_p0_husband.1, .inl r_p0_husband.2)), (a_p0_wife, .inl (cI, r_p0_wife.1, .inl r_p0_wife.2)), (a_t_child, .inl (cI, r_t_child.1, .inl r_t_child.2)), (a_t_father, .inl (cI, r_t_father.1, .inl r_t_father.2)), (a_t_husband, .inl (cI, r_t_husband.1, .inl r_t_husband.2)), (a_t_wife, .inl (cI, r_t_wife.1, .inl r_t_wife.2))]
def f_X10_copyFrom (s_p0_size : Int32) (r_p0_child r_p0_father r_p0_husband r_p0_wife : jA) (s_t_size : Int32) (r_t_child r_t_father r_t_husband r_t_wife : jA) : Option (Int32 × jA × jA × jA × jA) :=
  jY .int r_p0_wife r_t_wife (0 : Int32) (0 : Int32) (8 : Int32) fun q1 =>
  jY .int r_p0_child r_t_child (0 : Int32) (0 : Int32) (8 : Int32) fun q2 =>
  jY .int r_p0_husband r_t_husband (0 : Int32) (0 : Int32) (8 : Int32) fun q3 =>
  jY .int r_p0_father r_t_father (0 : Int32) (0 : Int32) (8 : Int32) fun q4 =>
  some (s_p0_size, q2, q4, q3, q1)
set_option maxHeartbeats 4000000 in
set_option maxRecDepth 100000 in
theorem t_X10_copyFrom {p : Program} {l : Launch} {e : Env} {s : State} {m : MethodId} {args : Array Value} {below : List Frame} {meth : Method} {c : Code} {A : Nat → Prop} {Q : State → Prop} (G : jGt) (D : va_G) (cI cB cZ : ClassId) (a_p0 a_t a_p0_child a_p0_father a_p0_husband a_p0_wife a_t_child a_t_father a_t_husband a_t_wife : Nat) (s_p0_size : Int32) (r_p0_child r_p0_father r_p0_husband r_p0_wife : jA) (s_t_size : Int32) (r_t_child r_t_father r_t_husband r_t_wife : jA) (C : jCx p s m args c cX10_copyFrom 2 gX10_copyFrom RX10 G D (jT cI cB cZ) A) {o : Int32 × jA × jA × jA × jA} (hf : f_X10_copyFrom s_p0_size r_p0_child r_p0_father r_p0_husband r_p0_wife s_t_size r_t_child r_t_father r_t_husband r_t_wife = some o) (K : ∀ (H : Heap) (locs : List Loc) (pc : Nat) (ls : Array Slot), va_P D vwCl (w_X10_copyFrom cI cB cZ a_p0 a_t a_p0_child a_p0_father a_p0_husband a_p0_wife a_t_child a_t_father a_t_husband a_t_wife s_p0_size o.1 r_p0_child r_p0_father r_p0_husband r_p0_wife o.2.1 o.2.2.1 o.2.2.2.1 o.2.2.2.2) H → va_S A s.heap H locs → decode cX10_copyFrom pc = .ok (.return_, 1) → W p l e rX10_copyFrom s m args below meth c H locs 0 0 Q (F0 m pc ls [])) {H : Heap} {locs : List Loc} {ls : Array Slot} (hP : va_P D vwCl (w_X10_copyFrom cI cB cZ a_p0 a_t a_p0_child a_p0_father a_p0_husband a_p0_wife a_t_child a_t_father a_t_husband a_t_wife s_p0_size s_t_size r_p0_child r_p0_father r_p0_husband r_p0_wife r_t_child r_t_father r_t_husband r_t_wife) H) (hD : va_D A (w_X10_copyFrom cI cB cZ a_p0 a_t a_p0_child a_p0_father a_p0_husband a_p0_wife a_t_child a_t_father a_t_husband a_t_wife s_p0_size s_t_size r_p0_child r_p0_father r_p0_husband r_p0_wife r_t_child r_t_father r_t_husband r_t_wife)) (hS : va_S A s.heap H locs) (hl : lv_has ls 2 [(0, .ref a_t), (1, .ref a_p0)]) : W p l e rX10_copyFrom s m args below meth c H locs 0 0 Q (F0 m 0 ls []) := by
  obtain ⟨⟨hx, hb, hml, hown, hts⟩, hK, hN, hA⟩ := C
  have C : jCx p s m args c cX10_copyFrom 2 gX10_copyFrom RX10 G D (jT cI cB cZ) A := ⟨⟨hx, hb, hml, hown, hts⟩, hK, hN, hA⟩
  unfold f_X10_copyFrom at hf
  refine lv_aload_n hx hb dX10_copyFrom_0 rfl (lv_at hl 1 rfl) ?_
  refine va_get (D := D) (ci := 9) (v := .ref a_p0_wife) (C := RX10) (T := TX10) (N := 5) hx hb hts iw_X10 hown hK hP 0 rfl rfl 0 (by decide) (hts _ (wG_in k_fl_X10_9 rfl)) (fun _ h9 => h9) rfl dX10_copyFrom_1 ?_
  refine lv_iconst (v := (0 : Int32)) hx hb dX10_copyFrom_4 (by decide) ?_
  refine lv_aload_n hx hb dX10_copyFrom_5 rfl (lv_at hl 0 rfl) ?_
  refine va_get (D := D) (ci := 9) (v := .ref a_t_wife) (C := RX10) (T := TX10) (N := 5) hx hb hts iw_X10 hown hK hP 1 rfl rfl 0 (by decide) (hts _ (wG_in k_fl_X10_9 rfl)) (fun _ h9 => h9) rfl dX10_copyFrom_6 ?_
  refine lv_iconst (v := (0 : Int32)) hx hb dX10_copyFrom_9 (by decide) ?_
  refine lv_bipush (v := (8 : Int32)) hx hb dX10_copyFrom_10 (by decide) ?_
  obtain ⟨q1, hq1, iq1, hf⟩ := jY_some hf
  refine ja_copy (P := r_p0_wife) (P2 := r_t_wife) (P' := q1) (ty := .int) hx hb (hml.trans hl.1.symm) hown (hts _ (wG_in k_ml_X10_24 rfl)) (hts _ (wG_in k_nat_ac rfl)) (hts _ (wG_in k_st_ac rfl)) (hts _ (wG_in k_in_sys rfl)) hK hP hD hS 5 9 0 rfl rfl rfl rfl hq1 iq1 (Nat.le_of_ble_eq_true rfl) (Nat.le_of_ble_eq_true rfl) dX10_copyFrom_12 (fun H locs hP hD hS => ?_)
  have hP : va_P D vwCl (w_X10_copyFrom cI cB cZ a_p0 a_t a_p0_child a_p0_father a_p0_husband a_p0_wife a_t_child a_t_father a_t_husband a_t_wife s_p0_size s_t_size r_p0_child r_p0_father r_p0_husband r_p0_wife r_t_child r_t_father r_t_husband q1) H := hP
  have hD : va_D A (w_X10_copyFrom cI cB cZ a_p0 a_t a_p0_child a_p0_father a_p0_husband a_p0_wife a_t_child a_t_father a_t_husband a_t_wife s_p0_size s_t_size r_p0_child r_p0_father r_p0_husband r_p0_wife r_t_child r_t_father r_t_husband q1) := hD
  refine lv_aload_n hx hb dX10_copyFrom_15 rfl (lv_at hl 1 rfl) ?_
  refine va_get (D := D) (ci := 9) (v := .ref a_p0_child) (C := RX10) (T := TX10) (N := 5) hx hb hts iw_X10 hown hK hP 0 rfl rfl 1 (by decide) (hts _ (wG_in k_fl_X10_15 rfl)) (fun _ h9 => h9) rfl dX10_copyFrom_16 ?_
  refine lv_iconst (v := (0 : Int32)) hx hb dX10_copyFrom_19 (by decide) ?_
  refine lv_aload_n hx hb dX10_copyFrom_20 rfl (lv_at hl 0 rfl) ?_
  refine va_get (D := D) (ci := 9) (v := .ref a_t_child) (C := RX10) (T := TX10) (N := 5) hx hb hts iw_X10 hown hK hP 1 rfl rfl 1 (by decide) (hts _ (wG_in k_fl_X10_15 rfl)) (fun _ h9 => h9) rfl dX10_copyFrom_21 ?_
  refine lv_iconst (v := (0 : Int32)) hx hb dX10_copyFrom_24 (by decide) ?_
  refine lv_bipush (v := (8 : Int32)) hx hb dX10_copyFrom_25 (by decide) ?_
  obtain ⟨q2, hq2, iq2, hf⟩ := jY_some hf
  refine ja_copy (P := r_p0_child) (P2 := r_t_child) (P' := q2) (ty := .int) hx hb (hml.trans hl.1.symm) hown (hts _ (wG_in k_ml_X10_24 rfl)) (hts _ (wG_in k_nat_ac rfl)) (hts _ (wG_in k_st_ac rfl)) (hts _ (wG_in k_in_sys rfl)) hK hP hD hS 2 6 0 rfl rfl rfl rfl hq2 iq2 (Nat.le_of_ble_eq_true rfl) (Nat.le_of_ble_eq_true rfl) dX10_copyFrom_27 (fun H locs hP hD hS => ?_)
  have hP : va_P D vwCl (w_X10_copyFrom cI cB cZ a_p0 a_t a_p0_child a_p0_father a_p0_husband a_p0_wife a_t_child a_t_father a_t_husband a_t_wife s_p0_size s_t_size r_p0_child r_p0_father r_p0_husband r_p0_wife q2 r_t_father r_t_husband q1) H := hP
  have hD : va_D A (w_X10_copyFrom cI cB cZ a_p0 a_t a_p0_child a_p0_father a_p0_husband a_p0_wife a_t_child a_t_father a_t_husband a_t_wife s_p0_size s_t_size r_p0_child r_p0_father r_p0_husband r_p0_wife q2 r_t_father r_t_husband q1) := hD
  refine lv_aload_n hx hb dX10_copyFrom_30 rfl (lv_at hl 1 rfl) ?_
  refine va_get (D := D) (ci := 9) (v := .ref a_p0_husband) (C := RX10) (T := TX10) (N := 5) hx hb hts iw_X10 hown hK hP 0 rfl rfl 2 (by decide) (hts _ (wG_in k_fl_X10_18 rfl)) (fun _ h9 => h9) rfl dX10_copyFrom_31 ?_
  refine lv_iconst (v := (0 : Int32)) hx hb dX10_copyFrom_34 (by decide) ?_
  refine lv_aload_n hx hb dX10_copyFrom_35 rfl (lv_at hl 0 rfl) ?_
  refine va_get (D := D) (ci := 9) (v := .ref a_t_husband) (C := RX10) (T := TX10) (N := 5) hx hb hts iw_X10 hown hK hP 1 rfl rfl 2 (by decide) (hts _ (wG_in k_fl_X10_18 rfl)) (fun _ h9 => h9) rfl dX10_copyFrom_36 ?_
  refine lv_iconst (v := (0 : Int32)) hx hb dX10_copyFrom_39 (by decide) ?_
  refine lv_bipush (v := (8 : Int32)) hx hb dX10_copyFrom_40 (by decide) ?_
  obtain ⟨q3, hq3, iq3, hf⟩ := jY_some hf
  refine ja_copy (P := r_p0_husband) (P2 := r_t_husband) (P' := q3) (ty := .int) hx hb (hml.trans hl.1.symm) hown (hts _ (wG_in k_ml_X10_24 rfl)) (hts _ (wG_in k_nat_ac rfl)) (hts _ (wG_in k_st_ac rfl)) (hts _ (wG_in k_in_sys rfl)) hK hP hD hS 4 8 0 rfl rfl rfl rfl hq3 iq3 (Nat.le_of_ble_eq_true rfl) (Nat.le_of_ble_eq_true rfl) dX10_copyFrom_42 (fun H locs hP hD hS => ?_)
  have hP : va_P D vwCl (w_X10_copyFrom cI cB cZ a_p0 a_t a_p0_child a_p0_father a_p0_husband a_p0_wife a_t_child a_t_father a_t_husband a_t_wife s_p0_size s_t_size r_p0_child r_p0_father r_p0_husband r_p0_wife q2 r_t_father q3 q1) H := hP
  have hD : va_D A (w_X10_copyFrom cI cB cZ a_p0 a_t a_p0_child a_p0_father a_p0_husband a_p0_wife a_t_child a_t_father a_t_husband a_t_wife s_p0_size s_t_size r_p0_child r_p0_father r_p0_husband r_p0_wife q2 r_t_father q3 q1) := hD
  refine lv_aload_n hx hb dX10_copyFrom_45 rfl (lv_at hl 1 rfl) ?_
  refine va_get (D := D) (ci := 9) (v := .ref a_p0_father) (C := RX10) (T := TX10) (N := 5) hx hb hts iw_X10 hown hK hP 0 rfl rfl 3 (by decide) (hts _ (wG_in k_fl_X10_21 rfl)) (fun _ h9 => h9) rfl dX10_copyFrom_46 ?_
  refine lv_iconst (v := (0 : Int32)) hx hb dX10_copyFrom_49 (by decide) ?_
  refine lv_aload_n hx hb dX10_copyFrom_50 rfl (lv_at hl 0 rfl) ?_
  refine va_get (D := D) (ci := 9) (v := .ref a_t_father) (C := RX10) (T := TX10) (N := 5) hx hb hts iw_X10 hown hK hP 1 rfl rfl 3 (by decide) (hts _ (wG_in k_fl_X10_21 rfl)) (fun _ h9 => h9) rfl dX10_copyFrom_51 ?_
  refine lv_iconst (v := (0 : Int32)) hx hb dX10_copyFrom_54 (by decide) ?_
  refine lv_bipush (v := (8 : Int32)) hx hb dX10_copyFrom_55 (by decide) ?_
  obtain ⟨q4, hq4, iq4, hf⟩ := jY_some hf
  refine ja_copy (P := r_p0_father) (P2 := r_t_father) (P' := q4) (ty := .int) hx hb (hml.trans hl.1.symm) hown (hts _ (wG_in k_ml_X10_24 rfl)) (hts _ (wG_in k_nat_ac rfl)) (hts _ (wG_in k_st_ac rfl)) (hts _ (wG_in k_in_sys rfl)) hK hP hD hS 3 7 0 rfl rfl rfl rfl hq4 iq4 (Nat.le_of_ble_eq_true rfl) (Nat.le_of_ble_eq_true rfl) dX10_copyFrom_57 (fun H locs hP hD hS => ?_)
  have hP : va_P D vwCl (w_X10_copyFrom cI cB cZ a_p0 a_t a_p0_child a_p0_father a_p0_husband a_p0_wife a_t_child a_t_father a_t_husband a_t_wife s_p0_size s_t_size r_p0_child r_p0_father r_p0_husband r_p0_wife q2 q4 q3 q1) H := hP
  have hD : va_D A (w_X10_copyFrom cI cB cZ a_p0 a_t a_p0_child a_p0_father a_p0_husband a_p0_wife a_t_child a_t_father a_t_husband a_t_wife s_p0_size s_t_size r_p0_child r_p0_father r_p0_husband r_p0_wife q2 q4 q3 q1) := hD
  refine lv_aload_n hx hb dX10_copyFrom_60 rfl (lv_at hl 0 rfl) ?_
  refine lv_aload_n hx hb dX10_copyFrom_61 rfl (lv_at hl 1 rfl) ?_
  refine va_get (D := D) (ci := 9) (v := .int s_p0_size) (C := RX10) (T := TX10) (N := 5) hx hb hts iw_X10 hown hK hP 0 rfl rfl 4 (by decide) (hts _ (wG_in k_fl_X10_30 rfl)) (fun _ h9 => h9) rfl dX10_copyFrom_62 ?_
  refine va_put (D := D) (ci := 9) (v := .int s_p0_size) (ty := .int) (C := RX10) (T := TX10) (N := 5) hx hb hts iw_X10 tyX10 tyX10_ok nmX10 hown hK hP hD hS 1 rfl rfl 4 (by decide) (hts _ (wG_in k_fl_X10_30 rfl)) (fun _ h9 => h9) rfl (tyX10_ok 4 (by decide)) rfl rfl (Nat.le_of_ble_eq_true rfl) dX10_copyFrom_65 (fun H locs hP hD hS => ?_)
  have hP : va_P D vwCl (w_X10_copyFrom cI cB cZ a_p0 a_t a_p0_child a_p0_father a_p0_husband a_p0_wife a_t_child a_t_father a_t_husband a_t_wife s_p0_size s_p0_size r_p0_child r_p0_father r_p0_husband r_p0_wife q2 q4 q3 q1) H := hP
  have hD : va_D A (w_X10_copyFrom cI cB cZ a_p0 a_t a_p0_child a_p0_father a_p0_husband a_p0_wife a_t_child a_t_father a_t_husband a_t_wife s_p0_size s_p0_size r_p0_child r_p0_father r_p0_husband r_p0_wife q2 q4 q3 q1) := hD
  have ho := Option.some.inj hf
  subst ho
  exact K _ _ _ _ hP hS dX10_copyFrom_68
set_option maxHeartbeats 4000000 in
set_option maxRecDepth 100000 in
theorem c_X10_copyFrom (l : Launch) (G : jGt) (D : va_G) (cI cB cZ : ClassId) (a_p0 a_t a_p0_child a_p0_father a_p0_husband a_p0_wife a_t_child a_t_father a_t_husband a_t_wife : Nat) (s_p0_size : Int32) (r_p0_child r_p0_father r_p0_husband r_p0_wife : jA) (s_t_size : Int32) (r_t_child r_t_father r_t_husband r_t_wife : jA) {o : Int32 × jA × jA × jA × jA} (hf : f_X10_copyFrom s_p0_size r_p0_child r_p0_father r_p0_husband r_p0_wife s_t_size r_t_child r_t_father r_t_husband r_t_wife = some o) : jMv l yX10_copyFrom gX10_copyFrom rX10_copyFrom G D (jT cI cB cZ) [.ref a_t, .ref a_p0] (w_X10_copyFrom cI cB cZ a_p0 a_t a_p0_child a_p0_father a_p0_husband a_p0_wife a_t_child a_t_father a_t_husband a_t_wife s_p0_size s_t_size r_p0_child r_p0_father r_p0_husband r_p0_wife r_t_child r_t_father r_t_husband r_t_wife) (w_X10_copyFrom cI cB cZ a_p0 a_t a_p0_child a_p0_father a_p0_husband a_p0_wife a_t_child a_t_father a_t_husband a_t_wife s_p0_size o.1 r_p0_child r_p0_father r_p0_husband r_p0_wife o.2.1 o.2.2.1 o.2.2.2.1 o.2.2.2.2) := by
  refine jmk_v RX10 rfl (by decide +kernel) rfl (Nat.le_of_ble_eq_true rfl) ?_
  intro p e s m args below meth c ls A Q C hP hD hS hl K
  exact t_X10_copyFrom G D cI cB cZ a_p0 a_t a_p0_child a_p0_father a_p0_husband a_p0_wife a_t_child a_t_father a_t_husband a_t_wife s_p0_size r_p0_child r_p0_father r_p0_husband r_p0_wife s_t_size r_t_child r_t_father r_t_husband r_t_wife C hf K hP hD hS hl
abbrev rX6_copyFrom : Room := { frames := 2, cells := 0, slots := 0, locals := 47 }
abbrev gX6_copyFrom : List Cond := wG yX6_copyFrom cX6_copyFrom 2 none
def w_X6_copyFrom (cI cB cZ : ClassId) (a_p0 a_t a_p0_law a_p0_people a_p0_tape a_p0_wheel a_p0_words a_t_law a_t_people a_t_tape a_t_wheel a_t_words a_p0_law_first a_p0_law_second a_p0_law_sort a_p0_people_father a_p0_people_man a_p0_people_mother a_p0_people_parentsDay a_p0_people_sex a_p0_people_teller a_p0_people_tellingDay a_p0_people_tellingKind a_p0_people_weddingDay a_p0_people_woman a_p0_tape_bytes a_p0_wheel_child a_p0_wheel_father a_p0_wheel_husband a_p0_wheel_wife a_t_law_first a_t_law_second a_t_law_sort a_t_people_father a_t_people_man a_t_people_mother a_t_people_parentsDay a_t_people_sex a_t_people_teller a_t_people_tellingDay a_t_people_tellingKind a_t_people_weddingDay a_t_people_woman a_t_tape_bytes a_t_wheel_child a_t_wheel_father a_t_wheel_husband a_t_wheel_wife : Nat) (s_p0_wordCount s_t_wordCount s_p0_law_count s_p0_people_count s_p0_people_seenTo s_p0_people_tellings s_p0_people_today s_p0_people_weddings s_p0_tape_fault s_p0_tape_length s_p0_tape_place s_p0_wheel_size : Int32) (r_p0_words : jA) (s_t_law_count s_t_people_count s_t_people_seenTo s_t_people_tellings s_t_people_today s_t_people_weddings s_t_tape_fault s_t_tape_length s_t_tape_place s_t_wheel_size : Int32) (r_t_words r_p0_law_first r_p0_law_second r_p0_law_sort r_p0_people_father r_p0_people_man r_p0_people_mother r_p0_people_parentsDay r_p0_people_sex r_p0_people_teller r_p0_people_tellingDay r_p0_people_tellingKind r_p0_people_weddingDay r_p0_people_woman r_p0_tape_bytes r_p0_wheel_child r_p0_wheel_father r_p0_wheel_husband r_p0_wheel_wife r_t_law_first r_t_law_second r_t_law_sort r_t_people_father r_t_people_man r_t_people_mother r_t_people_parentsDay r_t_people_sex r_t_people_teller r_t_people_tellingDay r_t_people_tellingKind r_t_people_weddingDay r_t_people_woman r_t_tape_bytes r_t_wheel_child r_t_wheel_father r_t_wheel_husband r_t_wheel_wife : jA) : va_W := [(a_p0, .inr (5, (oX6 (.ref a_p0_tape) (.ref a_p0_wheel) (.ref a_p0_law) (.ref a_p0_people) (.ref a_p0_words) s_p0_wordCount))), (a_t, .inr (5, (oX6 (.ref a_t_tape) (.ref a_t_wheel) (.ref a_t_law) (.ref a_t_people) (.ref a_t_words) s_t_wordCount))), (a_p0_law, .inr (2, (oX3 (.ref a_p0_law_sort) (.ref a_p0_law_first) (.ref a_p0_law_second) s_p0_law_count))), (a_p0_people, .inr (3, (oX4 (.ref a_p0_people_sex) (.ref a_p0_people_mother) (.ref a_p0_people_father) (.ref a_p0_people_parentsDay) s_p0_people_count (.ref a_p0_people_man) (.ref a_p0_people_woman) (.ref a_p0_people_weddingDay) s_p0_people_weddings (.ref a_p0_people_teller) (.ref a_p0_people_tellingKind) (.ref a_p0_people_tellingDay) s_p0_people_tellings s_p0_people_today s_p0_people_seenTo))), (a_p0_tape, .inr (6, (oX7 (.ref a_p0_tape_bytes) s_p0_tape_length s_p0_tape_fault s_p0_tape_place))), (a_p0_wheel, .inr (9, (oX10 (.ref a_p0_wheel_wife) (.ref a_p0_wheel_child) (.ref a_p0_wheel_husband) (.ref a_p0_wheel_father) s_p0_wheel_size))), (a_p0_words, .inl (cI, r_p0_words.1, .inl r_p0_words.2)), (a_t_law, .inr (2, (oX3 (.ref a_t_law_sort) (.ref a_t_law_first) (.ref a_t_law_second) s_t_law_count))), (a_t_people, .inr (3, (oX4 (.ref a_t_people_sex) (.ref a_t_people_mother) (.ref a_t_people_father) (.ref a_t_people_parentsDay) s_t_people_count (.ref a_t_people_man) (.ref a_t_people_woman) (.ref a_t_people_weddingDay) s_t_people_weddings (.ref a_t_people_teller) (.ref a_t_people_tellingKind) (.ref a_t_people_tellingDay) s_t_people_tellings s_t_people_today s_t_people_seenTo))), (a_t_tape, .inr (6, (oX7 (.ref a_t_tape_bytes) s_t_tape_length s_t_tape_fault s_t_tape_place))), (a_t_wheel, .inr (9, (oX10 (.ref a_t_wheel_wife) (.ref a_t_wheel_child) (.ref a_t_wheel_husband) (.ref a_t_wheel_father) s_t_wheel_size))), (a_t_words, .inl (cI, r_t_words.1, .inl r_t_words.2)), (a_p0_law_first, .inl (cI, r_p0_law_first.1, .inl r_p0_law_first.2)), (a_p0_law_second, .inl (cI, r_p0_law_second.1, .inl r_p0_law_second.2)), (a_p0_law_sort, .inl (cI, r_p0_law_sort.1, .inl r_p0_law_sort.2)), (a_p0_people_father, .inl (cI, r_p0_people_father.1, .inl r_p0_people_father.2)), (a_p0_people_man, .inl (cI, r_p0_people_man.1, .inl r_p0_people_man.2)), (a_p0_people_mother, .inl (cI, r_p0_people_mother.1, .inl r_p0_people_mother.2)), (a_p0_people_parentsDay, .inl (cI, r_p0_people_parentsDay.1, .inl r_p0_people_parentsDay.2)), (a_p0_people_sex, .inl (cI, r_p0_people_sex.1, .inl r_p0_people_sex.2)), (a_p0_people_teller, .inl (cI, r_p0_people_teller.1, .inl r_p0_people_teller.2)), (a_p0_people_tellingDay, .inl (cI, r_p0_people_tellingDay.1, .inl r_p0_people_tellingDay.2)), (a_p0_people_tellingKind, .inl (cI, r_p0_people_tellingKind.1, .inl r_p0_people_tellingKind.2)), (a_p0_people_weddingDay, .inl (cI, r_p0_people_weddingDay.1, .inl r_p0_people_weddingDay.2)), (a_p0_people_woman, .inl (cI, r_p0_people_woman.1, .inl r_p0_people_woman.2)), (a_p0_tape_bytes, .inl (cB, r_p0_tape_bytes.1, .inl r_p0_tape_bytes.2)), (a_p0_wheel_child, .inl (cI, r_p0_wheel_child.1, .inl r_p0_wheel_child.2)), (a_p0_wheel_father, .inl (cI, r_p0_wheel_father.1, .inl r_p0_wheel_father.2)), (a_p0_wheel_husband, .inl (cI, r_p0_wheel_husband.1, .inl r_p0_wheel_husband.2)), (a_p0_wheel_wife, .inl (cI, r_p0_wheel_wife.1, .inl r_p0_wheel_wife.2)), (a_t_law_first, .inl (cI, r_t_law_first.1, .inl r_t_law_first.2)), (a_t_law_second, .inl (cI, r_t_law_second.1, .inl r_t_law_second.2)), (a_t_law_sort, .inl (cI, r_t_law_sort.1, .inl r_t_law_sort.2)), (a_t_people_father, .inl (cI, r_t_people_father.1, .inl r_t_people_father.2)), (a_t_people_man, .inl (cI, r_t_people_man.1, .inl r_t_people_man.2)), (a_t_people_mother, .inl (cI, r_t_people_mother.1, .inl r_t_people_mother.2)), (a_t_people_parentsDay, .inl (cI, r_t_people_parentsDay.1, .inl r_t_people_parentsDay.2)), (a_t_people_sex, .inl (cI, r_t_people_sex.1, .inl r_t_people_sex.2)), (a_t_people_teller, .inl (cI, r_t_people_teller.1, .inl r_t_people_teller.2)), (a_t_people_tellingDay, .inl (cI, r_t_people_tellingDay.1, .inl r_t_people_tellingDay.2)), (a_t_people_tellingKind, .inl (cI, r_t_people_tellingKind.1, .inl r_t_people_tellingKind.2)), (a_t_people_weddingDay, .inl (cI, r_t_people_weddingDay.1, .inl r_t_people_weddingDay.2)), (a_t_people_woman, .inl (cI, r_t_people_woman.1, .inl r_t_people_woman.2)), (a_t_tape_bytes, .inl (cB, r_t_tape_bytes.1, .inl r_t_tape_bytes.2)), (a_t_wheel_child, .inl (cI, r_t_wheel_child.1, .inl r_t_wheel_child.2)), (a_t_wheel_father, .inl (cI, r_t_wheel_father.1, .inl r_t_wheel_father.2)), (a_t_wheel_husband, .inl (cI, r_t_wheel_husband.1, .inl r_t_wheel_husband.2)), (a_t_wheel_wife, .inl (cI, r_t_wheel_wife.1, .inl r_t_wheel_wife.2))]
def f_X6_copyFrom (s_p0_wordCount s_p0_law_count s_p0_people_count s_p0_people_seenTo s_p0_people_tellings s_p0_people_today s_p0_people_weddings s_p0_tape_fault s_p0_tape_length s_p0_tape_place s_p0_wheel_size : Int32) (r_p0_words r_p0_law_first r_p0_law_second r_p0_law_sort r_p0_people_father r_p0_people_man r_p0_people_mother r_p0_people_parentsDay r_p0_people_sex r_p0_people_teller r_p0_people_tellingDay r_p0_people_tellingKind r_p0_people_weddingDay r_p0_people_woman r_p0_tape_bytes r_p0_wheel_child r_p0_wheel_father r_p0_wheel_husband r_p0_wheel_wife : jA) (s_t_wordCount s_t_law_count s_t_people_count s_t_people_seenTo s_t_people_tellings s_t_people_today s_t_people_weddings s_t_tape_fault s_t_tape_length s_t_tape_place s_t_wheel_size : Int32) (r_t_words r_t_law_first r_t_law_second r_t_law_sort r_t_people_father r_t_people_man r_t_people_mother r_t_people_parentsDay r_t_people_sex r_t_people_teller r_t_people_tellingDay r_t_people_tellingKind r_t_people_weddingDay r_t_people_woman r_t_tape_bytes r_t_wheel_child r_t_wheel_father r_t_wheel_husband r_t_wheel_wife : jA) : Option (Int32 × Int32 × Int32 × Int32 × Int32 × Int32 × Int32 × Int32 × Int32 × Int32 × Int32 × jA × jA × jA × jA × jA × jA × jA × jA × jA × jA × jA × jA × jA × jA × jA × jA × jA × jA × jA) :=
  jM (f_X7_copyFrom s_p0_tape_fault s_p0_tape_length s_p0_tape_place r_p0_tape_bytes s_t_tape_fault s_t_tape_length s_t_tape_place r_t_tape_bytes) fun r1 =>
  jM (f_X10_copyFrom s_p0_wheel_size r_p0_wheel_child r_p0_wheel_father r_p0_wheel_husband r_p0_wheel_wife s_t_wheel_size r_t_wheel_child r_t_wheel_father r_t_wheel_husband r_t_wheel_wife) fun r2 =>
  jM (f_X3_copyFrom s_p0_law_count r_p0_law_first r_p0_law_second r_p0_law_sort s_t_law_count r_t_law_first r_t_law_second r_t_law_sort) fun r3 =>
  jM (f_X4_copyFrom s_p0_people_count s_p0_people_seenTo s_p0_people_tellings s_p0_people_today s_p0_people_weddings r_p0_people_father r_p0_people_man r_p0_people_mother r_p0_people_parentsDay r_p0_people_sex r_p0_people_teller r_p0_people_tellingDay r_p0_people_tellingKind r_p0_people_weddingDay r_p0_people_woman s_t_people_count s_t_people_seenTo s_t_people_tellings s_t_people_today s_t_people_weddings r_t_people_father r_t_people_man r_t_people_mother r_t_people_parentsDay r_t_people_sex r_t_people_teller r_t_people_tellingDay r_t_people_tellingKind r_t_people_weddingDay r_t_people_woman) fun r4 =>
  jY .int r_p0_words r_t_words (0 : Int32) (0 : Int32) (8 : Int32) fun q5 =>
  some (s_p0_wordCount, r3.1, r4.1, r4.2.1, r4.2.2.1, r4.2.2.2.1, r4.2.2.2.2.1, r1.1, r1.2.1, r1.2.2.1, r2.1, q5, r3.2.1, r3.2.2.1, r3.2.2.2, r4.2.2.2.2.2.1, r4.2.2.2.2.2.2.1, r4.2.2.2.2.2.2.2.1, r4.2.2.2.2.2.2.2.2.1, r4.2.2.2.2.2.2.2.2.2.1, r4.2.2.2.2.2.2.2.2.2.2.1, r4.2.2.2.2.2.2.2.2.2.2.2.1, r4.2.2.2.2.2.2.2.2.2.2.2.2.1, r4.2.2.2.2.2.2.2.2.2.2.2.2.2.1, r4.2.2.2.2.2.2.2.2.2.2.2.2.2.2, r1.2.2.2, r2.2.1, r2.2.2.1, r2.2.2.2.1, r2.2.2.2.2)
set_option maxHeartbeats 4000000 in
set_option maxRecDepth 100000 in
theorem t_X6_copyFrom {p : Program} {l : Launch} {e : Env} {s : State} {m : MethodId} {args : Array Value} {below : List Frame} {meth : Method} {c : Code} {A : Nat → Prop} {Q : State → Prop} (G : jGt) (D : va_G) (cI cB cZ : ClassId) (a_p0 a_t a_p0_law a_p0_people a_p0_tape a_p0_wheel a_p0_words a_t_law a_t_people a_t_tape a_t_wheel a_t_words a_p0_law_first a_p0_law_second a_p0_law_sort a_p0_people_father a_p0_people_man a_p0_people_mother a_p0_people_parentsDay a_p0_people_sex a_p0_people_teller a_p0_people_tellingDay a_p0_people_tellingKind a_p0_people_weddingDay a_p0_people_woman a_p0_tape_bytes a_p0_wheel_child a_p0_wheel_father a_p0_wheel_husband a_p0_wheel_wife a_t_law_first a_t_law_second a_t_law_sort a_t_people_father a_t_people_man a_t_people_mother a_t_people_parentsDay a_t_people_sex a_t_people_teller a_t_people_tellingDay a_t_people_tellingKind a_t_people_weddingDay a_t_people_woman a_t_tape_bytes a_t_wheel_child a_t_wheel_father a_t_wheel_husband a_t_wheel_wife : Nat) (s_p0_wordCount s_p0_law_count s_p0_people_count s_p0_people_seenTo s_p0_people_tellings s_p0_people_today s_p0_people_weddings s_p0_tape_fault s_p0_tape_length s_p0_tape_place s_p0_wheel_size : Int32) (r_p0_words r_p0_law_first r_p0_law_second r_p0_law_sort r_p0_people_father r_p0_people_man r_p0_people_mother r_p0_people_parentsDay r_p0_people_sex r_p0_people_teller r_p0_people_tellingDay r_p0_people_tellingKind r_p0_people_weddingDay r_p0_people_woman r_p0_tape_bytes r_p0_wheel_child r_p0_wheel_father r_p0_wheel_husband r_p0_wheel_wife : jA) (s_t_wordCount s_t_law_count s_t_people_count s_t_people_seenTo s_t_people_tellings s_t_people_today s_t_people_weddings s_t_tape_fault s_t_tape_length s_t_tape_place s_t_wheel_size : Int32) (r_t_words r_t_law_first r_t_law_second r_t_law_sort r_t_people_father r_t_people_man r_t_people_mother r_t_people_parentsDay r_t_people_sex r_t_people_teller r_t_people_tellingDay r_t_people_tellingKind r_t_people_weddingDay r_t_people_woman r_t_tape_bytes r_t_wheel_child r_t_wheel_father r_t_wheel_husband r_t_wheel_wife : jA) (C : jCx p s m args c cX6_copyFrom 2 gX6_copyFrom RX6 G D (jT cI cB cZ) A) {o : Int32 × Int32 × Int32 × Int32 × Int32 × Int32 × Int32 × Int32 × Int32 × Int32 × Int32 × jA × jA × jA × jA × jA × jA × jA × jA × jA × jA × jA × jA × jA × jA × jA × jA × jA × jA × jA} (hf : f_X6_copyFrom s_p0_wordCount s_p0_law_count s_p0_people_count s_p0_people_seenTo s_p0_people_tellings s_p0_people_today s_p0_people_weddings s_p0_tape_fault s_p0_tape_length s_p0_tape_place s_p0_wheel_size r_p0_words r_p0_law_first r_p0_law_second r_p0_law_sort r_p0_people_father r_p0_people_man r_p0_people_mother r_p0_people_parentsDay r_p0_people_sex r_p0_people_teller r_p0_people_tellingDay r_p0_people_tellingKind r_p0_people_weddingDay r_p0_people_woman r_p0_tape_bytes r_p0_wheel_child r_p0_wheel_father r_p0_wheel_husband r_p0_wheel_wife s_t_wordCount s_t_law_count s_t_people_count s_t_people_seenTo s_t_people_tellings s_t_people_today s_t_people_weddings s_t_tape_fault s_t_tape_length s_t_tape_place s_t_wheel_size r_t_words r_t_law_first r_t_law_second r_t_law_sort r_t_people_father r_t_people_man r_t_people_mother r_t_people_parentsDay r_t_people_sex r_t_people_teller r_t_people_tellingDay r_t_people_tellingKind r_t_people_weddingDay r_t_people_woman r_t_tape_bytes r_t_wheel_child r_t_wheel_father r_t_wheel_husband r_t_wheel_wife = some o) (K : ∀ (H : Heap) (locs : List Loc) (pc : Nat) (ls : Array Slot), va_P D vwCl (w_X6_copyFrom cI cB cZ a_p0 a_t a_p0_law a_p0_people a_p0_tape a_p0_wheel a_p0_words a_t_law a_t_people a_t_tape a_t_wheel a_t_words a_p0_law_first a_p0_law_second a_p0_law_sort a_p0_people_father a_p0_people_man a_p0_people_mother a_p0_people_parentsDay a_p0_people_sex a_p0_people_teller a_p0_people_tellingDay a_p0_people_tellingKind a_p0_people_weddingDay a_p0_people_woman a_p0_tape_bytes a_p0_wheel_child a_p0_wheel_father a_p0_wheel_husband a_p0_wheel_wife a_t_law_first a_t_law_second a_t_law_sort a_t_people_father a_t_people_man a_t_people_mother a_t_people_parentsDay a_t_people_sex a_t_people_teller a_t_people_tellingDay a_t_people_tellingKind a_t_people_weddingDay a_t_people_woman a_t_tape_bytes a_t_wheel_child a_t_wheel_father a_t_wheel_husband a_t_wheel_wife s_p0_wordCount o.1 s_p0_law_count s_p0_people_count s_p0_people_seenTo s_p0_people_tellings s_p0_people_today s_p0_people_weddings s_p0_tape_fault s_p0_tape_length s_p0_tape_place s_p0_wheel_size r_p0_words o.2.1 o.2.2.1 o.2.2.2.1 o.2.2.2.2.1 o.2.2.2.2.2.1 o.2.2.2.2.2.2.1 o.2.2.2.2.2.2.2.1 o.2.2.2.2.2.2.2.2.1 o.2.2.2.2.2.2.2.2.2.1 o.2.2.2.2.2.2.2.2.2.2.1 o.2.2.2.2.2.2.2.2.2.2.2.1 r_p0_law_first r_p0_law_second r_p0_law_sort r_p0_people_father r_p0_people_man r_p0_people_mother r_p0_people_parentsDay r_p0_people_sex r_p0_people_teller r_p0_people_tellingDay r_p0_people_tellingKind r_p0_people_weddingDay r_p0_people_woman r_p0_tape_bytes r_p0_wheel_child r_p0_wheel_father r_p0_wheel_husband r_p0_wheel_wife o.2.2.2.2.2.2.2.2.2.2.2.2.1 o.2.2.2.2.2.2.2.2.2.2.2.2.2.1 o.2.2.2.2.2.2.2.2.2.2.2.2.2.2.1 o.2.2.2.2.2.2.2.2.2.2.2.2.2.2.2.1 o.2.2.2.2.2.2.2.2.2.2.2.2.2.2.2.2.1 o.2.2.2.2.2.2.2.2.2.2.2.2.2.2.2.2.2.1 o.2.2.2.2.2.2.2.2.2.2.2.2.2.2.2.2.2.2.1 o.2.2.2.2.2.2.2.2.2.2.2.2.2.2.2.2.2.2.2.1 o.2.2.2.2.2.2.2.2.2.2.2.2.2.2.2.2.2.2.2.2.1 o.2.2.2.2.2.2.2.2.2.2.2.2.2.2.2.2.2.2.2.2.2.1 o.2.2.2.2.2.2.2.2.2.2.2.2.2.2.2.2.2.2.2.2.2.2.1 o.2.2.2.2.2.2.2.2.2.2.2.2.2.2.2.2.2.2.2.2.2.2.2.1 o.2.2.2.2.2.2.2.2.2.2.2.2.2.2.2.2.2.2.2.2.2.2.2.2.1 o.2.2.2.2.2.2.2.2.2.2.2.2.2.2.2.2.2.2.2.2.2.2.2.2.2.1 o.2.2.2.2.2.2.2.2.2.2.2.2.2.2.2.2.2.2.2.2.2.2.2.2.2.2.1 o.2.2.2.2.2.2.2.2.2.2.2.2.2.2.2.2.2.2.2.2.2.2.2.2.2.2.2.1 o.2.2.2.2.2.2.2.2.2.2.2.2.2.2.2.2.2.2.2.2.2.2.2.2.2.2.2.2.1 o.2.2.2.2.2.2.2.2.2.2.2.2.2.2.2.2.2.2.2.2.2.2.2.2.2.2.2.2.2) H → va_S A s.heap H locs → decode cX6_copyFrom pc = .ok (.return_, 1) → W p l e rX6_copyFrom s m args below meth c H locs 0 0 Q (F0 m pc ls [])) {H : Heap} {locs : List Loc} {ls : Array Slot} (hP : va_P D vwCl (w_X6_copyFrom cI cB cZ a_p0 a_t a_p0_law a_p0_people a_p0_tape a_p0_wheel a_p0_words a_t_law a_t_people a_t_tape a_t_wheel a_t_words a_p0_law_first a_p0_law_second a_p0_law_sort a_p0_people_father a_p0_people_man a_p0_people_mother a_p0_people_parentsDay a_p0_people_sex a_p0_people_teller a_p0_people_tellingDay a_p0_people_tellingKind a_p0_people_weddingDay a_p0_people_woman a_p0_tape_bytes a_p0_wheel_child a_p0_wheel_father a_p0_wheel_husband a_p0_wheel_wife a_t_law_first a_t_law_second a_t_law_sort a_t_people_father a_t_people_man a_t_people_mother a_t_people_parentsDay a_t_people_sex a_t_people_teller a_t_people_tellingDay a_t_people_tellingKind a_t_people_weddingDay a_t_people_woman a_t_tape_bytes a_t_wheel_child a_t_wheel_father a_t_wheel_husband a_t_wheel_wife s_p0_wordCount s_t_wordCount s_p0_law_count s_p0_people_count s_p0_people_seenTo s_p0_people_tellings s_p0_people_today s_p0_people_weddings s_p0_tape_fault s_p0_tape_length s_p0_tape_place s_p0_wheel_size r_p0_words s_t_law_count s_t_people_count s_t_people_seenTo s_t_people_tellings s_t_people_today s_t_people_weddings s_t_tape_fault s_t_tape_length s_t_tape_place s_t_wheel_size r_t_words r_p0_law_first r_p0_law_second r_p0_law_sort r_p0_people_father r_p0_people_man r_p0_people_mother r_p0_people_parentsDay r_p0_people_sex r_p0_people_teller r_p0_people_tellingDay r_p0_people_tellingKind r_p0_people_weddingDay r_p0_people_woman r_p0_tape_bytes r_p0_wheel_child r_p0_wheel_father r_p0_wheel_husband r_p0_wheel_wife r_t_law_first r_t_law_second r_t_law_sort r_t_people_father r_t_people_man r_t_people_mother r_t_people_parentsDay r_t_people_sex r_t_people_teller r_t_people_tellingDay r_t_people_tellingKind r_t_people_weddingDay r_t_people_woman r_t_tape_bytes r_t_wheel_child r_t_wheel_father r_t_wheel_husband r_t_wheel_wife) H) (hD : va_D A (w_X6_copyFrom cI cB cZ a_p0 a_t a_p0_law a_p0_people a_p0_tape a_p0_wheel a_p0_words a_t_law a_t_people a_t_tape a_t_wheel a_t_words a_p0_law_first a_p0_law_second a_p0_law_sort a_p0_people_father a_p0_people_man a_p0_people_mother a_p0_people_parentsDay a_p0_people_sex a_p0_people_teller a_p0_people_tellingDay a_p0_people_tellingKind a_p0_people_weddingDay a_p0_people_woman a_p0_tape_bytes a_p0_wheel_child a_p0_wheel_father a_p0_wheel_husband a_p0_wheel_wife a_t_law_first a_t_law_second a_t_law_sort a_t_people_father a_t_people_man a_t_people_mother a_t_people_parentsDay a_t_people_sex a_t_people_teller a_t_people_tellingDay a_t_people_tellingKind a_t_people_weddingDay a_t_people_woman a_t_tape_bytes a_t_wheel_child a_t_wheel_father a_t_wheel_husband a_t_wheel_wife s_p0_wordCount s_t_wordCount s_p0_law_count s_p0_people_count s_p0_people_seenTo s_p0_people_tellings s_p0_people_today s_p0_people_weddings s_p0_tape_fault s_p0_tape_length s_p0_tape_place s_p0_wheel_size r_p0_words s_t_law_count s_t_people_count s_t_people_seenTo s_t_people_tellings s_t_people_today s_t_people_weddings s_t_tape_fault s_t_tape_length s_t_tape_place s_t_wheel_size r_t_words r_p0_law_first r_p0_law_second r_p0_law_sort r_p0_people_father r_p0_people_man r_p0_people_mother r_p0_people_parentsDay r_p0_people_sex r_p0_people_teller r_p0_people_tellingDay r_p0_people_tellingKind r_p0_people_weddingDay r_p0_people_woman r_p0_tape_bytes r_p0_wheel_child r_p0_wheel_father r_p0_wheel_husband r_p0_wheel_wife r_t_law_first r_t_law_second r_t_law_sort r_t_people_father r_t_people_man r_t_people_mother r_t_people_parentsDay r_t_people_sex r_t_people_teller r_t_people_tellingDay r_t_people_tellingKind r_t_people_weddingDay r_t_people_woman r_t_tape_bytes r_t_wheel_child r_t_wheel_father r_t_wheel_husband r_t_wheel_wife)) (hS : va_S A s.heap H locs) (hl : lv_has ls 2 [(0, .ref a_t), (1, .ref a_p0)]) : W p l e rX6_copyFrom s m args below meth c H locs 0 0 Q (F0 m 0 ls []) := by
  obtain ⟨⟨hx, hb, hml, hown, hts⟩, hK, hN, hA⟩ := C
  have C : jCx p s m args c cX6_copyFrom 2 gX6_copyFrom RX6 G D (jT cI cB cZ) A := ⟨⟨hx, hb, hml, hown, hts⟩, hK, hN, hA⟩
  unfold f_X6_copyFrom at hf
  refine lv_aload_n hx hb dX6_copyFrom_0 rfl (lv_at hl 0 rfl) ?_
  refine va_get (D := D) (ci := 5) (v := .ref a_t_tape) (C := RX6) (T := TX6) (N := 6) hx hb hts iw_X6 hown hK hP 1 rfl rfl 0 (by decide) (hts _ (wG_in k_fl_X6_12 rfl)) (fun _ h9 => h9) rfl dX6_copyFrom_1 ?_
  refine lv_aload_n hx hb dX6_copyFrom_4 rfl (lv_at hl 1 rfl) ?_
  refine va_get (D := D) (ci := 5) (v := .ref a_p0_tape) (C := RX6) (T := TX6) (N := 6) hx hb hts iw_X6 hown hK hP 0 rfl rfl 0 (by decide) (hts _ (wG_in k_fl_X6_12 rfl)) (fun _ h9 => h9) rfl dX6_copyFrom_5 ?_
  obtain ⟨r1, hgr1, hf⟩ := jM_some hf
  refine jcV_v (As := [.ref a_p0_tape]) (rest := []) ⟨hx, hb, hml, hown, hts⟩ hK hN hA (c_X7_copyFrom l G D cI cB cZ a_p0_tape a_t_tape a_p0_tape_bytes a_t_tape_bytes s_p0_tape_fault s_p0_tape_length s_p0_tape_place r_p0_tape_bytes s_t_tape_fault s_t_tape_length s_t_tape_place r_t_tape_bytes hgr1) (cwV 1 hts (wG_V k_ml_X6_43 k_im_X7_copyFrom k_se_X7_copyFrom k_in_X7 k_co_X7_copyFrom) rfl rfl rfl hd_X7_copyFrom ⟨Nat.le_of_ble_eq_true rfl, Nat.le_of_ble_eq_true rfl⟩) hP hD hS (w_X6_copyFrom cI cB cZ a_p0 a_t a_p0_law a_p0_people a_p0_tape a_p0_wheel a_p0_words a_t_law a_t_people a_t_tape a_t_wheel a_t_words a_p0_law_first a_p0_law_second a_p0_law_sort a_p0_people_father a_p0_people_man a_p0_people_mother a_p0_people_parentsDay a_p0_people_sex a_p0_people_teller a_p0_people_tellingDay a_p0_people_tellingKind a_p0_people_weddingDay a_p0_people_woman a_p0_tape_bytes a_p0_wheel_child a_p0_wheel_father a_p0_wheel_husband a_p0_wheel_wife a_t_law_first a_t_law_second a_t_law_sort a_t_people_father a_t_people_man a_t_people_mother a_t_people_parentsDay a_t_people_sex a_t_people_teller a_t_people_tellingDay a_t_people_tellingKind a_t_people_weddingDay a_t_people_woman a_t_tape_bytes a_t_wheel_child a_t_wheel_father a_t_wheel_husband a_t_wheel_wife s_p0_wordCount s_t_wordCount s_p0_law_count s_p0_people_count s_p0_people_seenTo s_p0_people_tellings s_p0_people_today s_p0_people_weddings s_p0_tape_fault s_p0_tape_length s_p0_tape_place s_p0_wheel_size r_p0_words s_t_law_count s_t_people_count s_t_people_seenTo s_t_people_tellings s_t_people_today s_t_people_weddings r1.1 r1.2.1 r1.2.2.1 s_t_wheel_size r_t_words r_p0_law_first r_p0_law_second r_p0_law_sort r_p0_people_father r_p0_people_man r_p0_people_mother r_p0_people_parentsDay r_p0_people_sex r_p0_people_teller r_p0_people_tellingDay r_p0_people_tellingKind r_p0_people_weddingDay r_p0_people_woman r_p0_tape_bytes r_p0_wheel_child r_p0_wheel_father r_p0_wheel_husband r_p0_wheel_wife r_t_law_first r_t_law_second r_t_law_sort r_t_people_father r_t_people_man r_t_people_mother r_t_people_parentsDay r_t_people_sex r_t_people_teller r_t_people_tellingDay r_t_people_tellingKind r_t_people_weddingDay r_t_people_woman r1.2.2.2 r_t_wheel_child r_t_wheel_father r_t_wheel_husband r_t_wheel_wife) [4, 9, 25, 43] [0, 1, 2, 3, 5, 6, 7, 8, 10, 11, 12, 13, 14, 15, 16, 17, 18, 19, 20, 21, 22, 23, 24, 26, 27, 28, 29, 30, 31, 32, 33, 34, 35, 36, 37, 38, 39, 40, 41, 42, 44, 45, 46, 47] rfl rfl rfl (N := 48) rfl (by decide +kernel) rfl (by decide +kernel) (by decide +kernel) (ci := 6) rfl 9 rfl rfl rfl hl.1 rfl (Nat.le_of_ble_eq_true rfl) dX6_copyFrom_8 ⟨Nat.le_of_ble_eq_true rfl, Nat.le_of_ble_eq_true rfl⟩ (fun H locs hP hD hS => ?_)
  refine lv_aload_n hx hb dX6_copyFrom_11 rfl (lv_at hl 0 rfl) ?_
  refine va_get (D := D) (ci := 5) (v := .ref a_t_wheel) (C := RX6) (T := TX6) (N := 6) hx hb hts iw_X6 hown hK hP 1 rfl rfl 1 (by decide) (hts _ (wG_in k_fl_X6_21 rfl)) (fun _ h9 => h9) rfl dX6_copyFrom_12 ?_
  refine lv_aload_n hx hb dX6_copyFrom_15 rfl (lv_at hl 1 rfl) ?_
  refine va_get (D := D) (ci := 5) (v := .ref a_p0_wheel) (C := RX6) (T := TX6) (N := 6) hx hb hts iw_X6 hown hK hP 0 rfl rfl 1 (by decide) (hts _ (wG_in k_fl_X6_21 rfl)) (fun _ h9 => h9) rfl dX6_copyFrom_16 ?_
  obtain ⟨r2, hgr2, hf⟩ := jM_some hf
  refine jcV_v (As := [.ref a_p0_wheel]) (rest := []) ⟨hx, hb, hml, hown, hts⟩ hK hN hA (c_X10_copyFrom l G D cI cB cZ a_p0_wheel a_t_wheel a_p0_wheel_child a_p0_wheel_father a_p0_wheel_husband a_p0_wheel_wife a_t_wheel_child a_t_wheel_father a_t_wheel_husband a_t_wheel_wife s_p0_wheel_size r_p0_wheel_child r_p0_wheel_father r_p0_wheel_husband r_p0_wheel_wife s_t_wheel_size r_t_wheel_child r_t_wheel_father r_t_wheel_husband r_t_wheel_wife hgr2) (cwV 1 hts (wG_V k_ml_X6_47 k_im_X10_copyFrom k_se_X10_copyFrom k_in_X10 k_co_X10_copyFrom) rfl rfl rfl hd_X10_copyFrom ⟨Nat.le_of_ble_eq_true rfl, Nat.le_of_ble_eq_true rfl⟩) hP hD hS (w_X6_copyFrom cI cB cZ a_p0 a_t a_p0_law a_p0_people a_p0_tape a_p0_wheel a_p0_words a_t_law a_t_people a_t_tape a_t_wheel a_t_words a_p0_law_first a_p0_law_second a_p0_law_sort a_p0_people_father a_p0_people_man a_p0_people_mother a_p0_people_parentsDay a_p0_people_sex a_p0_people_teller a_p0_people_tellingDay a_p0_people_tellingKind a_p0_people_weddingDay a_p0_people_woman a_p0_tape_bytes a_p0_wheel_child a_p0_wheel_father a_p0_wheel_husband a_p0_wheel_wife a_t_law_first a_t_law_second a_t_law_sort a_t_people_father a_t_people_man a_t_people_mother a_t_people_parentsDay a_t_people_sex a_t_people_teller a_t_people_tellingDay a_t_people_tellingKind a_t_people_weddingDay a_t_people_woman a_t_tape_bytes a_t_wheel_child a_t_wheel_father a_t_wheel_husband a_t_wheel_wife s_p0_wordCount s_t_wordCount s_p0_law_count s_p0_people_count s_p0_people_seenTo s_p0_people_tellings s_p0_people_today s_p0_people_weddings s_p0_tape_fault s_p0_tape_length s_p0_tape_place s_p0_wheel_size r_p0_words s_t_law_count s_t_people_count s_t_people_seenTo s_t_people_tellings s_t_people_today s_t_people_weddings r1.1 r1.2.1 r1.2.2.1 r2.1 r_t_words r_p0_law_first r_p0_law_second r_p0_law_sort r_p0_people_father r_p0_people_man r_p0_people_mother r_p0_people_parentsDay r_p0_people_sex r_p0_people_teller r_p0_people_tellingDay r_p0_people_tellingKind r_p0_people_weddingDay r_p0_people_woman r_p0_tape_bytes r_p0_wheel_child r_p0_wheel_father r_p0_wheel_husband r_p0_wheel_wife r_t_law_first r_t_law_second r_t_law_sort r_t_people_father r_t_people_man r_t_people_mother r_t_people_parentsDay r_t_people_sex r_t_people_teller r_t_people_tellingDay r_t_people_tellingKind r_t_people_weddingDay r_t_people_woman r1.2.2.2 r2.2.1 r2.2.2.1 r2.2.2.2.1 r2.2.2.2.2) [5, 10, 26, 27, 28, 29, 44, 45, 46, 47] [0, 1, 2, 3, 4, 6, 7, 8, 9, 11, 12, 13, 14, 15, 16, 17, 18, 19, 20, 21, 22, 23, 24, 25, 30, 31, 32, 33, 34, 35, 36, 37, 38, 39, 40, 41, 42, 43] rfl rfl rfl (N := 48) rfl (by decide +kernel) rfl (by decide +kernel) (by decide +kernel) (ci := 9) rfl 10 rfl rfl rfl hl.1 rfl (Nat.le_of_ble_eq_true rfl) dX6_copyFrom_19 ⟨Nat.le_of_ble_eq_true rfl, Nat.le_of_ble_eq_true rfl⟩ (fun H locs hP hD hS => ?_)
  refine lv_aload_n hx hb dX6_copyFrom_22 rfl (lv_at hl 0 rfl) ?_
  refine va_get (D := D) (ci := 5) (v := .ref a_t_law) (C := RX6) (T := TX6) (N := 6) hx hb hts iw_X6 hown hK hP 1 rfl rfl 2 (by decide) (hts _ (wG_in k_fl_X6_28 rfl)) (fun _ h9 => h9) rfl dX6_copyFrom_23 ?_
  refine lv_aload_n hx hb dX6_copyFrom_26 rfl (lv_at hl 1 rfl) ?_
  refine va_get (D := D) (ci := 5) (v := .ref a_p0_law) (C := RX6) (T := TX6) (N := 6) hx hb hts iw_X6 hown hK hP 0 rfl rfl 2 (by decide) (hts _ (wG_in k_fl_X6_28 rfl)) (fun _ h9 => h9) rfl dX6_copyFrom_27 ?_
  obtain ⟨r3, hgr3, hf⟩ := jM_some hf
  refine jcV_v (As := [.ref a_p0_law]) (rest := []) ⟨hx, hb, hml, hown, hts⟩ hK hN hA (c_X3_copyFrom l G D cI cB cZ a_p0_law a_t_law a_p0_law_first a_p0_law_second a_p0_law_sort a_t_law_first a_t_law_second a_t_law_sort s_p0_law_count r_p0_law_first r_p0_law_second r_p0_law_sort s_t_law_count r_t_law_first r_t_law_second r_t_law_sort hgr3) (cwV 1 hts (wG_V k_ml_X6_50 k_im_X3_copyFrom k_se_X3_copyFrom k_in_X3 k_co_X3_copyFrom) rfl rfl rfl hd_X3_copyFrom ⟨Nat.le_of_ble_eq_true rfl, Nat.le_of_ble_eq_true rfl⟩) hP hD hS (w_X6_copyFrom cI cB cZ a_p0 a_t a_p0_law a_p0_people a_p0_tape a_p0_wheel a_p0_words a_t_law a_t_people a_t_tape a_t_wheel a_t_words a_p0_law_first a_p0_law_second a_p0_law_sort a_p0_people_father a_p0_people_man a_p0_people_mother a_p0_people_parentsDay a_p0_people_sex a_p0_people_teller a_p0_people_tellingDay a_p0_people_tellingKind a_p0_people_weddingDay a_p0_people_woman a_p0_tape_bytes a_p0_wheel_child a_p0_wheel_father a_p0_wheel_husband a_p0_wheel_wife a_t_law_first a_t_law_second a_t_law_sort a_t_people_father a_t_people_man a_t_people_mother a_t_people_parentsDay a_t_people_sex a_t_people_teller a_t_people_tellingDay a_t_people_tellingKind a_t_people_weddingDay a_t_people_woman a_t_tape_bytes a_t_wheel_child a_t_wheel_father a_t_wheel_husband a_t_wheel_wife s_p0_wordCount s_t_wordCount s_p0_law_count s_p0_people_count s_p0_people_seenTo s_p0_people_tellings s_p0_people_today s_p0_people_weddings s_p0_tape_fault s_p0_tape_length s_p0_tape_place s_p0_wheel_size r_p0_words r3.1 s_t_people_count s_t_people_seenTo s_t_people_tellings s_t_people_today s_t_people_weddings r1.1 r1.2.1 r1.2.2.1 r2.1 r_t_words r_p0_law_first r_p0_law_second r_p0_law_sort r_p0_people_father r_p0_people_man r_p0_people_mother r_p0_people_parentsDay r_p0_people_sex r_p0_people_teller r_p0_people_tellingDay r_p0_people_tellingKind r_p0_people_weddingDay r_p0_people_woman r_p0_tape_bytes r_p0_wheel_child r_p0_wheel_father r_p0_wheel_husband r_p0_wheel_wife r3.2.1 r3.2.2.1 r3.2.2.2 r_t_people_father r_t_people_man r_t_people_mother r_t_people_parentsDay r_t_people_sex r_t_people_teller r_t_people_tellingDay r_t_people_tellingKind r_t_people_weddingDay r_t_people_woman r1.2.2.2 r2.2.1 r2.2.2.1 r2.2.2.2.1 r2.2.2.2.2) [2, 7, 12, 13, 14, 30, 31, 32] [0, 1, 3, 4, 5, 6, 8, 9, 10, 11, 15, 16, 17, 18, 19, 20, 21, 22, 23, 24, 25, 26, 27, 28, 29, 33, 34, 35, 36, 37, 38, 39, 40, 41, 42, 43, 44, 45, 46, 47] rfl rfl rfl (N := 48) rfl (by decide +kernel) rfl (by decide +kernel) (by decide +kernel) (ci := 2) rfl 7 rfl rfl rfl hl.1 rfl (Nat.le_of_ble_eq_true rfl) dX6_copyFrom_30 ⟨Nat.le_of_ble_eq_true rfl, Nat.le_of_ble_eq_true rfl⟩ (fun H locs hP hD hS => ?_)
  refine lv_aload_n hx hb dX6_copyFrom_33 rfl (lv_at hl 0 rfl) ?_
  refine va_get (D := D) (ci := 5) (v := .ref a_t_people) (C := RX6) (T := TX6) (N := 6) hx hb hts iw_X6 hown hK hP 1 rfl rfl 3 (by decide) (hts _ (wG_in k_fl_X6_35 rfl)) (fun _ h9 => h9) rfl dX6_copyFrom_34 ?_
  refine lv_aload_n hx hb dX6_copyFrom_37 rfl (lv_at hl 1 rfl) ?_
  refine va_get (D := D) (ci := 5) (v := .ref a_p0_people) (C := RX6) (T := TX6) (N := 6) hx hb hts iw_X6 hown hK hP 0 rfl rfl 3 (by decide) (hts _ (wG_in k_fl_X6_35 rfl)) (fun _ h9 => h9) rfl dX6_copyFrom_38 ?_
  obtain ⟨r4, hgr4, hf⟩ := jM_some hf
  refine jcV_v (As := [.ref a_p0_people]) (rest := []) ⟨hx, hb, hml, hown, hts⟩ hK hN hA (c_X4_copyFrom l G D cI cB cZ a_p0_people a_t_people a_p0_people_father a_p0_people_man a_p0_people_mother a_p0_people_parentsDay a_p0_people_sex a_p0_people_teller a_p0_people_tellingDay a_p0_people_tellingKind a_p0_people_weddingDay a_p0_people_woman a_t_people_father a_t_people_man a_t_people_mother a_t_people_parentsDay a_t_people_sex a_t_people_teller a_t_people_tellingDay a_t_people_tellingKind a_t_people_weddingDay a_t_people_woman s_p0_people_count s_p0_people_seenTo s_p0_people_tellings s_p0_people_today s_p0_people_weddings r_p0_people_father r_p0_people_man r_p0_people_mother r_p0_people_parentsDay r_p0_people_sex r_p0_people_teller r_p0_people_tellingDay r_p0_people_tellingKind r_p0_people_weddingDay r_p0_people_woman s_t_people_count s_t_people_seenTo s_t_people_tellings s_t_people_today s_t_people_weddings r_t_people_father r_t_people_man r_t_people_mother r_t_people_parentsDay r_t_people_sex r_t_people_teller r_t_people_tellingDay r_t_people_tellingKind r_t_people_weddingDay r_t_people_woman hgr4) (cwV 1 hts (wG_V k_ml_X6_53 k_im_X4_copyFrom k_se_X4_copyFrom k_in_X4 k_co_X4_copyFrom) rfl rfl rfl hd_X4_copyFrom ⟨Nat.le_of_ble_eq_true rfl, Nat.le_of_ble_eq_true rfl⟩) hP hD hS (w_X6_copyFrom cI cB cZ a_p0 a_t a_p0_law a_p0_people a_p0_tape a_p0_wheel a_p0_words a_t_law a_t_people a_t_tape a_t_wheel a_t_words a_p0_law_first a_p0_law_second a_p0_law_sort a_p0_people_father a_p0_people_man a_p0_people_mother a_p0_people_parentsDay a_p0_people_sex a_p0_people_teller a_p0_people_tellingDay a_p0_people_tellingKind a_p0_people_weddingDay a_p0_people_woman a_p0_tape_bytes a_p0_wheel_child a_p0_wheel_father a_p0_wheel_husband a_p0_wheel_wife a_t_law_first a_t_law_second a_t_law_sort a_t_people_father a_t_people_man a_t_people_mother a_t_people_parentsDay a_t_people_sex a_t_people_teller a_t_people_tellingDay a_t_people_tellingKind a_t_people_weddingDay a_t_people_woman a_t_tape_bytes a_t_wheel_child a_t_wheel_father a_t_wheel_husband a_t_wheel_wife s_p0_wordCount s_t_wordCount s_p0_law_count s_p0_people_count s_p0_people_seenTo s_p0_people_tellings s_p0_people_today s_p0_people_weddings s_p0_tape_fault s_p0_tape_length s_p0_tape_place s_p0_wheel_size r_p0_words r3.1 r4.1 r4.2.1 r4.2.2.1 r4.2.2.2.1 r4.2.2.2.2.1 r1.1 r1.2.1 r1.2.2.1 r2.1 r_t_words r_p0_law_first r_p0_law_second r_p0_law_sort r_p0_people_father r_p0_people_man r_p0_people_mother r_p0_people_parentsDay r_p0_people_sex r_p0_people_teller r_p0_people_tellingDay r_p0_people_tellingKind r_p0_people_weddingDay r_p0_people_woman r_p0_tape_bytes r_p0_wheel_child r_p0_wheel_father r_p0_wheel_husband r_p0_wheel_wife r3.2.1 r3.2.2.1 r3.2.2.2 r4.2.2.2.2.2.1 r4.2.2.2.2.2.2.1 r4.2.2.2.2.2.2.2.1 r4.2.2.2.2.2.2.2.2.1 r4.2.2.2.2.2.2.2.2.2.1 r4.2.2.2.2.2.2.2.2.2.2.1 r4.2.2.2.2.2.2.2.2.2.2.2.1 r4.2.2.2.2.2.2.2.2.2.2.2.2.1 r4.2.2.2.2.2.2.2.2.2.2.2.2.2.1 r4.2.2.2.2.2.2.2.2.2.2.2.2.2.2 r1.2.2.2 r2.2.1 r2.2.2.1 r2.2.2.2.1 r2.2.2.2.2) [3, 8, 15, 16, 17, 18, 19, 20, 21, 22, 23, 24, 33, 34, 35, 36, 37, 38, 39, 40, 41, 42] [0, 1, 2, 4, 5, 6, 7, 9, 10, 11, 12, 13, 14, 25, 26, 27, 28, 29, 30, 31, 32, 43, 44, 45, 46, 47] rfl rfl rfl (N := 48) rfl (by decide +kernel) rfl (by decide +kernel) (by decide +kernel) (ci := 3) rfl 8 rfl rfl rfl hl.1 rfl (Nat.le_of_ble_eq_true rfl) dX6_copyFrom_41 ⟨Nat.le_of_ble_eq_true rfl, Nat.le_of_ble_eq_true rfl⟩ (fun H locs hP hD hS => ?_)
  refine lv_aload_n hx hb dX6_copyFrom_44 rfl (lv_at hl 1 rfl) ?_
  refine va_get (D := D) (ci := 5) (v := .ref a_p0_words) (C := RX6) (T := TX6) (N := 6) hx hb hts iw_X6 hown hK hP 0 rfl rfl 4 (by decide) (hts _ (wG_in k_fl_X6_39 rfl)) (fun _ h9 => h9) rfl dX6_copyFrom_45 ?_
  refine lv_iconst (v := (0 : Int32)) hx hb dX6_copyFrom_48 (by decide) ?_
  refine lv_aload_n hx hb dX6_copyFrom_49 rfl (lv_at hl 0 rfl) ?_
  refine va_get (D := D) (ci := 5) (v := .ref a_t_words) (C := RX6) (T := TX6) (N := 6) hx hb hts iw_X6 hown hK hP 1 rfl rfl 4 (by decide) (hts _ (wG_in k_fl_X6_39 rfl)) (fun _ h9 => h9) rfl dX6_copyFrom_50 ?_
  refine lv_iconst (v := (0 : Int32)) hx hb dX6_copyFrom_53 (by decide) ?_
  refine lv_bipush (v := (8 : Int32)) hx hb dX6_copyFrom_54 (by decide) ?_
  obtain ⟨q5, hq5, iq5, hf⟩ := jY_some hf
  refine ja_copy (P := r_p0_words) (P2 := r_t_words) (P' := q5) (ty := .int) hx hb (hml.trans hl.1.symm) hown (hts _ (wG_in k_ml_X6_56 rfl)) (hts _ (wG_in k_nat_ac rfl)) (hts _ (wG_in k_st_ac rfl)) (hts _ (wG_in k_in_sys rfl)) hK hP hD hS 6 11 0 rfl rfl rfl rfl hq5 iq5 (Nat.le_of_ble_eq_true rfl) (Nat.le_of_ble_eq_true rfl) dX6_copyFrom_56 (fun H locs hP hD hS => ?_)
  have hP : va_P D vwCl (w_X6_copyFrom cI cB cZ a_p0 a_t a_p0_law a_p0_people a_p0_tape a_p0_wheel a_p0_words a_t_law a_t_people a_t_tape a_t_wheel a_t_words a_p0_law_first a_p0_law_second a_p0_law_sort a_p0_people_father a_p0_people_man a_p0_people_mother a_p0_people_parentsDay a_p0_people_sex a_p0_people_teller a_p0_people_tellingDay a_p0_people_tellingKind a_p0_people_weddingDay a_p0_people_woman a_p0_tape_bytes a_p0_wheel_child a_p0_wheel_father a_p0_wheel_husband a_p0_wheel_wife a_t_law_first a_t_law_second a_t_law_sort a_t_people_father a_t_people_man a_t_people_mother a_t_people_parentsDay a_t_people_sex a_t_people_teller a_t_people_tellingDay a_t_people_tellingKind a_t_people_weddingDay a_t_people_woman a_t_tape_bytes a_t_wheel_child a_t_wheel_father a_t_wheel_husband a_t_wheel_wife s_p0_wordCount s_t_wordCount s_p0_law_count s_p0_people_count s_p0_people_seenTo s_p0_people_tellings s_p0_people_today s_p0_people_weddings s_p0_tape_fault s_p0_tape_length s_p0_tape_place s_p0_wheel_size r_p0_words r3.1 r4.1 r4.2.1 r4.2.2.1 r4.2.2.2.1 r4.2.2.2.2.1 r1.1 r1.2.1 r1.2.2.1 r2.1 q5 r_p0_law_first r_p0_law_second r_p0_law_sort r_p0_people_father r_p0_people_man r_p0_people_mother r_p0_people_parentsDay r_p0_people_sex r_p0_people_teller r_p0_people_tellingDay r_p0_people_tellingKind r_p0_people_weddingDay r_p0_people_woman r_p0_tape_bytes r_p0_wheel_child r_p0_wheel_father r_p0_wheel_husband r_p0_wheel_wife r3.2.1 r3.2.2.1 r3.2.2.2 r4.2.2.2.2.2.1 r4.2.2.2.2.2.2.1 r4.2.2.2.2.2.2.2.1 r4.2.2.2.2.2.2.2.2.1 r4.2.2.2.2.2.2.2.2.2.1 r4.2.2.2.2.2.2.2.2.2.2.1 r4.2.2.2.2.2.2.2.2.2.2.2.1 r4.2.2.2.2.2.2.2.2.2.2.2.2.1 r4.2.2.2.2.2.2.2.2.2.2.2.2.2.1 r4.2.2.2.2.2.2.2.2.2.2.2.2.2.2 r1.2.2.2 r2.2.1 r2.2.2.1 r2.2.2.2.1 r2.2.2.2.2) H := hP
  have hD : va_D A (w_X6_copyFrom cI cB cZ a_p0 a_t a_p0_law a_p0_people a_p0_tape a_p0_wheel a_p0_words a_t_law a_t_people a_t_tape a_t_wheel a_t_words a_p0_law_first a_p0_law_second a_p0_law_sort a_p0_people_father a_p0_people_man a_p0_people_mother a_p0_people_parentsDay a_p0_people_sex a_p0_people_teller a_p0_people_tellingDay a_p0_people_tellingKind a_p0_people_weddingDay a_p0_people_woman a_p0_tape_bytes a_p0_wheel_child a_p0_wheel_father a_p0_wheel_husband a_p0_wheel_wife a_t_law_first a_t_law_second a_t_law_sort a_t_people_father a_t_people_man a_t_people_mother a_t_people_parentsDay a_t_people_sex a_t_people_teller a_t_people_tellingDay a_t_people_tellingKind a_t_people_weddingDay a_t_people_woman a_t_tape_bytes a_t_wheel_child a_t_wheel_father a_t_wheel_husband a_t_wheel_wife s_p0_wordCount s_t_wordCount s_p0_law_count s_p0_people_count s_p0_people_seenTo s_p0_people_tellings s_p0_people_today s_p0_people_weddings s_p0_tape_fault s_p0_tape_length s_p0_tape_place s_p0_wheel_size r_p0_words r3.1 r4.1 r4.2.1 r4.2.2.1 r4.2.2.2.1 r4.2.2.2.2.1 r1.1 r1.2.1 r1.2.2.1 r2.1 q5 r_p0_law_first r_p0_law_second r_p0_law_sort r_p0_people_father r_p0_people_man r_p0_people_mother r_p0_people_parentsDay r_p0_people_sex r_p0_people_teller r_p0_people_tellingDay r_p0_people_tellingKind r_p0_people_weddingDay r_p0_people_woman r_p0_tape_bytes r_p0_wheel_child r_p0_wheel_father r_p0_wheel_husband r_p0_wheel_wife r3.2.1 r3.2.2.1 r3.2.2.2 r4.2.2.2.2.2.1 r4.2.2.2.2.2.2.1 r4.2.2.2.2.2.2.2.1 r4.2.2.2.2.2.2.2.2.1 r4.2.2.2.2.2.2.2.2.2.1 r4.2.2.2.2.2.2.2.2.2.2.1 r4.2.2.2.2.2.2.2.2.2.2.2.1 r4.2.2.2.2.2.2.2.2.2.2.2.2.1 r4.2.2.2.2.2.2.2.2.2.2.2.2.2.1 r4.2.2.2.2.2.2.2.2.2.2.2.2.2.2 r1.2.2.2 r2.2.1 r2.2.2.1 r2.2.2.2.1 r2.2.2.2.2) := hD
  refine lv_aload_n hx hb dX6_copyFrom_59 rfl (lv_at hl 0 rfl) ?_
  refine lv_aload_n hx hb dX6_copyFrom_60 rfl (lv_at hl 1 rfl) ?_
  refine va_get (D := D) (ci := 5) (v := .int s_p0_wordCount) (C := RX6) (T := TX6) (N := 6) hx hb hts iw_X6 hown hK hP 0 rfl rfl 5 (by decide) (hts _ (wG_in k_fl_X6_62 rfl)) (fun _ h9 => h9) rfl dX6_copyFrom_61 ?_
  refine va_put (D := D) (ci := 5) (v := .int s_p0_wordCount) (ty := .int) (C := RX6) (T := TX6) (N := 6) hx hb hts iw_X6 tyX6 tyX6_ok nmX6 hown hK hP hD hS 1 rfl rfl 5 (by decide) (hts _ (wG_in k_fl_X6_62 rfl)) (fun _ h9 => h9) rfl (tyX6_ok 5 (by decide)) rfl rfl (Nat.le_of_ble_eq_true rfl) dX6_copyFrom_64 (fun H locs hP hD hS => ?_)
  have hP : va_P D vwCl (w_X6_copyFrom cI cB cZ a_p0 a_t a_p0_law a_p0_people a_p0_tape a_p0_wheel a_p0_words a_t_law a_t_people a_t_tape a_t_wheel a_t_words a_p0_law_first a_p0_law_second a_p0_law_sort a_p0_people_father a_p0_people_man a_p0_people_mother a_p0_people_parentsDay a_p0_people_sex a_p0_people_teller a_p0_people_tellingDay a_p0_people_tellingKind a_p0_people_weddingDay a_p0_people_woman a_p0_tape_bytes a_p0_wheel_child a_p0_wheel_father a_p0_wheel_husband a_p0_wheel_wife a_t_law_first a_t_law_second a_t_law_sort a_t_people_father a_t_people_man a_t_people_mother a_t_people_parentsDay a_t_people_sex a_t_people_teller a_t_people_tellingDay a_t_people_tellingKind a_t_people_weddingDay a_t_people_woman a_t_tape_bytes a_t_wheel_child a_t_wheel_father a_t_wheel_husband a_t_wheel_wife s_p0_wordCount s_p0_wordCount s_p0_law_count s_p0_people_count s_p0_people_seenTo s_p0_people_tellings s_p0_people_today s_p0_people_weddings s_p0_tape_fault s_p0_tape_length s_p0_tape_place s_p0_wheel_size r_p0_words r3.1 r4.1 r4.2.1 r4.2.2.1 r4.2.2.2.1 r4.2.2.2.2.1 r1.1 r1.2.1 r1.2.2.1 r2.1 q5 r_p0_law_first r_p0_law_second r_p0_law_sort r_p0_people_father r_p0_people_man r_p0_people_mother r_p0_people_parentsDay r_p0_people_sex r_p0_people_teller r_p0_people_tellingDay r_p0_people_tellingKind r_p0_people_weddingDay r_p0_people_woman r_p0_tape_bytes r_p0_wheel_child r_p0_wheel_father r_p0_wheel_husband r_p0_wheel_wife r3.2.1 r3.2.2.1 r3.2.2.2 r4.2.2.2.2.2.1 r4.2.2.2.2.2.2.1 r4.2.2.2.2.2.2.2.1 r4.2.2.2.2.2.2.2.2.1 r4.2.2.2.2.2.2.2.2.2.1 r4.2.2.2.2.2.2.2.2.2.2.1 r4.2.2.2.2.2.2.2.2.2.2.2.1 r4.2.2.2.2.2.2.2.2.2.2.2.2.1 r4.2.2.2.2.2.2.2.2.2.2.2.2.2.1 r4.2.2.2.2.2.2.2.2.2.2.2.2.2.2 r1.2.2.2 r2.2.1 r2.2.2.1 r2.2.2.2.1 r2.2.2.2.2) H := hP
  have hD : va_D A (w_X6_copyFrom cI cB cZ a_p0 a_t a_p0_law a_p0_people a_p0_tape a_p0_wheel a_p0_words a_t_law a_t_people a_t_tape a_t_wheel a_t_words a_p0_law_first a_p0_law_second a_p0_law_sort a_p0_people_father a_p0_people_man a_p0_people_mother a_p0_people_parentsDay a_p0_people_sex a_p0_people_teller a_p0_people_tellingDay a_p0_people_tellingKind a_p0_people_weddingDay a_p0_people_woman a_p0_tape_bytes a_p0_wheel_child a_p0_wheel_father a_p0_wheel_husband a_p0_wheel_wife a_t_law_first a_t_law_second a_t_law_sort a_t_people_father a_t_people_man a_t_people_mother a_t_people_parentsDay a_t_people_sex a_t_people_teller a_t_people_tellingDay a_t_people_tellingKind a_t_people_weddingDay a_t_people_woman a_t_tape_bytes a_t_wheel_child a_t_wheel_father a_t_wheel_husband a_t_wheel_wife s_p0_wordCount s_p0_wordCount s_p0_law_count s_p0_people_count s_p0_people_seenTo s_p0_people_tellings s_p0_people_today s_p0_people_weddings s_p0_tape_fault s_p0_tape_length s_p0_tape_place s_p0_wheel_size r_p0_words r3.1 r4.1 r4.2.1 r4.2.2.1 r4.2.2.2.1 r4.2.2.2.2.1 r1.1 r1.2.1 r1.2.2.1 r2.1 q5 r_p0_law_first r_p0_law_second r_p0_law_sort r_p0_people_father r_p0_people_man r_p0_people_mother r_p0_people_parentsDay r_p0_people_sex r_p0_people_teller r_p0_people_tellingDay r_p0_people_tellingKind r_p0_people_weddingDay r_p0_people_woman r_p0_tape_bytes r_p0_wheel_child r_p0_wheel_father r_p0_wheel_husband r_p0_wheel_wife r3.2.1 r3.2.2.1 r3.2.2.2 r4.2.2.2.2.2.1 r4.2.2.2.2.2.2.1 r4.2.2.2.2.2.2.2.1 r4.2.2.2.2.2.2.2.2.1 r4.2.2.2.2.2.2.2.2.2.1 r4.2.2.2.2.2.2.2.2.2.2.1 r4.2.2.2.2.2.2.2.2.2.2.2.1 r4.2.2.2.2.2.2.2.2.2.2.2.2.1 r4.2.2.2.2.2.2.2.2.2.2.2.2.2.1 r4.2.2.2.2.2.2.2.2.2.2.2.2.2.2 r1.2.2.2 r2.2.1 r2.2.2.1 r2.2.2.2.1 r2.2.2.2.2) := hD
  have ho := Option.some.inj hf
  subst ho
  exact K _ _ _ _ hP hS dX6_copyFrom_67
set_option maxHeartbeats 4000000 in
set_option maxRecDepth 100000 in
theorem c_X6_copyFrom (l : Launch) (G : jGt) (D : va_G) (cI cB cZ : ClassId) (a_p0 a_t a_p0_law a_p0_people a_p0_tape a_p0_wheel a_p0_words a_t_law a_t_people a_t_tape a_t_wheel a_t_words a_p0_law_first a_p0_law_second a_p0_law_sort a_p0_people_father a_p0_people_man a_p0_people_mother a_p0_people_parentsDay a_p0_people_sex a_p0_people_teller a_p0_people_tellingDay a_p0_people_tellingKind a_p0_people_weddingDay a_p0_people_woman a_p0_tape_bytes a_p0_wheel_child a_p0_wheel_father a_p0_wheel_husband a_p0_wheel_wife a_t_law_first a_t_law_second a_t_law_sort a_t_people_father a_t_people_man a_t_people_mother a_t_people_parentsDay a_t_people_sex a_t_people_teller a_t_people_tellingDay a_t_people_tellingKind a_t_people_weddingDay a_t_people_woman a_t_tape_bytes a_t_wheel_child a_t_wheel_father a_t_wheel_husband a_t_wheel_wife : Nat) (s_p0_wordCount s_p0_law_count s_p0_people_count s_p0_people_seenTo s_p0_people_tellings s_p0_people_today s_p0_people_weddings s_p0_tape_fault s_p0_tape_length s_p0_tape_place s_p0_wheel_size : Int32) (r_p0_words r_p0_law_first r_p0_law_second r_p0_law_sort r_p0_people_father r_p0_people_man r_p0_people_mother r_p0_people_parentsDay r_p0_people_sex r_p0_people_teller r_p0_people_tellingDay r_p0_people_tellingKind r_p0_people_weddingDay r_p0_people_woman r_p0_tape_bytes r_p0_wheel_child r_p0_wheel_father r_p0_wheel_husband r_p0_wheel_wife : jA) (s_t_wordCount s_t_law_count s_t_people_count s_t_people_seenTo s_t_people_tellings s_t_people_today s_t_people_weddings s_t_tape_fault s_t_tape_length s_t_tape_place s_t_wheel_size : Int32) (r_t_words r_t_law_first r_t_law_second r_t_law_sort r_t_people_father r_t_people_man r_t_people_mother r_t_people_parentsDay r_t_people_sex r_t_people_teller r_t_people_tellingDay r_t_people_tellingKind r_t_people_weddingDay r_t_people_woman r_t_tape_bytes r_t_wheel_child r_t_wheel_father r_t_wheel_husband r_t_wheel_wife : jA) {o : Int32 × Int32 × Int32 × Int32 × Int32 × Int32 × Int32 × Int32 × Int32 × Int32 × Int32 × jA × jA × jA × jA × jA × jA × jA × jA × jA × jA × jA × jA × jA × jA × jA × jA × jA × jA × jA} (hf : f_X6_copyFrom s_p0_wordCount s_p0_law_count s_p0_people_count s_p0_people_seenTo s_p0_people_tellings s_p0_people_today s_p0_people_weddings s_p0_tape_fault s_p0_tape_length s_p0_tape_place s_p0_wheel_size r_p0_words r_p0_law_first r_p0_law_second r_p0_law_sort r_p0_people_father r_p0_people_man r_p0_people_mother r_p0_people_parentsDay r_p0_people_sex r_p0_people_teller r_p0_people_tellingDay r_p0_people_tellingKind r_p0_people_weddingDay r_p0_people_woman r_p0_tape_bytes r_p0_wheel_child r_p0_wheel_father r_p0_wheel_husband r_p0_wheel_wife s_t_wordCount s_t_law_count s_t_people_count s_t_people_seenTo s_t_people_tellings s_t_people_today s_t_people_weddings s_t_tape_fault s_t_tape_length s_t_tape_place s_t_wheel_size r_t_words r_t_law_first r_t_law_second r_t_law_sort r_t_people_father r_t_people_man r_t_people_mother r_t_people_parentsDay r_t_people_sex r_t_people_teller r_t_people_tellingDay r_t_people_tellingKind r_t_people_weddingDay r_t_people_woman r_t_tape_bytes r_t_wheel_child r_t_wheel_father r_t_wheel_husband r_t_wheel_wife = some o) : jMv l yX6_copyFrom gX6_copyFrom rX6_copyFrom G D (jT cI cB cZ) [.ref a_t, .ref a_p0] (w_X6_copyFrom cI cB cZ a_p0 a_t a_p0_law a_p0_people a_p0_tape a_p0_wheel a_p0_words a_t_law a_t_people a_t_tape a_t_wheel a_t_words a_p0_law_first a_p0_law_second a_p0_law_sort a_p0_people_father a_p0_people_man a_p0_people_mother a_p0_people_parentsDay a_p0_people_sex a_p0_people_teller a_p0_people_tellingDay a_p0_people_tellingKind a_p0_people_weddingDay a_p0_people_woman a_p0_tape_bytes a_p0_wheel_child a_p0_wheel_father a_p0_wheel_husband a_p0_wheel_wife a_t_law_first a_t_law_second a_t_law_sort a_t_people_father a_t_people_man a_t_people_mother a_t_people_parentsDay a_t_people_sex a_t_people_teller a_t_people_tellingDay a_t_people_tellingKind a_t_people_weddingDay a_t_people_woman a_t_tape_bytes a_t_wheel_child a_t_wheel_father a_t_wheel_husband a_t_wheel_wife s_p0_wordCount s_t_wordCount s_p0_law_count s_p0_people_count s_p0_people_seenTo s_p0_people_tellings s_p0_people_today s_p0_people_weddings s_p0_tape_fault s_p0_tape_length s_p0_tape_place s_p0_wheel_size r_p0_words s_t_law_count s_t_people_count s_t_people_seenTo s_t_people_tellings s_t_people_today s_t_people_weddings s_t_tape_fault s_t_tape_length s_t_tape_place s_t_wheel_size r_t_words r_p0_law_first r_p0_law_second r_p0_law_sort r_p0_people_father r_p0_people_man r_p0_people_mother r_p0_people_parentsDay r_p0_people_sex r_p0_people_teller r_p0_people_tellingDay r_p0_people_tellingKind r_p0_people_weddingDay r_p0_people_woman r_p0_tape_bytes r_p0_wheel_child r_p0_wheel_father r_p0_wheel_husband r_p0_wheel_wife r_t_law_first r_t_law_second r_t_law_sort r_t_people_father r_t_people_man r_t_people_mother r_t_people_parentsDay r_t_people_sex r_t_people_teller r_t_people_tellingDay r_t_people_tellingKind r_t_people_weddingDay r_t_people_woman r_t_tape_bytes r_t_wheel_child r_t_wheel_father r_t_wheel_husband r_t_wheel_wife) (w_X6_copyFrom cI cB cZ a_p0 a_t a_p0_law a_p0_people a_p0_tape a_p0_wheel a_p0_words a_t_law a_t_people a_t_tape a_t_wheel a_t_words a_p0_law_first a_p0_law_second a_p0_law_sort a_p0_people_father a_p0_people_man a_p0_people_mother a_p0_people_parentsDay a_p0_people_sex a_p0_people_teller a_p0_people_tellingDay a_p0_people_tellingKind a_p0_people_weddingDay a_p0_people_woman a_p0_tape_bytes a_p0_wheel_child a_p0_wheel_father a_p0_wheel_husband a_p0_wheel_wife a_t_law_first a_t_law_second a_t_law_sort a_t_people_father a_t_people_man a_t_people_mother a_t_people_parentsDay a_t_people_sex a_t_people_teller a_t_people_tellingDay a_t_people_tellingKind a_t_people_weddingDay a_t_people_woman a_t_tape_bytes a_t_wheel_child a_t_wheel_father a_t_wheel_husband a_t_wheel_wife s_p0_wordCount o.1 s_p0_law_count s_p0_people_count s_p0_people_seenTo s_p0_people_tellings s_p0_people_today s_p0_people_weddings s_p0_tape_fault s_p0_tape_length s_p0_tape_place s_p0_wheel_size r_p0_words o.2.1 o.2.2.1 o.2.2.2.1 o.2.2.2.2.1 o.2.2.2.2.2.1 o.2.2.2.2.2.2.1 o.2.2.2.2.2.2.2.1 o.2.2.2.2.2.2.2.2.1 o.2.2.2.2.2.2.2.2.2.1 o.2.2.2.2.2.2.2.2.2.2.1 o.2.2.2.2.2.2.2.2.2.2.2.1 r_p0_law_first r_p0_law_second r_p0_law_sort r_p0_people_father r_p0_people_man r_p0_people_mother r_p0_people_parentsDay r_p0_people_sex r_p0_people_teller r_p0_people_tellingDay r_p0_people_tellingKind r_p0_people_weddingDay r_p0_people_woman r_p0_tape_bytes r_p0_wheel_child r_p0_wheel_father r_p0_wheel_husband r_p0_wheel_wife o.2.2.2.2.2.2.2.2.2.2.2.2.1 o.2.2.2.2.2.2.2.2.2.2.2.2.2.1 o.2.2.2.2.2.2.2.2.2.2.2.2.2.2.1 o.2.2.2.2.2.2.2.2.2.2.2.2.2.2.2.1 o.2.2.2.2.2.2.2.2.2.2.2.2.2.2.2.2.1 o.2.2.2.2.2.2.2.2.2.2.2.2.2.2.2.2.2.1 o.2.2.2.2.2.2.2.2.2.2.2.2.2.2.2.2.2.2.1 o.2.2.2.2.2.2.2.2.2.2.2.2.2.2.2.2.2.2.2.1 o.2.2.2.2.2.2.2.2.2.2.2.2.2.2.2.2.2.2.2.2.1 o.2.2.2.2.2.2.2.2.2.2.2.2.2.2.2.2.2.2.2.2.2.1 o.2.2.2.2.2.2.2.2.2.2.2.2.2.2.2.2.2.2.2.2.2.2.1 o.2.2.2.2.2.2.2.2.2.2.2.2.2.2.2.2.2.2.2.2.2.2.2.1 o.2.2.2.2.2.2.2.2.2.2.2.2.2.2.2.2.2.2.2.2.2.2.2.2.1 o.2.2.2.2.2.2.2.2.2.2.2.2.2.2.2.2.2.2.2.2.2.2.2.2.2.1 o.2.2.2.2.2.2.2.2.2.2.2.2.2.2.2.2.2.2.2.2.2.2.2.2.2.2.1 o.2.2.2.2.2.2.2.2.2.2.2.2.2.2.2.2.2.2.2.2.2.2.2.2.2.2.2.1 o.2.2.2.2.2.2.2.2.2.2.2.2.2.2.2.2.2.2.2.2.2.2.2.2.2.2.2.2.1 o.2.2.2.2.2.2.2.2.2.2.2.2.2.2.2.2.2.2.2.2.2.2.2.2.2.2.2.2.2) := by
  refine jmk_v RX6 rfl (by decide +kernel) rfl (Nat.le_of_ble_eq_true rfl) ?_
  intro p e s m args below meth c ls A Q C hP hD hS hl K
  exact t_X6_copyFrom G D cI cB cZ a_p0 a_t a_p0_law a_p0_people a_p0_tape a_p0_wheel a_p0_words a_t_law a_t_people a_t_tape a_t_wheel a_t_words a_p0_law_first a_p0_law_second a_p0_law_sort a_p0_people_father a_p0_people_man a_p0_people_mother a_p0_people_parentsDay a_p0_people_sex a_p0_people_teller a_p0_people_tellingDay a_p0_people_tellingKind a_p0_people_weddingDay a_p0_people_woman a_p0_tape_bytes a_p0_wheel_child a_p0_wheel_father a_p0_wheel_husband a_p0_wheel_wife a_t_law_first a_t_law_second a_t_law_sort a_t_people_father a_t_people_man a_t_people_mother a_t_people_parentsDay a_t_people_sex a_t_people_teller a_t_people_tellingDay a_t_people_tellingKind a_t_people_weddingDay a_t_people_woman a_t_tape_bytes a_t_wheel_child a_t_wheel_father a_t_wheel_husband a_t_wheel_wife s_p0_wordCount s_p0_law_count s_p0_people_count s_p0_people_seenTo s_p0_people_tellings s_p0_people_today s_p0_people_weddings s_p0_tape_fault s_p0_tape_length s_p0_tape_place s_p0_wheel_size r_p0_words r_p0_law_first r_p0_law_second r_p0_law_sort r_p0_people_father r_p0_people_man r_p0_people_mother r_p0_people_parentsDay r_p0_people_sex r_p0_people_teller r_p0_people_tellingDay r_p0_people_tellingKind r_p0_people_weddingDay r_p0_people_woman r_p0_tape_bytes r_p0_wheel_child r_p0_wheel_father r_p0_wheel_husband r_p0_wheel_wife s_t_wordCount s_t_law_count s_t_people_count s_t_people_seenTo s_t_people_tellings s_t_people_today s_t_people_weddings s_t_tape_fault s_t_tape_length s_t_tape_place s_t_wheel_size r_t_words r_t_law_first r_t_law_second r_t_law_sort r_t_people_father r_t_people_man r_t_people_mother r_t_people_parentsDay r_t_people_sex r_t_people_teller r_t_people_tellingDay r_t_people_tellingKind r_t_people_weddingDay r_t_people_woman r_t_tape_bytes r_t_wheel_child r_t_wheel_father r_t_wheel_husband r_t_wheel_wife C hf K hP hD hS hl

abbrev rX6_addWord : Room := { frames := 0, cells := 0, slots := 0, locals := 0 }
abbrev gX6_addWord : List Cond := wG yX6_addWord cX6_addWord 2 (some .int)
def w_X6_addWord (cI cB cZ : ClassId) (a_t a_t_words : Nat) (u_t_tape u_t_wheel u_t_law u_t_people : Value) (s_t_wordCount : Int32) (r_t_words : jA) : va_W := [(a_t, .inr (5, (oX6 u_t_tape u_t_wheel u_t_law u_t_people (.ref a_t_words) s_t_wordCount))), (a_t_words, .inl (cI, r_t_words.1, .inl r_t_words.2))]
def f_X6_addWord (s_t_wordCount : Int32) (r_t_words : jA) (x1 : Int32) : Option (Int32 × Int32 × jA) :=
  if s_t_wordCount < 0 then
  some ((-1 : Int32), s_t_wordCount, r_t_words)
  else
  if s_t_wordCount < (Int32.ofNat r_t_words.1) then
  jS r_t_words s_t_wordCount x1 fun q3 =>
  jV (s_t_wordCount + (1 : Int32)) fun v4 =>
  some ((v4 - (1 : Int32)), v4, q3)
  else
  some ((-1 : Int32), s_t_wordCount, r_t_words)
set_option maxHeartbeats 4000000 in
set_option maxRecDepth 100000 in
theorem t_X6_addWord {p : Program} {l : Launch} {e : Env} {s : State} {m : MethodId} {args : Array Value} {below : List Frame} {meth : Method} {c : Code} {A : Nat → Prop} {Q : State → Prop} (G : jGt) (D : va_G) (cI cB cZ : ClassId) (a_t a_t_words : Nat) (u_t_tape u_t_wheel u_t_law u_t_people : Value) (s_t_wordCount : Int32) (r_t_words : jA) (x1 : Int32) (C : jCx p s m args c cX6_addWord 2 gX6_addWord RX6 G D (jT cI cB cZ) A) {o : Int32 × Int32 × jA} (hf : f_X6_addWord s_t_wordCount r_t_words x1 = some o) (K : ∀ (H : Heap) (locs : List Loc) (pc : Nat) (ls : Array Slot), va_P D vwCl (w_X6_addWord cI cB cZ a_t a_t_words u_t_tape u_t_wheel u_t_law u_t_people o.2.1 o.2.2) H → va_S A s.heap H locs → decode cX6_addWord pc = .ok (.ireturn, 1) → W p l e rX6_addWord s m args below meth c H locs 0 0 Q (F0 m pc ls [.int o.1])) {H : Heap} {locs : List Loc} {ls : Array Slot} (hP : va_P D vwCl (w_X6_addWord cI cB cZ a_t a_t_words u_t_tape u_t_wheel u_t_law u_t_people s_t_wordCount r_t_words) H) (hD : va_D A (w_X6_addWord cI cB cZ a_t a_t_words u_t_tape u_t_wheel u_t_law u_t_people s_t_wordCount r_t_words)) (hS : va_S A s.heap H locs) (hl : lv_has ls 2 [(0, .ref a_t), (1, .int x1)]) : W p l e rX6_addWord s m args below meth c H locs 0 0 Q (F0 m 0 ls []) := by
  obtain ⟨⟨hx, hb, hml, hown, hts⟩, hK, hN, hA⟩ := C
  have C : jCx p s m args c cX6_addWord 2 gX6_addWord RX6 G D (jT cI cB cZ) A := ⟨⟨hx, hb, hml, hown, hts⟩, hK, hN, hA⟩
  unfold f_X6_addWord at hf
  refine lv_aload_n hx hb dX6_addWord_0 rfl (lv_at hl 0 rfl) ?_
  refine va_get (D := D) (ci := 5) (v := .int s_t_wordCount) (C := RX6) (T := TX6) (N := 6) hx hb hts iw_X6 hown hK hP 0 rfl rfl 5 (by decide) (hts _ (wG_in k_fl_X6_62 rfl)) (fun _ h9 => h9) rfl dX6_addWord_1 ?_
  refine lv_if_lt (tgt := 19) hx hb dX6_addWord_4 (by decide) (fun c1 => ?_) (fun c1 => ?_)
  · replace hf := jif_t c1 hf
    refine lv_iconst (v := (-1 : Int32)) hx hb dX6_addWord_19 (by decide) ?_
    have ho := Option.some.inj hf
    subst ho
    exact K _ _ _ _ hP hS dX6_addWord_20
  · replace hf := jif_f c1 hf
    refine lv_aload_n hx hb dX6_addWord_7 rfl (lv_at hl 0 rfl) ?_
    refine va_get (D := D) (ci := 5) (v := .int s_t_wordCount) (C := RX6) (T := TX6) (N := 6) hx hb hts iw_X6 hown hK hP 0 rfl rfl 5 (by decide) (hts _ (wG_in k_fl_X6_62 rfl)) (fun _ h9 => h9) rfl dX6_addWord_8 ?_
    refine lv_aload_n hx hb dX6_addWord_11 rfl (lv_at hl 0 rfl) ?_
    refine va_get (D := D) (ci := 5) (v := .ref a_t_words) (C := RX6) (T := TX6) (N := 6) hx hb hts iw_X6 hown hK hP 0 rfl rfl 4 (by decide) (hts _ (wG_in k_fl_X6_39 rfl)) (fun _ h9 => h9) rfl dX6_addWord_12 ?_
    refine va_alen (x := (r_t_words.1, .inl r_t_words.2)) hx hb hK hP 1 0 rfl rfl rfl dX6_addWord_15 ?_
    refine lv_icmp_lt (tgt := 21) hx hb dX6_addWord_16 (by decide) (fun c2 => ?_) (fun c2 => ?_)
    · replace hf := jif_t c2 hf
      refine lv_aload_n hx hb dX6_addWord_21 rfl (lv_at hl 0 rfl) ?_
      refine va_get (D := D) (ci := 5) (v := .ref a_t_words) (C := RX6) (T := TX6) (N := 6) hx hb hts iw_X6 hown hK hP 0 rfl rfl 4 (by decide) (hts _ (wG_in k_fl_X6_39 rfl)) (fun _ h9 => h9) rfl dX6_addWord_22 ?_
      refine lv_aload_n hx hb dX6_addWord_25 rfl (lv_at hl 0 rfl) ?_
      refine va_get (D := D) (ci := 5) (v := .int s_t_wordCount) (C := RX6) (T := TX6) (N := 6) hx hb hts iw_X6 hown hK hP 0 rfl rfl 5 (by decide) (hts _ (wG_in k_fl_X6_62 rfl)) (fun _ h9 => h9) rfl dX6_addWord_26 ?_
      refine lv_iload_n hx hb dX6_addWord_29 rfl (lv_at hl 1 rfl) ?_
      obtain ⟨q3, hq3, iq3, hf⟩ := jS_some hf
      refine ja_iast (P := r_t_words) (P' := q3) hx hb hK hP hD hS 1 0 rfl rfl hq3 iq3 dX6_addWord_30 (fun H locs hP hD hS => ?_)
      have hP : va_P D vwCl (w_X6_addWord cI cB cZ a_t a_t_words u_t_tape u_t_wheel u_t_law u_t_people s_t_wordCount q3) H := hP
      have hD : va_D A (w_X6_addWord cI cB cZ a_t a_t_words u_t_tape u_t_wheel u_t_law u_t_people s_t_wordCount q3) := hD
      refine lv_aload_n hx hb dX6_addWord_31 rfl (lv_at hl 0 rfl) ?_
      refine lv_dup hx hb dX6_addWord_32 rfl ?_
      refine va_get (D := D) (ci := 5) (v := .int s_t_wordCount) (C := RX6) (T := TX6) (N := 6) hx hb hts iw_X6 hown hK hP 0 rfl rfl 5 (by decide) (hts _ (wG_in k_fl_X6_62 rfl)) (fun _ h9 => h9) rfl dX6_addWord_33 ?_
      refine lv_iconst (v := (1 : Int32)) hx hb dX6_addWord_36 (by decide) ?_
      refine lv_iadd hx hb dX6_addWord_37 ?_
      obtain ⟨v4, hv4, hf⟩ := jV_some hf
      refine jtop hv4 ?_
      refine va_put (D := D) (ci := 5) (v := .int v4) (ty := .int) (C := RX6) (T := TX6) (N := 6) hx hb hts iw_X6 tyX6 tyX6_ok nmX6 hown hK hP hD hS 0 rfl rfl 5 (by decide) (hts _ (wG_in k_fl_X6_62 rfl)) (fun _ h9 => h9) rfl (tyX6_ok 5 (by decide)) rfl rfl (Nat.le_of_ble_eq_true rfl) dX6_addWord_38 (fun H locs hP hD hS => ?_)
      have hP : va_P D vwCl (w_X6_addWord cI cB cZ a_t a_t_words u_t_tape u_t_wheel u_t_law u_t_people v4 q3) H := hP
      have hD : va_D A (w_X6_addWord cI cB cZ a_t a_t_words u_t_tape u_t_wheel u_t_law u_t_people v4 q3) := hD
      refine lv_aload_n hx hb dX6_addWord_41 rfl (lv_at hl 0 rfl) ?_
      refine va_get (D := D) (ci := 5) (v := .int v4) (C := RX6) (T := TX6) (N := 6) hx hb hts iw_X6 hown hK hP 0 rfl rfl 5 (by decide) (hts _ (wG_in k_fl_X6_62 rfl)) (fun _ h9 => h9) rfl dX6_addWord_42 ?_
      refine lv_iconst (v := (1 : Int32)) hx hb dX6_addWord_45 (by decide) ?_
      refine lv_isub hx hb dX6_addWord_46 ?_
      have ho := Option.some.inj hf
      subst ho
      exact K _ _ _ _ hP hS dX6_addWord_47
    · replace hf := jif_f c2 hf
      refine lv_iconst (v := (-1 : Int32)) hx hb dX6_addWord_19 (by decide) ?_
      have ho := Option.some.inj hf
      subst ho
      exact K _ _ _ _ hP hS dX6_addWord_20
set_option maxHeartbeats 4000000 in
set_option maxRecDepth 100000 in
theorem c_X6_addWord (l : Launch) (G : jGt) (D : va_G) (cI cB cZ : ClassId) (a_t a_t_words : Nat) (u_t_tape u_t_wheel u_t_law u_t_people : Value) (s_t_wordCount : Int32) (r_t_words : jA) (x1 : Int32) {o : Int32 × Int32 × jA} (hf : f_X6_addWord s_t_wordCount r_t_words x1 = some o) : jMi l yX6_addWord gX6_addWord rX6_addWord G D (jT cI cB cZ) [.ref a_t, .int x1] (w_X6_addWord cI cB cZ a_t a_t_words u_t_tape u_t_wheel u_t_law u_t_people s_t_wordCount r_t_words) (w_X6_addWord cI cB cZ a_t a_t_words u_t_tape u_t_wheel u_t_law u_t_people o.2.1 o.2.2) o.1 := by
  refine jmk_i RX6 rfl (by decide +kernel) rfl (Nat.le_of_ble_eq_true rfl) rfl ?_
  intro p e s m args below meth c ls A Q C hP hD hS hl K
  exact t_X6_addWord G D cI cB cZ a_t a_t_words u_t_tape u_t_wheel u_t_law u_t_people s_t_wordCount r_t_words x1 C hf K hP hD hS hl
abbrev rX6_wordAt : Room := { frames := 1, cells := 0, slots := 0, locals := 21 }
abbrev gX6_wordAt : List Cond := wG yX6_wordAt cX6_wordAt 2 (some .int)
def w_X6_wordAt (cI cB cZ : ClassId) (a_t a_t_words : Nat) (u_t_tape u_t_wheel u_t_law u_t_people : Value) (s_t_wordCount : Int32) (r_t_words : jA) : va_W := [(a_t, .inr (5, (oX6 u_t_tape u_t_wheel u_t_law u_t_people (.ref a_t_words) s_t_wordCount))), (a_t_words, .inl (cI, r_t_words.1, .inl r_t_words.2))]
def f_X6_wordAt (s_t_wordCount : Int32) (r_t_words : jA) (x1 : Int32) : Option (Int32) :=
  if s_t_wordCount ≤ x1 then
  some (-1 : Int32)
  else
  jM (f_X11_entry r_t_words x1) fun r2 =>
  some r2
set_option maxHeartbeats 4000000 in
set_option maxRecDepth 100000 in
theorem t_X6_wordAt {p : Program} {l : Launch} {e : Env} {s : State} {m : MethodId} {args : Array Value} {below : List Frame} {meth : Method} {c : Code} {A : Nat → Prop} {Q : State → Prop} (G : jGt) (D : va_G) (cI cB cZ : ClassId) (a_t a_t_words : Nat) (u_t_tape u_t_wheel u_t_law u_t_people : Value) (s_t_wordCount : Int32) (r_t_words : jA) (x1 : Int32) (C : jCx p s m args c cX6_wordAt 2 gX6_wordAt RX6 G D (jT cI cB cZ) A) {o : Int32} (hf : f_X6_wordAt s_t_wordCount r_t_words x1 = some o) (K : ∀ (H : Heap) (locs : List Loc) (pc : Nat) (ls : Array Slot), va_P D vwCl (w_X6_wordAt cI cB cZ a_t a_t_words u_t_tape u_t_wheel u_t_law u_t_people s_t_wordCount r_t_words) H → va_S A s.heap H locs → decode cX6_wordAt pc = .ok (.ireturn, 1) → W p l e rX6_wordAt s m args below meth c H locs 0 0 Q (F0 m pc ls [.int o])) {H : Heap} {locs : List Loc} {ls : Array Slot} (hP : va_P D vwCl (w_X6_wordAt cI cB cZ a_t a_t_words u_t_tape u_t_wheel u_t_law u_t_people s_t_wordCount r_t_words) H) (hD : va_D A (w_X6_wordAt cI cB cZ a_t a_t_words u_t_tape u_t_wheel u_t_law u_t_people s_t_wordCount r_t_words)) (hS : va_S A s.heap H locs) (hl : lv_has ls 2 [(0, .ref a_t), (1, .int x1)]) : W p l e rX6_wordAt s m args below meth c H locs 0 0 Q (F0 m 0 ls []) := by
  obtain ⟨⟨hx, hb, hml, hown, hts⟩, hK, hN, hA⟩ := C
  have C : jCx p s m args c cX6_wordAt 2 gX6_wordAt RX6 G D (jT cI cB cZ) A := ⟨⟨hx, hb, hml, hown, hts⟩, hK, hN, hA⟩
  unfold f_X6_wordAt at hf
  refine lv_iload_n hx hb dX6_wordAt_0 rfl (lv_at hl 1 rfl) ?_
  refine lv_aload_n hx hb dX6_wordAt_1 rfl (lv_at hl 0 rfl) ?_
  refine va_get (D := D) (ci := 5) (v := .int s_t_wordCount) (C := RX6) (T := TX6) (N := 6) hx hb hts iw_X6 hown hK hP 0 rfl rfl 5 (by decide) (hts _ (wG_in k_fl_X6_62 rfl)) (fun _ h9 => h9) rfl dX6_wordAt_2 ?_
  refine lv_icmp_ge (tgt := 19) hx hb dX6_wordAt_5 (by decide) (fun c1 => ?_) (fun c1 => ?_)
  · replace hf := jif_t c1 hf
    refine lv_iconst (v := (-1 : Int32)) hx hb dX6_wordAt_19 (by decide) ?_
    have ho := Option.some.inj hf
    subst ho
    exact K _ _ _ _ hP hS dX6_wordAt_20
  · replace hf := jif_f c1 hf
    refine lv_aload_n hx hb dX6_wordAt_8 rfl (lv_at hl 0 rfl) ?_
    refine va_get (D := D) (ci := 5) (v := .ref a_t_words) (C := RX6) (T := TX6) (N := 6) hx hb hts iw_X6 hown hK hP 0 rfl rfl 4 (by decide) (hts _ (wG_in k_fl_X6_39 rfl)) (fun _ h9 => h9) rfl dX6_wordAt_9 ?_
    refine lv_iload_n hx hb dX6_wordAt_12 rfl (lv_at hl 1 rfl) ?_
    obtain ⟨r2, hgr2, hf⟩ := jM_some hf
    refine jcN_i0 (As := [.ref a_t_words, .int x1]) (rest := []) ⟨hx, hb, hml, hown, hts⟩ hK hN hA (c_X11_entry l G D cI cB cZ a_t_words r_t_words x1 hgr2) ⟨va_cnB 2 hts (wG_good k_co_X11_entry) rfl rfl rfl (jN_l nl_X6_66 hN) (hts _ (wG_in k_in_X11 rfl)) hd_X11_entry.2 ⟨Nat.le_of_ble_eq_true rfl, Nat.le_of_ble_eq_true rfl⟩, hts _ (wG_in k_st_X11_entry rfl), trivial⟩ hP hD hS [1] rfl rfl rfl rfl hl.1 rfl (Nat.le_of_ble_eq_true rfl) dX6_wordAt_13 ⟨Nat.le_of_ble_eq_true rfl, Nat.le_of_ble_eq_true rfl⟩ (fun H locs hP hD hS => ?_)
    refine lv_goto (tgt := 20) hx hb dX6_wordAt_16 (by decide) ?_
    have ho := Option.some.inj hf
    subst ho
    exact K _ _ _ _ hP hS dX6_wordAt_20
set_option maxHeartbeats 4000000 in
set_option maxRecDepth 100000 in
theorem c_X6_wordAt (l : Launch) (G : jGt) (D : va_G) (cI cB cZ : ClassId) (a_t a_t_words : Nat) (u_t_tape u_t_wheel u_t_law u_t_people : Value) (s_t_wordCount : Int32) (r_t_words : jA) (x1 : Int32) {o : Int32} (hf : f_X6_wordAt s_t_wordCount r_t_words x1 = some o) : jMi l yX6_wordAt gX6_wordAt rX6_wordAt G D (jT cI cB cZ) [.ref a_t, .int x1] (w_X6_wordAt cI cB cZ a_t a_t_words u_t_tape u_t_wheel u_t_law u_t_people s_t_wordCount r_t_words) (w_X6_wordAt cI cB cZ a_t a_t_words u_t_tape u_t_wheel u_t_law u_t_people s_t_wordCount r_t_words) o := by
  refine jmk_i RX6 rfl (by decide +kernel) rfl (Nat.le_of_ble_eq_true rfl) rfl ?_
  intro p e s m args below meth c ls A Q C hP hD hS hl K
  exact t_X6_wordAt G D cI cB cZ a_t a_t_words u_t_tape u_t_wheel u_t_law u_t_people s_t_wordCount r_t_words x1 C hf K hP hD hS hl
abbrev rX7_put : Room := { frames := 0, cells := 0, slots := 0, locals := 0 }
abbrev gX7_put : List Cond := wG yX7_put cX7_put 3 none
def w_X7_put (cI cB cZ : ClassId) (a_t a_t_bytes : Nat) (u_t_fault u_t_place s_t_length : Int32) (r_t_bytes : jA) : va_W := [(a_t, .inr (6, (oX7 (.ref a_t_bytes) s_t_length u_t_fault u_t_place))), (a_t_bytes, .inl (cB, r_t_bytes.1, .inl r_t_bytes.2))]
def f_X7_put_j49 (s_t_length : Int32) (r_t_bytes : jA) (x1 x2 : Int32) : Option ((Int32 × jA × Int32) ⊕ ((Int32 × jA))) :=
  some (Sum.inl (s_t_length, r_t_bytes, (x2 + (-8))))
set_option maxHeartbeats 4000000 in
set_option maxRecDepth 100000 in
theorem t_X7_put_j49 {p : Program} {l : Launch} {e : Env} {s : State} {m : MethodId} {args : Array Value} {below : List Frame} {meth : Method} {c : Code} {A : Nat → Prop} {Q : State → Prop} (G : jGt) (D : va_G) (cI cB cZ : ClassId) (a_t a_t_bytes : Nat) (u_t_fault u_t_place : Int32) (s_t_length : Int32) (r_t_bytes : jA) (x1 x2 : Int32) (C : jCx p s m args c cX7_put 3 gX7_put RX7 G D (jT cI cB cZ) A) {o : (Int32 × jA × Int32) ⊕ ((Int32 × jA))} (hf : f_X7_put_j49 s_t_length r_t_bytes x1 x2 = some o) (K : (∀ z, o = Sum.inl z → ∀ (H : Heap) (locs : List Loc) (ls : Array Slot), va_P D vwCl (w_X7_put cI cB cZ a_t a_t_bytes u_t_fault u_t_place z.1 z.2.1) H → va_D A (w_X7_put cI cB cZ a_t a_t_bytes u_t_fault u_t_place z.1 z.2.1) → va_S A s.heap H locs → lv_has ls 3 [(0, .ref a_t), (1, .int x1), (2, .int z.2.2)] → W p l e rX7_put s m args below meth c H locs 0 0 Q (F0 m 3 ls [])) ∧ (∀ z, o = Sum.inr z → ∀ (H : Heap) (locs : List Loc) (ls : Array Slot), va_P D vwCl (w_X7_put cI cB cZ a_t a_t_bytes u_t_fault u_t_place z.1 z.2) H → va_D A (w_X7_put cI cB cZ a_t a_t_bytes u_t_fault u_t_place z.1 z.2) → va_S A s.heap H locs → lv_has ls 3 [] → W p l e rX7_put s m args below meth c H locs 0 0 Q (F0 m 55 ls []))) {H : Heap} {locs : List Loc} {ls : Array Slot} (hP : va_P D vwCl (w_X7_put cI cB cZ a_t a_t_bytes u_t_fault u_t_place s_t_length r_t_bytes) H) (hD : va_D A (w_X7_put cI cB cZ a_t a_t_bytes u_t_fault u_t_place s_t_length r_t_bytes)) (hS : va_S A s.heap H locs) (hl : lv_has ls 3 [(0, .ref a_t), (1, .int x1), (2, .int x2)]) : W p l e rX7_put s m args below meth c H locs 0 0 Q (F0 m 49 ls []) := by
  obtain ⟨⟨hx, hb, hml, hown, hts⟩, hK, hN, hA⟩ := C
  have C : jCx p s m args c cX7_put 3 gX7_put RX7 G D (jT cI cB cZ) A := ⟨⟨hx, hb, hml, hown, hts⟩, hK, hN, hA⟩
  unfold f_X7_put_j49 at hf
  refine lv_iinc (v := (x2 + (-8))) (lv' := [(2, .int (x2 + (-8))), (0, .ref a_t), (1, .int x1)]) hx hb dX7_put_49 hl (k := 2) rfl (by first | rfl | decide) (by decide) rfl (fun ls hl => ?_)
  refine lv_goto (tgt := 3) hx hb dX7_put_52 (by decide) ?_
  have ho := Option.some.inj hf
  exact K.1 _ ho.symm _ _ _ hP hD hS (lv_sub hl [1, 2, 0] rfl)
def f_X7_put_b3 (s_t_length : Int32) (r_t_bytes : jA) (x1 x2 : Int32) : Option ((Int32 × jA × Int32) ⊕ ((Int32 × jA))) :=
  if x2 < 0 then
  some (Sum.inr (s_t_length, r_t_bytes))
  else
  if s_t_length < 0 then
  f_X7_put_j49 s_t_length r_t_bytes x1 x2
  else
  if (Int32.ofNat r_t_bytes.1) ≤ s_t_length then
  f_X7_put_j49 s_t_length r_t_bytes x1 x2
  else
  jS r_t_bytes s_t_length (((x1 >>> (x2 &&& 31)).toInt8.toInt32).toInt8.toInt32) fun q4 =>
  jV (s_t_length + (1 : Int32)) fun v5 =>
  f_X7_put_j49 v5 q4 x1 x2
set_option maxHeartbeats 4000000 in
set_option maxRecDepth 100000 in
theorem t_X7_put_b3 {p : Program} {l : Launch} {e : Env} {s : State} {m : MethodId} {args : Array Value} {below : List Frame} {meth : Method} {c : Code} {A : Nat → Prop} {Q : State → Prop} (G : jGt) (D : va_G) (cI cB cZ : ClassId) (a_t a_t_bytes : Nat) (u_t_fault u_t_place : Int32) (s_t_length : Int32) (r_t_bytes : jA) (x1 x2 : Int32) (C : jCx p s m args c cX7_put 3 gX7_put RX7 G D (jT cI cB cZ) A) {o : (Int32 × jA × Int32) ⊕ ((Int32 × jA))} (hf : f_X7_put_b3 s_t_length r_t_bytes x1 x2 = some o) (K : (∀ z, o = Sum.inl z → ∀ (H : Heap) (locs : List Loc) (ls : Array Slot), va_P D vwCl (w_X7_put cI cB cZ a_t a_t_bytes u_t_fault u_t_place z.1 z.2.1) H → va_D A (w_X7_put cI cB cZ a_t a_t_bytes u_t_fault u_t_place z.1 z.2.1) → va_S A s.heap H locs → lv_has ls 3 [(0, .ref a_t), (1, .int x1), (2, .int z.2.2)] → W p l e rX7_put s m args below meth c H locs 0 0 Q (F0 m 3 ls [])) ∧ (∀ z, o = Sum.inr z → ∀ (H : Heap) (locs : List Loc) (ls : Array Slot), va_P D vwCl (w_X7_put cI cB cZ a_t a_t_bytes u_t_fault u_t_place z.1 z.2) H → va_D A (w_X7_put cI cB cZ a_t a_t_bytes u_t_fault u_t_place z.1 z.2) → va_S A s.heap H locs → lv_has ls 3 [] → W p l e rX7_put s m args below meth c H locs 0 0 Q (F0 m 55 ls []))) {H : Heap} {locs : List Loc} {ls : Array Slot} (hP : va_P D vwCl (w_X7_put cI cB cZ a_t a_t_bytes u_t_fault u_t_place s_t_length r_t_bytes) H) (hD : va_D A (w_X7_put cI cB cZ a_t a_t_bytes u_t_fault u_t_place s_t_length r_t_bytes)) (hS : va_S A s.heap H locs) (hl : lv_has ls 3 [(0, .ref a_t), (1, .int x1), (2, .int x2)]) : W p l e rX7_put s m args below meth c H locs 0 0 Q (F0 m 3 ls []) := by
  obtain ⟨⟨hx, hb, hml, hown, hts⟩, hK, hN, hA⟩ := C
  have C : jCx p s m args c cX7_put 3 gX7_put RX7 G D (jT cI cB cZ) A := ⟨⟨hx, hb, hml, hown, hts⟩, hK, hN, hA⟩
  unfold f_X7_put_b3 at hf
  refine lv_iload_n hx hb dX7_put_3 rfl (lv_at hl 2 rfl) ?_
  refine lv_if_lt (tgt := 55) hx hb dX7_put_4 (by decide) (fun c1 => ?_) (fun c1 => ?_)
  · replace hf := jif_t c1 hf
    have ho := Option.some.inj hf
    exact (K.2 _ ho.symm) _ _ _ hP hD hS (lv_sub hl [] rfl)
  · replace hf := jif_f c1 hf
    refine lv_aload_n hx hb dX7_put_7 rfl (lv_at hl 0 rfl) ?_
    refine va_get (D := D) (ci := 6) (v := .int s_t_length) (C := RX7) (T := TX7) (N := 4) hx hb hts iw_X7 hown hK hP 0 rfl rfl 1 (by decide) (hts _ (wG_in k_fl_X7_25 rfl)) (fun _ h9 => h9) rfl dX7_put_8 ?_
    refine lv_if_lt (tgt := 49) hx hb dX7_put_11 (by decide) (fun c2 => ?_) (fun c2 => ?_)
    · replace hf := jif_t c2 hf
      exact t_X7_put_j49 G D cI cB cZ a_t a_t_bytes u_t_fault u_t_place s_t_length r_t_bytes x1 x2 C hf K hP hD hS (lv_sub hl [0, 1, 2] rfl)
    · replace hf := jif_f c2 hf
      refine lv_aload_n hx hb dX7_put_14 rfl (lv_at hl 0 rfl) ?_
      refine va_get (D := D) (ci := 6) (v := .int s_t_length) (C := RX7) (T := TX7) (N := 4) hx hb hts iw_X7 hown hK hP 0 rfl rfl 1 (by decide) (hts _ (wG_in k_fl_X7_25 rfl)) (fun _ h9 => h9) rfl dX7_put_15 ?_
      refine lv_aload_n hx hb dX7_put_18 rfl (lv_at hl 0 rfl) ?_
      refine va_get (D := D) (ci := 6) (v := .ref a_t_bytes) (C := RX7) (T := TX7) (N := 4) hx hb hts iw_X7 hown hK hP 0 rfl rfl 0 (by decide) (hts _ (wG_in k_fl_X7_11 rfl)) (fun _ h9 => h9) rfl dX7_put_19 ?_
      refine va_alen (x := (r_t_bytes.1, .inl r_t_bytes.2)) hx hb hK hP 1 1 rfl rfl rfl dX7_put_22 ?_
      refine lv_icmp_ge (tgt := 49) hx hb dX7_put_23 (by decide) (fun c3 => ?_) (fun c3 => ?_)
      · replace hf := jif_t c3 hf
        exact t_X7_put_j49 G D cI cB cZ a_t a_t_bytes u_t_fault u_t_place s_t_length r_t_bytes x1 x2 C hf K hP hD hS (lv_sub hl [0, 1, 2] rfl)
      · replace hf := jif_f c3 hf
        refine lv_aload_n hx hb dX7_put_26 rfl (lv_at hl 0 rfl) ?_
        refine va_get (D := D) (ci := 6) (v := .ref a_t_bytes) (C := RX7) (T := TX7) (N := 4) hx hb hts iw_X7 hown hK hP 0 rfl rfl 0 (by decide) (hts _ (wG_in k_fl_X7_11 rfl)) (fun _ h9 => h9) rfl dX7_put_27 ?_
        refine lv_aload_n hx hb dX7_put_30 rfl (lv_at hl 0 rfl) ?_
        refine va_get (D := D) (ci := 6) (v := .int s_t_length) (C := RX7) (T := TX7) (N := 4) hx hb hts iw_X7 hown hK hP 0 rfl rfl 1 (by decide) (hts _ (wG_in k_fl_X7_25 rfl)) (fun _ h9 => h9) rfl dX7_put_31 ?_
        refine lv_iload_n hx hb dX7_put_34 rfl (lv_at hl 1 rfl) ?_
        refine lv_iload_n hx hb dX7_put_35 rfl (lv_at hl 2 rfl) ?_
        refine lv_ishr hx hb dX7_put_36 ?_
        refine lv_i2b hx hb dX7_put_37 rfl ?_
        obtain ⟨q4, hq4, iq4, hf⟩ := jS_some hf
        refine ja_bast (P := r_t_bytes) (P' := q4) hx hb hK hP hD hS 1 1 rfl rfl hq4 iq4 dX7_put_38 (fun H locs hP hD hS => ?_)
        have hP : va_P D vwCl (w_X7_put cI cB cZ a_t a_t_bytes u_t_fault u_t_place s_t_length q4) H := hP
        have hD : va_D A (w_X7_put cI cB cZ a_t a_t_bytes u_t_fault u_t_place s_t_length q4) := hD
        refine lv_aload_n hx hb dX7_put_39 rfl (lv_at hl 0 rfl) ?_
        refine lv_dup hx hb dX7_put_40 rfl ?_
        refine va_get (D := D) (ci := 6) (v := .int s_t_length) (C := RX7) (T := TX7) (N := 4) hx hb hts iw_X7 hown hK hP 0 rfl rfl 1 (by decide) (hts _ (wG_in k_fl_X7_25 rfl)) (fun _ h9 => h9) rfl dX7_put_41 ?_
        refine lv_iconst (v := (1 : Int32)) hx hb dX7_put_44 (by decide) ?_
        refine lv_iadd hx hb dX7_put_45 ?_
        obtain ⟨v5, hv5, hf⟩ := jV_some hf
        refine jtop hv5 ?_
        refine va_put (D := D) (ci := 6) (v := .int v5) (ty := .int) (C := RX7) (T := TX7) (N := 4) hx hb hts iw_X7 tyX7 tyX7_ok nmX7 hown hK hP hD hS 0 rfl rfl 1 (by decide) (hts _ (wG_in k_fl_X7_25 rfl)) (fun _ h9 => h9) rfl (tyX7_ok 1 (by decide)) rfl rfl (Nat.le_of_ble_eq_true rfl) dX7_put_46 (fun H locs hP hD hS => ?_)
        have hP : va_P D vwCl (w_X7_put cI cB cZ a_t a_t_bytes u_t_fault u_t_place v5 q4) H := hP
        have hD : va_D A (w_X7_put cI cB cZ a_t a_t_bytes u_t_fault u_t_place v5 q4) := hD
        exact t_X7_put_j49 G D cI cB cZ a_t a_t_bytes u_t_fault u_t_place v5 q4 x1 x2 C hf K hP hD hS (lv_sub hl [0, 1, 2] rfl)
def f_X7_put_l3 (x1 s_t_length : Int32) (r_t_bytes : jA) (x2 : Int32) : Option ((Int32 × jA)) :=
  jI (fun z => f_X7_put_b3 z.1 z.2.1 x1 z.2.2) jF (s_t_length, r_t_bytes, x2)
set_option maxHeartbeats 4000000 in
set_option maxRecDepth 100000 in
theorem t_X7_put_l3 {p : Program} {l : Launch} {e : Env} {s : State} {m : MethodId} {args : Array Value} {below : List Frame} {meth : Method} {c : Code} {A : Nat → Prop} {Q : State → Prop} (G : jGt) (D : va_G) (cI cB cZ : ClassId) (a_t a_t_bytes : Nat) (u_t_fault u_t_place : Int32) (x1 : Int32) (C : jCx p s m args c cX7_put 3 gX7_put RX7 G D (jT cI cB cZ) A) : ∀ (n : Nat) (s_t_length : Int32) (r_t_bytes : jA) (x2 : Int32) {eo : (Int32 × jA)}, jI (fun z => f_X7_put_b3 z.1 z.2.1 x1 z.2.2) n (s_t_length, r_t_bytes, x2) = some eo → (∀ (H : Heap) (locs : List Loc) (ls : Array Slot), va_P D vwCl (w_X7_put cI cB cZ a_t a_t_bytes u_t_fault u_t_place eo.1 eo.2) H → va_D A (w_X7_put cI cB cZ a_t a_t_bytes u_t_fault u_t_place eo.1 eo.2) → va_S A s.heap H locs → lv_has ls 3 [] → W p l e rX7_put s m args below meth c H locs 0 0 Q (F0 m 55 ls [])) → ∀ (H : Heap) (locs : List Loc) (ls : Array Slot), va_P D vwCl (w_X7_put cI cB cZ a_t a_t_bytes u_t_fault u_t_place s_t_length r_t_bytes) H → va_D A (w_X7_put cI cB cZ a_t a_t_bytes u_t_fault u_t_place s_t_length r_t_bytes) → va_S A s.heap H locs → lv_has ls 3 [(0, .ref a_t), (1, .int x1), (2, .int x2)] → W p l e rX7_put s m args below meth c H locs 0 0 Q (F0 m 3 ls []) := by
  intro n
  induction n with
  | zero =>
    intro s_t_length r_t_bytes x2 eo hf
    exact (jI_zero hf).elim
  | succ n ih =>
    intro s_t_length r_t_bytes x2 eo hf K H locs ls hP hD hS hl
    obtain ⟨o, hb1, ho⟩ := jI_some hf
    rcases ho with ⟨z, rfl, hf2⟩ | rfl
    · exact t_X7_put_b3 G D cI cB cZ a_t a_t_bytes u_t_fault u_t_place s_t_length r_t_bytes x1 x2 C hb1 ⟨fun z2 hz H locs ls hP hD hS hl => by cases hz; exact ih z.1 z.2.1 z.2.2 hf2 K H locs ls hP hD hS hl, fun z2 hz => by cases hz⟩ hP hD hS hl
    · exact t_X7_put_b3 G D cI cB cZ a_t a_t_bytes u_t_fault u_t_place s_t_length r_t_bytes x1 x2 C hb1 ⟨fun z2 hz => (by cases hz), fun z2 hz => by cases hz; exact K⟩ hP hD hS hl
def f_X7_put (s_t_length : Int32) (r_t_bytes : jA) (x1 : Int32) : Option (Int32 × jA) :=
  jM (f_X7_put_l3 x1 s_t_length r_t_bytes (24 : Int32)) fun e6 =>
  some (e6.1, e6.2)
set_option maxHeartbeats 4000000 in
set_option maxRecDepth 100000 in
theorem t_X7_put {p : Program} {l : Launch} {e : Env} {s : State} {m : MethodId} {args : Array Value} {below : List Frame} {meth : Method} {c : Code} {A : Nat → Prop} {Q : State → Prop} (G : jGt) (D : va_G) (cI cB cZ : ClassId) (a_t a_t_bytes : Nat) (u_t_fault u_t_place : Int32) (s_t_length : Int32) (r_t_bytes : jA) (x1 : Int32) (C : jCx p s m args c cX7_put 3 gX7_put RX7 G D (jT cI cB cZ) A) {o : Int32 × jA} (hf : f_X7_put s_t_length r_t_bytes x1 = some o) (K : ∀ (H : Heap) (locs : List Loc) (pc : Nat) (ls : Array Slot), va_P D vwCl (w_X7_put cI cB cZ a_t a_t_bytes u_t_fault u_t_place o.1 o.2) H → va_S A s.heap H locs → decode cX7_put pc = .ok (.return_, 1) → W p l e rX7_put s m args below meth c H locs 0 0 Q (F0 m pc ls [])) {H : Heap} {locs : List Loc} {ls : Array Slot} (hP : va_P D vwCl (w_X7_put cI cB cZ a_t a_t_bytes u_t_fault u_t_place s_t_length r_t_bytes) H) (hD : va_D A (w_X7_put cI cB cZ a_t a_t_bytes u_t_fault u_t_place s_t_length r_t_bytes)) (hS : va_S A s.heap H locs) (hl : lv_has ls 3 [(0, .ref a_t), (1, .int x1)]) : W p l e rX7_put s m args below meth c H locs 0 0 Q (F0 m 0 ls []) := by
  obtain ⟨⟨hx, hb, hml, hown, hts⟩, hK, hN, hA⟩ := C
  have C : jCx p s m args c cX7_put 3 gX7_put RX7 G D (jT cI cB cZ) A := ⟨⟨hx, hb, hml, hown, hts⟩, hK, hN, hA⟩
  unfold f_X7_put at hf
  refine lv_bipush (v := (24 : Int32)) hx hb dX7_put_0 (by decide) ?_
  refine lv_istore_n (lv' := [(2, .int (24 : Int32)), (0, .ref a_t), (1, .int x1)]) hx hb dX7_put_2 rfl hl (by decide) rfl (fun ls hl => ?_)
  obtain ⟨e6, hg6, hf⟩ := jM_some hf
  refine t_X7_put_l3 G D cI cB cZ a_t a_t_bytes u_t_fault u_t_place x1 C jF s_t_length r_t_bytes (24 : Int32) hg6 ?_ _ _ _ hP hD hS (lv_sub hl [1, 2, 0] rfl)
  intro H locs ls hP hD hS hl
  have ho := Option.some.inj hf
  subst ho
  exact K _ _ _ _ hP hS dX7_put_55
set_option maxHeartbeats 4000000 in
set_option maxRecDepth 100000 in
theorem c_X7_put (l : Launch) (G : jGt) (D : va_G) (cI cB cZ : ClassId) (a_t a_t_bytes : Nat) (u_t_fault u_t_place : Int32) (s_t_length : Int32) (r_t_bytes : jA) (x1 : Int32) {o : Int32 × jA} (hf : f_X7_put s_t_length r_t_bytes x1 = some o) : jMv l yX7_put gX7_put rX7_put G D (jT cI cB cZ) [.ref a_t, .int x1] (w_X7_put cI cB cZ a_t a_t_bytes u_t_fault u_t_place s_t_length r_t_bytes) (w_X7_put cI cB cZ a_t a_t_bytes u_t_fault u_t_place o.1 o.2) := by
  refine jmk_v RX7 rfl (by decide +kernel) rfl (Nat.le_of_ble_eq_true rfl) rfl ?_
  intro p e s m args below meth c ls A Q C hP hD hS hl K
  exact t_X7_put G D cI cB cZ a_t a_t_bytes u_t_fault u_t_place s_t_length r_t_bytes x1 C hf K hP hD hS hl
abbrev rX7_append : Room := { frames := 1, cells := 0, slots := 0, locals := 22 }
abbrev gX7_append : List Cond := wG yX7_append cX7_append 6 (some .int)
def w_X7_append (cI cB cZ : ClassId) (a_t a_t_bytes : Nat) (u_t_fault u_t_place s_t_length : Int32) (r_t_bytes : jA) : va_W := [(a_t, .inr (6, (oX7 (.ref a_t_bytes) s_t_length u_t_fault u_t_place))), (a_t_bytes, .inl (cB, r_t_bytes.1, .inl r_t_bytes.2))]
def f_X7_append (s_t_length : Int32) (r_t_bytes : jA) (x1 x2 x3 x4 x5 : Int32) : Option (Int32 × Int32 × jA) :=
  if (s_t_length + (20 : Int32)) ≤ (400 : Int32) then
  jM (f_X7_put s_t_length r_t_bytes x1) fun r2 =>
  jM (f_X7_put r2.1 r2.2 x2) fun r3 =>
  jM (f_X7_put r3.1 r3.2 x3) fun r4 =>
  jM (f_X7_put r4.1 r4.2 x4) fun r5 =>
  jM (f_X7_put r5.1 r5.2 x5) fun r6 =>
  some (r6.1, r6.1, r6.2)
  else
  some ((-1 : Int32), s_t_length, r_t_bytes)
set_option maxHeartbeats 4000000 in
set_option maxRecDepth 100000 in
theorem t_X7_append {p : Program} {l : Launch} {e : Env} {s : State} {m : MethodId} {args : Array Value} {below : List Frame} {meth : Method} {c : Code} {A : Nat → Prop} {Q : State → Prop} (G : jGt) (D : va_G) (cI cB cZ : ClassId) (a_t a_t_bytes : Nat) (u_t_fault u_t_place : Int32) (s_t_length : Int32) (r_t_bytes : jA) (x1 x2 x3 x4 x5 : Int32) (C : jCx p s m args c cX7_append 6 gX7_append RX7 G D (jT cI cB cZ) A) {o : Int32 × Int32 × jA} (hf : f_X7_append s_t_length r_t_bytes x1 x2 x3 x4 x5 = some o) (K : ∀ (H : Heap) (locs : List Loc) (pc : Nat) (ls : Array Slot), va_P D vwCl (w_X7_append cI cB cZ a_t a_t_bytes u_t_fault u_t_place o.2.1 o.2.2) H → va_S A s.heap H locs → decode cX7_append pc = .ok (.ireturn, 1) → W p l e rX7_append s m args below meth c H locs 0 0 Q (F0 m pc ls [.int o.1])) {H : Heap} {locs : List Loc} {ls : Array Slot} (hP : va_P D vwCl (w_X7_append cI cB cZ a_t a_t_bytes u_t_fault u_t_place s_t_length r_t_bytes) H) (hD : va_D A (w_X7_append cI cB cZ a_t a_t_bytes u_t_fault u_t_place s_t_length r_t_bytes)) (hS : va_S A s.heap H locs) (hl : lv_has ls 6 [(0, .ref a_t), (1, .int x1), (2, .int x2), (3, .int x3), (4, .int x4), (5, .int x5)]) : W p l e rX7_append s m args below meth c H locs 0 0 Q (F0 m 0 ls []) := by
  obtain ⟨⟨hx, hb, hml, hown, hts⟩, hK, hN, hA⟩ := C
  have C : jCx p s m args c cX7_append 6 gX7_append RX7 G D (jT cI cB cZ) A := ⟨⟨hx, hb, hml, hown, hts⟩, hK, hN, hA⟩
  unfold f_X7_append at hf
  refine lv_aload_n hx hb dX7_append_0 rfl (lv_at hl 0 rfl) ?_
  refine va_get (D := D) (ci := 6) (v := .int s_t_length) (C := RX7) (T := TX7) (N := 4) hx hb hts iw_X7 hown hK hP 0 rfl rfl 1 (by decide) (hts _ (wG_in k_fl_X7_25 rfl)) (fun _ h9 => h9) rfl dX7_append_1 ?_
  refine lv_bipush (v := (20 : Int32)) hx hb dX7_append_4 (by decide) ?_
  refine lv_iadd hx hb dX7_append_6 ?_
  refine lv_sipush (v := (400 : Int32)) hx hb dX7_append_7 (by decide) ?_
  refine lv_icmp_le (tgt := 15) hx hb dX7_append_10 (by decide) (fun c1 => ?_) (fun c1 => ?_)
  · replace hf := jif_t c1 hf
    refine lv_aload_n hx hb dX7_append_15 rfl (lv_at hl 0 rfl) ?_
    refine lv_iload_n hx hb dX7_append_16 rfl (lv_at hl 1 rfl) ?_
    obtain ⟨r2, hgr2, hf⟩ := jM_some hf
    refine jcV_v (As := [.int x1]) (rest := []) ⟨hx, hb, hml, hown, hts⟩ hK hN hA (c_X7_put l G D cI cB cZ a_t a_t_bytes u_t_fault u_t_place s_t_length r_t_bytes x1 hgr2) (cwV 1 hts (wG_V k_ml_X7_31 k_im_X7_put k_se_X7_put k_in_X7 k_co_X7_put) rfl rfl rfl hd_X7_put ⟨Nat.le_of_ble_eq_true rfl, Nat.le_of_ble_eq_true rfl⟩) hP hD hS [0, 1] rfl rfl rfl (ci := 6) rfl 0 rfl rfl rfl hl.1 rfl (Nat.le_of_ble_eq_true rfl) dX7_append_17 ⟨Nat.le_of_ble_eq_true rfl, Nat.le_of_ble_eq_true rfl⟩ (fun H locs hP hD hS => ?_)
    have hP : va_P D vwCl (w_X7_append cI cB cZ a_t a_t_bytes u_t_fault u_t_place r2.1 r2.2) H := hP
    have hD : va_D A (w_X7_append cI cB cZ a_t a_t_bytes u_t_fault u_t_place r2.1 r2.2) := hD
    refine lv_aload_n hx hb dX7_append_20 rfl (lv_at hl 0 rfl) ?_
    refine lv_iload_n hx hb dX7_append_21 rfl (lv_at hl 2 rfl) ?_
    obtain ⟨r3, hgr3, hf⟩ := jM_some hf
    refine jcV_v (As := [.int x2]) (rest := []) ⟨hx, hb, hml, hown, hts⟩ hK hN hA (c_X7_put l G D cI cB cZ a_t a_t_bytes u_t_fault u_t_place r2.1 r2.2 x2 hgr3) (cwV 1 hts (wG_V k_ml_X7_31 k_im_X7_put k_se_X7_put k_in_X7 k_co_X7_put) rfl rfl rfl hd_X7_put ⟨Nat.le_of_ble_eq_true rfl, Nat.le_of_ble_eq_true rfl⟩) hP hD hS [0, 1] rfl rfl rfl (ci := 6) rfl 0 rfl rfl rfl hl.1 rfl (Nat.le_of_ble_eq_true rfl) dX7_append_22 ⟨Nat.le_of_ble_eq_true rfl, Nat.le_of_ble_eq_true rfl⟩ (fun H locs hP hD hS => ?_)
    have hP : va_P D vwCl (w_X7_append cI cB cZ a_t a_t_bytes u_t_fault u_t_place r3.1 r3.2) H := hP
    have hD : va_D A (w_X7_append cI cB cZ a_t a_t_bytes u_t_fault u_t_place r3.1 r3.2) := hD
    refine lv_aload_n hx hb dX7_append_25 rfl (lv_at hl 0 rfl) ?_
    refine lv_iload_n hx hb dX7_append_26 rfl (lv_at hl 3 rfl) ?_
    obtain ⟨r4, hgr4, hf⟩ := jM_some hf
    refine jcV_v (As := [.int x3]) (rest := []) ⟨hx, hb, hml, hown, hts⟩ hK hN hA (c_X7_put l G D cI cB cZ a_t a_t_bytes u_t_fault u_t_place r3.1 r3.2 x3 hgr4) (cwV 1 hts (wG_V k_ml_X7_31 k_im_X7_put k_se_X7_put k_in_X7 k_co_X7_put) rfl rfl rfl hd_X7_put ⟨Nat.le_of_ble_eq_true rfl, Nat.le_of_ble_eq_true rfl⟩) hP hD hS [0, 1] rfl rfl rfl (ci := 6) rfl 0 rfl rfl rfl hl.1 rfl (Nat.le_of_ble_eq_true rfl) dX7_append_27 ⟨Nat.le_of_ble_eq_true rfl, Nat.le_of_ble_eq_true rfl⟩ (fun H locs hP hD hS => ?_)
    have hP : va_P D vwCl (w_X7_append cI cB cZ a_t a_t_bytes u_t_fault u_t_place r4.1 r4.2) H := hP
    have hD : va_D A (w_X7_append cI cB cZ a_t a_t_bytes u_t_fault u_t_place r4.1 r4.2) := hD
    refine lv_aload_n hx hb dX7_append_30 rfl (lv_at hl 0 rfl) ?_
    refine lv_iload hx hb dX7_append_31 (lv_at hl 4 rfl) ?_
    obtain ⟨r5, hgr5, hf⟩ := jM_some hf
    refine jcV_v (As := [.int x4]) (rest := []) ⟨hx, hb, hml, hown, hts⟩ hK hN hA (c_X7_put l G D cI cB cZ a_t a_t_bytes u_t_fault u_t_place r4.1 r4.2 x4 hgr5) (cwV 1 hts (wG_V k_ml_X7_31 k_im_X7_put k_se_X7_put k_in_X7 k_co_X7_put) rfl rfl rfl hd_X7_put ⟨Nat.le_of_ble_eq_true rfl, Nat.le_of_ble_eq_true rfl⟩) hP hD hS [0, 1] rfl rfl rfl (ci := 6) rfl 0 rfl rfl rfl hl.1 rfl (Nat.le_of_ble_eq_true rfl) dX7_append_33 ⟨Nat.le_of_ble_eq_true rfl, Nat.le_of_ble_eq_true rfl⟩ (fun H locs hP hD hS => ?_)
    have hP : va_P D vwCl (w_X7_append cI cB cZ a_t a_t_bytes u_t_fault u_t_place r5.1 r5.2) H := hP
    have hD : va_D A (w_X7_append cI cB cZ a_t a_t_bytes u_t_fault u_t_place r5.1 r5.2) := hD
    refine lv_aload_n hx hb dX7_append_36 rfl (lv_at hl 0 rfl) ?_
    refine lv_iload hx hb dX7_append_37 (lv_at hl 5 rfl) ?_
    obtain ⟨r6, hgr6, hf⟩ := jM_some hf
    refine jcV_v (As := [.int x5]) (rest := []) ⟨hx, hb, hml, hown, hts⟩ hK hN hA (c_X7_put l G D cI cB cZ a_t a_t_bytes u_t_fault u_t_place r5.1 r5.2 x5 hgr6) (cwV 1 hts (wG_V k_ml_X7_31 k_im_X7_put k_se_X7_put k_in_X7 k_co_X7_put) rfl rfl rfl hd_X7_put ⟨Nat.le_of_ble_eq_true rfl, Nat.le_of_ble_eq_true rfl⟩) hP hD hS [0, 1] rfl rfl rfl (ci := 6) rfl 0 rfl rfl rfl hl.1 rfl (Nat.le_of_ble_eq_true rfl) dX7_append_39 ⟨Nat.le_of_ble_eq_true rfl, Nat.le_of_ble_eq_true rfl⟩ (fun H locs hP hD hS => ?_)
    have hP : va_P D vwCl (w_X7_append cI cB cZ a_t a_t_bytes u_t_fault u_t_place r6.1 r6.2) H := hP
    have hD : va_D A (w_X7_append cI cB cZ a_t a_t_bytes u_t_fault u_t_place r6.1 r6.2) := hD
    refine lv_aload_n hx hb dX7_append_42 rfl (lv_at hl 0 rfl) ?_
    refine va_get (D := D) (ci := 6) (v := .int r6.1) (C := RX7) (T := TX7) (N := 4) hx hb hts iw_X7 hown hK hP 0 rfl rfl 1 (by decide) (hts _ (wG_in k_fl_X7_25 rfl)) (fun _ h9 => h9) rfl dX7_append_43 ?_
    have ho := Option.some.inj hf
    subst ho
    exact K _ _ _ _ hP hS dX7_append_46
  · replace hf := jif_f c1 hf
    refine lv_iconst (v := (-1 : Int32)) hx hb dX7_append_13 (by decide) ?_
    have ho := Option.some.inj hf
    subst ho
    exact K _ _ _ _ hP hS dX7_append_14
set_option maxHeartbeats 4000000 in
set_option maxRecDepth 100000 in
theorem c_X7_append (l : Launch) (G : jGt) (D : va_G) (cI cB cZ : ClassId) (a_t a_t_bytes : Nat) (u_t_fault u_t_place : Int32) (s_t_length : Int32) (r_t_bytes : jA) (x1 x2 x3 x4 x5 : Int32) {o : Int32 × Int32 × jA} (hf : f_X7_append s_t_length r_t_bytes x1 x2 x3 x4 x5 = some o) : jMi l yX7_append gX7_append rX7_append G D (jT cI cB cZ) [.ref a_t, .int x1, .int x2, .int x3, .int x4, .int x5] (w_X7_append cI cB cZ a_t a_t_bytes u_t_fault u_t_place s_t_length r_t_bytes) (w_X7_append cI cB cZ a_t a_t_bytes u_t_fault u_t_place o.2.1 o.2.2) o.1 := by
  refine jmk_i RX7 rfl (by decide +kernel) rfl (Nat.le_of_ble_eq_true rfl) rfl ?_
  intro p e s m args below meth c ls A Q C hP hD hS hl K
  exact t_X7_append G D cI cB cZ a_t a_t_bytes u_t_fault u_t_place s_t_length r_t_bytes x1 x2 x3 x4 x5 C hf K hP hD hS hl
abbrev rX7_cut : Room := { frames := 0, cells := 0, slots := 0, locals := 0 }
abbrev gX7_cut : List Cond := wG yX7_cut cX7_cut 2 (some .int)
def w_X7_cut (cI cB cZ : ClassId) (a_t : Nat) (u_t_bytes : Value) (u_t_fault u_t_place s_t_length : Int32) : va_W := [(a_t, .inr (6, (oX7 u_t_bytes s_t_length u_t_fault u_t_place)))]
def f_X7_cut (s_t_length x1 : Int32) : Option (Int32 × Int32) :=
  if x1 < 0 then
  some ((-1 : Int32), s_t_length)
  else
  if x1 ≤ s_t_length then
  some (x1, x1)
  else
  some ((-1 : Int32), s_t_length)
set_option maxHeartbeats 4000000 in
set_option maxRecDepth 100000 in
theorem t_X7_cut {p : Program} {l : Launch} {e : Env} {s : State} {m : MethodId} {args : Array Value} {below : List Frame} {meth : Method} {c : Code} {A : Nat → Prop} {Q : State → Prop} (G : jGt) (D : va_G) (cI cB cZ : ClassId) (a_t : Nat) (u_t_bytes : Value) (u_t_fault u_t_place : Int32) (s_t_length x1 : Int32) (C : jCx p s m args c cX7_cut 2 gX7_cut RX7 G D (jT cI cB cZ) A) {o : Int32 × Int32} (hf : f_X7_cut s_t_length x1 = some o) (K : ∀ (H : Heap) (locs : List Loc) (pc : Nat) (ls : Array Slot), va_P D vwCl (w_X7_cut cI cB cZ a_t u_t_bytes u_t_fault u_t_place o.2) H → va_S A s.heap H locs → decode cX7_cut pc = .ok (.ireturn, 1) → W p l e rX7_cut s m args below meth c H locs 0 0 Q (F0 m pc ls [.int o.1])) {H : Heap} {locs : List Loc} {ls : Array Slot} (hP : va_P D vwCl (w_X7_cut cI cB cZ a_t u_t_bytes u_t_fault u_t_place s_t_length) H) (hD : va_D A (w_X7_cut cI cB cZ a_t u_t_bytes u_t_fault u_t_place s_t_length)) (hS : va_S A s.heap H locs) (hl : lv_has ls 2 [(0, .ref a_t), (1, .int x1)]) : W p l e rX7_cut s m args below meth c H locs 0 0 Q (F0 m 0 ls []) := by
  obtain ⟨⟨hx, hb, hml, hown, hts⟩, hK, hN, hA⟩ := C
  have C : jCx p s m args c cX7_cut 2 gX7_cut RX7 G D (jT cI cB cZ) A := ⟨⟨hx, hb, hml, hown, hts⟩, hK, hN, hA⟩
  unfold f_X7_cut at hf
  refine lv_iload_n hx hb dX7_cut_0 rfl (lv_at hl 1 rfl) ?_
  refine lv_if_lt (tgt := 12) hx hb dX7_cut_1 (by decide) (fun c1 => ?_) (fun c1 => ?_)
  · replace hf := jif_t c1 hf
    refine lv_iconst (v := (-1 : Int32)) hx hb dX7_cut_12 (by decide) ?_
    have ho := Option.some.inj hf
    subst ho
    exact K _ _ _ _ hP hS dX7_cut_13
  · replace hf := jif_f c1 hf
    refine lv_iload_n hx hb dX7_cut_4 rfl (lv_at hl 1 rfl) ?_
    refine lv_aload_n hx hb dX7_cut_5 rfl (lv_at hl 0 rfl) ?_
    refine va_get (D := D) (ci := 6) (v := .int s_t_length) (C := RX7) (T := TX7) (N := 4) hx hb hts iw_X7 hown hK hP 0 rfl rfl 1 (by decide) (hts _ (wG_in k_fl_X7_25 rfl)) (fun _ h9 => h9) rfl dX7_cut_6 ?_
    refine lv_icmp_le (tgt := 14) hx hb dX7_cut_9 (by decide) (fun c2 => ?_) (fun c2 => ?_)
    · replace hf := jif_t c2 hf
      refine lv_aload_n hx hb dX7_cut_14 rfl (lv_at hl 0 rfl) ?_
      refine lv_iload_n hx hb dX7_cut_15 rfl (lv_at hl 1 rfl) ?_
      refine va_put (D := D) (ci := 6) (v := .int x1) (ty := .int) (C := RX7) (T := TX7) (N := 4) hx hb hts iw_X7 tyX7 tyX7_ok nmX7 hown hK hP hD hS 0 rfl rfl 1 (by decide) (hts _ (wG_in k_fl_X7_25 rfl)) (fun _ h9 => h9) rfl (tyX7_ok 1 (by decide)) rfl rfl (Nat.le_of_ble_eq_true rfl) dX7_cut_16 (fun H locs hP hD hS => ?_)
      have hP : va_P D vwCl (w_X7_cut cI cB cZ a_t u_t_bytes u_t_fault u_t_place x1) H := hP
      have hD : va_D A (w_X7_cut cI cB cZ a_t u_t_bytes u_t_fault u_t_place x1) := hD
      refine lv_iload_n hx hb dX7_cut_19 rfl (lv_at hl 1 rfl) ?_
      have ho := Option.some.inj hf
      subst ho
      exact K _ _ _ _ hP hS dX7_cut_20
    · replace hf := jif_f c2 hf
      refine lv_iconst (v := (-1 : Int32)) hx hb dX7_cut_12 (by decide) ?_
      have ho := Option.some.inj hf
      subst ho
      exact K _ _ _ _ hP hS dX7_cut_13
set_option maxHeartbeats 4000000 in
set_option maxRecDepth 100000 in
theorem c_X7_cut (l : Launch) (G : jGt) (D : va_G) (cI cB cZ : ClassId) (a_t : Nat) (u_t_bytes : Value) (u_t_fault u_t_place : Int32) (s_t_length x1 : Int32) {o : Int32 × Int32} (hf : f_X7_cut s_t_length x1 = some o) : jMi l yX7_cut gX7_cut rX7_cut G D (jT cI cB cZ) [.ref a_t, .int x1] (w_X7_cut cI cB cZ a_t u_t_bytes u_t_fault u_t_place s_t_length) (w_X7_cut cI cB cZ a_t u_t_bytes u_t_fault u_t_place o.2) o.1 := by
  refine jmk_i RX7 rfl (by decide +kernel) rfl (Nat.le_of_ble_eq_true rfl) rfl ?_
  intro p e s m args below meth c ls A Q C hP hD hS hl K
  exact t_X7_cut G D cI cB cZ a_t u_t_bytes u_t_fault u_t_place s_t_length x1 C hf K hP hD hS hl
abbrev rX10_tieOf : Room := { frames := 1, cells := 0, slots := 0, locals := 21 }
abbrev gX10_tieOf : List Cond := wG yX10_tieOf cX10_tieOf 3 (some .int)
def w_X10_tieOf (cI cB cZ : ClassId) (a_t a_t_child a_t_wife : Nat) (u_t_husband u_t_father : Value) (u_t_size : Int32) (r_t_child r_t_wife : jA) : va_W := [(a_t, .inr (9, (oX10 (.ref a_t_wife) (.ref a_t_child) u_t_husband u_t_father u_t_size))), (a_t_child, .inl (cI, r_t_child.1, .inl r_t_child.2)), (a_t_wife, .inl (cI, r_t_wife.1, .inl r_t_wife.2))]
def f_X10_tieOf_j15 (r_t_child : jA) (x2 : Int32) : Option (Int32) :=
  jM (f_X11_entry r_t_child x2) fun r2 =>
  some r2
set_option maxHeartbeats 4000000 in
set_option maxRecDepth 100000 in
theorem t_X10_tieOf_j15 {p : Program} {l : Launch} {e : Env} {s : State} {m : MethodId} {args : Array Value} {below : List Frame} {meth : Method} {c : Code} {A : Nat → Prop} {Q : State → Prop} (G : jGt) (D : va_G) (cI cB cZ : ClassId) (a_t a_t_child a_t_wife : Nat) (u_t_husband u_t_father : Value) (u_t_size : Int32) (r_t_child r_t_wife : jA) (x2 : Int32) (C : jCx p s m args c cX10_tieOf 3 gX10_tieOf RX10 G D (jT cI cB cZ) A) {o : Int32} (hf : f_X10_tieOf_j15 r_t_child x2 = some o) (K : ∀ (H : Heap) (locs : List Loc) (pc : Nat) (ls : Array Slot), va_P D vwCl (w_X10_tieOf cI cB cZ a_t a_t_child a_t_wife u_t_husband u_t_father u_t_size r_t_child r_t_wife) H → va_S A s.heap H locs → decode cX10_tieOf pc = .ok (.ireturn, 1) → W p l e rX10_tieOf s m args below meth c H locs 0 0 Q (F0 m pc ls [.int o])) {H : Heap} {locs : List Loc} {ls : Array Slot} (hP : va_P D vwCl (w_X10_tieOf cI cB cZ a_t a_t_child a_t_wife u_t_husband u_t_father u_t_size r_t_child r_t_wife) H) (hD : va_D A (w_X10_tieOf cI cB cZ a_t a_t_child a_t_wife u_t_husband u_t_father u_t_size r_t_child r_t_wife)) (hS : va_S A s.heap H locs) (hl : lv_has ls 3 [(2, .int x2)]) : W p l e rX10_tieOf s m args below meth c H locs 0 0 Q (F0 m 15 ls [.ref a_t_child]) := by
  obtain ⟨⟨hx, hb, hml, hown, hts⟩, hK, hN, hA⟩ := C
  have C : jCx p s m args c cX10_tieOf 3 gX10_tieOf RX10 G D (jT cI cB cZ) A := ⟨⟨hx, hb, hml, hown, hts⟩, hK, hN, hA⟩
  unfold f_X10_tieOf_j15 at hf
  refine lv_iload_n hx hb dX10_tieOf_15 rfl (lv_at hl 0 rfl) ?_
  obtain ⟨r2, hgr2, hf⟩ := jM_some hf
  refine jcN_i0 (As := [.ref a_t_child, .int x2]) (rest := []) ⟨hx, hb, hml, hown, hts⟩ hK hN hA (c_X11_entry l G D cI cB cZ a_t_child r_t_child x2 hgr2) ⟨va_cnB 2 hts (wG_good k_co_X11_entry) rfl rfl rfl (jN_l nl_X10_40 hN) (hts _ (wG_in k_in_X11 rfl)) hd_X11_entry.2 ⟨Nat.le_of_ble_eq_true rfl, Nat.le_of_ble_eq_true rfl⟩, hts _ (wG_in k_st_X11_entry rfl), trivial⟩ hP hD hS [1] rfl rfl rfl rfl hl.1 rfl (Nat.le_of_ble_eq_true rfl) dX10_tieOf_16 ⟨Nat.le_of_ble_eq_true rfl, Nat.le_of_ble_eq_true rfl⟩ (fun H locs hP hD hS => ?_)
  have ho := Option.some.inj hf
  subst ho
  exact K _ _ _ _ hP hS dX10_tieOf_19
def f_X10_tieOf_j15b (r_t_wife : jA) (x2 : Int32) : Option (Int32) :=
  jM (f_X11_entry r_t_wife x2) fun r3 =>
  some r3
set_option maxHeartbeats 4000000 in
set_option maxRecDepth 100000 in
theorem t_X10_tieOf_j15b {p : Program} {l : Launch} {e : Env} {s : State} {m : MethodId} {args : Array Value} {below : List Frame} {meth : Method} {c : Code} {A : Nat → Prop} {Q : State → Prop} (G : jGt) (D : va_G) (cI cB cZ : ClassId) (a_t a_t_child a_t_wife : Nat) (u_t_husband u_t_father : Value) (u_t_size : Int32) (r_t_child r_t_wife : jA) (x2 : Int32) (C : jCx p s m args c cX10_tieOf 3 gX10_tieOf RX10 G D (jT cI cB cZ) A) {o : Int32} (hf : f_X10_tieOf_j15b r_t_wife x2 = some o) (K : ∀ (H : Heap) (locs : List Loc) (pc : Nat) (ls : Array Slot), va_P D vwCl (w_X10_tieOf cI cB cZ a_t a_t_child a_t_wife u_t_husband u_t_father u_t_size r_t_child r_t_wife) H → va_S A s.heap H locs → decode cX10_tieOf pc = .ok (.ireturn, 1) → W p l e rX10_tieOf s m args below meth c H locs 0 0 Q (F0 m pc ls [.int o])) {H : Heap} {locs : List Loc} {ls : Array Slot} (hP : va_P D vwCl (w_X10_tieOf cI cB cZ a_t a_t_child a_t_wife u_t_husband u_t_father u_t_size r_t_child r_t_wife) H) (hD : va_D A (w_X10_tieOf cI cB cZ a_t a_t_child a_t_wife u_t_husband u_t_father u_t_size r_t_child r_t_wife)) (hS : va_S A s.heap H locs) (hl : lv_has ls 3 [(2, .int x2)]) : W p l e rX10_tieOf s m args below meth c H locs 0 0 Q (F0 m 15 ls [.ref a_t_wife]) := by
  obtain ⟨⟨hx, hb, hml, hown, hts⟩, hK, hN, hA⟩ := C
  have C : jCx p s m args c cX10_tieOf 3 gX10_tieOf RX10 G D (jT cI cB cZ) A := ⟨⟨hx, hb, hml, hown, hts⟩, hK, hN, hA⟩
  unfold f_X10_tieOf_j15b at hf
  refine lv_iload_n hx hb dX10_tieOf_15 rfl (lv_at hl 0 rfl) ?_
  obtain ⟨r3, hgr3, hf⟩ := jM_some hf
  refine jcN_i0 (As := [.ref a_t_wife, .int x2]) (rest := []) ⟨hx, hb, hml, hown, hts⟩ hK hN hA (c_X11_entry l G D cI cB cZ a_t_wife r_t_wife x2 hgr3) ⟨va_cnB 2 hts (wG_good k_co_X11_entry) rfl rfl rfl (jN_l nl_X10_40 hN) (hts _ (wG_in k_in_X11 rfl)) hd_X11_entry.2 ⟨Nat.le_of_ble_eq_true rfl, Nat.le_of_ble_eq_true rfl⟩, hts _ (wG_in k_st_X11_entry rfl), trivial⟩ hP hD hS [2] rfl rfl rfl rfl hl.1 rfl (Nat.le_of_ble_eq_true rfl) dX10_tieOf_16 ⟨Nat.le_of_ble_eq_true rfl, Nat.le_of_ble_eq_true rfl⟩ (fun H locs hP hD hS => ?_)
  have ho := Option.some.inj hf
  subst ho
  exact K _ _ _ _ hP hS dX10_tieOf_19
def f_X10_tieOf (r_t_child r_t_wife : jA) (x1 x2 : Int32) : Option (Int32) :=
  if x1 = 0 then
  f_X10_tieOf_j15 r_t_child x2
  else
  f_X10_tieOf_j15b r_t_wife x2
set_option maxHeartbeats 4000000 in
set_option maxRecDepth 100000 in
theorem t_X10_tieOf {p : Program} {l : Launch} {e : Env} {s : State} {m : MethodId} {args : Array Value} {below : List Frame} {meth : Method} {c : Code} {A : Nat → Prop} {Q : State → Prop} (G : jGt) (D : va_G) (cI cB cZ : ClassId) (a_t a_t_child a_t_wife : Nat) (u_t_husband u_t_father : Value) (u_t_size : Int32) (r_t_child r_t_wife : jA) (x1 x2 : Int32) (C : jCx p s m args c cX10_tieOf 3 gX10_tieOf RX10 G D (jT cI cB cZ) A) {o : Int32} (hf : f_X10_tieOf r_t_child r_t_wife x1 x2 = some o) (K : ∀ (H : Heap) (locs : List Loc) (pc : Nat) (ls : Array Slot), va_P D vwCl (w_X10_tieOf cI cB cZ a_t a_t_child a_t_wife u_t_husband u_t_father u_t_size r_t_child r_t_wife) H → va_S A s.heap H locs → decode cX10_tieOf pc = .ok (.ireturn, 1) → W p l e rX10_tieOf s m args below meth c H locs 0 0 Q (F0 m pc ls [.int o])) {H : Heap} {locs : List Loc} {ls : Array Slot} (hP : va_P D vwCl (w_X10_tieOf cI cB cZ a_t a_t_child a_t_wife u_t_husband u_t_father u_t_size r_t_child r_t_wife) H) (hD : va_D A (w_X10_tieOf cI cB cZ a_t a_t_child a_t_wife u_t_husband u_t_father u_t_size r_t_child r_t_wife)) (hS : va_S A s.heap H locs) (hl : lv_has ls 3 [(0, .ref a_t), (1, .int x1), (2, .int x2)]) : W p l e rX10_tieOf s m args below meth c H locs 0 0 Q (F0 m 0 ls []) := by
  obtain ⟨⟨hx, hb, hml, hown, hts⟩, hK, hN, hA⟩ := C
  have C : jCx p s m args c cX10_tieOf 3 gX10_tieOf RX10 G D (jT cI cB cZ) A := ⟨⟨hx, hb, hml, hown, hts⟩, hK, hN, hA⟩
  unfold f_X10_tieOf at hf
  refine lv_iload_n hx hb dX10_tieOf_0 rfl (lv_at hl 1 rfl) ?_
  refine lv_if_eq (tgt := 11) hx hb dX10_tieOf_1 (by decide) (fun c1 => ?_) (fun c1 => ?_)
  · replace hf := jif_t c1 hf
    refine lv_aload_n hx hb dX10_tieOf_11 rfl (lv_at hl 0 rfl) ?_
    refine va_get (D := D) (ci := 9) (v := .ref a_t_child) (C := RX10) (T := TX10) (N := 5) hx hb hts iw_X10 hown hK hP 0 rfl rfl 1 (by decide) (hts _ (wG_in k_fl_X10_15 rfl)) (fun _ h9 => h9) rfl dX10_tieOf_12 ?_
    exact t_X10_tieOf_j15 G D cI cB cZ a_t a_t_child a_t_wife u_t_husband u_t_father u_t_size r_t_child r_t_wife x2 C hf K hP hD hS (lv_sub hl [2] rfl)
  · replace hf := jif_f c1 hf
    refine lv_aload_n hx hb dX10_tieOf_4 rfl (lv_at hl 0 rfl) ?_
    refine va_get (D := D) (ci := 9) (v := .ref a_t_wife) (C := RX10) (T := TX10) (N := 5) hx hb hts iw_X10 hown hK hP 0 rfl rfl 0 (by decide) (hts _ (wG_in k_fl_X10_9 rfl)) (fun _ h9 => h9) rfl dX10_tieOf_5 ?_
    refine lv_goto (tgt := 15) hx hb dX10_tieOf_8 (by decide) ?_
    exact t_X10_tieOf_j15b G D cI cB cZ a_t a_t_child a_t_wife u_t_husband u_t_father u_t_size r_t_child r_t_wife x2 C hf K hP hD hS (lv_sub hl [2] rfl)
set_option maxHeartbeats 4000000 in
set_option maxRecDepth 100000 in
theorem c_X10_tieOf (l : Launch) (G : jGt) (D : va_G) (cI cB cZ : ClassId) (a_t a_t_child a_t_wife : Nat) (u_t_husband u_t_father : Value) (u_t_size : Int32) (r_t_child r_t_wife : jA) (x1 x2 : Int32) {o : Int32} (hf : f_X10_tieOf r_t_child r_t_wife x1 x2 = some o) : jMi l yX10_tieOf gX10_tieOf rX10_tieOf G D (jT cI cB cZ) [.ref a_t, .int x1, .int x2] (w_X10_tieOf cI cB cZ a_t a_t_child a_t_wife u_t_husband u_t_father u_t_size r_t_child r_t_wife) (w_X10_tieOf cI cB cZ a_t a_t_child a_t_wife u_t_husband u_t_father u_t_size r_t_child r_t_wife) o := by
  refine jmk_i RX10 rfl (by decide +kernel) rfl (Nat.le_of_ble_eq_true rfl) rfl ?_
  intro p e s m args below meth c ls A Q C hP hD hS hl K
  exact t_X10_tieOf G D cI cB cZ a_t a_t_child a_t_wife u_t_husband u_t_father u_t_size r_t_child r_t_wife x1 x2 C hf K hP hD hS hl
abbrev rX10_isTold : Room := { frames := 1, cells := 0, slots := 0, locals := 21 }
abbrev gX10_isTold : List Cond := wG yX10_isTold cX10_isTold 2 (some .boolean)
def w_X10_isTold (cI cB cZ : ClassId) (a_t a_t_child a_t_wife : Nat) (u_t_husband u_t_father : Value) (s_t_size : Int32) (r_t_child r_t_wife : jA) : va_W := [(a_t, .inr (9, (oX10 (.ref a_t_wife) (.ref a_t_child) u_t_husband u_t_father s_t_size))), (a_t_child, .inl (cI, r_t_child.1, .inl r_t_child.2)), (a_t_wife, .inl (cI, r_t_wife.1, .inl r_t_wife.2))]
def f_X10_isTold_b2 (s_t_size : Int32) (r_t_child r_t_wife : jA) (x1 : Int32) : Option ((Int32) ⊕ ((Unit) ⊕ ((Unit)))) :=
  if s_t_size ≤ x1 then
  some (Sum.inr (Sum.inr ()))
  else
  jM (f_X11_entry r_t_wife x1) fun r2 =>
  if r2 = (-1 : Int32) then
  some (Sum.inr (Sum.inl ()))
  else
  jM (f_X11_entry r_t_child x1) fun r4 =>
  if r4 = (-1 : Int32) then
  some (Sum.inr (Sum.inl ()))
  else
  some (Sum.inl (x1 + 1))
set_option maxHeartbeats 4000000 in
set_option maxRecDepth 100000 in
theorem t_X10_isTold_b2 {p : Program} {l : Launch} {e : Env} {s : State} {m : MethodId} {args : Array Value} {below : List Frame} {meth : Method} {c : Code} {A : Nat → Prop} {Q : State → Prop} (G : jGt) (D : va_G) (cI cB cZ : ClassId) (a_t a_t_child a_t_wife : Nat) (u_t_husband u_t_father : Value) (s_t_size : Int32) (r_t_child r_t_wife : jA) (x1 : Int32) (C : jCx p s m args c cX10_isTold 2 gX10_isTold RX10 G D (jT cI cB cZ) A) {o : (Int32) ⊕ ((Unit) ⊕ ((Unit)))} (hf : f_X10_isTold_b2 s_t_size r_t_child r_t_wife x1 = some o) (K : (∀ z, o = Sum.inl z → ∀ (H : Heap) (locs : List Loc) (ls : Array Slot), va_P D vwCl (w_X10_isTold cI cB cZ a_t a_t_child a_t_wife u_t_husband u_t_father s_t_size r_t_child r_t_wife) H → va_D A (w_X10_isTold cI cB cZ a_t a_t_child a_t_wife u_t_husband u_t_father s_t_size r_t_child r_t_wife) → va_S A s.heap H locs → lv_has ls 2 [(0, .ref a_t), (1, .int z)] → W p l e rX10_isTold s m args below meth c H locs 0 0 Q (F0 m 2 ls [])) ∧ (∀ z, o = Sum.inr z → (∀ y0, z = Sum.inl y0 → ∀ (H : Heap) (locs : List Loc) (ls : Array Slot), va_P D vwCl (w_X10_isTold cI cB cZ a_t a_t_child a_t_wife u_t_husband u_t_father s_t_size r_t_child r_t_wife) H → va_D A (w_X10_isTold cI cB cZ a_t a_t_child a_t_wife u_t_husband u_t_father s_t_size r_t_child r_t_wife) → va_S A s.heap H locs → lv_has ls 2 [] → W p l e rX10_isTold s m args below meth c H locs 0 0 Q (F0 m 34 ls [])) ∧ (∀ z0, z = Sum.inr z0 → ∀ (H : Heap) (locs : List Loc) (ls : Array Slot), va_P D vwCl (w_X10_isTold cI cB cZ a_t a_t_child a_t_wife u_t_husband u_t_father s_t_size r_t_child r_t_wife) H → va_D A (w_X10_isTold cI cB cZ a_t a_t_child a_t_wife u_t_husband u_t_father s_t_size r_t_child r_t_wife) → va_S A s.heap H locs → lv_has ls 2 [] → W p l e rX10_isTold s m args below meth c H locs 0 0 Q (F0 m 42 ls [])))) {H : Heap} {locs : List Loc} {ls : Array Slot} (hP : va_P D vwCl (w_X10_isTold cI cB cZ a_t a_t_child a_t_wife u_t_husband u_t_father s_t_size r_t_child r_t_wife) H) (hD : va_D A (w_X10_isTold cI cB cZ a_t a_t_child a_t_wife u_t_husband u_t_father s_t_size r_t_child r_t_wife)) (hS : va_S A s.heap H locs) (hl : lv_has ls 2 [(0, .ref a_t), (1, .int x1)]) : W p l e rX10_isTold s m args below meth c H locs 0 0 Q (F0 m 2 ls []) := by
  obtain ⟨⟨hx, hb, hml, hown, hts⟩, hK, hN, hA⟩ := C
  have C : jCx p s m args c cX10_isTold 2 gX10_isTold RX10 G D (jT cI cB cZ) A := ⟨⟨hx, hb, hml, hown, hts⟩, hK, hN, hA⟩
  unfold f_X10_isTold_b2 at hf
  refine lv_iload_n hx hb dX10_isTold_2 rfl (lv_at hl 1 rfl) ?_
  refine lv_aload_n hx hb dX10_isTold_3 rfl (lv_at hl 0 rfl) ?_
  refine va_get (D := D) (ci := 9) (v := .int s_t_size) (C := RX10) (T := TX10) (N := 5) hx hb hts iw_X10 hown hK hP 0 rfl rfl 4 (by decide) (hts _ (wG_in k_fl_X10_30 rfl)) (fun _ h9 => h9) rfl dX10_isTold_4 ?_
  refine lv_icmp_ge (tgt := 42) hx hb dX10_isTold_7 (by decide) (fun c1 => ?_) (fun c1 => ?_)
  · replace hf := jif_t c1 hf
    have ho := Option.some.inj hf
    exact ((K.2 _ ho.symm).2 _ rfl) _ _ _ hP hD hS (lv_sub hl [] rfl)
  · replace hf := jif_f c1 hf
    refine lv_aload_n hx hb dX10_isTold_10 rfl (lv_at hl 0 rfl) ?_
    refine va_get (D := D) (ci := 9) (v := .ref a_t_wife) (C := RX10) (T := TX10) (N := 5) hx hb hts iw_X10 hown hK hP 0 rfl rfl 0 (by decide) (hts _ (wG_in k_fl_X10_9 rfl)) (fun _ h9 => h9) rfl dX10_isTold_11 ?_
    refine lv_iload_n hx hb dX10_isTold_14 rfl (lv_at hl 1 rfl) ?_
    obtain ⟨r2, hgr2, hf⟩ := jM_some hf
    refine jcN_i0 (As := [.ref a_t_wife, .int x1]) (rest := []) ⟨hx, hb, hml, hown, hts⟩ hK hN hA (c_X11_entry l G D cI cB cZ a_t_wife r_t_wife x1 hgr2) ⟨va_cnB 2 hts (wG_good k_co_X11_entry) rfl rfl rfl (jN_l nl_X10_40 hN) (hts _ (wG_in k_in_X11 rfl)) hd_X11_entry.2 ⟨Nat.le_of_ble_eq_true rfl, Nat.le_of_ble_eq_true rfl⟩, hts _ (wG_in k_st_X11_entry rfl), trivial⟩ hP hD hS [2] rfl rfl rfl rfl hl.1 rfl (Nat.le_of_ble_eq_true rfl) dX10_isTold_15 ⟨Nat.le_of_ble_eq_true rfl, Nat.le_of_ble_eq_true rfl⟩ (fun H locs hP hD hS => ?_)
    refine lv_iconst (v := (-1 : Int32)) hx hb dX10_isTold_18 (by decide) ?_
    refine lv_icmp_eq (tgt := 34) hx hb dX10_isTold_19 (by decide) (fun c3 => ?_) (fun c3 => ?_)
    · replace hf := jif_t c3 hf
      have ho := Option.some.inj hf
      exact ((K.2 _ ho.symm).1 _ rfl) _ _ _ hP hD hS (lv_sub hl [] rfl)
    · replace hf := jif_f c3 hf
      refine lv_aload_n hx hb dX10_isTold_22 rfl (lv_at hl 0 rfl) ?_
      refine va_get (D := D) (ci := 9) (v := .ref a_t_child) (C := RX10) (T := TX10) (N := 5) hx hb hts iw_X10 hown hK hP 0 rfl rfl 1 (by decide) (hts _ (wG_in k_fl_X10_15 rfl)) (fun _ h9 => h9) rfl dX10_isTold_23 ?_
      refine lv_iload_n hx hb dX10_isTold_26 rfl (lv_at hl 1 rfl) ?_
      obtain ⟨r4, hgr4, hf⟩ := jM_some hf
      refine jcN_i0 (As := [.ref a_t_child, .int x1]) (rest := []) ⟨hx, hb, hml, hown, hts⟩ hK hN hA (c_X11_entry l G D cI cB cZ a_t_child r_t_child x1 hgr4) ⟨va_cnB 2 hts (wG_good k_co_X11_entry) rfl rfl rfl (jN_l nl_X10_40 hN) (hts _ (wG_in k_in_X11 rfl)) hd_X11_entry.2 ⟨Nat.le_of_ble_eq_true rfl, Nat.le_of_ble_eq_true rfl⟩, hts _ (wG_in k_st_X11_entry rfl), trivial⟩ hP hD hS [1] rfl rfl rfl rfl hl.1 rfl (Nat.le_of_ble_eq_true rfl) dX10_isTold_27 ⟨Nat.le_of_ble_eq_true rfl, Nat.le_of_ble_eq_true rfl⟩ (fun H locs hP hD hS => ?_)
      refine lv_iconst (v := (-1 : Int32)) hx hb dX10_isTold_30 (by decide) ?_
      refine lv_icmp_ne (tgt := 36) hx hb dX10_isTold_31 (by decide) (fun c5 => ?_) (fun c5 => ?_)
      · replace hf := jif_f c5 hf
        refine lv_iinc (v := (x1 + 1)) (lv' := [(1, .int (x1 + 1)), (0, .ref a_t)]) hx hb dX10_isTold_36 hl (k := 1) rfl (by first | rfl | decide) (by decide) rfl (fun ls hl => ?_)
        refine lv_goto (tgt := 2) hx hb dX10_isTold_39 (by decide) ?_
        have ho := Option.some.inj hf
        exact K.1 _ ho.symm _ _ _ hP hD hS (lv_sub hl [1, 0] rfl)
      · replace hf := jif_t c5 hf
        have ho := Option.some.inj hf
        exact ((K.2 _ ho.symm).1 _ rfl) _ _ _ hP hD hS (lv_sub hl [] rfl)
def f_X10_isTold_l2 (s_t_size : Int32) (r_t_child r_t_wife : jA) (x1 : Int32) : Option ((Unit) ⊕ ((Unit))) :=
  jI (fun z => f_X10_isTold_b2 s_t_size r_t_child r_t_wife z) jF x1
set_option maxHeartbeats 4000000 in
set_option maxRecDepth 100000 in
theorem t_X10_isTold_l2 {p : Program} {l : Launch} {e : Env} {s : State} {m : MethodId} {args : Array Value} {below : List Frame} {meth : Method} {c : Code} {A : Nat → Prop} {Q : State → Prop} (G : jGt) (D : va_G) (cI cB cZ : ClassId) (a_t a_t_child a_t_wife : Nat) (u_t_husband u_t_father : Value) (s_t_size : Int32) (r_t_child r_t_wife : jA)  (C : jCx p s m args c cX10_isTold 2 gX10_isTold RX10 G D (jT cI cB cZ) A) : ∀ (n : Nat) (x1 : Int32) {eo : (Unit) ⊕ ((Unit))}, jI (fun z => f_X10_isTold_b2 s_t_size r_t_child r_t_wife z) n x1 = some eo → ((∀ y0, eo = Sum.inl y0 → ∀ (H : Heap) (locs : List Loc) (ls : Array Slot), va_P D vwCl (w_X10_isTold cI cB cZ a_t a_t_child a_t_wife u_t_husband u_t_father s_t_size r_t_child r_t_wife) H → va_D A (w_X10_isTold cI cB cZ a_t a_t_child a_t_wife u_t_husband u_t_father s_t_size r_t_child r_t_wife) → va_S A s.heap H locs → lv_has ls 2 [] → W p l e rX10_isTold s m args below meth c H locs 0 0 Q (F0 m 34 ls [])) ∧ (∀ z0, eo = Sum.inr z0 → ∀ (H : Heap) (locs : List Loc) (ls : Array Slot), va_P D vwCl (w_X10_isTold cI cB cZ a_t a_t_child a_t_wife u_t_husband u_t_father s_t_size r_t_child r_t_wife) H → va_D A (w_X10_isTold cI cB cZ a_t a_t_child a_t_wife u_t_husband u_t_father s_t_size r_t_child r_t_wife) → va_S A s.heap H locs → lv_has ls 2 [] → W p l e rX10_isTold s m args below meth c H locs 0 0 Q (F0 m 42 ls []))) → ∀ (H : Heap) (locs : List Loc) (ls : Array Slot), va_P D vwCl (w_X10_isTold cI cB cZ a_t a_t_child a_t_wife u_t_husband u_t_father s_t_size r_t_child r_t_wife) H → va_D A (w_X10_isTold cI cB cZ a_t a_t_child a_t_wife u_t_husband u_t_father s_t_size r_t_child r_t_wife) → va_S A s.heap H locs → lv_has ls 2 [(0, .ref a_t), (1, .int x1)] → W p l e rX10_isTold s m args below meth c H locs 0 0 Q (F0 m 2 ls []) := by
  intro n
  induction n with
  | zero =>
    intro x1 eo hf
    exact (jI_zero hf).elim
  | succ n ih =>
    intro x1 eo hf K H locs ls hP hD hS hl
    obtain ⟨o, hb1, ho⟩ := jI_some hf
    rcases ho with ⟨z, rfl, hf2⟩ | rfl
    · exact t_X10_isTold_b2 G D cI cB cZ a_t a_t_child a_t_wife u_t_husband u_t_father s_t_size r_t_child r_t_wife x1 C hb1 ⟨fun z2 hz H locs ls hP hD hS hl => by cases hz; exact ih z hf2 K H locs ls hP hD hS hl, fun z2 hz => by cases hz⟩ hP hD hS hl
    · exact t_X10_isTold_b2 G D cI cB cZ a_t a_t_child a_t_wife u_t_husband u_t_father s_t_size r_t_child r_t_wife x1 C hb1 ⟨fun z2 hz => (by cases hz), fun z2 hz => by cases hz; exact K⟩ hP hD hS hl
def f_X10_isTold (s_t_size : Int32) (r_t_child r_t_wife : jA) : Option (Int32) :=
  jM (f_X10_isTold_l2 s_t_size r_t_child r_t_wife (0 : Int32)) fun e6 =>
  Sum.elim (fun y7 =>
  some (0 : Int32)) (fun w8 =>
  some (1 : Int32)) e6
set_option maxHeartbeats 4000000 in
set_option maxRecDepth 100000 in
theorem t_X10_isTold {p : Program} {l : Launch} {e : Env} {s : State} {m : MethodId} {args : Array Value} {below : List Frame} {meth : Method} {c : Code} {A : Nat → Prop} {Q : State → Prop} (G : jGt) (D : va_G) (cI cB cZ : ClassId) (a_t a_t_child a_t_wife : Nat) (u_t_husband u_t_father : Value) (s_t_size : Int32) (r_t_child r_t_wife : jA)  (C : jCx p s m args c cX10_isTold 2 gX10_isTold RX10 G D (jT cI cB cZ) A) {o : Int32} (hf : f_X10_isTold s_t_size r_t_child r_t_wife = some o) (K : ∀ (H : Heap) (locs : List Loc) (pc : Nat) (ls : Array Slot), (o = 0 ∨ o = 1) → va_P D vwCl (w_X10_isTold cI cB cZ a_t a_t_child a_t_wife u_t_husband u_t_father s_t_size r_t_child r_t_wife) H → va_S A s.heap H locs → decode cX10_isTold pc = .ok (.ireturn, 1) → W p l e rX10_isTold s m args below meth c H locs 0 0 Q (F0 m pc ls [.int o])) {H : Heap} {locs : List Loc} {ls : Array Slot} (hP : va_P D vwCl (w_X10_isTold cI cB cZ a_t a_t_child a_t_wife u_t_husband u_t_father s_t_size r_t_child r_t_wife) H) (hD : va_D A (w_X10_isTold cI cB cZ a_t a_t_child a_t_wife u_t_husband u_t_father s_t_size r_t_child r_t_wife)) (hS : va_S A s.heap H locs) (hl : lv_has ls 2 [(0, .ref a_t)]) : W p l e rX10_isTold s m args below meth c H locs 0 0 Q (F0 m 0 ls []) := by
  obtain ⟨⟨hx, hb, hml, hown, hts⟩, hK, hN, hA⟩ := C
  have C : jCx p s m args c cX10_isTold 2 gX10_isTold RX10 G D (jT cI cB cZ) A := ⟨⟨hx, hb, hml, hown, hts⟩, hK, hN, hA⟩
  unfold f_X10_isTold at hf
  refine lv_iconst (v := (0 : Int32)) hx hb dX10_isTold_0 (by decide) ?_
  refine lv_istore_n (lv' := [(1, .int (0 : Int32)), (0, .ref a_t)]) hx hb dX10_isTold_1 rfl hl (by decide) rfl (fun ls hl => ?_)
  obtain ⟨e6, hg6, hf⟩ := jM_some hf
  refine t_X10_isTold_l2 G D cI cB cZ a_t a_t_child a_t_wife u_t_husband u_t_father s_t_size r_t_child r_t_wife  C jF (0 : Int32) hg6 ?_ _ _ _ hP hD hS (lv_sub hl [1, 0] rfl)
  refine ⟨fun y7 hy => ?_, fun w8 hy => ?_⟩
  · replace hf := jE_l hy hf
    intro H locs ls hP hD hS hl
    refine lv_iconst (v := (0 : Int32)) hx hb dX10_isTold_34 (by decide) ?_
    have ho := Option.some.inj hf
    subst ho
    exact K _ _ _ _ (Or.inl rfl) hP hS dX10_isTold_35
  · replace hf := jE_r hy hf
    intro H locs ls hP hD hS hl
    refine lv_iconst (v := (1 : Int32)) hx hb dX10_isTold_42 (by decide) ?_
    have ho := Option.some.inj hf
    subst ho
    exact K _ _ _ _ (Or.inr rfl) hP hS dX10_isTold_43
set_option maxHeartbeats 4000000 in
set_option maxRecDepth 100000 in
theorem c_X10_isTold (l : Launch) (G : jGt) (D : va_G) (cI cB cZ : ClassId) (a_t a_t_child a_t_wife : Nat) (u_t_husband u_t_father : Value) (s_t_size : Int32) (r_t_child r_t_wife : jA)  {o : Int32} (hf : f_X10_isTold s_t_size r_t_child r_t_wife = some o) : jMi l yX10_isTold gX10_isTold rX10_isTold G D (jT cI cB cZ) [.ref a_t] (w_X10_isTold cI cB cZ a_t a_t_child a_t_wife u_t_husband u_t_father s_t_size r_t_child r_t_wife) (w_X10_isTold cI cB cZ a_t a_t_child a_t_wife u_t_husband u_t_father s_t_size r_t_child r_t_wife) o := by
  refine jmk_z RX10 rfl (by decide +kernel) rfl (Nat.le_of_ble_eq_true rfl) rfl ?_
  intro p e s m args below meth c ls A Q C hP hD hS hl K
  exact t_X10_isTold G D cI cB cZ a_t a_t_child a_t_wife u_t_husband u_t_father s_t_size r_t_child r_t_wife  C hf K hP hD hS hl
abbrev rX10_isOneToOne : Room := { frames := 1, cells := 0, slots := 0, locals := 21 }
abbrev gX10_isOneToOne : List Cond := wG yX10_isOneToOne cX10_isOneToOne 4 (some .boolean)
def w_X10_isOneToOne (cI cB cZ : ClassId) (a_t a_t_child a_t_wife : Nat) (u_t_husband u_t_father : Value) (s_t_size : Int32) (r_t_child r_t_wife : jA) : va_W := [(a_t, .inr (9, (oX10 (.ref a_t_wife) (.ref a_t_child) u_t_husband u_t_father s_t_size))), (a_t_child, .inl (cI, r_t_child.1, .inl r_t_child.2)), (a_t_wife, .inl (cI, r_t_wife.1, .inl r_t_wife.2))]
def f_X10_isOneToOne_b6 (s_t_size : Int32) (r_t_child r_t_wife : jA) (x1 x2 x3 : Int32) : Option ((Int32 × Int32 × Int32) ⊕ ((Int32 × Int32))) :=
  if s_t_size ≤ x3 then
  some (Sum.inr (x1, x2))
  else
  jM (f_X11_entry r_t_wife x3) fun r2 =>
  jV (x1 ||| ((1 : Int32) <<< (r2 &&& 31))) fun v3 =>
  jM (f_X11_entry r_t_child x3) fun r4 =>
  jV (x2 ||| ((1 : Int32) <<< (r4 &&& 31))) fun v5 =>
  some (Sum.inl (v3, v5, (x3 + 1)))
set_option maxHeartbeats 4000000 in
set_option maxRecDepth 100000 in
theorem t_X10_isOneToOne_b6 {p : Program} {l : Launch} {e : Env} {s : State} {m : MethodId} {args : Array Value} {below : List Frame} {meth : Method} {c : Code} {A : Nat → Prop} {Q : State → Prop} (G : jGt) (D : va_G) (cI cB cZ : ClassId) (a_t a_t_child a_t_wife : Nat) (u_t_husband u_t_father : Value) (s_t_size : Int32) (r_t_child r_t_wife : jA) (x1 x2 x3 : Int32) (C : jCx p s m args c cX10_isOneToOne 4 gX10_isOneToOne RX10 G D (jT cI cB cZ) A) {o : (Int32 × Int32 × Int32) ⊕ ((Int32 × Int32))} (hf : f_X10_isOneToOne_b6 s_t_size r_t_child r_t_wife x1 x2 x3 = some o) (K : (∀ z, o = Sum.inl z → ∀ (H : Heap) (locs : List Loc) (ls : Array Slot), va_P D vwCl (w_X10_isOneToOne cI cB cZ a_t a_t_child a_t_wife u_t_husband u_t_father s_t_size r_t_child r_t_wife) H → va_D A (w_X10_isOneToOne cI cB cZ a_t a_t_child a_t_wife u_t_husband u_t_father s_t_size r_t_child r_t_wife) → va_S A s.heap H locs → lv_has ls 4 [(0, .ref a_t), (1, .int z.1), (2, .int z.2.1), (3, .int z.2.2)] → W p l e rX10_isOneToOne s m args below meth c H locs 0 0 Q (F0 m 6 ls [])) ∧ (∀ z, o = Sum.inr z → ∀ (H : Heap) (locs : List Loc) (ls : Array Slot), va_P D vwCl (w_X10_isOneToOne cI cB cZ a_t a_t_child a_t_wife u_t_husband u_t_father s_t_size r_t_child r_t_wife) H → va_D A (w_X10_isOneToOne cI cB cZ a_t a_t_child a_t_wife u_t_husband u_t_father s_t_size r_t_child r_t_wife) → va_S A s.heap H locs → lv_has ls 4 [(0, .ref a_t), (1, .int z.1), (2, .int z.2)] → W p l e rX10_isOneToOne s m args below meth c H locs 0 0 Q (F0 m 46 ls []))) {H : Heap} {locs : List Loc} {ls : Array Slot} (hP : va_P D vwCl (w_X10_isOneToOne cI cB cZ a_t a_t_child a_t_wife u_t_husband u_t_father s_t_size r_t_child r_t_wife) H) (hD : va_D A (w_X10_isOneToOne cI cB cZ a_t a_t_child a_t_wife u_t_husband u_t_father s_t_size r_t_child r_t_wife)) (hS : va_S A s.heap H locs) (hl : lv_has ls 4 [(0, .ref a_t), (1, .int x1), (2, .int x2), (3, .int x3)]) : W p l e rX10_isOneToOne s m args below meth c H locs 0 0 Q (F0 m 6 ls []) := by
  obtain ⟨⟨hx, hb, hml, hown, hts⟩, hK, hN, hA⟩ := C
  have C : jCx p s m args c cX10_isOneToOne 4 gX10_isOneToOne RX10 G D (jT cI cB cZ) A := ⟨⟨hx, hb, hml, hown, hts⟩, hK, hN, hA⟩
  unfold f_X10_isOneToOne_b6 at hf
  refine lv_iload_n hx hb dX10_isOneToOne_6 rfl (lv_at hl 3 rfl) ?_
  refine lv_aload_n hx hb dX10_isOneToOne_7 rfl (lv_at hl 0 rfl) ?_
  refine va_get (D := D) (ci := 9) (v := .int s_t_size) (C := RX10) (T := TX10) (N := 5) hx hb hts iw_X10 hown hK hP 0 rfl rfl 4 (by decide) (hts _ (wG_in k_fl_X10_30 rfl)) (fun _ h9 => h9) rfl dX10_isOneToOne_8 ?_
  refine lv_icmp_ge (tgt := 46) hx hb dX10_isOneToOne_11 (by decide) (fun c1 => ?_) (fun c1 => ?_)
  · replace hf := jif_t c1 hf
    have ho := Option.some.inj hf
    exact (K.2 _ ho.symm) _ _ _ hP hD hS (lv_sub hl [0, 1, 2] rfl)
  · replace hf := jif_f c1 hf
    refine lv_iload_n hx hb dX10_isOneToOne_14 rfl (lv_at hl 1 rfl) ?_
    refine lv_iconst (v := (1 : Int32)) hx hb dX10_isOneToOne_15 (by decide) ?_
    refine lv_aload_n hx hb dX10_isOneToOne_16 rfl (lv_at hl 0 rfl) ?_
    refine va_get (D := D) (ci := 9) (v := .ref a_t_wife) (C := RX10) (T := TX10) (N := 5) hx hb hts iw_X10 hown hK hP 0 rfl rfl 0 (by decide) (hts _ (wG_in k_fl_X10_9 rfl)) (fun _ h9 => h9) rfl dX10_isOneToOne_17 ?_
    refine lv_iload_n hx hb dX10_isOneToOne_20 rfl (lv_at hl 3 rfl) ?_
    obtain ⟨r2, hgr2, hf⟩ := jM_some hf
    refine jcN_i0 (As := [.ref a_t_wife, .int x3]) (rest := [.int (1 : Int32), .int x1]) ⟨hx, hb, hml, hown, hts⟩ hK hN hA (c_X11_entry l G D cI cB cZ a_t_wife r_t_wife x3 hgr2) ⟨va_cnB 2 hts (wG_good k_co_X11_entry) rfl rfl rfl (jN_l nl_X10_40 hN) (hts _ (wG_in k_in_X11 rfl)) hd_X11_entry.2 ⟨Nat.le_of_ble_eq_true rfl, Nat.le_of_ble_eq_true rfl⟩, hts _ (wG_in k_st_X11_entry rfl), trivial⟩ hP hD hS [2] rfl rfl rfl rfl hl.1 rfl (Nat.le_of_ble_eq_true rfl) dX10_isOneToOne_21 ⟨Nat.le_of_ble_eq_true rfl, Nat.le_of_ble_eq_true rfl⟩ (fun H locs hP hD hS => ?_)
    refine lv_ishl hx hb dX10_isOneToOne_24 ?_
    refine lv_ior hx hb dX10_isOneToOne_25 ?_
    obtain ⟨v3, hv3, hf⟩ := jV_some hf
    refine jtop hv3 ?_
    refine lv_istore_n (lv' := [(1, .int v3), (0, .ref a_t), (2, .int x2), (3, .int x3)]) hx hb dX10_isOneToOne_26 rfl hl (by decide) rfl (fun ls hl => ?_)
    refine lv_iload_n hx hb dX10_isOneToOne_27 rfl (lv_at hl 2 rfl) ?_
    refine lv_iconst (v := (1 : Int32)) hx hb dX10_isOneToOne_28 (by decide) ?_
    refine lv_aload_n hx hb dX10_isOneToOne_29 rfl (lv_at hl 1 rfl) ?_
    refine va_get (D := D) (ci := 9) (v := .ref a_t_child) (C := RX10) (T := TX10) (N := 5) hx hb hts iw_X10 hown hK hP 0 rfl rfl 1 (by decide) (hts _ (wG_in k_fl_X10_15 rfl)) (fun _ h9 => h9) rfl dX10_isOneToOne_30 ?_
    refine lv_iload_n hx hb dX10_isOneToOne_33 rfl (lv_at hl 3 rfl) ?_
    obtain ⟨r4, hgr4, hf⟩ := jM_some hf
    refine jcN_i0 (As := [.ref a_t_child, .int x3]) (rest := [.int (1 : Int32), .int x2]) ⟨hx, hb, hml, hown, hts⟩ hK hN hA (c_X11_entry l G D cI cB cZ a_t_child r_t_child x3 hgr4) ⟨va_cnB 2 hts (wG_good k_co_X11_entry) rfl rfl rfl (jN_l nl_X10_40 hN) (hts _ (wG_in k_in_X11 rfl)) hd_X11_entry.2 ⟨Nat.le_of_ble_eq_true rfl, Nat.le_of_ble_eq_true rfl⟩, hts _ (wG_in k_st_X11_entry rfl), trivial⟩ hP hD hS [1] rfl rfl rfl rfl hl.1 rfl (Nat.le_of_ble_eq_true rfl) dX10_isOneToOne_34 ⟨Nat.le_of_ble_eq_true rfl, Nat.le_of_ble_eq_true rfl⟩ (fun H locs hP hD hS => ?_)
    refine lv_ishl hx hb dX10_isOneToOne_37 ?_
    refine lv_ior hx hb dX10_isOneToOne_38 ?_
    obtain ⟨v5, hv5, hf⟩ := jV_some hf
    refine jtop hv5 ?_
    refine lv_istore_n (lv' := [(2, .int v5), (1, .int v3), (0, .ref a_t), (3, .int x3)]) hx hb dX10_isOneToOne_39 rfl hl (by decide) rfl (fun ls hl => ?_)
    refine lv_iinc (v := (x3 + 1)) (lv' := [(3, .int (x3 + 1)), (2, .int v5), (1, .int v3), (0, .ref a_t)]) hx hb dX10_isOneToOne_40 hl (k := 3) rfl (by first | rfl | decide) (by decide) rfl (fun ls hl => ?_)
    refine lv_goto (tgt := 6) hx hb dX10_isOneToOne_43 (by decide) ?_
    have ho := Option.some.inj hf
    exact K.1 _ ho.symm _ _ _ hP hD hS (lv_sub hl [3, 2, 1, 0] rfl)
def f_X10_isOneToOne_l6 (s_t_size : Int32) (r_t_child r_t_wife : jA) (x1 x2 x3 : Int32) : Option ((Int32 × Int32)) :=
  jI (fun z => f_X10_isOneToOne_b6 s_t_size r_t_child r_t_wife z.1 z.2.1 z.2.2) jF (x1, x2, x3)
set_option maxHeartbeats 4000000 in
set_option maxRecDepth 100000 in
theorem t_X10_isOneToOne_l6 {p : Program} {l : Launch} {e : Env} {s : State} {m : MethodId} {args : Array Value} {below : List Frame} {meth : Method} {c : Code} {A : Nat → Prop} {Q : State → Prop} (G : jGt) (D : va_G) (cI cB cZ : ClassId) (a_t a_t_child a_t_wife : Nat) (u_t_husband u_t_father : Value) (s_t_size : Int32) (r_t_child r_t_wife : jA)  (C : jCx p s m args c cX10_isOneToOne 4 gX10_isOneToOne RX10 G D (jT cI cB cZ) A) : ∀ (n : Nat) (x1 x2 x3 : Int32) {eo : (Int32 × Int32)}, jI (fun z => f_X10_isOneToOne_b6 s_t_size r_t_child r_t_wife z.1 z.2.1 z.2.2) n (x1, x2, x3) = some eo → (∀ (H : Heap) (locs : List Loc) (ls : Array Slot), va_P D vwCl (w_X10_isOneToOne cI cB cZ a_t a_t_child a_t_wife u_t_husband u_t_father s_t_size r_t_child r_t_wife) H → va_D A (w_X10_isOneToOne cI cB cZ a_t a_t_child a_t_wife u_t_husband u_t_father s_t_size r_t_child r_t_wife) → va_S A s.heap H locs → lv_has ls 4 [(0, .ref a_t), (1, .int eo.1), (2, .int eo.2)] → W p l e rX10_isOneToOne s m args below meth c H locs 0 0 Q (F0 m 46 ls [])) → ∀ (H : Heap) (locs : List Loc) (ls : Array Slot), va_P D vwCl (w_X10_isOneToOne cI cB cZ a_t a_t_child a_t_wife u_t_husband u_t_father s_t_size r_t_child r_t_wife) H → va_D A (w_X10_isOneToOne cI cB cZ a_t a_t_child a_t_wife u_t_husband u_t_father s_t_size r_t_child r_t_wife) → va_S A s.heap H locs → lv_has ls 4 [(0, .ref a_t), (1, .int x1), (2, .int x2), (3, .int x3)] → W p l e rX10_isOneToOne s m args below meth c H locs 0 0 Q (F0 m 6 ls []) := by
  intro n
  induction n with
  | zero =>
    intro x1 x2 x3 eo hf
    exact (jI_zero hf).elim
  | succ n ih =>
    intro x1 x2 x3 eo hf K H locs ls hP hD hS hl
    obtain ⟨o, hb1, ho⟩ := jI_some hf
    rcases ho with ⟨z, rfl, hf2⟩ | rfl
    · exact t_X10_isOneToOne_b6 G D cI cB cZ a_t a_t_child a_t_wife u_t_husband u_t_father s_t_size r_t_child r_t_wife x1 x2 x3 C hb1 ⟨fun z2 hz H locs ls hP hD hS hl => by cases hz; exact ih z.1 z.2.1 z.2.2 hf2 K H locs ls hP hD hS hl, fun z2 hz => by cases hz⟩ hP hD hS hl
    · exact t_X10_isOneToOne_b6 G D cI cB cZ a_t a_t_child a_t_wife u_t_husband u_t_father s_t_size r_t_child r_t_wife x1 x2 x3 C hb1 ⟨fun z2 hz => (by cases hz), fun z2 hz => by cases hz; exact K⟩ hP hD hS hl
def f_X10_isOneToOne (s_t_size : Int32) (r_t_child r_t_wife : jA) : Option (Int32) :=
  jM (f_X10_isOneToOne_l6 s_t_size r_t_child r_t_wife (0 : Int32) (0 : Int32) (0 : Int32)) fun e6 =>
  jV (((1 : Int32) <<< (s_t_size &&& 31)) - (1 : Int32)) fun v7 =>
  if e6.1 = v7 then
  if e6.2 = v7 then
  some (1 : Int32)
  else
  some (0 : Int32)
  else
  some (0 : Int32)
set_option maxHeartbeats 4000000 in
set_option maxRecDepth 100000 in
theorem t_X10_isOneToOne {p : Program} {l : Launch} {e : Env} {s : State} {m : MethodId} {args : Array Value} {below : List Frame} {meth : Method} {c : Code} {A : Nat → Prop} {Q : State → Prop} (G : jGt) (D : va_G) (cI cB cZ : ClassId) (a_t a_t_child a_t_wife : Nat) (u_t_husband u_t_father : Value) (s_t_size : Int32) (r_t_child r_t_wife : jA)  (C : jCx p s m args c cX10_isOneToOne 4 gX10_isOneToOne RX10 G D (jT cI cB cZ) A) {o : Int32} (hf : f_X10_isOneToOne s_t_size r_t_child r_t_wife = some o) (K : ∀ (H : Heap) (locs : List Loc) (pc : Nat) (ls : Array Slot), (o = 0 ∨ o = 1) → va_P D vwCl (w_X10_isOneToOne cI cB cZ a_t a_t_child a_t_wife u_t_husband u_t_father s_t_size r_t_child r_t_wife) H → va_S A s.heap H locs → decode cX10_isOneToOne pc = .ok (.ireturn, 1) → W p l e rX10_isOneToOne s m args below meth c H locs 0 0 Q (F0 m pc ls [.int o])) {H : Heap} {locs : List Loc} {ls : Array Slot} (hP : va_P D vwCl (w_X10_isOneToOne cI cB cZ a_t a_t_child a_t_wife u_t_husband u_t_father s_t_size r_t_child r_t_wife) H) (hD : va_D A (w_X10_isOneToOne cI cB cZ a_t a_t_child a_t_wife u_t_husband u_t_father s_t_size r_t_child r_t_wife)) (hS : va_S A s.heap H locs) (hl : lv_has ls 4 [(0, .ref a_t)]) : W p l e rX10_isOneToOne s m args below meth c H locs 0 0 Q (F0 m 0 ls []) := by
  obtain ⟨⟨hx, hb, hml, hown, hts⟩, hK, hN, hA⟩ := C
  have C : jCx p s m args c cX10_isOneToOne 4 gX10_isOneToOne RX10 G D (jT cI cB cZ) A := ⟨⟨hx, hb, hml, hown, hts⟩, hK, hN, hA⟩
  unfold f_X10_isOneToOne at hf
  refine lv_iconst (v := (0 : Int32)) hx hb dX10_isOneToOne_0 (by decide) ?_
  refine lv_istore_n (lv' := [(1, .int (0 : Int32)), (0, .ref a_t)]) hx hb dX10_isOneToOne_1 rfl hl (by decide) rfl (fun ls hl => ?_)
  refine lv_iconst (v := (0 : Int32)) hx hb dX10_isOneToOne_2 (by decide) ?_
  refine lv_istore_n (lv' := [(2, .int (0 : Int32)), (1, .int (0 : Int32)), (0, .ref a_t)]) hx hb dX10_isOneToOne_3 rfl hl (by decide) rfl (fun ls hl => ?_)
  refine lv_iconst (v := (0 : Int32)) hx hb dX10_isOneToOne_4 (by decide) ?_
  refine lv_istore_n (lv' := [(3, .int (0 : Int32)), (2, .int (0 : Int32)), (1, .int (0 : Int32)), (0, .ref a_t)]) hx hb dX10_isOneToOne_5 rfl hl (by decide) rfl (fun ls hl => ?_)
  obtain ⟨e6, hg6, hf⟩ := jM_some hf
  refine t_X10_isOneToOne_l6 G D cI cB cZ a_t a_t_child a_t_wife u_t_husband u_t_father s_t_size r_t_child r_t_wife  C jF (0 : Int32) (0 : Int32) (0 : Int32) hg6 ?_ _ _ _ hP hD hS (lv_sub hl [3, 2, 1, 0] rfl)
  intro H locs ls hP hD hS hl
  refine lv_iconst (v := (1 : Int32)) hx hb dX10_isOneToOne_46 (by decide) ?_
  refine lv_aload_n hx hb dX10_isOneToOne_47 rfl (lv_at hl 0 rfl) ?_
  refine va_get (D := D) (ci := 9) (v := .int s_t_size) (C := RX10) (T := TX10) (N := 5) hx hb hts iw_X10 hown hK hP 0 rfl rfl 4 (by decide) (hts _ (wG_in k_fl_X10_30 rfl)) (fun _ h9 => h9) rfl dX10_isOneToOne_48 ?_
  refine lv_ishl hx hb dX10_isOneToOne_51 ?_
  refine lv_iconst (v := (1 : Int32)) hx hb dX10_isOneToOne_52 (by decide) ?_
  refine lv_isub hx hb dX10_isOneToOne_53 ?_
  obtain ⟨v7, hv7, hf⟩ := jV_some hf
  refine jtop hv7 ?_
  refine lv_istore_n (lv' := [(3, .int v7), (0, .ref a_t), (1, .int e6.1), (2, .int e6.2)]) hx hb dX10_isOneToOne_54 rfl hl (by decide) rfl (fun ls hl => ?_)
  refine lv_iload_n hx hb dX10_isOneToOne_55 rfl (lv_at hl 2 rfl) ?_
  refine lv_iload_n hx hb dX10_isOneToOne_56 rfl (lv_at hl 0 rfl) ?_
  refine lv_icmp_ne (tgt := 69) hx hb dX10_isOneToOne_57 (by decide) (fun c8 => ?_) (fun c8 => ?_)
  · replace hf := jif_f c8 hf
    refine lv_iconst (v := (0 : Int32)) hx hb dX10_isOneToOne_69 (by decide) ?_
    have ho := Option.some.inj hf
    subst ho
    exact K _ _ _ _ (Or.inl rfl) hP hS dX10_isOneToOne_70
  · replace hf := jif_t c8 hf
    refine lv_iload_n hx hb dX10_isOneToOne_60 rfl (lv_at hl 3 rfl) ?_
    refine lv_iload_n hx hb dX10_isOneToOne_61 rfl (lv_at hl 0 rfl) ?_
    refine lv_icmp_ne (tgt := 69) hx hb dX10_isOneToOne_62 (by decide) (fun c9 => ?_) (fun c9 => ?_)
    · replace hf := jif_f c9 hf
      refine lv_iconst (v := (0 : Int32)) hx hb dX10_isOneToOne_69 (by decide) ?_
      have ho := Option.some.inj hf
      subst ho
      exact K _ _ _ _ (Or.inl rfl) hP hS dX10_isOneToOne_70
    · replace hf := jif_t c9 hf
      refine lv_iconst (v := (1 : Int32)) hx hb dX10_isOneToOne_65 (by decide) ?_
      refine lv_goto (tgt := 70) hx hb dX10_isOneToOne_66 (by decide) ?_
      have ho := Option.some.inj hf
      subst ho
      exact K _ _ _ _ (Or.inr rfl) hP hS dX10_isOneToOne_70
set_option maxHeartbeats 4000000 in
set_option maxRecDepth 100000 in
theorem c_X10_isOneToOne (l : Launch) (G : jGt) (D : va_G) (cI cB cZ : ClassId) (a_t a_t_child a_t_wife : Nat) (u_t_husband u_t_father : Value) (s_t_size : Int32) (r_t_child r_t_wife : jA)  {o : Int32} (hf : f_X10_isOneToOne s_t_size r_t_child r_t_wife = some o) : jMi l yX10_isOneToOne gX10_isOneToOne rX10_isOneToOne G D (jT cI cB cZ) [.ref a_t] (w_X10_isOneToOne cI cB cZ a_t a_t_child a_t_wife u_t_husband u_t_father s_t_size r_t_child r_t_wife) (w_X10_isOneToOne cI cB cZ a_t a_t_child a_t_wife u_t_husband u_t_father s_t_size r_t_child r_t_wife) o := by
  refine jmk_z RX10 rfl (by decide +kernel) rfl (Nat.le_of_ble_eq_true rfl) rfl ?_
  intro p e s m args below meth c ls A Q C hP hD hS hl K
  exact t_X10_isOneToOne G D cI cB cZ a_t a_t_child a_t_wife u_t_husband u_t_father s_t_size r_t_child r_t_wife  C hf K hP hD hS hl
abbrev rX10_packed : Room := { frames := 2, cells := 0, slots := 0, locals := 43 }
abbrev gX10_packed : List Cond := wG yX10_packed cX10_packed 4 (some .int)
def w_X10_packed (cI cB cZ : ClassId) (a_t a_t_child a_t_wife : Nat) (u_t_husband u_t_father : Value) (s_t_size : Int32) (r_t_child r_t_wife : jA) : va_W := [(a_t, .inr (9, (oX10 (.ref a_t_wife) (.ref a_t_child) u_t_husband u_t_father s_t_size))), (a_t_child, .inl (cI, r_t_child.1, .inl r_t_child.2)), (a_t_wife, .inl (cI, r_t_wife.1, .inl r_t_wife.2))]
def f_X10_packed_b4 (s_t_size : Int32) (r_t_child r_t_wife : jA) (x1 x2 x3 : Int32) : Option ((Int32 × Int32) ⊕ ((Int32))) :=
  if s_t_size ≤ x3 then
  some (Sum.inr x2)
  else
  jM (f_X10_tieOf r_t_child r_t_wife x1 x3) fun r2 =>
  jV (x2 ||| ((r2 &&& (7 : Int32)) <<< (((3 : Int32) * x3) &&& 31))) fun v3 =>
  some (Sum.inl (v3, (x3 + 1)))
set_option maxHeartbeats 4000000 in
set_option maxRecDepth 100000 in
theorem t_X10_packed_b4 {p : Program} {l : Launch} {e : Env} {s : State} {m : MethodId} {args : Array Value} {below : List Frame} {meth : Method} {c : Code} {A : Nat → Prop} {Q : State → Prop} (G : jGt) (D : va_G) (cI cB cZ : ClassId) (a_t a_t_child a_t_wife : Nat) (u_t_husband u_t_father : Value) (s_t_size : Int32) (r_t_child r_t_wife : jA) (x1 x2 x3 : Int32) (C : jCx p s m args c cX10_packed 4 gX10_packed RX10 G D (jT cI cB cZ) A) {o : (Int32 × Int32) ⊕ ((Int32))} (hf : f_X10_packed_b4 s_t_size r_t_child r_t_wife x1 x2 x3 = some o) (K : (∀ z, o = Sum.inl z → ∀ (H : Heap) (locs : List Loc) (ls : Array Slot), va_P D vwCl (w_X10_packed cI cB cZ a_t a_t_child a_t_wife u_t_husband u_t_father s_t_size r_t_child r_t_wife) H → va_D A (w_X10_packed cI cB cZ a_t a_t_child a_t_wife u_t_husband u_t_father s_t_size r_t_child r_t_wife) → va_S A s.heap H locs → lv_has ls 4 [(0, .ref a_t), (1, .int x1), (2, .int z.1), (3, .int z.2)] → W p l e rX10_packed s m args below meth c H locs 0 0 Q (F0 m 4 ls [])) ∧ (∀ z, o = Sum.inr z → ∀ (H : Heap) (locs : List Loc) (ls : Array Slot), va_P D vwCl (w_X10_packed cI cB cZ a_t a_t_child a_t_wife u_t_husband u_t_father s_t_size r_t_child r_t_wife) H → va_D A (w_X10_packed cI cB cZ a_t a_t_child a_t_wife u_t_husband u_t_father s_t_size r_t_child r_t_wife) → va_S A s.heap H locs → lv_has ls 4 [(2, .int z)] → W p l e rX10_packed s m args below meth c H locs 0 0 Q (F0 m 34 ls []))) {H : Heap} {locs : List Loc} {ls : Array Slot} (hP : va_P D vwCl (w_X10_packed cI cB cZ a_t a_t_child a_t_wife u_t_husband u_t_father s_t_size r_t_child r_t_wife) H) (hD : va_D A (w_X10_packed cI cB cZ a_t a_t_child a_t_wife u_t_husband u_t_father s_t_size r_t_child r_t_wife)) (hS : va_S A s.heap H locs) (hl : lv_has ls 4 [(0, .ref a_t), (1, .int x1), (2, .int x2), (3, .int x3)]) : W p l e rX10_packed s m args below meth c H locs 0 0 Q (F0 m 4 ls []) := by
  obtain ⟨⟨hx, hb, hml, hown, hts⟩, hK, hN, hA⟩ := C
  have C : jCx p s m args c cX10_packed 4 gX10_packed RX10 G D (jT cI cB cZ) A := ⟨⟨hx, hb, hml, hown, hts⟩, hK, hN, hA⟩
  unfold f_X10_packed_b4 at hf
  refine lv_iload_n hx hb dX10_packed_4 rfl (lv_at hl 3 rfl) ?_
  refine lv_aload_n hx hb dX10_packed_5 rfl (lv_at hl 0 rfl) ?_
  refine va_get (D := D) (ci := 9) (v := .int s_t_size) (C := RX10) (T := TX10) (N := 5) hx hb hts iw_X10 hown hK hP 0 rfl rfl 4 (by decide) (hts _ (wG_in k_fl_X10_30 rfl)) (fun _ h9 => h9) rfl dX10_packed_6 ?_
  refine lv_icmp_ge (tgt := 34) hx hb dX10_packed_9 (by decide) (fun c1 => ?_) (fun c1 => ?_)
  · replace hf := jif_t c1 hf
    have ho := Option.some.inj hf
    exact (K.2 _ ho.symm) _ _ _ hP hD hS (lv_sub hl [2] rfl)
  · replace hf := jif_f c1 hf
    refine lv_iload_n hx hb dX10_packed_12 rfl (lv_at hl 2 rfl) ?_
    refine lv_aload_n hx hb dX10_packed_13 rfl (lv_at hl 0 rfl) ?_
    refine lv_iload_n hx hb dX10_packed_14 rfl (lv_at hl 1 rfl) ?_
    refine lv_iload_n hx hb dX10_packed_15 rfl (lv_at hl 3 rfl) ?_
    obtain ⟨r2, hgr2, hf⟩ := jM_some hf
    refine jcV_i0 (As := [.int x1, .int x3]) (rest := [.int x2]) ⟨hx, hb, hml, hown, hts⟩ hK hN hA (c_X10_tieOf l G D cI cB cZ a_t a_t_child a_t_wife u_t_husband u_t_father s_t_size r_t_child r_t_wife x1 x3 hgr2) (cwV 2 hts (wG_V k_ml_X10_118 k_im_X10_tieOf k_se_X10_tieOf k_in_X10 k_co_X10_tieOf) rfl rfl rfl hd_X10_tieOf ⟨Nat.le_of_ble_eq_true rfl, Nat.le_of_ble_eq_true rfl⟩) hP hD hS [0, 1, 2] rfl rfl rfl (ci := 9) rfl 0 rfl rfl rfl hl.1 rfl (Nat.le_of_ble_eq_true rfl) dX10_packed_16 ⟨Nat.le_of_ble_eq_true rfl, Nat.le_of_ble_eq_true rfl⟩ (fun H locs hP hD hS => ?_)
    refine lv_bipush (v := (7 : Int32)) hx hb dX10_packed_19 (by decide) ?_
    refine lv_iand hx hb dX10_packed_21 ?_
    refine lv_iconst (v := (3 : Int32)) hx hb dX10_packed_22 (by decide) ?_
    refine lv_iload_n hx hb dX10_packed_23 rfl (lv_at hl 3 rfl) ?_
    refine lv_imul hx hb dX10_packed_24 ?_
    refine lv_ishl hx hb dX10_packed_25 ?_
    refine lv_ior hx hb dX10_packed_26 ?_
    obtain ⟨v3, hv3, hf⟩ := jV_some hf
    refine jtop hv3 ?_
    refine lv_istore_n (lv' := [(2, .int v3), (0, .ref a_t), (1, .int x1), (3, .int x3)]) hx hb dX10_packed_27 rfl hl (by decide) rfl (fun ls hl => ?_)
    refine lv_iinc (v := (x3 + 1)) (lv' := [(3, .int (x3 + 1)), (2, .int v3), (0, .ref a_t), (1, .int x1)]) hx hb dX10_packed_28 hl (k := 3) rfl (by first | rfl | decide) (by decide) rfl (fun ls hl => ?_)
    refine lv_goto (tgt := 4) hx hb dX10_packed_31 (by decide) ?_
    have ho := Option.some.inj hf
    exact K.1 _ ho.symm _ _ _ hP hD hS (lv_sub hl [2, 3, 1, 0] rfl)
def f_X10_packed_l4 (s_t_size : Int32) (r_t_child r_t_wife : jA) (x1 x2 x3 : Int32) : Option ((Int32)) :=
  jI (fun z => f_X10_packed_b4 s_t_size r_t_child r_t_wife x1 z.1 z.2) jF (x2, x3)
set_option maxHeartbeats 4000000 in
set_option maxRecDepth 100000 in
theorem t_X10_packed_l4 {p : Program} {l : Launch} {e : Env} {s : State} {m : MethodId} {args : Array Value} {below : List Frame} {meth : Method} {c : Code} {A : Nat → Prop} {Q : State → Prop} (G : jGt) (D : va_G) (cI cB cZ : ClassId) (a_t a_t_child a_t_wife : Nat) (u_t_husband u_t_father : Value) (s_t_size : Int32) (r_t_child r_t_wife : jA) (x1 : Int32) (C : jCx p s m args c cX10_packed 4 gX10_packed RX10 G D (jT cI cB cZ) A) : ∀ (n : Nat) (x2 x3 : Int32) {eo : (Int32)}, jI (fun z => f_X10_packed_b4 s_t_size r_t_child r_t_wife x1 z.1 z.2) n (x2, x3) = some eo → (∀ (H : Heap) (locs : List Loc) (ls : Array Slot), va_P D vwCl (w_X10_packed cI cB cZ a_t a_t_child a_t_wife u_t_husband u_t_father s_t_size r_t_child r_t_wife) H → va_D A (w_X10_packed cI cB cZ a_t a_t_child a_t_wife u_t_husband u_t_father s_t_size r_t_child r_t_wife) → va_S A s.heap H locs → lv_has ls 4 [(2, .int eo)] → W p l e rX10_packed s m args below meth c H locs 0 0 Q (F0 m 34 ls [])) → ∀ (H : Heap) (locs : List Loc) (ls : Array Slot), va_P D vwCl (w_X10_packed cI cB cZ a_t a_t_child a_t_wife u_t_husband u_t_father s_t_size r_t_child r_t_wife) H → va_D A (w_X10_packed cI cB cZ a_t a_t_child a_t_wife u_t_husband u_t_father s_t_size r_t_child r_t_wife) → va_S A s.heap H locs → lv_has ls 4 [(0, .ref a_t), (1, .int x1), (2, .int x2), (3, .int x3)] → W p l e rX10_packed s m args below meth c H locs 0 0 Q (F0 m 4 ls []) := by
  intro n
  induction n with
  | zero =>
    intro x2 x3 eo hf
    exact (jI_zero hf).elim
  | succ n ih =>
    intro x2 x3 eo hf K H locs ls hP hD hS hl
    obtain ⟨o, hb1, ho⟩ := jI_some hf
    rcases ho with ⟨z, rfl, hf2⟩ | rfl
    · exact t_X10_packed_b4 G D cI cB cZ a_t a_t_child a_t_wife u_t_husband u_t_father s_t_size r_t_child r_t_wife x1 x2 x3 C hb1 ⟨fun z2 hz H locs ls hP hD hS hl => by cases hz; exact ih z.1 z.2 hf2 K H locs ls hP hD hS hl, fun z2 hz => by cases hz⟩ hP hD hS hl
    · exact t_X10_packed_b4 G D cI cB cZ a_t a_t_child a_t_wife u_t_husband u_t_father s_t_size r_t_child r_t_wife x1 x2 x3 C hb1 ⟨fun z2 hz => (by cases hz), fun z2 hz => by cases hz; exact K⟩ hP hD hS hl
def f_X10_packed (s_t_size : Int32) (r_t_child r_t_wife : jA) (x1 : Int32) : Option (Int32) :=
  jM (f_X10_packed_l4 s_t_size r_t_child r_t_wife x1 (0 : Int32) (0 : Int32)) fun e4 =>
  some e4
set_option maxHeartbeats 4000000 in
set_option maxRecDepth 100000 in
theorem t_X10_packed {p : Program} {l : Launch} {e : Env} {s : State} {m : MethodId} {args : Array Value} {below : List Frame} {meth : Method} {c : Code} {A : Nat → Prop} {Q : State → Prop} (G : jGt) (D : va_G) (cI cB cZ : ClassId) (a_t a_t_child a_t_wife : Nat) (u_t_husband u_t_father : Value) (s_t_size : Int32) (r_t_child r_t_wife : jA) (x1 : Int32) (C : jCx p s m args c cX10_packed 4 gX10_packed RX10 G D (jT cI cB cZ) A) {o : Int32} (hf : f_X10_packed s_t_size r_t_child r_t_wife x1 = some o) (K : ∀ (H : Heap) (locs : List Loc) (pc : Nat) (ls : Array Slot), va_P D vwCl (w_X10_packed cI cB cZ a_t a_t_child a_t_wife u_t_husband u_t_father s_t_size r_t_child r_t_wife) H → va_S A s.heap H locs → decode cX10_packed pc = .ok (.ireturn, 1) → W p l e rX10_packed s m args below meth c H locs 0 0 Q (F0 m pc ls [.int o])) {H : Heap} {locs : List Loc} {ls : Array Slot} (hP : va_P D vwCl (w_X10_packed cI cB cZ a_t a_t_child a_t_wife u_t_husband u_t_father s_t_size r_t_child r_t_wife) H) (hD : va_D A (w_X10_packed cI cB cZ a_t a_t_child a_t_wife u_t_husband u_t_father s_t_size r_t_child r_t_wife)) (hS : va_S A s.heap H locs) (hl : lv_has ls 4 [(0, .ref a_t), (1, .int x1)]) : W p l e rX10_packed s m args below meth c H locs 0 0 Q (F0 m 0 ls []) := by
  obtain ⟨⟨hx, hb, hml, hown, hts⟩, hK, hN, hA⟩ := C
  have C : jCx p s m args c cX10_packed 4 gX10_packed RX10 G D (jT cI cB cZ) A := ⟨⟨hx, hb, hml, hown, hts⟩, hK, hN, hA⟩
  unfold f_X10_packed at hf
  refine lv_iconst (v := (0 : Int32)) hx hb dX10_packed_0 (by decide) ?_
  refine lv_istore_n (lv' := [(2, .int (0 : Int32)), (0, .ref a_t), (1, .int x1)]) hx hb dX10_packed_1 rfl hl (by decide) rfl (fun ls hl => ?_)
  refine lv_iconst (v := (0 : Int32)) hx hb dX10_packed_2 (by decide) ?_
  refine lv_istore_n (lv' := [(3, .int (0 : Int32)), (2, .int (0 : Int32)), (0, .ref a_t), (1, .int x1)]) hx hb dX10_packed_3 rfl hl (by decide) rfl (fun ls hl => ?_)
  obtain ⟨e4, hg4, hf⟩ := jM_some hf
  refine t_X10_packed_l4 G D cI cB cZ a_t a_t_child a_t_wife u_t_husband u_t_father s_t_size r_t_child r_t_wife x1 C jF (0 : Int32) (0 : Int32) hg4 ?_ _ _ _ hP hD hS (lv_sub hl [2, 3, 1, 0] rfl)
  intro H locs ls hP hD hS hl
  refine lv_iload_n hx hb dX10_packed_34 rfl (lv_at hl 0 rfl) ?_
  have ho := Option.some.inj hf
  subst ho
  exact K _ _ _ _ hP hS dX10_packed_35
set_option maxHeartbeats 4000000 in
set_option maxRecDepth 100000 in
theorem c_X10_packed (l : Launch) (G : jGt) (D : va_G) (cI cB cZ : ClassId) (a_t a_t_child a_t_wife : Nat) (u_t_husband u_t_father : Value) (s_t_size : Int32) (r_t_child r_t_wife : jA) (x1 : Int32) {o : Int32} (hf : f_X10_packed s_t_size r_t_child r_t_wife x1 = some o) : jMi l yX10_packed gX10_packed rX10_packed G D (jT cI cB cZ) [.ref a_t, .int x1] (w_X10_packed cI cB cZ a_t a_t_child a_t_wife u_t_husband u_t_father s_t_size r_t_child r_t_wife) (w_X10_packed cI cB cZ a_t a_t_child a_t_wife u_t_husband u_t_father s_t_size r_t_child r_t_wife) o := by
  refine jmk_i RX10 rfl (by decide +kernel) rfl (Nat.le_of_ble_eq_true rfl) rfl ?_
  intro p e s m args below meth c ls A Q C hP hD hS hl K
  exact t_X10_packed G D cI cB cZ a_t a_t_child a_t_wife u_t_husband u_t_father s_t_size r_t_child r_t_wife x1 C hf K hP hD hS hl
abbrev rX9_nothingDone : Room := { frames := 0, cells := 0, slots := 0, locals := 0 }
abbrev gX9_nothingDone : List Cond := wG yX9_nothingDone cX9_nothingDone 3 (some .int)
def w_X9_nothingDone (cI cB cZ : ClassId) (a_t : Nat) (u_t_wives u_t_children u_t_count u_t_many : Int32) (u_t_turn u_t_slot u_t_byWife u_t_byChild u_t_byHusband u_t_byFather u_t_searched u_t_before u_t_queue u_t_ways u_t_nextWays : Value) (s_t_size : Int32) : va_W := [(a_t, .inr (8, (oX9 s_t_size u_t_wives u_t_children u_t_count u_t_many u_t_turn u_t_slot u_t_byWife u_t_byChild u_t_byHusband u_t_byFather u_t_searched u_t_before u_t_queue u_t_ways u_t_nextWays)))]
def f_X9_nothingDone_b4 (s_t_size x1 x2 : Int32) : Option ((Int32 × Int32) ⊕ ((Int32))) :=
  if s_t_size ≤ x2 then
  some (Sum.inr x1)
  else
  jV (x1 ||| (x2 <<< (((3 : Int32) * x2) &&& 31))) fun v2 =>
  some (Sum.inl (v2, (x2 + 1)))
set_option maxHeartbeats 4000000 in
set_option maxRecDepth 100000 in
theorem t_X9_nothingDone_b4 {p : Program} {l : Launch} {e : Env} {s : State} {m : MethodId} {args : Array Value} {below : List Frame} {meth : Method} {c : Code} {A : Nat → Prop} {Q : State → Prop} (G : jGt) (D : va_G) (cI cB cZ : ClassId) (a_t : Nat) (u_t_wives u_t_children u_t_count u_t_many : Int32) (u_t_turn u_t_slot u_t_byWife u_t_byChild u_t_byHusband u_t_byFather u_t_searched u_t_before u_t_queue u_t_ways u_t_nextWays : Value) (s_t_size : Int32) (x1 x2 : Int32) (C : jCx p s m args c cX9_nothingDone 3 gX9_nothingDone RX9 G D (jT cI cB cZ) A) {o : (Int32 × Int32) ⊕ ((Int32))} (hf : f_X9_nothingDone_b4 s_t_size x1 x2 = some o) (K : (∀ z, o = Sum.inl z → ∀ (H : Heap) (locs : List Loc) (ls : Array Slot), va_P D vwCl (w_X9_nothingDone cI cB cZ a_t u_t_wives u_t_children u_t_count u_t_many u_t_turn u_t_slot u_t_byWife u_t_byChild u_t_byHusband u_t_byFather u_t_searched u_t_before u_t_queue u_t_ways u_t_nextWays s_t_size) H → va_D A (w_X9_nothingDone cI cB cZ a_t u_t_wives u_t_children u_t_count u_t_many u_t_turn u_t_slot u_t_byWife u_t_byChild u_t_byHusband u_t_byFather u_t_searched u_t_before u_t_queue u_t_ways u_t_nextWays s_t_size) → va_S A s.heap H locs → lv_has ls 3 [(0, .ref a_t), (1, .int z.1), (2, .int z.2)] → W p l e rX9_nothingDone s m args below meth c H locs 0 0 Q (F0 m 4 ls [])) ∧ (∀ z, o = Sum.inr z → ∀ (H : Heap) (locs : List Loc) (ls : Array Slot), va_P D vwCl (w_X9_nothingDone cI cB cZ a_t u_t_wives u_t_children u_t_count u_t_many u_t_turn u_t_slot u_t_byWife u_t_byChild u_t_byHusband u_t_byFather u_t_searched u_t_before u_t_queue u_t_ways u_t_nextWays s_t_size) H → va_D A (w_X9_nothingDone cI cB cZ a_t u_t_wives u_t_children u_t_count u_t_many u_t_turn u_t_slot u_t_byWife u_t_byChild u_t_byHusband u_t_byFather u_t_searched u_t_before u_t_queue u_t_ways u_t_nextWays s_t_size) → va_S A s.heap H locs → lv_has ls 3 [(1, .int z)] → W p l e rX9_nothingDone s m args below meth c H locs 0 0 Q (F0 m 26 ls []))) {H : Heap} {locs : List Loc} {ls : Array Slot} (hP : va_P D vwCl (w_X9_nothingDone cI cB cZ a_t u_t_wives u_t_children u_t_count u_t_many u_t_turn u_t_slot u_t_byWife u_t_byChild u_t_byHusband u_t_byFather u_t_searched u_t_before u_t_queue u_t_ways u_t_nextWays s_t_size) H) (hD : va_D A (w_X9_nothingDone cI cB cZ a_t u_t_wives u_t_children u_t_count u_t_many u_t_turn u_t_slot u_t_byWife u_t_byChild u_t_byHusband u_t_byFather u_t_searched u_t_before u_t_queue u_t_ways u_t_nextWays s_t_size)) (hS : va_S A s.heap H locs) (hl : lv_has ls 3 [(0, .ref a_t), (1, .int x1), (2, .int x2)]) : W p l e rX9_nothingDone s m args below meth c H locs 0 0 Q (F0 m 4 ls []) := by
  obtain ⟨⟨hx, hb, hml, hown, hts⟩, hK, hN, hA⟩ := C
  have C : jCx p s m args c cX9_nothingDone 3 gX9_nothingDone RX9 G D (jT cI cB cZ) A := ⟨⟨hx, hb, hml, hown, hts⟩, hK, hN, hA⟩
  unfold f_X9_nothingDone_b4 at hf
  refine lv_iload_n hx hb dX9_nothingDone_4 rfl (lv_at hl 2 rfl) ?_
  refine lv_aload_n hx hb dX9_nothingDone_5 rfl (lv_at hl 0 rfl) ?_
  refine va_get (D := D) (ci := 8) (v := .int s_t_size) (C := RX9) (T := TX9) (N := 16) hx hb hts iw_X9 hown hK hP 0 rfl rfl 0 (by decide) (hts _ (wG_in k_fl_X9_66 rfl)) (fun _ h9 => h9) rfl dX9_nothingDone_6 ?_
  refine lv_icmp_ge (tgt := 26) hx hb dX9_nothingDone_9 (by decide) (fun c1 => ?_) (fun c1 => ?_)
  · replace hf := jif_t c1 hf
    have ho := Option.some.inj hf
    exact (K.2 _ ho.symm) _ _ _ hP hD hS (lv_sub hl [1] rfl)
  · replace hf := jif_f c1 hf
    refine lv_iload_n hx hb dX9_nothingDone_12 rfl (lv_at hl 1 rfl) ?_
    refine lv_iload_n hx hb dX9_nothingDone_13 rfl (lv_at hl 2 rfl) ?_
    refine lv_iconst (v := (3 : Int32)) hx hb dX9_nothingDone_14 (by decide) ?_
    refine lv_iload_n hx hb dX9_nothingDone_15 rfl (lv_at hl 2 rfl) ?_
    refine lv_imul hx hb dX9_nothingDone_16 ?_
    refine lv_ishl hx hb dX9_nothingDone_17 ?_
    refine lv_ior hx hb dX9_nothingDone_18 ?_
    obtain ⟨v2, hv2, hf⟩ := jV_some hf
    refine jtop hv2 ?_
    refine lv_istore_n (lv' := [(1, .int v2), (0, .ref a_t), (2, .int x2)]) hx hb dX9_nothingDone_19 rfl hl (by decide) rfl (fun ls hl => ?_)
    refine lv_iinc (v := (x2 + 1)) (lv' := [(2, .int (x2 + 1)), (1, .int v2), (0, .ref a_t)]) hx hb dX9_nothingDone_20 hl (k := 2) rfl (by first | rfl | decide) (by decide) rfl (fun ls hl => ?_)
    refine lv_goto (tgt := 4) hx hb dX9_nothingDone_23 (by decide) ?_
    have ho := Option.some.inj hf
    exact K.1 _ ho.symm _ _ _ hP hD hS (lv_sub hl [2, 1, 0] rfl)
def f_X9_nothingDone_l4 (s_t_size x1 x2 : Int32) : Option ((Int32)) :=
  jI (fun z => f_X9_nothingDone_b4 s_t_size z.1 z.2) jF (x1, x2)
set_option maxHeartbeats 4000000 in
set_option maxRecDepth 100000 in
theorem t_X9_nothingDone_l4 {p : Program} {l : Launch} {e : Env} {s : State} {m : MethodId} {args : Array Value} {below : List Frame} {meth : Method} {c : Code} {A : Nat → Prop} {Q : State → Prop} (G : jGt) (D : va_G) (cI cB cZ : ClassId) (a_t : Nat) (u_t_wives u_t_children u_t_count u_t_many : Int32) (u_t_turn u_t_slot u_t_byWife u_t_byChild u_t_byHusband u_t_byFather u_t_searched u_t_before u_t_queue u_t_ways u_t_nextWays : Value) (s_t_size : Int32)  (C : jCx p s m args c cX9_nothingDone 3 gX9_nothingDone RX9 G D (jT cI cB cZ) A) : ∀ (n : Nat) (x1 x2 : Int32) {eo : (Int32)}, jI (fun z => f_X9_nothingDone_b4 s_t_size z.1 z.2) n (x1, x2) = some eo → (∀ (H : Heap) (locs : List Loc) (ls : Array Slot), va_P D vwCl (w_X9_nothingDone cI cB cZ a_t u_t_wives u_t_children u_t_count u_t_many u_t_turn u_t_slot u_t_byWife u_t_byChild u_t_byHusband u_t_byFather u_t_searched u_t_before u_t_queue u_t_ways u_t_nextWays s_t_size) H → va_D A (w_X9_nothingDone cI cB cZ a_t u_t_wives u_t_children u_t_count u_t_many u_t_turn u_t_slot u_t_byWife u_t_byChild u_t_byHusband u_t_byFather u_t_searched u_t_before u_t_queue u_t_ways u_t_nextWays s_t_size) → va_S A s.heap H locs → lv_has ls 3 [(1, .int eo)] → W p l e rX9_nothingDone s m args below meth c H locs 0 0 Q (F0 m 26 ls [])) → ∀ (H : Heap) (locs : List Loc) (ls : Array Slot), va_P D vwCl (w_X9_nothingDone cI cB cZ a_t u_t_wives u_t_children u_t_count u_t_many u_t_turn u_t_slot u_t_byWife u_t_byChild u_t_byHusband u_t_byFather u_t_searched u_t_before u_t_queue u_t_ways u_t_nextWays s_t_size) H → va_D A (w_X9_nothingDone cI cB cZ a_t u_t_wives u_t_children u_t_count u_t_many u_t_turn u_t_slot u_t_byWife u_t_byChild u_t_byHusband u_t_byFather u_t_searched u_t_before u_t_queue u_t_ways u_t_nextWays s_t_size) → va_S A s.heap H locs → lv_has ls 3 [(0, .ref a_t), (1, .int x1), (2, .int x2)] → W p l e rX9_nothingDone s m args below meth c H locs 0 0 Q (F0 m 4 ls []) := by
  intro n
  induction n with
  | zero =>
    intro x1 x2 eo hf
    exact (jI_zero hf).elim
  | succ n ih =>
    intro x1 x2 eo hf K H locs ls hP hD hS hl
    obtain ⟨o, hb1, ho⟩ := jI_some hf
    rcases ho with ⟨z, rfl, hf2⟩ | rfl
    · exact t_X9_nothingDone_b4 G D cI cB cZ a_t u_t_wives u_t_children u_t_count u_t_many u_t_turn u_t_slot u_t_byWife u_t_byChild u_t_byHusband u_t_byFather u_t_searched u_t_before u_t_queue u_t_ways u_t_nextWays s_t_size x1 x2 C hb1 ⟨fun z2 hz H locs ls hP hD hS hl => by cases hz; exact ih z.1 z.2 hf2 K H locs ls hP hD hS hl, fun z2 hz => by cases hz⟩ hP hD hS hl
    · exact t_X9_nothingDone_b4 G D cI cB cZ a_t u_t_wives u_t_children u_t_count u_t_many u_t_turn u_t_slot u_t_byWife u_t_byChild u_t_byHusband u_t_byFather u_t_searched u_t_before u_t_queue u_t_ways u_t_nextWays s_t_size x1 x2 C hb1 ⟨fun z2 hz => (by cases hz), fun z2 hz => by cases hz; exact K⟩ hP hD hS hl
def f_X9_nothingDone (s_t_size : Int32) : Option (Int32) :=
  jM (f_X9_nothingDone_l4 s_t_size (0 : Int32) (0 : Int32)) fun e3 =>
  some e3
set_option maxHeartbeats 4000000 in
set_option maxRecDepth 100000 in
theorem t_X9_nothingDone {p : Program} {l : Launch} {e : Env} {s : State} {m : MethodId} {args : Array Value} {below : List Frame} {meth : Method} {c : Code} {A : Nat → Prop} {Q : State → Prop} (G : jGt) (D : va_G) (cI cB cZ : ClassId) (a_t : Nat) (u_t_wives u_t_children u_t_count u_t_many : Int32) (u_t_turn u_t_slot u_t_byWife u_t_byChild u_t_byHusband u_t_byFather u_t_searched u_t_before u_t_queue u_t_ways u_t_nextWays : Value) (s_t_size : Int32)  (C : jCx p s m args c cX9_nothingDone 3 gX9_nothingDone RX9 G D (jT cI cB cZ) A) {o : Int32} (hf : f_X9_nothingDone s_t_size = some o) (K : ∀ (H : Heap) (locs : List Loc) (pc : Nat) (ls : Array Slot), va_P D vwCl (w_X9_nothingDone cI cB cZ a_t u_t_wives u_t_children u_t_count u_t_many u_t_turn u_t_slot u_t_byWife u_t_byChild u_t_byHusband u_t_byFather u_t_searched u_t_before u_t_queue u_t_ways u_t_nextWays s_t_size) H → va_S A s.heap H locs → decode cX9_nothingDone pc = .ok (.ireturn, 1) → W p l e rX9_nothingDone s m args below meth c H locs 0 0 Q (F0 m pc ls [.int o])) {H : Heap} {locs : List Loc} {ls : Array Slot} (hP : va_P D vwCl (w_X9_nothingDone cI cB cZ a_t u_t_wives u_t_children u_t_count u_t_many u_t_turn u_t_slot u_t_byWife u_t_byChild u_t_byHusband u_t_byFather u_t_searched u_t_before u_t_queue u_t_ways u_t_nextWays s_t_size) H) (hD : va_D A (w_X9_nothingDone cI cB cZ a_t u_t_wives u_t_children u_t_count u_t_many u_t_turn u_t_slot u_t_byWife u_t_byChild u_t_byHusband u_t_byFather u_t_searched u_t_before u_t_queue u_t_ways u_t_nextWays s_t_size)) (hS : va_S A s.heap H locs) (hl : lv_has ls 3 [(0, .ref a_t)]) : W p l e rX9_nothingDone s m args below meth c H locs 0 0 Q (F0 m 0 ls []) := by
  obtain ⟨⟨hx, hb, hml, hown, hts⟩, hK, hN, hA⟩ := C
  have C : jCx p s m args c cX9_nothingDone 3 gX9_nothingDone RX9 G D (jT cI cB cZ) A := ⟨⟨hx, hb, hml, hown, hts⟩, hK, hN, hA⟩
  unfold f_X9_nothingDone at hf
  refine lv_iconst (v := (0 : Int32)) hx hb dX9_nothingDone_0 (by decide) ?_
  refine lv_istore_n (lv' := [(1, .int (0 : Int32)), (0, .ref a_t)]) hx hb dX9_nothingDone_1 rfl hl (by decide) rfl (fun ls hl => ?_)
  refine lv_iconst (v := (0 : Int32)) hx hb dX9_nothingDone_2 (by decide) ?_
  refine lv_istore_n (lv' := [(2, .int (0 : Int32)), (1, .int (0 : Int32)), (0, .ref a_t)]) hx hb dX9_nothingDone_3 rfl hl (by decide) rfl (fun ls hl => ?_)
  obtain ⟨e3, hg3, hf⟩ := jM_some hf
  refine t_X9_nothingDone_l4 G D cI cB cZ a_t u_t_wives u_t_children u_t_count u_t_many u_t_turn u_t_slot u_t_byWife u_t_byChild u_t_byHusband u_t_byFather u_t_searched u_t_before u_t_queue u_t_ways u_t_nextWays s_t_size  C jF (0 : Int32) (0 : Int32) hg3 ?_ _ _ _ hP hD hS (lv_sub hl [2, 1, 0] rfl)
  intro H locs ls hP hD hS hl
  refine lv_iload_n hx hb dX9_nothingDone_26 rfl (lv_at hl 0 rfl) ?_
  have ho := Option.some.inj hf
  subst ho
  exact K _ _ _ _ hP hS dX9_nothingDone_27
set_option maxHeartbeats 4000000 in
set_option maxRecDepth 100000 in
theorem c_X9_nothingDone (l : Launch) (G : jGt) (D : va_G) (cI cB cZ : ClassId) (a_t : Nat) (u_t_wives u_t_children u_t_count u_t_many : Int32) (u_t_turn u_t_slot u_t_byWife u_t_byChild u_t_byHusband u_t_byFather u_t_searched u_t_before u_t_queue u_t_ways u_t_nextWays : Value) (s_t_size : Int32)  {o : Int32} (hf : f_X9_nothingDone s_t_size = some o) : jMi l yX9_nothingDone gX9_nothingDone rX9_nothingDone G D (jT cI cB cZ) [.ref a_t] (w_X9_nothingDone cI cB cZ a_t u_t_wives u_t_children u_t_count u_t_many u_t_turn u_t_slot u_t_byWife u_t_byChild u_t_byHusband u_t_byFather u_t_searched u_t_before u_t_queue u_t_ways u_t_nextWays s_t_size) (w_X9_nothingDone cI cB cZ a_t u_t_wives u_t_children u_t_count u_t_many u_t_turn u_t_slot u_t_byWife u_t_byChild u_t_byHusband u_t_byFather u_t_searched u_t_before u_t_queue u_t_ways u_t_nextWays s_t_size) o := by
  refine jmk_i RX9 rfl (by decide +kernel) rfl (Nat.le_of_ble_eq_true rfl) rfl ?_
  intro p e s m args below meth c ls A Q C hP hD hS hl K
  exact t_X9_nothingDone G D cI cB cZ a_t u_t_wives u_t_children u_t_count u_t_many u_t_turn u_t_slot u_t_byWife u_t_byChild u_t_byHusband u_t_byFather u_t_searched u_t_before u_t_queue u_t_ways u_t_nextWays s_t_size  C hf K hP hD hS hl
abbrev rX9_add : Room := { frames := 1, cells := 0, slots := 0, locals := 22 }
abbrev gX9_add : List Cond := wG yX9_add cX9_add 3 (some .int)
def w_X9_add (cI cB cZ : ClassId) (a_t a_t_slot a_t_turn : Nat) (u_t_size u_t_wives u_t_children : Int32) (u_t_byWife u_t_byChild u_t_byHusband u_t_byFather u_t_searched u_t_before u_t_queue u_t_ways u_t_nextWays : Value) (s_t_count s_t_many : Int32) (r_t_slot r_t_turn : jA) : va_W := [(a_t, .inr (8, (oX9 u_t_size u_t_wives u_t_children s_t_count s_t_many (.ref a_t_turn) (.ref a_t_slot) u_t_byWife u_t_byChild u_t_byHusband u_t_byFather u_t_searched u_t_before u_t_queue u_t_ways u_t_nextWays))), (a_t_slot, .inl (cI, r_t_slot.1, .inl r_t_slot.2)), (a_t_turn, .inl (cI, r_t_turn.1, .inl r_t_turn.2))]
def f_X9_add (s_t_count s_t_many : Int32) (r_t_slot r_t_turn : jA) (x1 x2 : Int32) : Option (Int32 × Int32 × Int32 × jA × jA) :=
  if s_t_count < (500 : Int32) then
  jM (f_X11_set r_t_turn s_t_count x1) fun r2 =>
  jV (s_t_count + (1 : Int32)) fun v3 =>
  jM (f_X11_set r_t_slot x2 v3) fun r4 =>
  some ((v3 - (1 : Int32)), v3, s_t_many, r4, r2)
  else
  some ((-1 : Int32), s_t_count, (1 : Int32), r_t_slot, r_t_turn)
set_option maxHeartbeats 4000000 in
set_option maxRecDepth 100000 in
theorem t_X9_add {p : Program} {l : Launch} {e : Env} {s : State} {m : MethodId} {args : Array Value} {below : List Frame} {meth : Method} {c : Code} {A : Nat → Prop} {Q : State → Prop} (G : jGt) (D : va_G) (cI cB cZ : ClassId) (a_t a_t_slot a_t_turn : Nat) (u_t_size u_t_wives u_t_children : Int32) (u_t_byWife u_t_byChild u_t_byHusband u_t_byFather u_t_searched u_t_before u_t_queue u_t_ways u_t_nextWays : Value) (s_t_count s_t_many : Int32) (r_t_slot r_t_turn : jA) (x1 x2 : Int32) (C : jCx p s m args c cX9_add 3 gX9_add RX9 G D (jT cI cB cZ) A) {o : Int32 × Int32 × Int32 × jA × jA} (hf : f_X9_add s_t_count s_t_many r_t_slot r_t_turn x1 x2 = some o) (K : ∀ (H : Heap) (locs : List Loc) (pc : Nat) (ls : Array Slot), va_P D vwCl (w_X9_add cI cB cZ a_t a_t_slot a_t_turn u_t_size u_t_wives u_t_children u_t_byWife u_t_byChild u_t_byHusband u_t_byFather u_t_searched u_t_before u_t_queue u_t_ways u_t_nextWays o.2.1 o.2.2.1 o.2.2.2.1 o.2.2.2.2) H → va_S A s.heap H locs → decode cX9_add pc = .ok (.ireturn, 1) → W p l e rX9_add s m args below meth c H locs 0 0 Q (F0 m pc ls [.int o.1])) {H : Heap} {locs : List Loc} {ls : Array Slot} (hP : va_P D vwCl (w_X9_add cI cB cZ a_t a_t_slot a_t_turn u_t_size u_t_wives u_t_children u_t_byWife u_t_byChild u_t_byHusband u_t_byFather u_t_searched u_t_before u_t_queue u_t_ways u_t_nextWays s_t_count s_t_many r_t_slot r_t_turn) H) (hD : va_D A (w_X9_add cI cB cZ a_t a_t_slot a_t_turn u_t_size u_t_wives u_t_children u_t_byWife u_t_byChild u_t_byHusband u_t_byFather u_t_searched u_t_before u_t_queue u_t_ways u_t_nextWays s_t_count s_t_many r_t_slot r_t_turn)) (hS : va_S A s.heap H locs) (hl : lv_has ls 3 [(0, .ref a_t), (1, .int x1), (2, .int x2)]) : W p l e rX9_add s m args below meth c H locs 0 0 Q (F0 m 0 ls []) := by
  obtain ⟨⟨hx, hb, hml, hown, hts⟩, hK, hN, hA⟩ := C
  have C : jCx p s m args c cX9_add 3 gX9_add RX9 G D (jT cI cB cZ) A := ⟨⟨hx, hb, hml, hown, hts⟩, hK, hN, hA⟩
  unfold f_X9_add at hf
  refine lv_aload_n hx hb dX9_add_0 rfl (lv_at hl 0 rfl) ?_
  refine va_get (D := D) (ci := 8) (v := .int s_t_count) (C := RX9) (T := TX9) (N := 16) hx hb hts iw_X9 hown hK hP 0 rfl rfl 3 (by decide) (hts _ (wG_in k_fl_X9_56 rfl)) (fun _ h9 => h9) rfl dX9_add_1 ?_
  refine lv_sipush (v := (500 : Int32)) hx hb dX9_add_4 (by decide) ?_
  refine lv_icmp_lt (tgt := 17) hx hb dX9_add_7 (by decide) (fun c1 => ?_) (fun c1 => ?_)
  · replace hf := jif_t c1 hf
    refine lv_aload_n hx hb dX9_add_17 rfl (lv_at hl 0 rfl) ?_
    refine va_get (D := D) (ci := 8) (v := .ref a_t_turn) (C := RX9) (T := TX9) (N := 16) hx hb hts iw_X9 hown hK hP 0 rfl rfl 5 (by decide) (hts _ (wG_in k_fl_X9_11 rfl)) (fun _ h9 => h9) rfl dX9_add_18 ?_
    refine lv_aload_n hx hb dX9_add_21 rfl (lv_at hl 0 rfl) ?_
    refine va_get (D := D) (ci := 8) (v := .int s_t_count) (C := RX9) (T := TX9) (N := 16) hx hb hts iw_X9 hown hK hP 0 rfl rfl 3 (by decide) (hts _ (wG_in k_fl_X9_56 rfl)) (fun _ h9 => h9) rfl dX9_add_22 ?_
    refine lv_iload_n hx hb dX9_add_25 rfl (lv_at hl 1 rfl) ?_
    obtain ⟨r2, hgr2, hf⟩ := jM_some hf
    refine jcN_v (As := [.ref a_t_turn, .int s_t_count, .int x1]) (rest := []) ⟨hx, hb, hml, hown, hts⟩ hK hN hA (c_X11_set l G D cI cB cZ a_t_turn r_t_turn s_t_count x1 hgr2) ⟨va_cnB 3 hts (wG_good k_co_X11_set) rfl rfl rfl (jN_l nl_X9_94 hN) (hts _ (wG_in k_in_X11 rfl)) hd_X11_set.2 ⟨Nat.le_of_ble_eq_true rfl, Nat.le_of_ble_eq_true rfl⟩, hts _ (wG_in k_st_X11_set rfl), trivial⟩ hP hD hS [2] rfl rfl rfl rfl hl.1 rfl (Nat.le_of_ble_eq_true rfl) dX9_add_26 ⟨Nat.le_of_ble_eq_true rfl, Nat.le_of_ble_eq_true rfl⟩ (fun H locs hP hD hS => ?_)
    have hP : va_P D vwCl (w_X9_add cI cB cZ a_t a_t_slot a_t_turn u_t_size u_t_wives u_t_children u_t_byWife u_t_byChild u_t_byHusband u_t_byFather u_t_searched u_t_before u_t_queue u_t_ways u_t_nextWays s_t_count s_t_many r_t_slot r2) H := hP
    have hD : va_D A (w_X9_add cI cB cZ a_t a_t_slot a_t_turn u_t_size u_t_wives u_t_children u_t_byWife u_t_byChild u_t_byHusband u_t_byFather u_t_searched u_t_before u_t_queue u_t_ways u_t_nextWays s_t_count s_t_many r_t_slot r2) := hD
    refine lv_aload_n hx hb dX9_add_29 rfl (lv_at hl 0 rfl) ?_
    refine lv_dup hx hb dX9_add_30 rfl ?_
    refine va_get (D := D) (ci := 8) (v := .int s_t_count) (C := RX9) (T := TX9) (N := 16) hx hb hts iw_X9 hown hK hP 0 rfl rfl 3 (by decide) (hts _ (wG_in k_fl_X9_56 rfl)) (fun _ h9 => h9) rfl dX9_add_31 ?_
    refine lv_iconst (v := (1 : Int32)) hx hb dX9_add_34 (by decide) ?_
    refine lv_iadd hx hb dX9_add_35 ?_
    obtain ⟨v3, hv3, hf⟩ := jV_some hf
    refine jtop hv3 ?_
    refine va_put (D := D) (ci := 8) (v := .int v3) (ty := .int) (C := RX9) (T := TX9) (N := 16) hx hb hts iw_X9 tyX9 tyX9_ok nmX9 hown hK hP hD hS 0 rfl rfl 3 (by decide) (hts _ (wG_in k_fl_X9_56 rfl)) (fun _ h9 => h9) rfl (tyX9_ok 3 (by decide)) rfl rfl (Nat.le_of_ble_eq_true rfl) dX9_add_36 (fun H locs hP hD hS => ?_)
    have hP : va_P D vwCl (w_X9_add cI cB cZ a_t a_t_slot a_t_turn u_t_size u_t_wives u_t_children u_t_byWife u_t_byChild u_t_byHusband u_t_byFather u_t_searched u_t_before u_t_queue u_t_ways u_t_nextWays v3 s_t_many r_t_slot r2) H := hP
    have hD : va_D A (w_X9_add cI cB cZ a_t a_t_slot a_t_turn u_t_size u_t_wives u_t_children u_t_byWife u_t_byChild u_t_byHusband u_t_byFather u_t_searched u_t_before u_t_queue u_t_ways u_t_nextWays v3 s_t_many r_t_slot r2) := hD
    refine lv_aload_n hx hb dX9_add_39 rfl (lv_at hl 0 rfl) ?_
    refine va_get (D := D) (ci := 8) (v := .ref a_t_slot) (C := RX9) (T := TX9) (N := 16) hx hb hts iw_X9 hown hK hP 0 rfl rfl 6 (by decide) (hts _ (wG_in k_fl_X9_15 rfl)) (fun _ h9 => h9) rfl dX9_add_40 ?_
    refine lv_iload_n hx hb dX9_add_43 rfl (lv_at hl 2 rfl) ?_
    refine lv_aload_n hx hb dX9_add_44 rfl (lv_at hl 0 rfl) ?_
    refine va_get (D := D) (ci := 8) (v := .int v3) (C := RX9) (T := TX9) (N := 16) hx hb hts iw_X9 hown hK hP 0 rfl rfl 3 (by decide) (hts _ (wG_in k_fl_X9_56 rfl)) (fun _ h9 => h9) rfl dX9_add_45 ?_
    obtain ⟨r4, hgr4, hf⟩ := jM_some hf
    refine jcN_v (As := [.ref a_t_slot, .int x2, .int v3]) (rest := []) ⟨hx, hb, hml, hown, hts⟩ hK hN hA (c_X11_set l G D cI cB cZ a_t_slot r_t_slot x2 v3 hgr4) ⟨va_cnB 3 hts (wG_good k_co_X11_set) rfl rfl rfl (jN_l nl_X9_94 hN) (hts _ (wG_in k_in_X11 rfl)) hd_X11_set.2 ⟨Nat.le_of_ble_eq_true rfl, Nat.le_of_ble_eq_true rfl⟩, hts _ (wG_in k_st_X11_set rfl), trivial⟩ hP hD hS [1] rfl rfl rfl rfl hl.1 rfl (Nat.le_of_ble_eq_true rfl) dX9_add_48 ⟨Nat.le_of_ble_eq_true rfl, Nat.le_of_ble_eq_true rfl⟩ (fun H locs hP hD hS => ?_)
    have hP : va_P D vwCl (w_X9_add cI cB cZ a_t a_t_slot a_t_turn u_t_size u_t_wives u_t_children u_t_byWife u_t_byChild u_t_byHusband u_t_byFather u_t_searched u_t_before u_t_queue u_t_ways u_t_nextWays v3 s_t_many r4 r2) H := hP
    have hD : va_D A (w_X9_add cI cB cZ a_t a_t_slot a_t_turn u_t_size u_t_wives u_t_children u_t_byWife u_t_byChild u_t_byHusband u_t_byFather u_t_searched u_t_before u_t_queue u_t_ways u_t_nextWays v3 s_t_many r4 r2) := hD
    refine lv_aload_n hx hb dX9_add_51 rfl (lv_at hl 0 rfl) ?_
    refine va_get (D := D) (ci := 8) (v := .int v3) (C := RX9) (T := TX9) (N := 16) hx hb hts iw_X9 hown hK hP 0 rfl rfl 3 (by decide) (hts _ (wG_in k_fl_X9_56 rfl)) (fun _ h9 => h9) rfl dX9_add_52 ?_
    refine lv_iconst (v := (1 : Int32)) hx hb dX9_add_55 (by decide) ?_
    refine lv_isub hx hb dX9_add_56 ?_
    have ho := Option.some.inj hf
    subst ho
    exact K _ _ _ _ hP hS dX9_add_57
  · replace hf := jif_f c1 hf
    refine lv_aload_n hx hb dX9_add_10 rfl (lv_at hl 0 rfl) ?_
    refine lv_iconst (v := (1 : Int32)) hx hb dX9_add_11 (by decide) ?_
    refine va_put (D := D) (ci := 8) (v := .int (1 : Int32)) (ty := .boolean) (C := RX9) (T := TX9) (N := 16) hx hb hts iw_X9 tyX9 tyX9_ok nmX9 hown hK hP hD hS 0 rfl rfl 4 (by decide) (hts _ (wG_in k_fl_X9_52 rfl)) (fun _ h9 => h9) rfl (tyX9_ok 4 (by decide)) (by decide) (by decide) (Nat.le_of_ble_eq_true rfl) dX9_add_12 (fun H locs hP hD hS => ?_)
    have hP : va_P D vwCl (w_X9_add cI cB cZ a_t a_t_slot a_t_turn u_t_size u_t_wives u_t_children u_t_byWife u_t_byChild u_t_byHusband u_t_byFather u_t_searched u_t_before u_t_queue u_t_ways u_t_nextWays s_t_count (1 : Int32) r_t_slot r_t_turn) H := hP
    have hD : va_D A (w_X9_add cI cB cZ a_t a_t_slot a_t_turn u_t_size u_t_wives u_t_children u_t_byWife u_t_byChild u_t_byHusband u_t_byFather u_t_searched u_t_before u_t_queue u_t_ways u_t_nextWays s_t_count (1 : Int32) r_t_slot r_t_turn) := hD
    refine lv_iconst (v := (-1 : Int32)) hx hb dX9_add_15 (by decide) ?_
    have ho := Option.some.inj hf
    subst ho
    exact K _ _ _ _ hP hS dX9_add_16
set_option maxHeartbeats 4000000 in
set_option maxRecDepth 100000 in
theorem c_X9_add (l : Launch) (G : jGt) (D : va_G) (cI cB cZ : ClassId) (a_t a_t_slot a_t_turn : Nat) (u_t_size u_t_wives u_t_children : Int32) (u_t_byWife u_t_byChild u_t_byHusband u_t_byFather u_t_searched u_t_before u_t_queue u_t_ways u_t_nextWays : Value) (s_t_count s_t_many : Int32) (r_t_slot r_t_turn : jA) (x1 x2 : Int32) {o : Int32 × Int32 × Int32 × jA × jA} (hf : f_X9_add s_t_count s_t_many r_t_slot r_t_turn x1 x2 = some o) : jMi l yX9_add gX9_add rX9_add G D (jT cI cB cZ) [.ref a_t, .int x1, .int x2] (w_X9_add cI cB cZ a_t a_t_slot a_t_turn u_t_size u_t_wives u_t_children u_t_byWife u_t_byChild u_t_byHusband u_t_byFather u_t_searched u_t_before u_t_queue u_t_ways u_t_nextWays s_t_count s_t_many r_t_slot r_t_turn) (w_X9_add cI cB cZ a_t a_t_slot a_t_turn u_t_size u_t_wives u_t_children u_t_byWife u_t_byChild u_t_byHusband u_t_byFather u_t_searched u_t_before u_t_queue u_t_ways u_t_nextWays o.2.1 o.2.2.1 o.2.2.2.1 o.2.2.2.2) o.1 := by
  refine jmk_i RX9 rfl (by decide +kernel) rfl (Nat.le_of_ble_eq_true rfl) rfl ?_
  intro p e s m args below meth c ls A Q C hP hD hS hl K
  exact t_X9_add G D cI cB cZ a_t a_t_slot a_t_turn u_t_size u_t_wives u_t_children u_t_byWife u_t_byChild u_t_byHusband u_t_byFather u_t_searched u_t_before u_t_queue u_t_ways u_t_nextWays s_t_count s_t_many r_t_slot r_t_turn x1 x2 C hf K hP hD hS hl
abbrev rX9_numberOf : Room := { frames := 2, cells := 0, slots := 0, locals := 44 }
abbrev gX9_numberOf : List Cond := wG yX9_numberOf cX9_numberOf 5 (some .int)
def w_X9_numberOf (cI cB cZ : ClassId) (a_t a_t_slot a_t_turn : Nat) (u_t_size u_t_wives u_t_children : Int32) (u_t_byWife u_t_byChild u_t_byHusband u_t_byFather u_t_searched u_t_before u_t_queue u_t_ways u_t_nextWays : Value) (s_t_count s_t_many : Int32) (r_t_slot r_t_turn : jA) : va_W := [(a_t, .inr (8, (oX9 u_t_size u_t_wives u_t_children s_t_count s_t_many (.ref a_t_turn) (.ref a_t_slot) u_t_byWife u_t_byChild u_t_byHusband u_t_byFather u_t_searched u_t_before u_t_queue u_t_ways u_t_nextWays))), (a_t_slot, .inl (cI, r_t_slot.1, .inl r_t_slot.2)), (a_t_turn, .inl (cI, r_t_turn.1, .inl r_t_turn.2))]
def f_X9_numberOf_b10 (s_t_count s_t_many : Int32) (r_t_slot r_t_turn : jA) (x1 x2 x3 : Int32) : Option ((Int32 × Int32) ⊕ ((Int32) ⊕ ((Int32) ⊕ ((Unit))))) :=
  if (2048 : Int32) ≤ x3 then
  some (Sum.inr (Sum.inr (Sum.inr ())))
  else
  jM (f_X11_entry r_t_slot x2) fun r3 =>
  jV (r3 - (1 : Int32)) fun v4 =>
  if 0 ≤ v4 then
  jM (f_X11_entry r_t_turn v4) fun r6 =>
  if r6 = x1 then
  some (Sum.inr (Sum.inr (Sum.inl v4)))
  else
  jV ((x2 + (1 : Int32)) &&& (2047 : Int32)) fun v8 =>
  some (Sum.inl (v8, (x3 + 1)))
  else
  some (Sum.inr (Sum.inl x2))
set_option maxHeartbeats 4000000 in
set_option maxRecDepth 100000 in
theorem t_X9_numberOf_b10 {p : Program} {l : Launch} {e : Env} {s : State} {m : MethodId} {args : Array Value} {below : List Frame} {meth : Method} {c : Code} {A : Nat → Prop} {Q : State → Prop} (G : jGt) (D : va_G) (cI cB cZ : ClassId) (a_t a_t_slot a_t_turn : Nat) (u_t_size u_t_wives u_t_children : Int32) (u_t_byWife u_t_byChild u_t_byHusband u_t_byFather u_t_searched u_t_before u_t_queue u_t_ways u_t_nextWays : Value) (s_t_count s_t_many : Int32) (r_t_slot r_t_turn : jA) (x1 x2 x3 : Int32) (C : jCx p s m args c cX9_numberOf 5 gX9_numberOf RX9 G D (jT cI cB cZ) A) {o : (Int32 × Int32) ⊕ ((Int32) ⊕ ((Int32) ⊕ ((Unit))))} (hf : f_X9_numberOf_b10 s_t_count s_t_many r_t_slot r_t_turn x1 x2 x3 = some o) (K : (∀ z, o = Sum.inl z → ∀ (H : Heap) (locs : List Loc) (ls : Array Slot), va_P D vwCl (w_X9_numberOf cI cB cZ a_t a_t_slot a_t_turn u_t_size u_t_wives u_t_children u_t_byWife u_t_byChild u_t_byHusband u_t_byFather u_t_searched u_t_before u_t_queue u_t_ways u_t_nextWays s_t_count s_t_many r_t_slot r_t_turn) H → va_D A (w_X9_numberOf cI cB cZ a_t a_t_slot a_t_turn u_t_size u_t_wives u_t_children u_t_byWife u_t_byChild u_t_byHusband u_t_byFather u_t_searched u_t_before u_t_queue u_t_ways u_t_nextWays s_t_count s_t_many r_t_slot r_t_turn) → va_S A s.heap H locs → lv_has ls 5 [(0, .ref a_t), (1, .int x1), (2, .int z.1), (3, .int z.2)] → W p l e rX9_numberOf s m args below meth c H locs 0 0 Q (F0 m 10 ls [])) ∧ (∀ z, o = Sum.inr z → (∀ y0, z = Sum.inl y0 → ∀ (H : Heap) (locs : List Loc) (ls : Array Slot), va_P D vwCl (w_X9_numberOf cI cB cZ a_t a_t_slot a_t_turn u_t_size u_t_wives u_t_children u_t_byWife u_t_byChild u_t_byHusband u_t_byFather u_t_searched u_t_before u_t_queue u_t_ways u_t_nextWays s_t_count s_t_many r_t_slot r_t_turn) H → va_D A (w_X9_numberOf cI cB cZ a_t a_t_slot a_t_turn u_t_size u_t_wives u_t_children u_t_byWife u_t_byChild u_t_byHusband u_t_byFather u_t_searched u_t_before u_t_queue u_t_ways u_t_nextWays s_t_count s_t_many r_t_slot r_t_turn) → va_S A s.heap H locs → lv_has ls 5 [(0, .ref a_t), (1, .int x1), (2, .int y0)] → W p l e rX9_numberOf s m args below meth c H locs 0 0 Q (F0 m 34 ls [])) ∧ (∀ z0, z = Sum.inr z0 → (∀ y1, z0 = Sum.inl y1 → ∀ (H : Heap) (locs : List Loc) (ls : Array Slot), va_P D vwCl (w_X9_numberOf cI cB cZ a_t a_t_slot a_t_turn u_t_size u_t_wives u_t_children u_t_byWife u_t_byChild u_t_byHusband u_t_byFather u_t_searched u_t_before u_t_queue u_t_ways u_t_nextWays s_t_count s_t_many r_t_slot r_t_turn) H → va_D A (w_X9_numberOf cI cB cZ a_t a_t_slot a_t_turn u_t_size u_t_wives u_t_children u_t_byWife u_t_byChild u_t_byHusband u_t_byFather u_t_searched u_t_before u_t_queue u_t_ways u_t_nextWays s_t_count s_t_many r_t_slot r_t_turn) → va_S A s.heap H locs → lv_has ls 5 [(4, .int y1)] → W p l e rX9_numberOf s m args below meth c H locs 0 0 Q (F0 m 54 ls [])) ∧ (∀ z1, z0 = Sum.inr z1 → ∀ (H : Heap) (locs : List Loc) (ls : Array Slot), va_P D vwCl (w_X9_numberOf cI cB cZ a_t a_t_slot a_t_turn u_t_size u_t_wives u_t_children u_t_byWife u_t_byChild u_t_byHusband u_t_byFather u_t_searched u_t_before u_t_queue u_t_ways u_t_nextWays s_t_count s_t_many r_t_slot r_t_turn) H → va_D A (w_X9_numberOf cI cB cZ a_t a_t_slot a_t_turn u_t_size u_t_wives u_t_children u_t_byWife u_t_byChild u_t_byHusband u_t_byFather u_t_searched u_t_before u_t_queue u_t_ways u_t_nextWays s_t_count s_t_many r_t_slot r_t_turn) → va_S A s.heap H locs → lv_has ls 5 [] → W p l e rX9_numberOf s m args below meth c H locs 0 0 Q (F0 m 71 ls []))))) {H : Heap} {locs : List Loc} {ls : Array Slot} (hP : va_P D vwCl (w_X9_numberOf cI cB cZ a_t a_t_slot a_t_turn u_t_size u_t_wives u_t_children u_t_byWife u_t_byChild u_t_byHusband u_t_byFather u_t_searched u_t_before u_t_queue u_t_ways u_t_nextWays s_t_count s_t_many r_t_slot r_t_turn) H) (hD : va_D A (w_X9_numberOf cI cB cZ a_t a_t_slot a_t_turn u_t_size u_t_wives u_t_children u_t_byWife u_t_byChild u_t_byHusband u_t_byFather u_t_searched u_t_before u_t_queue u_t_ways u_t_nextWays s_t_count s_t_many r_t_slot r_t_turn)) (hS : va_S A s.heap H locs) (hl : lv_has ls 5 [(0, .ref a_t), (1, .int x1), (2, .int x2), (3, .int x3)]) : W p l e rX9_numberOf s m args below meth c H locs 0 0 Q (F0 m 10 ls []) := by
  obtain ⟨⟨hx, hb, hml, hown, hts⟩, hK, hN, hA⟩ := C
  have C : jCx p s m args c cX9_numberOf 5 gX9_numberOf RX9 G D (jT cI cB cZ) A := ⟨⟨hx, hb, hml, hown, hts⟩, hK, hN, hA⟩
  unfold f_X9_numberOf_b10 at hf
  refine lv_iload_n hx hb dX9_numberOf_10 rfl (lv_at hl 3 rfl) ?_
  refine lv_sipush (v := (2048 : Int32)) hx hb dX9_numberOf_11 (by decide) ?_
  refine lv_icmp_ge (tgt := 71) hx hb dX9_numberOf_14 (by decide) (fun c2 => ?_) (fun c2 => ?_)
  · replace hf := jif_t c2 hf
    have ho := Option.some.inj hf
    exact (((K.2 _ ho.symm).2 _ rfl).2 _ rfl) _ _ _ hP hD hS (lv_sub hl [] rfl)
  · replace hf := jif_f c2 hf
    refine lv_aload_n hx hb dX9_numberOf_17 rfl (lv_at hl 0 rfl) ?_
    refine va_get (D := D) (ci := 8) (v := .ref a_t_slot) (C := RX9) (T := TX9) (N := 16) hx hb hts iw_X9 hown hK hP 0 rfl rfl 6 (by decide) (hts _ (wG_in k_fl_X9_15 rfl)) (fun _ h9 => h9) rfl dX9_numberOf_18 ?_
    refine lv_iload_n hx hb dX9_numberOf_21 rfl (lv_at hl 2 rfl) ?_
    obtain ⟨r3, hgr3, hf⟩ := jM_some hf
    refine jcN_i0 (As := [.ref a_t_slot, .int x2]) (rest := []) ⟨hx, hb, hml, hown, hts⟩ hK hN hA (c_X11_entry l G D cI cB cZ a_t_slot r_t_slot x2 hgr3) ⟨va_cnB 2 hts (wG_good k_co_X11_entry) rfl rfl rfl (jN_l nl_X9_99 hN) (hts _ (wG_in k_in_X11 rfl)) hd_X11_entry.2 ⟨Nat.le_of_ble_eq_true rfl, Nat.le_of_ble_eq_true rfl⟩, hts _ (wG_in k_st_X11_entry rfl), trivial⟩ hP hD hS [1] rfl rfl rfl rfl hl.1 rfl (Nat.le_of_ble_eq_true rfl) dX9_numberOf_22 ⟨Nat.le_of_ble_eq_true rfl, Nat.le_of_ble_eq_true rfl⟩ (fun H locs hP hD hS => ?_)
    refine lv_iconst (v := (1 : Int32)) hx hb dX9_numberOf_25 (by decide) ?_
    refine lv_isub hx hb dX9_numberOf_26 ?_
    obtain ⟨v4, hv4, hf⟩ := jV_some hf
    refine jtop hv4 ?_
    refine lv_istore (lv' := [(4, .int v4), (0, .ref a_t), (1, .int x1), (2, .int x2), (3, .int x3)]) hx hb dX9_numberOf_27 hl (by decide) rfl (fun ls hl => ?_)
    refine lv_iload hx hb dX9_numberOf_29 (lv_at hl 0 rfl) ?_
    refine lv_if_ge (tgt := 41) hx hb dX9_numberOf_31 (by decide) (fun c5 => ?_) (fun c5 => ?_)
    · replace hf := jif_t c5 hf
      refine lv_aload_n hx hb dX9_numberOf_41 rfl (lv_at hl 1 rfl) ?_
      refine va_get (D := D) (ci := 8) (v := .ref a_t_turn) (C := RX9) (T := TX9) (N := 16) hx hb hts iw_X9 hown hK hP 0 rfl rfl 5 (by decide) (hts _ (wG_in k_fl_X9_11 rfl)) (fun _ h9 => h9) rfl dX9_numberOf_42 ?_
      refine lv_iload hx hb dX9_numberOf_45 (lv_at hl 0 rfl) ?_
      obtain ⟨r6, hgr6, hf⟩ := jM_some hf
      refine jcN_i0 (As := [.ref a_t_turn, .int v4]) (rest := []) ⟨hx, hb, hml, hown, hts⟩ hK hN hA (c_X11_entry l G D cI cB cZ a_t_turn r_t_turn v4 hgr6) ⟨va_cnB 2 hts (wG_good k_co_X11_entry) rfl rfl rfl (jN_l nl_X9_99 hN) (hts _ (wG_in k_in_X11 rfl)) hd_X11_entry.2 ⟨Nat.le_of_ble_eq_true rfl, Nat.le_of_ble_eq_true rfl⟩, hts _ (wG_in k_st_X11_entry rfl), trivial⟩ hP hD hS [2] rfl rfl rfl rfl hl.1 rfl (Nat.le_of_ble_eq_true rfl) dX9_numberOf_47 ⟨Nat.le_of_ble_eq_true rfl, Nat.le_of_ble_eq_true rfl⟩ (fun H locs hP hD hS => ?_)
      refine lv_iload_n hx hb dX9_numberOf_50 rfl (lv_at hl 2 rfl) ?_
      refine lv_icmp_ne (tgt := 57) hx hb dX9_numberOf_51 (by decide) (fun c7 => ?_) (fun c7 => ?_)
      · replace hf := jif_f c7 hf
        refine lv_iload_n hx hb dX9_numberOf_57 rfl (lv_at hl 3 rfl) ?_
        refine lv_iconst (v := (1 : Int32)) hx hb dX9_numberOf_58 (by decide) ?_
        refine lv_iadd hx hb dX9_numberOf_59 ?_
        refine lv_sipush (v := (2047 : Int32)) hx hb dX9_numberOf_60 (by decide) ?_
        refine lv_iand hx hb dX9_numberOf_63 ?_
        obtain ⟨v8, hv8, hf⟩ := jV_some hf
        refine jtop hv8 ?_
        refine lv_istore_n (lv' := [(2, .int v8), (4, .int v4), (0, .ref a_t), (1, .int x1), (3, .int x3)]) hx hb dX9_numberOf_64 rfl hl (by decide) rfl (fun ls hl => ?_)
        refine lv_iinc (v := (x3 + 1)) (lv' := [(3, .int (x3 + 1)), (2, .int v8), (4, .int v4), (0, .ref a_t), (1, .int x1)]) hx hb dX9_numberOf_65 hl (k := 4) rfl (by first | rfl | decide) (by decide) rfl (fun ls hl => ?_)
        refine lv_goto (tgt := 10) hx hb dX9_numberOf_68 (by decide) ?_
        have ho := Option.some.inj hf
        exact K.1 _ ho.symm _ _ _ hP hD hS (lv_sub hl [3, 4, 1, 0] rfl)
      · replace hf := jif_t c7 hf
        have ho := Option.some.inj hf
        exact (((K.2 _ ho.symm).2 _ rfl).1 _ rfl) _ _ _ hP hD hS (lv_sub hl [0] rfl)
    · replace hf := jif_f c5 hf
      have ho := Option.some.inj hf
      exact ((K.2 _ ho.symm).1 _ rfl) _ _ _ hP hD hS (lv_sub hl [1, 2, 3] rfl)
def f_X9_numberOf_l10 (s_t_count s_t_many : Int32) (r_t_slot r_t_turn : jA) (x1 x2 x3 : Int32) : Option ((Int32) ⊕ ((Int32) ⊕ ((Unit)))) :=
  jI (fun z => f_X9_numberOf_b10 s_t_count s_t_many r_t_slot r_t_turn x1 z.1 z.2) jF (x2, x3)
set_option maxHeartbeats 4000000 in
set_option maxRecDepth 100000 in
theorem t_X9_numberOf_l10 {p : Program} {l : Launch} {e : Env} {s : State} {m : MethodId} {args : Array Value} {below : List Frame} {meth : Method} {c : Code} {A : Nat → Prop} {Q : State → Prop} (G : jGt) (D : va_G) (cI cB cZ : ClassId) (a_t a_t_slot a_t_turn : Nat) (u_t_size u_t_wives u_t_children : Int32) (u_t_byWife u_t_byChild u_t_byHusband u_t_byFather u_t_searched u_t_before u_t_queue u_t_ways u_t_nextWays : Value) (s_t_count s_t_many : Int32) (r_t_slot r_t_turn : jA) (x1 : Int32) (C : jCx p s m args c cX9_numberOf 5 gX9_numberOf RX9 G D (jT cI cB cZ) A) : ∀ (n : Nat) (x2 x3 : Int32) {eo : (Int32) ⊕ ((Int32) ⊕ ((Unit)))}, jI (fun z => f_X9_numberOf_b10 s_t_count s_t_many r_t_slot r_t_turn x1 z.1 z.2) n (x2, x3) = some eo → ((∀ y0, eo = Sum.inl y0 → ∀ (H : Heap) (locs : List Loc) (ls : Array Slot), va_P D vwCl (w_X9_numberOf cI cB cZ a_t a_t_slot a_t_turn u_t_size u_t_wives u_t_children u_t_byWife u_t_byChild u_t_byHusband u_t_byFather u_t_searched u_t_before u_t_queue u_t_ways u_t_nextWays s_t_count s_t_many r_t_slot r_t_turn) H → va_D A (w_X9_numberOf cI cB cZ a_t a_t_slot a_t_turn u_t_size u_t_wives u_t_children u_t_byWife u_t_byChild u_t_byHusband u_t_byFather u_t_searched u_t_before u_t_queue u_t_ways u_t_nextWays s_t_count s_t_many r_t_slot r_t_turn) → va_S A s.heap H locs → lv_has ls 5 [(0, .ref a_t), (1, .int x1), (2, .int y0)] → W p l e rX9_numberOf s m args below meth c H locs 0 0 Q (F0 m 34 ls [])) ∧ (∀ z0, eo = Sum.inr z0 → (∀ y1, z0 = Sum.inl y1 → ∀ (H : Heap) (locs : List Loc) (ls : Array Slot), va_P D vwCl (w_X9_numberOf cI cB cZ a_t a_t_slot a_t_turn u_t_size u_t_wives u_t_children u_t_byWife u_t_byChild u_t_byHusband u_t_byFather u_t_searched u_t_before u_t_queue u_t_ways u_t_nextWays s_t_count s_t_many r_t_slot r_t_turn) H → va_D A (w_X9_numberOf cI cB cZ a_t a_t_slot a_t_turn u_t_size u_t_wives u_t_children u_t_byWife u_t_byChild u_t_byHusband u_t_byFather u_t_searched u_t_before u_t_queue u_t_ways u_t_nextWays s_t_count s_t_many r_t_slot r_t_turn) → va_S A s.heap H locs → lv_has ls 5 [(4, .int y1)] → W p l e rX9_numberOf s m args below meth c H locs 0 0 Q (F0 m 54 ls [])) ∧ (∀ z1, z0 = Sum.inr z1 → ∀ (H : Heap) (locs : List Loc) (ls : Array Slot), va_P D vwCl (w_X9_numberOf cI cB cZ a_t a_t_slot a_t_turn u_t_size u_t_wives u_t_children u_t_byWife u_t_byChild u_t_byHusband u_t_byFather u_t_searched u_t_before u_t_queue u_t_ways u_t_nextWays s_t_count s_t_many r_t_slot r_t_turn) H → va_D A (w_X9_numberOf cI cB cZ a_t a_t_slot a_t_turn u_t_size u_t_wives u_t_children u_t_byWife u_t_byChild u_t_byHusband u_t_byFather u_t_searched u_t_before u_t_queue u_t_ways u_t_nextWays s_t_count s_t_many r_t_slot r_t_turn) → va_S A s.heap H locs → lv_has ls 5 [] → W p l e rX9_numberOf s m args below meth c H locs 0 0 Q (F0 m 71 ls [])))) → ∀ (H : Heap) (locs : List Loc) (ls : Array Slot), va_P D vwCl (w_X9_numberOf cI cB cZ a_t a_t_slot a_t_turn u_t_size u_t_wives u_t_children u_t_byWife u_t_byChild u_t_byHusband u_t_byFather u_t_searched u_t_before u_t_queue u_t_ways u_t_nextWays s_t_count s_t_many r_t_slot r_t_turn) H → va_D A (w_X9_numberOf cI cB cZ a_t a_t_slot a_t_turn u_t_size u_t_wives u_t_children u_t_byWife u_t_byChild u_t_byHusband u_t_byFather u_t_searched u_t_before u_t_queue u_t_ways u_t_nextWays s_t_count s_t_many r_t_slot r_t_turn) → va_S A s.heap H locs → lv_has ls 5 [(0, .ref a_t), (1, .int x1), (2, .int x2), (3, .int x3)] → W p l e rX9_numberOf s m args below meth c H locs 0 0 Q (F0 m 10 ls []) := by
  intro n
  induction n with
  | zero =>
    intro x2 x3 eo hf
    exact (jI_zero hf).elim
  | succ n ih =>
    intro x2 x3 eo hf K H locs ls hP hD hS hl
    obtain ⟨o, hb1, ho⟩ := jI_some hf
    rcases ho with ⟨z, rfl, hf2⟩ | rfl
    · exact t_X9_numberOf_b10 G D cI cB cZ a_t a_t_slot a_t_turn u_t_size u_t_wives u_t_children u_t_byWife u_t_byChild u_t_byHusband u_t_byFather u_t_searched u_t_before u_t_queue u_t_ways u_t_nextWays s_t_count s_t_many r_t_slot r_t_turn x1 x2 x3 C hb1 ⟨fun z2 hz H locs ls hP hD hS hl => by cases hz; exact ih z.1 z.2 hf2 K H locs ls hP hD hS hl, fun z2 hz => by cases hz⟩ hP hD hS hl
    · exact t_X9_numberOf_b10 G D cI cB cZ a_t a_t_slot a_t_turn u_t_size u_t_wives u_t_children u_t_byWife u_t_byChild u_t_byHusband u_t_byFather u_t_searched u_t_before u_t_queue u_t_ways u_t_nextWays s_t_count s_t_many r_t_slot r_t_turn x1 x2 x3 C hb1 ⟨fun z2 hz => (by cases hz), fun z2 hz => by cases hz; exact K⟩ hP hD hS hl
def f_X9_numberOf (s_t_count s_t_many : Int32) (r_t_slot r_t_turn : jA) (x1 : Int32) : Option (Int32 × Int32 × Int32 × jA × jA) :=
  jV (((x1 * (-1640531535 : Int32)).toUInt32 >>> ((21 : Int32).toUInt32 &&& Int32.toUInt32 31)).toInt32) fun v1 =>
  jM (f_X9_numberOf_l10 s_t_count s_t_many r_t_slot r_t_turn x1 v1 (0 : Int32)) fun e9 =>
  Sum.elim (fun y10 =>
  jM (f_X9_add s_t_count s_t_many r_t_slot r_t_turn x1 y10) fun r12 =>
  some (r12.1, r12.2.1, r12.2.2.1, r12.2.2.2.1, r12.2.2.2.2)) (fun w11 =>
  Sum.elim (fun y13 =>
  some (y13, s_t_count, s_t_many, r_t_slot, r_t_turn)) (fun w14 =>
  some ((-1 : Int32), s_t_count, s_t_many, r_t_slot, r_t_turn)) w11) e9
set_option maxHeartbeats 4000000 in
set_option maxRecDepth 100000 in
theorem t_X9_numberOf {p : Program} {l : Launch} {e : Env} {s : State} {m : MethodId} {args : Array Value} {below : List Frame} {meth : Method} {c : Code} {A : Nat → Prop} {Q : State → Prop} (G : jGt) (D : va_G) (cI cB cZ : ClassId) (a_t a_t_slot a_t_turn : Nat) (u_t_size u_t_wives u_t_children : Int32) (u_t_byWife u_t_byChild u_t_byHusband u_t_byFather u_t_searched u_t_before u_t_queue u_t_ways u_t_nextWays : Value) (s_t_count s_t_many : Int32) (r_t_slot r_t_turn : jA) (x1 : Int32) (C : jCx p s m args c cX9_numberOf 5 gX9_numberOf RX9 G D (jT cI cB cZ) A) {o : Int32 × Int32 × Int32 × jA × jA} (hf : f_X9_numberOf s_t_count s_t_many r_t_slot r_t_turn x1 = some o) (K : ∀ (H : Heap) (locs : List Loc) (pc : Nat) (ls : Array Slot), va_P D vwCl (w_X9_numberOf cI cB cZ a_t a_t_slot a_t_turn u_t_size u_t_wives u_t_children u_t_byWife u_t_byChild u_t_byHusband u_t_byFather u_t_searched u_t_before u_t_queue u_t_ways u_t_nextWays o.2.1 o.2.2.1 o.2.2.2.1 o.2.2.2.2) H → va_S A s.heap H locs → decode cX9_numberOf pc = .ok (.ireturn, 1) → W p l e rX9_numberOf s m args below meth c H locs 0 0 Q (F0 m pc ls [.int o.1])) {H : Heap} {locs : List Loc} {ls : Array Slot} (hP : va_P D vwCl (w_X9_numberOf cI cB cZ a_t a_t_slot a_t_turn u_t_size u_t_wives u_t_children u_t_byWife u_t_byChild u_t_byHusband u_t_byFather u_t_searched u_t_before u_t_queue u_t_ways u_t_nextWays s_t_count s_t_many r_t_slot r_t_turn) H) (hD : va_D A (w_X9_numberOf cI cB cZ a_t a_t_slot a_t_turn u_t_size u_t_wives u_t_children u_t_byWife u_t_byChild u_t_byHusband u_t_byFather u_t_searched u_t_before u_t_queue u_t_ways u_t_nextWays s_t_count s_t_many r_t_slot r_t_turn)) (hS : va_S A s.heap H locs) (hl : lv_has ls 5 [(0, .ref a_t), (1, .int x1)]) : W p l e rX9_numberOf s m args below meth c H locs 0 0 Q (F0 m 0 ls []) := by
  obtain ⟨⟨hx, hb, hml, hown, hts⟩, hK, hN, hA⟩ := C
  have C : jCx p s m args c cX9_numberOf 5 gX9_numberOf RX9 G D (jT cI cB cZ) A := ⟨⟨hx, hb, hml, hown, hts⟩, hK, hN, hA⟩
  unfold f_X9_numberOf at hf
  refine lv_iload_n hx hb dX9_numberOf_0 rfl (lv_at hl 1 rfl) ?_
  refine lv_ldc (v := (-1640531535 : Int32)) hx hb hown (hts _ (wG_in k_kc_X9_98 rfl)) dX9_numberOf_1 ?_
  refine lv_imul hx hb dX9_numberOf_3 ?_
  refine lv_bipush (v := (21 : Int32)) hx hb dX9_numberOf_4 (by decide) ?_
  refine lv_iushr hx hb dX9_numberOf_6 rfl ?_
  obtain ⟨v1, hv1, hf⟩ := jV_some hf
  refine jtop hv1 ?_
  refine lv_istore_n (lv' := [(2, .int v1), (0, .ref a_t), (1, .int x1)]) hx hb dX9_numberOf_7 rfl hl (by decide) rfl (fun ls hl => ?_)
  refine lv_iconst (v := (0 : Int32)) hx hb dX9_numberOf_8 (by decide) ?_
  refine lv_istore_n (lv' := [(3, .int (0 : Int32)), (2, .int v1), (0, .ref a_t), (1, .int x1)]) hx hb dX9_numberOf_9 rfl hl (by decide) rfl (fun ls hl => ?_)
  obtain ⟨e9, hg9, hf⟩ := jM_some hf
  refine t_X9_numberOf_l10 G D cI cB cZ a_t a_t_slot a_t_turn u_t_size u_t_wives u_t_children u_t_byWife u_t_byChild u_t_byHusband u_t_byFather u_t_searched u_t_before u_t_queue u_t_ways u_t_nextWays s_t_count s_t_many r_t_slot r_t_turn x1 C jF v1 (0 : Int32) hg9 ?_ _ _ _ hP hD hS (lv_sub hl [2, 3, 1, 0] rfl)
  refine ⟨fun y10 hy => ?_, fun w11 hy => ?_⟩
  · replace hf := jE_l hy hf
    intro H locs ls hP hD hS hl
    refine lv_aload_n hx hb dX9_numberOf_34 rfl (lv_at hl 0 rfl) ?_
    refine lv_iload_n hx hb dX9_numberOf_35 rfl (lv_at hl 1 rfl) ?_
    refine lv_iload_n hx hb dX9_numberOf_36 rfl (lv_at hl 2 rfl) ?_
    obtain ⟨r12, hgr12, hf⟩ := jM_some hf
    refine jcV_i (As := [.int x1, .int y10]) (rest := []) ⟨hx, hb, hml, hown, hts⟩ hK hN hA (c_X9_add l G D cI cB cZ a_t a_t_slot a_t_turn u_t_size u_t_wives u_t_children u_t_byWife u_t_byChild u_t_byHusband u_t_byFather u_t_searched u_t_before u_t_queue u_t_ways u_t_nextWays s_t_count s_t_many r_t_slot r_t_turn x1 y10 hgr12) (cwV 2 hts (wG_V k_ml_X9_103 k_im_X9_add k_se_X9_add k_in_X9 k_co_X9_add) rfl rfl rfl hd_X9_add ⟨Nat.le_of_ble_eq_true rfl, Nat.le_of_ble_eq_true rfl⟩) hP hD hS [0, 1, 2] rfl rfl rfl (ci := 8) rfl 0 rfl rfl rfl hl.1 rfl (Nat.le_of_ble_eq_true rfl) dX9_numberOf_37 ⟨Nat.le_of_ble_eq_true rfl, Nat.le_of_ble_eq_true rfl⟩ (fun H locs hP hD hS => ?_)
    have hP : va_P D vwCl (w_X9_numberOf cI cB cZ a_t a_t_slot a_t_turn u_t_size u_t_wives u_t_children u_t_byWife u_t_byChild u_t_byHusband u_t_byFather u_t_searched u_t_before u_t_queue u_t_ways u_t_nextWays r12.2.1 r12.2.2.1 r12.2.2.2.1 r12.2.2.2.2) H := hP
    have hD : va_D A (w_X9_numberOf cI cB cZ a_t a_t_slot a_t_turn u_t_size u_t_wives u_t_children u_t_byWife u_t_byChild u_t_byHusband u_t_byFather u_t_searched u_t_before u_t_queue u_t_ways u_t_nextWays r12.2.1 r12.2.2.1 r12.2.2.2.1 r12.2.2.2.2) := hD
    have ho := Option.some.inj hf
    subst ho
    exact K _ _ _ _ hP hS dX9_numberOf_40
  · replace hf := jE_r hy hf
    refine ⟨fun y13 hy => ?_, fun w14 hy => ?_⟩
    · replace hf := jE_l hy hf
      intro H locs ls hP hD hS hl
      refine lv_iload hx hb dX9_numberOf_54 (lv_at hl 0 rfl) ?_
      have ho := Option.some.inj hf
      subst ho
      exact K _ _ _ _ hP hS dX9_numberOf_56
    · replace hf := jE_r hy hf
      intro H locs ls hP hD hS hl
      refine lv_iconst (v := (-1 : Int32)) hx hb dX9_numberOf_71 (by decide) ?_
      have ho := Option.some.inj hf
      subst ho
      exact K _ _ _ _ hP hS dX9_numberOf_72
set_option maxHeartbeats 4000000 in
set_option maxRecDepth 100000 in
theorem c_X9_numberOf (l : Launch) (G : jGt) (D : va_G) (cI cB cZ : ClassId) (a_t a_t_slot a_t_turn : Nat) (u_t_size u_t_wives u_t_children : Int32) (u_t_byWife u_t_byChild u_t_byHusband u_t_byFather u_t_searched u_t_before u_t_queue u_t_ways u_t_nextWays : Value) (s_t_count s_t_many : Int32) (r_t_slot r_t_turn : jA) (x1 : Int32) {o : Int32 × Int32 × Int32 × jA × jA} (hf : f_X9_numberOf s_t_count s_t_many r_t_slot r_t_turn x1 = some o) : jMi l yX9_numberOf gX9_numberOf rX9_numberOf G D (jT cI cB cZ) [.ref a_t, .int x1] (w_X9_numberOf cI cB cZ a_t a_t_slot a_t_turn u_t_size u_t_wives u_t_children u_t_byWife u_t_byChild u_t_byHusband u_t_byFather u_t_searched u_t_before u_t_queue u_t_ways u_t_nextWays s_t_count s_t_many r_t_slot r_t_turn) (w_X9_numberOf cI cB cZ a_t a_t_slot a_t_turn u_t_size u_t_wives u_t_children u_t_byWife u_t_byChild u_t_byHusband u_t_byFather u_t_searched u_t_before u_t_queue u_t_ways u_t_nextWays o.2.1 o.2.2.1 o.2.2.2.1 o.2.2.2.2) o.1 := by
  refine jmk_i RX9 rfl (by decide +kernel) rfl (Nat.le_of_ble_eq_true rfl) rfl ?_
  intro p e s m args below meth c ls A Q C hP hD hS hl K
  exact t_X9_numberOf G D cI cB cZ a_t a_t_slot a_t_turn u_t_size u_t_wives u_t_children u_t_byWife u_t_byChild u_t_byHusband u_t_byFather u_t_searched u_t_before u_t_queue u_t_ways u_t_nextWays s_t_count s_t_many r_t_slot r_t_turn x1 C hf K hP hD hS hl
abbrev rX9_behind : Room := { frames := 0, cells := 0, slots := 0, locals := 0 }
abbrev gX9_behind : List Cond := wG yX9_behind cX9_behind 5 (some .int)
def w_X9_behind (cI cB cZ : ClassId) (a_t : Nat) (u_t_wives u_t_children u_t_count u_t_many : Int32) (u_t_turn u_t_slot u_t_byWife u_t_byChild u_t_byHusband u_t_byFather u_t_searched u_t_before u_t_queue u_t_ways u_t_nextWays : Value) (s_t_size : Int32) : va_W := [(a_t, .inr (8, (oX9 s_t_size u_t_wives u_t_children u_t_count u_t_many u_t_turn u_t_slot u_t_byWife u_t_byChild u_t_byHusband u_t_byFather u_t_searched u_t_before u_t_queue u_t_ways u_t_nextWays)))]
def f_X9_behind_b5 (s_t_size x1 x2 x3 x4 : Int32) : Option ((Int32 × Int32) ⊕ ((Int32))) :=
  if s_t_size ≤ x4 then
  some (Sum.inr x3)
  else
  jV (x3 ||| (((x2 >>> (((3 : Int32) * ((x1 >>> (((3 : Int32) * x4) &&& 31)) &&& (7 : Int32))) &&& 31)) &&& (7 : Int32)) <<< (((3 : Int32) * x4) &&& 31))) fun v2 =>
  some (Sum.inl (v2, (x4 + 1)))
set_option maxHeartbeats 4000000 in
set_option maxRecDepth 100000 in
theorem t_X9_behind_b5 {p : Program} {l : Launch} {e : Env} {s : State} {m : MethodId} {args : Array Value} {below : List Frame} {meth : Method} {c : Code} {A : Nat → Prop} {Q : State → Prop} (G : jGt) (D : va_G) (cI cB cZ : ClassId) (a_t : Nat) (u_t_wives u_t_children u_t_count u_t_many : Int32) (u_t_turn u_t_slot u_t_byWife u_t_byChild u_t_byHusband u_t_byFather u_t_searched u_t_before u_t_queue u_t_ways u_t_nextWays : Value) (s_t_size : Int32) (x1 x2 x3 x4 : Int32) (C : jCx p s m args c cX9_behind 5 gX9_behind RX9 G D (jT cI cB cZ) A) {o : (Int32 × Int32) ⊕ ((Int32))} (hf : f_X9_behind_b5 s_t_size x1 x2 x3 x4 = some o) (K : (∀ z, o = Sum.inl z → ∀ (H : Heap) (locs : List Loc) (ls : Array Slot), va_P D vwCl (w_X9_behind cI cB cZ a_t u_t_wives u_t_children u_t_count u_t_many u_t_turn u_t_slot u_t_byWife u_t_byChild u_t_byHusband u_t_byFather u_t_searched u_t_before u_t_queue u_t_ways u_t_nextWays s_t_size) H → va_D A (w_X9_behind cI cB cZ a_t u_t_wives u_t_children u_t_count u_t_many u_t_turn u_t_slot u_t_byWife u_t_byChild u_t_byHusband u_t_byFather u_t_searched u_t_before u_t_queue u_t_ways u_t_nextWays s_t_size) → va_S A s.heap H locs → lv_has ls 5 [(0, .ref a_t), (1, .int x1), (2, .int x2), (3, .int z.1), (4, .int z.2)] → W p l e rX9_behind s m args below meth c H locs 0 0 Q (F0 m 5 ls [])) ∧ (∀ z, o = Sum.inr z → ∀ (H : Heap) (locs : List Loc) (ls : Array Slot), va_P D vwCl (w_X9_behind cI cB cZ a_t u_t_wives u_t_children u_t_count u_t_many u_t_turn u_t_slot u_t_byWife u_t_byChild u_t_byHusband u_t_byFather u_t_searched u_t_before u_t_queue u_t_ways u_t_nextWays s_t_size) H → va_D A (w_X9_behind cI cB cZ a_t u_t_wives u_t_children u_t_count u_t_many u_t_turn u_t_slot u_t_byWife u_t_byChild u_t_byHusband u_t_byFather u_t_searched u_t_before u_t_queue u_t_ways u_t_nextWays s_t_size) → va_S A s.heap H locs → lv_has ls 5 [(3, .int z)] → W p l e rX9_behind s m args below meth c H locs 0 0 Q (F0 m 44 ls []))) {H : Heap} {locs : List Loc} {ls : Array Slot} (hP : va_P D vwCl (w_X9_behind cI cB cZ a_t u_t_wives u_t_children u_t_count u_t_many u_t_turn u_t_slot u_t_byWife u_t_byChild u_t_byHusband u_t_byFather u_t_searched u_t_before u_t_queue u_t_ways u_t_nextWays s_t_size) H) (hD : va_D A (w_X9_behind cI cB cZ a_t u_t_wives u_t_children u_t_count u_t_many u_t_turn u_t_slot u_t_byWife u_t_byChild u_t_byHusband u_t_byFather u_t_searched u_t_before u_t_queue u_t_ways u_t_nextWays s_t_size)) (hS : va_S A s.heap H locs) (hl : lv_has ls 5 [(0, .ref a_t), (1, .int x1), (2, .int x2), (3, .int x3), (4, .int x4)]) : W p l e rX9_behind s m args below meth c H locs 0 0 Q (F0 m 5 ls []) := by
  obtain ⟨⟨hx, hb, hml, hown, hts⟩, hK, hN, hA⟩ := C
  have C : jCx p s m args c cX9_behind 5 gX9_behind RX9 G D (jT cI cB cZ) A := ⟨⟨hx, hb, hml, hown, hts⟩, hK, hN, hA⟩
  unfold f_X9_behind_b5 at hf
  refine lv_iload hx hb dX9_behind_5 (lv_at hl 4 rfl) ?_
  refine lv_aload_n hx hb dX9_behind_7 rfl (lv_at hl 0 rfl) ?_
  refine va_get (D := D) (ci := 8) (v := .int s_t_size) (C := RX9) (T := TX9) (N := 16) hx hb hts iw_X9 hown hK hP 0 rfl rfl 0 (by decide) (hts _ (wG_in k_fl_X9_66 rfl)) (fun _ h9 => h9) rfl dX9_behind_8 ?_
  refine lv_icmp_ge (tgt := 44) hx hb dX9_behind_11 (by decide) (fun c1 => ?_) (fun c1 => ?_)
  · replace hf := jif_t c1 hf
    have ho := Option.some.inj hf
    exact (K.2 _ ho.symm) _ _ _ hP hD hS (lv_sub hl [3] rfl)
  · replace hf := jif_f c1 hf
    refine lv_iload_n hx hb dX9_behind_14 rfl (lv_at hl 3 rfl) ?_
    refine lv_iload_n hx hb dX9_behind_15 rfl (lv_at hl 2 rfl) ?_
    refine lv_iconst (v := (3 : Int32)) hx hb dX9_behind_16 (by decide) ?_
    refine lv_iload_n hx hb dX9_behind_17 rfl (lv_at hl 1 rfl) ?_
    refine lv_iconst (v := (3 : Int32)) hx hb dX9_behind_18 (by decide) ?_
    refine lv_iload hx hb dX9_behind_19 (lv_at hl 4 rfl) ?_
    refine lv_imul hx hb dX9_behind_21 ?_
    refine lv_ishr hx hb dX9_behind_22 ?_
    refine lv_bipush (v := (7 : Int32)) hx hb dX9_behind_23 (by decide) ?_
    refine lv_iand hx hb dX9_behind_25 ?_
    refine lv_imul hx hb dX9_behind_26 ?_
    refine lv_ishr hx hb dX9_behind_27 ?_
    refine lv_bipush (v := (7 : Int32)) hx hb dX9_behind_28 (by decide) ?_
    refine lv_iand hx hb dX9_behind_30 ?_
    refine lv_iconst (v := (3 : Int32)) hx hb dX9_behind_31 (by decide) ?_
    refine lv_iload hx hb dX9_behind_32 (lv_at hl 4 rfl) ?_
    refine lv_imul hx hb dX9_behind_34 ?_
    refine lv_ishl hx hb dX9_behind_35 ?_
    refine lv_ior hx hb dX9_behind_36 ?_
    obtain ⟨v2, hv2, hf⟩ := jV_some hf
    refine jtop hv2 ?_
    refine lv_istore_n (lv' := [(3, .int v2), (0, .ref a_t), (1, .int x1), (2, .int x2), (4, .int x4)]) hx hb dX9_behind_37 rfl hl (by decide) rfl (fun ls hl => ?_)
    refine lv_iinc (v := (x4 + 1)) (lv' := [(4, .int (x4 + 1)), (3, .int v2), (0, .ref a_t), (1, .int x1), (2, .int x2)]) hx hb dX9_behind_38 hl (k := 4) rfl (by first | rfl | decide) (by decide) rfl (fun ls hl => ?_)
    refine lv_goto (tgt := 5) hx hb dX9_behind_41 (by decide) ?_
    have ho := Option.some.inj hf
    exact K.1 _ ho.symm _ _ _ hP hD hS (lv_sub hl [2, 3, 4, 1, 0] rfl)
def f_X9_behind_l5 (s_t_size x1 x2 x3 x4 : Int32) : Option ((Int32)) :=
  jI (fun z => f_X9_behind_b5 s_t_size x1 x2 z.1 z.2) jF (x3, x4)
set_option maxHeartbeats 4000000 in
set_option maxRecDepth 100000 in
theorem t_X9_behind_l5 {p : Program} {l : Launch} {e : Env} {s : State} {m : MethodId} {args : Array Value} {below : List Frame} {meth : Method} {c : Code} {A : Nat → Prop} {Q : State → Prop} (G : jGt) (D : va_G) (cI cB cZ : ClassId) (a_t : Nat) (u_t_wives u_t_children u_t_count u_t_many : Int32) (u_t_turn u_t_slot u_t_byWife u_t_byChild u_t_byHusband u_t_byFather u_t_searched u_t_before u_t_queue u_t_ways u_t_nextWays : Value) (s_t_size : Int32) (x1 x2 : Int32) (C : jCx p s m args c cX9_behind 5 gX9_behind RX9 G D (jT cI cB cZ) A) : ∀ (n : Nat) (x3 x4 : Int32) {eo : (Int32)}, jI (fun z => f_X9_behind_b5 s_t_size x1 x2 z.1 z.2) n (x3, x4) = some eo → (∀ (H : Heap) (locs : List Loc) (ls : Array Slot), va_P D vwCl (w_X9_behind cI cB cZ a_t u_t_wives u_t_children u_t_count u_t_many u_t_turn u_t_slot u_t_byWife u_t_byChild u_t_byHusband u_t_byFather u_t_searched u_t_before u_t_queue u_t_ways u_t_nextWays s_t_size) H → va_D A (w_X9_behind cI cB cZ a_t u_t_wives u_t_children u_t_count u_t_many u_t_turn u_t_slot u_t_byWife u_t_byChild u_t_byHusband u_t_byFather u_t_searched u_t_before u_t_queue u_t_ways u_t_nextWays s_t_size) → va_S A s.heap H locs → lv_has ls 5 [(3, .int eo)] → W p l e rX9_behind s m args below meth c H locs 0 0 Q (F0 m 44 ls [])) → ∀ (H : Heap) (locs : List Loc) (ls : Array Slot), va_P D vwCl (w_X9_behind cI cB cZ a_t u_t_wives u_t_children u_t_count u_t_many u_t_turn u_t_slot u_t_byWife u_t_byChild u_t_byHusband u_t_byFather u_t_searched u_t_before u_t_queue u_t_ways u_t_nextWays s_t_size) H → va_D A (w_X9_behind cI cB cZ a_t u_t_wives u_t_children u_t_count u_t_many u_t_turn u_t_slot u_t_byWife u_t_byChild u_t_byHusband u_t_byFather u_t_searched u_t_before u_t_queue u_t_ways u_t_nextWays s_t_size) → va_S A s.heap H locs → lv_has ls 5 [(0, .ref a_t), (1, .int x1), (2, .int x2), (3, .int x3), (4, .int x4)] → W p l e rX9_behind s m args below meth c H locs 0 0 Q (F0 m 5 ls []) := by
  intro n
  induction n with
  | zero =>
    intro x3 x4 eo hf
    exact (jI_zero hf).elim
  | succ n ih =>
    intro x3 x4 eo hf K H locs ls hP hD hS hl
    obtain ⟨o, hb1, ho⟩ := jI_some hf
    rcases ho with ⟨z, rfl, hf2⟩ | rfl
    · exact t_X9_behind_b5 G D cI cB cZ a_t u_t_wives u_t_children u_t_count u_t_many u_t_turn u_t_slot u_t_byWife u_t_byChild u_t_byHusband u_t_byFather u_t_searched u_t_before u_t_queue u_t_ways u_t_nextWays s_t_size x1 x2 x3 x4 C hb1 ⟨fun z2 hz H locs ls hP hD hS hl => by cases hz; exact ih z.1 z.2 hf2 K H locs ls hP hD hS hl, fun z2 hz => by cases hz⟩ hP hD hS hl
    · exact t_X9_behind_b5 G D cI cB cZ a_t u_t_wives u_t_children u_t_count u_t_many u_t_turn u_t_slot u_t_byWife u_t_byChild u_t_byHusband u_t_byFather u_t_searched u_t_before u_t_queue u_t_ways u_t_nextWays s_t_size x1 x2 x3 x4 C hb1 ⟨fun z2 hz => (by cases hz), fun z2 hz => by cases hz; exact K⟩ hP hD hS hl
def f_X9_behind (s_t_size x1 x2 : Int32) : Option (Int32) :=
  jM (f_X9_behind_l5 s_t_size x1 x2 (0 : Int32) (0 : Int32)) fun e3 =>
  some e3
set_option maxHeartbeats 4000000 in
set_option maxRecDepth 100000 in
theorem t_X9_behind {p : Program} {l : Launch} {e : Env} {s : State} {m : MethodId} {args : Array Value} {below : List Frame} {meth : Method} {c : Code} {A : Nat → Prop} {Q : State → Prop} (G : jGt) (D : va_G) (cI cB cZ : ClassId) (a_t : Nat) (u_t_wives u_t_children u_t_count u_t_many : Int32) (u_t_turn u_t_slot u_t_byWife u_t_byChild u_t_byHusband u_t_byFather u_t_searched u_t_before u_t_queue u_t_ways u_t_nextWays : Value) (s_t_size : Int32) (x1 x2 : Int32) (C : jCx p s m args c cX9_behind 5 gX9_behind RX9 G D (jT cI cB cZ) A) {o : Int32} (hf : f_X9_behind s_t_size x1 x2 = some o) (K : ∀ (H : Heap) (locs : List Loc) (pc : Nat) (ls : Array Slot), va_P D vwCl (w_X9_behind cI cB cZ a_t u_t_wives u_t_children u_t_count u_t_many u_t_turn u_t_slot u_t_byWife u_t_byChild u_t_byHusband u_t_byFather u_t_searched u_t_before u_t_queue u_t_ways u_t_nextWays s_t_size) H → va_S A s.heap H locs → decode cX9_behind pc = .ok (.ireturn, 1) → W p l e rX9_behind s m args below meth c H locs 0 0 Q (F0 m pc ls [.int o])) {H : Heap} {locs : List Loc} {ls : Array Slot} (hP : va_P D vwCl (w_X9_behind cI cB cZ a_t u_t_wives u_t_children u_t_count u_t_many u_t_turn u_t_slot u_t_byWife u_t_byChild u_t_byHusband u_t_byFather u_t_searched u_t_before u_t_queue u_t_ways u_t_nextWays s_t_size) H) (hD : va_D A (w_X9_behind cI cB cZ a_t u_t_wives u_t_children u_t_count u_t_many u_t_turn u_t_slot u_t_byWife u_t_byChild u_t_byHusband u_t_byFather u_t_searched u_t_before u_t_queue u_t_ways u_t_nextWays s_t_size)) (hS : va_S A s.heap H locs) (hl : lv_has ls 5 [(0, .ref a_t), (1, .int x1), (2, .int x2)]) : W p l e rX9_behind s m args below meth c H locs 0 0 Q (F0 m 0 ls []) := by
  obtain ⟨⟨hx, hb, hml, hown, hts⟩, hK, hN, hA⟩ := C
  have C : jCx p s m args c cX9_behind 5 gX9_behind RX9 G D (jT cI cB cZ) A := ⟨⟨hx, hb, hml, hown, hts⟩, hK, hN, hA⟩
  unfold f_X9_behind at hf
  refine lv_iconst (v := (0 : Int32)) hx hb dX9_behind_0 (by decide) ?_
  refine lv_istore_n (lv' := [(3, .int (0 : Int32)), (0, .ref a_t), (1, .int x1), (2, .int x2)]) hx hb dX9_behind_1 rfl hl (by decide) rfl (fun ls hl => ?_)
  refine lv_iconst (v := (0 : Int32)) hx hb dX9_behind_2 (by decide) ?_
  refine lv_istore (lv' := [(4, .int (0 : Int32)), (3, .int (0 : Int32)), (0, .ref a_t), (1, .int x1), (2, .int x2)]) hx hb dX9_behind_3 hl (by decide) rfl (fun ls hl => ?_)
  obtain ⟨e3, hg3, hf⟩ := jM_some hf
  refine t_X9_behind_l5 G D cI cB cZ a_t u_t_wives u_t_children u_t_count u_t_many u_t_turn u_t_slot u_t_byWife u_t_byChild u_t_byHusband u_t_byFather u_t_searched u_t_before u_t_queue u_t_ways u_t_nextWays s_t_size x1 x2 C jF (0 : Int32) (0 : Int32) hg3 ?_ _ _ _ hP hD hS (lv_sub hl [2, 3, 4, 1, 0] rfl)
  intro H locs ls hP hD hS hl
  refine lv_iload_n hx hb dX9_behind_44 rfl (lv_at hl 0 rfl) ?_
  have ho := Option.some.inj hf
  subst ho
  exact K _ _ _ _ hP hS dX9_behind_45
set_option maxHeartbeats 4000000 in
set_option maxRecDepth 100000 in
theorem c_X9_behind (l : Launch) (G : jGt) (D : va_G) (cI cB cZ : ClassId) (a_t : Nat) (u_t_wives u_t_children u_t_count u_t_many : Int32) (u_t_turn u_t_slot u_t_byWife u_t_byChild u_t_byHusband u_t_byFather u_t_searched u_t_before u_t_queue u_t_ways u_t_nextWays : Value) (s_t_size : Int32) (x1 x2 : Int32) {o : Int32} (hf : f_X9_behind s_t_size x1 x2 = some o) : jMi l yX9_behind gX9_behind rX9_behind G D (jT cI cB cZ) [.ref a_t, .int x1, .int x2] (w_X9_behind cI cB cZ a_t u_t_wives u_t_children u_t_count u_t_many u_t_turn u_t_slot u_t_byWife u_t_byChild u_t_byHusband u_t_byFather u_t_searched u_t_before u_t_queue u_t_ways u_t_nextWays s_t_size) (w_X9_behind cI cB cZ a_t u_t_wives u_t_children u_t_count u_t_many u_t_turn u_t_slot u_t_byWife u_t_byChild u_t_byHusband u_t_byFather u_t_searched u_t_before u_t_queue u_t_ways u_t_nextWays s_t_size) o := by
  refine jmk_i RX9 rfl (by decide +kernel) rfl (Nat.le_of_ble_eq_true rfl) rfl ?_
  intro p e s m args below meth c ls A Q C hP hD hS hl K
  exact t_X9_behind G D cI cB cZ a_t u_t_wives u_t_children u_t_count u_t_many u_t_turn u_t_slot u_t_byWife u_t_byChild u_t_byHusband u_t_byFather u_t_searched u_t_before u_t_queue u_t_ways u_t_nextWays s_t_size x1 x2 C hf K hP hD hS hl
abbrev rX9_gather : Room := { frames := 3, cells := 0, slots := 0, locals := 68 }
abbrev gX9_gather : List Cond := wG yX9_gather cX9_gather 5 none
def w_X9_gather (cI cB cZ : ClassId) (a_p0 a_t a_p0_child a_p0_wife a_t_byChild a_t_byFather a_t_byHusband a_t_byWife a_t_searched a_t_slot a_t_turn : Nat) (u_p0_husband u_p0_father u_t_before u_t_queue u_t_ways u_t_nextWays : Value) (s_p0_size s_t_children s_t_count s_t_many s_t_size s_t_wives : Int32) (r_p0_child r_p0_wife r_t_byChild r_t_byFather r_t_byHusband r_t_byWife r_t_searched r_t_slot r_t_turn : jA) : va_W := [(a_p0, .inr (9, (oX10 (.ref a_p0_wife) (.ref a_p0_child) u_p0_husband u_p0_father s_p0_size))), (a_t, .inr (8, (oX9 s_t_size s_t_wives s_t_children s_t_count s_t_many (.ref a_t_turn) (.ref a_t_slot) (.ref a_t_byWife) (.ref a_t_byChild) (.ref a_t_byHusband) (.ref a_t_byFather) (.ref a_t_searched) u_t_before u_t_queue u_t_ways u_t_nextWays))), (a_p0_child, .inl (cI, r_p0_child.1, .inl r_p0_child.2)), (a_p0_wife, .inl (cI, r_p0_wife.1, .inl r_p0_wife.2)), (a_t_byChild, .inl (cI, r_t_byChild.1, .inl r_t_byChild.2)), (a_t_byFather, .inl (cI, r_t_byFather.1, .inl r_t_byFather.2)), (a_t_byHusband, .inl (cI, r_t_byHusband.1, .inl r_t_byHusband.2)), (a_t_byWife, .inl (cI, r_t_byWife.1, .inl r_t_byWife.2)), (a_t_searched, .inl (cZ, r_t_searched.1, .inl r_t_searched.2)), (a_t_slot, .inl (cI, r_t_slot.1, .inl r_t_slot.2)), (a_t_turn, .inl (cI, r_t_turn.1, .inl r_t_turn.2))]
def f_X9_gather_b102 (s_t_children s_t_count s_t_many s_t_size s_t_wives : Int32) (r_t_byChild r_t_byFather r_t_byHusband r_t_byWife r_t_searched r_t_slot r_t_turn : jA) (x4 : Int32) : Option ((Int32 × Int32 × jA × jA × jA × jA × Int32) ⊕ ((Int32 × Int32 × jA × jA × jA × jA))) :=
  if s_t_count ≤ x4 then
  some (Sum.inr (s_t_count, s_t_many, r_t_byChild, r_t_byWife, r_t_slot, r_t_turn))
  else
  if (500 : Int32) ≤ x4 then
  some (Sum.inr (s_t_count, s_t_many, r_t_byChild, r_t_byWife, r_t_slot, r_t_turn))
  else
  if s_t_many = 0 then
  jL r_t_turn x4 fun v12 =>
  jM (f_X9_behind s_t_size v12 s_t_wives) fun r13 =>
  jM (f_X9_numberOf s_t_count s_t_many r_t_slot r_t_turn r13) fun r14 =>
  jS r_t_byWife x4 r14.1 fun q15 =>
  jL r14.2.2.2.2 x4 fun v16 =>
  jM (f_X9_behind s_t_size v16 s_t_children) fun r17 =>
  jM (f_X9_numberOf r14.2.1 r14.2.2.1 r14.2.2.2.1 r14.2.2.2.2 r17) fun r18 =>
  jS r_t_byChild x4 r18.1 fun q19 =>
  some (Sum.inl (r18.2.1, r18.2.2.1, q19, q15, r18.2.2.2.1, r18.2.2.2.2, (x4 + 1)))
  else
  some (Sum.inr (s_t_count, s_t_many, r_t_byChild, r_t_byWife, r_t_slot, r_t_turn))
set_option maxHeartbeats 4000000 in
set_option maxRecDepth 100000 in
theorem t_X9_gather_b102 {p : Program} {l : Launch} {e : Env} {s : State} {m : MethodId} {args : Array Value} {below : List Frame} {meth : Method} {c : Code} {A : Nat → Prop} {Q : State → Prop} (G : jGt) (D : va_G) (cI cB cZ : ClassId) (a_p0 a_t a_p0_child a_p0_wife a_t_byChild a_t_byFather a_t_byHusband a_t_byWife a_t_searched a_t_slot a_t_turn : Nat) (u_p0_husband u_p0_father u_t_before u_t_queue u_t_ways u_t_nextWays : Value) (s_p0_size : Int32) (r_p0_child r_p0_wife : jA) (s_t_children s_t_count s_t_many s_t_size s_t_wives : Int32) (r_t_byChild r_t_byFather r_t_byHusband r_t_byWife r_t_searched r_t_slot r_t_turn : jA) (x4 : Int32) (C : jCx p s m args c cX9_gather 5 gX9_gather RX9 G D (jT cI cB cZ) A) {o : (Int32 × Int32 × jA × jA × jA × jA × Int32) ⊕ ((Int32 × Int32 × jA × jA × jA × jA))} (hf : f_X9_gather_b102 s_t_children s_t_count s_t_many s_t_size s_t_wives r_t_byChild r_t_byFather r_t_byHusband r_t_byWife r_t_searched r_t_slot r_t_turn x4 = some o) (K : (∀ z, o = Sum.inl z → ∀ (H : Heap) (locs : List Loc) (ls : Array Slot), va_P D vwCl (w_X9_gather cI cB cZ a_p0 a_t a_p0_child a_p0_wife a_t_byChild a_t_byFather a_t_byHusband a_t_byWife a_t_searched a_t_slot a_t_turn u_p0_husband u_p0_father u_t_before u_t_queue u_t_ways u_t_nextWays s_p0_size s_t_children z.1 z.2.1 s_t_size s_t_wives r_p0_child r_p0_wife z.2.2.1 r_t_byFather r_t_byHusband z.2.2.2.1 r_t_searched z.2.2.2.2.1 z.2.2.2.2.2.1) H → va_D A (w_X9_gather cI cB cZ a_p0 a_t a_p0_child a_p0_wife a_t_byChild a_t_byFather a_t_byHusband a_t_byWife a_t_searched a_t_slot a_t_turn u_p0_husband u_p0_father u_t_before u_t_queue u_t_ways u_t_nextWays s_p0_size s_t_children z.1 z.2.1 s_t_size s_t_wives r_p0_child r_p0_wife z.2.2.1 r_t_byFather r_t_byHusband z.2.2.2.1 r_t_searched z.2.2.2.2.1 z.2.2.2.2.2.1) → va_S A s.heap H locs → lv_has ls 5 [(0, .ref a_t), (4, .int z.2.2.2.2.2.2)] → W p l e rX9_gather s m args below meth c H locs 0 0 Q (F0 m 102 ls [])) ∧ (∀ z, o = Sum.inr z → ∀ (H : Heap) (locs : List Loc) (ls : Array Slot), va_P D vwCl (w_X9_gather cI cB cZ a_p0 a_t a_p0_child a_p0_wife a_t_byChild a_t_byFather a_t_byHusband a_t_byWife a_t_searched a_t_slot a_t_turn u_p0_husband u_p0_father u_t_before u_t_queue u_t_ways u_t_nextWays s_p0_size s_t_children z.1 z.2.1 s_t_size s_t_wives r_p0_child r_p0_wife z.2.2.1 r_t_byFather r_t_byHusband z.2.2.2.1 r_t_searched z.2.2.2.2.1 z.2.2.2.2.2) H → va_D A (w_X9_gather cI cB cZ a_p0 a_t a_p0_child a_p0_wife a_t_byChild a_t_byFather a_t_byHusband a_t_byWife a_t_searched a_t_slot a_t_turn u_p0_husband u_p0_father u_t_before u_t_queue u_t_ways u_t_nextWays s_p0_size s_t_children z.1 z.2.1 s_t_size s_t_wives r_p0_child r_p0_wife z.2.2.1 r_t_byFather r_t_byHusband z.2.2.2.1 r_t_searched z.2.2.2.2.1 z.2.2.2.2.2) → va_S A s.heap H locs → lv_has ls 5 [(0, .ref a_t)] → W p l e rX9_gather s m args below meth c H locs 0 0 Q (F0 m 184 ls []))) {H : Heap} {locs : List Loc} {ls : Array Slot} (hP : va_P D vwCl (w_X9_gather cI cB cZ a_p0 a_t a_p0_child a_p0_wife a_t_byChild a_t_byFather a_t_byHusband a_t_byWife a_t_searched a_t_slot a_t_turn u_p0_husband u_p0_father u_t_before u_t_queue u_t_ways u_t_nextWays s_p0_size s_t_children s_t_count s_t_many s_t_size s_t_wives r_p0_child r_p0_wife r_t_byChild r_t_byFather r_t_byHusband r_t_byWife r_t_searched r_t_slot r_t_turn) H) (hD : va_D A (w_X9_gather cI cB cZ a_p0 a_t a_p0_child a_p0_wife a_t_byChild a_t_byFather a_t_byHusband a_t_byWife a_t_searched a_t_slot a_t_turn u_p0_husband u_p0_father u_t_before u_t_queue u_t_ways u_t_nextWays s_p0_size s_t_children s_t_count s_t_many s_t_size s_t_wives r_p0_child r_p0_wife r_t_byChild r_t_byFather r_t_byHusband r_t_byWife r_t_searched r_t_slot r_t_turn)) (hS : va_S A s.heap H locs) (hl : lv_has ls 5 [(0, .ref a_t), (4, .int x4)]) : W p l e rX9_gather s m args below meth c H locs 0 0 Q (F0 m 102 ls []) := by
  obtain ⟨⟨hx, hb, hml, hown, hts⟩, hK, hN, hA⟩ := C
  have C : jCx p s m args c cX9_gather 5 gX9_gather RX9 G D (jT cI cB cZ) A := ⟨⟨hx, hb, hml, hown, hts⟩, hK, hN, hA⟩
  unfold f_X9_gather_b102 at hf
  refine lv_iload hx hb dX9_gather_102 (lv_at hl 1 rfl) ?_
  refine lv_aload_n hx hb dX9_gather_104 rfl (lv_at hl 0 rfl) ?_
  refine va_get (D := D) (ci := 8) (v := .int s_t_count) (C := RX9) (T := TX9) (N := 16) hx hb hts iw_X9 hown hK hP 1 rfl rfl 3 (by decide) (hts _ (wG_in k_fl_X9_56 rfl)) (fun _ h9 => h9) rfl dX9_gather_105 ?_
  refine lv_icmp_ge (tgt := 184) hx hb dX9_gather_108 (by decide) (fun c9 => ?_) (fun c9 => ?_)
  · replace hf := jif_t c9 hf
    have ho := Option.some.inj hf
    exact (K.2 _ ho.symm) _ _ _ hP hD hS (lv_sub hl [0] rfl)
  · replace hf := jif_f c9 hf
    refine lv_iload hx hb dX9_gather_111 (lv_at hl 1 rfl) ?_
    refine lv_sipush (v := (500 : Int32)) hx hb dX9_gather_113 (by decide) ?_
    refine lv_icmp_ge (tgt := 184) hx hb dX9_gather_116 (by decide) (fun c10 => ?_) (fun c10 => ?_)
    · replace hf := jif_t c10 hf
      have ho := Option.some.inj hf
      exact (K.2 _ ho.symm) _ _ _ hP hD hS (lv_sub hl [0] rfl)
    · replace hf := jif_f c10 hf
      refine lv_aload_n hx hb dX9_gather_119 rfl (lv_at hl 0 rfl) ?_
      refine va_get (D := D) (ci := 8) (v := .int s_t_many) (C := RX9) (T := TX9) (N := 16) hx hb hts iw_X9 hown hK hP 1 rfl rfl 4 (by decide) (hts _ (wG_in k_fl_X9_52 rfl)) (fun _ h9 => h9) rfl dX9_gather_120 ?_
      refine lv_if_ne (tgt := 184) hx hb dX9_gather_123 (by decide) (fun c11 => ?_) (fun c11 => ?_)
      · replace hf := jif_f c11 hf
        have ho := Option.some.inj hf
        exact (K.2 _ ho.symm) _ _ _ hP hD hS (lv_sub hl [0] rfl)
      · replace hf := jif_t c11 hf
        refine lv_aload_n hx hb dX9_gather_126 rfl (lv_at hl 0 rfl) ?_
        refine va_get (D := D) (ci := 8) (v := .ref a_t_byWife) (C := RX9) (T := TX9) (N := 16) hx hb hts iw_X9 hown hK hP 1 rfl rfl 7 (by decide) (hts _ (wG_in k_fl_X9_18 rfl)) (fun _ h9 => h9) rfl dX9_gather_127 ?_
        refine lv_iload hx hb dX9_gather_130 (lv_at hl 1 rfl) ?_
        refine lv_aload_n hx hb dX9_gather_132 rfl (lv_at hl 0 rfl) ?_
        refine lv_aload_n hx hb dX9_gather_133 rfl (lv_at hl 0 rfl) ?_
        refine lv_aload_n hx hb dX9_gather_134 rfl (lv_at hl 0 rfl) ?_
        refine va_get (D := D) (ci := 8) (v := .ref a_t_turn) (C := RX9) (T := TX9) (N := 16) hx hb hts iw_X9 hown hK hP 1 rfl rfl 5 (by decide) (hts _ (wG_in k_fl_X9_11 rfl)) (fun _ h9 => h9) rfl dX9_gather_135 ?_
        refine lv_iload hx hb dX9_gather_138 (lv_at hl 1 rfl) ?_
        obtain ⟨v12, hv12, iv12, hf⟩ := jL_some hf
        refine ja_iald (P := r_t_turn) hx hb hK hP 10 0 rfl rfl hv12 iv12 dX9_gather_140 ?_
        refine lv_aload_n hx hb dX9_gather_141 rfl (lv_at hl 0 rfl) ?_
        refine va_get (D := D) (ci := 8) (v := .int s_t_wives) (C := RX9) (T := TX9) (N := 16) hx hb hts iw_X9 hown hK hP 1 rfl rfl 1 (by decide) (hts _ (wG_in k_fl_X9_70 rfl)) (fun _ h9 => h9) rfl dX9_gather_142 ?_
        obtain ⟨r13, hgr13, hf⟩ := jM_some hf
        refine jcV_i0 (As := [.int v12, .int s_t_wives]) (rest := [.ref a_t, .int x4, .ref a_t_byWife]) ⟨hx, hb, hml, hown, hts⟩ hK hN hA (c_X9_behind l G D cI cB cZ a_t s_t_wives s_t_children s_t_count s_t_many (.ref a_t_turn) (.ref a_t_slot) (.ref a_t_byWife) (.ref a_t_byChild) (.ref a_t_byHusband) (.ref a_t_byFather) (.ref a_t_searched) u_t_before u_t_queue u_t_ways u_t_nextWays s_t_size v12 s_t_wives hgr13) (cwV 2 hts (wG_V k_ml_X9_90 k_im_X9_behind k_se_X9_behind k_in_X9 k_co_X9_behind) rfl rfl rfl hd_X9_behind ⟨Nat.le_of_ble_eq_true rfl, Nat.le_of_ble_eq_true rfl⟩) hP hD hS [1] rfl rfl rfl (ci := 8) rfl 1 rfl rfl rfl hl.1 rfl (Nat.le_of_ble_eq_true rfl) dX9_gather_145 ⟨Nat.le_of_ble_eq_true rfl, Nat.le_of_ble_eq_true rfl⟩ (fun H locs hP hD hS => ?_)
        obtain ⟨r14, hgr14, hf⟩ := jM_some hf
        refine jcV_i (As := [.int r13]) (rest := [.int x4, .ref a_t_byWife]) ⟨hx, hb, hml, hown, hts⟩ hK hN hA (c_X9_numberOf l G D cI cB cZ a_t a_t_slot a_t_turn s_t_size s_t_wives s_t_children (.ref a_t_byWife) (.ref a_t_byChild) (.ref a_t_byHusband) (.ref a_t_byFather) (.ref a_t_searched) u_t_before u_t_queue u_t_ways u_t_nextWays s_t_count s_t_many r_t_slot r_t_turn r13 hgr14) (cwV 1 hts (wG_V k_ml_X9_86 k_im_X9_numberOf k_se_X9_numberOf k_in_X9 k_co_X9_numberOf) rfl rfl rfl hd_X9_numberOf ⟨Nat.le_of_ble_eq_true rfl, Nat.le_of_ble_eq_true rfl⟩) hP hD hS [1, 9, 10] rfl rfl rfl (ci := 8) rfl 1 rfl rfl rfl hl.1 rfl (Nat.le_of_ble_eq_true rfl) dX9_gather_148 ⟨Nat.le_of_ble_eq_true rfl, Nat.le_of_ble_eq_true rfl⟩ (fun H locs hP hD hS => ?_)
        have hP : va_P D vwCl (w_X9_gather cI cB cZ a_p0 a_t a_p0_child a_p0_wife a_t_byChild a_t_byFather a_t_byHusband a_t_byWife a_t_searched a_t_slot a_t_turn u_p0_husband u_p0_father u_t_before u_t_queue u_t_ways u_t_nextWays s_p0_size s_t_children r14.2.1 r14.2.2.1 s_t_size s_t_wives r_p0_child r_p0_wife r_t_byChild r_t_byFather r_t_byHusband r_t_byWife r_t_searched r14.2.2.2.1 r14.2.2.2.2) H := hP
        have hD : va_D A (w_X9_gather cI cB cZ a_p0 a_t a_p0_child a_p0_wife a_t_byChild a_t_byFather a_t_byHusband a_t_byWife a_t_searched a_t_slot a_t_turn u_p0_husband u_p0_father u_t_before u_t_queue u_t_ways u_t_nextWays s_p0_size s_t_children r14.2.1 r14.2.2.1 s_t_size s_t_wives r_p0_child r_p0_wife r_t_byChild r_t_byFather r_t_byHusband r_t_byWife r_t_searched r14.2.2.2.1 r14.2.2.2.2) := hD
        obtain ⟨q15, hq15, iq15, hf⟩ := jS_some hf
        refine ja_iast (P := r_t_byWife) (P' := q15) hx hb hK hP hD hS 7 0 rfl rfl hq15 iq15 dX9_gather_151 (fun H locs hP hD hS => ?_)
        have hP : va_P D vwCl (w_X9_gather cI cB cZ a_p0 a_t a_p0_child a_p0_wife a_t_byChild a_t_byFather a_t_byHusband a_t_byWife a_t_searched a_t_slot a_t_turn u_p0_husband u_p0_father u_t_before u_t_queue u_t_ways u_t_nextWays s_p0_size s_t_children r14.2.1 r14.2.2.1 s_t_size s_t_wives r_p0_child r_p0_wife r_t_byChild r_t_byFather r_t_byHusband q15 r_t_searched r14.2.2.2.1 r14.2.2.2.2) H := hP
        have hD : va_D A (w_X9_gather cI cB cZ a_p0 a_t a_p0_child a_p0_wife a_t_byChild a_t_byFather a_t_byHusband a_t_byWife a_t_searched a_t_slot a_t_turn u_p0_husband u_p0_father u_t_before u_t_queue u_t_ways u_t_nextWays s_p0_size s_t_children r14.2.1 r14.2.2.1 s_t_size s_t_wives r_p0_child r_p0_wife r_t_byChild r_t_byFather r_t_byHusband q15 r_t_searched r14.2.2.2.1 r14.2.2.2.2) := hD
        refine lv_aload_n hx hb dX9_gather_152 rfl (lv_at hl 0 rfl) ?_
        refine va_get (D := D) (ci := 8) (v := .ref a_t_byChild) (C := RX9) (T := TX9) (N := 16) hx hb hts iw_X9 hown hK hP 1 rfl rfl 8 (by decide) (hts _ (wG_in k_fl_X9_21 rfl)) (fun _ h9 => h9) rfl dX9_gather_153 ?_
        refine lv_iload hx hb dX9_gather_156 (lv_at hl 1 rfl) ?_
        refine lv_aload_n hx hb dX9_gather_158 rfl (lv_at hl 0 rfl) ?_
        refine lv_aload_n hx hb dX9_gather_159 rfl (lv_at hl 0 rfl) ?_
        refine lv_aload_n hx hb dX9_gather_160 rfl (lv_at hl 0 rfl) ?_
        refine va_get (D := D) (ci := 8) (v := .ref a_t_turn) (C := RX9) (T := TX9) (N := 16) hx hb hts iw_X9 hown hK hP 1 rfl rfl 5 (by decide) (hts _ (wG_in k_fl_X9_11 rfl)) (fun _ h9 => h9) rfl dX9_gather_161 ?_
        refine lv_iload hx hb dX9_gather_164 (lv_at hl 1 rfl) ?_
        obtain ⟨v16, hv16, iv16, hf⟩ := jL_some hf
        refine ja_iald (P := r14.2.2.2.2) hx hb hK hP 10 0 rfl rfl hv16 iv16 dX9_gather_166 ?_
        refine lv_aload_n hx hb dX9_gather_167 rfl (lv_at hl 0 rfl) ?_
        refine va_get (D := D) (ci := 8) (v := .int s_t_children) (C := RX9) (T := TX9) (N := 16) hx hb hts iw_X9 hown hK hP 1 rfl rfl 2 (by decide) (hts _ (wG_in k_fl_X9_73 rfl)) (fun _ h9 => h9) rfl dX9_gather_168 ?_
        obtain ⟨r17, hgr17, hf⟩ := jM_some hf
        refine jcV_i0 (As := [.int v16, .int s_t_children]) (rest := [.ref a_t, .int x4, .ref a_t_byChild]) ⟨hx, hb, hml, hown, hts⟩ hK hN hA (c_X9_behind l G D cI cB cZ a_t s_t_wives s_t_children r14.2.1 r14.2.2.1 (.ref a_t_turn) (.ref a_t_slot) (.ref a_t_byWife) (.ref a_t_byChild) (.ref a_t_byHusband) (.ref a_t_byFather) (.ref a_t_searched) u_t_before u_t_queue u_t_ways u_t_nextWays s_t_size v16 s_t_children hgr17) (cwV 2 hts (wG_V k_ml_X9_90 k_im_X9_behind k_se_X9_behind k_in_X9 k_co_X9_behind) rfl rfl rfl hd_X9_behind ⟨Nat.le_of_ble_eq_true rfl, Nat.le_of_ble_eq_true rfl⟩) hP hD hS [1] rfl rfl rfl (ci := 8) rfl 1 rfl rfl rfl hl.1 rfl (Nat.le_of_ble_eq_true rfl) dX9_gather_171 ⟨Nat.le_of_ble_eq_true rfl, Nat.le_of_ble_eq_true rfl⟩ (fun H locs hP hD hS => ?_)
        obtain ⟨r18, hgr18, hf⟩ := jM_some hf
        refine jcV_i (As := [.int r17]) (rest := [.int x4, .ref a_t_byChild]) ⟨hx, hb, hml, hown, hts⟩ hK hN hA (c_X9_numberOf l G D cI cB cZ a_t a_t_slot a_t_turn s_t_size s_t_wives s_t_children (.ref a_t_byWife) (.ref a_t_byChild) (.ref a_t_byHusband) (.ref a_t_byFather) (.ref a_t_searched) u_t_before u_t_queue u_t_ways u_t_nextWays r14.2.1 r14.2.2.1 r14.2.2.2.1 r14.2.2.2.2 r17 hgr18) (cwV 1 hts (wG_V k_ml_X9_86 k_im_X9_numberOf k_se_X9_numberOf k_in_X9 k_co_X9_numberOf) rfl rfl rfl hd_X9_numberOf ⟨Nat.le_of_ble_eq_true rfl, Nat.le_of_ble_eq_true rfl⟩) hP hD hS [1, 9, 10] rfl rfl rfl (ci := 8) rfl 1 rfl rfl rfl hl.1 rfl (Nat.le_of_ble_eq_true rfl) dX9_gather_174 ⟨Nat.le_of_ble_eq_true rfl, Nat.le_of_ble_eq_true rfl⟩ (fun H locs hP hD hS => ?_)
        have hP : va_P D vwCl (w_X9_gather cI cB cZ a_p0 a_t a_p0_child a_p0_wife a_t_byChild a_t_byFather a_t_byHusband a_t_byWife a_t_searched a_t_slot a_t_turn u_p0_husband u_p0_father u_t_before u_t_queue u_t_ways u_t_nextWays s_p0_size s_t_children r18.2.1 r18.2.2.1 s_t_size s_t_wives r_p0_child r_p0_wife r_t_byChild r_t_byFather r_t_byHusband q15 r_t_searched r18.2.2.2.1 r18.2.2.2.2) H := hP
        have hD : va_D A (w_X9_gather cI cB cZ a_p0 a_t a_p0_child a_p0_wife a_t_byChild a_t_byFather a_t_byHusband a_t_byWife a_t_searched a_t_slot a_t_turn u_p0_husband u_p0_father u_t_before u_t_queue u_t_ways u_t_nextWays s_p0_size s_t_children r18.2.1 r18.2.2.1 s_t_size s_t_wives r_p0_child r_p0_wife r_t_byChild r_t_byFather r_t_byHusband q15 r_t_searched r18.2.2.2.1 r18.2.2.2.2) := hD
        obtain ⟨q19, hq19, iq19, hf⟩ := jS_some hf
        refine ja_iast (P := r_t_byChild) (P' := q19) hx hb hK hP hD hS 4 0 rfl rfl hq19 iq19 dX9_gather_177 (fun H locs hP hD hS => ?_)
        have hP : va_P D vwCl (w_X9_gather cI cB cZ a_p0 a_t a_p0_child a_p0_wife a_t_byChild a_t_byFather a_t_byHusband a_t_byWife a_t_searched a_t_slot a_t_turn u_p0_husband u_p0_father u_t_before u_t_queue u_t_ways u_t_nextWays s_p0_size s_t_children r18.2.1 r18.2.2.1 s_t_size s_t_wives r_p0_child r_p0_wife q19 r_t_byFather r_t_byHusband q15 r_t_searched r18.2.2.2.1 r18.2.2.2.2) H := hP
        have hD : va_D A (w_X9_gather cI cB cZ a_p0 a_t a_p0_child a_p0_wife a_t_byChild a_t_byFather a_t_byHusband a_t_byWife a_t_searched a_t_slot a_t_turn u_p0_husband u_p0_father u_t_before u_t_queue u_t_ways u_t_nextWays s_p0_size s_t_children r18.2.1 r18.2.2.1 s_t_size s_t_wives r_p0_child r_p0_wife q19 r_t_byFather r_t_byHusband q15 r_t_searched r18.2.2.2.1 r18.2.2.2.2) := hD
        refine lv_iinc (v := (x4 + 1)) (lv' := [(4, .int (x4 + 1)), (0, .ref a_t)]) hx hb dX9_gather_178 hl (k := 1) rfl (by first | rfl | decide) (by decide) rfl (fun ls hl => ?_)
        refine lv_goto (tgt := 102) hx hb dX9_gather_181 (by decide) ?_
        have ho := Option.some.inj hf
        exact K.1 _ ho.symm _ _ _ hP hD hS (lv_sub hl [1, 0] rfl)
def f_X9_gather_l102 (s_t_children s_t_size s_t_wives : Int32) (r_t_byFather r_t_byHusband r_t_searched : jA) (s_t_count s_t_many : Int32) (r_t_byChild r_t_byWife r_t_slot r_t_turn : jA) (x4 : Int32) : Option ((Int32 × Int32 × jA × jA × jA × jA)) :=
  jI (fun z => f_X9_gather_b102 s_t_children z.1 z.2.1 s_t_size s_t_wives z.2.2.1 r_t_byFather r_t_byHusband z.2.2.2.1 r_t_searched z.2.2.2.2.1 z.2.2.2.2.2.1 z.2.2.2.2.2.2) jF (s_t_count, s_t_many, r_t_byChild, r_t_byWife, r_t_slot, r_t_turn, x4)
set_option maxHeartbeats 4000000 in
set_option maxRecDepth 100000 in
theorem t_X9_gather_l102 {p : Program} {l : Launch} {e : Env} {s : State} {m : MethodId} {args : Array Value} {below : List Frame} {meth : Method} {c : Code} {A : Nat → Prop} {Q : State → Prop} (G : jGt) (D : va_G) (cI cB cZ : ClassId) (a_p0 a_t a_p0_child a_p0_wife a_t_byChild a_t_byFather a_t_byHusband a_t_byWife a_t_searched a_t_slot a_t_turn : Nat) (u_p0_husband u_p0_father u_t_before u_t_queue u_t_ways u_t_nextWays : Value) (s_p0_size : Int32) (r_p0_child r_p0_wife : jA) (s_t_children s_t_size s_t_wives : Int32) (r_t_byFather r_t_byHusband r_t_searched : jA) (C : jCx p s m args c cX9_gather 5 gX9_gather RX9 G D (jT cI cB cZ) A) : ∀ (n : Nat) (s_t_count s_t_many : Int32) (r_t_byChild r_t_byWife r_t_slot r_t_turn : jA) (x4 : Int32) {eo : (Int32 × Int32 × jA × jA × jA × jA)}, jI (fun z => f_X9_gather_b102 s_t_children z.1 z.2.1 s_t_size s_t_wives z.2.2.1 r_t_byFather r_t_byHusband z.2.2.2.1 r_t_searched z.2.2.2.2.1 z.2.2.2.2.2.1 z.2.2.2.2.2.2) n (s_t_count, s_t_many, r_t_byChild, r_t_byWife, r_t_slot, r_t_turn, x4) = some eo → (∀ (H : Heap) (locs : List Loc) (ls : Array Slot), va_P D vwCl (w_X9_gather cI cB cZ a_p0 a_t a_p0_child a_p0_wife a_t_byChild a_t_byFather a_t_byHusband a_t_byWife a_t_searched a_t_slot a_t_turn u_p0_husband u_p0_father u_t_before u_t_queue u_t_ways u_t_nextWays s_p0_size s_t_children eo.1 eo.2.1 s_t_size s_t_wives r_p0_child r_p0_wife eo.2.2.1 r_t_byFather r_t_byHusband eo.2.2.2.1 r_t_searched eo.2.2.2.2.1 eo.2.2.2.2.2) H → va_D A (w_X9_gather cI cB cZ a_p0 a_t a_p0_child a_p0_wife a_t_byChild a_t_byFather a_t_byHusband a_t_byWife a_t_searched a_t_slot a_t_turn u_p0_husband u_p0_father u_t_before u_t_queue u_t_ways u_t_nextWays s_p0_size s_t_children eo.1 eo.2.1 s_t_size s_t_wives r_p0_child r_p0_wife eo.2.2.1 r_t_byFather r_t_byHusband eo.2.2.2.1 r_t_searched eo.2.2.2.2.1 eo.2.2.2.2.2) → va_S A s.heap H locs → lv_has ls 5 [(0, .ref a_t)] → W p l e rX9_gather s m args below meth c H locs 0 0 Q (F0 m 184 ls [])) → ∀ (H : Heap) (locs : List Loc) (ls : Array Slot), va_P D vwCl (w_X9_gather cI cB cZ a_p0 a_t a_p0_child a_p0_wife a_t_byChild a_t_byFather a_t_byHusband a_t_byWife a_t_searched a_t_slot a_t_turn u_p0_husband u_p0_father u_t_before u_t_queue u_t_ways u_t_nextWays s_p0_size s_t_children s_t_count s_t_many s_t_size s_t_wives r_p0_child r_p0_wife r_t_byChild r_t_byFather r_t_byHusband r_t_byWife r_t_searched r_t_slot r_t_turn) H → va_D A (w_X9_gather cI cB cZ a_p0 a_t a_p0_child a_p0_wife a_t_byChild a_t_byFather a_t_byHusband a_t_byWife a_t_searched a_t_slot a_t_turn u_p0_husband u_p0_father u_t_before u_t_queue u_t_ways u_t_nextWays s_p0_size s_t_children s_t_count s_t_many s_t_size s_t_wives r_p0_child r_p0_wife r_t_byChild r_t_byFather r_t_byHusband r_t_byWife r_t_searched r_t_slot r_t_turn) → va_S A s.heap H locs → lv_has ls 5 [(0, .ref a_t), (4, .int x4)] → W p l e rX9_gather s m args below meth c H locs 0 0 Q (F0 m 102 ls []) := by
  intro n
  induction n with
  | zero =>
    intro s_t_count s_t_many r_t_byChild r_t_byWife r_t_slot r_t_turn x4 eo hf
    exact (jI_zero hf).elim
  | succ n ih =>
    intro s_t_count s_t_many r_t_byChild r_t_byWife r_t_slot r_t_turn x4 eo hf K H locs ls hP hD hS hl
    obtain ⟨o, hb1, ho⟩ := jI_some hf
    rcases ho with ⟨z, rfl, hf2⟩ | rfl
    · exact t_X9_gather_b102 G D cI cB cZ a_p0 a_t a_p0_child a_p0_wife a_t_byChild a_t_byFather a_t_byHusband a_t_byWife a_t_searched a_t_slot a_t_turn u_p0_husband u_p0_father u_t_before u_t_queue u_t_ways u_t_nextWays s_p0_size r_p0_child r_p0_wife s_t_children s_t_count s_t_many s_t_size s_t_wives r_t_byChild r_t_byFather r_t_byHusband r_t_byWife r_t_searched r_t_slot r_t_turn x4 C hb1 ⟨fun z2 hz H locs ls hP hD hS hl => by cases hz; exact ih z.1 z.2.1 z.2.2.1 z.2.2.2.1 z.2.2.2.2.1 z.2.2.2.2.2.1 z.2.2.2.2.2.2 hf2 K H locs ls hP hD hS hl, fun z2 hz => by cases hz⟩ hP hD hS hl
    · exact t_X9_gather_b102 G D cI cB cZ a_p0 a_t a_p0_child a_p0_wife a_t_byChild a_t_byFather a_t_byHusband a_t_byWife a_t_searched a_t_slot a_t_turn u_p0_husband u_p0_father u_t_before u_t_queue u_t_ways u_t_nextWays s_p0_size r_p0_child r_p0_wife s_t_children s_t_count s_t_many s_t_size s_t_wives r_t_byChild r_t_byFather r_t_byHusband r_t_byWife r_t_searched r_t_slot r_t_turn x4 C hb1 ⟨fun z2 hz => (by cases hz), fun z2 hz => by cases hz; exact K⟩ hP hD hS hl
def f_X9_gather_b187 (s_t_children s_t_count s_t_many s_t_size s_t_wives : Int32) (r_t_byChild r_t_byFather r_t_byHusband r_t_byWife r_t_searched r_t_slot r_t_turn : jA) (x4 : Int32) : Option ((jA × jA × Int32) ⊕ ((jA × jA))) :=
  if s_t_count ≤ x4 then
  some (Sum.inr (r_t_byFather, r_t_byHusband))
  else
  if (500 : Int32) ≤ x4 then
  some (Sum.inr (r_t_byFather, r_t_byHusband))
  else
  if s_t_many = 0 then
  jL r_t_byWife x4 fun v24 =>
  jM (f_X11_set r_t_byHusband v24 x4) fun r25 =>
  jL r_t_byChild x4 fun v26 =>
  jM (f_X11_set r_t_byFather v26 x4) fun r27 =>
  some (Sum.inl (r27, r25, (x4 + 1)))
  else
  some (Sum.inr (r_t_byFather, r_t_byHusband))
set_option maxHeartbeats 4000000 in
set_option maxRecDepth 100000 in
theorem t_X9_gather_b187 {p : Program} {l : Launch} {e : Env} {s : State} {m : MethodId} {args : Array Value} {below : List Frame} {meth : Method} {c : Code} {A : Nat → Prop} {Q : State → Prop} (G : jGt) (D : va_G) (cI cB cZ : ClassId) (a_p0 a_t a_p0_child a_p0_wife a_t_byChild a_t_byFather a_t_byHusband a_t_byWife a_t_searched a_t_slot a_t_turn : Nat) (u_p0_husband u_p0_father u_t_before u_t_queue u_t_ways u_t_nextWays : Value) (s_p0_size : Int32) (r_p0_child r_p0_wife : jA) (s_t_children s_t_count s_t_many s_t_size s_t_wives : Int32) (r_t_byChild r_t_byFather r_t_byHusband r_t_byWife r_t_searched r_t_slot r_t_turn : jA) (x4 : Int32) (C : jCx p s m args c cX9_gather 5 gX9_gather RX9 G D (jT cI cB cZ) A) {o : (jA × jA × Int32) ⊕ ((jA × jA))} (hf : f_X9_gather_b187 s_t_children s_t_count s_t_many s_t_size s_t_wives r_t_byChild r_t_byFather r_t_byHusband r_t_byWife r_t_searched r_t_slot r_t_turn x4 = some o) (K : (∀ z, o = Sum.inl z → ∀ (H : Heap) (locs : List Loc) (ls : Array Slot), va_P D vwCl (w_X9_gather cI cB cZ a_p0 a_t a_p0_child a_p0_wife a_t_byChild a_t_byFather a_t_byHusband a_t_byWife a_t_searched a_t_slot a_t_turn u_p0_husband u_p0_father u_t_before u_t_queue u_t_ways u_t_nextWays s_p0_size s_t_children s_t_count s_t_many s_t_size s_t_wives r_p0_child r_p0_wife r_t_byChild z.1 z.2.1 r_t_byWife r_t_searched r_t_slot r_t_turn) H → va_D A (w_X9_gather cI cB cZ a_p0 a_t a_p0_child a_p0_wife a_t_byChild a_t_byFather a_t_byHusband a_t_byWife a_t_searched a_t_slot a_t_turn u_p0_husband u_p0_father u_t_before u_t_queue u_t_ways u_t_nextWays s_p0_size s_t_children s_t_count s_t_many s_t_size s_t_wives r_p0_child r_p0_wife r_t_byChild z.1 z.2.1 r_t_byWife r_t_searched r_t_slot r_t_turn) → va_S A s.heap H locs → lv_has ls 5 [(0, .ref a_t), (4, .int z.2.2)] → W p l e rX9_gather s m args below meth c H locs 0 0 Q (F0 m 187 ls [])) ∧ (∀ z, o = Sum.inr z → ∀ (H : Heap) (locs : List Loc) (ls : Array Slot), va_P D vwCl (w_X9_gather cI cB cZ a_p0 a_t a_p0_child a_p0_wife a_t_byChild a_t_byFather a_t_byHusband a_t_byWife a_t_searched a_t_slot a_t_turn u_p0_husband u_p0_father u_t_before u_t_queue u_t_ways u_t_nextWays s_p0_size s_t_children s_t_count s_t_many s_t_size s_t_wives r_p0_child r_p0_wife r_t_byChild z.1 z.2 r_t_byWife r_t_searched r_t_slot r_t_turn) H → va_D A (w_X9_gather cI cB cZ a_p0 a_t a_p0_child a_p0_wife a_t_byChild a_t_byFather a_t_byHusband a_t_byWife a_t_searched a_t_slot a_t_turn u_p0_husband u_p0_father u_t_before u_t_queue u_t_ways u_t_nextWays s_p0_size s_t_children s_t_count s_t_many s_t_size s_t_wives r_p0_child r_p0_wife r_t_byChild z.1 z.2 r_t_byWife r_t_searched r_t_slot r_t_turn) → va_S A s.heap H locs → lv_has ls 5 [] → W p l e rX9_gather s m args below meth c H locs 0 0 Q (F0 m 249 ls []))) {H : Heap} {locs : List Loc} {ls : Array Slot} (hP : va_P D vwCl (w_X9_gather cI cB cZ a_p0 a_t a_p0_child a_p0_wife a_t_byChild a_t_byFather a_t_byHusband a_t_byWife a_t_searched a_t_slot a_t_turn u_p0_husband u_p0_father u_t_before u_t_queue u_t_ways u_t_nextWays s_p0_size s_t_children s_t_count s_t_many s_t_size s_t_wives r_p0_child r_p0_wife r_t_byChild r_t_byFather r_t_byHusband r_t_byWife r_t_searched r_t_slot r_t_turn) H) (hD : va_D A (w_X9_gather cI cB cZ a_p0 a_t a_p0_child a_p0_wife a_t_byChild a_t_byFather a_t_byHusband a_t_byWife a_t_searched a_t_slot a_t_turn u_p0_husband u_p0_father u_t_before u_t_queue u_t_ways u_t_nextWays s_p0_size s_t_children s_t_count s_t_many s_t_size s_t_wives r_p0_child r_p0_wife r_t_byChild r_t_byFather r_t_byHusband r_t_byWife r_t_searched r_t_slot r_t_turn)) (hS : va_S A s.heap H locs) (hl : lv_has ls 5 [(0, .ref a_t), (4, .int x4)]) : W p l e rX9_gather s m args below meth c H locs 0 0 Q (F0 m 187 ls []) := by
  obtain ⟨⟨hx, hb, hml, hown, hts⟩, hK, hN, hA⟩ := C
  have C : jCx p s m args c cX9_gather 5 gX9_gather RX9 G D (jT cI cB cZ) A := ⟨⟨hx, hb, hml, hown, hts⟩, hK, hN, hA⟩
  unfold f_X9_gather_b187 at hf
  refine lv_iload hx hb dX9_gather_187 (lv_at hl 1 rfl) ?_
  refine lv_aload_n hx hb dX9_gather_189 rfl (lv_at hl 0 rfl) ?_
  refine va_get (D := D) (ci := 8) (v := .int s_t_count) (C := RX9) (T := TX9) (N := 16) hx hb hts iw_X9 hown hK hP 1 rfl rfl 3 (by decide) (hts _ (wG_in k_fl_X9_56 rfl)) (fun _ h9 => h9) rfl dX9_gather_190 ?_
  refine lv_icmp_ge (tgt := 249) hx hb dX9_gather_193 (by decide) (fun c21 => ?_) (fun c21 => ?_)
  · replace hf := jif_t c21 hf
    have ho := Option.some.inj hf
    exact (K.2 _ ho.symm) _ _ _ hP hD hS (lv_sub hl [] rfl)
  · replace hf := jif_f c21 hf
    refine lv_iload hx hb dX9_gather_196 (lv_at hl 1 rfl) ?_
    refine lv_sipush (v := (500 : Int32)) hx hb dX9_gather_198 (by decide) ?_
    refine lv_icmp_ge (tgt := 249) hx hb dX9_gather_201 (by decide) (fun c22 => ?_) (fun c22 => ?_)
    · replace hf := jif_t c22 hf
      have ho := Option.some.inj hf
      exact (K.2 _ ho.symm) _ _ _ hP hD hS (lv_sub hl [] rfl)
    · replace hf := jif_f c22 hf
      refine lv_aload_n hx hb dX9_gather_204 rfl (lv_at hl 0 rfl) ?_
      refine va_get (D := D) (ci := 8) (v := .int s_t_many) (C := RX9) (T := TX9) (N := 16) hx hb hts iw_X9 hown hK hP 1 rfl rfl 4 (by decide) (hts _ (wG_in k_fl_X9_52 rfl)) (fun _ h9 => h9) rfl dX9_gather_205 ?_
      refine lv_if_ne (tgt := 249) hx hb dX9_gather_208 (by decide) (fun c23 => ?_) (fun c23 => ?_)
      · replace hf := jif_f c23 hf
        have ho := Option.some.inj hf
        exact (K.2 _ ho.symm) _ _ _ hP hD hS (lv_sub hl [] rfl)
      · replace hf := jif_t c23 hf
        refine lv_aload_n hx hb dX9_gather_211 rfl (lv_at hl 0 rfl) ?_
        refine va_get (D := D) (ci := 8) (v := .ref a_t_byHusband) (C := RX9) (T := TX9) (N := 16) hx hb hts iw_X9 hown hK hP 1 rfl rfl 9 (by decide) (hts _ (wG_in k_fl_X9_24 rfl)) (fun _ h9 => h9) rfl dX9_gather_212 ?_
        refine lv_aload_n hx hb dX9_gather_215 rfl (lv_at hl 0 rfl) ?_
        refine va_get (D := D) (ci := 8) (v := .ref a_t_byWife) (C := RX9) (T := TX9) (N := 16) hx hb hts iw_X9 hown hK hP 1 rfl rfl 7 (by decide) (hts _ (wG_in k_fl_X9_18 rfl)) (fun _ h9 => h9) rfl dX9_gather_216 ?_
        refine lv_iload hx hb dX9_gather_219 (lv_at hl 1 rfl) ?_
        obtain ⟨v24, hv24, iv24, hf⟩ := jL_some hf
        refine ja_iald (P := r_t_byWife) hx hb hK hP 7 0 rfl rfl hv24 iv24 dX9_gather_221 ?_
        refine lv_iload hx hb dX9_gather_222 (lv_at hl 1 rfl) ?_
        obtain ⟨r25, hgr25, hf⟩ := jM_some hf
        refine jcN_v (As := [.ref a_t_byHusband, .int v24, .int x4]) (rest := []) ⟨hx, hb, hml, hown, hts⟩ hK hN hA (c_X11_set l G D cI cB cZ a_t_byHusband r_t_byHusband v24 x4 hgr25) ⟨va_cnB 3 hts (wG_good k_co_X11_set) rfl rfl rfl (jN_l nl_X9_94 hN) (hts _ (wG_in k_in_X11 rfl)) hd_X11_set.2 ⟨Nat.le_of_ble_eq_true rfl, Nat.le_of_ble_eq_true rfl⟩, hts _ (wG_in k_st_X11_set rfl), trivial⟩ hP hD hS [6] rfl rfl rfl rfl hl.1 rfl (Nat.le_of_ble_eq_true rfl) dX9_gather_224 ⟨Nat.le_of_ble_eq_true rfl, Nat.le_of_ble_eq_true rfl⟩ (fun H locs hP hD hS => ?_)
        have hP : va_P D vwCl (w_X9_gather cI cB cZ a_p0 a_t a_p0_child a_p0_wife a_t_byChild a_t_byFather a_t_byHusband a_t_byWife a_t_searched a_t_slot a_t_turn u_p0_husband u_p0_father u_t_before u_t_queue u_t_ways u_t_nextWays s_p0_size s_t_children s_t_count s_t_many s_t_size s_t_wives r_p0_child r_p0_wife r_t_byChild r_t_byFather r25 r_t_byWife r_t_searched r_t_slot r_t_turn) H := hP
        have hD : va_D A (w_X9_gather cI cB cZ a_p0 a_t a_p0_child a_p0_wife a_t_byChild a_t_byFather a_t_byHusband a_t_byWife a_t_searched a_t_slot a_t_turn u_p0_husband u_p0_father u_t_before u_t_queue u_t_ways u_t_nextWays s_p0_size s_t_children s_t_count s_t_many s_t_size s_t_wives r_p0_child r_p0_wife r_t_byChild r_t_byFather r25 r_t_byWife r_t_searched r_t_slot r_t_turn) := hD
        refine lv_aload_n hx hb dX9_gather_227 rfl (lv_at hl 0 rfl) ?_
        refine va_get (D := D) (ci := 8) (v := .ref a_t_byFather) (C := RX9) (T := TX9) (N := 16) hx hb hts iw_X9 hown hK hP 1 rfl rfl 10 (by decide) (hts _ (wG_in k_fl_X9_27 rfl)) (fun _ h9 => h9) rfl dX9_gather_228 ?_
        refine lv_aload_n hx hb dX9_gather_231 rfl (lv_at hl 0 rfl) ?_
        refine va_get (D := D) (ci := 8) (v := .ref a_t_byChild) (C := RX9) (T := TX9) (N := 16) hx hb hts iw_X9 hown hK hP 1 rfl rfl 8 (by decide) (hts _ (wG_in k_fl_X9_21 rfl)) (fun _ h9 => h9) rfl dX9_gather_232 ?_
        refine lv_iload hx hb dX9_gather_235 (lv_at hl 1 rfl) ?_
        obtain ⟨v26, hv26, iv26, hf⟩ := jL_some hf
        refine ja_iald (P := r_t_byChild) hx hb hK hP 4 0 rfl rfl hv26 iv26 dX9_gather_237 ?_
        refine lv_iload hx hb dX9_gather_238 (lv_at hl 1 rfl) ?_
        obtain ⟨r27, hgr27, hf⟩ := jM_some hf
        refine jcN_v (As := [.ref a_t_byFather, .int v26, .int x4]) (rest := []) ⟨hx, hb, hml, hown, hts⟩ hK hN hA (c_X11_set l G D cI cB cZ a_t_byFather r_t_byFather v26 x4 hgr27) ⟨va_cnB 3 hts (wG_good k_co_X11_set) rfl rfl rfl (jN_l nl_X9_94 hN) (hts _ (wG_in k_in_X11 rfl)) hd_X11_set.2 ⟨Nat.le_of_ble_eq_true rfl, Nat.le_of_ble_eq_true rfl⟩, hts _ (wG_in k_st_X11_set rfl), trivial⟩ hP hD hS [5] rfl rfl rfl rfl hl.1 rfl (Nat.le_of_ble_eq_true rfl) dX9_gather_240 ⟨Nat.le_of_ble_eq_true rfl, Nat.le_of_ble_eq_true rfl⟩ (fun H locs hP hD hS => ?_)
        have hP : va_P D vwCl (w_X9_gather cI cB cZ a_p0 a_t a_p0_child a_p0_wife a_t_byChild a_t_byFather a_t_byHusband a_t_byWife a_t_searched a_t_slot a_t_turn u_p0_husband u_p0_father u_t_before u_t_queue u_t_ways u_t_nextWays s_p0_size s_t_children s_t_count s_t_many s_t_size s_t_wives r_p0_child r_p0_wife r_t_byChild r27 r25 r_t_byWife r_t_searched r_t_slot r_t_turn) H := hP
        have hD : va_D A (w_X9_gather cI cB cZ a_p0 a_t a_p0_child a_p0_wife a_t_byChild a_t_byFather a_t_byHusband a_t_byWife a_t_searched a_t_slot a_t_turn u_p0_husband u_p0_father u_t_before u_t_queue u_t_ways u_t_nextWays s_p0_size s_t_children s_t_count s_t_many s_t_size s_t_wives r_p0_child r_p0_wife r_t_byChild r27 r25 r_t_byWife r_t_searched r_t_slot r_t_turn) := hD
        refine lv_iinc (v := (x4 + 1)) (lv' := [(4, .int (x4 + 1)), (0, .ref a_t)]) hx hb dX9_gather_243 hl (k := 1) rfl (by first | rfl | decide) (by decide) rfl (fun ls hl => ?_)
        refine lv_goto (tgt := 187) hx hb dX9_gather_246 (by decide) ?_
        have ho := Option.some.inj hf
        exact K.1 _ ho.symm _ _ _ hP hD hS (lv_sub hl [1, 0] rfl)
def f_X9_gather_l187 (s_t_children s_t_count s_t_many s_t_size s_t_wives : Int32) (r_t_byChild r_t_byWife r_t_searched r_t_slot r_t_turn r_t_byFather r_t_byHusband : jA) (x4 : Int32) : Option ((jA × jA)) :=
  jI (fun z => f_X9_gather_b187 s_t_children s_t_count s_t_many s_t_size s_t_wives r_t_byChild z.1 z.2.1 r_t_byWife r_t_searched r_t_slot r_t_turn z.2.2) jF (r_t_byFather, r_t_byHusband, x4)
set_option maxHeartbeats 4000000 in
set_option maxRecDepth 100000 in
theorem t_X9_gather_l187 {p : Program} {l : Launch} {e : Env} {s : State} {m : MethodId} {args : Array Value} {below : List Frame} {meth : Method} {c : Code} {A : Nat → Prop} {Q : State → Prop} (G : jGt) (D : va_G) (cI cB cZ : ClassId) (a_p0 a_t a_p0_child a_p0_wife a_t_byChild a_t_byFather a_t_byHusband a_t_byWife a_t_searched a_t_slot a_t_turn : Nat) (u_p0_husband u_p0_father u_t_before u_t_queue u_t_ways u_t_nextWays : Value) (s_p0_size : Int32) (r_p0_child r_p0_wife : jA) (s_t_children s_t_count s_t_many s_t_size s_t_wives : Int32) (r_t_byChild r_t_byWife r_t_searched r_t_slot r_t_turn : jA) (C : jCx p s m args c cX9_gather 5 gX9_gather RX9 G D (jT cI cB cZ) A) : ∀ (n : Nat) (r_t_byFather r_t_byHusband : jA) (x4 : Int32) {eo : (jA × jA)}, jI (fun z => f_X9_gather_b187 s_t_children s_t_count s_t_many s_t_size s_t_wives r_t_byChild z.1 z.2.1 r_t_byWife r_t_searched r_t_slot r_t_turn z.2.2) n (r_t_byFather, r_t_byHusband, x4) = some eo → (∀ (H : Heap) (locs : List Loc) (ls : Array Slot), va_P D vwCl (w_X9_gather cI cB cZ a_p0 a_t a_p0_child a_p0_wife a_t_byChild a_t_byFather a_t_byHusband a_t_byWife a_t_searched a_t_slot a_t_turn u_p0_husband u_p0_father u_t_before u_t_queue u_t_ways u_t_nextWays s_p0_size s_t_children s_t_count s_t_many s_t_size s_t_wives r_p0_child r_p0_wife r_t_byChild eo.1 eo.2 r_t_byWife r_t_searched r_t_slot r_t_turn) H → va_D A (w_X9_gather cI cB cZ a_p0 a_t a_p0_child a_p0_wife a_t_byChild a_t_byFather a_t_byHusband a_t_byWife a_t_searched a_t_slot a_t_turn u_p0_husband u_p0_father u_t_before u_t_queue u_t_ways u_t_nextWays s_p0_size s_t_children s_t_count s_t_many s_t_size s_t_wives r_p0_child r_p0_wife r_t_byChild eo.1 eo.2 r_t_byWife r_t_searched r_t_slot r_t_turn) → va_S A s.heap H locs → lv_has ls 5 [] → W p l e rX9_gather s m args below meth c H locs 0 0 Q (F0 m 249 ls [])) → ∀ (H : Heap) (locs : List Loc) (ls : Array Slot), va_P D vwCl (w_X9_gather cI cB cZ a_p0 a_t a_p0_child a_p0_wife a_t_byChild a_t_byFather a_t_byHusband a_t_byWife a_t_searched a_t_slot a_t_turn u_p0_husband u_p0_father u_t_before u_t_queue u_t_ways u_t_nextWays s_p0_size s_t_children s_t_count s_t_many s_t_size s_t_wives r_p0_child r_p0_wife r_t_byChild r_t_byFather r_t_byHusband r_t_byWife r_t_searched r_t_slot r_t_turn) H → va_D A (w_X9_gather cI cB cZ a_p0 a_t a_p0_child a_p0_wife a_t_byChild a_t_byFather a_t_byHusband a_t_byWife a_t_searched a_t_slot a_t_turn u_p0_husband u_p0_father u_t_before u_t_queue u_t_ways u_t_nextWays s_p0_size s_t_children s_t_count s_t_many s_t_size s_t_wives r_p0_child r_p0_wife r_t_byChild r_t_byFather r_t_byHusband r_t_byWife r_t_searched r_t_slot r_t_turn) → va_S A s.heap H locs → lv_has ls 5 [(0, .ref a_t), (4, .int x4)] → W p l e rX9_gather s m args below meth c H locs 0 0 Q (F0 m 187 ls []) := by
  intro n
  induction n with
  | zero =>
    intro r_t_byFather r_t_byHusband x4 eo hf
    exact (jI_zero hf).elim
  | succ n ih =>
    intro r_t_byFather r_t_byHusband x4 eo hf K H locs ls hP hD hS hl
    obtain ⟨o, hb1, ho⟩ := jI_some hf
    rcases ho with ⟨z, rfl, hf2⟩ | rfl
    · exact t_X9_gather_b187 G D cI cB cZ a_p0 a_t a_p0_child a_p0_wife a_t_byChild a_t_byFather a_t_byHusband a_t_byWife a_t_searched a_t_slot a_t_turn u_p0_husband u_p0_father u_t_before u_t_queue u_t_ways u_t_nextWays s_p0_size r_p0_child r_p0_wife s_t_children s_t_count s_t_many s_t_size s_t_wives r_t_byChild r_t_byFather r_t_byHusband r_t_byWife r_t_searched r_t_slot r_t_turn x4 C hb1 ⟨fun z2 hz H locs ls hP hD hS hl => by cases hz; exact ih z.1 z.2.1 z.2.2 hf2 K H locs ls hP hD hS hl, fun z2 hz => by cases hz⟩ hP hD hS hl
    · exact t_X9_gather_b187 G D cI cB cZ a_p0 a_t a_p0_child a_p0_wife a_t_byChild a_t_byFather a_t_byHusband a_t_byWife a_t_searched a_t_slot a_t_turn u_p0_husband u_p0_father u_t_before u_t_queue u_t_ways u_t_nextWays s_p0_size r_p0_child r_p0_wife s_t_children s_t_count s_t_many s_t_size s_t_wives r_t_byChild r_t_byFather r_t_byHusband r_t_byWife r_t_searched r_t_slot r_t_turn x4 C hb1 ⟨fun z2 hz => (by cases hz), fun z2 hz => by cases hz; exact K⟩ hP hD hS hl
def f_X9_gather_j184 (s_t_children s_t_count s_t_many s_t_size s_t_wives : Int32) (r_t_byChild r_t_byFather r_t_byHusband r_t_byWife r_t_searched r_t_slot r_t_turn : jA) : Option (Int32 × Int32 × Int32 × Int32 × Int32 × jA × jA × jA × jA × jA × jA × jA) :=
  jM (f_X9_gather_l187 s_t_children s_t_count s_t_many s_t_size s_t_wives r_t_byChild r_t_byWife r_t_searched r_t_slot r_t_turn r_t_byFather r_t_byHusband (0 : Int32)) fun e28 =>
  some (s_t_children, s_t_count, s_t_many, s_t_size, s_t_wives, r_t_byChild, e28.1, e28.2, r_t_byWife, r_t_searched, r_t_slot, r_t_turn)
set_option maxHeartbeats 4000000 in
set_option maxRecDepth 100000 in
theorem t_X9_gather_j184 {p : Program} {l : Launch} {e : Env} {s : State} {m : MethodId} {args : Array Value} {below : List Frame} {meth : Method} {c : Code} {A : Nat → Prop} {Q : State → Prop} (G : jGt) (D : va_G) (cI cB cZ : ClassId) (a_p0 a_t a_p0_child a_p0_wife a_t_byChild a_t_byFather a_t_byHusband a_t_byWife a_t_searched a_t_slot a_t_turn : Nat) (u_p0_husband u_p0_father u_t_before u_t_queue u_t_ways u_t_nextWays : Value) (s_p0_size : Int32) (r_p0_child r_p0_wife : jA) (s_t_children s_t_count s_t_many s_t_size s_t_wives : Int32) (r_t_byChild r_t_byFather r_t_byHusband r_t_byWife r_t_searched r_t_slot r_t_turn : jA) (C : jCx p s m args c cX9_gather 5 gX9_gather RX9 G D (jT cI cB cZ) A) {o : Int32 × Int32 × Int32 × Int32 × Int32 × jA × jA × jA × jA × jA × jA × jA} (hf : f_X9_gather_j184 s_t_children s_t_count s_t_many s_t_size s_t_wives r_t_byChild r_t_byFather r_t_byHusband r_t_byWife r_t_searched r_t_slot r_t_turn = some o) (K : ∀ (H : Heap) (locs : List Loc) (pc : Nat) (ls : Array Slot), va_P D vwCl (w_X9_gather cI cB cZ a_p0 a_t a_p0_child a_p0_wife a_t_byChild a_t_byFather a_t_byHusband a_t_byWife a_t_searched a_t_slot a_t_turn u_p0_husband u_p0_father u_t_before u_t_queue u_t_ways u_t_nextWays s_p0_size o.1 o.2.1 o.2.2.1 o.2.2.2.1 o.2.2.2.2.1 r_p0_child r_p0_wife o.2.2.2.2.2.1 o.2.2.2.2.2.2.1 o.2.2.2.2.2.2.2.1 o.2.2.2.2.2.2.2.2.1 o.2.2.2.2.2.2.2.2.2.1 o.2.2.2.2.2.2.2.2.2.2.1 o.2.2.2.2.2.2.2.2.2.2.2) H → va_S A s.heap H locs → decode cX9_gather pc = .ok (.return_, 1) → W p l e rX9_gather s m args below meth c H locs 0 0 Q (F0 m pc ls [])) {H : Heap} {locs : List Loc} {ls : Array Slot} (hP : va_P D vwCl (w_X9_gather cI cB cZ a_p0 a_t a_p0_child a_p0_wife a_t_byChild a_t_byFather a_t_byHusband a_t_byWife a_t_searched a_t_slot a_t_turn u_p0_husband u_p0_father u_t_before u_t_queue u_t_ways u_t_nextWays s_p0_size s_t_children s_t_count s_t_many s_t_size s_t_wives r_p0_child r_p0_wife r_t_byChild r_t_byFather r_t_byHusband r_t_byWife r_t_searched r_t_slot r_t_turn) H) (hD : va_D A (w_X9_gather cI cB cZ a_p0 a_t a_p0_child a_p0_wife a_t_byChild a_t_byFather a_t_byHusband a_t_byWife a_t_searched a_t_slot a_t_turn u_p0_husband u_p0_father u_t_before u_t_queue u_t_ways u_t_nextWays s_p0_size s_t_children s_t_count s_t_many s_t_size s_t_wives r_p0_child r_p0_wife r_t_byChild r_t_byFather r_t_byHusband r_t_byWife r_t_searched r_t_slot r_t_turn)) (hS : va_S A s.heap H locs) (hl : lv_has ls 5 [(0, .ref a_t)]) : W p l e rX9_gather s m args below meth c H locs 0 0 Q (F0 m 184 ls []) := by
  obtain ⟨⟨hx, hb, hml, hown, hts⟩, hK, hN, hA⟩ := C
  have C : jCx p s m args c cX9_gather 5 gX9_gather RX9 G D (jT cI cB cZ) A := ⟨⟨hx, hb, hml, hown, hts⟩, hK, hN, hA⟩
  unfold f_X9_gather_j184 at hf
  refine lv_iconst (v := (0 : Int32)) hx hb dX9_gather_184 (by decide) ?_
  refine lv_istore (lv' := [(4, .int (0 : Int32)), (0, .ref a_t)]) hx hb dX9_gather_185 hl (by decide) rfl (fun ls hl => ?_)
  obtain ⟨e28, hg28, hf⟩ := jM_some hf
  refine t_X9_gather_l187 G D cI cB cZ a_p0 a_t a_p0_child a_p0_wife a_t_byChild a_t_byFather a_t_byHusband a_t_byWife a_t_searched a_t_slot a_t_turn u_p0_husband u_p0_father u_t_before u_t_queue u_t_ways u_t_nextWays s_p0_size r_p0_child r_p0_wife s_t_children s_t_count s_t_many s_t_size s_t_wives r_t_byChild r_t_byWife r_t_searched r_t_slot r_t_turn C jF r_t_byFather r_t_byHusband (0 : Int32) hg28 ?_ _ _ _ hP hD hS (lv_sub hl [1, 0] rfl)
  intro H locs ls hP hD hS hl
  have ho := Option.some.inj hf
  subst ho
  exact K _ _ _ _ hP hS dX9_gather_249
def f_X9_gather_j40 (s_p0_size s_t_children s_t_count s_t_many s_t_size s_t_wives : Int32) (r_t_byChild r_t_byFather r_t_byHusband r_t_byWife r_t_searched r_t_slot r_t_turn : jA) (x2 x3 : Int32) : Option (Int32 × Int32 × Int32 × Int32 × Int32 × jA × jA × jA × jA × jA × jA × jA) :=
  jS r_t_searched (0 : Int32) (vp_nar .boolean (0 : Int32)) fun q4 =>
  jS q4 (1 : Int32) (vp_nar .boolean (0 : Int32)) fun q5 =>
  jM (f_J7_fill_53178 r_t_slot (0 : Int32)) fun r6 =>
  jM (f_X9_nothingDone s_p0_size) fun r7 =>
  jM (f_X9_numberOf (0 : Int32) (0 : Int32) r6 r_t_turn r7) fun r8 =>
  jM (f_X9_gather_l102 x3 s_p0_size x2 r_t_byFather r_t_byHusband q5 r8.2.1 r8.2.2.1 r_t_byChild r_t_byWife r8.2.2.2.1 r8.2.2.2.2 (0 : Int32)) fun e20 =>
  f_X9_gather_j184 x3 e20.1 e20.2.1 s_p0_size x2 e20.2.2.1 r_t_byFather r_t_byHusband e20.2.2.2.1 q5 e20.2.2.2.2.1 e20.2.2.2.2.2
set_option maxHeartbeats 4000000 in
set_option maxRecDepth 100000 in
theorem t_X9_gather_j40 {p : Program} {l : Launch} {e : Env} {s : State} {m : MethodId} {args : Array Value} {below : List Frame} {meth : Method} {c : Code} {A : Nat → Prop} {Q : State → Prop} (G : jGt) (D : va_G) (cI cB cZ : ClassId) (a_p0 a_t a_p0_child a_p0_wife a_t_byChild a_t_byFather a_t_byHusband a_t_byWife a_t_searched a_t_slot a_t_turn : Nat) (u_p0_husband u_p0_father u_t_before u_t_queue u_t_ways u_t_nextWays : Value) (s_p0_size : Int32) (r_p0_child r_p0_wife : jA) (s_t_children s_t_count s_t_many s_t_size s_t_wives : Int32) (r_t_byChild r_t_byFather r_t_byHusband r_t_byWife r_t_searched r_t_slot r_t_turn : jA) (x2 x3 : Int32) (C : jCx p s m args c cX9_gather 5 gX9_gather RX9 G D (jT cI cB cZ) A) {o : Int32 × Int32 × Int32 × Int32 × Int32 × jA × jA × jA × jA × jA × jA × jA} (hf : f_X9_gather_j40 s_p0_size s_t_children s_t_count s_t_many s_t_size s_t_wives r_t_byChild r_t_byFather r_t_byHusband r_t_byWife r_t_searched r_t_slot r_t_turn x2 x3 = some o) (K : ∀ (H : Heap) (locs : List Loc) (pc : Nat) (ls : Array Slot), va_P D vwCl (w_X9_gather cI cB cZ a_p0 a_t a_p0_child a_p0_wife a_t_byChild a_t_byFather a_t_byHusband a_t_byWife a_t_searched a_t_slot a_t_turn u_p0_husband u_p0_father u_t_before u_t_queue u_t_ways u_t_nextWays s_p0_size o.1 o.2.1 o.2.2.1 o.2.2.2.1 o.2.2.2.2.1 r_p0_child r_p0_wife o.2.2.2.2.2.1 o.2.2.2.2.2.2.1 o.2.2.2.2.2.2.2.1 o.2.2.2.2.2.2.2.2.1 o.2.2.2.2.2.2.2.2.2.1 o.2.2.2.2.2.2.2.2.2.2.1 o.2.2.2.2.2.2.2.2.2.2.2) H → va_S A s.heap H locs → decode cX9_gather pc = .ok (.return_, 1) → W p l e rX9_gather s m args below meth c H locs 0 0 Q (F0 m pc ls [])) {H : Heap} {locs : List Loc} {ls : Array Slot} (hP : va_P D vwCl (w_X9_gather cI cB cZ a_p0 a_t a_p0_child a_p0_wife a_t_byChild a_t_byFather a_t_byHusband a_t_byWife a_t_searched a_t_slot a_t_turn u_p0_husband u_p0_father u_t_before u_t_queue u_t_ways u_t_nextWays s_p0_size s_t_children s_t_count s_t_many s_t_size s_t_wives r_p0_child r_p0_wife r_t_byChild r_t_byFather r_t_byHusband r_t_byWife r_t_searched r_t_slot r_t_turn) H) (hD : va_D A (w_X9_gather cI cB cZ a_p0 a_t a_p0_child a_p0_wife a_t_byChild a_t_byFather a_t_byHusband a_t_byWife a_t_searched a_t_slot a_t_turn u_p0_husband u_p0_father u_t_before u_t_queue u_t_ways u_t_nextWays s_p0_size s_t_children s_t_count s_t_many s_t_size s_t_wives r_p0_child r_p0_wife r_t_byChild r_t_byFather r_t_byHusband r_t_byWife r_t_searched r_t_slot r_t_turn)) (hS : va_S A s.heap H locs) (hl : lv_has ls 5 [(0, .ref a_t), (1, .ref a_p0), (2, .int x2), (3, .int x3)]) : W p l e rX9_gather s m args below meth c H locs 0 0 Q (F0 m 40 ls []) := by
  obtain ⟨⟨hx, hb, hml, hown, hts⟩, hK, hN, hA⟩ := C
  have C : jCx p s m args c cX9_gather 5 gX9_gather RX9 G D (jT cI cB cZ) A := ⟨⟨hx, hb, hml, hown, hts⟩, hK, hN, hA⟩
  unfold f_X9_gather_j40 at hf
  refine lv_aload_n hx hb dX9_gather_40 rfl (lv_at hl 0 rfl) ?_
  refine lv_aload_n hx hb dX9_gather_41 rfl (lv_at hl 1 rfl) ?_
  refine va_get (D := D) (ci := 9) (v := .int s_p0_size) (C := RX10) (T := TX10) (N := 5) hx hb hts iw_X10 hown hK hP 0 rfl rfl 4 (by decide) (hts _ (wG_in k_fl_X9_69 rfl)) (fun _ h9 => h9) rfl dX9_gather_42 ?_
  refine va_put (D := D) (ci := 8) (v := .int s_p0_size) (ty := .int) (C := RX9) (T := TX9) (N := 16) hx hb hts iw_X9 tyX9 tyX9_ok nmX9 hown hK hP hD hS 1 rfl rfl 0 (by decide) (hts _ (wG_in k_fl_X9_66 rfl)) (fun _ h9 => h9) rfl (tyX9_ok 0 (by decide)) rfl rfl (Nat.le_of_ble_eq_true rfl) dX9_gather_45 (fun H locs hP hD hS => ?_)
  have hP : va_P D vwCl (w_X9_gather cI cB cZ a_p0 a_t a_p0_child a_p0_wife a_t_byChild a_t_byFather a_t_byHusband a_t_byWife a_t_searched a_t_slot a_t_turn u_p0_husband u_p0_father u_t_before u_t_queue u_t_ways u_t_nextWays s_p0_size s_t_children s_t_count s_t_many s_p0_size s_t_wives r_p0_child r_p0_wife r_t_byChild r_t_byFather r_t_byHusband r_t_byWife r_t_searched r_t_slot r_t_turn) H := hP
  have hD : va_D A (w_X9_gather cI cB cZ a_p0 a_t a_p0_child a_p0_wife a_t_byChild a_t_byFather a_t_byHusband a_t_byWife a_t_searched a_t_slot a_t_turn u_p0_husband u_p0_father u_t_before u_t_queue u_t_ways u_t_nextWays s_p0_size s_t_children s_t_count s_t_many s_p0_size s_t_wives r_p0_child r_p0_wife r_t_byChild r_t_byFather r_t_byHusband r_t_byWife r_t_searched r_t_slot r_t_turn) := hD
  refine lv_aload_n hx hb dX9_gather_48 rfl (lv_at hl 0 rfl) ?_
  refine lv_iload_n hx hb dX9_gather_49 rfl (lv_at hl 2 rfl) ?_
  refine va_put (D := D) (ci := 8) (v := .int x2) (ty := .int) (C := RX9) (T := TX9) (N := 16) hx hb hts iw_X9 tyX9 tyX9_ok nmX9 hown hK hP hD hS 1 rfl rfl 1 (by decide) (hts _ (wG_in k_fl_X9_70 rfl)) (fun _ h9 => h9) rfl (tyX9_ok 1 (by decide)) rfl rfl (Nat.le_of_ble_eq_true rfl) dX9_gather_50 (fun H locs hP hD hS => ?_)
  have hP : va_P D vwCl (w_X9_gather cI cB cZ a_p0 a_t a_p0_child a_p0_wife a_t_byChild a_t_byFather a_t_byHusband a_t_byWife a_t_searched a_t_slot a_t_turn u_p0_husband u_p0_father u_t_before u_t_queue u_t_ways u_t_nextWays s_p0_size s_t_children s_t_count s_t_many s_p0_size x2 r_p0_child r_p0_wife r_t_byChild r_t_byFather r_t_byHusband r_t_byWife r_t_searched r_t_slot r_t_turn) H := hP
  have hD : va_D A (w_X9_gather cI cB cZ a_p0 a_t a_p0_child a_p0_wife a_t_byChild a_t_byFather a_t_byHusband a_t_byWife a_t_searched a_t_slot a_t_turn u_p0_husband u_p0_father u_t_before u_t_queue u_t_ways u_t_nextWays s_p0_size s_t_children s_t_count s_t_many s_p0_size x2 r_p0_child r_p0_wife r_t_byChild r_t_byFather r_t_byHusband r_t_byWife r_t_searched r_t_slot r_t_turn) := hD
  refine lv_aload_n hx hb dX9_gather_53 rfl (lv_at hl 0 rfl) ?_
  refine lv_iload_n hx hb dX9_gather_54 rfl (lv_at hl 3 rfl) ?_
  refine va_put (D := D) (ci := 8) (v := .int x3) (ty := .int) (C := RX9) (T := TX9) (N := 16) hx hb hts iw_X9 tyX9 tyX9_ok nmX9 hown hK hP hD hS 1 rfl rfl 2 (by decide) (hts _ (wG_in k_fl_X9_73 rfl)) (fun _ h9 => h9) rfl (tyX9_ok 2 (by decide)) rfl rfl (Nat.le_of_ble_eq_true rfl) dX9_gather_55 (fun H locs hP hD hS => ?_)
  have hP : va_P D vwCl (w_X9_gather cI cB cZ a_p0 a_t a_p0_child a_p0_wife a_t_byChild a_t_byFather a_t_byHusband a_t_byWife a_t_searched a_t_slot a_t_turn u_p0_husband u_p0_father u_t_before u_t_queue u_t_ways u_t_nextWays s_p0_size x3 s_t_count s_t_many s_p0_size x2 r_p0_child r_p0_wife r_t_byChild r_t_byFather r_t_byHusband r_t_byWife r_t_searched r_t_slot r_t_turn) H := hP
  have hD : va_D A (w_X9_gather cI cB cZ a_p0 a_t a_p0_child a_p0_wife a_t_byChild a_t_byFather a_t_byHusband a_t_byWife a_t_searched a_t_slot a_t_turn u_p0_husband u_p0_father u_t_before u_t_queue u_t_ways u_t_nextWays s_p0_size x3 s_t_count s_t_many s_p0_size x2 r_p0_child r_p0_wife r_t_byChild r_t_byFather r_t_byHusband r_t_byWife r_t_searched r_t_slot r_t_turn) := hD
  refine lv_aload_n hx hb dX9_gather_58 rfl (lv_at hl 0 rfl) ?_
  refine lv_iconst (v := (0 : Int32)) hx hb dX9_gather_59 (by decide) ?_
  refine va_put (D := D) (ci := 8) (v := .int (0 : Int32)) (ty := .boolean) (C := RX9) (T := TX9) (N := 16) hx hb hts iw_X9 tyX9 tyX9_ok nmX9 hown hK hP hD hS 1 rfl rfl 4 (by decide) (hts _ (wG_in k_fl_X9_52 rfl)) (fun _ h9 => h9) rfl (tyX9_ok 4 (by decide)) (by decide) (by decide) (Nat.le_of_ble_eq_true rfl) dX9_gather_60 (fun H locs hP hD hS => ?_)
  have hP : va_P D vwCl (w_X9_gather cI cB cZ a_p0 a_t a_p0_child a_p0_wife a_t_byChild a_t_byFather a_t_byHusband a_t_byWife a_t_searched a_t_slot a_t_turn u_p0_husband u_p0_father u_t_before u_t_queue u_t_ways u_t_nextWays s_p0_size x3 s_t_count (0 : Int32) s_p0_size x2 r_p0_child r_p0_wife r_t_byChild r_t_byFather r_t_byHusband r_t_byWife r_t_searched r_t_slot r_t_turn) H := hP
  have hD : va_D A (w_X9_gather cI cB cZ a_p0 a_t a_p0_child a_p0_wife a_t_byChild a_t_byFather a_t_byHusband a_t_byWife a_t_searched a_t_slot a_t_turn u_p0_husband u_p0_father u_t_before u_t_queue u_t_ways u_t_nextWays s_p0_size x3 s_t_count (0 : Int32) s_p0_size x2 r_p0_child r_p0_wife r_t_byChild r_t_byFather r_t_byHusband r_t_byWife r_t_searched r_t_slot r_t_turn) := hD
  refine lv_aload_n hx hb dX9_gather_63 rfl (lv_at hl 0 rfl) ?_
  refine lv_iconst (v := (0 : Int32)) hx hb dX9_gather_64 (by decide) ?_
  refine va_put (D := D) (ci := 8) (v := .int (0 : Int32)) (ty := .int) (C := RX9) (T := TX9) (N := 16) hx hb hts iw_X9 tyX9 tyX9_ok nmX9 hown hK hP hD hS 1 rfl rfl 3 (by decide) (hts _ (wG_in k_fl_X9_56 rfl)) (fun _ h9 => h9) rfl (tyX9_ok 3 (by decide)) rfl rfl (Nat.le_of_ble_eq_true rfl) dX9_gather_65 (fun H locs hP hD hS => ?_)
  have hP : va_P D vwCl (w_X9_gather cI cB cZ a_p0 a_t a_p0_child a_p0_wife a_t_byChild a_t_byFather a_t_byHusband a_t_byWife a_t_searched a_t_slot a_t_turn u_p0_husband u_p0_father u_t_before u_t_queue u_t_ways u_t_nextWays s_p0_size x3 (0 : Int32) (0 : Int32) s_p0_size x2 r_p0_child r_p0_wife r_t_byChild r_t_byFather r_t_byHusband r_t_byWife r_t_searched r_t_slot r_t_turn) H := hP
  have hD : va_D A (w_X9_gather cI cB cZ a_p0 a_t a_p0_child a_p0_wife a_t_byChild a_t_byFather a_t_byHusband a_t_byWife a_t_searched a_t_slot a_t_turn u_p0_husband u_p0_father u_t_before u_t_queue u_t_ways u_t_nextWays s_p0_size x3 (0 : Int32) (0 : Int32) s_p0_size x2 r_p0_child r_p0_wife r_t_byChild r_t_byFather r_t_byHusband r_t_byWife r_t_searched r_t_slot r_t_turn) := hD
  refine lv_aload_n hx hb dX9_gather_68 rfl (lv_at hl 0 rfl) ?_
  refine va_get (D := D) (ci := 8) (v := .ref a_t_searched) (C := RX9) (T := TX9) (N := 16) hx hb hts iw_X9 hown hK hP 1 rfl rfl 11 (by decide) (hts _ (wG_in k_fl_X9_30 rfl)) (fun _ h9 => h9) rfl dX9_gather_69 ?_
  refine lv_iconst (v := (0 : Int32)) hx hb dX9_gather_72 (by decide) ?_
  refine lv_iconst (v := (0 : Int32)) hx hb dX9_gather_73 (by decide) ?_
  obtain ⟨q4, hq4, iq4, hf⟩ := jS_some hf
  refine ja_zast (P := r_t_searched) (P' := q4) hx hb hK hP hD hS 8 2 rfl rfl hq4 iq4 dX9_gather_74 (fun H locs hP hD hS => ?_)
  have hP : va_P D vwCl (w_X9_gather cI cB cZ a_p0 a_t a_p0_child a_p0_wife a_t_byChild a_t_byFather a_t_byHusband a_t_byWife a_t_searched a_t_slot a_t_turn u_p0_husband u_p0_father u_t_before u_t_queue u_t_ways u_t_nextWays s_p0_size x3 (0 : Int32) (0 : Int32) s_p0_size x2 r_p0_child r_p0_wife r_t_byChild r_t_byFather r_t_byHusband r_t_byWife q4 r_t_slot r_t_turn) H := hP
  have hD : va_D A (w_X9_gather cI cB cZ a_p0 a_t a_p0_child a_p0_wife a_t_byChild a_t_byFather a_t_byHusband a_t_byWife a_t_searched a_t_slot a_t_turn u_p0_husband u_p0_father u_t_before u_t_queue u_t_ways u_t_nextWays s_p0_size x3 (0 : Int32) (0 : Int32) s_p0_size x2 r_p0_child r_p0_wife r_t_byChild r_t_byFather r_t_byHusband r_t_byWife q4 r_t_slot r_t_turn) := hD
  refine lv_aload_n hx hb dX9_gather_75 rfl (lv_at hl 0 rfl) ?_
  refine va_get (D := D) (ci := 8) (v := .ref a_t_searched) (C := RX9) (T := TX9) (N := 16) hx hb hts iw_X9 hown hK hP 1 rfl rfl 11 (by decide) (hts _ (wG_in k_fl_X9_30 rfl)) (fun _ h9 => h9) rfl dX9_gather_76 ?_
  refine lv_iconst (v := (1 : Int32)) hx hb dX9_gather_79 (by decide) ?_
  refine lv_iconst (v := (0 : Int32)) hx hb dX9_gather_80 (by decide) ?_
  obtain ⟨q5, hq5, iq5, hf⟩ := jS_some hf
  refine ja_zast (P := q4) (P' := q5) hx hb hK hP hD hS 8 2 rfl rfl hq5 iq5 dX9_gather_81 (fun H locs hP hD hS => ?_)
  have hP : va_P D vwCl (w_X9_gather cI cB cZ a_p0 a_t a_p0_child a_p0_wife a_t_byChild a_t_byFather a_t_byHusband a_t_byWife a_t_searched a_t_slot a_t_turn u_p0_husband u_p0_father u_t_before u_t_queue u_t_ways u_t_nextWays s_p0_size x3 (0 : Int32) (0 : Int32) s_p0_size x2 r_p0_child r_p0_wife r_t_byChild r_t_byFather r_t_byHusband r_t_byWife q5 r_t_slot r_t_turn) H := hP
  have hD : va_D A (w_X9_gather cI cB cZ a_p0 a_t a_p0_child a_p0_wife a_t_byChild a_t_byFather a_t_byHusband a_t_byWife a_t_searched a_t_slot a_t_turn u_p0_husband u_p0_father u_t_before u_t_queue u_t_ways u_t_nextWays s_p0_size x3 (0 : Int32) (0 : Int32) s_p0_size x2 r_p0_child r_p0_wife r_t_byChild r_t_byFather r_t_byHusband r_t_byWife q5 r_t_slot r_t_turn) := hD
  refine lv_aload_n hx hb dX9_gather_82 rfl (lv_at hl 0 rfl) ?_
  refine va_get (D := D) (ci := 8) (v := .ref a_t_slot) (C := RX9) (T := TX9) (N := 16) hx hb hts iw_X9 hown hK hP 1 rfl rfl 6 (by decide) (hts _ (wG_in k_fl_X9_15 rfl)) (fun _ h9 => h9) rfl dX9_gather_83 ?_
  refine lv_iconst (v := (0 : Int32)) hx hb dX9_gather_86 (by decide) ?_
  obtain ⟨r6, hgr6, hf⟩ := jM_some hf
  refine jcS_v (As := [.ref a_t_slot, .int (0 : Int32)]) (rest := []) ⟨hx, hb, hml, hown, hts⟩ hK hN hA (c_J7_fill_53178 l G D cI cB cZ a_t_slot r_t_slot (0 : Int32) hgr6) (va_cwS 2 hts (wG_S k_ml_X9_76 k_st_J7_fill_53178 k_in_J7 k_co_J7_fill_53178) rfl rfl rfl hd_J7_fill_53178.2 ⟨Nat.le_of_ble_eq_true rfl, Nat.le_of_ble_eq_true rfl⟩) hP hD hS [9] rfl rfl rfl rfl hl.1 rfl (Nat.le_of_ble_eq_true rfl) dX9_gather_87 ⟨Nat.le_of_ble_eq_true rfl, Nat.le_of_ble_eq_true rfl⟩ (fun H locs hP hD hS => ?_)
  have hP : va_P D vwCl (w_X9_gather cI cB cZ a_p0 a_t a_p0_child a_p0_wife a_t_byChild a_t_byFather a_t_byHusband a_t_byWife a_t_searched a_t_slot a_t_turn u_p0_husband u_p0_father u_t_before u_t_queue u_t_ways u_t_nextWays s_p0_size x3 (0 : Int32) (0 : Int32) s_p0_size x2 r_p0_child r_p0_wife r_t_byChild r_t_byFather r_t_byHusband r_t_byWife q5 r6 r_t_turn) H := hP
  have hD : va_D A (w_X9_gather cI cB cZ a_p0 a_t a_p0_child a_p0_wife a_t_byChild a_t_byFather a_t_byHusband a_t_byWife a_t_searched a_t_slot a_t_turn u_p0_husband u_p0_father u_t_before u_t_queue u_t_ways u_t_nextWays s_p0_size x3 (0 : Int32) (0 : Int32) s_p0_size x2 r_p0_child r_p0_wife r_t_byChild r_t_byFather r_t_byHusband r_t_byWife q5 r6 r_t_turn) := hD
  refine lv_aload_n hx hb dX9_gather_90 rfl (lv_at hl 0 rfl) ?_
  refine lv_aload_n hx hb dX9_gather_91 rfl (lv_at hl 0 rfl) ?_
  obtain ⟨r7, hgr7, hf⟩ := jM_some hf
  refine jcV_i0 (As := []) (rest := [.ref a_t]) ⟨hx, hb, hml, hown, hts⟩ hK hN hA (c_X9_nothingDone l G D cI cB cZ a_t x2 x3 (0 : Int32) (0 : Int32) (.ref a_t_turn) (.ref a_t_slot) (.ref a_t_byWife) (.ref a_t_byChild) (.ref a_t_byHusband) (.ref a_t_byFather) (.ref a_t_searched) u_t_before u_t_queue u_t_ways u_t_nextWays s_p0_size hgr7) (cwV 0 hts (wG_V k_ml_X9_82 k_im_X9_nothingDone k_se_X9_nothingDone k_in_X9 k_co_X9_nothingDone) rfl rfl rfl hd_X9_nothingDone ⟨Nat.le_of_ble_eq_true rfl, Nat.le_of_ble_eq_true rfl⟩) hP hD hS [1] rfl rfl rfl (ci := 8) rfl 1 rfl rfl rfl hl.1 rfl (Nat.le_of_ble_eq_true rfl) dX9_gather_92 ⟨Nat.le_of_ble_eq_true rfl, Nat.le_of_ble_eq_true rfl⟩ (fun H locs hP hD hS => ?_)
  obtain ⟨r8, hgr8, hf⟩ := jM_some hf
  refine jcV_i (As := [.int r7]) (rest := []) ⟨hx, hb, hml, hown, hts⟩ hK hN hA (c_X9_numberOf l G D cI cB cZ a_t a_t_slot a_t_turn s_p0_size x2 x3 (.ref a_t_byWife) (.ref a_t_byChild) (.ref a_t_byHusband) (.ref a_t_byFather) (.ref a_t_searched) u_t_before u_t_queue u_t_ways u_t_nextWays (0 : Int32) (0 : Int32) r6 r_t_turn r7 hgr8) (cwV 1 hts (wG_V k_ml_X9_86 k_im_X9_numberOf k_se_X9_numberOf k_in_X9 k_co_X9_numberOf) rfl rfl rfl hd_X9_numberOf ⟨Nat.le_of_ble_eq_true rfl, Nat.le_of_ble_eq_true rfl⟩) hP hD hS [1, 9, 10] rfl rfl rfl (ci := 8) rfl 1 rfl rfl rfl hl.1 rfl (Nat.le_of_ble_eq_true rfl) dX9_gather_95 ⟨Nat.le_of_ble_eq_true rfl, Nat.le_of_ble_eq_true rfl⟩ (fun H locs hP hD hS => ?_)
  have hP : va_P D vwCl (w_X9_gather cI cB cZ a_p0 a_t a_p0_child a_p0_wife a_t_byChild a_t_byFather a_t_byHusband a_t_byWife a_t_searched a_t_slot a_t_turn u_p0_husband u_p0_father u_t_before u_t_queue u_t_ways u_t_nextWays s_p0_size x3 r8.2.1 r8.2.2.1 s_p0_size x2 r_p0_child r_p0_wife r_t_byChild r_t_byFather r_t_byHusband r_t_byWife q5 r8.2.2.2.1 r8.2.2.2.2) H := hP
  have hD : va_D A (w_X9_gather cI cB cZ a_p0 a_t a_p0_child a_p0_wife a_t_byChild a_t_byFather a_t_byHusband a_t_byWife a_t_searched a_t_slot a_t_turn u_p0_husband u_p0_father u_t_before u_t_queue u_t_ways u_t_nextWays s_p0_size x3 r8.2.1 r8.2.2.1 s_p0_size x2 r_p0_child r_p0_wife r_t_byChild r_t_byFather r_t_byHusband r_t_byWife q5 r8.2.2.2.1 r8.2.2.2.2) := hD
  refine lv_pop hx hb dX9_gather_98 rfl ?_
  refine lv_iconst (v := (0 : Int32)) hx hb dX9_gather_99 (by decide) ?_
  refine lv_istore (lv' := [(4, .int (0 : Int32)), (0, .ref a_t), (1, .ref a_p0), (2, .int x2), (3, .int x3)]) hx hb dX9_gather_100 hl (by decide) rfl (fun ls hl => ?_)
  obtain ⟨e20, hg20, hf⟩ := jM_some hf
  refine t_X9_gather_l102 G D cI cB cZ a_p0 a_t a_p0_child a_p0_wife a_t_byChild a_t_byFather a_t_byHusband a_t_byWife a_t_searched a_t_slot a_t_turn u_p0_husband u_p0_father u_t_before u_t_queue u_t_ways u_t_nextWays s_p0_size r_p0_child r_p0_wife x3 s_p0_size x2 r_t_byFather r_t_byHusband q5 C jF r8.2.1 r8.2.2.1 r_t_byChild r_t_byWife r8.2.2.2.1 r8.2.2.2.2 (0 : Int32) hg20 ?_ _ _ _ hP hD hS (lv_sub hl [1, 0] rfl)
  intro H locs ls hP hD hS hl
  exact t_X9_gather_j184 G D cI cB cZ a_p0 a_t a_p0_child a_p0_wife a_t_byChild a_t_byFather a_t_byHusband a_t_byWife a_t_searched a_t_slot a_t_turn u_p0_husband u_p0_father u_t_before u_t_queue u_t_ways u_t_nextWays s_p0_size r_p0_child r_p0_wife x3 e20.1 e20.2.1 s_p0_size x2 e20.2.2.1 r_t_byFather r_t_byHusband e20.2.2.2.1 q5 e20.2.2.2.2.1 e20.2.2.2.2.2 C hf K hP hD hS (lv_sub hl [0] rfl)
def f_X9_gather (s_p0_size : Int32) (r_p0_child r_p0_wife : jA) (s_t_children s_t_count s_t_many s_t_size s_t_wives : Int32) (r_t_byChild r_t_byFather r_t_byHusband r_t_byWife r_t_searched r_t_slot r_t_turn : jA) : Option (Int32 × Int32 × Int32 × Int32 × Int32 × jA × jA × jA × jA × jA × jA × jA) :=
  jM (f_X10_packed s_p0_size r_p0_child r_p0_wife (1 : Int32)) fun r1 =>
  jM (f_X10_packed s_p0_size r_p0_child r_p0_wife (0 : Int32)) fun r2 =>
  if s_t_size = s_p0_size then
  if s_t_wives = r1 then
  if s_t_children = r2 then
  some (s_t_children, s_t_count, s_t_many, s_t_size, s_t_wives, r_t_byChild, r_t_byFather, r_t_byHusband, r_t_byWife, r_t_searched, r_t_slot, r_t_turn)
  else
  f_X9_gather_j40 s_p0_size s_t_children s_t_count s_t_many s_t_size s_t_wives r_t_byChild r_t_byFather r_t_byHusband r_t_byWife r_t_searched r_t_slot r_t_turn r1 r2
  else
  f_X9_gather_j40 s_p0_size s_t_children s_t_count s_t_many s_t_size s_t_wives r_t_byChild r_t_byFather r_t_byHusband r_t_byWife r_t_searched r_t_slot r_t_turn r1 r2
  else
  f_X9_gather_j40 s_p0_size s_t_children s_t_count s_t_many s_t_size s_t_wives r_t_byChild r_t_byFather r_t_byHusband r_t_byWife r_t_searched r_t_slot r_t_turn r1 r2
set_option maxHeartbeats 4000000 in
set_option maxRecDepth 100000 in
theorem t_X9_gather {p : Program} {l : Launch} {e : Env} {s : State} {m : MethodId} {args : Array Value} {below : List Frame} {meth : Method} {c : Code} {A : Nat → Prop} {Q : State → Prop} (G : jGt) (D : va_G) (cI cB cZ : ClassId) (a_p0 a_t a_p0_child a_p0_wife a_t_byChild a_t_byFather a_t_byHusband a_t_byWife a_t_searched a_t_slot a_t_turn : Nat) (u_p0_husband u_p0_father u_t_before u_t_queue u_t_ways u_t_nextWays : Value) (s_p0_size : Int32) (r_p0_child r_p0_wife : jA) (s_t_children s_t_count s_t_many s_t_size s_t_wives : Int32) (r_t_byChild r_t_byFather r_t_byHusband r_t_byWife r_t_searched r_t_slot r_t_turn : jA) (C : jCx p s m args c cX9_gather 5 gX9_gather RX9 G D (jT cI cB cZ) A) {o : Int32 × Int32 × Int32 × Int32 × Int32 × jA × jA × jA × jA × jA × jA × jA} (hf : f_X9_gather s_p0_size r_p0_child r_p0_wife s_t_children s_t_count s_t_many s_t_size s_t_wives r_t_byChild r_t_byFather r_t_byHusband r_t_byWife r_t_searched r_t_slot r_t_turn = some o) (K : ∀ (H : Heap) (locs : List Loc) (pc : Nat) (ls : Array Slot), va_P D vwCl (w_X9_gather cI cB cZ a_p0 a_t a_p0_child a_p0_wife a_t_byChild a_t_byFather a_t_byHusband a_t_byWife a_t_searched a_t_slot a_t_turn u_p0_husband u_p0_father u_t_before u_t_queue u_t_ways u_t_nextWays s_p0_size o.1 o.2.1 o.2.2.1 o.2.2.2.1 o.2.2.2.2.1 r_p0_child r_p0_wife o.2.2.2.2.2.1 o.2.2.2.2.2.2.1 o.2.2.2.2.2.2.2.1 o.2.2.2.2.2.2.2.2.1 o.2.2.2.2.2.2.2.2.2.1 o.2.2.2.2.2.2.2.2.2.2.1 o.2.2.2.2.2.2.2.2.2.2.2) H → va_S A s.heap H locs → decode cX9_gather pc = .ok (.return_, 1) → W p l e rX9_gather s m args below meth c H locs 0 0 Q (F0 m pc ls [])) {H : Heap} {locs : List Loc} {ls : Array Slot} (hP : va_P D vwCl (w_X9_gather cI cB cZ a_p0 a_t a_p0_child a_p0_wife a_t_byChild a_t_byFather a_t_byHusband a_t_byWife a_t_searched a_t_slot a_t_turn u_p0_husband u_p0_father u_t_before u_t_queue u_t_ways u_t_nextWays s_p0_size s_t_children s_t_count s_t_many s_t_size s_t_wives r_p0_child r_p0_wife r_t_byChild r_t_byFather r_t_byHusband r_t_byWife r_t_searched r_t_slot r_t_turn) H) (hD : va_D A (w_X9_gather cI cB cZ a_p0 a_t a_p0_child a_p0_wife a_t_byChild a_t_byFather a_t_byHusband a_t_byWife a_t_searched a_t_slot a_t_turn u_p0_husband u_p0_father u_t_before u_t_queue u_t_ways u_t_nextWays s_p0_size s_t_children s_t_count s_t_many s_t_size s_t_wives r_p0_child r_p0_wife r_t_byChild r_t_byFather r_t_byHusband r_t_byWife r_t_searched r_t_slot r_t_turn)) (hS : va_S A s.heap H locs) (hl : lv_has ls 5 [(0, .ref a_t), (1, .ref a_p0)]) : W p l e rX9_gather s m args below meth c H locs 0 0 Q (F0 m 0 ls []) := by
  obtain ⟨⟨hx, hb, hml, hown, hts⟩, hK, hN, hA⟩ := C
  have C : jCx p s m args c cX9_gather 5 gX9_gather RX9 G D (jT cI cB cZ) A := ⟨⟨hx, hb, hml, hown, hts⟩, hK, hN, hA⟩
  unfold f_X9_gather at hf
  refine lv_aload_n hx hb dX9_gather_0 rfl (lv_at hl 1 rfl) ?_
  refine lv_iconst (v := (1 : Int32)) hx hb dX9_gather_1 (by decide) ?_
  obtain ⟨r1, hgr1, hf⟩ := jM_some hf
  refine jcV_i0 (As := [.int (1 : Int32)]) (rest := []) ⟨hx, hb, hml, hown, hts⟩ hK hN hA (c_X10_packed l G D cI cB cZ a_p0 a_p0_child a_p0_wife u_p0_husband u_p0_father s_p0_size r_p0_child r_p0_wife (1 : Int32) hgr1) (cwV 1 hts (wG_V k_ml_X9_60 k_im_X10_packed k_se_X10_packed k_in_X10 k_co_X10_packed) rfl rfl rfl hd_X10_packed ⟨Nat.le_of_ble_eq_true rfl, Nat.le_of_ble_eq_true rfl⟩) hP hD hS [0, 2, 3] rfl rfl rfl (ci := 9) rfl 0 rfl rfl rfl hl.1 rfl (Nat.le_of_ble_eq_true rfl) dX9_gather_2 ⟨Nat.le_of_ble_eq_true rfl, Nat.le_of_ble_eq_true rfl⟩ (fun H locs hP hD hS => ?_)
  refine lv_istore_n (lv' := [(2, .int r1), (0, .ref a_t), (1, .ref a_p0)]) hx hb dX9_gather_5 rfl hl (by decide) rfl (fun ls hl => ?_)
  refine lv_aload_n hx hb dX9_gather_6 rfl (lv_at hl 2 rfl) ?_
  refine lv_iconst (v := (0 : Int32)) hx hb dX9_gather_7 (by decide) ?_
  obtain ⟨r2, hgr2, hf⟩ := jM_some hf
  refine jcV_i0 (As := [.int (0 : Int32)]) (rest := []) ⟨hx, hb, hml, hown, hts⟩ hK hN hA (c_X10_packed l G D cI cB cZ a_p0 a_p0_child a_p0_wife u_p0_husband u_p0_father s_p0_size r_p0_child r_p0_wife (0 : Int32) hgr2) (cwV 1 hts (wG_V k_ml_X9_60 k_im_X10_packed k_se_X10_packed k_in_X10 k_co_X10_packed) rfl rfl rfl hd_X10_packed ⟨Nat.le_of_ble_eq_true rfl, Nat.le_of_ble_eq_true rfl⟩) hP hD hS [0, 2, 3] rfl rfl rfl (ci := 9) rfl 0 rfl rfl rfl hl.1 rfl (Nat.le_of_ble_eq_true rfl) dX9_gather_8 ⟨Nat.le_of_ble_eq_true rfl, Nat.le_of_ble_eq_true rfl⟩ (fun H locs hP hD hS => ?_)
  refine lv_istore_n (lv' := [(3, .int r2), (2, .int r1), (0, .ref a_t), (1, .ref a_p0)]) hx hb dX9_gather_11 rfl hl (by decide) rfl (fun ls hl => ?_)
  refine lv_aload_n hx hb dX9_gather_12 rfl (lv_at hl 2 rfl) ?_
  refine va_get (D := D) (ci := 8) (v := .int s_t_size) (C := RX9) (T := TX9) (N := 16) hx hb hts iw_X9 hown hK hP 1 rfl rfl 0 (by decide) (hts _ (wG_in k_fl_X9_66 rfl)) (fun _ h9 => h9) rfl dX9_gather_13 ?_
  refine lv_aload_n hx hb dX9_gather_16 rfl (lv_at hl 3 rfl) ?_
  refine va_get (D := D) (ci := 9) (v := .int s_p0_size) (C := RX10) (T := TX10) (N := 5) hx hb hts iw_X10 hown hK hP 0 rfl rfl 4 (by decide) (hts _ (wG_in k_fl_X9_69 rfl)) (fun _ h9 => h9) rfl dX9_gather_17 ?_
  refine lv_icmp_ne (tgt := 40) hx hb dX9_gather_20 (by decide) (fun c3 => ?_) (fun c3 => ?_)
  · replace hf := jif_f c3 hf
    exact t_X9_gather_j40 G D cI cB cZ a_p0 a_t a_p0_child a_p0_wife a_t_byChild a_t_byFather a_t_byHusband a_t_byWife a_t_searched a_t_slot a_t_turn u_p0_husband u_p0_father u_t_before u_t_queue u_t_ways u_t_nextWays s_p0_size r_p0_child r_p0_wife s_t_children s_t_count s_t_many s_t_size s_t_wives r_t_byChild r_t_byFather r_t_byHusband r_t_byWife r_t_searched r_t_slot r_t_turn r1 r2 C hf K hP hD hS (lv_sub hl [2, 3, 1, 0] rfl)
  · replace hf := jif_t c3 hf
    refine lv_aload_n hx hb dX9_gather_23 rfl (lv_at hl 2 rfl) ?_
    refine va_get (D := D) (ci := 8) (v := .int s_t_wives) (C := RX9) (T := TX9) (N := 16) hx hb hts iw_X9 hown hK hP 1 rfl rfl 1 (by decide) (hts _ (wG_in k_fl_X9_70 rfl)) (fun _ h9 => h9) rfl dX9_gather_24 ?_
    refine lv_iload_n hx hb dX9_gather_27 rfl (lv_at hl 1 rfl) ?_
    refine lv_icmp_ne (tgt := 40) hx hb dX9_gather_28 (by decide) (fun c29 => ?_) (fun c29 => ?_)
    · replace hf := jif_f c29 hf
      exact t_X9_gather_j40 G D cI cB cZ a_p0 a_t a_p0_child a_p0_wife a_t_byChild a_t_byFather a_t_byHusband a_t_byWife a_t_searched a_t_slot a_t_turn u_p0_husband u_p0_father u_t_before u_t_queue u_t_ways u_t_nextWays s_p0_size r_p0_child r_p0_wife s_t_children s_t_count s_t_many s_t_size s_t_wives r_t_byChild r_t_byFather r_t_byHusband r_t_byWife r_t_searched r_t_slot r_t_turn r1 r2 C hf K hP hD hS (lv_sub hl [2, 3, 1, 0] rfl)
    · replace hf := jif_t c29 hf
      refine lv_aload_n hx hb dX9_gather_31 rfl (lv_at hl 2 rfl) ?_
      refine va_get (D := D) (ci := 8) (v := .int s_t_children) (C := RX9) (T := TX9) (N := 16) hx hb hts iw_X9 hown hK hP 1 rfl rfl 2 (by decide) (hts _ (wG_in k_fl_X9_73 rfl)) (fun _ h9 => h9) rfl dX9_gather_32 ?_
      refine lv_iload_n hx hb dX9_gather_35 rfl (lv_at hl 0 rfl) ?_
      refine lv_icmp_ne (tgt := 40) hx hb dX9_gather_36 (by decide) (fun c30 => ?_) (fun c30 => ?_)
      · replace hf := jif_f c30 hf
        exact t_X9_gather_j40 G D cI cB cZ a_p0 a_t a_p0_child a_p0_wife a_t_byChild a_t_byFather a_t_byHusband a_t_byWife a_t_searched a_t_slot a_t_turn u_p0_husband u_p0_father u_t_before u_t_queue u_t_ways u_t_nextWays s_p0_size r_p0_child r_p0_wife s_t_children s_t_count s_t_many s_t_size s_t_wives r_t_byChild r_t_byFather r_t_byHusband r_t_byWife r_t_searched r_t_slot r_t_turn r1 r2 C hf K hP hD hS (lv_sub hl [2, 3, 1, 0] rfl)
      · replace hf := jif_t c30 hf
        have ho := Option.some.inj hf
        subst ho
        exact K _ _ _ _ hP hS dX9_gather_39
set_option maxHeartbeats 4000000 in
set_option maxRecDepth 100000 in
theorem c_X9_gather (l : Launch) (G : jGt) (D : va_G) (cI cB cZ : ClassId) (a_p0 a_t a_p0_child a_p0_wife a_t_byChild a_t_byFather a_t_byHusband a_t_byWife a_t_searched a_t_slot a_t_turn : Nat) (u_p0_husband u_p0_father u_t_before u_t_queue u_t_ways u_t_nextWays : Value) (s_p0_size : Int32) (r_p0_child r_p0_wife : jA) (s_t_children s_t_count s_t_many s_t_size s_t_wives : Int32) (r_t_byChild r_t_byFather r_t_byHusband r_t_byWife r_t_searched r_t_slot r_t_turn : jA) {o : Int32 × Int32 × Int32 × Int32 × Int32 × jA × jA × jA × jA × jA × jA × jA} (hf : f_X9_gather s_p0_size r_p0_child r_p0_wife s_t_children s_t_count s_t_many s_t_size s_t_wives r_t_byChild r_t_byFather r_t_byHusband r_t_byWife r_t_searched r_t_slot r_t_turn = some o) : jMv l yX9_gather gX9_gather rX9_gather G D (jT cI cB cZ) [.ref a_t, .ref a_p0] (w_X9_gather cI cB cZ a_p0 a_t a_p0_child a_p0_wife a_t_byChild a_t_byFather a_t_byHusband a_t_byWife a_t_searched a_t_slot a_t_turn u_p0_husband u_p0_father u_t_before u_t_queue u_t_ways u_t_nextWays s_p0_size s_t_children s_t_count s_t_many s_t_size s_t_wives r_p0_child r_p0_wife r_t_byChild r_t_byFather r_t_byHusband r_t_byWife r_t_searched r_t_slot r_t_turn) (w_X9_gather cI cB cZ a_p0 a_t a_p0_child a_p0_wife a_t_byChild a_t_byFather a_t_byHusband a_t_byWife a_t_searched a_t_slot a_t_turn u_p0_husband u_p0_father u_t_before u_t_queue u_t_ways u_t_nextWays s_p0_size o.1 o.2.1 o.2.2.1 o.2.2.2.1 o.2.2.2.2.1 r_p0_child r_p0_wife o.2.2.2.2.2.1 o.2.2.2.2.2.2.1 o.2.2.2.2.2.2.2.1 o.2.2.2.2.2.2.2.2.1 o.2.2.2.2.2.2.2.2.2.1 o.2.2.2.2.2.2.2.2.2.2.1 o.2.2.2.2.2.2.2.2.2.2.2) := by
  refine jmk_v RX9 rfl (by decide +kernel) rfl (Nat.le_of_ble_eq_true rfl) rfl ?_
  intro p e s m args below meth c ls A Q C hP hD hS hl K
  exact t_X9_gather G D cI cB cZ a_p0 a_t a_p0_child a_p0_wife a_t_byChild a_t_byFather a_t_byHusband a_t_byWife a_t_searched a_t_slot a_t_turn u_p0_husband u_p0_father u_t_before u_t_queue u_t_ways u_t_nextWays s_p0_size r_p0_child r_p0_wife s_t_children s_t_count s_t_many s_t_size s_t_wives r_t_byChild r_t_byFather r_t_byHusband r_t_byWife r_t_searched r_t_slot r_t_turn C hf K hP hD hS hl

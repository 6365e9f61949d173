abbrev rX4_addPerson : Room := { frames := 0, cells := 0, slots := 0, locals := 0 }
abbrev gX4_addPerson : List Cond := wG yX4_addPerson cX4_addPerson 2 (some .int)
def w_X4_addPerson (cI cB cZ : ClassId) (a_t a_t_father a_t_mother a_t_parentsDay a_t_sex : Nat) (u_t_man u_t_woman u_t_weddingDay : Value) (u_t_weddings : Int32) (u_t_teller u_t_tellingKind u_t_tellingDay : Value) (u_t_tellings u_t_today u_t_seenTo s_t_count : Int32) (r_t_father r_t_mother r_t_parentsDay r_t_sex : jA) : va_W := [(a_t, .inr (3, (oX4 (.ref a_t_sex) (.ref a_t_mother) (.ref a_t_father) (.ref a_t_parentsDay) s_t_count u_t_man u_t_woman u_t_weddingDay u_t_weddings u_t_teller u_t_tellingKind u_t_tellingDay u_t_tellings u_t_today u_t_seenTo))), (a_t_father, .inl (cI, r_t_father.1, .inl r_t_father.2)), (a_t_mother, .inl (cI, r_t_mother.1, .inl r_t_mother.2)), (a_t_parentsDay, .inl (cI, r_t_parentsDay.1, .inl r_t_parentsDay.2)), (a_t_sex, .inl (cI, r_t_sex.1, .inl r_t_sex.2))]
def f_X4_addPerson (s_t_count : Int32) (r_t_father r_t_mother r_t_parentsDay r_t_sex : jA) (x1 : Int32) : Option (Int32 × Int32 × jA × jA × jA × jA) :=
  if s_t_count < 0 then
  some ((-1 : Int32), s_t_count, r_t_father, r_t_mother, r_t_parentsDay, r_t_sex)
  else
  if s_t_count < (24 : Int32) then
  jS r_t_sex s_t_count x1 fun q3 =>
  jS r_t_mother s_t_count (-1 : Int32) fun q4 =>
  jS r_t_father s_t_count (-1 : Int32) fun q5 =>
  jS r_t_parentsDay s_t_count (-1 : Int32) fun q6 =>
  jV (s_t_count + (1 : Int32)) fun v7 =>
  some ((v7 - (1 : Int32)), v7, q5, q4, q6, q3)
  else
  some ((-1 : Int32), s_t_count, r_t_father, r_t_mother, r_t_parentsDay, r_t_sex)
set_option maxHeartbeats 4000000 in
set_option maxRecDepth 100000 in
theorem t_X4_addPerson {p : Program} {l : Launch} {e : Env} {s : State} {m : MethodId} {args : Array Value} {below : List Frame} {meth : Method} {c : Code} {A : Nat → Prop} {Q : State → Prop} (G : jGt) (D : va_G) (cI cB cZ : ClassId) (a_t a_t_father a_t_mother a_t_parentsDay a_t_sex : Nat) (u_t_man u_t_woman u_t_weddingDay : Value) (u_t_weddings : Int32) (u_t_teller u_t_tellingKind u_t_tellingDay : Value) (u_t_tellings u_t_today u_t_seenTo : Int32) (s_t_count : Int32) (r_t_father r_t_mother r_t_parentsDay r_t_sex : jA) (x1 : Int32) (C : jCx p s m args c cX4_addPerson 2 gX4_addPerson RX4 G D (jT cI cB cZ) A) {o : Int32 × Int32 × jA × jA × jA × jA} (hf : f_X4_addPerson s_t_count r_t_father r_t_mother r_t_parentsDay r_t_sex x1 = some o) (K : ∀ (H : Heap) (locs : List Loc) (pc : Nat) (ls : Array Slot), va_P D vwCl (w_X4_addPerson cI cB cZ a_t a_t_father a_t_mother a_t_parentsDay a_t_sex u_t_man u_t_woman u_t_weddingDay u_t_weddings u_t_teller u_t_tellingKind u_t_tellingDay u_t_tellings u_t_today u_t_seenTo o.2.1 o.2.2.1 o.2.2.2.1 o.2.2.2.2.1 o.2.2.2.2.2) H → va_S A s.heap H locs → decode cX4_addPerson pc = .ok (.ireturn, 1) → W p l e rX4_addPerson s m args below meth c H locs 0 0 Q (F0 m pc ls [.int o.1])) {H : Heap} {locs : List Loc} {ls : Array Slot} (hP : va_P D vwCl (w_X4_addPerson cI cB cZ a_t a_t_father a_t_mother a_t_parentsDay a_t_sex u_t_man u_t_woman u_t_weddingDay u_t_weddings u_t_teller u_t_tellingKind u_t_tellingDay u_t_tellings u_t_today u_t_seenTo s_t_count r_t_father r_t_mother r_t_parentsDay r_t_sex) H) (hD : va_D A (w_X4_addPerson cI cB cZ a_t a_t_father a_t_mother a_t_parentsDay a_t_sex u_t_man u_t_woman u_t_weddingDay u_t_weddings u_t_teller u_t_tellingKind u_t_tellingDay u_t_tellings u_t_today u_t_seenTo s_t_count r_t_father r_t_mother r_t_parentsDay r_t_sex)) (hS : va_S A s.heap H locs) (hl : lv_has ls 2 [(0, .ref a_t), (1, .int x1)]) : W p l e rX4_addPerson s m args below meth c H locs 0 0 Q (F0 m 0 ls []) := by
  obtain ⟨⟨hx, hb, hml, hown, hts⟩, hK, hN, hA⟩ := C
  have C : jCx p s m args c cX4_addPerson 2 gX4_addPerson RX4 G D (jT cI cB cZ) A := ⟨⟨hx, hb, hml, hown, hts⟩, hK, hN, hA⟩
  unfold f_X4_addPerson at hf
  refine lv_aload_n hx hb dX4_addPerson_0 rfl (lv_at hl 0 rfl) ?_
  refine va_get (D := D) (ci := 3) (v := .int s_t_count) (C := RX4) (T := TX4) (N := 15) hx hb hts iw_X4 hown hK hP 0 rfl rfl 4 (by decide) (hts _ (wG_in k_fl_X4_52 rfl)) (fun _ h9 => h9) rfl dX4_addPerson_1 ?_
  refine lv_if_lt (tgt := 16) hx hb dX4_addPerson_4 (by decide) (fun c1 => ?_) (fun c1 => ?_)
  · replace hf := jif_t c1 hf
    refine lv_iconst (v := (-1 : Int32)) hx hb dX4_addPerson_16 (by decide) ?_
    have ho := Option.some.inj hf
    subst ho
    exact K _ _ _ _ hP hS dX4_addPerson_17
  · replace hf := jif_f c1 hf
    refine lv_aload_n hx hb dX4_addPerson_7 rfl (lv_at hl 0 rfl) ?_
    refine va_get (D := D) (ci := 3) (v := .int s_t_count) (C := RX4) (T := TX4) (N := 15) hx hb hts iw_X4 hown hK hP 0 rfl rfl 4 (by decide) (hts _ (wG_in k_fl_X4_52 rfl)) (fun _ h9 => h9) rfl dX4_addPerson_8 ?_
    refine lv_bipush (v := (24 : Int32)) hx hb dX4_addPerson_11 (by decide) ?_
    refine lv_icmp_lt (tgt := 18) hx hb dX4_addPerson_13 (by decide) (fun c2 => ?_) (fun c2 => ?_)
    · replace hf := jif_t c2 hf
      refine lv_aload_n hx hb dX4_addPerson_18 rfl (lv_at hl 0 rfl) ?_
      refine va_get (D := D) (ci := 3) (v := .ref a_t_sex) (C := RX4) (T := TX4) (N := 15) hx hb hts iw_X4 hown hK hP 0 rfl rfl 0 (by decide) (hts _ (wG_in k_fl_X4_11 rfl)) (fun _ h9 => h9) rfl dX4_addPerson_19 ?_
      refine lv_aload_n hx hb dX4_addPerson_22 rfl (lv_at hl 0 rfl) ?_
      refine va_get (D := D) (ci := 3) (v := .int s_t_count) (C := RX4) (T := TX4) (N := 15) hx hb hts iw_X4 hown hK hP 0 rfl rfl 4 (by decide) (hts _ (wG_in k_fl_X4_52 rfl)) (fun _ h9 => h9) rfl dX4_addPerson_23 ?_
      refine lv_iload_n hx hb dX4_addPerson_26 rfl (lv_at hl 1 rfl) ?_
      obtain ⟨q3, hq3, iq3, hf⟩ := jS_some hf
      refine ja_iast (P := r_t_sex) (P' := q3) hx hb hK hP hD hS 4 0 rfl rfl hq3 iq3 dX4_addPerson_27 (fun H locs hP hD hS => ?_)
      have hP : va_P D vwCl (w_X4_addPerson cI cB cZ a_t a_t_father a_t_mother a_t_parentsDay a_t_sex u_t_man u_t_woman u_t_weddingDay u_t_weddings u_t_teller u_t_tellingKind u_t_tellingDay u_t_tellings u_t_today u_t_seenTo s_t_count r_t_father r_t_mother r_t_parentsDay q3) H := hP
      have hD : va_D A (w_X4_addPerson cI cB cZ a_t a_t_father a_t_mother a_t_parentsDay a_t_sex u_t_man u_t_woman u_t_weddingDay u_t_weddings u_t_teller u_t_tellingKind u_t_tellingDay u_t_tellings u_t_today u_t_seenTo s_t_count r_t_father r_t_mother r_t_parentsDay q3) := hD
      refine lv_aload_n hx hb dX4_addPerson_28 rfl (lv_at hl 0 rfl) ?_
      refine va_get (D := D) (ci := 3) (v := .ref a_t_mother) (C := RX4) (T := TX4) (N := 15) hx hb hts iw_X4 hown hK hP 0 rfl rfl 1 (by decide) (hts _ (wG_in k_fl_X4_15 rfl)) (fun _ h9 => h9) rfl dX4_addPerson_29 ?_
      refine lv_aload_n hx hb dX4_addPerson_32 rfl (lv_at hl 0 rfl) ?_
      refine va_get (D := D) (ci := 3) (v := .int s_t_count) (C := RX4) (T := TX4) (N := 15) hx hb hts iw_X4 hown hK hP 0 rfl rfl 4 (by decide) (hts _ (wG_in k_fl_X4_52 rfl)) (fun _ h9 => h9) rfl dX4_addPerson_33 ?_
      refine lv_iconst (v := (-1 : Int32)) hx hb dX4_addPerson_36 (by decide) ?_
      obtain ⟨q4, hq4, iq4, hf⟩ := jS_some hf
      refine ja_iast (P := r_t_mother) (P' := q4) hx hb hK hP hD hS 2 0 rfl rfl hq4 iq4 dX4_addPerson_37 (fun H locs hP hD hS => ?_)
      have hP : va_P D vwCl (w_X4_addPerson cI cB cZ a_t a_t_father a_t_mother a_t_parentsDay a_t_sex u_t_man u_t_woman u_t_weddingDay u_t_weddings u_t_teller u_t_tellingKind u_t_tellingDay u_t_tellings u_t_today u_t_seenTo s_t_count r_t_father q4 r_t_parentsDay q3) H := hP
      have hD : va_D A (w_X4_addPerson cI cB cZ a_t a_t_father a_t_mother a_t_parentsDay a_t_sex u_t_man u_t_woman u_t_weddingDay u_t_weddings u_t_teller u_t_tellingKind u_t_tellingDay u_t_tellings u_t_today u_t_seenTo s_t_count r_t_father q4 r_t_parentsDay q3) := hD
      refine lv_aload_n hx hb dX4_addPerson_38 rfl (lv_at hl 0 rfl) ?_
      refine va_get (D := D) (ci := 3) (v := .ref a_t_father) (C := RX4) (T := TX4) (N := 15) hx hb hts iw_X4 hown hK hP 0 rfl rfl 2 (by decide) (hts _ (wG_in k_fl_X4_18 rfl)) (fun _ h9 => h9) rfl dX4_addPerson_39 ?_
      refine lv_aload_n hx hb dX4_addPerson_42 rfl (lv_at hl 0 rfl) ?_
      refine va_get (D := D) (ci := 3) (v := .int s_t_count) (C := RX4) (T := TX4) (N := 15) hx hb hts iw_X4 hown hK hP 0 rfl rfl 4 (by decide) (hts _ (wG_in k_fl_X4_52 rfl)) (fun _ h9 => h9) rfl dX4_addPerson_43 ?_
      refine lv_iconst (v := (-1 : Int32)) hx hb dX4_addPerson_46 (by decide) ?_
      obtain ⟨q5, hq5, iq5, hf⟩ := jS_some hf
      refine ja_iast (P := r_t_father) (P' := q5) hx hb hK hP hD hS 1 0 rfl rfl hq5 iq5 dX4_addPerson_47 (fun H locs hP hD hS => ?_)
      have hP : va_P D vwCl (w_X4_addPerson cI cB cZ a_t a_t_father a_t_mother a_t_parentsDay a_t_sex u_t_man u_t_woman u_t_weddingDay u_t_weddings u_t_teller u_t_tellingKind u_t_tellingDay u_t_tellings u_t_today u_t_seenTo s_t_count q5 q4 r_t_parentsDay q3) H := hP
      have hD : va_D A (w_X4_addPerson cI cB cZ a_t a_t_father a_t_mother a_t_parentsDay a_t_sex u_t_man u_t_woman u_t_weddingDay u_t_weddings u_t_teller u_t_tellingKind u_t_tellingDay u_t_tellings u_t_today u_t_seenTo s_t_count q5 q4 r_t_parentsDay q3) := hD
      refine lv_aload_n hx hb dX4_addPerson_48 rfl (lv_at hl 0 rfl) ?_
      refine va_get (D := D) (ci := 3) (v := .ref a_t_parentsDay) (C := RX4) (T := TX4) (N := 15) hx hb hts iw_X4 hown hK hP 0 rfl rfl 3 (by decide) (hts _ (wG_in k_fl_X4_21 rfl)) (fun _ h9 => h9) rfl dX4_addPerson_49 ?_
      refine lv_aload_n hx hb dX4_addPerson_52 rfl (lv_at hl 0 rfl) ?_
      refine va_get (D := D) (ci := 3) (v := .int s_t_count) (C := RX4) (T := TX4) (N := 15) hx hb hts iw_X4 hown hK hP 0 rfl rfl 4 (by decide) (hts _ (wG_in k_fl_X4_52 rfl)) (fun _ h9 => h9) rfl dX4_addPerson_53 ?_
      refine lv_iconst (v := (-1 : Int32)) hx hb dX4_addPerson_56 (by decide) ?_
      obtain ⟨q6, hq6, iq6, hf⟩ := jS_some hf
      refine ja_iast (P := r_t_parentsDay) (P' := q6) hx hb hK hP hD hS 3 0 rfl rfl hq6 iq6 dX4_addPerson_57 (fun H locs hP hD hS => ?_)
      have hP : va_P D vwCl (w_X4_addPerson cI cB cZ a_t a_t_father a_t_mother a_t_parentsDay a_t_sex u_t_man u_t_woman u_t_weddingDay u_t_weddings u_t_teller u_t_tellingKind u_t_tellingDay u_t_tellings u_t_today u_t_seenTo s_t_count q5 q4 q6 q3) H := hP
      have hD : va_D A (w_X4_addPerson cI cB cZ a_t a_t_father a_t_mother a_t_parentsDay a_t_sex u_t_man u_t_woman u_t_weddingDay u_t_weddings u_t_teller u_t_tellingKind u_t_tellingDay u_t_tellings u_t_today u_t_seenTo s_t_count q5 q4 q6 q3) := hD
      refine lv_aload_n hx hb dX4_addPerson_58 rfl (lv_at hl 0 rfl) ?_
      refine lv_dup hx hb dX4_addPerson_59 rfl ?_
      refine va_get (D := D) (ci := 3) (v := .int s_t_count) (C := RX4) (T := TX4) (N := 15) hx hb hts iw_X4 hown hK hP 0 rfl rfl 4 (by decide) (hts _ (wG_in k_fl_X4_52 rfl)) (fun _ h9 => h9) rfl dX4_addPerson_60 ?_
      refine lv_iconst (v := (1 : Int32)) hx hb dX4_addPerson_63 (by decide) ?_
      refine lv_iadd hx hb dX4_addPerson_64 ?_
      obtain ⟨v7, hv7, hf⟩ := jV_some hf
      refine jtop hv7 ?_
      refine va_put (D := D) (ci := 3) (v := .int v7) (ty := .int) (C := RX4) (T := TX4) (N := 15) hx hb hts iw_X4 tyX4 tyX4_ok nmX4 hown hK hP hD hS 0 rfl rfl 4 (by decide) (hts _ (wG_in k_fl_X4_52 rfl)) (fun _ h9 => h9) rfl (tyX4_ok 4 (by decide)) rfl rfl (Nat.le_of_ble_eq_true rfl) dX4_addPerson_65 (fun H locs hP hD hS => ?_)
      have hP : va_P D vwCl (w_X4_addPerson cI cB cZ a_t a_t_father a_t_mother a_t_parentsDay a_t_sex u_t_man u_t_woman u_t_weddingDay u_t_weddings u_t_teller u_t_tellingKind u_t_tellingDay u_t_tellings u_t_today u_t_seenTo v7 q5 q4 q6 q3) H := hP
      have hD : va_D A (w_X4_addPerson cI cB cZ a_t a_t_father a_t_mother a_t_parentsDay a_t_sex u_t_man u_t_woman u_t_weddingDay u_t_weddings u_t_teller u_t_tellingKind u_t_tellingDay u_t_tellings u_t_today u_t_seenTo v7 q5 q4 q6 q3) := hD
      refine lv_aload_n hx hb dX4_addPerson_68 rfl (lv_at hl 0 rfl) ?_
      refine va_get (D := D) (ci := 3) (v := .int v7) (C := RX4) (T := TX4) (N := 15) hx hb hts iw_X4 hown hK hP 0 rfl rfl 4 (by decide) (hts _ (wG_in k_fl_X4_52 rfl)) (fun _ h9 => h9) rfl dX4_addPerson_69 ?_
      refine lv_iconst (v := (1 : Int32)) hx hb dX4_addPerson_72 (by decide) ?_
      refine lv_isub hx hb dX4_addPerson_73 ?_
      have ho := Option.some.inj hf
      subst ho
      exact K _ _ _ _ hP hS dX4_addPerson_74
    · replace hf := jif_f c2 hf
      refine lv_iconst (v := (-1 : Int32)) hx hb dX4_addPerson_16 (by decide) ?_
      have ho := Option.some.inj hf
      subst ho
      exact K _ _ _ _ hP hS dX4_addPerson_17
set_option maxHeartbeats 4000000 in
set_option maxRecDepth 100000 in
theorem c_X4_addPerson (l : Launch) (G : jGt) (D : va_G) (cI cB cZ : ClassId) (a_t a_t_father a_t_mother a_t_parentsDay a_t_sex : Nat) (u_t_man u_t_woman u_t_weddingDay : Value) (u_t_weddings : Int32) (u_t_teller u_t_tellingKind u_t_tellingDay : Value) (u_t_tellings u_t_today u_t_seenTo : Int32) (s_t_count : Int32) (r_t_father r_t_mother r_t_parentsDay r_t_sex : jA) (x1 : Int32) {o : Int32 × Int32 × jA × jA × jA × jA} (hf : f_X4_addPerson s_t_count r_t_father r_t_mother r_t_parentsDay r_t_sex x1 = some o) : jMi l yX4_addPerson gX4_addPerson rX4_addPerson G D (jT cI cB cZ) [.ref a_t, .int x1] (w_X4_addPerson cI cB cZ a_t a_t_father a_t_mother a_t_parentsDay a_t_sex u_t_man u_t_woman u_t_weddingDay u_t_weddings u_t_teller u_t_tellingKind u_t_tellingDay u_t_tellings u_t_today u_t_seenTo s_t_count r_t_father r_t_mother r_t_parentsDay r_t_sex) (w_X4_addPerson cI cB cZ a_t a_t_father a_t_mother a_t_parentsDay a_t_sex u_t_man u_t_woman u_t_weddingDay u_t_weddings u_t_teller u_t_tellingKind u_t_tellingDay u_t_tellings u_t_today u_t_seenTo o.2.1 o.2.2.1 o.2.2.2.1 o.2.2.2.2.1 o.2.2.2.2.2) o.1 := by
  refine jmk_i RX4 rfl (by decide +kernel) rfl (Nat.le_of_ble_eq_true rfl) rfl ?_
  intro p e s m args below meth c ls A Q C hP hD hS hl K
  exact t_X4_addPerson G D cI cB cZ a_t a_t_father a_t_mother a_t_parentsDay a_t_sex u_t_man u_t_woman u_t_weddingDay u_t_weddings u_t_teller u_t_tellingKind u_t_tellingDay u_t_tellings u_t_today u_t_seenTo s_t_count r_t_father r_t_mother r_t_parentsDay r_t_sex x1 C hf K hP hD hS hl
abbrev rX4_canBeParent : Room := { frames := 2, cells := 0, slots := 0, locals := 42 }
abbrev gX4_canBeParent : List Cond := wG yX4_canBeParent cX4_canBeParent 4 (some .boolean)
def w_X4_canBeParent (cI cB cZ : ClassId) (a_t a_t_sex : Nat) (u_t_mother u_t_father u_t_parentsDay u_t_man u_t_woman u_t_weddingDay : Value) (u_t_weddings : Int32) (u_t_teller u_t_tellingKind u_t_tellingDay : Value) (u_t_tellings u_t_today u_t_seenTo s_t_count : Int32) (r_t_sex : jA) : va_W := [(a_t, .inr (3, (oX4 (.ref a_t_sex) u_t_mother u_t_father u_t_parentsDay s_t_count u_t_man u_t_woman u_t_weddingDay u_t_weddings u_t_teller u_t_tellingKind u_t_tellingDay u_t_tellings u_t_today u_t_seenTo))), (a_t_sex, .inl (cI, r_t_sex.1, .inl r_t_sex.2))]
def f_X4_canBeParent_j19  : Option (Int32) :=
  some (1 : Int32)
set_option maxHeartbeats 4000000 in
set_option maxRecDepth 100000 in
theorem t_X4_canBeParent_j19 {p : Program} {l : Launch} {e : Env} {s : State} {m : MethodId} {args : Array Value} {below : List Frame} {meth : Method} {c : Code} {A : Nat → Prop} {Q : State → Prop} (G : jGt) (D : va_G) (cI cB cZ : ClassId) (a_t a_t_sex : Nat) (u_t_mother u_t_father u_t_parentsDay u_t_man u_t_woman u_t_weddingDay : Value) (u_t_weddings : Int32) (u_t_teller u_t_tellingKind u_t_tellingDay : Value) (u_t_tellings u_t_today u_t_seenTo s_t_count : Int32) (r_t_sex : jA)  (C : jCx p s m args c cX4_canBeParent 4 gX4_canBeParent RX4 G D (jT cI cB cZ) A) {o : Int32} (hf : f_X4_canBeParent_j19  = some o) (K : ∀ (H : Heap) (locs : List Loc) (pc : Nat) (ls : Array Slot), (o = 0 ∨ o = 1) → va_P D vwCl (w_X4_canBeParent cI cB cZ a_t a_t_sex u_t_mother u_t_father u_t_parentsDay u_t_man u_t_woman u_t_weddingDay u_t_weddings u_t_teller u_t_tellingKind u_t_tellingDay u_t_tellings u_t_today u_t_seenTo s_t_count r_t_sex) H → va_S A s.heap H locs → decode cX4_canBeParent pc = .ok (.ireturn, 1) → W p l e rX4_canBeParent s m args below meth c H locs 0 0 Q (F0 m pc ls [.int o])) {H : Heap} {locs : List Loc} {ls : Array Slot} (hP : va_P D vwCl (w_X4_canBeParent cI cB cZ a_t a_t_sex u_t_mother u_t_father u_t_parentsDay u_t_man u_t_woman u_t_weddingDay u_t_weddings u_t_teller u_t_tellingKind u_t_tellingDay u_t_tellings u_t_today u_t_seenTo s_t_count r_t_sex) H) (hD : va_D A (w_X4_canBeParent cI cB cZ a_t a_t_sex u_t_mother u_t_father u_t_parentsDay u_t_man u_t_woman u_t_weddingDay u_t_weddings u_t_teller u_t_tellingKind u_t_tellingDay u_t_tellings u_t_today u_t_seenTo s_t_count r_t_sex)) (hS : va_S A s.heap H locs) (hl : lv_has ls 4 []) : W p l e rX4_canBeParent s m args below meth c H locs 0 0 Q (F0 m 19 ls []) := by
  obtain ⟨⟨hx, hb, hml, hown, hts⟩, hK, hN, hA⟩ := C
  have C : jCx p s m args c cX4_canBeParent 4 gX4_canBeParent RX4 G D (jT cI cB cZ) A := ⟨⟨hx, hb, hml, hown, hts⟩, hK, hN, hA⟩
  unfold f_X4_canBeParent_j19 at hf
  refine lv_iconst (v := (1 : Int32)) hx hb dX4_canBeParent_19 (by decide) ?_
  refine lv_goto (tgt := 24) hx hb dX4_canBeParent_20 (by decide) ?_
  have ho := Option.some.inj hf
  subst ho
  exact K _ _ _ _ (Or.inr rfl) hP hS dX4_canBeParent_24
def f_X4_canBeParent (s_t_count : Int32) (r_t_sex : jA) (x1 x2 x3 : Int32) : Option (Int32) :=
  if x1 = (-1 : Int32) then
  f_X4_canBeParent_j19 
  else
  jM (f_X4_sexOf s_t_count r_t_sex x1) fun r2 =>
  if r2 = x2 then
  if x3 ≤ x1 then
  some (0 : Int32)
  else
  f_X4_canBeParent_j19 
  else
  some (0 : Int32)
set_option maxHeartbeats 4000000 in
set_option maxRecDepth 100000 in
theorem t_X4_canBeParent {p : Program} {l : Launch} {e : Env} {s : State} {m : MethodId} {args : Array Value} {below : List Frame} {meth : Method} {c : Code} {A : Nat → Prop} {Q : State → Prop} (G : jGt) (D : va_G) (cI cB cZ : ClassId) (a_t a_t_sex : Nat) (u_t_mother u_t_father u_t_parentsDay u_t_man u_t_woman u_t_weddingDay : Value) (u_t_weddings : Int32) (u_t_teller u_t_tellingKind u_t_tellingDay : Value) (u_t_tellings u_t_today u_t_seenTo s_t_count : Int32) (r_t_sex : jA) (x1 x2 x3 : Int32) (C : jCx p s m args c cX4_canBeParent 4 gX4_canBeParent RX4 G D (jT cI cB cZ) A) {o : Int32} (hf : f_X4_canBeParent s_t_count r_t_sex x1 x2 x3 = some o) (K : ∀ (H : Heap) (locs : List Loc) (pc : Nat) (ls : Array Slot), (o = 0 ∨ o = 1) → va_P D vwCl (w_X4_canBeParent cI cB cZ a_t a_t_sex u_t_mother u_t_father u_t_parentsDay u_t_man u_t_woman u_t_weddingDay u_t_weddings u_t_teller u_t_tellingKind u_t_tellingDay u_t_tellings u_t_today u_t_seenTo s_t_count r_t_sex) H → va_S A s.heap H locs → decode cX4_canBeParent pc = .ok (.ireturn, 1) → W p l e rX4_canBeParent s m args below meth c H locs 0 0 Q (F0 m pc ls [.int o])) {H : Heap} {locs : List Loc} {ls : Array Slot} (hP : va_P D vwCl (w_X4_canBeParent cI cB cZ a_t a_t_sex u_t_mother u_t_father u_t_parentsDay u_t_man u_t_woman u_t_weddingDay u_t_weddings u_t_teller u_t_tellingKind u_t_tellingDay u_t_tellings u_t_today u_t_seenTo s_t_count r_t_sex) H) (hD : va_D A (w_X4_canBeParent cI cB cZ a_t a_t_sex u_t_mother u_t_father u_t_parentsDay u_t_man u_t_woman u_t_weddingDay u_t_weddings u_t_teller u_t_tellingKind u_t_tellingDay u_t_tellings u_t_today u_t_seenTo s_t_count r_t_sex)) (hS : va_S A s.heap H locs) (hl : lv_has ls 4 [(0, .ref a_t), (1, .int x1), (2, .int x2), (3, .int x3)]) : W p l e rX4_canBeParent s m args below meth c H locs 0 0 Q (F0 m 0 ls []) := by
  obtain ⟨⟨hx, hb, hml, hown, hts⟩, hK, hN, hA⟩ := C
  have C : jCx p s m args c cX4_canBeParent 4 gX4_canBeParent RX4 G D (jT cI cB cZ) A := ⟨⟨hx, hb, hml, hown, hts⟩, hK, hN, hA⟩
  unfold f_X4_canBeParent at hf
  refine lv_iload_n hx hb dX4_canBeParent_0 rfl (lv_at hl 1 rfl) ?_
  refine lv_iconst (v := (-1 : Int32)) hx hb dX4_canBeParent_1 (by decide) ?_
  refine lv_icmp_eq (tgt := 19) hx hb dX4_canBeParent_2 (by decide) (fun c1 => ?_) (fun c1 => ?_)
  · replace hf := jif_t c1 hf
    exact t_X4_canBeParent_j19 G D cI cB cZ a_t a_t_sex u_t_mother u_t_father u_t_parentsDay u_t_man u_t_woman u_t_weddingDay u_t_weddings u_t_teller u_t_tellingKind u_t_tellingDay u_t_tellings u_t_today u_t_seenTo s_t_count r_t_sex  C hf K hP hD hS (lv_sub hl [] rfl)
  · replace hf := jif_f c1 hf
    refine lv_aload_n hx hb dX4_canBeParent_5 rfl (lv_at hl 0 rfl) ?_
    refine lv_iload_n hx hb dX4_canBeParent_6 rfl (lv_at hl 1 rfl) ?_
    obtain ⟨r2, hgr2, hf⟩ := jM_some hf
    refine jcV_i0 (As := [.int x1]) (rest := []) ⟨hx, hb, hml, hown, hts⟩ hK hN hA (c_X4_sexOf l G D cI cB cZ a_t a_t_sex u_t_mother u_t_father u_t_parentsDay u_t_man u_t_woman u_t_weddingDay u_t_weddings u_t_teller u_t_tellingKind u_t_tellingDay u_t_tellings u_t_today u_t_seenTo s_t_count r_t_sex x1 hgr2) (cwV 1 hts (wG_V k_ml_X4_76 k_im_X4_sexOf k_se_X4_sexOf k_in_X4 k_co_X4_sexOf) rfl rfl rfl hd_X4_sexOf ⟨Nat.le_of_ble_eq_true rfl, Nat.le_of_ble_eq_true rfl⟩) hP hD hS [0, 1] rfl rfl rfl (ci := 3) rfl 0 rfl rfl rfl hl.1 rfl (Nat.le_of_ble_eq_true rfl) dX4_canBeParent_7 ⟨Nat.le_of_ble_eq_true rfl, Nat.le_of_ble_eq_true rfl⟩ (fun H locs hP hD hS => ?_)
    refine lv_iload_n hx hb dX4_canBeParent_10 rfl (lv_at hl 2 rfl) ?_
    refine lv_icmp_ne (tgt := 23) hx hb dX4_canBeParent_11 (by decide) (fun c3 => ?_) (fun c3 => ?_)
    · replace hf := jif_f c3 hf
      refine lv_iconst (v := (0 : Int32)) hx hb dX4_canBeParent_23 (by decide) ?_
      have ho := Option.some.inj hf
      subst ho
      exact K _ _ _ _ (Or.inl rfl) hP hS dX4_canBeParent_24
    · replace hf := jif_t c3 hf
      refine lv_iload_n hx hb dX4_canBeParent_14 rfl (lv_at hl 1 rfl) ?_
      refine lv_iload_n hx hb dX4_canBeParent_15 rfl (lv_at hl 3 rfl) ?_
      refine lv_icmp_ge (tgt := 23) hx hb dX4_canBeParent_16 (by decide) (fun c4 => ?_) (fun c4 => ?_)
      · replace hf := jif_t c4 hf
        refine lv_iconst (v := (0 : Int32)) hx hb dX4_canBeParent_23 (by decide) ?_
        have ho := Option.some.inj hf
        subst ho
        exact K _ _ _ _ (Or.inl rfl) hP hS dX4_canBeParent_24
      · replace hf := jif_f c4 hf
        exact t_X4_canBeParent_j19 G D cI cB cZ a_t a_t_sex u_t_mother u_t_father u_t_parentsDay u_t_man u_t_woman u_t_weddingDay u_t_weddings u_t_teller u_t_tellingKind u_t_tellingDay u_t_tellings u_t_today u_t_seenTo s_t_count r_t_sex  C hf K hP hD hS (lv_sub hl [] rfl)
set_option maxHeartbeats 4000000 in
set_option maxRecDepth 100000 in
theorem c_X4_canBeParent (l : Launch) (G : jGt) (D : va_G) (cI cB cZ : ClassId) (a_t a_t_sex : Nat) (u_t_mother u_t_father u_t_parentsDay u_t_man u_t_woman u_t_weddingDay : Value) (u_t_weddings : Int32) (u_t_teller u_t_tellingKind u_t_tellingDay : Value) (u_t_tellings u_t_today u_t_seenTo s_t_count : Int32) (r_t_sex : jA) (x1 x2 x3 : Int32) {o : Int32} (hf : f_X4_canBeParent s_t_count r_t_sex x1 x2 x3 = some o) : jMi l yX4_canBeParent gX4_canBeParent rX4_canBeParent G D (jT cI cB cZ) [.ref a_t, .int x1, .int x2, .int x3] (w_X4_canBeParent cI cB cZ a_t a_t_sex u_t_mother u_t_father u_t_parentsDay u_t_man u_t_woman u_t_weddingDay u_t_weddings u_t_teller u_t_tellingKind u_t_tellingDay u_t_tellings u_t_today u_t_seenTo s_t_count r_t_sex) (w_X4_canBeParent cI cB cZ a_t a_t_sex u_t_mother u_t_father u_t_parentsDay u_t_man u_t_woman u_t_weddingDay u_t_weddings u_t_teller u_t_tellingKind u_t_tellingDay u_t_tellings u_t_today u_t_seenTo s_t_count r_t_sex) o := by
  refine jmk_z RX4 rfl (by decide +kernel) rfl (Nat.le_of_ble_eq_true rfl) rfl ?_
  intro p e s m args below meth c ls A Q C hP hD hS hl K
  exact t_X4_canBeParent G D cI cB cZ a_t a_t_sex u_t_mother u_t_father u_t_parentsDay u_t_man u_t_woman u_t_weddingDay u_t_weddings u_t_teller u_t_tellingKind u_t_tellingDay u_t_tellings u_t_today u_t_seenTo s_t_count r_t_sex x1 x2 x3 C hf K hP hD hS hl
abbrev rX4_addParents : Room := { frames := 3, cells := 0, slots := 0, locals := 65 }
abbrev gX4_addParents : List Cond := wG yX4_addParents cX4_addParents 4 (some .boolean)
def w_X4_addParents (cI cB cZ : ClassId) (a_t a_t_father a_t_mother a_t_parentsDay a_t_sex : Nat) (u_t_man u_t_woman u_t_weddingDay : Value) (u_t_weddings : Int32) (u_t_teller u_t_tellingKind u_t_tellingDay : Value) (u_t_tellings u_t_seenTo s_t_count s_t_today : Int32) (r_t_father r_t_mother r_t_parentsDay r_t_sex : jA) : va_W := [(a_t, .inr (3, (oX4 (.ref a_t_sex) (.ref a_t_mother) (.ref a_t_father) (.ref a_t_parentsDay) s_t_count u_t_man u_t_woman u_t_weddingDay u_t_weddings u_t_teller u_t_tellingKind u_t_tellingDay u_t_tellings s_t_today u_t_seenTo))), (a_t_father, .inl (cI, r_t_father.1, .inl r_t_father.2)), (a_t_mother, .inl (cI, r_t_mother.1, .inl r_t_mother.2)), (a_t_parentsDay, .inl (cI, r_t_parentsDay.1, .inl r_t_parentsDay.2)), (a_t_sex, .inl (cI, r_t_sex.1, .inl r_t_sex.2))]
def f_X4_addParents_j38 (s_t_count s_t_today : Int32) (r_t_sex r_t_father r_t_mother r_t_parentsDay : jA) (x1 x2 x3 : Int32) : Option (Int32 × jA × jA × jA) :=
  jM (f_X4_canBeParent s_t_count r_t_sex x2 (0 : Int32) x1) fun r7 =>
  if r7 = 0 then
  some ((0 : Int32), r_t_father, r_t_mother, r_t_parentsDay)
  else
  jM (f_X4_canBeParent s_t_count r_t_sex x3 (1 : Int32) x1) fun r9 =>
  if r9 = 0 then
  some ((0 : Int32), r_t_father, r_t_mother, r_t_parentsDay)
  else
  jS r_t_mother x1 x2 fun q11 =>
  jS r_t_father x1 x3 fun q12 =>
  jS r_t_parentsDay x1 s_t_today fun q13 =>
  some ((1 : Int32), q12, q11, q13)
set_option maxHeartbeats 4000000 in
set_option maxRecDepth 100000 in
theorem t_X4_addParents_j38 {p : Program} {l : Launch} {e : Env} {s : State} {m : MethodId} {args : Array Value} {below : List Frame} {meth : Method} {c : Code} {A : Nat → Prop} {Q : State → Prop} (G : jGt) (D : va_G) (cI cB cZ : ClassId) (a_t a_t_father a_t_mother a_t_parentsDay a_t_sex : Nat) (u_t_man u_t_woman u_t_weddingDay : Value) (u_t_weddings : Int32) (u_t_teller u_t_tellingKind u_t_tellingDay : Value) (u_t_tellings u_t_seenTo s_t_count s_t_today : Int32) (r_t_sex : jA) (r_t_father r_t_mother r_t_parentsDay : jA) (x1 x2 x3 : Int32) (C : jCx p s m args c cX4_addParents 4 gX4_addParents RX4 G D (jT cI cB cZ) A) {o : Int32 × jA × jA × jA} (hf : f_X4_addParents_j38 s_t_count s_t_today r_t_sex r_t_father r_t_mother r_t_parentsDay x1 x2 x3 = some o) (K : ∀ (H : Heap) (locs : List Loc) (pc : Nat) (ls : Array Slot), (o.1 = 0 ∨ o.1 = 1) → va_P D vwCl (w_X4_addParents cI cB cZ a_t a_t_father a_t_mother a_t_parentsDay a_t_sex u_t_man u_t_woman u_t_weddingDay u_t_weddings u_t_teller u_t_tellingKind u_t_tellingDay u_t_tellings u_t_seenTo s_t_count s_t_today o.2.1 o.2.2.1 o.2.2.2 r_t_sex) H → va_S A s.heap H locs → decode cX4_addParents pc = .ok (.ireturn, 1) → W p l e rX4_addParents s m args below meth c H locs 0 0 Q (F0 m pc ls [.int o.1])) {H : Heap} {locs : List Loc} {ls : Array Slot} (hP : va_P D vwCl (w_X4_addParents cI cB cZ a_t a_t_father a_t_mother a_t_parentsDay a_t_sex u_t_man u_t_woman u_t_weddingDay u_t_weddings u_t_teller u_t_tellingKind u_t_tellingDay u_t_tellings u_t_seenTo s_t_count s_t_today r_t_father r_t_mother r_t_parentsDay r_t_sex) H) (hD : va_D A (w_X4_addParents cI cB cZ a_t a_t_father a_t_mother a_t_parentsDay a_t_sex u_t_man u_t_woman u_t_weddingDay u_t_weddings u_t_teller u_t_tellingKind u_t_tellingDay u_t_tellings u_t_seenTo s_t_count s_t_today r_t_father r_t_mother r_t_parentsDay r_t_sex)) (hS : va_S A s.heap H locs) (hl : lv_has ls 4 [(0, .ref a_t), (1, .int x1), (2, .int x2), (3, .int x3)]) : W p l e rX4_addParents s m args below meth c H locs 0 0 Q (F0 m 38 ls []) := by
  obtain ⟨⟨hx, hb, hml, hown, hts⟩, hK, hN, hA⟩ := C
  have C : jCx p s m args c cX4_addParents 4 gX4_addParents RX4 G D (jT cI cB cZ) A := ⟨⟨hx, hb, hml, hown, hts⟩, hK, hN, hA⟩
  unfold f_X4_addParents_j38 at hf
  refine lv_aload_n hx hb dX4_addParents_38 rfl (lv_at hl 0 rfl) ?_
  refine lv_iload_n hx hb dX4_addParents_39 rfl (lv_at hl 2 rfl) ?_
  refine lv_iconst (v := (0 : Int32)) hx hb dX4_addParents_40 (by decide) ?_
  refine lv_iload_n hx hb dX4_addParents_41 rfl (lv_at hl 1 rfl) ?_
  obtain ⟨r7, hgr7, hf⟩ := jM_some hf
  refine jcV_i0 (As := [.int x2, .int (0 : Int32), .int x1]) (rest := []) ⟨hx, hb, hml, hown, hts⟩ hK hN hA (c_X4_canBeParent l G D cI cB cZ a_t a_t_sex (.ref a_t_mother) (.ref a_t_father) (.ref a_t_parentsDay) u_t_man u_t_woman u_t_weddingDay u_t_weddings u_t_teller u_t_tellingKind u_t_tellingDay u_t_tellings s_t_today u_t_seenTo s_t_count r_t_sex x2 (0 : Int32) x1 hgr7) (cwV 3 hts (wG_V k_ml_X4_72 k_im_X4_canBeParent k_se_X4_canBeParent k_in_X4 k_co_X4_canBeParent) rfl rfl rfl hd_X4_canBeParent ⟨Nat.le_of_ble_eq_true rfl, Nat.le_of_ble_eq_true rfl⟩) hP hD hS [0, 4] rfl rfl rfl (ci := 3) rfl 0 rfl rfl rfl hl.1 rfl (Nat.le_of_ble_eq_true rfl) dX4_addParents_42 ⟨Nat.le_of_ble_eq_true rfl, Nat.le_of_ble_eq_true rfl⟩ (fun H locs hP hD hS => ?_)
  refine lv_if_eq (tgt := 58) hx hb dX4_addParents_45 (by decide) (fun c8 => ?_) (fun c8 => ?_)
  · replace hf := jif_t c8 hf
    refine lv_iconst (v := (0 : Int32)) hx hb dX4_addParents_58 (by decide) ?_
    have ho := Option.some.inj hf
    subst ho
    exact K _ _ _ _ (Or.inl rfl) hP hS dX4_addParents_59
  · replace hf := jif_f c8 hf
    refine lv_aload_n hx hb dX4_addParents_48 rfl (lv_at hl 0 rfl) ?_
    refine lv_iload_n hx hb dX4_addParents_49 rfl (lv_at hl 3 rfl) ?_
    refine lv_iconst (v := (1 : Int32)) hx hb dX4_addParents_50 (by decide) ?_
    refine lv_iload_n hx hb dX4_addParents_51 rfl (lv_at hl 1 rfl) ?_
    obtain ⟨r9, hgr9, hf⟩ := jM_some hf
    refine jcV_i0 (As := [.int x3, .int (1 : Int32), .int x1]) (rest := []) ⟨hx, hb, hml, hown, hts⟩ hK hN hA (c_X4_canBeParent l G D cI cB cZ a_t a_t_sex (.ref a_t_mother) (.ref a_t_father) (.ref a_t_parentsDay) u_t_man u_t_woman u_t_weddingDay u_t_weddings u_t_teller u_t_tellingKind u_t_tellingDay u_t_tellings s_t_today u_t_seenTo s_t_count r_t_sex x3 (1 : Int32) x1 hgr9) (cwV 3 hts (wG_V k_ml_X4_72 k_im_X4_canBeParent k_se_X4_canBeParent k_in_X4 k_co_X4_canBeParent) rfl rfl rfl hd_X4_canBeParent ⟨Nat.le_of_ble_eq_true rfl, Nat.le_of_ble_eq_true rfl⟩) hP hD hS [0, 4] rfl rfl rfl (ci := 3) rfl 0 rfl rfl rfl hl.1 rfl (Nat.le_of_ble_eq_true rfl) dX4_addParents_52 ⟨Nat.le_of_ble_eq_true rfl, Nat.le_of_ble_eq_true rfl⟩ (fun H locs hP hD hS => ?_)
    refine lv_if_ne (tgt := 60) hx hb dX4_addParents_55 (by decide) (fun c10 => ?_) (fun c10 => ?_)
    · replace hf := jif_f c10 hf
      refine lv_aload_n hx hb dX4_addParents_60 rfl (lv_at hl 0 rfl) ?_
      refine va_get (D := D) (ci := 3) (v := .ref a_t_mother) (C := RX4) (T := TX4) (N := 15) hx hb hts iw_X4 hown hK hP 0 rfl rfl 1 (by decide) (hts _ (wG_in k_fl_X4_15 rfl)) (fun _ h9 => h9) rfl dX4_addParents_61 ?_
      refine lv_iload_n hx hb dX4_addParents_64 rfl (lv_at hl 1 rfl) ?_
      refine lv_iload_n hx hb dX4_addParents_65 rfl (lv_at hl 2 rfl) ?_
      obtain ⟨q11, hq11, iq11, hf⟩ := jS_some hf
      refine ja_iast (P := r_t_mother) (P' := q11) hx hb hK hP hD hS 2 0 rfl rfl hq11 iq11 dX4_addParents_66 (fun H locs hP hD hS => ?_)
      have hP : va_P D vwCl (w_X4_addParents cI cB cZ a_t a_t_father a_t_mother a_t_parentsDay a_t_sex u_t_man u_t_woman u_t_weddingDay u_t_weddings u_t_teller u_t_tellingKind u_t_tellingDay u_t_tellings u_t_seenTo s_t_count s_t_today r_t_father q11 r_t_parentsDay r_t_sex) H := hP
      have hD : va_D A (w_X4_addParents cI cB cZ a_t a_t_father a_t_mother a_t_parentsDay a_t_sex u_t_man u_t_woman u_t_weddingDay u_t_weddings u_t_teller u_t_tellingKind u_t_tellingDay u_t_tellings u_t_seenTo s_t_count s_t_today r_t_father q11 r_t_parentsDay r_t_sex) := hD
      refine lv_aload_n hx hb dX4_addParents_67 rfl (lv_at hl 0 rfl) ?_
      refine va_get (D := D) (ci := 3) (v := .ref a_t_father) (C := RX4) (T := TX4) (N := 15) hx hb hts iw_X4 hown hK hP 0 rfl rfl 2 (by decide) (hts _ (wG_in k_fl_X4_18 rfl)) (fun _ h9 => h9) rfl dX4_addParents_68 ?_
      refine lv_iload_n hx hb dX4_addParents_71 rfl (lv_at hl 1 rfl) ?_
      refine lv_iload_n hx hb dX4_addParents_72 rfl (lv_at hl 3 rfl) ?_
      obtain ⟨q12, hq12, iq12, hf⟩ := jS_some hf
      refine ja_iast (P := r_t_father) (P' := q12) hx hb hK hP hD hS 1 0 rfl rfl hq12 iq12 dX4_addParents_73 (fun H locs hP hD hS => ?_)
      have hP : va_P D vwCl (w_X4_addParents cI cB cZ a_t a_t_father a_t_mother a_t_parentsDay a_t_sex u_t_man u_t_woman u_t_weddingDay u_t_weddings u_t_teller u_t_tellingKind u_t_tellingDay u_t_tellings u_t_seenTo s_t_count s_t_today q12 q11 r_t_parentsDay r_t_sex) H := hP
      have hD : va_D A (w_X4_addParents cI cB cZ a_t a_t_father a_t_mother a_t_parentsDay a_t_sex u_t_man u_t_woman u_t_weddingDay u_t_weddings u_t_teller u_t_tellingKind u_t_tellingDay u_t_tellings u_t_seenTo s_t_count s_t_today q12 q11 r_t_parentsDay r_t_sex) := hD
      refine lv_aload_n hx hb dX4_addParents_74 rfl (lv_at hl 0 rfl) ?_
      refine va_get (D := D) (ci := 3) (v := .ref a_t_parentsDay) (C := RX4) (T := TX4) (N := 15) hx hb hts iw_X4 hown hK hP 0 rfl rfl 3 (by decide) (hts _ (wG_in k_fl_X4_21 rfl)) (fun _ h9 => h9) rfl dX4_addParents_75 ?_
      refine lv_iload_n hx hb dX4_addParents_78 rfl (lv_at hl 1 rfl) ?_
      refine lv_aload_n hx hb dX4_addParents_79 rfl (lv_at hl 0 rfl) ?_
      refine va_get (D := D) (ci := 3) (v := .int s_t_today) (C := RX4) (T := TX4) (N := 15) hx hb hts iw_X4 hown hK hP 0 rfl rfl 13 (by decide) (hts _ (wG_in k_fl_X4_61 rfl)) (fun _ h9 => h9) rfl dX4_addParents_80 ?_
      obtain ⟨q13, hq13, iq13, hf⟩ := jS_some hf
      refine ja_iast (P := r_t_parentsDay) (P' := q13) hx hb hK hP hD hS 3 0 rfl rfl hq13 iq13 dX4_addParents_83 (fun H locs hP hD hS => ?_)
      have hP : va_P D vwCl (w_X4_addParents cI cB cZ a_t a_t_father a_t_mother a_t_parentsDay a_t_sex u_t_man u_t_woman u_t_weddingDay u_t_weddings u_t_teller u_t_tellingKind u_t_tellingDay u_t_tellings u_t_seenTo s_t_count s_t_today q12 q11 q13 r_t_sex) H := hP
      have hD : va_D A (w_X4_addParents cI cB cZ a_t a_t_father a_t_mother a_t_parentsDay a_t_sex u_t_man u_t_woman u_t_weddingDay u_t_weddings u_t_teller u_t_tellingKind u_t_tellingDay u_t_tellings u_t_seenTo s_t_count s_t_today q12 q11 q13 r_t_sex) := hD
      refine lv_iconst (v := (1 : Int32)) hx hb dX4_addParents_84 (by decide) ?_
      have ho := Option.some.inj hf
      subst ho
      exact K _ _ _ _ (Or.inr rfl) hP hS dX4_addParents_85
    · replace hf := jif_t c10 hf
      refine lv_iconst (v := (0 : Int32)) hx hb dX4_addParents_58 (by decide) ?_
      have ho := Option.some.inj hf
      subst ho
      exact K _ _ _ _ (Or.inl rfl) hP hS dX4_addParents_59
def f_X4_addParents (s_t_count s_t_today : Int32) (r_t_sex r_t_father r_t_mother r_t_parentsDay : jA) (x1 x2 x3 : Int32) : Option (Int32 × jA × jA × jA) :=
  jM (f_X4_has s_t_count x1) fun r1 =>
  if r1 = 0 then
  some ((0 : Int32), r_t_father, r_t_mother, r_t_parentsDay)
  else
  if (24 : Int32) ≤ x1 then
  some ((0 : Int32), r_t_father, r_t_mother, r_t_parentsDay)
  else
  jL r_t_parentsDay x1 fun v4 =>
  if v4 = (-1 : Int32) then
  if x2 = (-1 : Int32) then
  if x3 = (-1 : Int32) then
  some ((0 : Int32), r_t_father, r_t_mother, r_t_parentsDay)
  else
  f_X4_addParents_j38 s_t_count s_t_today r_t_sex r_t_father r_t_mother r_t_parentsDay x1 x2 x3
  else
  f_X4_addParents_j38 s_t_count s_t_today r_t_sex r_t_father r_t_mother r_t_parentsDay x1 x2 x3
  else
  some ((0 : Int32), r_t_father, r_t_mother, r_t_parentsDay)
set_option maxHeartbeats 4000000 in
set_option maxRecDepth 100000 in
theorem t_X4_addParents {p : Program} {l : Launch} {e : Env} {s : State} {m : MethodId} {args : Array Value} {below : List Frame} {meth : Method} {c : Code} {A : Nat → Prop} {Q : State → Prop} (G : jGt) (D : va_G) (cI cB cZ : ClassId) (a_t a_t_father a_t_mother a_t_parentsDay a_t_sex : Nat) (u_t_man u_t_woman u_t_weddingDay : Value) (u_t_weddings : Int32) (u_t_teller u_t_tellingKind u_t_tellingDay : Value) (u_t_tellings u_t_seenTo s_t_count s_t_today : Int32) (r_t_sex : jA) (r_t_father r_t_mother r_t_parentsDay : jA) (x1 x2 x3 : Int32) (C : jCx p s m args c cX4_addParents 4 gX4_addParents RX4 G D (jT cI cB cZ) A) {o : Int32 × jA × jA × jA} (hf : f_X4_addParents s_t_count s_t_today r_t_sex r_t_father r_t_mother r_t_parentsDay x1 x2 x3 = some o) (K : ∀ (H : Heap) (locs : List Loc) (pc : Nat) (ls : Array Slot), (o.1 = 0 ∨ o.1 = 1) → va_P D vwCl (w_X4_addParents cI cB cZ a_t a_t_father a_t_mother a_t_parentsDay a_t_sex u_t_man u_t_woman u_t_weddingDay u_t_weddings u_t_teller u_t_tellingKind u_t_tellingDay u_t_tellings u_t_seenTo s_t_count s_t_today o.2.1 o.2.2.1 o.2.2.2 r_t_sex) H → va_S A s.heap H locs → decode cX4_addParents pc = .ok (.ireturn, 1) → W p l e rX4_addParents s m args below meth c H locs 0 0 Q (F0 m pc ls [.int o.1])) {H : Heap} {locs : List Loc} {ls : Array Slot} (hP : va_P D vwCl (w_X4_addParents cI cB cZ a_t a_t_father a_t_mother a_t_parentsDay a_t_sex u_t_man u_t_woman u_t_weddingDay u_t_weddings u_t_teller u_t_tellingKind u_t_tellingDay u_t_tellings u_t_seenTo s_t_count s_t_today r_t_father r_t_mother r_t_parentsDay r_t_sex) H) (hD : va_D A (w_X4_addParents cI cB cZ a_t a_t_father a_t_mother a_t_parentsDay a_t_sex u_t_man u_t_woman u_t_weddingDay u_t_weddings u_t_teller u_t_tellingKind u_t_tellingDay u_t_tellings u_t_seenTo s_t_count s_t_today r_t_father r_t_mother r_t_parentsDay r_t_sex)) (hS : va_S A s.heap H locs) (hl : lv_has ls 4 [(0, .ref a_t), (1, .int x1), (2, .int x2), (3, .int x3)]) : W p l e rX4_addParents s m args below meth c H locs 0 0 Q (F0 m 0 ls []) := by
  obtain ⟨⟨hx, hb, hml, hown, hts⟩, hK, hN, hA⟩ := C
  have C : jCx p s m args c cX4_addParents 4 gX4_addParents RX4 G D (jT cI cB cZ) A := ⟨⟨hx, hb, hml, hown, hts⟩, hK, hN, hA⟩
  unfold f_X4_addParents at hf
  refine lv_aload_n hx hb dX4_addParents_0 rfl (lv_at hl 0 rfl) ?_
  refine lv_iload_n hx hb dX4_addParents_1 rfl (lv_at hl 1 rfl) ?_
  obtain ⟨r1, hgr1, hf⟩ := jM_some hf
  refine jcV_i0 (As := [.int x1]) (rest := []) ⟨hx, hb, hml, hown, hts⟩ hK hN hA (c_X4_has l G D cI cB cZ a_t (.ref a_t_sex) (.ref a_t_mother) (.ref a_t_father) (.ref a_t_parentsDay) u_t_man u_t_woman u_t_weddingDay u_t_weddings u_t_teller u_t_tellingKind u_t_tellingDay u_t_tellings s_t_today u_t_seenTo s_t_count x1 hgr1) (cwV 1 hts (wG_V k_ml_X4_64 k_im_X4_has k_se_X4_has k_in_X4 k_co_X4_has) rfl rfl rfl hd_X4_has ⟨Nat.le_of_ble_eq_true rfl, Nat.le_of_ble_eq_true rfl⟩) hP hD hS [0] rfl rfl rfl (ci := 3) rfl 0 rfl rfl rfl hl.1 rfl (Nat.le_of_ble_eq_true rfl) dX4_addParents_2 ⟨Nat.le_of_ble_eq_true rfl, Nat.le_of_ble_eq_true rfl⟩ (fun H locs hP hD hS => ?_)
  refine lv_if_eq (tgt := 24) hx hb dX4_addParents_5 (by decide) (fun c2 => ?_) (fun c2 => ?_)
  · replace hf := jif_t c2 hf
    refine lv_iconst (v := (0 : Int32)) hx hb dX4_addParents_24 (by decide) ?_
    have ho := Option.some.inj hf
    subst ho
    exact K _ _ _ _ (Or.inl rfl) hP hS dX4_addParents_25
  · replace hf := jif_f c2 hf
    refine lv_iload_n hx hb dX4_addParents_8 rfl (lv_at hl 1 rfl) ?_
    refine lv_bipush (v := (24 : Int32)) hx hb dX4_addParents_9 (by decide) ?_
    refine lv_icmp_ge (tgt := 24) hx hb dX4_addParents_11 (by decide) (fun c3 => ?_) (fun c3 => ?_)
    · replace hf := jif_t c3 hf
      refine lv_iconst (v := (0 : Int32)) hx hb dX4_addParents_24 (by decide) ?_
      have ho := Option.some.inj hf
      subst ho
      exact K _ _ _ _ (Or.inl rfl) hP hS dX4_addParents_25
    · replace hf := jif_f c3 hf
      refine lv_aload_n hx hb dX4_addParents_14 rfl (lv_at hl 0 rfl) ?_
      refine va_get (D := D) (ci := 3) (v := .ref a_t_parentsDay) (C := RX4) (T := TX4) (N := 15) hx hb hts iw_X4 hown hK hP 0 rfl rfl 3 (by decide) (hts _ (wG_in k_fl_X4_21 rfl)) (fun _ h9 => h9) rfl dX4_addParents_15 ?_
      refine lv_iload_n hx hb dX4_addParents_18 rfl (lv_at hl 1 rfl) ?_
      obtain ⟨v4, hv4, iv4, hf⟩ := jL_some hf
      refine ja_iald (P := r_t_parentsDay) hx hb hK hP 3 0 rfl rfl hv4 iv4 dX4_addParents_19 ?_
      refine lv_iconst (v := (-1 : Int32)) hx hb dX4_addParents_20 (by decide) ?_
      refine lv_icmp_eq (tgt := 26) hx hb dX4_addParents_21 (by decide) (fun c5 => ?_) (fun c5 => ?_)
      · replace hf := jif_t c5 hf
        refine lv_iload_n hx hb dX4_addParents_26 rfl (lv_at hl 2 rfl) ?_
        refine lv_iconst (v := (-1 : Int32)) hx hb dX4_addParents_27 (by decide) ?_
        refine lv_icmp_ne (tgt := 38) hx hb dX4_addParents_28 (by decide) (fun c6 => ?_) (fun c6 => ?_)
        · replace hf := jif_f c6 hf
          exact t_X4_addParents_j38 G D cI cB cZ a_t a_t_father a_t_mother a_t_parentsDay a_t_sex u_t_man u_t_woman u_t_weddingDay u_t_weddings u_t_teller u_t_tellingKind u_t_tellingDay u_t_tellings u_t_seenTo s_t_count s_t_today r_t_sex r_t_father r_t_mother r_t_parentsDay x1 x2 x3 C hf K hP hD hS (lv_sub hl [0, 1, 2, 3] rfl)
        · replace hf := jif_t c6 hf
          refine lv_iload_n hx hb dX4_addParents_31 rfl (lv_at hl 3 rfl) ?_
          refine lv_iconst (v := (-1 : Int32)) hx hb dX4_addParents_32 (by decide) ?_
          refine lv_icmp_ne (tgt := 38) hx hb dX4_addParents_33 (by decide) (fun c14 => ?_) (fun c14 => ?_)
          · replace hf := jif_f c14 hf
            exact t_X4_addParents_j38 G D cI cB cZ a_t a_t_father a_t_mother a_t_parentsDay a_t_sex u_t_man u_t_woman u_t_weddingDay u_t_weddings u_t_teller u_t_tellingKind u_t_tellingDay u_t_tellings u_t_seenTo s_t_count s_t_today r_t_sex r_t_father r_t_mother r_t_parentsDay x1 x2 x3 C hf K hP hD hS (lv_sub hl [0, 1, 2, 3] rfl)
          · replace hf := jif_t c14 hf
            refine lv_iconst (v := (0 : Int32)) hx hb dX4_addParents_36 (by decide) ?_
            have ho := Option.some.inj hf
            subst ho
            exact K _ _ _ _ (Or.inl rfl) hP hS dX4_addParents_37
      · replace hf := jif_f c5 hf
        refine lv_iconst (v := (0 : Int32)) hx hb dX4_addParents_24 (by decide) ?_
        have ho := Option.some.inj hf
        subst ho
        exact K _ _ _ _ (Or.inl rfl) hP hS dX4_addParents_25
set_option maxHeartbeats 4000000 in
set_option maxRecDepth 100000 in
theorem c_X4_addParents (l : Launch) (G : jGt) (D : va_G) (cI cB cZ : ClassId) (a_t a_t_father a_t_mother a_t_parentsDay a_t_sex : Nat) (u_t_man u_t_woman u_t_weddingDay : Value) (u_t_weddings : Int32) (u_t_teller u_t_tellingKind u_t_tellingDay : Value) (u_t_tellings u_t_seenTo s_t_count s_t_today : Int32) (r_t_sex : jA) (r_t_father r_t_mother r_t_parentsDay : jA) (x1 x2 x3 : Int32) {o : Int32 × jA × jA × jA} (hf : f_X4_addParents s_t_count s_t_today r_t_sex r_t_father r_t_mother r_t_parentsDay x1 x2 x3 = some o) : jMi l yX4_addParents gX4_addParents rX4_addParents G D (jT cI cB cZ) [.ref a_t, .int x1, .int x2, .int x3] (w_X4_addParents cI cB cZ a_t a_t_father a_t_mother a_t_parentsDay a_t_sex u_t_man u_t_woman u_t_weddingDay u_t_weddings u_t_teller u_t_tellingKind u_t_tellingDay u_t_tellings u_t_seenTo s_t_count s_t_today r_t_father r_t_mother r_t_parentsDay r_t_sex) (w_X4_addParents cI cB cZ a_t a_t_father a_t_mother a_t_parentsDay a_t_sex u_t_man u_t_woman u_t_weddingDay u_t_weddings u_t_teller u_t_tellingKind u_t_tellingDay u_t_tellings u_t_seenTo s_t_count s_t_today o.2.1 o.2.2.1 o.2.2.2 r_t_sex) o.1 := by
  refine jmk_z RX4 rfl (by decide +kernel) rfl (Nat.le_of_ble_eq_true rfl) rfl ?_
  intro p e s m args below meth c ls A Q C hP hD hS hl K
  exact t_X4_addParents G D cI cB cZ a_t a_t_father a_t_mother a_t_parentsDay a_t_sex u_t_man u_t_woman u_t_weddingDay u_t_weddings u_t_teller u_t_tellingKind u_t_tellingDay u_t_tellings u_t_seenTo s_t_count s_t_today r_t_sex r_t_father r_t_mother r_t_parentsDay x1 x2 x3 C hf K hP hD hS hl
abbrev rX4_areWed : Room := { frames := 0, cells := 0, slots := 0, locals := 0 }
abbrev gX4_areWed : List Cond := wG yX4_areWed cX4_areWed 4 (some .boolean)
def w_X4_areWed (cI cB cZ : ClassId) (a_t a_t_man a_t_woman : Nat) (u_t_sex u_t_mother u_t_father u_t_parentsDay : Value) (u_t_count : Int32) (u_t_weddingDay u_t_teller u_t_tellingKind u_t_tellingDay : Value) (u_t_tellings u_t_today u_t_seenTo s_t_weddings : Int32) (r_t_man r_t_woman : jA) : va_W := [(a_t, .inr (3, (oX4 u_t_sex u_t_mother u_t_father u_t_parentsDay u_t_count (.ref a_t_man) (.ref a_t_woman) u_t_weddingDay s_t_weddings u_t_teller u_t_tellingKind u_t_tellingDay u_t_tellings u_t_today u_t_seenTo))), (a_t_man, .inl (cI, r_t_man.1, .inl r_t_man.2)), (a_t_woman, .inl (cI, r_t_woman.1, .inl r_t_woman.2))]
def f_X4_areWed_j38 (x1 x2 x3 : Int32) : Option ((Int32) ⊕ ((Unit) ⊕ ((Unit)))) :=
  some (Sum.inl (x3 + 1))
set_option maxHeartbeats 4000000 in
set_option maxRecDepth 100000 in
theorem t_X4_areWed_j38 {p : Program} {l : Launch} {e : Env} {s : State} {m : MethodId} {args : Array Value} {below : List Frame} {meth : Method} {c : Code} {A : Nat → Prop} {Q : State → Prop} (G : jGt) (D : va_G) (cI cB cZ : ClassId) (a_t a_t_man a_t_woman : Nat) (u_t_sex u_t_mother u_t_father u_t_parentsDay : Value) (u_t_count : Int32) (u_t_weddingDay u_t_teller u_t_tellingKind u_t_tellingDay : Value) (u_t_tellings u_t_today u_t_seenTo s_t_weddings : Int32) (r_t_man r_t_woman : jA) (x1 x2 x3 : Int32) (C : jCx p s m args c cX4_areWed 4 gX4_areWed RX4 G D (jT cI cB cZ) A) {o : (Int32) ⊕ ((Unit) ⊕ ((Unit)))} (hf : f_X4_areWed_j38 x1 x2 x3 = some o) (K : (∀ z, o = Sum.inl z → ∀ (H : Heap) (locs : List Loc) (ls : Array Slot), va_P D vwCl (w_X4_areWed cI cB cZ a_t a_t_man a_t_woman u_t_sex u_t_mother u_t_father u_t_parentsDay u_t_count u_t_weddingDay u_t_teller u_t_tellingKind u_t_tellingDay u_t_tellings u_t_today u_t_seenTo s_t_weddings r_t_man r_t_woman) H → va_D A (w_X4_areWed cI cB cZ a_t a_t_man a_t_woman u_t_sex u_t_mother u_t_father u_t_parentsDay u_t_count u_t_weddingDay u_t_teller u_t_tellingKind u_t_tellingDay u_t_tellings u_t_today u_t_seenTo s_t_weddings r_t_man r_t_woman) → va_S A s.heap H locs → lv_has ls 4 [(0, .ref a_t), (1, .int x1), (2, .int x2), (3, .int z)] → W p l e rX4_areWed s m args below meth c H locs 0 0 Q (F0 m 2 ls [])) ∧ (∀ z, o = Sum.inr z → (∀ y0, z = Sum.inl y0 → ∀ (H : Heap) (locs : List Loc) (ls : Array Slot), va_P D vwCl (w_X4_areWed cI cB cZ a_t a_t_man a_t_woman u_t_sex u_t_mother u_t_father u_t_parentsDay u_t_count u_t_weddingDay u_t_teller u_t_tellingKind u_t_tellingDay u_t_tellings u_t_today u_t_seenTo s_t_weddings r_t_man r_t_woman) H → va_D A (w_X4_areWed cI cB cZ a_t a_t_man a_t_woman u_t_sex u_t_mother u_t_father u_t_parentsDay u_t_count u_t_weddingDay u_t_teller u_t_tellingKind u_t_tellingDay u_t_tellings u_t_today u_t_seenTo s_t_weddings r_t_man r_t_woman) → va_S A s.heap H locs → lv_has ls 4 [] → W p l e rX4_areWed s m args below meth c H locs 0 0 Q (F0 m 36 ls [])) ∧ (∀ z0, z = Sum.inr z0 → ∀ (H : Heap) (locs : List Loc) (ls : Array Slot), va_P D vwCl (w_X4_areWed cI cB cZ a_t a_t_man a_t_woman u_t_sex u_t_mother u_t_father u_t_parentsDay u_t_count u_t_weddingDay u_t_teller u_t_tellingKind u_t_tellingDay u_t_tellings u_t_today u_t_seenTo s_t_weddings r_t_man r_t_woman) H → va_D A (w_X4_areWed cI cB cZ a_t a_t_man a_t_woman u_t_sex u_t_mother u_t_father u_t_parentsDay u_t_count u_t_weddingDay u_t_teller u_t_tellingKind u_t_tellingDay u_t_tellings u_t_today u_t_seenTo s_t_weddings r_t_man r_t_woman) → va_S A s.heap H locs → lv_has ls 4 [] → W p l e rX4_areWed s m args below meth c H locs 0 0 Q (F0 m 44 ls [])))) {H : Heap} {locs : List Loc} {ls : Array Slot} (hP : va_P D vwCl (w_X4_areWed cI cB cZ a_t a_t_man a_t_woman u_t_sex u_t_mother u_t_father u_t_parentsDay u_t_count u_t_weddingDay u_t_teller u_t_tellingKind u_t_tellingDay u_t_tellings u_t_today u_t_seenTo s_t_weddings r_t_man r_t_woman) H) (hD : va_D A (w_X4_areWed cI cB cZ a_t a_t_man a_t_woman u_t_sex u_t_mother u_t_father u_t_parentsDay u_t_count u_t_weddingDay u_t_teller u_t_tellingKind u_t_tellingDay u_t_tellings u_t_today u_t_seenTo s_t_weddings r_t_man r_t_woman)) (hS : va_S A s.heap H locs) (hl : lv_has ls 4 [(0, .ref a_t), (1, .int x1), (2, .int x2), (3, .int x3)]) : W p l e rX4_areWed s m args below meth c H locs 0 0 Q (F0 m 38 ls []) := by
  obtain ⟨⟨hx, hb, hml, hown, hts⟩, hK, hN, hA⟩ := C
  have C : jCx p s m args c cX4_areWed 4 gX4_areWed RX4 G D (jT cI cB cZ) A := ⟨⟨hx, hb, hml, hown, hts⟩, hK, hN, hA⟩
  unfold f_X4_areWed_j38 at hf
  refine lv_iinc (v := (x3 + 1)) (lv' := [(3, .int (x3 + 1)), (0, .ref a_t), (1, .int x1), (2, .int x2)]) hx hb dX4_areWed_38 hl (k := 3) rfl (by first | rfl | decide) (by decide) rfl (fun ls hl => ?_)
  refine lv_goto (tgt := 2) hx hb dX4_areWed_41 (by decide) ?_
  have ho := Option.some.inj hf
  exact K.1 _ ho.symm _ _ _ hP hD hS (lv_sub hl [1, 2, 3, 0] rfl)
def f_X4_areWed_b2 (s_t_weddings : Int32) (r_t_man r_t_woman : jA) (x1 x2 x3 : Int32) : Option ((Int32) ⊕ ((Unit) ⊕ ((Unit)))) :=
  if s_t_weddings ≤ x3 then
  some (Sum.inr (Sum.inr ()))
  else
  if (24 : Int32) ≤ x3 then
  some (Sum.inr (Sum.inr ()))
  else
  jL r_t_man x3 fun v3 =>
  if v3 = x1 then
  jL r_t_woman x3 fun v5 =>
  if v5 = x2 then
  some (Sum.inr (Sum.inl ()))
  else
  f_X4_areWed_j38 x1 x2 x3
  else
  f_X4_areWed_j38 x1 x2 x3
set_option maxHeartbeats 4000000 in
set_option maxRecDepth 100000 in
theorem t_X4_areWed_b2 {p : Program} {l : Launch} {e : Env} {s : State} {m : MethodId} {args : Array Value} {below : List Frame} {meth : Method} {c : Code} {A : Nat → Prop} {Q : State → Prop} (G : jGt) (D : va_G) (cI cB cZ : ClassId) (a_t a_t_man a_t_woman : Nat) (u_t_sex u_t_mother u_t_father u_t_parentsDay : Value) (u_t_count : Int32) (u_t_weddingDay u_t_teller u_t_tellingKind u_t_tellingDay : Value) (u_t_tellings u_t_today u_t_seenTo s_t_weddings : Int32) (r_t_man r_t_woman : jA) (x1 x2 x3 : Int32) (C : jCx p s m args c cX4_areWed 4 gX4_areWed RX4 G D (jT cI cB cZ) A) {o : (Int32) ⊕ ((Unit) ⊕ ((Unit)))} (hf : f_X4_areWed_b2 s_t_weddings r_t_man r_t_woman x1 x2 x3 = some o) (K : (∀ z, o = Sum.inl z → ∀ (H : Heap) (locs : List Loc) (ls : Array Slot), va_P D vwCl (w_X4_areWed cI cB cZ a_t a_t_man a_t_woman u_t_sex u_t_mother u_t_father u_t_parentsDay u_t_count u_t_weddingDay u_t_teller u_t_tellingKind u_t_tellingDay u_t_tellings u_t_today u_t_seenTo s_t_weddings r_t_man r_t_woman) H → va_D A (w_X4_areWed cI cB cZ a_t a_t_man a_t_woman u_t_sex u_t_mother u_t_father u_t_parentsDay u_t_count u_t_weddingDay u_t_teller u_t_tellingKind u_t_tellingDay u_t_tellings u_t_today u_t_seenTo s_t_weddings r_t_man r_t_woman) → va_S A s.heap H locs → lv_has ls 4 [(0, .ref a_t), (1, .int x1), (2, .int x2), (3, .int z)] → W p l e rX4_areWed s m args below meth c H locs 0 0 Q (F0 m 2 ls [])) ∧ (∀ z, o = Sum.inr z → (∀ y0, z = Sum.inl y0 → ∀ (H : Heap) (locs : List Loc) (ls : Array Slot), va_P D vwCl (w_X4_areWed cI cB cZ a_t a_t_man a_t_woman u_t_sex u_t_mother u_t_father u_t_parentsDay u_t_count u_t_weddingDay u_t_teller u_t_tellingKind u_t_tellingDay u_t_tellings u_t_today u_t_seenTo s_t_weddings r_t_man r_t_woman) H → va_D A (w_X4_areWed cI cB cZ a_t a_t_man a_t_woman u_t_sex u_t_mother u_t_father u_t_parentsDay u_t_count u_t_weddingDay u_t_teller u_t_tellingKind u_t_tellingDay u_t_tellings u_t_today u_t_seenTo s_t_weddings r_t_man r_t_woman) → va_S A s.heap H locs → lv_has ls 4 [] → W p l e rX4_areWed s m args below meth c H locs 0 0 Q (F0 m 36 ls [])) ∧ (∀ z0, z = Sum.inr z0 → ∀ (H : Heap) (locs : List Loc) (ls : Array Slot), va_P D vwCl (w_X4_areWed cI cB cZ a_t a_t_man a_t_woman u_t_sex u_t_mother u_t_father u_t_parentsDay u_t_count u_t_weddingDay u_t_teller u_t_tellingKind u_t_tellingDay u_t_tellings u_t_today u_t_seenTo s_t_weddings r_t_man r_t_woman) H → va_D A (w_X4_areWed cI cB cZ a_t a_t_man a_t_woman u_t_sex u_t_mother u_t_father u_t_parentsDay u_t_count u_t_weddingDay u_t_teller u_t_tellingKind u_t_tellingDay u_t_tellings u_t_today u_t_seenTo s_t_weddings r_t_man r_t_woman) → va_S A s.heap H locs → lv_has ls 4 [] → W p l e rX4_areWed s m args below meth c H locs 0 0 Q (F0 m 44 ls [])))) {H : Heap} {locs : List Loc} {ls : Array Slot} (hP : va_P D vwCl (w_X4_areWed cI cB cZ a_t a_t_man a_t_woman u_t_sex u_t_mother u_t_father u_t_parentsDay u_t_count u_t_weddingDay u_t_teller u_t_tellingKind u_t_tellingDay u_t_tellings u_t_today u_t_seenTo s_t_weddings r_t_man r_t_woman) H) (hD : va_D A (w_X4_areWed cI cB cZ a_t a_t_man a_t_woman u_t_sex u_t_mother u_t_father u_t_parentsDay u_t_count u_t_weddingDay u_t_teller u_t_tellingKind u_t_tellingDay u_t_tellings u_t_today u_t_seenTo s_t_weddings r_t_man r_t_woman)) (hS : va_S A s.heap H locs) (hl : lv_has ls 4 [(0, .ref a_t), (1, .int x1), (2, .int x2), (3, .int x3)]) : W p l e rX4_areWed s m args below meth c H locs 0 0 Q (F0 m 2 ls []) := by
  obtain ⟨⟨hx, hb, hml, hown, hts⟩, hK, hN, hA⟩ := C
  have C : jCx p s m args c cX4_areWed 4 gX4_areWed RX4 G D (jT cI cB cZ) A := ⟨⟨hx, hb, hml, hown, hts⟩, hK, hN, hA⟩
  unfold f_X4_areWed_b2 at hf
  refine lv_iload_n hx hb dX4_areWed_2 rfl (lv_at hl 3 rfl) ?_
  refine lv_aload_n hx hb dX4_areWed_3 rfl (lv_at hl 0 rfl) ?_
  refine va_get (D := D) (ci := 3) (v := .int s_t_weddings) (C := RX4) (T := TX4) (N := 15) hx hb hts iw_X4 hown hK hP 0 rfl rfl 8 (by decide) (hts _ (wG_in k_fl_X4_55 rfl)) (fun _ h9 => h9) rfl dX4_areWed_4 ?_
  refine lv_icmp_ge (tgt := 44) hx hb dX4_areWed_7 (by decide) (fun c1 => ?_) (fun c1 => ?_)
  · replace hf := jif_t c1 hf
    have ho := Option.some.inj hf
    exact ((K.2 _ ho.symm).2 _ rfl) _ _ _ hP hD hS (lv_sub hl [] rfl)
  · replace hf := jif_f c1 hf
    refine lv_iload_n hx hb dX4_areWed_10 rfl (lv_at hl 3 rfl) ?_
    refine lv_bipush (v := (24 : Int32)) hx hb dX4_areWed_11 (by decide) ?_
    refine lv_icmp_ge (tgt := 44) hx hb dX4_areWed_13 (by decide) (fun c2 => ?_) (fun c2 => ?_)
    · replace hf := jif_t c2 hf
      have ho := Option.some.inj hf
      exact ((K.2 _ ho.symm).2 _ rfl) _ _ _ hP hD hS (lv_sub hl [] rfl)
    · replace hf := jif_f c2 hf
      refine lv_aload_n hx hb dX4_areWed_16 rfl (lv_at hl 0 rfl) ?_
      refine va_get (D := D) (ci := 3) (v := .ref a_t_man) (C := RX4) (T := TX4) (N := 15) hx hb hts iw_X4 hown hK hP 0 rfl rfl 5 (by decide) (hts _ (wG_in k_fl_X4_24 rfl)) (fun _ h9 => h9) rfl dX4_areWed_17 ?_
      refine lv_iload_n hx hb dX4_areWed_20 rfl (lv_at hl 3 rfl) ?_
      obtain ⟨v3, hv3, iv3, hf⟩ := jL_some hf
      refine ja_iald (P := r_t_man) hx hb hK hP 1 0 rfl rfl hv3 iv3 dX4_areWed_21 ?_
      refine lv_iload_n hx hb dX4_areWed_22 rfl (lv_at hl 1 rfl) ?_
      refine lv_icmp_ne (tgt := 38) hx hb dX4_areWed_23 (by decide) (fun c4 => ?_) (fun c4 => ?_)
      · replace hf := jif_f c4 hf
        exact t_X4_areWed_j38 G D cI cB cZ a_t a_t_man a_t_woman u_t_sex u_t_mother u_t_father u_t_parentsDay u_t_count u_t_weddingDay u_t_teller u_t_tellingKind u_t_tellingDay u_t_tellings u_t_today u_t_seenTo s_t_weddings r_t_man r_t_woman x1 x2 x3 C hf K hP hD hS (lv_sub hl [0, 1, 2, 3] rfl)
      · replace hf := jif_t c4 hf
        refine lv_aload_n hx hb dX4_areWed_26 rfl (lv_at hl 0 rfl) ?_
        refine va_get (D := D) (ci := 3) (v := .ref a_t_woman) (C := RX4) (T := TX4) (N := 15) hx hb hts iw_X4 hown hK hP 0 rfl rfl 6 (by decide) (hts _ (wG_in k_fl_X4_27 rfl)) (fun _ h9 => h9) rfl dX4_areWed_27 ?_
        refine lv_iload_n hx hb dX4_areWed_30 rfl (lv_at hl 3 rfl) ?_
        obtain ⟨v5, hv5, iv5, hf⟩ := jL_some hf
        refine ja_iald (P := r_t_woman) hx hb hK hP 2 0 rfl rfl hv5 iv5 dX4_areWed_31 ?_
        refine lv_iload_n hx hb dX4_areWed_32 rfl (lv_at hl 2 rfl) ?_
        refine lv_icmp_ne (tgt := 38) hx hb dX4_areWed_33 (by decide) (fun c6 => ?_) (fun c6 => ?_)
        · replace hf := jif_f c6 hf
          exact t_X4_areWed_j38 G D cI cB cZ a_t a_t_man a_t_woman u_t_sex u_t_mother u_t_father u_t_parentsDay u_t_count u_t_weddingDay u_t_teller u_t_tellingKind u_t_tellingDay u_t_tellings u_t_today u_t_seenTo s_t_weddings r_t_man r_t_woman x1 x2 x3 C hf K hP hD hS (lv_sub hl [0, 1, 2, 3] rfl)
        · replace hf := jif_t c6 hf
          have ho := Option.some.inj hf
          exact ((K.2 _ ho.symm).1 _ rfl) _ _ _ hP hD hS (lv_sub hl [] rfl)
def f_X4_areWed_l2 (s_t_weddings : Int32) (r_t_man r_t_woman : jA) (x1 x2 x3 : Int32) : Option ((Unit) ⊕ ((Unit))) :=
  jI (fun z => f_X4_areWed_b2 s_t_weddings r_t_man r_t_woman x1 x2 z) jF x3
set_option maxHeartbeats 4000000 in
set_option maxRecDepth 100000 in
theorem t_X4_areWed_l2 {p : Program} {l : Launch} {e : Env} {s : State} {m : MethodId} {args : Array Value} {below : List Frame} {meth : Method} {c : Code} {A : Nat → Prop} {Q : State → Prop} (G : jGt) (D : va_G) (cI cB cZ : ClassId) (a_t a_t_man a_t_woman : Nat) (u_t_sex u_t_mother u_t_father u_t_parentsDay : Value) (u_t_count : Int32) (u_t_weddingDay u_t_teller u_t_tellingKind u_t_tellingDay : Value) (u_t_tellings u_t_today u_t_seenTo s_t_weddings : Int32) (r_t_man r_t_woman : jA) (x1 x2 : Int32) (C : jCx p s m args c cX4_areWed 4 gX4_areWed RX4 G D (jT cI cB cZ) A) : ∀ (n : Nat) (x3 : Int32) {eo : (Unit) ⊕ ((Unit))}, jI (fun z => f_X4_areWed_b2 s_t_weddings r_t_man r_t_woman x1 x2 z) n x3 = some eo → ((∀ y0, eo = Sum.inl y0 → ∀ (H : Heap) (locs : List Loc) (ls : Array Slot), va_P D vwCl (w_X4_areWed cI cB cZ a_t a_t_man a_t_woman u_t_sex u_t_mother u_t_father u_t_parentsDay u_t_count u_t_weddingDay u_t_teller u_t_tellingKind u_t_tellingDay u_t_tellings u_t_today u_t_seenTo s_t_weddings r_t_man r_t_woman) H → va_D A (w_X4_areWed cI cB cZ a_t a_t_man a_t_woman u_t_sex u_t_mother u_t_father u_t_parentsDay u_t_count u_t_weddingDay u_t_teller u_t_tellingKind u_t_tellingDay u_t_tellings u_t_today u_t_seenTo s_t_weddings r_t_man r_t_woman) → va_S A s.heap H locs → lv_has ls 4 [] → W p l e rX4_areWed s m args below meth c H locs 0 0 Q (F0 m 36 ls [])) ∧ (∀ z0, eo = Sum.inr z0 → ∀ (H : Heap) (locs : List Loc) (ls : Array Slot), va_P D vwCl (w_X4_areWed cI cB cZ a_t a_t_man a_t_woman u_t_sex u_t_mother u_t_father u_t_parentsDay u_t_count u_t_weddingDay u_t_teller u_t_tellingKind u_t_tellingDay u_t_tellings u_t_today u_t_seenTo s_t_weddings r_t_man r_t_woman) H → va_D A (w_X4_areWed cI cB cZ a_t a_t_man a_t_woman u_t_sex u_t_mother u_t_father u_t_parentsDay u_t_count u_t_weddingDay u_t_teller u_t_tellingKind u_t_tellingDay u_t_tellings u_t_today u_t_seenTo s_t_weddings r_t_man r_t_woman) → va_S A s.heap H locs → lv_has ls 4 [] → W p l e rX4_areWed s m args below meth c H locs 0 0 Q (F0 m 44 ls []))) → ∀ (H : Heap) (locs : List Loc) (ls : Array Slot), va_P D vwCl (w_X4_areWed cI cB cZ a_t a_t_man a_t_woman u_t_sex u_t_mother u_t_father u_t_parentsDay u_t_count u_t_weddingDay u_t_teller u_t_tellingKind u_t_tellingDay u_t_tellings u_t_today u_t_seenTo s_t_weddings r_t_man r_t_woman) H → va_D A (w_X4_areWed cI cB cZ a_t a_t_man a_t_woman u_t_sex u_t_mother u_t_father u_t_parentsDay u_t_count u_t_weddingDay u_t_teller u_t_tellingKind u_t_tellingDay u_t_tellings u_t_today u_t_seenTo s_t_weddings r_t_man r_t_woman) → va_S A s.heap H locs → lv_has ls 4 [(0, .ref a_t), (1, .int x1), (2, .int x2), (3, .int x3)] → W p l e rX4_areWed s m args below meth c H locs 0 0 Q (F0 m 2 ls []) := by
  intro n
  induction n with
  | zero =>
    intro x3 eo hf
    exact (jI_zero hf).elim
  | succ n ih =>
    intro x3 eo hf K H locs ls hP hD hS hl
    obtain ⟨o, hb1, ho⟩ := jI_some hf
    rcases ho with ⟨z, rfl, hf2⟩ | rfl
    · exact t_X4_areWed_b2 G D cI cB cZ a_t a_t_man a_t_woman u_t_sex u_t_mother u_t_father u_t_parentsDay u_t_count u_t_weddingDay u_t_teller u_t_tellingKind u_t_tellingDay u_t_tellings u_t_today u_t_seenTo s_t_weddings r_t_man r_t_woman x1 x2 x3 C hb1 ⟨fun z2 hz H locs ls hP hD hS hl => by cases hz; exact ih z hf2 K H locs ls hP hD hS hl, fun z2 hz => by cases hz⟩ hP hD hS hl
    · exact t_X4_areWed_b2 G D cI cB cZ a_t a_t_man a_t_woman u_t_sex u_t_mother u_t_father u_t_parentsDay u_t_count u_t_weddingDay u_t_teller u_t_tellingKind u_t_tellingDay u_t_tellings u_t_today u_t_seenTo s_t_weddings r_t_man r_t_woman x1 x2 x3 C hb1 ⟨fun z2 hz => (by cases hz), fun z2 hz => by cases hz; exact K⟩ hP hD hS hl
def f_X4_areWed (s_t_weddings : Int32) (r_t_man r_t_woman : jA) (x1 x2 : Int32) : Option (Int32) :=
  jM (f_X4_areWed_l2 s_t_weddings r_t_man r_t_woman x1 x2 (0 : Int32)) fun e7 =>
  Sum.elim (fun y8 =>
  some (1 : Int32)) (fun w9 =>
  some (0 : Int32)) e7
set_option maxHeartbeats 4000000 in
set_option maxRecDepth 100000 in
theorem t_X4_areWed {p : Program} {l : Launch} {e : Env} {s : State} {m : MethodId} {args : Array Value} {below : List Frame} {meth : Method} {c : Code} {A : Nat → Prop} {Q : State → Prop} (G : jGt) (D : va_G) (cI cB cZ : ClassId) (a_t a_t_man a_t_woman : Nat) (u_t_sex u_t_mother u_t_father u_t_parentsDay : Value) (u_t_count : Int32) (u_t_weddingDay u_t_teller u_t_tellingKind u_t_tellingDay : Value) (u_t_tellings u_t_today u_t_seenTo s_t_weddings : Int32) (r_t_man r_t_woman : jA) (x1 x2 : Int32) (C : jCx p s m args c cX4_areWed 4 gX4_areWed RX4 G D (jT cI cB cZ) A) {o : Int32} (hf : f_X4_areWed s_t_weddings r_t_man r_t_woman x1 x2 = some o) (K : ∀ (H : Heap) (locs : List Loc) (pc : Nat) (ls : Array Slot), (o = 0 ∨ o = 1) → va_P D vwCl (w_X4_areWed cI cB cZ a_t a_t_man a_t_woman u_t_sex u_t_mother u_t_father u_t_parentsDay u_t_count u_t_weddingDay u_t_teller u_t_tellingKind u_t_tellingDay u_t_tellings u_t_today u_t_seenTo s_t_weddings r_t_man r_t_woman) H → va_S A s.heap H locs → decode cX4_areWed pc = .ok (.ireturn, 1) → W p l e rX4_areWed s m args below meth c H locs 0 0 Q (F0 m pc ls [.int o])) {H : Heap} {locs : List Loc} {ls : Array Slot} (hP : va_P D vwCl (w_X4_areWed cI cB cZ a_t a_t_man a_t_woman u_t_sex u_t_mother u_t_father u_t_parentsDay u_t_count u_t_weddingDay u_t_teller u_t_tellingKind u_t_tellingDay u_t_tellings u_t_today u_t_seenTo s_t_weddings r_t_man r_t_woman) H) (hD : va_D A (w_X4_areWed cI cB cZ a_t a_t_man a_t_woman u_t_sex u_t_mother u_t_father u_t_parentsDay u_t_count u_t_weddingDay u_t_teller u_t_tellingKind u_t_tellingDay u_t_tellings u_t_today u_t_seenTo s_t_weddings r_t_man r_t_woman)) (hS : va_S A s.heap H locs) (hl : lv_has ls 4 [(0, .ref a_t), (1, .int x1), (2, .int x2)]) : W p l e rX4_areWed s m args below meth c H locs 0 0 Q (F0 m 0 ls []) := by
  obtain ⟨⟨hx, hb, hml, hown, hts⟩, hK, hN, hA⟩ := C
  have C : jCx p s m args c cX4_areWed 4 gX4_areWed RX4 G D (jT cI cB cZ) A := ⟨⟨hx, hb, hml, hown, hts⟩, hK, hN, hA⟩
  unfold f_X4_areWed at hf
  refine lv_iconst (v := (0 : Int32)) hx hb dX4_areWed_0 (by decide) ?_
  refine lv_istore_n (lv' := [(3, .int (0 : Int32)), (0, .ref a_t), (1, .int x1), (2, .int x2)]) hx hb dX4_areWed_1 rfl hl (by decide) rfl (fun ls hl => ?_)
  obtain ⟨e7, hg7, hf⟩ := jM_some hf
  refine t_X4_areWed_l2 G D cI cB cZ a_t a_t_man a_t_woman u_t_sex u_t_mother u_t_father u_t_parentsDay u_t_count u_t_weddingDay u_t_teller u_t_tellingKind u_t_tellingDay u_t_tellings u_t_today u_t_seenTo s_t_weddings r_t_man r_t_woman x1 x2 C jF (0 : Int32) hg7 ?_ _ _ _ hP hD hS (lv_sub hl [1, 2, 3, 0] rfl)
  refine ⟨fun y8 hy => ?_, fun w9 hy => ?_⟩
  · replace hf := jE_l hy hf
    intro H locs ls hP hD hS hl
    refine lv_iconst (v := (1 : Int32)) hx hb dX4_areWed_36 (by decide) ?_
    have ho := Option.some.inj hf
    subst ho
    exact K _ _ _ _ (Or.inr rfl) hP hS dX4_areWed_37
  · replace hf := jE_r hy hf
    intro H locs ls hP hD hS hl
    refine lv_iconst (v := (0 : Int32)) hx hb dX4_areWed_44 (by decide) ?_
    have ho := Option.some.inj hf
    subst ho
    exact K _ _ _ _ (Or.inl rfl) hP hS dX4_areWed_45
set_option maxHeartbeats 4000000 in
set_option maxRecDepth 100000 in
theorem c_X4_areWed (l : Launch) (G : jGt) (D : va_G) (cI cB cZ : ClassId) (a_t a_t_man a_t_woman : Nat) (u_t_sex u_t_mother u_t_father u_t_parentsDay : Value) (u_t_count : Int32) (u_t_weddingDay u_t_teller u_t_tellingKind u_t_tellingDay : Value) (u_t_tellings u_t_today u_t_seenTo s_t_weddings : Int32) (r_t_man r_t_woman : jA) (x1 x2 : Int32) {o : Int32} (hf : f_X4_areWed s_t_weddings r_t_man r_t_woman x1 x2 = some o) : jMi l yX4_areWed gX4_areWed rX4_areWed G D (jT cI cB cZ) [.ref a_t, .int x1, .int x2] (w_X4_areWed cI cB cZ a_t a_t_man a_t_woman u_t_sex u_t_mother u_t_father u_t_parentsDay u_t_count u_t_weddingDay u_t_teller u_t_tellingKind u_t_tellingDay u_t_tellings u_t_today u_t_seenTo s_t_weddings r_t_man r_t_woman) (w_X4_areWed cI cB cZ a_t a_t_man a_t_woman u_t_sex u_t_mother u_t_father u_t_parentsDay u_t_count u_t_weddingDay u_t_teller u_t_tellingKind u_t_tellingDay u_t_tellings u_t_today u_t_seenTo s_t_weddings r_t_man r_t_woman) o := by
  refine jmk_z RX4 rfl (by decide +kernel) rfl (Nat.le_of_ble_eq_true rfl) rfl ?_
  intro p e s m args below meth c ls A Q C hP hD hS hl K
  exact t_X4_areWed G D cI cB cZ a_t a_t_man a_t_woman u_t_sex u_t_mother u_t_father u_t_parentsDay u_t_count u_t_weddingDay u_t_teller u_t_tellingKind u_t_tellingDay u_t_tellings u_t_today u_t_seenTo s_t_weddings r_t_man r_t_woman x1 x2 C hf K hP hD hS hl
abbrev rX4_addWedding : Room := { frames := 2, cells := 0, slots := 0, locals := 42 }
abbrev gX4_addWedding : List Cond := wG yX4_addWedding cX4_addWedding 3 (some .int)
def w_X4_addWedding (cI cB cZ : ClassId) (a_t a_t_man a_t_sex a_t_weddingDay a_t_woman : Nat) (u_t_mother u_t_father u_t_parentsDay u_t_teller u_t_tellingKind u_t_tellingDay : Value) (u_t_tellings u_t_seenTo s_t_count s_t_today s_t_weddings : Int32) (r_t_man r_t_sex r_t_weddingDay r_t_woman : jA) : va_W := [(a_t, .inr (3, (oX4 (.ref a_t_sex) u_t_mother u_t_father u_t_parentsDay s_t_count (.ref a_t_man) (.ref a_t_woman) (.ref a_t_weddingDay) s_t_weddings u_t_teller u_t_tellingKind u_t_tellingDay u_t_tellings s_t_today u_t_seenTo))), (a_t_man, .inl (cI, r_t_man.1, .inl r_t_man.2)), (a_t_sex, .inl (cI, r_t_sex.1, .inl r_t_sex.2)), (a_t_weddingDay, .inl (cI, r_t_weddingDay.1, .inl r_t_weddingDay.2)), (a_t_woman, .inl (cI, r_t_woman.1, .inl r_t_woman.2))]
def f_X4_addWedding (s_t_count s_t_today : Int32) (r_t_sex : jA) (s_t_weddings : Int32) (r_t_man r_t_weddingDay r_t_woman : jA) (x1 x2 : Int32) : Option (Int32 × Int32 × jA × jA × jA) :=
  if s_t_weddings < 0 then
  some ((-1 : Int32), s_t_weddings, r_t_man, r_t_weddingDay, r_t_woman)
  else
  if s_t_weddings < (24 : Int32) then
  jM (f_X4_sexOf s_t_count r_t_sex x1) fun r3 =>
  if r3 = (1 : Int32) then
  jM (f_X4_sexOf s_t_count r_t_sex x2) fun r5 =>
  if r5 = 0 then
  jM (f_X4_areWed s_t_weddings r_t_man r_t_woman x1 x2) fun r7 =>
  if r7 = 0 then
  jS r_t_man s_t_weddings x1 fun q9 =>
  jS r_t_woman s_t_weddings x2 fun q10 =>
  jS r_t_weddingDay s_t_weddings s_t_today fun q11 =>
  jV (s_t_weddings + (1 : Int32)) fun v12 =>
  some (v12, v12, q9, q11, q10)
  else
  some ((-1 : Int32), s_t_weddings, r_t_man, r_t_weddingDay, r_t_woman)
  else
  some ((-1 : Int32), s_t_weddings, r_t_man, r_t_weddingDay, r_t_woman)
  else
  some ((-1 : Int32), s_t_weddings, r_t_man, r_t_weddingDay, r_t_woman)
  else
  some ((-1 : Int32), s_t_weddings, r_t_man, r_t_weddingDay, r_t_woman)
set_option maxHeartbeats 4000000 in
set_option maxRecDepth 100000 in
theorem t_X4_addWedding {p : Program} {l : Launch} {e : Env} {s : State} {m : MethodId} {args : Array Value} {below : List Frame} {meth : Method} {c : Code} {A : Nat → Prop} {Q : State → Prop} (G : jGt) (D : va_G) (cI cB cZ : ClassId) (a_t a_t_man a_t_sex a_t_weddingDay a_t_woman : Nat) (u_t_mother u_t_father u_t_parentsDay u_t_teller u_t_tellingKind u_t_tellingDay : Value) (u_t_tellings u_t_seenTo s_t_count s_t_today : Int32) (r_t_sex : jA) (s_t_weddings : Int32) (r_t_man r_t_weddingDay r_t_woman : jA) (x1 x2 : Int32) (C : jCx p s m args c cX4_addWedding 3 gX4_addWedding RX4 G D (jT cI cB cZ) A) {o : Int32 × Int32 × jA × jA × jA} (hf : f_X4_addWedding s_t_count s_t_today r_t_sex s_t_weddings r_t_man r_t_weddingDay r_t_woman x1 x2 = some o) (K : ∀ (H : Heap) (locs : List Loc) (pc : Nat) (ls : Array Slot), va_P D vwCl (w_X4_addWedding cI cB cZ a_t a_t_man a_t_sex a_t_weddingDay a_t_woman u_t_mother u_t_father u_t_parentsDay u_t_teller u_t_tellingKind u_t_tellingDay u_t_tellings u_t_seenTo s_t_count s_t_today o.2.1 o.2.2.1 r_t_sex o.2.2.2.1 o.2.2.2.2) H → va_S A s.heap H locs → decode cX4_addWedding pc = .ok (.ireturn, 1) → W p l e rX4_addWedding s m args below meth c H locs 0 0 Q (F0 m pc ls [.int o.1])) {H : Heap} {locs : List Loc} {ls : Array Slot} (hP : va_P D vwCl (w_X4_addWedding cI cB cZ a_t a_t_man a_t_sex a_t_weddingDay a_t_woman u_t_mother u_t_father u_t_parentsDay u_t_teller u_t_tellingKind u_t_tellingDay u_t_tellings u_t_seenTo s_t_count s_t_today s_t_weddings r_t_man r_t_sex r_t_weddingDay r_t_woman) H) (hD : va_D A (w_X4_addWedding cI cB cZ a_t a_t_man a_t_sex a_t_weddingDay a_t_woman u_t_mother u_t_father u_t_parentsDay u_t_teller u_t_tellingKind u_t_tellingDay u_t_tellings u_t_seenTo s_t_count s_t_today s_t_weddings r_t_man r_t_sex r_t_weddingDay r_t_woman)) (hS : va_S A s.heap H locs) (hl : lv_has ls 3 [(0, .ref a_t), (1, .int x1), (2, .int x2)]) : W p l e rX4_addWedding s m args below meth c H locs 0 0 Q (F0 m 0 ls []) := by
  obtain ⟨⟨hx, hb, hml, hown, hts⟩, hK, hN, hA⟩ := C
  have C : jCx p s m args c cX4_addWedding 3 gX4_addWedding RX4 G D (jT cI cB cZ) A := ⟨⟨hx, hb, hml, hown, hts⟩, hK, hN, hA⟩
  unfold f_X4_addWedding at hf
  refine lv_aload_n hx hb dX4_addWedding_0 rfl (lv_at hl 0 rfl) ?_
  refine va_get (D := D) (ci := 3) (v := .int s_t_weddings) (C := RX4) (T := TX4) (N := 15) hx hb hts iw_X4 hown hK hP 0 rfl rfl 8 (by decide) (hts _ (wG_in k_fl_X4_55 rfl)) (fun _ h9 => h9) rfl dX4_addWedding_1 ?_
  refine lv_if_lt (tgt := 16) hx hb dX4_addWedding_4 (by decide) (fun c1 => ?_) (fun c1 => ?_)
  · replace hf := jif_t c1 hf
    refine lv_iconst (v := (-1 : Int32)) hx hb dX4_addWedding_16 (by decide) ?_
    have ho := Option.some.inj hf
    subst ho
    exact K _ _ _ _ hP hS dX4_addWedding_17
  · replace hf := jif_f c1 hf
    refine lv_aload_n hx hb dX4_addWedding_7 rfl (lv_at hl 0 rfl) ?_
    refine va_get (D := D) (ci := 3) (v := .int s_t_weddings) (C := RX4) (T := TX4) (N := 15) hx hb hts iw_X4 hown hK hP 0 rfl rfl 8 (by decide) (hts _ (wG_in k_fl_X4_55 rfl)) (fun _ h9 => h9) rfl dX4_addWedding_8 ?_
    refine lv_bipush (v := (24 : Int32)) hx hb dX4_addWedding_11 (by decide) ?_
    refine lv_icmp_lt (tgt := 18) hx hb dX4_addWedding_13 (by decide) (fun c2 => ?_) (fun c2 => ?_)
    · replace hf := jif_t c2 hf
      refine lv_aload_n hx hb dX4_addWedding_18 rfl (lv_at hl 0 rfl) ?_
      refine lv_iload_n hx hb dX4_addWedding_19 rfl (lv_at hl 1 rfl) ?_
      obtain ⟨r3, hgr3, hf⟩ := jM_some hf
      refine jcV_i0 (As := [.int x1]) (rest := []) ⟨hx, hb, hml, hown, hts⟩ hK hN hA (c_X4_sexOf l G D cI cB cZ a_t a_t_sex u_t_mother u_t_father u_t_parentsDay (.ref a_t_man) (.ref a_t_woman) (.ref a_t_weddingDay) s_t_weddings u_t_teller u_t_tellingKind u_t_tellingDay u_t_tellings s_t_today u_t_seenTo s_t_count r_t_sex x1 hgr3) (cwV 1 hts (wG_V k_ml_X4_76 k_im_X4_sexOf k_se_X4_sexOf k_in_X4 k_co_X4_sexOf) rfl rfl rfl hd_X4_sexOf ⟨Nat.le_of_ble_eq_true rfl, Nat.le_of_ble_eq_true rfl⟩) hP hD hS [0, 2] rfl rfl rfl (ci := 3) rfl 0 rfl rfl rfl hl.1 rfl (Nat.le_of_ble_eq_true rfl) dX4_addWedding_20 ⟨Nat.le_of_ble_eq_true rfl, Nat.le_of_ble_eq_true rfl⟩ (fun H locs hP hD hS => ?_)
      refine lv_iconst (v := (1 : Int32)) hx hb dX4_addWedding_23 (by decide) ?_
      refine lv_icmp_ne (tgt := 44) hx hb dX4_addWedding_24 (by decide) (fun c4 => ?_) (fun c4 => ?_)
      · replace hf := jif_f c4 hf
        refine lv_iconst (v := (-1 : Int32)) hx hb dX4_addWedding_44 (by decide) ?_
        have ho := Option.some.inj hf
        subst ho
        exact K _ _ _ _ hP hS dX4_addWedding_45
      · replace hf := jif_t c4 hf
        refine lv_aload_n hx hb dX4_addWedding_27 rfl (lv_at hl 0 rfl) ?_
        refine lv_iload_n hx hb dX4_addWedding_28 rfl (lv_at hl 2 rfl) ?_
        obtain ⟨r5, hgr5, hf⟩ := jM_some hf
        refine jcV_i0 (As := [.int x2]) (rest := []) ⟨hx, hb, hml, hown, hts⟩ hK hN hA (c_X4_sexOf l G D cI cB cZ a_t a_t_sex u_t_mother u_t_father u_t_parentsDay (.ref a_t_man) (.ref a_t_woman) (.ref a_t_weddingDay) s_t_weddings u_t_teller u_t_tellingKind u_t_tellingDay u_t_tellings s_t_today u_t_seenTo s_t_count r_t_sex x2 hgr5) (cwV 1 hts (wG_V k_ml_X4_76 k_im_X4_sexOf k_se_X4_sexOf k_in_X4 k_co_X4_sexOf) rfl rfl rfl hd_X4_sexOf ⟨Nat.le_of_ble_eq_true rfl, Nat.le_of_ble_eq_true rfl⟩) hP hD hS [0, 2] rfl rfl rfl (ci := 3) rfl 0 rfl rfl rfl hl.1 rfl (Nat.le_of_ble_eq_true rfl) dX4_addWedding_29 ⟨Nat.le_of_ble_eq_true rfl, Nat.le_of_ble_eq_true rfl⟩ (fun H locs hP hD hS => ?_)
        refine lv_if_ne (tgt := 44) hx hb dX4_addWedding_32 (by decide) (fun c6 => ?_) (fun c6 => ?_)
        · replace hf := jif_f c6 hf
          refine lv_iconst (v := (-1 : Int32)) hx hb dX4_addWedding_44 (by decide) ?_
          have ho := Option.some.inj hf
          subst ho
          exact K _ _ _ _ hP hS dX4_addWedding_45
        · replace hf := jif_t c6 hf
          refine lv_aload_n hx hb dX4_addWedding_35 rfl (lv_at hl 0 rfl) ?_
          refine lv_iload_n hx hb dX4_addWedding_36 rfl (lv_at hl 1 rfl) ?_
          refine lv_iload_n hx hb dX4_addWedding_37 rfl (lv_at hl 2 rfl) ?_
          obtain ⟨r7, hgr7, hf⟩ := jM_some hf
          refine jcV_i0 (As := [.int x1, .int x2]) (rest := []) ⟨hx, hb, hml, hown, hts⟩ hK hN hA (c_X4_areWed l G D cI cB cZ a_t a_t_man a_t_woman (.ref a_t_sex) u_t_mother u_t_father u_t_parentsDay s_t_count (.ref a_t_weddingDay) u_t_teller u_t_tellingKind u_t_tellingDay u_t_tellings s_t_today u_t_seenTo s_t_weddings r_t_man r_t_woman x1 x2 hgr7) (cwV 2 hts (wG_V k_ml_X4_80 k_im_X4_areWed k_se_X4_areWed k_in_X4 k_co_X4_areWed) rfl rfl rfl hd_X4_areWed ⟨Nat.le_of_ble_eq_true rfl, Nat.le_of_ble_eq_true rfl⟩) hP hD hS [0, 1, 4] rfl rfl rfl (ci := 3) rfl 0 rfl rfl rfl hl.1 rfl (Nat.le_of_ble_eq_true rfl) dX4_addWedding_38 ⟨Nat.le_of_ble_eq_true rfl, Nat.le_of_ble_eq_true rfl⟩ (fun H locs hP hD hS => ?_)
          refine lv_if_eq (tgt := 46) hx hb dX4_addWedding_41 (by decide) (fun c8 => ?_) (fun c8 => ?_)
          · replace hf := jif_t c8 hf
            refine lv_aload_n hx hb dX4_addWedding_46 rfl (lv_at hl 0 rfl) ?_
            refine va_get (D := D) (ci := 3) (v := .ref a_t_man) (C := RX4) (T := TX4) (N := 15) hx hb hts iw_X4 hown hK hP 0 rfl rfl 5 (by decide) (hts _ (wG_in k_fl_X4_24 rfl)) (fun _ h9 => h9) rfl dX4_addWedding_47 ?_
            refine lv_aload_n hx hb dX4_addWedding_50 rfl (lv_at hl 0 rfl) ?_
            refine va_get (D := D) (ci := 3) (v := .int s_t_weddings) (C := RX4) (T := TX4) (N := 15) hx hb hts iw_X4 hown hK hP 0 rfl rfl 8 (by decide) (hts _ (wG_in k_fl_X4_55 rfl)) (fun _ h9 => h9) rfl dX4_addWedding_51 ?_
            refine lv_iload_n hx hb dX4_addWedding_54 rfl (lv_at hl 1 rfl) ?_
            obtain ⟨q9, hq9, iq9, hf⟩ := jS_some hf
            refine ja_iast (P := r_t_man) (P' := q9) hx hb hK hP hD hS 1 0 rfl rfl hq9 iq9 dX4_addWedding_55 (fun H locs hP hD hS => ?_)
            have hP : va_P D vwCl (w_X4_addWedding cI cB cZ a_t a_t_man a_t_sex a_t_weddingDay a_t_woman u_t_mother u_t_father u_t_parentsDay u_t_teller u_t_tellingKind u_t_tellingDay u_t_tellings u_t_seenTo s_t_count s_t_today s_t_weddings q9 r_t_sex r_t_weddingDay r_t_woman) H := hP
            have hD : va_D A (w_X4_addWedding cI cB cZ a_t a_t_man a_t_sex a_t_weddingDay a_t_woman u_t_mother u_t_father u_t_parentsDay u_t_teller u_t_tellingKind u_t_tellingDay u_t_tellings u_t_seenTo s_t_count s_t_today s_t_weddings q9 r_t_sex r_t_weddingDay r_t_woman) := hD
            refine lv_aload_n hx hb dX4_addWedding_56 rfl (lv_at hl 0 rfl) ?_
            refine va_get (D := D) (ci := 3) (v := .ref a_t_woman) (C := RX4) (T := TX4) (N := 15) hx hb hts iw_X4 hown hK hP 0 rfl rfl 6 (by decide) (hts _ (wG_in k_fl_X4_27 rfl)) (fun _ h9 => h9) rfl dX4_addWedding_57 ?_
            refine lv_aload_n hx hb dX4_addWedding_60 rfl (lv_at hl 0 rfl) ?_
            refine va_get (D := D) (ci := 3) (v := .int s_t_weddings) (C := RX4) (T := TX4) (N := 15) hx hb hts iw_X4 hown hK hP 0 rfl rfl 8 (by decide) (hts _ (wG_in k_fl_X4_55 rfl)) (fun _ h9 => h9) rfl dX4_addWedding_61 ?_
            refine lv_iload_n hx hb dX4_addWedding_64 rfl (lv_at hl 2 rfl) ?_
            obtain ⟨q10, hq10, iq10, hf⟩ := jS_some hf
            refine ja_iast (P := r_t_woman) (P' := q10) hx hb hK hP hD hS 4 0 rfl rfl hq10 iq10 dX4_addWedding_65 (fun H locs hP hD hS => ?_)
            have hP : va_P D vwCl (w_X4_addWedding cI cB cZ a_t a_t_man a_t_sex a_t_weddingDay a_t_woman u_t_mother u_t_father u_t_parentsDay u_t_teller u_t_tellingKind u_t_tellingDay u_t_tellings u_t_seenTo s_t_count s_t_today s_t_weddings q9 r_t_sex r_t_weddingDay q10) H := hP
            have hD : va_D A (w_X4_addWedding cI cB cZ a_t a_t_man a_t_sex a_t_weddingDay a_t_woman u_t_mother u_t_father u_t_parentsDay u_t_teller u_t_tellingKind u_t_tellingDay u_t_tellings u_t_seenTo s_t_count s_t_today s_t_weddings q9 r_t_sex r_t_weddingDay q10) := hD
            refine lv_aload_n hx hb dX4_addWedding_66 rfl (lv_at hl 0 rfl) ?_
            refine va_get (D := D) (ci := 3) (v := .ref a_t_weddingDay) (C := RX4) (T := TX4) (N := 15) hx hb hts iw_X4 hown hK hP 0 rfl rfl 7 (by decide) (hts _ (wG_in k_fl_X4_30 rfl)) (fun _ h9 => h9) rfl dX4_addWedding_67 ?_
            refine lv_aload_n hx hb dX4_addWedding_70 rfl (lv_at hl 0 rfl) ?_
            refine va_get (D := D) (ci := 3) (v := .int s_t_weddings) (C := RX4) (T := TX4) (N := 15) hx hb hts iw_X4 hown hK hP 0 rfl rfl 8 (by decide) (hts _ (wG_in k_fl_X4_55 rfl)) (fun _ h9 => h9) rfl dX4_addWedding_71 ?_
            refine lv_aload_n hx hb dX4_addWedding_74 rfl (lv_at hl 0 rfl) ?_
            refine va_get (D := D) (ci := 3) (v := .int s_t_today) (C := RX4) (T := TX4) (N := 15) hx hb hts iw_X4 hown hK hP 0 rfl rfl 13 (by decide) (hts _ (wG_in k_fl_X4_61 rfl)) (fun _ h9 => h9) rfl dX4_addWedding_75 ?_
            obtain ⟨q11, hq11, iq11, hf⟩ := jS_some hf
            refine ja_iast (P := r_t_weddingDay) (P' := q11) hx hb hK hP hD hS 3 0 rfl rfl hq11 iq11 dX4_addWedding_78 (fun H locs hP hD hS => ?_)
            have hP : va_P D vwCl (w_X4_addWedding cI cB cZ a_t a_t_man a_t_sex a_t_weddingDay a_t_woman u_t_mother u_t_father u_t_parentsDay u_t_teller u_t_tellingKind u_t_tellingDay u_t_tellings u_t_seenTo s_t_count s_t_today s_t_weddings q9 r_t_sex q11 q10) H := hP
            have hD : va_D A (w_X4_addWedding cI cB cZ a_t a_t_man a_t_sex a_t_weddingDay a_t_woman u_t_mother u_t_father u_t_parentsDay u_t_teller u_t_tellingKind u_t_tellingDay u_t_tellings u_t_seenTo s_t_count s_t_today s_t_weddings q9 r_t_sex q11 q10) := hD
            refine lv_aload_n hx hb dX4_addWedding_79 rfl (lv_at hl 0 rfl) ?_
            refine lv_dup hx hb dX4_addWedding_80 rfl ?_
            refine va_get (D := D) (ci := 3) (v := .int s_t_weddings) (C := RX4) (T := TX4) (N := 15) hx hb hts iw_X4 hown hK hP 0 rfl rfl 8 (by decide) (hts _ (wG_in k_fl_X4_55 rfl)) (fun _ h9 => h9) rfl dX4_addWedding_81 ?_
            refine lv_iconst (v := (1 : Int32)) hx hb dX4_addWedding_84 (by decide) ?_
            refine lv_iadd hx hb dX4_addWedding_85 ?_
            obtain ⟨v12, hv12, hf⟩ := jV_some hf
            refine jtop hv12 ?_
            refine va_put (D := D) (ci := 3) (v := .int v12) (ty := .int) (C := RX4) (T := TX4) (N := 15) hx hb hts iw_X4 tyX4 tyX4_ok nmX4 hown hK hP hD hS 0 rfl rfl 8 (by decide) (hts _ (wG_in k_fl_X4_55 rfl)) (fun _ h9 => h9) rfl (tyX4_ok 8 (by decide)) rfl rfl (Nat.le_of_ble_eq_true rfl) dX4_addWedding_86 (fun H locs hP hD hS => ?_)
            have hP : va_P D vwCl (w_X4_addWedding cI cB cZ a_t a_t_man a_t_sex a_t_weddingDay a_t_woman u_t_mother u_t_father u_t_parentsDay u_t_teller u_t_tellingKind u_t_tellingDay u_t_tellings u_t_seenTo s_t_count s_t_today v12 q9 r_t_sex q11 q10) H := hP
            have hD : va_D A (w_X4_addWedding cI cB cZ a_t a_t_man a_t_sex a_t_weddingDay a_t_woman u_t_mother u_t_father u_t_parentsDay u_t_teller u_t_tellingKind u_t_tellingDay u_t_tellings u_t_seenTo s_t_count s_t_today v12 q9 r_t_sex q11 q10) := hD
            refine lv_aload_n hx hb dX4_addWedding_89 rfl (lv_at hl 0 rfl) ?_
            refine va_get (D := D) (ci := 3) (v := .int v12) (C := RX4) (T := TX4) (N := 15) hx hb hts iw_X4 hown hK hP 0 rfl rfl 8 (by decide) (hts _ (wG_in k_fl_X4_55 rfl)) (fun _ h9 => h9) rfl dX4_addWedding_90 ?_
            have ho := Option.some.inj hf
            subst ho
            exact K _ _ _ _ hP hS dX4_addWedding_93
          · replace hf := jif_f c8 hf
            refine lv_iconst (v := (-1 : Int32)) hx hb dX4_addWedding_44 (by decide) ?_
            have ho := Option.some.inj hf
            subst ho
            exact K _ _ _ _ hP hS dX4_addWedding_45
    · replace hf := jif_f c2 hf
      refine lv_iconst (v := (-1 : Int32)) hx hb dX4_addWedding_16 (by decide) ?_
      have ho := Option.some.inj hf
      subst ho
      exact K _ _ _ _ hP hS dX4_addWedding_17
set_option maxHeartbeats 4000000 in
set_option maxRecDepth 100000 in
theorem c_X4_addWedding (l : Launch) (G : jGt) (D : va_G) (cI cB cZ : ClassId) (a_t a_t_man a_t_sex a_t_weddingDay a_t_woman : Nat) (u_t_mother u_t_father u_t_parentsDay u_t_teller u_t_tellingKind u_t_tellingDay : Value) (u_t_tellings u_t_seenTo s_t_count s_t_today : Int32) (r_t_sex : jA) (s_t_weddings : Int32) (r_t_man r_t_weddingDay r_t_woman : jA) (x1 x2 : Int32) {o : Int32 × Int32 × jA × jA × jA} (hf : f_X4_addWedding s_t_count s_t_today r_t_sex s_t_weddings r_t_man r_t_weddingDay r_t_woman x1 x2 = some o) : jMi l yX4_addWedding gX4_addWedding rX4_addWedding G D (jT cI cB cZ) [.ref a_t, .int x1, .int x2] (w_X4_addWedding cI cB cZ a_t a_t_man a_t_sex a_t_weddingDay a_t_woman u_t_mother u_t_father u_t_parentsDay u_t_teller u_t_tellingKind u_t_tellingDay u_t_tellings u_t_seenTo s_t_count s_t_today s_t_weddings r_t_man r_t_sex r_t_weddingDay r_t_woman) (w_X4_addWedding cI cB cZ a_t a_t_man a_t_sex a_t_weddingDay a_t_woman u_t_mother u_t_father u_t_parentsDay u_t_teller u_t_tellingKind u_t_tellingDay u_t_tellings u_t_seenTo s_t_count s_t_today o.2.1 o.2.2.1 r_t_sex o.2.2.2.1 o.2.2.2.2) o.1 := by
  refine jmk_i RX4 rfl (by decide +kernel) rfl (Nat.le_of_ble_eq_true rfl) rfl ?_
  intro p e s m args below meth c ls A Q C hP hD hS hl K
  exact t_X4_addWedding G D cI cB cZ a_t a_t_man a_t_sex a_t_weddingDay a_t_woman u_t_mother u_t_father u_t_parentsDay u_t_teller u_t_tellingKind u_t_tellingDay u_t_tellings u_t_seenTo s_t_count s_t_today r_t_sex s_t_weddings r_t_man r_t_weddingDay r_t_woman x1 x2 C hf K hP hD hS hl
abbrev rX4_addTelling : Room := { frames := 1, cells := 0, slots := 0, locals := 21 }
abbrev gX4_addTelling : List Cond := wG yX4_addTelling cX4_addTelling 3 (some .int)
def w_X4_addTelling (cI cB cZ : ClassId) (a_t a_t_teller a_t_tellingDay a_t_tellingKind : Nat) (u_t_sex u_t_mother u_t_father u_t_parentsDay u_t_man u_t_woman u_t_weddingDay : Value) (u_t_weddings u_t_seenTo s_t_count s_t_tellings s_t_today : Int32) (r_t_teller r_t_tellingDay r_t_tellingKind : jA) : va_W := [(a_t, .inr (3, (oX4 u_t_sex u_t_mother u_t_father u_t_parentsDay s_t_count u_t_man u_t_woman u_t_weddingDay u_t_weddings (.ref a_t_teller) (.ref a_t_tellingKind) (.ref a_t_tellingDay) s_t_tellings s_t_today u_t_seenTo))), (a_t_teller, .inl (cI, r_t_teller.1, .inl r_t_teller.2)), (a_t_tellingDay, .inl (cI, r_t_tellingDay.1, .inl r_t_tellingDay.2)), (a_t_tellingKind, .inl (cI, r_t_tellingKind.1, .inl r_t_tellingKind.2))]
def f_X4_addTelling (s_t_count s_t_today s_t_tellings : Int32) (r_t_teller r_t_tellingDay r_t_tellingKind : jA) (x1 x2 : Int32) : Option (Int32 × Int32 × jA × jA × jA) :=
  if s_t_tellings < 0 then
  some ((-1 : Int32), s_t_tellings, r_t_teller, r_t_tellingDay, r_t_tellingKind)
  else
  if s_t_tellings < (60 : Int32) then
  jM (f_X4_has s_t_count x1) fun r3 =>
  if r3 = 0 then
  some ((-1 : Int32), s_t_tellings, r_t_teller, r_t_tellingDay, r_t_tellingKind)
  else
  if x2 < 0 then
  some ((-1 : Int32), s_t_tellings, r_t_teller, r_t_tellingDay, r_t_tellingKind)
  else
  if x2 < (8 : Int32) then
  jS r_t_teller s_t_tellings x1 fun q7 =>
  jS r_t_tellingKind s_t_tellings x2 fun q8 =>
  jS r_t_tellingDay s_t_tellings s_t_today fun q9 =>
  jV (s_t_tellings + (1 : Int32)) fun v10 =>
  some ((v10 - (1 : Int32)), v10, q7, q9, q8)
  else
  some ((-1 : Int32), s_t_tellings, r_t_teller, r_t_tellingDay, r_t_tellingKind)
  else
  some ((-1 : Int32), s_t_tellings, r_t_teller, r_t_tellingDay, r_t_tellingKind)
set_option maxHeartbeats 4000000 in
set_option maxRecDepth 100000 in
theorem t_X4_addTelling {p : Program} {l : Launch} {e : Env} {s : State} {m : MethodId} {args : Array Value} {below : List Frame} {meth : Method} {c : Code} {A : Nat → Prop} {Q : State → Prop} (G : jGt) (D : va_G) (cI cB cZ : ClassId) (a_t a_t_teller a_t_tellingDay a_t_tellingKind : Nat) (u_t_sex u_t_mother u_t_father u_t_parentsDay u_t_man u_t_woman u_t_weddingDay : Value) (u_t_weddings u_t_seenTo s_t_count s_t_today : Int32) (s_t_tellings : Int32) (r_t_teller r_t_tellingDay r_t_tellingKind : jA) (x1 x2 : Int32) (C : jCx p s m args c cX4_addTelling 3 gX4_addTelling RX4 G D (jT cI cB cZ) A) {o : Int32 × Int32 × jA × jA × jA} (hf : f_X4_addTelling s_t_count s_t_today s_t_tellings r_t_teller r_t_tellingDay r_t_tellingKind x1 x2 = some o) (K : ∀ (H : Heap) (locs : List Loc) (pc : Nat) (ls : Array Slot), va_P D vwCl (w_X4_addTelling cI cB cZ a_t a_t_teller a_t_tellingDay a_t_tellingKind u_t_sex u_t_mother u_t_father u_t_parentsDay u_t_man u_t_woman u_t_weddingDay u_t_weddings u_t_seenTo s_t_count o.2.1 s_t_today o.2.2.1 o.2.2.2.1 o.2.2.2.2) H → va_S A s.heap H locs → decode cX4_addTelling pc = .ok (.ireturn, 1) → W p l e rX4_addTelling s m args below meth c H locs 0 0 Q (F0 m pc ls [.int o.1])) {H : Heap} {locs : List Loc} {ls : Array Slot} (hP : va_P D vwCl (w_X4_addTelling cI cB cZ a_t a_t_teller a_t_tellingDay a_t_tellingKind u_t_sex u_t_mother u_t_father u_t_parentsDay u_t_man u_t_woman u_t_weddingDay u_t_weddings u_t_seenTo s_t_count s_t_tellings s_t_today r_t_teller r_t_tellingDay r_t_tellingKind) H) (hD : va_D A (w_X4_addTelling cI cB cZ a_t a_t_teller a_t_tellingDay a_t_tellingKind u_t_sex u_t_mother u_t_father u_t_parentsDay u_t_man u_t_woman u_t_weddingDay u_t_weddings u_t_seenTo s_t_count s_t_tellings s_t_today r_t_teller r_t_tellingDay r_t_tellingKind)) (hS : va_S A s.heap H locs) (hl : lv_has ls 3 [(0, .ref a_t), (1, .int x1), (2, .int x2)]) : W p l e rX4_addTelling s m args below meth c H locs 0 0 Q (F0 m 0 ls []) := by
  obtain ⟨⟨hx, hb, hml, hown, hts⟩, hK, hN, hA⟩ := C
  have C : jCx p s m args c cX4_addTelling 3 gX4_addTelling RX4 G D (jT cI cB cZ) A := ⟨⟨hx, hb, hml, hown, hts⟩, hK, hN, hA⟩
  unfold f_X4_addTelling at hf
  refine lv_aload_n hx hb dX4_addTelling_0 rfl (lv_at hl 0 rfl) ?_
  refine va_get (D := D) (ci := 3) (v := .int s_t_tellings) (C := RX4) (T := TX4) (N := 15) hx hb hts iw_X4 hown hK hP 0 rfl rfl 12 (by decide) (hts _ (wG_in k_fl_X4_58 rfl)) (fun _ h9 => h9) rfl dX4_addTelling_1 ?_
  refine lv_if_lt (tgt := 16) hx hb dX4_addTelling_4 (by decide) (fun c1 => ?_) (fun c1 => ?_)
  · replace hf := jif_t c1 hf
    refine lv_iconst (v := (-1 : Int32)) hx hb dX4_addTelling_16 (by decide) ?_
    have ho := Option.some.inj hf
    subst ho
    exact K _ _ _ _ hP hS dX4_addTelling_17
  · replace hf := jif_f c1 hf
    refine lv_aload_n hx hb dX4_addTelling_7 rfl (lv_at hl 0 rfl) ?_
    refine va_get (D := D) (ci := 3) (v := .int s_t_tellings) (C := RX4) (T := TX4) (N := 15) hx hb hts iw_X4 hown hK hP 0 rfl rfl 12 (by decide) (hts _ (wG_in k_fl_X4_58 rfl)) (fun _ h9 => h9) rfl dX4_addTelling_8 ?_
    refine lv_bipush (v := (60 : Int32)) hx hb dX4_addTelling_11 (by decide) ?_
    refine lv_icmp_lt (tgt := 18) hx hb dX4_addTelling_13 (by decide) (fun c2 => ?_) (fun c2 => ?_)
    · replace hf := jif_t c2 hf
      refine lv_aload_n hx hb dX4_addTelling_18 rfl (lv_at hl 0 rfl) ?_
      refine lv_iload_n hx hb dX4_addTelling_19 rfl (lv_at hl 1 rfl) ?_
      obtain ⟨r3, hgr3, hf⟩ := jM_some hf
      refine jcV_i0 (As := [.int x1]) (rest := []) ⟨hx, hb, hml, hown, hts⟩ hK hN hA (c_X4_has l G D cI cB cZ a_t u_t_sex u_t_mother u_t_father u_t_parentsDay u_t_man u_t_woman u_t_weddingDay u_t_weddings (.ref a_t_teller) (.ref a_t_tellingKind) (.ref a_t_tellingDay) s_t_tellings s_t_today u_t_seenTo s_t_count x1 hgr3) (cwV 1 hts (wG_V k_ml_X4_64 k_im_X4_has k_se_X4_has k_in_X4 k_co_X4_has) rfl rfl rfl hd_X4_has ⟨Nat.le_of_ble_eq_true rfl, Nat.le_of_ble_eq_true rfl⟩) hP hD hS [0] rfl rfl rfl (ci := 3) rfl 0 rfl rfl rfl hl.1 rfl (Nat.le_of_ble_eq_true rfl) dX4_addTelling_20 ⟨Nat.le_of_ble_eq_true rfl, Nat.le_of_ble_eq_true rfl⟩ (fun H locs hP hD hS => ?_)
      refine lv_if_eq (tgt := 36) hx hb dX4_addTelling_23 (by decide) (fun c4 => ?_) (fun c4 => ?_)
      · replace hf := jif_t c4 hf
        refine lv_iconst (v := (-1 : Int32)) hx hb dX4_addTelling_36 (by decide) ?_
        have ho := Option.some.inj hf
        subst ho
        exact K _ _ _ _ hP hS dX4_addTelling_37
      · replace hf := jif_f c4 hf
        refine lv_iload_n hx hb dX4_addTelling_26 rfl (lv_at hl 2 rfl) ?_
        refine lv_if_lt (tgt := 36) hx hb dX4_addTelling_27 (by decide) (fun c5 => ?_) (fun c5 => ?_)
        · replace hf := jif_t c5 hf
          refine lv_iconst (v := (-1 : Int32)) hx hb dX4_addTelling_36 (by decide) ?_
          have ho := Option.some.inj hf
          subst ho
          exact K _ _ _ _ hP hS dX4_addTelling_37
        · replace hf := jif_f c5 hf
          refine lv_iload_n hx hb dX4_addTelling_30 rfl (lv_at hl 2 rfl) ?_
          refine lv_bipush (v := (8 : Int32)) hx hb dX4_addTelling_31 (by decide) ?_
          refine lv_icmp_lt (tgt := 38) hx hb dX4_addTelling_33 (by decide) (fun c6 => ?_) (fun c6 => ?_)
          · replace hf := jif_t c6 hf
            refine lv_aload_n hx hb dX4_addTelling_38 rfl (lv_at hl 0 rfl) ?_
            refine va_get (D := D) (ci := 3) (v := .ref a_t_teller) (C := RX4) (T := TX4) (N := 15) hx hb hts iw_X4 hown hK hP 0 rfl rfl 9 (by decide) (hts _ (wG_in k_fl_X4_33 rfl)) (fun _ h9 => h9) rfl dX4_addTelling_39 ?_
            refine lv_aload_n hx hb dX4_addTelling_42 rfl (lv_at hl 0 rfl) ?_
            refine va_get (D := D) (ci := 3) (v := .int s_t_tellings) (C := RX4) (T := TX4) (N := 15) hx hb hts iw_X4 hown hK hP 0 rfl rfl 12 (by decide) (hts _ (wG_in k_fl_X4_58 rfl)) (fun _ h9 => h9) rfl dX4_addTelling_43 ?_
            refine lv_iload_n hx hb dX4_addTelling_46 rfl (lv_at hl 1 rfl) ?_
            obtain ⟨q7, hq7, iq7, hf⟩ := jS_some hf
            refine ja_iast (P := r_t_teller) (P' := q7) hx hb hK hP hD hS 1 0 rfl rfl hq7 iq7 dX4_addTelling_47 (fun H locs hP hD hS => ?_)
            have hP : va_P D vwCl (w_X4_addTelling cI cB cZ a_t a_t_teller a_t_tellingDay a_t_tellingKind u_t_sex u_t_mother u_t_father u_t_parentsDay u_t_man u_t_woman u_t_weddingDay u_t_weddings u_t_seenTo s_t_count s_t_tellings s_t_today q7 r_t_tellingDay r_t_tellingKind) H := hP
            have hD : va_D A (w_X4_addTelling cI cB cZ a_t a_t_teller a_t_tellingDay a_t_tellingKind u_t_sex u_t_mother u_t_father u_t_parentsDay u_t_man u_t_woman u_t_weddingDay u_t_weddings u_t_seenTo s_t_count s_t_tellings s_t_today q7 r_t_tellingDay r_t_tellingKind) := hD
            refine lv_aload_n hx hb dX4_addTelling_48 rfl (lv_at hl 0 rfl) ?_
            refine va_get (D := D) (ci := 3) (v := .ref a_t_tellingKind) (C := RX4) (T := TX4) (N := 15) hx hb hts iw_X4 hown hK hP 0 rfl rfl 10 (by decide) (hts _ (wG_in k_fl_X4_36 rfl)) (fun _ h9 => h9) rfl dX4_addTelling_49 ?_
            refine lv_aload_n hx hb dX4_addTelling_52 rfl (lv_at hl 0 rfl) ?_
            refine va_get (D := D) (ci := 3) (v := .int s_t_tellings) (C := RX4) (T := TX4) (N := 15) hx hb hts iw_X4 hown hK hP 0 rfl rfl 12 (by decide) (hts _ (wG_in k_fl_X4_58 rfl)) (fun _ h9 => h9) rfl dX4_addTelling_53 ?_
            refine lv_iload_n hx hb dX4_addTelling_56 rfl (lv_at hl 2 rfl) ?_
            obtain ⟨q8, hq8, iq8, hf⟩ := jS_some hf
            refine ja_iast (P := r_t_tellingKind) (P' := q8) hx hb hK hP hD hS 3 0 rfl rfl hq8 iq8 dX4_addTelling_57 (fun H locs hP hD hS => ?_)
            have hP : va_P D vwCl (w_X4_addTelling cI cB cZ a_t a_t_teller a_t_tellingDay a_t_tellingKind u_t_sex u_t_mother u_t_father u_t_parentsDay u_t_man u_t_woman u_t_weddingDay u_t_weddings u_t_seenTo s_t_count s_t_tellings s_t_today q7 r_t_tellingDay q8) H := hP
            have hD : va_D A (w_X4_addTelling cI cB cZ a_t a_t_teller a_t_tellingDay a_t_tellingKind u_t_sex u_t_mother u_t_father u_t_parentsDay u_t_man u_t_woman u_t_weddingDay u_t_weddings u_t_seenTo s_t_count s_t_tellings s_t_today q7 r_t_tellingDay q8) := hD
            refine lv_aload_n hx hb dX4_addTelling_58 rfl (lv_at hl 0 rfl) ?_
            refine va_get (D := D) (ci := 3) (v := .ref a_t_tellingDay) (C := RX4) (T := TX4) (N := 15) hx hb hts iw_X4 hown hK hP 0 rfl rfl 11 (by decide) (hts _ (wG_in k_fl_X4_39 rfl)) (fun _ h9 => h9) rfl dX4_addTelling_59 ?_
            refine lv_aload_n hx hb dX4_addTelling_62 rfl (lv_at hl 0 rfl) ?_
            refine va_get (D := D) (ci := 3) (v := .int s_t_tellings) (C := RX4) (T := TX4) (N := 15) hx hb hts iw_X4 hown hK hP 0 rfl rfl 12 (by decide) (hts _ (wG_in k_fl_X4_58 rfl)) (fun _ h9 => h9) rfl dX4_addTelling_63 ?_
            refine lv_aload_n hx hb dX4_addTelling_66 rfl (lv_at hl 0 rfl) ?_
            refine va_get (D := D) (ci := 3) (v := .int s_t_today) (C := RX4) (T := TX4) (N := 15) hx hb hts iw_X4 hown hK hP 0 rfl rfl 13 (by decide) (hts _ (wG_in k_fl_X4_61 rfl)) (fun _ h9 => h9) rfl dX4_addTelling_67 ?_
            obtain ⟨q9, hq9, iq9, hf⟩ := jS_some hf
            refine ja_iast (P := r_t_tellingDay) (P' := q9) hx hb hK hP hD hS 2 0 rfl rfl hq9 iq9 dX4_addTelling_70 (fun H locs hP hD hS => ?_)
            have hP : va_P D vwCl (w_X4_addTelling cI cB cZ a_t a_t_teller a_t_tellingDay a_t_tellingKind u_t_sex u_t_mother u_t_father u_t_parentsDay u_t_man u_t_woman u_t_weddingDay u_t_weddings u_t_seenTo s_t_count s_t_tellings s_t_today q7 q9 q8) H := hP
            have hD : va_D A (w_X4_addTelling cI cB cZ a_t a_t_teller a_t_tellingDay a_t_tellingKind u_t_sex u_t_mother u_t_father u_t_parentsDay u_t_man u_t_woman u_t_weddingDay u_t_weddings u_t_seenTo s_t_count s_t_tellings s_t_today q7 q9 q8) := hD
            refine lv_aload_n hx hb dX4_addTelling_71 rfl (lv_at hl 0 rfl) ?_
            refine lv_dup hx hb dX4_addTelling_72 rfl ?_
            refine va_get (D := D) (ci := 3) (v := .int s_t_tellings) (C := RX4) (T := TX4) (N := 15) hx hb hts iw_X4 hown hK hP 0 rfl rfl 12 (by decide) (hts _ (wG_in k_fl_X4_58 rfl)) (fun _ h9 => h9) rfl dX4_addTelling_73 ?_
            refine lv_iconst (v := (1 : Int32)) hx hb dX4_addTelling_76 (by decide) ?_
            refine lv_iadd hx hb dX4_addTelling_77 ?_
            obtain ⟨v10, hv10, hf⟩ := jV_some hf
            refine jtop hv10 ?_
            refine va_put (D := D) (ci := 3) (v := .int v10) (ty := .int) (C := RX4) (T := TX4) (N := 15) hx hb hts iw_X4 tyX4 tyX4_ok nmX4 hown hK hP hD hS 0 rfl rfl 12 (by decide) (hts _ (wG_in k_fl_X4_58 rfl)) (fun _ h9 => h9) rfl (tyX4_ok 12 (by decide)) rfl rfl (Nat.le_of_ble_eq_true rfl) dX4_addTelling_78 (fun H locs hP hD hS => ?_)
            have hP : va_P D vwCl (w_X4_addTelling cI cB cZ a_t a_t_teller a_t_tellingDay a_t_tellingKind u_t_sex u_t_mother u_t_father u_t_parentsDay u_t_man u_t_woman u_t_weddingDay u_t_weddings u_t_seenTo s_t_count v10 s_t_today q7 q9 q8) H := hP
            have hD : va_D A (w_X4_addTelling cI cB cZ a_t a_t_teller a_t_tellingDay a_t_tellingKind u_t_sex u_t_mother u_t_father u_t_parentsDay u_t_man u_t_woman u_t_weddingDay u_t_weddings u_t_seenTo s_t_count v10 s_t_today q7 q9 q8) := hD
            refine lv_aload_n hx hb dX4_addTelling_81 rfl (lv_at hl 0 rfl) ?_
            refine va_get (D := D) (ci := 3) (v := .int v10) (C := RX4) (T := TX4) (N := 15) hx hb hts iw_X4 hown hK hP 0 rfl rfl 12 (by decide) (hts _ (wG_in k_fl_X4_58 rfl)) (fun _ h9 => h9) rfl dX4_addTelling_82 ?_
            refine lv_iconst (v := (1 : Int32)) hx hb dX4_addTelling_85 (by decide) ?_
            refine lv_isub hx hb dX4_addTelling_86 ?_
            have ho := Option.some.inj hf
            subst ho
            exact K _ _ _ _ hP hS dX4_addTelling_87
          · replace hf := jif_f c6 hf
            refine lv_iconst (v := (-1 : Int32)) hx hb dX4_addTelling_36 (by decide) ?_
            have ho := Option.some.inj hf
            subst ho
            exact K _ _ _ _ hP hS dX4_addTelling_37
    · replace hf := jif_f c2 hf
      refine lv_iconst (v := (-1 : Int32)) hx hb dX4_addTelling_16 (by decide) ?_
      have ho := Option.some.inj hf
      subst ho
      exact K _ _ _ _ hP hS dX4_addTelling_17
set_option maxHeartbeats 4000000 in
set_option maxRecDepth 100000 in
theorem c_X4_addTelling (l : Launch) (G : jGt) (D : va_G) (cI cB cZ : ClassId) (a_t a_t_teller a_t_tellingDay a_t_tellingKind : Nat) (u_t_sex u_t_mother u_t_father u_t_parentsDay u_t_man u_t_woman u_t_weddingDay : Value) (u_t_weddings u_t_seenTo s_t_count s_t_today : Int32) (s_t_tellings : Int32) (r_t_teller r_t_tellingDay r_t_tellingKind : jA) (x1 x2 : Int32) {o : Int32 × Int32 × jA × jA × jA} (hf : f_X4_addTelling s_t_count s_t_today s_t_tellings r_t_teller r_t_tellingDay r_t_tellingKind x1 x2 = some o) : jMi l yX4_addTelling gX4_addTelling rX4_addTelling G D (jT cI cB cZ) [.ref a_t, .int x1, .int x2] (w_X4_addTelling cI cB cZ a_t a_t_teller a_t_tellingDay a_t_tellingKind u_t_sex u_t_mother u_t_father u_t_parentsDay u_t_man u_t_woman u_t_weddingDay u_t_weddings u_t_seenTo s_t_count s_t_tellings s_t_today r_t_teller r_t_tellingDay r_t_tellingKind) (w_X4_addTelling cI cB cZ a_t a_t_teller a_t_tellingDay a_t_tellingKind u_t_sex u_t_mother u_t_father u_t_parentsDay u_t_man u_t_woman u_t_weddingDay u_t_weddings u_t_seenTo s_t_count o.2.1 s_t_today o.2.2.1 o.2.2.2.1 o.2.2.2.2) o.1 := by
  refine jmk_i RX4 rfl (by decide +kernel) rfl (Nat.le_of_ble_eq_true rfl) rfl ?_
  intro p e s m args below meth c ls A Q C hP hD hS hl K
  exact t_X4_addTelling G D cI cB cZ a_t a_t_teller a_t_tellingDay a_t_tellingKind u_t_sex u_t_mother u_t_father u_t_parentsDay u_t_man u_t_woman u_t_weddingDay u_t_weddings u_t_seenTo s_t_count s_t_today s_t_tellings r_t_teller r_t_tellingDay r_t_tellingKind x1 x2 C hf K hP hD hS hl
abbrev rX4_moveDay : Room := { frames := 0, cells := 0, slots := 0, locals := 0 }
abbrev gX4_moveDay : List Cond := wG yX4_moveDay cX4_moveDay 2 (some .boolean)
def w_X4_moveDay (cI cB cZ : ClassId) (a_t : Nat) (u_t_sex u_t_mother u_t_father u_t_parentsDay : Value) (u_t_count : Int32) (u_t_man u_t_woman u_t_weddingDay : Value) (u_t_weddings : Int32) (u_t_teller u_t_tellingKind u_t_tellingDay : Value) (u_t_tellings u_t_seenTo s_t_today : Int32) : va_W := [(a_t, .inr (3, (oX4 u_t_sex u_t_mother u_t_father u_t_parentsDay u_t_count u_t_man u_t_woman u_t_weddingDay u_t_weddings u_t_teller u_t_tellingKind u_t_tellingDay u_t_tellings s_t_today u_t_seenTo)))]
def f_X4_moveDay (s_t_today x1 : Int32) : Option (Int32 × Int32) :=
  if x1 < s_t_today then
  some ((0 : Int32), s_t_today)
  else
  if x1 ≤ (999 : Int32) then
  some ((1 : Int32), x1)
  else
  some ((0 : Int32), s_t_today)
set_option maxHeartbeats 4000000 in
set_option maxRecDepth 100000 in
theorem t_X4_moveDay {p : Program} {l : Launch} {e : Env} {s : State} {m : MethodId} {args : Array Value} {below : List Frame} {meth : Method} {c : Code} {A : Nat → Prop} {Q : State → Prop} (G : jGt) (D : va_G) (cI cB cZ : ClassId) (a_t : Nat) (u_t_sex u_t_mother u_t_father u_t_parentsDay : Value) (u_t_count : Int32) (u_t_man u_t_woman u_t_weddingDay : Value) (u_t_weddings : Int32) (u_t_teller u_t_tellingKind u_t_tellingDay : Value) (u_t_tellings u_t_seenTo : Int32) (s_t_today x1 : Int32) (C : jCx p s m args c cX4_moveDay 2 gX4_moveDay RX4 G D (jT cI cB cZ) A) {o : Int32 × Int32} (hf : f_X4_moveDay s_t_today x1 = some o) (K : ∀ (H : Heap) (locs : List Loc) (pc : Nat) (ls : Array Slot), (o.1 = 0 ∨ o.1 = 1) → va_P D vwCl (w_X4_moveDay cI cB cZ a_t u_t_sex u_t_mother u_t_father u_t_parentsDay u_t_count u_t_man u_t_woman u_t_weddingDay u_t_weddings u_t_teller u_t_tellingKind u_t_tellingDay u_t_tellings u_t_seenTo o.2) H → va_S A s.heap H locs → decode cX4_moveDay pc = .ok (.ireturn, 1) → W p l e rX4_moveDay s m args below meth c H locs 0 0 Q (F0 m pc ls [.int o.1])) {H : Heap} {locs : List Loc} {ls : Array Slot} (hP : va_P D vwCl (w_X4_moveDay cI cB cZ a_t u_t_sex u_t_mother u_t_father u_t_parentsDay u_t_count u_t_man u_t_woman u_t_weddingDay u_t_weddings u_t_teller u_t_tellingKind u_t_tellingDay u_t_tellings u_t_seenTo s_t_today) H) (hD : va_D A (w_X4_moveDay cI cB cZ a_t u_t_sex u_t_mother u_t_father u_t_parentsDay u_t_count u_t_man u_t_woman u_t_weddingDay u_t_weddings u_t_teller u_t_tellingKind u_t_tellingDay u_t_tellings u_t_seenTo s_t_today)) (hS : va_S A s.heap H locs) (hl : lv_has ls 2 [(0, .ref a_t), (1, .int x1)]) : W p l e rX4_moveDay s m args below meth c H locs 0 0 Q (F0 m 0 ls []) := by
  obtain ⟨⟨hx, hb, hml, hown, hts⟩, hK, hN, hA⟩ := C
  have C : jCx p s m args c cX4_moveDay 2 gX4_moveDay RX4 G D (jT cI cB cZ) A := ⟨⟨hx, hb, hml, hown, hts⟩, hK, hN, hA⟩
  unfold f_X4_moveDay at hf
  refine lv_iload_n hx hb dX4_moveDay_0 rfl (lv_at hl 1 rfl) ?_
  refine lv_aload_n hx hb dX4_moveDay_1 rfl (lv_at hl 0 rfl) ?_
  refine va_get (D := D) (ci := 3) (v := .int s_t_today) (C := RX4) (T := TX4) (N := 15) hx hb hts iw_X4 hown hK hP 0 rfl rfl 13 (by decide) (hts _ (wG_in k_fl_X4_61 rfl)) (fun _ h9 => h9) rfl dX4_moveDay_2 ?_
  refine lv_icmp_lt (tgt := 15) hx hb dX4_moveDay_5 (by decide) (fun c1 => ?_) (fun c1 => ?_)
  · replace hf := jif_t c1 hf
    refine lv_iconst (v := (0 : Int32)) hx hb dX4_moveDay_15 (by decide) ?_
    have ho := Option.some.inj hf
    subst ho
    exact K _ _ _ _ (Or.inl rfl) hP hS dX4_moveDay_16
  · replace hf := jif_f c1 hf
    refine lv_iload_n hx hb dX4_moveDay_8 rfl (lv_at hl 1 rfl) ?_
    refine lv_sipush (v := (999 : Int32)) hx hb dX4_moveDay_9 (by decide) ?_
    refine lv_icmp_le (tgt := 17) hx hb dX4_moveDay_12 (by decide) (fun c2 => ?_) (fun c2 => ?_)
    · replace hf := jif_t c2 hf
      refine lv_aload_n hx hb dX4_moveDay_17 rfl (lv_at hl 0 rfl) ?_
      refine lv_iload_n hx hb dX4_moveDay_18 rfl (lv_at hl 1 rfl) ?_
      refine va_put (D := D) (ci := 3) (v := .int x1) (ty := .int) (C := RX4) (T := TX4) (N := 15) hx hb hts iw_X4 tyX4 tyX4_ok nmX4 hown hK hP hD hS 0 rfl rfl 13 (by decide) (hts _ (wG_in k_fl_X4_61 rfl)) (fun _ h9 => h9) rfl (tyX4_ok 13 (by decide)) rfl rfl (Nat.le_of_ble_eq_true rfl) dX4_moveDay_19 (fun H locs hP hD hS => ?_)
      have hP : va_P D vwCl (w_X4_moveDay cI cB cZ a_t u_t_sex u_t_mother u_t_father u_t_parentsDay u_t_count u_t_man u_t_woman u_t_weddingDay u_t_weddings u_t_teller u_t_tellingKind u_t_tellingDay u_t_tellings u_t_seenTo x1) H := hP
      have hD : va_D A (w_X4_moveDay cI cB cZ a_t u_t_sex u_t_mother u_t_father u_t_parentsDay u_t_count u_t_man u_t_woman u_t_weddingDay u_t_weddings u_t_teller u_t_tellingKind u_t_tellingDay u_t_tellings u_t_seenTo x1) := hD
      refine lv_iconst (v := (1 : Int32)) hx hb dX4_moveDay_22 (by decide) ?_
      have ho := Option.some.inj hf
      subst ho
      exact K _ _ _ _ (Or.inr rfl) hP hS dX4_moveDay_23
    · replace hf := jif_f c2 hf
      refine lv_iconst (v := (0 : Int32)) hx hb dX4_moveDay_15 (by decide) ?_
      have ho := Option.some.inj hf
      subst ho
      exact K _ _ _ _ (Or.inl rfl) hP hS dX4_moveDay_16
set_option maxHeartbeats 4000000 in
set_option maxRecDepth 100000 in
theorem c_X4_moveDay (l : Launch) (G : jGt) (D : va_G) (cI cB cZ : ClassId) (a_t : Nat) (u_t_sex u_t_mother u_t_father u_t_parentsDay : Value) (u_t_count : Int32) (u_t_man u_t_woman u_t_weddingDay : Value) (u_t_weddings : Int32) (u_t_teller u_t_tellingKind u_t_tellingDay : Value) (u_t_tellings u_t_seenTo : Int32) (s_t_today x1 : Int32) {o : Int32 × Int32} (hf : f_X4_moveDay s_t_today x1 = some o) : jMi l yX4_moveDay gX4_moveDay rX4_moveDay G D (jT cI cB cZ) [.ref a_t, .int x1] (w_X4_moveDay cI cB cZ a_t u_t_sex u_t_mother u_t_father u_t_parentsDay u_t_count u_t_man u_t_woman u_t_weddingDay u_t_weddings u_t_teller u_t_tellingKind u_t_tellingDay u_t_tellings u_t_seenTo s_t_today) (w_X4_moveDay cI cB cZ a_t u_t_sex u_t_mother u_t_father u_t_parentsDay u_t_count u_t_man u_t_woman u_t_weddingDay u_t_weddings u_t_teller u_t_tellingKind u_t_tellingDay u_t_tellings u_t_seenTo o.2) o.1 := by
  refine jmk_z RX4 rfl (by decide +kernel) rfl (Nat.le_of_ble_eq_true rfl) rfl ?_
  intro p e s m args below meth c ls A Q C hP hD hS hl K
  exact t_X4_moveDay G D cI cB cZ a_t u_t_sex u_t_mother u_t_father u_t_parentsDay u_t_count u_t_man u_t_woman u_t_weddingDay u_t_weddings u_t_teller u_t_tellingKind u_t_tellingDay u_t_tellings u_t_seenTo s_t_today x1 C hf K hP hD hS hl
abbrev rX4_moveView : Room := { frames := 0, cells := 0, slots := 0, locals := 0 }
abbrev gX4_moveView : List Cond := wG yX4_moveView cX4_moveView 2 (some .boolean)
def w_X4_moveView (cI cB cZ : ClassId) (a_t : Nat) (u_t_sex u_t_mother u_t_father u_t_parentsDay : Value) (u_t_count : Int32) (u_t_man u_t_woman u_t_weddingDay : Value) (u_t_weddings : Int32) (u_t_teller u_t_tellingKind u_t_tellingDay : Value) (u_t_tellings s_t_seenTo s_t_today : Int32) : va_W := [(a_t, .inr (3, (oX4 u_t_sex u_t_mother u_t_father u_t_parentsDay u_t_count u_t_man u_t_woman u_t_weddingDay u_t_weddings u_t_teller u_t_tellingKind u_t_tellingDay u_t_tellings s_t_today s_t_seenTo)))]
def f_X4_moveView (s_t_today s_t_seenTo x1 : Int32) : Option (Int32 × Int32) :=
  if x1 < (-1 : Int32) then
  some ((0 : Int32), s_t_seenTo)
  else
  if x1 ≤ s_t_today then
  some ((1 : Int32), x1)
  else
  some ((0 : Int32), s_t_seenTo)
set_option maxHeartbeats 4000000 in
set_option maxRecDepth 100000 in
theorem t_X4_moveView {p : Program} {l : Launch} {e : Env} {s : State} {m : MethodId} {args : Array Value} {below : List Frame} {meth : Method} {c : Code} {A : Nat → Prop} {Q : State → Prop} (G : jGt) (D : va_G) (cI cB cZ : ClassId) (a_t : Nat) (u_t_sex u_t_mother u_t_father u_t_parentsDay : Value) (u_t_count : Int32) (u_t_man u_t_woman u_t_weddingDay : Value) (u_t_weddings : Int32) (u_t_teller u_t_tellingKind u_t_tellingDay : Value) (u_t_tellings s_t_today : Int32) (s_t_seenTo x1 : Int32) (C : jCx p s m args c cX4_moveView 2 gX4_moveView RX4 G D (jT cI cB cZ) A) {o : Int32 × Int32} (hf : f_X4_moveView s_t_today s_t_seenTo x1 = some o) (K : ∀ (H : Heap) (locs : List Loc) (pc : Nat) (ls : Array Slot), (o.1 = 0 ∨ o.1 = 1) → va_P D vwCl (w_X4_moveView cI cB cZ a_t u_t_sex u_t_mother u_t_father u_t_parentsDay u_t_count u_t_man u_t_woman u_t_weddingDay u_t_weddings u_t_teller u_t_tellingKind u_t_tellingDay u_t_tellings o.2 s_t_today) H → va_S A s.heap H locs → decode cX4_moveView pc = .ok (.ireturn, 1) → W p l e rX4_moveView s m args below meth c H locs 0 0 Q (F0 m pc ls [.int o.1])) {H : Heap} {locs : List Loc} {ls : Array Slot} (hP : va_P D vwCl (w_X4_moveView cI cB cZ a_t u_t_sex u_t_mother u_t_father u_t_parentsDay u_t_count u_t_man u_t_woman u_t_weddingDay u_t_weddings u_t_teller u_t_tellingKind u_t_tellingDay u_t_tellings s_t_seenTo s_t_today) H) (hD : va_D A (w_X4_moveView cI cB cZ a_t u_t_sex u_t_mother u_t_father u_t_parentsDay u_t_count u_t_man u_t_woman u_t_weddingDay u_t_weddings u_t_teller u_t_tellingKind u_t_tellingDay u_t_tellings s_t_seenTo s_t_today)) (hS : va_S A s.heap H locs) (hl : lv_has ls 2 [(0, .ref a_t), (1, .int x1)]) : W p l e rX4_moveView s m args below meth c H locs 0 0 Q (F0 m 0 ls []) := by
  obtain ⟨⟨hx, hb, hml, hown, hts⟩, hK, hN, hA⟩ := C
  have C : jCx p s m args c cX4_moveView 2 gX4_moveView RX4 G D (jT cI cB cZ) A := ⟨⟨hx, hb, hml, hown, hts⟩, hK, hN, hA⟩
  unfold f_X4_moveView at hf
  refine lv_iload_n hx hb dX4_moveView_0 rfl (lv_at hl 1 rfl) ?_
  refine lv_iconst (v := (-1 : Int32)) hx hb dX4_moveView_1 (by decide) ?_
  refine lv_icmp_lt (tgt := 13) hx hb dX4_moveView_2 (by decide) (fun c1 => ?_) (fun c1 => ?_)
  · replace hf := jif_t c1 hf
    refine lv_iconst (v := (0 : Int32)) hx hb dX4_moveView_13 (by decide) ?_
    have ho := Option.some.inj hf
    subst ho
    exact K _ _ _ _ (Or.inl rfl) hP hS dX4_moveView_14
  · replace hf := jif_f c1 hf
    refine lv_iload_n hx hb dX4_moveView_5 rfl (lv_at hl 1 rfl) ?_
    refine lv_aload_n hx hb dX4_moveView_6 rfl (lv_at hl 0 rfl) ?_
    refine va_get (D := D) (ci := 3) (v := .int s_t_today) (C := RX4) (T := TX4) (N := 15) hx hb hts iw_X4 hown hK hP 0 rfl rfl 13 (by decide) (hts _ (wG_in k_fl_X4_61 rfl)) (fun _ h9 => h9) rfl dX4_moveView_7 ?_
    refine lv_icmp_le (tgt := 15) hx hb dX4_moveView_10 (by decide) (fun c2 => ?_) (fun c2 => ?_)
    · replace hf := jif_t c2 hf
      refine lv_aload_n hx hb dX4_moveView_15 rfl (lv_at hl 0 rfl) ?_
      refine lv_iload_n hx hb dX4_moveView_16 rfl (lv_at hl 1 rfl) ?_
      refine va_put (D := D) (ci := 3) (v := .int x1) (ty := .int) (C := RX4) (T := TX4) (N := 15) hx hb hts iw_X4 tyX4 tyX4_ok nmX4 hown hK hP hD hS 0 rfl rfl 14 (by decide) (hts _ (wG_in k_fl_X4_42 rfl)) (fun _ h9 => h9) rfl (tyX4_ok 14 (by decide)) rfl rfl (Nat.le_of_ble_eq_true rfl) dX4_moveView_17 (fun H locs hP hD hS => ?_)
      have hP : va_P D vwCl (w_X4_moveView cI cB cZ a_t u_t_sex u_t_mother u_t_father u_t_parentsDay u_t_count u_t_man u_t_woman u_t_weddingDay u_t_weddings u_t_teller u_t_tellingKind u_t_tellingDay u_t_tellings x1 s_t_today) H := hP
      have hD : va_D A (w_X4_moveView cI cB cZ a_t u_t_sex u_t_mother u_t_father u_t_parentsDay u_t_count u_t_man u_t_woman u_t_weddingDay u_t_weddings u_t_teller u_t_tellingKind u_t_tellingDay u_t_tellings x1 s_t_today) := hD
      refine lv_iconst (v := (1 : Int32)) hx hb dX4_moveView_20 (by decide) ?_
      have ho := Option.some.inj hf
      subst ho
      exact K _ _ _ _ (Or.inr rfl) hP hS dX4_moveView_21
    · replace hf := jif_f c2 hf
      refine lv_iconst (v := (0 : Int32)) hx hb dX4_moveView_13 (by decide) ?_
      have ho := Option.some.inj hf
      subst ho
      exact K _ _ _ _ (Or.inl rfl) hP hS dX4_moveView_14
set_option maxHeartbeats 4000000 in
set_option maxRecDepth 100000 in
theorem c_X4_moveView (l : Launch) (G : jGt) (D : va_G) (cI cB cZ : ClassId) (a_t : Nat) (u_t_sex u_t_mother u_t_father u_t_parentsDay : Value) (u_t_count : Int32) (u_t_man u_t_woman u_t_weddingDay : Value) (u_t_weddings : Int32) (u_t_teller u_t_tellingKind u_t_tellingDay : Value) (u_t_tellings s_t_today : Int32) (s_t_seenTo x1 : Int32) {o : Int32 × Int32} (hf : f_X4_moveView s_t_today s_t_seenTo x1 = some o) : jMi l yX4_moveView gX4_moveView rX4_moveView G D (jT cI cB cZ) [.ref a_t, .int x1] (w_X4_moveView cI cB cZ a_t u_t_sex u_t_mother u_t_father u_t_parentsDay u_t_count u_t_man u_t_woman u_t_weddingDay u_t_weddings u_t_teller u_t_tellingKind u_t_tellingDay u_t_tellings s_t_seenTo s_t_today) (w_X4_moveView cI cB cZ a_t u_t_sex u_t_mother u_t_father u_t_parentsDay u_t_count u_t_man u_t_woman u_t_weddingDay u_t_weddings u_t_teller u_t_tellingKind u_t_tellingDay u_t_tellings o.2 s_t_today) o.1 := by
  refine jmk_z RX4 rfl (by decide +kernel) rfl (Nat.le_of_ble_eq_true rfl) rfl ?_
  intro p e s m args below meth c ls A Q C hP hD hS hl K
  exact t_X4_moveView G D cI cB cZ a_t u_t_sex u_t_mother u_t_father u_t_parentsDay u_t_count u_t_man u_t_woman u_t_weddingDay u_t_weddings u_t_teller u_t_tellingKind u_t_tellingDay u_t_tellings s_t_today s_t_seenTo x1 C hf K hP hD hS hl
abbrev rX4_tellingsSeen : Room := { frames := 2, cells := 0, slots := 0, locals := 42 }
abbrev gX4_tellingsSeen : List Cond := wG yX4_tellingsSeen cX4_tellingsSeen 3 (some .int)
def w_X4_tellingsSeen (cI cB cZ : ClassId) (a_t a_t_tellingDay : Nat) (u_t_sex u_t_mother u_t_father u_t_parentsDay : Value) (u_t_count : Int32) (u_t_man u_t_woman u_t_weddingDay : Value) (u_t_weddings : Int32) (u_t_teller u_t_tellingKind : Value) (u_t_today s_t_seenTo s_t_tellings : Int32) (r_t_tellingDay : jA) : va_W := [(a_t, .inr (3, (oX4 u_t_sex u_t_mother u_t_father u_t_parentsDay u_t_count u_t_man u_t_woman u_t_weddingDay u_t_weddings u_t_teller u_t_tellingKind (.ref a_t_tellingDay) s_t_tellings u_t_today s_t_seenTo))), (a_t_tellingDay, .inl (cI, r_t_tellingDay.1, .inl r_t_tellingDay.2))]
def f_X4_tellingsSeen_j23 (x1 x2 : Int32) : Option ((Int32 × Int32) ⊕ ((Int32))) :=
  some (Sum.inl (x1, (x2 + 1)))
set_option maxHeartbeats 4000000 in
set_option maxRecDepth 100000 in
theorem t_X4_tellingsSeen_j23 {p : Program} {l : Launch} {e : Env} {s : State} {m : MethodId} {args : Array Value} {below : List Frame} {meth : Method} {c : Code} {A : Nat → Prop} {Q : State → Prop} (G : jGt) (D : va_G) (cI cB cZ : ClassId) (a_t a_t_tellingDay : Nat) (u_t_sex u_t_mother u_t_father u_t_parentsDay : Value) (u_t_count : Int32) (u_t_man u_t_woman u_t_weddingDay : Value) (u_t_weddings : Int32) (u_t_teller u_t_tellingKind : Value) (u_t_today s_t_seenTo s_t_tellings : Int32) (r_t_tellingDay : jA) (x1 x2 : Int32) (C : jCx p s m args c cX4_tellingsSeen 3 gX4_tellingsSeen RX4 G D (jT cI cB cZ) A) {o : (Int32 × Int32) ⊕ ((Int32))} (hf : f_X4_tellingsSeen_j23 x1 x2 = some o) (K : (∀ z, o = Sum.inl z → ∀ (H : Heap) (locs : List Loc) (ls : Array Slot), va_P D vwCl (w_X4_tellingsSeen cI cB cZ a_t a_t_tellingDay u_t_sex u_t_mother u_t_father u_t_parentsDay u_t_count u_t_man u_t_woman u_t_weddingDay u_t_weddings u_t_teller u_t_tellingKind u_t_today s_t_seenTo s_t_tellings r_t_tellingDay) H → va_D A (w_X4_tellingsSeen cI cB cZ a_t a_t_tellingDay u_t_sex u_t_mother u_t_father u_t_parentsDay u_t_count u_t_man u_t_woman u_t_weddingDay u_t_weddings u_t_teller u_t_tellingKind u_t_today s_t_seenTo s_t_tellings r_t_tellingDay) → va_S A s.heap H locs → lv_has ls 3 [(0, .ref a_t), (1, .int z.1), (2, .int z.2)] → W p l e rX4_tellingsSeen s m args below meth c H locs 0 0 Q (F0 m 4 ls [])) ∧ (∀ z, o = Sum.inr z → ∀ (H : Heap) (locs : List Loc) (ls : Array Slot), va_P D vwCl (w_X4_tellingsSeen cI cB cZ a_t a_t_tellingDay u_t_sex u_t_mother u_t_father u_t_parentsDay u_t_count u_t_man u_t_woman u_t_weddingDay u_t_weddings u_t_teller u_t_tellingKind u_t_today s_t_seenTo s_t_tellings r_t_tellingDay) H → va_D A (w_X4_tellingsSeen cI cB cZ a_t a_t_tellingDay u_t_sex u_t_mother u_t_father u_t_parentsDay u_t_count u_t_man u_t_woman u_t_weddingDay u_t_weddings u_t_teller u_t_tellingKind u_t_today s_t_seenTo s_t_tellings r_t_tellingDay) → va_S A s.heap H locs → lv_has ls 3 [(1, .int z)] → W p l e rX4_tellingsSeen s m args below meth c H locs 0 0 Q (F0 m 29 ls []))) {H : Heap} {locs : List Loc} {ls : Array Slot} (hP : va_P D vwCl (w_X4_tellingsSeen cI cB cZ a_t a_t_tellingDay u_t_sex u_t_mother u_t_father u_t_parentsDay u_t_count u_t_man u_t_woman u_t_weddingDay u_t_weddings u_t_teller u_t_tellingKind u_t_today s_t_seenTo s_t_tellings r_t_tellingDay) H) (hD : va_D A (w_X4_tellingsSeen cI cB cZ a_t a_t_tellingDay u_t_sex u_t_mother u_t_father u_t_parentsDay u_t_count u_t_man u_t_woman u_t_weddingDay u_t_weddings u_t_teller u_t_tellingKind u_t_today s_t_seenTo s_t_tellings r_t_tellingDay)) (hS : va_S A s.heap H locs) (hl : lv_has ls 3 [(0, .ref a_t), (1, .int x1), (2, .int x2)]) : W p l e rX4_tellingsSeen s m args below meth c H locs 0 0 Q (F0 m 23 ls []) := by
  obtain ⟨⟨hx, hb, hml, hown, hts⟩, hK, hN, hA⟩ := C
  have C : jCx p s m args c cX4_tellingsSeen 3 gX4_tellingsSeen RX4 G D (jT cI cB cZ) A := ⟨⟨hx, hb, hml, hown, hts⟩, hK, hN, hA⟩
  unfold f_X4_tellingsSeen_j23 at hf
  refine lv_iinc (v := (x2 + 1)) (lv' := [(2, .int (x2 + 1)), (0, .ref a_t), (1, .int x1)]) hx hb dX4_tellingsSeen_23 hl (k := 2) rfl (by first | rfl | decide) (by decide) rfl (fun ls hl => ?_)
  refine lv_goto (tgt := 4) hx hb dX4_tellingsSeen_26 (by decide) ?_
  have ho := Option.some.inj hf
  exact K.1 _ ho.symm _ _ _ hP hD hS (lv_sub hl [1, 2, 0] rfl)
def f_X4_tellingsSeen_b4 (s_t_seenTo s_t_tellings : Int32) (r_t_tellingDay : jA) (x1 x2 : Int32) : Option ((Int32 × Int32) ⊕ ((Int32))) :=
  if s_t_tellings ≤ x2 then
  some (Sum.inr x1)
  else
  jM (f_X4_tellingSeen s_t_seenTo s_t_tellings r_t_tellingDay x2) fun r2 =>
  if r2 = 0 then
  f_X4_tellingsSeen_j23 x1 x2
  else
  f_X4_tellingsSeen_j23 (x1 + 1) x2
set_option maxHeartbeats 4000000 in
set_option maxRecDepth 100000 in
theorem t_X4_tellingsSeen_b4 {p : Program} {l : Launch} {e : Env} {s : State} {m : MethodId} {args : Array Value} {below : List Frame} {meth : Method} {c : Code} {A : Nat → Prop} {Q : State → Prop} (G : jGt) (D : va_G) (cI cB cZ : ClassId) (a_t a_t_tellingDay : Nat) (u_t_sex u_t_mother u_t_father u_t_parentsDay : Value) (u_t_count : Int32) (u_t_man u_t_woman u_t_weddingDay : Value) (u_t_weddings : Int32) (u_t_teller u_t_tellingKind : Value) (u_t_today s_t_seenTo s_t_tellings : Int32) (r_t_tellingDay : jA) (x1 x2 : Int32) (C : jCx p s m args c cX4_tellingsSeen 3 gX4_tellingsSeen RX4 G D (jT cI cB cZ) A) {o : (Int32 × Int32) ⊕ ((Int32))} (hf : f_X4_tellingsSeen_b4 s_t_seenTo s_t_tellings r_t_tellingDay x1 x2 = some o) (K : (∀ z, o = Sum.inl z → ∀ (H : Heap) (locs : List Loc) (ls : Array Slot), va_P D vwCl (w_X4_tellingsSeen cI cB cZ a_t a_t_tellingDay u_t_sex u_t_mother u_t_father u_t_parentsDay u_t_count u_t_man u_t_woman u_t_weddingDay u_t_weddings u_t_teller u_t_tellingKind u_t_today s_t_seenTo s_t_tellings r_t_tellingDay) H → va_D A (w_X4_tellingsSeen cI cB cZ a_t a_t_tellingDay u_t_sex u_t_mother u_t_father u_t_parentsDay u_t_count u_t_man u_t_woman u_t_weddingDay u_t_weddings u_t_teller u_t_tellingKind u_t_today s_t_seenTo s_t_tellings r_t_tellingDay) → va_S A s.heap H locs → lv_has ls 3 [(0, .ref a_t), (1, .int z.1), (2, .int z.2)] → W p l e rX4_tellingsSeen s m args below meth c H locs 0 0 Q (F0 m 4 ls [])) ∧ (∀ z, o = Sum.inr z → ∀ (H : Heap) (locs : List Loc) (ls : Array Slot), va_P D vwCl (w_X4_tellingsSeen cI cB cZ a_t a_t_tellingDay u_t_sex u_t_mother u_t_father u_t_parentsDay u_t_count u_t_man u_t_woman u_t_weddingDay u_t_weddings u_t_teller u_t_tellingKind u_t_today s_t_seenTo s_t_tellings r_t_tellingDay) H → va_D A (w_X4_tellingsSeen cI cB cZ a_t a_t_tellingDay u_t_sex u_t_mother u_t_father u_t_parentsDay u_t_count u_t_man u_t_woman u_t_weddingDay u_t_weddings u_t_teller u_t_tellingKind u_t_today s_t_seenTo s_t_tellings r_t_tellingDay) → va_S A s.heap H locs → lv_has ls 3 [(1, .int z)] → W p l e rX4_tellingsSeen s m args below meth c H locs 0 0 Q (F0 m 29 ls []))) {H : Heap} {locs : List Loc} {ls : Array Slot} (hP : va_P D vwCl (w_X4_tellingsSeen cI cB cZ a_t a_t_tellingDay u_t_sex u_t_mother u_t_father u_t_parentsDay u_t_count u_t_man u_t_woman u_t_weddingDay u_t_weddings u_t_teller u_t_tellingKind u_t_today s_t_seenTo s_t_tellings r_t_tellingDay) H) (hD : va_D A (w_X4_tellingsSeen cI cB cZ a_t a_t_tellingDay u_t_sex u_t_mother u_t_father u_t_parentsDay u_t_count u_t_man u_t_woman u_t_weddingDay u_t_weddings u_t_teller u_t_tellingKind u_t_today s_t_seenTo s_t_tellings r_t_tellingDay)) (hS : va_S A s.heap H locs) (hl : lv_has ls 3 [(0, .ref a_t), (1, .int x1), (2, .int x2)]) : W p l e rX4_tellingsSeen s m args below meth c H locs 0 0 Q (F0 m 4 ls []) := by
  obtain ⟨⟨hx, hb, hml, hown, hts⟩, hK, hN, hA⟩ := C
  have C : jCx p s m args c cX4_tellingsSeen 3 gX4_tellingsSeen RX4 G D (jT cI cB cZ) A := ⟨⟨hx, hb, hml, hown, hts⟩, hK, hN, hA⟩
  unfold f_X4_tellingsSeen_b4 at hf
  refine lv_iload_n hx hb dX4_tellingsSeen_4 rfl (lv_at hl 2 rfl) ?_
  refine lv_aload_n hx hb dX4_tellingsSeen_5 rfl (lv_at hl 0 rfl) ?_
  refine va_get (D := D) (ci := 3) (v := .int s_t_tellings) (C := RX4) (T := TX4) (N := 15) hx hb hts iw_X4 hown hK hP 0 rfl rfl 12 (by decide) (hts _ (wG_in k_fl_X4_58 rfl)) (fun _ h9 => h9) rfl dX4_tellingsSeen_6 ?_
  refine lv_icmp_ge (tgt := 29) hx hb dX4_tellingsSeen_9 (by decide) (fun c1 => ?_) (fun c1 => ?_)
  · replace hf := jif_t c1 hf
    have ho := Option.some.inj hf
    exact (K.2 _ ho.symm) _ _ _ hP hD hS (lv_sub hl [1] rfl)
  · replace hf := jif_f c1 hf
    refine lv_aload_n hx hb dX4_tellingsSeen_12 rfl (lv_at hl 0 rfl) ?_
    refine lv_iload_n hx hb dX4_tellingsSeen_13 rfl (lv_at hl 2 rfl) ?_
    obtain ⟨r2, hgr2, hf⟩ := jM_some hf
    refine jcV_i0 (As := [.int x2]) (rest := []) ⟨hx, hb, hml, hown, hts⟩ hK hN hA (c_X4_tellingSeen l G D cI cB cZ a_t a_t_tellingDay u_t_sex u_t_mother u_t_father u_t_parentsDay u_t_count u_t_man u_t_woman u_t_weddingDay u_t_weddings u_t_teller u_t_tellingKind u_t_today s_t_seenTo s_t_tellings r_t_tellingDay x2 hgr2) (cwV 1 hts (wG_V k_ml_X4_87 k_im_X4_tellingSeen k_se_X4_tellingSeen k_in_X4 k_co_X4_tellingSeen) rfl rfl rfl hd_X4_tellingSeen ⟨Nat.le_of_ble_eq_true rfl, Nat.le_of_ble_eq_true rfl⟩) hP hD hS [0, 1] rfl rfl rfl (ci := 3) rfl 0 rfl rfl rfl hl.1 rfl (Nat.le_of_ble_eq_true rfl) dX4_tellingsSeen_14 ⟨Nat.le_of_ble_eq_true rfl, Nat.le_of_ble_eq_true rfl⟩ (fun H locs hP hD hS => ?_)
    refine lv_if_eq (tgt := 23) hx hb dX4_tellingsSeen_17 (by decide) (fun c3 => ?_) (fun c3 => ?_)
    · replace hf := jif_t c3 hf
      exact t_X4_tellingsSeen_j23 G D cI cB cZ a_t a_t_tellingDay u_t_sex u_t_mother u_t_father u_t_parentsDay u_t_count u_t_man u_t_woman u_t_weddingDay u_t_weddings u_t_teller u_t_tellingKind u_t_today s_t_seenTo s_t_tellings r_t_tellingDay x1 x2 C hf K hP hD hS (lv_sub hl [0, 1, 2] rfl)
    · replace hf := jif_f c3 hf
      refine lv_iinc (v := (x1 + 1)) (lv' := [(1, .int (x1 + 1)), (0, .ref a_t), (2, .int x2)]) hx hb dX4_tellingsSeen_20 hl (k := 1) rfl (by first | rfl | decide) (by decide) rfl (fun ls hl => ?_)
      exact t_X4_tellingsSeen_j23 G D cI cB cZ a_t a_t_tellingDay u_t_sex u_t_mother u_t_father u_t_parentsDay u_t_count u_t_man u_t_woman u_t_weddingDay u_t_weddings u_t_teller u_t_tellingKind u_t_today s_t_seenTo s_t_tellings r_t_tellingDay (x1 + 1) x2 C hf K hP hD hS (lv_sub hl [1, 0, 2] rfl)
def f_X4_tellingsSeen_l4 (s_t_seenTo s_t_tellings : Int32) (r_t_tellingDay : jA) (x1 x2 : Int32) : Option ((Int32)) :=
  jI (fun z => f_X4_tellingsSeen_b4 s_t_seenTo s_t_tellings r_t_tellingDay z.1 z.2) jF (x1, x2)
set_option maxHeartbeats 4000000 in
set_option maxRecDepth 100000 in
theorem t_X4_tellingsSeen_l4 {p : Program} {l : Launch} {e : Env} {s : State} {m : MethodId} {args : Array Value} {below : List Frame} {meth : Method} {c : Code} {A : Nat → Prop} {Q : State → Prop} (G : jGt) (D : va_G) (cI cB cZ : ClassId) (a_t a_t_tellingDay : Nat) (u_t_sex u_t_mother u_t_father u_t_parentsDay : Value) (u_t_count : Int32) (u_t_man u_t_woman u_t_weddingDay : Value) (u_t_weddings : Int32) (u_t_teller u_t_tellingKind : Value) (u_t_today s_t_seenTo s_t_tellings : Int32) (r_t_tellingDay : jA)  (C : jCx p s m args c cX4_tellingsSeen 3 gX4_tellingsSeen RX4 G D (jT cI cB cZ) A) : ∀ (n : Nat) (x1 x2 : Int32) {eo : (Int32)}, jI (fun z => f_X4_tellingsSeen_b4 s_t_seenTo s_t_tellings r_t_tellingDay z.1 z.2) n (x1, x2) = some eo → (∀ (H : Heap) (locs : List Loc) (ls : Array Slot), va_P D vwCl (w_X4_tellingsSeen cI cB cZ a_t a_t_tellingDay u_t_sex u_t_mother u_t_father u_t_parentsDay u_t_count u_t_man u_t_woman u_t_weddingDay u_t_weddings u_t_teller u_t_tellingKind u_t_today s_t_seenTo s_t_tellings r_t_tellingDay) H → va_D A (w_X4_tellingsSeen cI cB cZ a_t a_t_tellingDay u_t_sex u_t_mother u_t_father u_t_parentsDay u_t_count u_t_man u_t_woman u_t_weddingDay u_t_weddings u_t_teller u_t_tellingKind u_t_today s_t_seenTo s_t_tellings r_t_tellingDay) → va_S A s.heap H locs → lv_has ls 3 [(1, .int eo)] → W p l e rX4_tellingsSeen s m args below meth c H locs 0 0 Q (F0 m 29 ls [])) → ∀ (H : Heap) (locs : List Loc) (ls : Array Slot), va_P D vwCl (w_X4_tellingsSeen cI cB cZ a_t a_t_tellingDay u_t_sex u_t_mother u_t_father u_t_parentsDay u_t_count u_t_man u_t_woman u_t_weddingDay u_t_weddings u_t_teller u_t_tellingKind u_t_today s_t_seenTo s_t_tellings r_t_tellingDay) H → va_D A (w_X4_tellingsSeen cI cB cZ a_t a_t_tellingDay u_t_sex u_t_mother u_t_father u_t_parentsDay u_t_count u_t_man u_t_woman u_t_weddingDay u_t_weddings u_t_teller u_t_tellingKind u_t_today s_t_seenTo s_t_tellings r_t_tellingDay) → va_S A s.heap H locs → lv_has ls 3 [(0, .ref a_t), (1, .int x1), (2, .int x2)] → W p l e rX4_tellingsSeen s m args below meth c H locs 0 0 Q (F0 m 4 ls []) := by
  intro n
  induction n with
  | zero =>
    intro x1 x2 eo hf
    exact (jI_zero hf).elim
  | succ n ih =>
    intro x1 x2 eo hf K H locs ls hP hD hS hl
    obtain ⟨o, hb1, ho⟩ := jI_some hf
    rcases ho with ⟨z, rfl, hf2⟩ | rfl
    · exact t_X4_tellingsSeen_b4 G D cI cB cZ a_t a_t_tellingDay u_t_sex u_t_mother u_t_father u_t_parentsDay u_t_count u_t_man u_t_woman u_t_weddingDay u_t_weddings u_t_teller u_t_tellingKind u_t_today s_t_seenTo s_t_tellings r_t_tellingDay x1 x2 C hb1 ⟨fun z2 hz H locs ls hP hD hS hl => by cases hz; exact ih z.1 z.2 hf2 K H locs ls hP hD hS hl, fun z2 hz => by cases hz⟩ hP hD hS hl
    · exact t_X4_tellingsSeen_b4 G D cI cB cZ a_t a_t_tellingDay u_t_sex u_t_mother u_t_father u_t_parentsDay u_t_count u_t_man u_t_woman u_t_weddingDay u_t_weddings u_t_teller u_t_tellingKind u_t_today s_t_seenTo s_t_tellings r_t_tellingDay x1 x2 C hb1 ⟨fun z2 hz => (by cases hz), fun z2 hz => by cases hz; exact K⟩ hP hD hS hl
def f_X4_tellingsSeen (s_t_seenTo s_t_tellings : Int32) (r_t_tellingDay : jA) : Option (Int32) :=
  jM (f_X4_tellingsSeen_l4 s_t_seenTo s_t_tellings r_t_tellingDay (0 : Int32) (0 : Int32)) fun e4 =>
  some e4
set_option maxHeartbeats 4000000 in
set_option maxRecDepth 100000 in
theorem t_X4_tellingsSeen {p : Program} {l : Launch} {e : Env} {s : State} {m : MethodId} {args : Array Value} {below : List Frame} {meth : Method} {c : Code} {A : Nat → Prop} {Q : State → Prop} (G : jGt) (D : va_G) (cI cB cZ : ClassId) (a_t a_t_tellingDay : Nat) (u_t_sex u_t_mother u_t_father u_t_parentsDay : Value) (u_t_count : Int32) (u_t_man u_t_woman u_t_weddingDay : Value) (u_t_weddings : Int32) (u_t_teller u_t_tellingKind : Value) (u_t_today s_t_seenTo s_t_tellings : Int32) (r_t_tellingDay : jA)  (C : jCx p s m args c cX4_tellingsSeen 3 gX4_tellingsSeen RX4 G D (jT cI cB cZ) A) {o : Int32} (hf : f_X4_tellingsSeen s_t_seenTo s_t_tellings r_t_tellingDay = some o) (K : ∀ (H : Heap) (locs : List Loc) (pc : Nat) (ls : Array Slot), va_P D vwCl (w_X4_tellingsSeen cI cB cZ a_t a_t_tellingDay u_t_sex u_t_mother u_t_father u_t_parentsDay u_t_count u_t_man u_t_woman u_t_weddingDay u_t_weddings u_t_teller u_t_tellingKind u_t_today s_t_seenTo s_t_tellings r_t_tellingDay) H → va_S A s.heap H locs → decode cX4_tellingsSeen pc = .ok (.ireturn, 1) → W p l e rX4_tellingsSeen s m args below meth c H locs 0 0 Q (F0 m pc ls [.int o])) {H : Heap} {locs : List Loc} {ls : Array Slot} (hP : va_P D vwCl (w_X4_tellingsSeen cI cB cZ a_t a_t_tellingDay u_t_sex u_t_mother u_t_father u_t_parentsDay u_t_count u_t_man u_t_woman u_t_weddingDay u_t_weddings u_t_teller u_t_tellingKind u_t_today s_t_seenTo s_t_tellings r_t_tellingDay) H) (hD : va_D A (w_X4_tellingsSeen cI cB cZ a_t a_t_tellingDay u_t_sex u_t_mother u_t_father u_t_parentsDay u_t_count u_t_man u_t_woman u_t_weddingDay u_t_weddings u_t_teller u_t_tellingKind u_t_today s_t_seenTo s_t_tellings r_t_tellingDay)) (hS : va_S A s.heap H locs) (hl : lv_has ls 3 [(0, .ref a_t)]) : W p l e rX4_tellingsSeen s m args below meth c H locs 0 0 Q (F0 m 0 ls []) := by
  obtain ⟨⟨hx, hb, hml, hown, hts⟩, hK, hN, hA⟩ := C
  have C : jCx p s m args c cX4_tellingsSeen 3 gX4_tellingsSeen RX4 G D (jT cI cB cZ) A := ⟨⟨hx, hb, hml, hown, hts⟩, hK, hN, hA⟩
  unfold f_X4_tellingsSeen at hf
  refine lv_iconst (v := (0 : Int32)) hx hb dX4_tellingsSeen_0 (by decide) ?_
  refine lv_istore_n (lv' := [(1, .int (0 : Int32)), (0, .ref a_t)]) hx hb dX4_tellingsSeen_1 rfl hl (by decide) rfl (fun ls hl => ?_)
  refine lv_iconst (v := (0 : Int32)) hx hb dX4_tellingsSeen_2 (by decide) ?_
  refine lv_istore_n (lv' := [(2, .int (0 : Int32)), (1, .int (0 : Int32)), (0, .ref a_t)]) hx hb dX4_tellingsSeen_3 rfl hl (by decide) rfl (fun ls hl => ?_)
  obtain ⟨e4, hg4, hf⟩ := jM_some hf
  refine t_X4_tellingsSeen_l4 G D cI cB cZ a_t a_t_tellingDay u_t_sex u_t_mother u_t_father u_t_parentsDay u_t_count u_t_man u_t_woman u_t_weddingDay u_t_weddings u_t_teller u_t_tellingKind u_t_today s_t_seenTo s_t_tellings r_t_tellingDay  C jF (0 : Int32) (0 : Int32) hg4 ?_ _ _ _ hP hD hS (lv_sub hl [2, 1, 0] rfl)
  intro H locs ls hP hD hS hl
  refine lv_iload_n hx hb dX4_tellingsSeen_29 rfl (lv_at hl 0 rfl) ?_
  have ho := Option.some.inj hf
  subst ho
  exact K _ _ _ _ hP hS dX4_tellingsSeen_30
set_option maxHeartbeats 4000000 in
set_option maxRecDepth 100000 in
theorem c_X4_tellingsSeen (l : Launch) (G : jGt) (D : va_G) (cI cB cZ : ClassId) (a_t a_t_tellingDay : Nat) (u_t_sex u_t_mother u_t_father u_t_parentsDay : Value) (u_t_count : Int32) (u_t_man u_t_woman u_t_weddingDay : Value) (u_t_weddings : Int32) (u_t_teller u_t_tellingKind : Value) (u_t_today s_t_seenTo s_t_tellings : Int32) (r_t_tellingDay : jA)  {o : Int32} (hf : f_X4_tellingsSeen s_t_seenTo s_t_tellings r_t_tellingDay = some o) : jMi l yX4_tellingsSeen gX4_tellingsSeen rX4_tellingsSeen G D (jT cI cB cZ) [.ref a_t] (w_X4_tellingsSeen cI cB cZ a_t a_t_tellingDay u_t_sex u_t_mother u_t_father u_t_parentsDay u_t_count u_t_man u_t_woman u_t_weddingDay u_t_weddings u_t_teller u_t_tellingKind u_t_today s_t_seenTo s_t_tellings r_t_tellingDay) (w_X4_tellingsSeen cI cB cZ a_t a_t_tellingDay u_t_sex u_t_mother u_t_father u_t_parentsDay u_t_count u_t_man u_t_woman u_t_weddingDay u_t_weddings u_t_teller u_t_tellingKind u_t_today s_t_seenTo s_t_tellings r_t_tellingDay) o := by
  refine jmk_i RX4 rfl (by decide +kernel) rfl (Nat.le_of_ble_eq_true rfl) rfl ?_
  intro p e s m args below meth c ls A Q C hP hD hS hl K
  exact t_X4_tellingsSeen G D cI cB cZ a_t a_t_tellingDay u_t_sex u_t_mother u_t_father u_t_parentsDay u_t_count u_t_man u_t_woman u_t_weddingDay u_t_weddings u_t_teller u_t_tellingKind u_t_today s_t_seenTo s_t_tellings r_t_tellingDay  C hf K hP hD hS hl
abbrev rX5_open : Room := { frames := 0, cells := 0, slots := 0, locals := 0 }
abbrev gX5_open : List Cond := wG yX5_open cX5_open 2 none
def w_X5_open (cI cB cZ : ClassId) (a_p0 a_t : Nat) (u_p0_bytes : Value) (u_p0_fault u_p0_place : Int32) (u_t_tape : Value) (u_t_sort u_t_start s_p0_length s_t_after s_t_fault s_t_length s_t_place : Int32) : va_W := [(a_p0, .inr (6, (oX7 u_p0_bytes s_p0_length u_p0_fault u_p0_place))), (a_t, .inr (4, (oX5 u_t_tape u_t_sort s_t_after s_t_length u_t_start s_t_fault s_t_place)))]
def f_X5_open (s_p0_length s_t_after s_t_fault s_t_length s_t_place : Int32) : Option (Int32 × Int32 × Int32 × Int32) :=
  some ((0 : Int32), (0 : Int32), s_p0_length, (-1 : Int32))
set_option maxHeartbeats 4000000 in
set_option maxRecDepth 100000 in
theorem t_X5_open {p : Program} {l : Launch} {e : Env} {s : State} {m : MethodId} {args : Array Value} {below : List Frame} {meth : Method} {c : Code} {A : Nat → Prop} {Q : State → Prop} (G : jGt) (D : va_G) (cI cB cZ : ClassId) (a_p0 a_t : Nat) (u_p0_bytes : Value) (u_p0_fault u_p0_place : Int32) (u_t_tape : Value) (u_t_sort u_t_start s_p0_length : Int32) (s_t_after s_t_fault s_t_length s_t_place : Int32) (C : jCx p s m args c cX5_open 2 gX5_open RX5 G D (jT cI cB cZ) A) {o : Int32 × Int32 × Int32 × Int32} (hf : f_X5_open s_p0_length s_t_after s_t_fault s_t_length s_t_place = some o) (K : ∀ (H : Heap) (locs : List Loc) (pc : Nat) (ls : Array Slot), va_P D vwCl [(a_p0, .inr (6, (oX7 u_p0_bytes s_p0_length u_p0_fault u_p0_place))), (a_t, .inr (4, (oX5 (.ref a_p0) u_t_sort o.1 o.2.2.1 u_t_start o.2.1 o.2.2.2)))] H → va_S A s.heap H locs → decode cX5_open pc = .ok (.return_, 1) → W p l e rX5_open s m args below meth c H locs 0 0 Q (F0 m pc ls [])) {H : Heap} {locs : List Loc} {ls : Array Slot} (hP : va_P D vwCl (w_X5_open cI cB cZ a_p0 a_t u_p0_bytes u_p0_fault u_p0_place u_t_tape u_t_sort u_t_start s_p0_length s_t_after s_t_fault s_t_length s_t_place) H) (hD : va_D A (w_X5_open cI cB cZ a_p0 a_t u_p0_bytes u_p0_fault u_p0_place u_t_tape u_t_sort u_t_start s_p0_length s_t_after s_t_fault s_t_length s_t_place)) (hS : va_S A s.heap H locs) (hl : lv_has ls 2 [(0, .ref a_t), (1, .ref a_p0)]) : W p l e rX5_open s m args below meth c H locs 0 0 Q (F0 m 0 ls []) := by
  obtain ⟨⟨hx, hb, hml, hown, hts⟩, hK, hN, hA⟩ := C
  have C : jCx p s m args c cX5_open 2 gX5_open RX5 G D (jT cI cB cZ) A := ⟨⟨hx, hb, hml, hown, hts⟩, hK, hN, hA⟩
  unfold f_X5_open at hf
  refine lv_aload_n hx hb dX5_open_0 rfl (lv_at hl 0 rfl) ?_
  refine lv_aload_n hx hb dX5_open_1 rfl (lv_at hl 1 rfl) ?_
  refine va_put (D := D) (ci := 4) (v := .ref a_p0) (ty := .object "SectionHouse$Tape") (C := RX5) (T := TX5) (N := 7) hx hb hts iw_X5 tyX5 tyX5_ok nmX5 hown hK hP hD hS 1 rfl rfl 0 (by decide) (hts _ (wG_in k_fl_X5_9 rfl)) (fun _ h9 => h9) rfl (tyX5_ok 0 (by decide)) rfl rfl (Nat.le_of_ble_eq_true rfl) dX5_open_2 (fun H locs hP hD hS => ?_)
  have hP : va_P D vwCl [(a_p0, .inr (6, (oX7 u_p0_bytes s_p0_length u_p0_fault u_p0_place))), (a_t, .inr (4, (oX5 (.ref a_p0) u_t_sort s_t_after s_t_length u_t_start s_t_fault s_t_place)))] H := hP
  have hD : va_D A [(a_p0, .inr (6, (oX7 u_p0_bytes s_p0_length u_p0_fault u_p0_place))), (a_t, .inr (4, (oX5 (.ref a_p0) u_t_sort s_t_after s_t_length u_t_start s_t_fault s_t_place)))] := hD
  refine lv_aload_n hx hb dX5_open_5 rfl (lv_at hl 0 rfl) ?_
  refine lv_aload_n hx hb dX5_open_6 rfl (lv_at hl 1 rfl) ?_
  refine va_get (D := D) (ci := 6) (v := .int s_p0_length) (C := RX7) (T := TX7) (N := 4) hx hb hts iw_X7 hown hK hP 0 rfl rfl 1 (by decide) (hts _ (wG_in k_fl_X5_15 rfl)) (fun _ h9 => h9) rfl dX5_open_7 ?_
  refine va_put (D := D) (ci := 4) (v := .int s_p0_length) (ty := .int) (C := RX5) (T := TX5) (N := 7) hx hb hts iw_X5 tyX5 tyX5_ok nmX5 hown hK hP hD hS 1 rfl rfl 3 (by decide) (hts _ (wG_in k_fl_X5_21 rfl)) (fun _ h9 => h9) rfl (tyX5_ok 3 (by decide)) rfl rfl (Nat.le_of_ble_eq_true rfl) dX5_open_10 (fun H locs hP hD hS => ?_)
  have hP : va_P D vwCl [(a_p0, .inr (6, (oX7 u_p0_bytes s_p0_length u_p0_fault u_p0_place))), (a_t, .inr (4, (oX5 (.ref a_p0) u_t_sort s_t_after s_p0_length u_t_start s_t_fault s_t_place)))] H := hP
  have hD : va_D A [(a_p0, .inr (6, (oX7 u_p0_bytes s_p0_length u_p0_fault u_p0_place))), (a_t, .inr (4, (oX5 (.ref a_p0) u_t_sort s_t_after s_p0_length u_t_start s_t_fault s_t_place)))] := hD
  refine lv_aload_n hx hb dX5_open_13 rfl (lv_at hl 0 rfl) ?_
  refine lv_iconst (v := (0 : Int32)) hx hb dX5_open_14 (by decide) ?_
  refine va_put (D := D) (ci := 4) (v := .int (0 : Int32)) (ty := .int) (C := RX5) (T := TX5) (N := 7) hx hb hts iw_X5 tyX5 tyX5_ok nmX5 hown hK hP hD hS 1 rfl rfl 5 (by decide) (hts _ (wG_in k_fl_X5_22 rfl)) (fun _ h9 => h9) rfl (tyX5_ok 5 (by decide)) rfl rfl (Nat.le_of_ble_eq_true rfl) dX5_open_15 (fun H locs hP hD hS => ?_)
  have hP : va_P D vwCl [(a_p0, .inr (6, (oX7 u_p0_bytes s_p0_length u_p0_fault u_p0_place))), (a_t, .inr (4, (oX5 (.ref a_p0) u_t_sort s_t_after s_p0_length u_t_start (0 : Int32) s_t_place)))] H := hP
  have hD : va_D A [(a_p0, .inr (6, (oX7 u_p0_bytes s_p0_length u_p0_fault u_p0_place))), (a_t, .inr (4, (oX5 (.ref a_p0) u_t_sort s_t_after s_p0_length u_t_start (0 : Int32) s_t_place)))] := hD
  refine lv_aload_n hx hb dX5_open_18 rfl (lv_at hl 0 rfl) ?_
  refine lv_iconst (v := (-1 : Int32)) hx hb dX5_open_19 (by decide) ?_
  refine va_put (D := D) (ci := 4) (v := .int (-1 : Int32)) (ty := .int) (C := RX5) (T := TX5) (N := 7) hx hb hts iw_X5 tyX5 tyX5_ok nmX5 hown hK hP hD hS 1 rfl rfl 6 (by decide) (hts _ (wG_in k_fl_X5_25 rfl)) (fun _ h9 => h9) rfl (tyX5_ok 6 (by decide)) rfl rfl (Nat.le_of_ble_eq_true rfl) dX5_open_20 (fun H locs hP hD hS => ?_)
  have hP : va_P D vwCl [(a_p0, .inr (6, (oX7 u_p0_bytes s_p0_length u_p0_fault u_p0_place))), (a_t, .inr (4, (oX5 (.ref a_p0) u_t_sort s_t_after s_p0_length u_t_start (0 : Int32) (-1 : Int32))))] H := hP
  have hD : va_D A [(a_p0, .inr (6, (oX7 u_p0_bytes s_p0_length u_p0_fault u_p0_place))), (a_t, .inr (4, (oX5 (.ref a_p0) u_t_sort s_t_after s_p0_length u_t_start (0 : Int32) (-1 : Int32))))] := hD
  refine lv_aload_n hx hb dX5_open_23 rfl (lv_at hl 0 rfl) ?_
  refine lv_iconst (v := (0 : Int32)) hx hb dX5_open_24 (by decide) ?_
  refine va_put (D := D) (ci := 4) (v := .int (0 : Int32)) (ty := .int) (C := RX5) (T := TX5) (N := 7) hx hb hts iw_X5 tyX5 tyX5_ok nmX5 hown hK hP hD hS 1 rfl rfl 2 (by decide) (hts _ (wG_in k_fl_X5_28 rfl)) (fun _ h9 => h9) rfl (tyX5_ok 2 (by decide)) rfl rfl (Nat.le_of_ble_eq_true rfl) dX5_open_25 (fun H locs hP hD hS => ?_)
  have hP : va_P D vwCl [(a_p0, .inr (6, (oX7 u_p0_bytes s_p0_length u_p0_fault u_p0_place))), (a_t, .inr (4, (oX5 (.ref a_p0) u_t_sort (0 : Int32) s_p0_length u_t_start (0 : Int32) (-1 : Int32))))] H := hP
  have hD : va_D A [(a_p0, .inr (6, (oX7 u_p0_bytes s_p0_length u_p0_fault u_p0_place))), (a_t, .inr (4, (oX5 (.ref a_p0) u_t_sort (0 : Int32) s_p0_length u_t_start (0 : Int32) (-1 : Int32))))] := hD
  have ho := Option.some.inj hf
  subst ho
  exact K _ _ _ _ hP hS dX5_open_28
set_option maxHeartbeats 4000000 in
set_option maxRecDepth 100000 in
theorem c_X5_open (l : Launch) (G : jGt) (D : va_G) (cI cB cZ : ClassId) (a_p0 a_t : Nat) (u_p0_bytes : Value) (u_p0_fault u_p0_place : Int32) (u_t_tape : Value) (u_t_sort u_t_start s_p0_length : Int32) (s_t_after s_t_fault s_t_length s_t_place : Int32) {o : Int32 × Int32 × Int32 × Int32} (hf : f_X5_open s_p0_length s_t_after s_t_fault s_t_length s_t_place = some o) : jMv l yX5_open gX5_open rX5_open G D (jT cI cB cZ) [.ref a_t, .ref a_p0] (w_X5_open cI cB cZ a_p0 a_t u_p0_bytes u_p0_fault u_p0_place u_t_tape u_t_sort u_t_start s_p0_length s_t_after s_t_fault s_t_length s_t_place) [(a_p0, .inr (6, (oX7 u_p0_bytes s_p0_length u_p0_fault u_p0_place))), (a_t, .inr (4, (oX5 (.ref a_p0) u_t_sort o.1 o.2.2.1 u_t_start o.2.1 o.2.2.2)))] := by
  refine jmk_v RX5 rfl (by decide +kernel) rfl (Nat.le_of_ble_eq_true rfl) rfl ?_
  intro p e s m args below meth c ls A Q C hP hD hS hl K
  exact t_X5_open G D cI cB cZ a_p0 a_t u_p0_bytes u_p0_fault u_p0_place u_t_tape u_t_sort u_t_start s_p0_length s_t_after s_t_fault s_t_length s_t_place C hf K hP hD hS hl
abbrev rX7_take : Room := { frames := 0, cells := 0, slots := 0, locals := 0 }
abbrev gX7_take : List Cond := wG yX7_take cX7_take 3 none
def w_X7_take (cI cB cZ : ClassId) (a_t : Nat) (u_t_bytes : Value) (s_t_fault s_t_length s_t_place : Int32) : va_W := [(a_t, .inr (6, (oX7 u_t_bytes s_t_length s_t_fault s_t_place)))]
def f_X7_take (s_t_fault s_t_length s_t_place x1 x2 : Int32) : Option (Int32 × Int32 × Int32) :=
  some (x1, (0 : Int32), x2)
set_option maxHeartbeats 4000000 in
set_option maxRecDepth 100000 in
theorem t_X7_take {p : Program} {l : Launch} {e : Env} {s : State} {m : MethodId} {args : Array Value} {below : List Frame} {meth : Method} {c : Code} {A : Nat → Prop} {Q : State → Prop} (G : jGt) (D : va_G) (cI cB cZ : ClassId) (a_t : Nat) (u_t_bytes : Value) (s_t_fault s_t_length s_t_place x1 x2 : Int32) (C : jCx p s m args c cX7_take 3 gX7_take RX7 G D (jT cI cB cZ) A) {o : Int32 × Int32 × Int32} (hf : f_X7_take s_t_fault s_t_length s_t_place x1 x2 = some o) (K : ∀ (H : Heap) (locs : List Loc) (pc : Nat) (ls : Array Slot), va_P D vwCl (w_X7_take cI cB cZ a_t u_t_bytes o.1 o.2.1 o.2.2) H → va_S A s.heap H locs → decode cX7_take pc = .ok (.return_, 1) → W p l e rX7_take s m args below meth c H locs 0 0 Q (F0 m pc ls [])) {H : Heap} {locs : List Loc} {ls : Array Slot} (hP : va_P D vwCl (w_X7_take cI cB cZ a_t u_t_bytes s_t_fault s_t_length s_t_place) H) (hD : va_D A (w_X7_take cI cB cZ a_t u_t_bytes s_t_fault s_t_length s_t_place)) (hS : va_S A s.heap H locs) (hl : lv_has ls 3 [(0, .ref a_t), (1, .int x1), (2, .int x2)]) : W p l e rX7_take s m args below meth c H locs 0 0 Q (F0 m 0 ls []) := by
  obtain ⟨⟨hx, hb, hml, hown, hts⟩, hK, hN, hA⟩ := C
  have C : jCx p s m args c cX7_take 3 gX7_take RX7 G D (jT cI cB cZ) A := ⟨⟨hx, hb, hml, hown, hts⟩, hK, hN, hA⟩
  unfold f_X7_take at hf
  refine lv_aload_n hx hb dX7_take_0 rfl (lv_at hl 0 rfl) ?_
  refine lv_iconst (v := (0 : Int32)) hx hb dX7_take_1 (by decide) ?_
  refine va_put (D := D) (ci := 6) (v := .int (0 : Int32)) (ty := .int) (C := RX7) (T := TX7) (N := 4) hx hb hts iw_X7 tyX7 tyX7_ok nmX7 hown hK hP hD hS 0 rfl rfl 1 (by decide) (hts _ (wG_in k_fl_X7_25 rfl)) (fun _ h9 => h9) rfl (tyX7_ok 1 (by decide)) rfl rfl (Nat.le_of_ble_eq_true rfl) dX7_take_2 (fun H locs hP hD hS => ?_)
  have hP : va_P D vwCl (w_X7_take cI cB cZ a_t u_t_bytes s_t_fault (0 : Int32) s_t_place) H := hP
  have hD : va_D A (w_X7_take cI cB cZ a_t u_t_bytes s_t_fault (0 : Int32) s_t_place) := hD
  refine lv_aload_n hx hb dX7_take_5 rfl (lv_at hl 0 rfl) ?_
  refine lv_iload_n hx hb dX7_take_6 rfl (lv_at hl 1 rfl) ?_
  refine va_put (D := D) (ci := 6) (v := .int x1) (ty := .int) (C := RX7) (T := TX7) (N := 4) hx hb hts iw_X7 tyX7 tyX7_ok nmX7 hown hK hP hD hS 0 rfl rfl 2 (by decide) (hts _ (wG_in k_fl_X7_28 rfl)) (fun _ h9 => h9) rfl (tyX7_ok 2 (by decide)) rfl rfl (Nat.le_of_ble_eq_true rfl) dX7_take_7 (fun H locs hP hD hS => ?_)
  have hP : va_P D vwCl (w_X7_take cI cB cZ a_t u_t_bytes x1 (0 : Int32) s_t_place) H := hP
  have hD : va_D A (w_X7_take cI cB cZ a_t u_t_bytes x1 (0 : Int32) s_t_place) := hD
  refine lv_aload_n hx hb dX7_take_10 rfl (lv_at hl 0 rfl) ?_
  refine lv_iload_n hx hb dX7_take_11 rfl (lv_at hl 2 rfl) ?_
  refine va_put (D := D) (ci := 6) (v := .int x2) (ty := .int) (C := RX7) (T := TX7) (N := 4) hx hb hts iw_X7 tyX7 tyX7_ok nmX7 hown hK hP hD hS 0 rfl rfl 3 (by decide) (hts _ (wG_in k_fl_X7_15 rfl)) (fun _ h9 => h9) rfl (tyX7_ok 3 (by decide)) rfl rfl (Nat.le_of_ble_eq_true rfl) dX7_take_12 (fun H locs hP hD hS => ?_)
  have hP : va_P D vwCl (w_X7_take cI cB cZ a_t u_t_bytes x1 (0 : Int32) x2) H := hP
  have hD : va_D A (w_X7_take cI cB cZ a_t u_t_bytes x1 (0 : Int32) x2) := hD
  have ho := Option.some.inj hf
  subst ho
  exact K _ _ _ _ hP hS dX7_take_15
set_option maxHeartbeats 4000000 in
set_option maxRecDepth 100000 in
theorem c_X7_take (l : Launch) (G : jGt) (D : va_G) (cI cB cZ : ClassId) (a_t : Nat) (u_t_bytes : Value) (s_t_fault s_t_length s_t_place x1 x2 : Int32) {o : Int32 × Int32 × Int32} (hf : f_X7_take s_t_fault s_t_length s_t_place x1 x2 = some o) : jMv l yX7_take gX7_take rX7_take G D (jT cI cB cZ) [.ref a_t, .int x1, .int x2] (w_X7_take cI cB cZ a_t u_t_bytes s_t_fault s_t_length s_t_place) (w_X7_take cI cB cZ a_t u_t_bytes o.1 o.2.1 o.2.2) := by
  refine jmk_v RX7 rfl (by decide +kernel) rfl (Nat.le_of_ble_eq_true rfl) rfl ?_
  intro p e s m args below meth c ls A Q C hP hD hS hl K
  exact t_X7_take G D cI cB cZ a_t u_t_bytes s_t_fault s_t_length s_t_place x1 x2 C hf K hP hD hS hl
abbrev rX5_close : Room := { frames := 1, cells := 0, slots := 0, locals := 22 }
abbrev gX5_close : List Cond := wG yX5_close cX5_close 1 (some .boolean)
def w_X5_close (cI cB cZ : ClassId) (a_t a_t_tape : Nat) (u_t_sort u_t_after u_t_length u_t_start : Int32) (u_t_tape_bytes : Value) (s_t_fault s_t_place s_t_tape_fault s_t_tape_length s_t_tape_place : Int32) : va_W := [(a_t, .inr (4, (oX5 (.ref a_t_tape) u_t_sort u_t_after u_t_length u_t_start s_t_fault s_t_place))), (a_t_tape, .inr (6, (oX7 u_t_tape_bytes s_t_tape_length s_t_tape_fault s_t_tape_place)))]
def f_X5_close_j22 (s_t_fault s_t_tape_fault s_t_tape_length s_t_tape_place : Int32) : Option (Int32 × Int32 × Int32 × Int32) :=
  if s_t_fault = 0 then
  some ((1 : Int32), s_t_tape_fault, s_t_tape_length, s_t_tape_place)
  else
  some ((0 : Int32), s_t_tape_fault, s_t_tape_length, s_t_tape_place)
set_option maxHeartbeats 4000000 in
set_option maxRecDepth 100000 in
theorem t_X5_close_j22 {p : Program} {l : Launch} {e : Env} {s : State} {m : MethodId} {args : Array Value} {below : List Frame} {meth : Method} {c : Code} {A : Nat → Prop} {Q : State → Prop} (G : jGt) (D : va_G) (cI cB cZ : ClassId) (a_t a_t_tape : Nat) (u_t_sort u_t_after u_t_length u_t_start : Int32) (u_t_tape_bytes : Value) (s_t_fault s_t_place : Int32) (s_t_tape_fault s_t_tape_length s_t_tape_place : Int32) (C : jCx p s m args c cX5_close 1 gX5_close RX5 G D (jT cI cB cZ) A) {o : Int32 × Int32 × Int32 × Int32} (hf : f_X5_close_j22 s_t_fault s_t_tape_fault s_t_tape_length s_t_tape_place = some o) (K : ∀ (H : Heap) (locs : List Loc) (pc : Nat) (ls : Array Slot), (o.1 = 0 ∨ o.1 = 1) → va_P D vwCl (w_X5_close cI cB cZ a_t a_t_tape u_t_sort u_t_after u_t_length u_t_start u_t_tape_bytes s_t_fault s_t_place o.2.1 o.2.2.1 o.2.2.2) H → va_S A s.heap H locs → decode cX5_close pc = .ok (.ireturn, 1) → W p l e rX5_close s m args below meth c H locs 0 0 Q (F0 m pc ls [.int o.1])) {H : Heap} {locs : List Loc} {ls : Array Slot} (hP : va_P D vwCl (w_X5_close cI cB cZ a_t a_t_tape u_t_sort u_t_after u_t_length u_t_start u_t_tape_bytes s_t_fault s_t_place s_t_tape_fault s_t_tape_length s_t_tape_place) H) (hD : va_D A (w_X5_close cI cB cZ a_t a_t_tape u_t_sort u_t_after u_t_length u_t_start u_t_tape_bytes s_t_fault s_t_place s_t_tape_fault s_t_tape_length s_t_tape_place)) (hS : va_S A s.heap H locs) (hl : lv_has ls 1 [(0, .ref a_t)]) : W p l e rX5_close s m args below meth c H locs 0 0 Q (F0 m 22 ls []) := by
  obtain ⟨⟨hx, hb, hml, hown, hts⟩, hK, hN, hA⟩ := C
  have C : jCx p s m args c cX5_close 1 gX5_close RX5 G D (jT cI cB cZ) A := ⟨⟨hx, hb, hml, hown, hts⟩, hK, hN, hA⟩
  unfold f_X5_close_j22 at hf
  refine lv_aload_n hx hb dX5_close_22 rfl (lv_at hl 0 rfl) ?_
  refine va_get (D := D) (ci := 4) (v := .int s_t_fault) (C := RX5) (T := TX5) (N := 7) hx hb hts iw_X5 hown hK hP 0 rfl rfl 5 (by decide) (hts _ (wG_in k_fl_X5_22 rfl)) (fun _ h9 => h9) rfl dX5_close_23 ?_
  refine lv_if_ne (tgt := 33) hx hb dX5_close_26 (by decide) (fun c2 => ?_) (fun c2 => ?_)
  · replace hf := jif_f c2 hf
    refine lv_iconst (v := (0 : Int32)) hx hb dX5_close_33 (by decide) ?_
    have ho := Option.some.inj hf
    subst ho
    exact K _ _ _ _ (Or.inl rfl) hP hS dX5_close_34
  · replace hf := jif_t c2 hf
    refine lv_iconst (v := (1 : Int32)) hx hb dX5_close_29 (by decide) ?_
    refine lv_goto (tgt := 34) hx hb dX5_close_30 (by decide) ?_
    have ho := Option.some.inj hf
    subst ho
    exact K _ _ _ _ (Or.inr rfl) hP hS dX5_close_34
def f_X5_close (s_t_fault s_t_place s_t_tape_fault s_t_tape_length s_t_tape_place : Int32) : Option (Int32 × Int32 × Int32 × Int32) :=
  jM (f_X7_take s_t_tape_fault s_t_tape_length s_t_tape_place s_t_fault s_t_place) fun r1 =>
  f_X5_close_j22 s_t_fault r1.1 r1.2.1 r1.2.2
set_option maxHeartbeats 4000000 in
set_option maxRecDepth 100000 in
theorem t_X5_close {p : Program} {l : Launch} {e : Env} {s : State} {m : MethodId} {args : Array Value} {below : List Frame} {meth : Method} {c : Code} {A : Nat → Prop} {Q : State → Prop} (G : jGt) (D : va_G) (cI cB cZ : ClassId) (a_t a_t_tape : Nat) (u_t_sort u_t_after u_t_length u_t_start : Int32) (u_t_tape_bytes : Value) (s_t_fault s_t_place : Int32) (s_t_tape_fault s_t_tape_length s_t_tape_place : Int32) (C : jCx p s m args c cX5_close 1 gX5_close RX5 G D (jT cI cB cZ) A) {o : Int32 × Int32 × Int32 × Int32} (hf : f_X5_close s_t_fault s_t_place s_t_tape_fault s_t_tape_length s_t_tape_place = some o) (K : ∀ (H : Heap) (locs : List Loc) (pc : Nat) (ls : Array Slot), (o.1 = 0 ∨ o.1 = 1) → va_P D vwCl (w_X5_close cI cB cZ a_t a_t_tape u_t_sort u_t_after u_t_length u_t_start u_t_tape_bytes s_t_fault s_t_place o.2.1 o.2.2.1 o.2.2.2) H → va_S A s.heap H locs → decode cX5_close pc = .ok (.ireturn, 1) → W p l e rX5_close s m args below meth c H locs 0 0 Q (F0 m pc ls [.int o.1])) {H : Heap} {locs : List Loc} {ls : Array Slot} (hP : va_P D vwCl (w_X5_close cI cB cZ a_t a_t_tape u_t_sort u_t_after u_t_length u_t_start u_t_tape_bytes s_t_fault s_t_place s_t_tape_fault s_t_tape_length s_t_tape_place) H) (hD : va_D A (w_X5_close cI cB cZ a_t a_t_tape u_t_sort u_t_after u_t_length u_t_start u_t_tape_bytes s_t_fault s_t_place s_t_tape_fault s_t_tape_length s_t_tape_place)) (hS : va_S A s.heap H locs) (hl : lv_has ls 1 [(0, .ref a_t)]) : W p l e rX5_close s m args below meth c H locs 0 0 Q (F0 m 0 ls []) := by
  obtain ⟨⟨hx, hb, hml, hown, hts⟩, hK, hN, hA⟩ := C
  have C : jCx p s m args c cX5_close 1 gX5_close RX5 G D (jT cI cB cZ) A := ⟨⟨hx, hb, hml, hown, hts⟩, hK, hN, hA⟩
  unfold f_X5_close at hf
  refine lv_aload_n hx hb dX5_close_0 rfl (lv_at hl 0 rfl) ?_
  refine va_get (D := D) (ci := 4) (v := .ref a_t_tape) (C := RX5) (T := TX5) (N := 7) hx hb hts iw_X5 hown hK hP 0 rfl rfl 0 (by decide) (hts _ (wG_in k_fl_X5_9 rfl)) (fun _ h9 => h9) rfl dX5_close_1 ?_
  refine lv_ifnull hx hb dX5_close_4 ?_
  refine lv_aload_n hx hb dX5_close_7 rfl (lv_at hl 0 rfl) ?_
  refine va_get (D := D) (ci := 4) (v := .ref a_t_tape) (C := RX5) (T := TX5) (N := 7) hx hb hts iw_X5 hown hK hP 0 rfl rfl 0 (by decide) (hts _ (wG_in k_fl_X5_9 rfl)) (fun _ h9 => h9) rfl dX5_close_8 ?_
  refine lv_aload_n hx hb dX5_close_11 rfl (lv_at hl 0 rfl) ?_
  refine va_get (D := D) (ci := 4) (v := .int s_t_fault) (C := RX5) (T := TX5) (N := 7) hx hb hts iw_X5 hown hK hP 0 rfl rfl 5 (by decide) (hts _ (wG_in k_fl_X5_22 rfl)) (fun _ h9 => h9) rfl dX5_close_12 ?_
  refine lv_aload_n hx hb dX5_close_15 rfl (lv_at hl 0 rfl) ?_
  refine va_get (D := D) (ci := 4) (v := .int s_t_place) (C := RX5) (T := TX5) (N := 7) hx hb hts iw_X5 hown hK hP 0 rfl rfl 6 (by decide) (hts _ (wG_in k_fl_X5_25 rfl)) (fun _ h9 => h9) rfl dX5_close_16 ?_
  obtain ⟨r1, hgr1, hf⟩ := jM_some hf
  refine jcV_v (As := [.int s_t_fault, .int s_t_place]) (rest := []) ⟨hx, hb, hml, hown, hts⟩ hK hN hA (c_X7_take l G D cI cB cZ a_t_tape u_t_tape_bytes s_t_tape_fault s_t_tape_length s_t_tape_place s_t_fault s_t_place hgr1) (cwV 2 hts (wG_V k_ml_X5_31 k_im_X7_take k_se_X7_take k_in_X7 k_co_X7_take) rfl rfl rfl hd_X7_take ⟨Nat.le_of_ble_eq_true rfl, Nat.le_of_ble_eq_true rfl⟩) hP hD hS [1] rfl rfl rfl (ci := 6) rfl 1 rfl rfl rfl hl.1 rfl (Nat.le_of_ble_eq_true rfl) dX5_close_19 ⟨Nat.le_of_ble_eq_true rfl, Nat.le_of_ble_eq_true rfl⟩ (fun H locs hP hD hS => ?_)
  have hP : va_P D vwCl (w_X5_close cI cB cZ a_t a_t_tape u_t_sort u_t_after u_t_length u_t_start u_t_tape_bytes s_t_fault s_t_place r1.1 r1.2.1 r1.2.2) H := hP
  have hD : va_D A (w_X5_close cI cB cZ a_t a_t_tape u_t_sort u_t_after u_t_length u_t_start u_t_tape_bytes s_t_fault s_t_place r1.1 r1.2.1 r1.2.2) := hD
  exact t_X5_close_j22 G D cI cB cZ a_t a_t_tape u_t_sort u_t_after u_t_length u_t_start u_t_tape_bytes s_t_fault s_t_place r1.1 r1.2.1 r1.2.2 C hf K hP hD hS (lv_sub hl [0] rfl)
set_option maxHeartbeats 4000000 in
set_option maxRecDepth 100000 in
theorem c_X5_close (l : Launch) (G : jGt) (D : va_G) (cI cB cZ : ClassId) (a_t a_t_tape : Nat) (u_t_sort u_t_after u_t_length u_t_start : Int32) (u_t_tape_bytes : Value) (s_t_fault s_t_place : Int32) (s_t_tape_fault s_t_tape_length s_t_tape_place : Int32) {o : Int32 × Int32 × Int32 × Int32} (hf : f_X5_close s_t_fault s_t_place s_t_tape_fault s_t_tape_length s_t_tape_place = some o) : jMi l yX5_close gX5_close rX5_close G D (jT cI cB cZ) [.ref a_t] (w_X5_close cI cB cZ a_t a_t_tape u_t_sort u_t_after u_t_length u_t_start u_t_tape_bytes s_t_fault s_t_place s_t_tape_fault s_t_tape_length s_t_tape_place) (w_X5_close cI cB cZ a_t a_t_tape u_t_sort u_t_after u_t_length u_t_start u_t_tape_bytes s_t_fault s_t_place o.2.1 o.2.2.1 o.2.2.2) o.1 := by
  refine jmk_z RX5 rfl (by decide +kernel) rfl (Nat.le_of_ble_eq_true rfl) rfl ?_
  intro p e s m args below meth c ls A Q C hP hD hS hl K
  exact t_X5_close G D cI cB cZ a_t a_t_tape u_t_sort u_t_after u_t_length u_t_start u_t_tape_bytes s_t_fault s_t_place s_t_tape_fault s_t_tape_length s_t_tape_place C hf K hP hD hS hl

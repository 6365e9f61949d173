/-! systems, kinds, kind of the class -/
def zRo (y : zCe) (x2 x3 : Int32) : Option Int32 := f_X0_rowEntry y.2.2.2.1 y.2.2.2.2.2.2.1 y.2.2.2.2.2.2.2.1 y.2.2.2.2.2.2.2.2.2.2.1 y.2.2.2.2.2.2.2.2.2.2.2.2.2.2.1 x2 x3
abbrev rX11_systems : Room := { frames := 6, cells := 16, slots := 600, locals := 160 }
abbrev rX11_systems0 : Room := { frames := 6, cells := 0, slots := 0, locals := 160 }
abbrev gX11_systems : List Cond := wG yX11_systems cX11_systems 3 (some .int)
set_option maxHeartbeats 1000000 in
set_option maxRecDepth 100000 in
theorem c_X11_systemsa (l : Launch) (G : jGt) (D : va_G) (cI cB cZ cS cC cJ : ClassId) (a n k : Nat) (ui ut uu uk : Value) (g : Nat → Option Nat) (x1 : Int32) (h : ¬ x1 < 2 → ¬ 5 < x1 → ¬ x1 - 2 < 4) : jMq l yX11_systems gX11_systems rX11_systems0 G D (jTx cI cB cZ cS cC cJ) [.ref a, .int x1] (wHc cC a n k ui ut uu uk  g) (fun _ => wHc cC a n k ui ut uu uk  g) (-1) 0 0 := by
  refine jmk_qi RX11 rfl (by decide +kernel) rfl (Nat.le_of_ble_eq_true rfl) ?_
  intro p e s m args below meth c ls A Q C hP hD hS hl K
  obtain ⟨⟨hx, hb, hml, hown, hts⟩, hK, hN, hA⟩ := C
  refine lv_aload_n hx hb dX11_systems_0 rfl (lv_at hl 0 rfl) ?_
  refine lv_iload_n hx hb dX11_systems_1 rfl (lv_at hl 1 rfl) ?_
  refine jcB_o (B := []) (As := [.int x1]) (rest := []) ⟨hx, hb, hml, hown, hts⟩ hK hN hA (c_X11_censusOfa l G D cI cB cZ cS cC cJ a n k ui ut uu uk g x1 h) (cwV 1 hts (wG_V k_ml_X11_189 k_im_X11_censusOf k_se_X11_censusOf k_in_X11 k_co_X11_censusOf) rfl rfl rfl hd_X11_censusOf ⟨Nat.le_of_ble_eq_true rfl, Nat.le_of_ble_eq_true rfl⟩) hP hD hS (ci := 10) rfl 0 rfl rfl rfl hl.1 rfl (Nat.le_of_ble_eq_true rfl) dX11_systems_2 ⟨Nat.le_of_ble_eq_true rfl, Nat.le_of_ble_eq_true rfl⟩ (fun qt H locs hP hD hS => ?_)
  rw [List.nil_append] at hP hD
  refine lv_astore_nN (lv' := [(2, .null), (0, .ref a), (1, .int x1)]) hx hb dX11_systems_5 rfl hl (by decide) rfl (fun ls hl => ?_)
  refine lv_aload_nN hx hb dX11_systems_6 rfl (lv_at hl 0 rfl) ?_
  refine lv_ifnonnullN hx hb dX11_systems_7 ?_
  refine lv_iconst (v := (-1 : Int32)) hx hb dX11_systems_10 (by decide) ?_
  refine lv_goto (tgt := 18) hx hb dX11_systems_11 (by decide) ?_
  exact K (fun _ => 0) _ _ _ _ hP hD hS dX11_systems_18
set_option maxHeartbeats 1000000 in
set_option maxRecDepth 100000 in
theorem c_X11_systemsb (l : Launch) (G : jGt) (D : va_G) (cI cB cZ cS cC cJ : ClassId) (a n k : Nat) (ui ut uu uk : Value) (g : Nat → Option Nat) (v0 v1 v3 v4 : Value) (v5 : Int32) (x1 : Int32) (b : Nat) (qs qt : Nat → Nat) (z : zSt) (y : zCe) {o : zCe} (h0 : ¬ x1 < 2) (h1 : ¬ 5 < x1) (h2 : x1 - 2 < 4) (h3 : vp_in (x1 - 2) 4) (hg : g (x1 - 2).toNatClampNeg = some b) (hf : zJd z y = some o) : jMq l yX11_systems gX11_systems rX11_systems0 G D (jTx cI cB cZ cS cC cJ) [.ref a, .int x1] (wHc cC a n k ui ut uu uk  g ++ (wNl n (qs 7) v0 v1 v3 v4 v5 ++ (wLa cI qs z ++ wCe cI b qt y))) (fun _ => wHc cC a n k ui ut uu uk  g ++ (wNl n (qs 7) v0 v1 v3 v4 v5 ++ (wLa cI qs z ++ wCe cI b qt o))) (o.2.2.2.2.1) 0 0 := by
  refine jmk_qi RX11 rfl (by decide +kernel) rfl (Nat.le_of_ble_eq_true rfl) ?_
  intro p e s m args below meth c ls A Q C hP hD hS hl K
  obtain ⟨⟨hx, hb, hml, hown, hts⟩, hK, hN, hA⟩ := C
  refine lv_aload_n hx hb dX11_systems_0 rfl (lv_at hl 0 rfl) ?_
  refine lv_iload_n hx hb dX11_systems_1 rfl (lv_at hl 1 rfl) ?_
  refine jcB_o (B := []) (As := [.int x1]) (rest := []) ⟨hx, hb, hml, hown, hts⟩ hK hN hA (c_X11_censusOfb l G D cI cB cZ cS cC cJ a n k ui ut uu uk g v0 v1 v3 v4 v5 x1 b qs qt z y h0 h1 h2 h3 hg hf) (cwV 1 hts (wG_V k_ml_X11_189 k_im_X11_censusOf k_se_X11_censusOf k_in_X11 k_co_X11_censusOf) rfl rfl rfl hd_X11_censusOf ⟨Nat.le_of_ble_eq_true rfl, Nat.le_of_ble_eq_true rfl⟩) hP hD hS (ci := 10) rfl 0 wHc_0 rfl rfl hl.1 rfl (Nat.le_of_ble_eq_true rfl) dX11_systems_2 ⟨Nat.le_of_ble_eq_true rfl, Nat.le_of_ble_eq_true rfl⟩ (fun _ H locs hP hD hS => ?_)
  rw [List.nil_append] at hP hD
  refine lv_astore_n (lv' := [(2, .ref b), (0, .ref a), (1, .int x1)]) hx hb dX11_systems_5 rfl hl (by decide) rfl (fun ls hl => ?_)
  refine lv_aload_n hx hb dX11_systems_6 rfl (lv_at hl 0 rfl) ?_
  refine lv_ifnonnull (tgt := 14) hx hb dX11_systems_7 (by decide) ?_
  refine lv_aload_n hx hb dX11_systems_14 rfl (lv_at hl 0 rfl) ?_
  refine va_get (D := D) (ci := 0) (v := .int o.2.2.2.2.1) (C := RX0) (T := TX0) (N := 15) hx hb hts iw_X0 hown hK hP 7 rfl rfl 11 (by decide) (hts _ (wG_in k_fl_X11_193 rfl)) (fun _ h9 => h9) rfl dX11_systems_15 ?_
  exact K (fun _ => 0) _ _ _ _ hP hD hS dX11_systems_18
set_option maxHeartbeats 1000000 in
set_option maxRecDepth 100000 in
theorem c_X11_systemsc (l : Launch) (G : jGt) (D : va_G) (cI cB cZ cS cC cJ : ClassId) (a n k : Nat) (ui ut uu uk : Value) (g : Nat → Option Nat) (v0 v1 v3 v4 : Value) (v5 : Int32) (x1 : Int32) (qs : Nat → Nat) (z : zSt) {y o : zCe} (h0 : ¬ x1 < 2) (h1 : ¬ 5 < x1) (h2 : x1 - 2 < 4) (h3 : vp_in (x1 - 2) 4) (hg : g (x1 - 2).toNatClampNeg = none) (hy : f_X0_init x1 = some y) (hf : zJd z y = some o) : jMq l yX11_systems gX11_systems rX11_systems G D (jTx cI cB cZ cS cC cJ) [.ref a, .int x1] (wHc cC a n k ui ut uu uk  g ++ (wNl n (qs 7) v0 v1 v3 v4 v5 ++ wLa cI qs z)) (fun qt => wHc cC a n k ui ut uu uk  (va_up g (x1 - 2).toNatClampNeg (some (qt 0))) ++ (wNl n (qs 7) v0 v1 v3 v4 v5 ++ (wLa cI qs z ++ wCe cI (qt 0) (fun j => qt (j + 1)) o))) (o.2.2.2.2.1) 16 600 := by
  refine jmk_qi RX11 rfl (by decide +kernel) rfl (Nat.le_of_ble_eq_true rfl) ?_
  intro p e s m args below meth c ls A Q C hP hD hS hl K
  obtain ⟨⟨hx, hb, hml, hown, hts⟩, hK, hN, hA⟩ := C
  refine lv_aload_n hx hb dX11_systems_0 rfl (lv_at hl 0 rfl) ?_
  refine lv_iload_n hx hb dX11_systems_1 rfl (lv_at hl 1 rfl) ?_
  refine jcB_o (B := []) (As := [.int x1]) (rest := []) ⟨hx, hb, hml, hown, hts⟩ hK hN hA (c_X11_censusOfc l G D cI cB cZ cS cC cJ a n k ui ut uu uk g v0 v1 v3 v4 v5 x1 qs z h0 h1 h2 h3 hg hy hf) (cwV 1 hts (wG_V k_ml_X11_189 k_im_X11_censusOf k_se_X11_censusOf k_in_X11 k_co_X11_censusOf) rfl rfl rfl hd_X11_censusOf ⟨Nat.le_of_ble_eq_true rfl, Nat.le_of_ble_eq_true rfl⟩) hP hD hS (ci := 10) rfl 0 wHc_0 rfl rfl hl.1 rfl (Nat.le_of_ble_eq_true rfl) dX11_systems_2 ⟨Nat.le_of_ble_eq_true rfl, Nat.le_of_ble_eq_true rfl⟩ (fun qt H locs hP hD hS => ?_)
  rw [List.nil_append] at hP hD
  refine lv_astore_n (lv' := [(2, .ref (qt 0)), (0, .ref a), (1, .int x1)]) hx hb dX11_systems_5 rfl hl (by decide) rfl (fun ls hl => ?_)
  refine lv_aload_n hx hb dX11_systems_6 rfl (lv_at hl 0 rfl) ?_
  refine lv_ifnonnull (tgt := 14) hx hb dX11_systems_7 (by decide) ?_
  refine lv_aload_n hx hb dX11_systems_14 rfl (lv_at hl 0 rfl) ?_
  refine va_get (D := D) (ci := 0) (v := .int o.2.2.2.2.1) (C := RX0) (T := TX0) (N := 15) hx hb hts iw_X0 hown hK hP 7 rfl rfl 11 (by decide) (hts _ (wG_in k_fl_X11_193 rfl)) (fun _ h9 => h9) rfl dX11_systems_15 ?_
  exact K qt _ _ _ _ hP hD hS dX11_systems_18
abbrev rX11_kinds : Room := { frames := 6, cells := 16, slots := 600, locals := 160 }
abbrev rX11_kinds0 : Room := { frames := 6, cells := 0, slots := 0, locals := 160 }
abbrev gX11_kinds : List Cond := wG yX11_kinds cX11_kinds 3 (some .int)
set_option maxHeartbeats 1000000 in
set_option maxRecDepth 100000 in
theorem c_X11_kindsa (l : Launch) (G : jGt) (D : va_G) (cI cB cZ cS cC cJ : ClassId) (a n k : Nat) (ui ut uu uk : Value) (g : Nat → Option Nat) (x1 : Int32) (h : ¬ x1 < 2 → ¬ 5 < x1 → ¬ x1 - 2 < 4) : jMq l yX11_kinds gX11_kinds rX11_kinds0 G D (jTx cI cB cZ cS cC cJ) [.ref a, .int x1] (wHc cC a n k ui ut uu uk  g) (fun _ => wHc cC a n k ui ut uu uk  g) (-1) 0 0 := by
  refine jmk_qi RX11 rfl (by decide +kernel) rfl (Nat.le_of_ble_eq_true rfl) ?_
  intro p e s m args below meth c ls A Q C hP hD hS hl K
  obtain ⟨⟨hx, hb, hml, hown, hts⟩, hK, hN, hA⟩ := C
  refine lv_aload_n hx hb dX11_kinds_0 rfl (lv_at hl 0 rfl) ?_
  refine lv_iload_n hx hb dX11_kinds_1 rfl (lv_at hl 1 rfl) ?_
  refine jcB_o (B := []) (As := [.int x1]) (rest := []) ⟨hx, hb, hml, hown, hts⟩ hK hN hA (c_X11_censusOfa l G D cI cB cZ cS cC cJ a n k ui ut uu uk g x1 h) (cwV 1 hts (wG_V k_ml_X11_189 k_im_X11_censusOf k_se_X11_censusOf k_in_X11 k_co_X11_censusOf) rfl rfl rfl hd_X11_censusOf ⟨Nat.le_of_ble_eq_true rfl, Nat.le_of_ble_eq_true rfl⟩) hP hD hS (ci := 10) rfl 0 rfl rfl rfl hl.1 rfl (Nat.le_of_ble_eq_true rfl) dX11_kinds_2 ⟨Nat.le_of_ble_eq_true rfl, Nat.le_of_ble_eq_true rfl⟩ (fun qt H locs hP hD hS => ?_)
  rw [List.nil_append] at hP hD
  refine lv_astore_nN (lv' := [(2, .null), (0, .ref a), (1, .int x1)]) hx hb dX11_kinds_5 rfl hl (by decide) rfl (fun ls hl => ?_)
  refine lv_aload_nN hx hb dX11_kinds_6 rfl (lv_at hl 0 rfl) ?_
  refine lv_ifnonnullN hx hb dX11_kinds_7 ?_
  refine lv_iconst (v := (-1 : Int32)) hx hb dX11_kinds_10 (by decide) ?_
  refine lv_goto (tgt := 18) hx hb dX11_kinds_11 (by decide) ?_
  exact K (fun _ => 0) _ _ _ _ hP hD hS dX11_kinds_18
set_option maxHeartbeats 1000000 in
set_option maxRecDepth 100000 in
theorem c_X11_kindsb (l : Launch) (G : jGt) (D : va_G) (cI cB cZ cS cC cJ : ClassId) (a n k : Nat) (ui ut uu uk : Value) (g : Nat → Option Nat) (v0 v1 v3 v4 : Value) (v5 : Int32) (x1 : Int32) (b : Nat) (qs qt : Nat → Nat) (z : zSt) (y : zCe) {o : zCe} (h0 : ¬ x1 < 2) (h1 : ¬ 5 < x1) (h2 : x1 - 2 < 4) (h3 : vp_in (x1 - 2) 4) (hg : g (x1 - 2).toNatClampNeg = some b) (hf : zJd z y = some o) : jMq l yX11_kinds gX11_kinds rX11_kinds0 G D (jTx cI cB cZ cS cC cJ) [.ref a, .int x1] (wHc cC a n k ui ut uu uk  g ++ (wNl n (qs 7) v0 v1 v3 v4 v5 ++ (wLa cI qs z ++ wCe cI b qt y))) (fun _ => wHc cC a n k ui ut uu uk  g ++ (wNl n (qs 7) v0 v1 v3 v4 v5 ++ (wLa cI qs z ++ wCe cI b qt o))) (o.2.2.2.1) 0 0 := by
  refine jmk_qi RX11 rfl (by decide +kernel) rfl (Nat.le_of_ble_eq_true rfl) ?_
  intro p e s m args below meth c ls A Q C hP hD hS hl K
  obtain ⟨⟨hx, hb, hml, hown, hts⟩, hK, hN, hA⟩ := C
  refine lv_aload_n hx hb dX11_kinds_0 rfl (lv_at hl 0 rfl) ?_
  refine lv_iload_n hx hb dX11_kinds_1 rfl (lv_at hl 1 rfl) ?_
  refine jcB_o (B := []) (As := [.int x1]) (rest := []) ⟨hx, hb, hml, hown, hts⟩ hK hN hA (c_X11_censusOfb l G D cI cB cZ cS cC cJ a n k ui ut uu uk g v0 v1 v3 v4 v5 x1 b qs qt z y h0 h1 h2 h3 hg hf) (cwV 1 hts (wG_V k_ml_X11_189 k_im_X11_censusOf k_se_X11_censusOf k_in_X11 k_co_X11_censusOf) rfl rfl rfl hd_X11_censusOf ⟨Nat.le_of_ble_eq_true rfl, Nat.le_of_ble_eq_true rfl⟩) hP hD hS (ci := 10) rfl 0 wHc_0 rfl rfl hl.1 rfl (Nat.le_of_ble_eq_true rfl) dX11_kinds_2 ⟨Nat.le_of_ble_eq_true rfl, Nat.le_of_ble_eq_true rfl⟩ (fun _ H locs hP hD hS => ?_)
  rw [List.nil_append] at hP hD
  refine lv_astore_n (lv' := [(2, .ref b), (0, .ref a), (1, .int x1)]) hx hb dX11_kinds_5 rfl hl (by decide) rfl (fun ls hl => ?_)
  refine lv_aload_n hx hb dX11_kinds_6 rfl (lv_at hl 0 rfl) ?_
  refine lv_ifnonnull (tgt := 14) hx hb dX11_kinds_7 (by decide) ?_
  refine lv_aload_n hx hb dX11_kinds_14 rfl (lv_at hl 0 rfl) ?_
  refine va_get (D := D) (ci := 0) (v := .int o.2.2.2.1) (C := RX0) (T := TX0) (N := 15) hx hb hts iw_X0 hown hK hP 7 rfl rfl 10 (by decide) (hts _ (wG_in k_fl_X11_196 rfl)) (fun _ h9 => h9) rfl dX11_kinds_15 ?_
  exact K (fun _ => 0) _ _ _ _ hP hD hS dX11_kinds_18
set_option maxHeartbeats 1000000 in
set_option maxRecDepth 100000 in
theorem c_X11_kindsc (l : Launch) (G : jGt) (D : va_G) (cI cB cZ cS cC cJ : ClassId) (a n k : Nat) (ui ut uu uk : Value) (g : Nat → Option Nat) (v0 v1 v3 v4 : Value) (v5 : Int32) (x1 : Int32) (qs : Nat → Nat) (z : zSt) {y o : zCe} (h0 : ¬ x1 < 2) (h1 : ¬ 5 < x1) (h2 : x1 - 2 < 4) (h3 : vp_in (x1 - 2) 4) (hg : g (x1 - 2).toNatClampNeg = none) (hy : f_X0_init x1 = some y) (hf : zJd z y = some o) : jMq l yX11_kinds gX11_kinds rX11_kinds G D (jTx cI cB cZ cS cC cJ) [.ref a, .int x1] (wHc cC a n k ui ut uu uk  g ++ (wNl n (qs 7) v0 v1 v3 v4 v5 ++ wLa cI qs z)) (fun qt => wHc cC a n k ui ut uu uk  (va_up g (x1 - 2).toNatClampNeg (some (qt 0))) ++ (wNl n (qs 7) v0 v1 v3 v4 v5 ++ (wLa cI qs z ++ wCe cI (qt 0) (fun j => qt (j + 1)) o))) (o.2.2.2.1) 16 600 := by
  refine jmk_qi RX11 rfl (by decide +kernel) rfl (Nat.le_of_ble_eq_true rfl) ?_
  intro p e s m args below meth c ls A Q C hP hD hS hl K
  obtain ⟨⟨hx, hb, hml, hown, hts⟩, hK, hN, hA⟩ := C
  refine lv_aload_n hx hb dX11_kinds_0 rfl (lv_at hl 0 rfl) ?_
  refine lv_iload_n hx hb dX11_kinds_1 rfl (lv_at hl 1 rfl) ?_
  refine jcB_o (B := []) (As := [.int x1]) (rest := []) ⟨hx, hb, hml, hown, hts⟩ hK hN hA (c_X11_censusOfc l G D cI cB cZ cS cC cJ a n k ui ut uu uk g v0 v1 v3 v4 v5 x1 qs z h0 h1 h2 h3 hg hy hf) (cwV 1 hts (wG_V k_ml_X11_189 k_im_X11_censusOf k_se_X11_censusOf k_in_X11 k_co_X11_censusOf) rfl rfl rfl hd_X11_censusOf ⟨Nat.le_of_ble_eq_true rfl, Nat.le_of_ble_eq_true rfl⟩) hP hD hS (ci := 10) rfl 0 wHc_0 rfl rfl hl.1 rfl (Nat.le_of_ble_eq_true rfl) dX11_kinds_2 ⟨Nat.le_of_ble_eq_true rfl, Nat.le_of_ble_eq_true rfl⟩ (fun qt H locs hP hD hS => ?_)
  rw [List.nil_append] at hP hD
  refine lv_astore_n (lv' := [(2, .ref (qt 0)), (0, .ref a), (1, .int x1)]) hx hb dX11_kinds_5 rfl hl (by decide) rfl (fun ls hl => ?_)
  refine lv_aload_n hx hb dX11_kinds_6 rfl (lv_at hl 0 rfl) ?_
  refine lv_ifnonnull (tgt := 14) hx hb dX11_kinds_7 (by decide) ?_
  refine lv_aload_n hx hb dX11_kinds_14 rfl (lv_at hl 0 rfl) ?_
  refine va_get (D := D) (ci := 0) (v := .int o.2.2.2.1) (C := RX0) (T := TX0) (N := 15) hx hb hts iw_X0 hown hK hP 7 rfl rfl 10 (by decide) (hts _ (wG_in k_fl_X11_196 rfl)) (fun _ h9 => h9) rfl dX11_kinds_15 ?_
  exact K qt _ _ _ _ hP hD hS dX11_kinds_18
abbrev rX11_kind : Room := { frames := 6, cells := 16, slots := 600, locals := 160 }
abbrev rX11_kind0 : Room := { frames := 6, cells := 0, slots := 0, locals := 160 }
abbrev gX11_kind : List Cond := wG yX11_kind cX11_kind 5 (some .int)
set_option maxHeartbeats 1000000 in
set_option maxRecDepth 100000 in
theorem c_X11_kinda (l : Launch) (G : jGt) (D : va_G) (cI cB cZ cS cC cJ : ClassId) (a n k : Nat) (ui ut uu uk : Value) (g : Nat → Option Nat) (x1 x2 x3 : Int32) (h : ¬ x1 < 2 → ¬ 5 < x1 → ¬ x1 - 2 < 4) : jMq l yX11_kind gX11_kind rX11_kind0 G D (jTx cI cB cZ cS cC cJ) [.ref a, .int x1, .int x2, .int x3] (wHc cC a n k ui ut uu uk  g) (fun _ => wHc cC a n k ui ut uu uk  g) (-1) 0 0 := by
  refine jmk_qi RX11 rfl (by decide +kernel) rfl (Nat.le_of_ble_eq_true rfl) ?_
  intro p e s m args below meth c ls A Q C hP hD hS hl K
  obtain ⟨⟨hx, hb, hml, hown, hts⟩, hK, hN, hA⟩ := C
  refine lv_aload_n hx hb dX11_kind_0 rfl (lv_at hl 0 rfl) ?_
  refine lv_iload_n hx hb dX11_kind_1 rfl (lv_at hl 1 rfl) ?_
  refine jcB_o (B := []) (As := [.int x1]) (rest := []) ⟨hx, hb, hml, hown, hts⟩ hK hN hA (c_X11_censusOfa l G D cI cB cZ cS cC cJ a n k ui ut uu uk g x1 h) (cwV 1 hts (wG_V k_ml_X11_189 k_im_X11_censusOf k_se_X11_censusOf k_in_X11 k_co_X11_censusOf) rfl rfl rfl hd_X11_censusOf ⟨Nat.le_of_ble_eq_true rfl, Nat.le_of_ble_eq_true rfl⟩) hP hD hS (ci := 10) rfl 0 rfl rfl rfl hl.1 rfl (Nat.le_of_ble_eq_true rfl) dX11_kind_2 ⟨Nat.le_of_ble_eq_true rfl, Nat.le_of_ble_eq_true rfl⟩ (fun qt H locs hP hD hS => ?_)
  rw [List.nil_append] at hP hD
  refine lv_astoreN (lv' := [(4, .null), (0, .ref a), (1, .int x1), (2, .int x2), (3, .int x3)]) hx hb dX11_kind_5 hl (by decide) rfl (fun ls hl => ?_)
  refine lv_aloadN hx hb dX11_kind_7 (lv_at hl 0 rfl) ?_
  refine lv_ifnonnullN hx hb dX11_kind_9 ?_
  refine lv_iconst (v := (-1 : Int32)) hx hb dX11_kind_12 (by decide) ?_
  refine lv_goto (tgt := 23) hx hb dX11_kind_13 (by decide) ?_
  exact K (fun _ => 0) _ _ _ _ hP hD hS dX11_kind_23
set_option maxHeartbeats 1000000 in
set_option maxRecDepth 100000 in
theorem c_X11_kindb (l : Launch) (G : jGt) (D : va_G) (cI cB cZ cS cC cJ : ClassId) (a n k : Nat) (ui ut uu uk : Value) (g : Nat → Option Nat) (v0 v1 v3 v4 : Value) (v5 : Int32) (x1 x2 x3 : Int32) (b : Nat) (qs qt : Nat → Nat) (z : zSt) (y : zCe) {o : zCe} (h0 : ¬ x1 < 2) (h1 : ¬ 5 < x1) (h2 : x1 - 2 < 4) (h3 : vp_in (x1 - 2) 4) (hg : g (x1 - 2).toNatClampNeg = some b) (hf : zJd z y = some o) {r : Int32} (hr : zRo o x2 x3 = some r) : jMq l yX11_kind gX11_kind rX11_kind0 G D (jTx cI cB cZ cS cC cJ) [.ref a, .int x1, .int x2, .int x3] (wHc cC a n k ui ut uu uk  g ++ (wNl n (qs 7) v0 v1 v3 v4 v5 ++ (wLa cI qs z ++ wCe cI b qt y))) (fun _ => wHc cC a n k ui ut uu uk  g ++ (wNl n (qs 7) v0 v1 v3 v4 v5 ++ (wLa cI qs z ++ wCe cI b qt o))) r 0 0 := by
  refine jmk_qi RX11 rfl (by decide +kernel) rfl (Nat.le_of_ble_eq_true rfl) ?_
  intro p e s m args below meth c ls A Q C hP hD hS hl K
  obtain ⟨⟨hx, hb, hml, hown, hts⟩, hK, hN, hA⟩ := C
  refine lv_aload_n hx hb dX11_kind_0 rfl (lv_at hl 0 rfl) ?_
  refine lv_iload_n hx hb dX11_kind_1 rfl (lv_at hl 1 rfl) ?_
  refine jcB_o (B := []) (As := [.int x1]) (rest := []) ⟨hx, hb, hml, hown, hts⟩ hK hN hA (c_X11_censusOfb l G D cI cB cZ cS cC cJ a n k ui ut uu uk g v0 v1 v3 v4 v5 x1 b qs qt z y h0 h1 h2 h3 hg hf) (cwV 1 hts (wG_V k_ml_X11_189 k_im_X11_censusOf k_se_X11_censusOf k_in_X11 k_co_X11_censusOf) rfl rfl rfl hd_X11_censusOf ⟨Nat.le_of_ble_eq_true rfl, Nat.le_of_ble_eq_true rfl⟩) hP hD hS (ci := 10) rfl 0 wHc_0 rfl rfl hl.1 rfl (Nat.le_of_ble_eq_true rfl) dX11_kind_2 ⟨Nat.le_of_ble_eq_true rfl, Nat.le_of_ble_eq_true rfl⟩ (fun _ H locs hP hD hS => ?_)
  rw [List.nil_append] at hP hD
  refine lv_astore (lv' := [(4, .ref b), (0, .ref a), (1, .int x1), (2, .int x2), (3, .int x3)]) hx hb dX11_kind_5 hl (by decide) rfl (fun ls hl => ?_)
  refine lv_aload hx hb dX11_kind_7 (lv_at hl 0 rfl) ?_
  refine lv_ifnonnull (tgt := 16) hx hb dX11_kind_9 (by decide) ?_
  refine lv_aload hx hb dX11_kind_16 (lv_at hl 0 rfl) ?_
  refine lv_iload_n hx hb dX11_kind_18 rfl (lv_at hl 3 rfl) ?_
  refine lv_iload_n hx hb dX11_kind_19 rfl (lv_at hl 4 rfl) ?_
  refine jcV_i0 (As := [.int x2, .int x3]) (rest := []) ⟨hx, hb, hml, hown, hts⟩ (hK.sub [0, 1, 2] rfl) hN hA (c_X0_rowEntry l G D cI cB cZ b (qt 3) (qt 5) (qt 2) (.ref (qt 0)) o.2.2.2.2.2.1 (.ref (qt 1)) o.2.1 (.ref (qt 4)) o.2.2.1 o.2.2.2.2.1 (.ref (qt 6)) o.1 (.ref (qt 10)) o.2.2.2.1 o.2.2.2.2.2.2.1 o.2.2.2.2.2.2.2.1 o.2.2.2.2.2.2.2.2.2.2.1 o.2.2.2.2.2.2.2.2.2.2.2.2.2.2.1 x2 x3 hr) (cwV 2 hts (wG_V k_ml_X11_199 k_im_X0_rowEntry k_se_X0_rowEntry k_in_X0 k_co_X0_rowEntry) rfl rfl rfl hd_X0_rowEntry ⟨Nat.le_of_ble_eq_true rfl, Nat.le_of_ble_eq_true rfl⟩) hP hD hS [7, 11, 13, 10] rfl rfl rfl (ci := 0) rfl 7 rfl rfl rfl hl.1 rfl (Nat.le_of_ble_eq_true rfl) dX11_kind_20 ⟨Nat.le_of_ble_eq_true rfl, Nat.le_of_ble_eq_true rfl⟩ (fun H locs hP hD hS => ?_)
  exact K (fun _ => 0) _ _ _ _ hP hD hS dX11_kind_23
set_option maxHeartbeats 1000000 in
set_option maxRecDepth 100000 in
theorem c_X11_kindc (l : Launch) (G : jGt) (D : va_G) (cI cB cZ cS cC cJ : ClassId) (a n k : Nat) (ui ut uu uk : Value) (g : Nat → Option Nat) (v0 v1 v3 v4 : Value) (v5 : Int32) (x1 x2 x3 : Int32) (qs : Nat → Nat) (z : zSt) {y o : zCe} (h0 : ¬ x1 < 2) (h1 : ¬ 5 < x1) (h2 : x1 - 2 < 4) (h3 : vp_in (x1 - 2) 4) (hg : g (x1 - 2).toNatClampNeg = none) (hy : f_X0_init x1 = some y) (hf : zJd z y = some o) {r : Int32} (hr : zRo o x2 x3 = some r) : jMq l yX11_kind gX11_kind rX11_kind G D (jTx cI cB cZ cS cC cJ) [.ref a, .int x1, .int x2, .int x3] (wHc cC a n k ui ut uu uk  g ++ (wNl n (qs 7) v0 v1 v3 v4 v5 ++ wLa cI qs z)) (fun qt => wHc cC a n k ui ut uu uk  (va_up g (x1 - 2).toNatClampNeg (some (qt 0))) ++ (wNl n (qs 7) v0 v1 v3 v4 v5 ++ (wLa cI qs z ++ wCe cI (qt 0) (fun j => qt (j + 1)) o))) r 16 600 := by
  refine jmk_qi RX11 rfl (by decide +kernel) rfl (Nat.le_of_ble_eq_true rfl) ?_
  intro p e s m args below meth c ls A Q C hP hD hS hl K
  obtain ⟨⟨hx, hb, hml, hown, hts⟩, hK, hN, hA⟩ := C
  refine lv_aload_n hx hb dX11_kind_0 rfl (lv_at hl 0 rfl) ?_
  refine lv_iload_n hx hb dX11_kind_1 rfl (lv_at hl 1 rfl) ?_
  refine jcB_o (B := []) (As := [.int x1]) (rest := []) ⟨hx, hb, hml, hown, hts⟩ hK hN hA (c_X11_censusOfc l G D cI cB cZ cS cC cJ a n k ui ut uu uk g v0 v1 v3 v4 v5 x1 qs z h0 h1 h2 h3 hg hy hf) (cwV 1 hts (wG_V k_ml_X11_189 k_im_X11_censusOf k_se_X11_censusOf k_in_X11 k_co_X11_censusOf) rfl rfl rfl hd_X11_censusOf ⟨Nat.le_of_ble_eq_true rfl, Nat.le_of_ble_eq_true rfl⟩) hP hD hS (ci := 10) rfl 0 wHc_0 rfl rfl hl.1 rfl (Nat.le_of_ble_eq_true rfl) dX11_kind_2 ⟨Nat.le_of_ble_eq_true rfl, Nat.le_of_ble_eq_true rfl⟩ (fun qt H locs hP hD hS => ?_)
  rw [List.nil_append] at hP hD
  refine lv_astore (lv' := [(4, .ref (qt 0)), (0, .ref a), (1, .int x1), (2, .int x2), (3, .int x3)]) hx hb dX11_kind_5 hl (by decide) rfl (fun ls hl => ?_)
  refine lv_aload hx hb dX11_kind_7 (lv_at hl 0 rfl) ?_
  refine lv_ifnonnull (tgt := 16) hx hb dX11_kind_9 (by decide) ?_
  refine lv_aload hx hb dX11_kind_16 (lv_at hl 0 rfl) ?_
  refine lv_iload_n hx hb dX11_kind_18 rfl (lv_at hl 3 rfl) ?_
  refine lv_iload_n hx hb dX11_kind_19 rfl (lv_at hl 4 rfl) ?_
  refine jcV_i0 (As := [.int x2, .int x3]) (rest := []) ⟨hx, hb, hml, hown, hts⟩ (hK.sub [0, 1, 2] rfl) hN hA (c_X0_rowEntry l G D cI cB cZ (qt 0) (qt 4) (qt 6) (qt 3) (.ref (qt 1)) o.2.2.2.2.2.1 (.ref (qt 2)) o.2.1 (.ref (qt 5)) o.2.2.1 o.2.2.2.2.1 (.ref (qt 7)) o.1 (.ref (qt 11)) o.2.2.2.1 o.2.2.2.2.2.2.1 o.2.2.2.2.2.2.2.1 o.2.2.2.2.2.2.2.2.2.2.1 o.2.2.2.2.2.2.2.2.2.2.2.2.2.2.1 x2 x3 hr) (cwV 2 hts (wG_V k_ml_X11_199 k_im_X0_rowEntry k_se_X0_rowEntry k_in_X0 k_co_X0_rowEntry) rfl rfl rfl hd_X0_rowEntry ⟨Nat.le_of_ble_eq_true rfl, Nat.le_of_ble_eq_true rfl⟩) hP hD hS [7, 11, 13, 10] rfl rfl rfl (ci := 0) rfl 7 rfl rfl rfl hl.1 rfl (Nat.le_of_ble_eq_true rfl) dX11_kind_20 ⟨Nat.le_of_ble_eq_true rfl, Nat.le_of_ble_eq_true rfl⟩ (fun H locs hP hD hS => ?_)
  exact K qt _ _ _ _ hP hD hS dX11_kind_23

/-! image and again of the class -/
theorem k_co_X6_copyFrom : Cond.code yX6_copyFrom cX6_copyFrom 2 none ∈ lw_tbl := tb_6 _ (List.mem_of_getElem? (i := 21) (by decide +kernel))
theorem k_im_X6_copyFrom : Cond.instanceMethod yX6_copyFrom ∈ lw_tbl := tb_6 _ (List.mem_of_getElem? (i := 19) (by decide +kernel))
theorem k_ml_X11_284 : Cond.methodLink RX11 284 yX6_copyFrom ∈ lw_tbl := tb_6 _ (List.mem_of_getElem? (i := 18) (by decide +kernel))
theorem k_se_X6_copyFrom : Cond.selects RX6 yX6_copyFrom yX6_copyFrom ∈ lw_tbl := tb_6 _ (List.mem_of_getElem? (i := 20) (by decide +kernel))
theorem hd_X6_copyFrom : yX6_copyFrom.cls = RX6 ∧ yX6_copyFrom.cls ≠ "java/lang/invoke/MethodHandle" ∧ yX6_copyFrom.cls ≠ "java/lang/invoke/VarHandle" ∧ (parseMethodDescriptor yX6_copyFrom.desc).map (fun d => d.parameters.length) = some 1 := by decide +kernel
theorem j_in3 {x : Int32} {n : Nat} (h0 : ¬ x < 0) (h1 : x.toNatClampNeg < n) : vp_in x n := fun h => h.elim h0 (fun g => absurd h1 (Nat.not_lt.mpr g))
def wHi (cS : ClassId) (a n i : Nat) (ut uu uk uc : Value) (f : Nat → Option Nat) : va_W := [(a, .inr (10, (oX11 (.ref n) (.ref i) ut uu uk uc))), (i, .inl (cS, 3, .inr (.inr (.inr (.inr f)))))]
theorem wHi_set {cS : ClassId} {a n i : Nat} {ut uu uk uc : Value} {f g : Nat → Option Nat} {X : va_W} : (wHi cS a n i ut uu uk uc f ++ X).set 1 (i, .inl (cS, 3, .inr (.inr (.inr (.inr g))))) = wHi cS a n i ut uu uk uc g ++ X := rfl
theorem wHi_0 {cS : ClassId} {a n i : Nat} {ut uu uk uc : Value} {f : Nat → Option Nat} {X : va_W} : (wHi cS a n i ut uu uk uc f ++ X)[0]? = some (a, .inr (10, (oX11 (.ref n) (.ref i) ut uu uk uc))) := rfl
theorem wHi_1 {cS : ClassId} {a n i : Nat} {ut uu uk uc : Value} {f : Nat → Option Nat} {X : va_W} : (wHi cS a n i ut uu uk uc f ++ X)[1]? = some (i, .inl (cS, 3, .inr (.inr (.inr (.inr f))))) := rfl
theorem wHi_2 {cS : ClassId} {a n i k : Nat} {ut uu uk uc : Value} {f : Nat → Option Nat} {X : va_W} : (wHi cS a n i ut uu uk uc f ++ X)[2 + k]? = X[k]? := by
  rw [List.getElem?_append_right (by show 2 ≤ 2 + k; omega)]
  show X[2 + k - 2]? = _
  rw [show 2 + k - 2 = k by omega]
theorem wSt_0 {cI cB : ClassId} {a : Nat} {qs : Nat → Nat} {z : zSt} {X : va_W} : (wSt cI cB a qs z ++ X)[0]? = some (a, .inr (5, (oX6 (.ref (qs 0)) (.ref (qs 2)) (.ref (qs 7)) (.ref (qs 11)) (.ref (qs 22)) z.1))) := rfl
theorem wSt_0n {cI cB : ClassId} {a : Nat} {qs : Nat → Nat} {z : zSt} : (wSt cI cB a qs z)[0]? = some (a, .inr (5, (oX6 (.ref (qs 0)) (.ref (qs 2)) (.ref (qs 7)) (.ref (qs 11)) (.ref (qs 22)) z.1))) := rfl
theorem wSt_len {cI cB : ClassId} {a : Nat} {qs : Nat → Nat} {z : zSt} : (wSt cI cB a qs z).length = 24 := rfl
theorem wSt_24 {cI cB : ClassId} {a k : Nat} {qs : Nat → Nat} {z : zSt} {X : va_W} : (wSt cI cB a qs z ++ X)[24 + k]? = X[k]? := by
  rw [List.getElem?_append_right (by rw [wSt_len]; omega), wSt_len, show 24 + k - 24 = k by omega]
theorem wHi_26 {cS cI cB : ClassId} {a n i b d : Nat} {ut uu uk uc : Value} {f : Nat → Option Nat} {qs qt : Nat → Nat} {z y : zSt} : (wHi cS a n i ut uu uk uc f ++ (wSt cI cB d qs z ++ wSt cI cB b qt y))[26]? = some (b, .inr (5, (oX6 (.ref (qt 0)) (.ref (qt 2)) (.ref (qt 7)) (.ref (qt 11)) (.ref (qt 22)) y.1))) := by
  rw [show 26 = 2 + (24 + 0) from rfl, wHi_2, wSt_24, wSt_0n]
abbrev rX11_image : Room := { frames := 3, cells := 24, slots := 870, locals := 80 }
abbrev rX11_imag0 : Room := { frames := 3, cells := 0, slots := 0, locals := 80 }
abbrev gX11_image : List Cond := wG yX11_image cX11_image 2 (some .boolean)
abbrev rX11_again : Room := { frames := 3, cells := 0, slots := 0, locals := 80 }
abbrev gX11_again : List Cond := wG yX11_again cX11_again 2 (some .boolean)
set_option maxHeartbeats 1000000 in
set_option maxRecDepth 100000 in
theorem c_X11_imagea (l : Launch) (G : jGt) (D : va_G) (cI cB cZ cS cC cJ : ClassId) (a n i : Nat) (ut uu uk uc : Value) (f : Nat → Option Nat) (x1 : Int32) (h : x1 < 0 ∨ ¬ x1 < 3) : jMi l yX11_image gX11_image rX11_imag0 G D (jTx cI cB cZ cS cC cJ) [.ref a, .int x1] (wHi cS a n i ut uu uk uc  f) (wHi cS a n i ut uu uk uc  f) 0 := by
  refine jmk_z RX11 rfl (by decide +kernel) rfl (Nat.le_of_ble_eq_true rfl) rfl ?_
  intro p e s m args below meth c ls A Q C hP hD hS hl K
  obtain ⟨⟨hx, hb, hml, hown, hts⟩, hK, hN, hA⟩ := C
  refine lv_iload_n hx hb dX11_image_0 rfl (lv_at hl 1 rfl) ?_
  refine lv_if_lt (tgt := 13) hx hb dX11_image_1 (by decide) (fun c1 => ?_) (fun c1 => ?_)
  · refine lv_iconst (v := (0 : Int32)) hx hb dX11_image_13 (by decide) ?_
    exact K _ _ _ _ (Or.inl rfl) hP hS dX11_image_14
  · refine lv_iload_n hx hb dX11_image_4 rfl (lv_at hl 1 rfl) ?_
    refine lv_aload_n hx hb dX11_image_5 rfl (lv_at hl 0 rfl) ?_
    refine va_get (D := D) (ci := 10) (v := .ref i) (C := RX11) (T := TX11) (N := 6) hx hb hts iw_X11 hown hK hP 0 rfl rfl 1 (by decide) (hts _ (wG_in k_fl_X11_16 rfl)) (fun _ h9 => h9) rfl dX11_image_6 ?_
    refine va_alen (x := (3, .inr (.inr (.inr (.inr f))))) (v := 3) hx hb hK hP 1 3 rfl rfl rfl dX11_image_9 ?_
    refine lv_icmp_lt (tgt := 15) hx hb dX11_image_10 (by decide) (fun c2 => absurd c2 (h.resolve_left c1)) (fun _ => ?_)
    refine lv_iconst (v := (0 : Int32)) hx hb dX11_image_13 (by decide) ?_
    exact K _ _ _ _ (Or.inl rfl) hP hS dX11_image_14
set_option maxHeartbeats 1000000 in
set_option maxRecDepth 100000 in
theorem c_X11_imageb (l : Launch) (G : jGt) (D : va_G) (cI cB cZ cS cC cJ : ClassId) (a n i : Nat) (ut uu uk uc : Value) (f : Nat → Option Nat) (x1 : Int32) (b : Nat) (qs qt : Nat → Nat) (z y : zSt) {o : zSt} (h0 : ¬ x1 < 0) (h1 : x1 < 3) (h2 : x1.toNatClampNeg < 3) (hi : f x1.toNatClampNeg = some b) (hf : zCp z y = some o) : jMi l yX11_image gX11_image rX11_imag0 G D (jTx cI cB cZ cS cC cJ) [.ref a, .int x1] (wHi cS a n i ut uu uk uc  f ++ (wSt cI cB n qs z ++ wSt cI cB b qt y)) (wHi cS a n i ut uu uk uc  f ++ (wSt cI cB n qs z ++ wSt cI cB b qt o)) 1 := by
  refine jmk_z RX11 rfl (by decide +kernel) rfl (Nat.le_of_ble_eq_true rfl) rfl ?_
  intro p e s m args below meth c ls A Q C hP hD hS hl K
  obtain ⟨⟨hx, hb, hml, hown, hts⟩, hK, hN, hA⟩ := C
  refine lv_iload_n hx hb dX11_image_0 rfl (lv_at hl 1 rfl) ?_
  refine lv_if_lt (tgt := 13) hx hb dX11_image_1 (by decide) (fun c1 => absurd c1 h0) (fun _ => ?_)
  refine lv_iload_n hx hb dX11_image_4 rfl (lv_at hl 1 rfl) ?_
  refine lv_aload_n hx hb dX11_image_5 rfl (lv_at hl 0 rfl) ?_
  refine va_get (D := D) (ci := 10) (v := .ref i) (C := RX11) (T := TX11) (N := 6) hx hb hts iw_X11 hown hK hP 0 wHi_0 rfl 1 (by decide) (hts _ (wG_in k_fl_X11_16 rfl)) (fun _ h9 => h9) rfl dX11_image_6 ?_
  refine va_alen (x := (3, .inr (.inr (.inr (.inr f))))) (v := 3) hx hb hK hP 1 3 wHi_1 rfl rfl dX11_image_9 ?_
  refine lv_icmp_lt (tgt := 15) hx hb dX11_image_10 (by decide) (fun _ => ?_) (fun c2 => absurd h1 c2)
  refine lv_aload_n hx hb dX11_image_15 rfl (lv_at hl 0 rfl) ?_
  refine va_get (D := D) (ci := 10) (v := .ref i) (C := RX11) (T := TX11) (N := 6) hx hb hts iw_X11 hown hK hP 0 wHi_0 rfl 1 (by decide) (hts _ (wG_in k_fl_X11_16 rfl)) (fun _ h9 => h9) rfl dX11_image_16 ?_
  refine lv_iload_n hx hb dX11_image_19 rfl (lv_at hl 1 rfl) ?_
  refine ja_aald hx hb hK hP 1 3 wHi_1 rfl rfl (j_in3 h0 h2) (v := .ref b) (by rw [hi]; rfl) dX11_image_20 ?_
  refine lv_ifnonnull (tgt := 37) hx hb dX11_image_21 (by decide) ?_
  refine lv_aload_n hx hb dX11_image_37 rfl (lv_at hl 0 rfl) ?_
  refine va_get (D := D) (ci := 10) (v := .ref i) (C := RX11) (T := TX11) (N := 6) hx hb hts iw_X11 hown hK hP 0 wHi_0 rfl 1 (by decide) (hts _ (wG_in k_fl_X11_16 rfl)) (fun _ h9 => h9) rfl dX11_image_38 ?_
  refine lv_iload_n hx hb dX11_image_41 rfl (lv_at hl 1 rfl) ?_
  refine ja_aald hx hb hK hP 1 3 wHi_1 rfl rfl (j_in3 h0 h2) (v := .ref b) (by rw [hi]; rfl) dX11_image_42 ?_
  refine lv_aload_n hx hb dX11_image_43 rfl (lv_at hl 0 rfl) ?_
  refine va_get (D := D) (ci := 10) (v := .ref n) (C := RX11) (T := TX11) (N := 6) hx hb hts iw_X11 hown hK hP 0 wHi_0 rfl 0 (by decide) (hts _ (wG_in k_fl_X11_10 rfl)) (fun _ h9 => h9) rfl dX11_image_44 ?_
  refine jcB_v (As := [.ref n]) (rest := []) ⟨hx, hb, hml, hown, hts⟩ (hK.sub [0, 1, 2] rfl) hN hA (c_Scp l G D cI cB cZ n b qs qt z y hf) (cwV 1 hts (wG_V k_ml_X11_284 k_im_X6_copyFrom k_se_X6_copyFrom k_in_X6 k_co_X6_copyFrom) rfl rfl rfl hd_X6_copyFrom ⟨Nat.le_of_ble_eq_true rfl, Nat.le_of_ble_eq_true rfl⟩) hP hD hS (ci := 5) rfl 26 wHi_26 rfl rfl hl.1 rfl (Nat.le_of_ble_eq_true rfl) dX11_image_47 ⟨Nat.le_of_ble_eq_true rfl, Nat.le_of_ble_eq_true rfl⟩ (fun H locs hP hD hS => ?_)
  have hP : va_P D vwCl (wHi cS a n i ut uu uk uc  f ++ (wSt cI cB n qs z ++ wSt cI cB b qt o)) H := hP
  refine lv_iconst (v := (1 : Int32)) hx hb dX11_image_50 (by decide) ?_
  exact K _ _ _ _ (Or.inr rfl) hP hS dX11_image_51
set_option maxHeartbeats 1000000 in
set_option maxRecDepth 100000 in
theorem c_X11_imagec (l : Launch) (G : jGt) (D : va_G) (cI cB cZ cS cC cJ : ClassId) (a n i : Nat) (ut uu uk uc : Value) (f : Nat → Option Nat) (x1 : Int32) (qs : Nat → Nat) (z : zSt) {y o : zSt} (h0 : ¬ x1 < 0) (h1 : x1 < 3) (h2 : x1.toNatClampNeg < 3) (hi : f x1.toNatClampNeg = none) (hy : f_X6_init = some y) (hf : zCp z y = some o) : jMq l yX11_image gX11_image rX11_image G D (jTx cI cB cZ cS cC cJ) [.ref a, .int x1] (wHi cS a n i ut uu uk uc  f ++ wSt cI cB n qs z) (fun qt => wHi cS a n i ut uu uk uc  (va_up f x1.toNatClampNeg (some (qt 0))) ++ (wSt cI cB n qs z ++ wSt cI cB (qt 0) (fun k => qt (k + 1)) o)) 1 24 870 := by
  refine jmk_qz RX11 rfl (by decide +kernel) rfl (Nat.le_of_ble_eq_true rfl) (Or.inr rfl) ?_
  intro p e s m args below meth c ls A Q C hP hD hS hl K
  obtain ⟨⟨hx, hb, hml, hown, hts⟩, hK, hN, hA⟩ := C
  refine lv_iload_n hx hb dX11_image_0 rfl (lv_at hl 1 rfl) ?_
  refine lv_if_lt (tgt := 13) hx hb dX11_image_1 (by decide) (fun c1 => absurd c1 h0) (fun _ => ?_)
  refine lv_iload_n hx hb dX11_image_4 rfl (lv_at hl 1 rfl) ?_
  refine lv_aload_n hx hb dX11_image_5 rfl (lv_at hl 0 rfl) ?_
  refine va_get (D := D) (ci := 10) (v := .ref i) (C := RX11) (T := TX11) (N := 6) hx hb hts iw_X11 hown hK hP 0 wHi_0 rfl 1 (by decide) (hts _ (wG_in k_fl_X11_16 rfl)) (fun _ h9 => h9) rfl dX11_image_6 ?_
  refine va_alen (x := (3, .inr (.inr (.inr (.inr f))))) (v := 3) hx hb hK hP 1 3 wHi_1 rfl rfl dX11_image_9 ?_
  refine lv_icmp_lt (tgt := 15) hx hb dX11_image_10 (by decide) (fun _ => ?_) (fun c2 => absurd h1 c2)
  refine lv_aload_n hx hb dX11_image_15 rfl (lv_at hl 0 rfl) ?_
  refine va_get (D := D) (ci := 10) (v := .ref i) (C := RX11) (T := TX11) (N := 6) hx hb hts iw_X11 hown hK hP 0 wHi_0 rfl 1 (by decide) (hts _ (wG_in k_fl_X11_16 rfl)) (fun _ h9 => h9) rfl dX11_image_16 ?_
  refine lv_iload_n hx hb dX11_image_19 rfl (lv_at hl 1 rfl) ?_
  refine ja_aald hx hb hK hP 1 3 wHi_1 rfl rfl (j_in3 h0 h2) (v := .null) (by rw [hi]; rfl) dX11_image_20 ?_
  refine lv_ifnonnullN hx hb dX11_image_21 ?_
  refine lv_aload_n hx hb dX11_image_24 rfl (lv_at hl 0 rfl) ?_
  refine va_get (D := D) (ci := 10) (v := .ref i) (C := RX11) (T := TX11) (N := 6) hx hb hts iw_X11 hown hK hP 0 wHi_0 rfl 1 (by decide) (hts _ (wG_in k_fl_X11_16 rfl)) (fun _ h9 => h9) rfl dX11_image_25 ?_
  refine lv_iload_n hx hb dX11_image_28 rfl (lv_at hl 1 rfl) ?_
  refine va_new (ci := 5) (fs := [.null, .null, .null, .null, .null, .int 0]) (C := RX6) (T := TX6) (N := 6) hx hb hts iw_X6 tyX6 tyX6_ok hown (hts _ (wG_in k_cl_X11_7 rfl)) (hts _ (wG_in k_ib_X6 rfl)) (hts _ (wG_in k_in_X6 rfl)) hK hP hD hS hA.1 rfl (fun j hj => match j, hj with | 0, _ => rfl | 1, _ => rfl | 2, _ => rfl | 3, _ => rfl | 4, _ => rfl | 5, _ => rfl | (k + 6), h => absurd h (by omega)) (Nat.le_of_ble_eq_true rfl) (Nat.le_of_ble_eq_true rfl) dX11_image_29 (fun b H hP hD hS => ?_)
  refine lv_dup hx hb dX11_image_32 rfl ?_
  refine jcB_k (As := []) (rest := [.ref b, .int x1, .ref i]) ⟨hx, hb, hml, hown, hts⟩ (hK.sub [0, 1, 2] rfl) hN hA (c_Snew l G D cI cB cZ b hy) ⟨va_cnB 0 hts (wG_good k_co_X6_init) rfl rfl rfl (jN_l nl_X11_9 hN) (hts _ (wG_in k_in_X6 rfl)) hd_X6_init.2 ⟨Nat.le_of_ble_eq_true rfl, Nat.le_of_ble_eq_true rfl⟩, rfl, hts _ (wG_in k_im_X6_init rfl)⟩ hP hD hS rfl hl.1 rfl (Nat.le_of_ble_eq_true rfl) dX11_image_33 ⟨Nat.le_of_ble_eq_true rfl, Nat.le_of_ble_eq_true rfl⟩ (fun qt H locs hP hD hS => ?_)
  rw [List.append_assoc] at hP hD
  refine va_astq hx hb hK hP hD hS 1 3 26 5 wHi_1 rfl wHi_26 rfl (j_in3 h0 h2) dX11_image_36 (fun H locs hP hD hS => ?_)
  rw [wHi_set] at hP hD
  have hi1 : (va_up f x1.toNatClampNeg (some b)) x1.toNatClampNeg = some b := by simp [va_up]
  refine lv_aload_n hx hb dX11_image_37 rfl (lv_at hl 0 rfl) ?_
  refine va_get (D := D) (ci := 10) (v := .ref i) (C := RX11) (T := TX11) (N := 6) hx hb hts iw_X11 hown hK hP 0 wHi_0 rfl 1 (by decide) (hts _ (wG_in k_fl_X11_16 rfl)) (fun _ h9 => h9) rfl dX11_image_38 ?_
  refine lv_iload_n hx hb dX11_image_41 rfl (lv_at hl 1 rfl) ?_
  refine ja_aald hx hb hK hP 1 3 wHi_1 rfl rfl (j_in3 h0 h2) (v := .ref b) (by rw [hi1]; rfl) dX11_image_42 ?_
  refine lv_aload_n hx hb dX11_image_43 rfl (lv_at hl 0 rfl) ?_
  refine va_get (D := D) (ci := 10) (v := .ref n) (C := RX11) (T := TX11) (N := 6) hx hb hts iw_X11 hown hK hP 0 wHi_0 rfl 0 (by decide) (hts _ (wG_in k_fl_X11_10 rfl)) (fun _ h9 => h9) rfl dX11_image_44 ?_
  refine jcB_v (As := [.ref n]) (rest := []) ⟨hx, hb, hml, hown, hts⟩ (hK.sub [0, 1, 2] rfl) hN hA (c_Scp l G D cI cB cZ n b qs qt z y hf) (cwV 1 hts (wG_V k_ml_X11_284 k_im_X6_copyFrom k_se_X6_copyFrom k_in_X6 k_co_X6_copyFrom) rfl rfl rfl hd_X6_copyFrom ⟨Nat.le_of_ble_eq_true rfl, Nat.le_of_ble_eq_true rfl⟩) hP hD hS (ci := 5) rfl 26 wHi_26 rfl rfl hl.1 rfl (Nat.le_of_ble_eq_true rfl) dX11_image_47 ⟨Nat.le_of_ble_eq_true rfl, Nat.le_of_ble_eq_true rfl⟩ (fun H locs hP hD hS => ?_)
  have hP : va_P D vwCl (wHi cS a n i ut uu uk uc  (va_up f x1.toNatClampNeg (some b)) ++ (wSt cI cB n qs z ++ wSt cI cB b qt o)) H := hP
  have hD : va_D A (wHi cS a n i ut uu uk uc  (va_up f x1.toNatClampNeg (some b)) ++ (wSt cI cB n qs z ++ wSt cI cB b qt o)) := hD
  refine lv_iconst (v := (1 : Int32)) hx hb dX11_image_50 (by decide) ?_
  exact K (fun k => match k with | 0 => b | (j + 1) => qt j) _ _ _ _ hP hD hS dX11_image_51
set_option maxHeartbeats 1000000 in
set_option maxRecDepth 100000 in
theorem c_X11_againa (l : Launch) (G : jGt) (D : va_G) (cI cB cZ cS cC cJ : ClassId) (a n i : Nat) (ut uu uk uc : Value) (f : Nat → Option Nat) (x1 : Int32) (h : ¬ x1 < 0 → ¬ 3 ≤ x1 → vp_in x1 3 ∧ f x1.toNatClampNeg = none) : jMi l yX11_again gX11_again rX11_again G D (jTx cI cB cZ cS cC cJ) [.ref a, .int x1] (wHi cS a n i ut uu uk uc  f) (wHi cS a n i ut uu uk uc  f) 0 := by
  refine jmk_z RX11 rfl (by decide +kernel) rfl (Nat.le_of_ble_eq_true rfl) rfl ?_
  intro p e s m args below meth c ls A Q C hP hD hS hl K
  obtain ⟨⟨hx, hb, hml, hown, hts⟩, hK, hN, hA⟩ := C
  refine lv_iload_n hx hb dX11_again_0 rfl (lv_at hl 1 rfl) ?_
  refine lv_if_lt (tgt := 22) hx hb dX11_again_1 (by decide) (fun c1 => ?_) (fun c1 => ?_)
  · refine lv_iconst (v := (0 : Int32)) hx hb dX11_again_22 (by decide) ?_
    exact K _ _ _ _ (Or.inl rfl) hP hS dX11_again_23
  · refine lv_iload_n hx hb dX11_again_4 rfl (lv_at hl 1 rfl) ?_
    refine lv_aload_n hx hb dX11_again_5 rfl (lv_at hl 0 rfl) ?_
    refine va_get (D := D) (ci := 10) (v := .ref i) (C := RX11) (T := TX11) (N := 6) hx hb hts iw_X11 hown hK hP 0 rfl rfl 1 (by decide) (hts _ (wG_in k_fl_X11_16 rfl)) (fun _ h9 => h9) rfl dX11_again_6 ?_
    refine va_alen (x := (3, .inr (.inr (.inr (.inr f))))) (v := 3) hx hb hK hP 1 3 rfl rfl rfl dX11_again_9 ?_
    refine lv_icmp_ge (tgt := 22) hx hb dX11_again_10 (by decide) (fun c2 => ?_) (fun c2 => ?_)
    · refine lv_iconst (v := (0 : Int32)) hx hb dX11_again_22 (by decide) ?_
      exact K _ _ _ _ (Or.inl rfl) hP hS dX11_again_23
    · obtain ⟨g1, g2⟩ := h c1 c2
      refine lv_aload_n hx hb dX11_again_13 rfl (lv_at hl 0 rfl) ?_
      refine va_get (D := D) (ci := 10) (v := .ref i) (C := RX11) (T := TX11) (N := 6) hx hb hts iw_X11 hown hK hP 0 rfl rfl 1 (by decide) (hts _ (wG_in k_fl_X11_16 rfl)) (fun _ h9 => h9) rfl dX11_again_14 ?_
      refine lv_iload_n hx hb dX11_again_17 rfl (lv_at hl 1 rfl) ?_
      refine ja_aald hx hb hK hP 1 3 rfl rfl rfl g1 (v := .null) (by rw [g2]; rfl) dX11_again_18 ?_
      refine lv_ifnonnullN hx hb dX11_again_19 ?_
      refine lv_iconst (v := (0 : Int32)) hx hb dX11_again_22 (by decide) ?_
      exact K _ _ _ _ (Or.inl rfl) hP hS dX11_again_23
theorem wHk_27 {cS cI cB cZ : ClassId} {a n i b d k : Nat} {ut uu uk uc v1 v2 : Value} {v3 : Int32} {v4 v5 v6 v7 v8 : Value} {v9 v10 v11 : Int32} {f : Nat → Option Nat} {qs qt : Nat → Nat} {z y : zSt} : ((wHi cS a n i ut uu uk uc f ++ w_X2_forget cI cB cZ k v1 v2 v3 v4 v5 v6 v7 v8 v9 v10 v11) ++ (wSt cI cB d qs z ++ wSt cI cB b qt y))[27]? = some (b, .inr (5, (oX6 (.ref (qt 0)) (.ref (qt 2)) (.ref (qt 7)) (.ref (qt 11)) (.ref (qt 22)) y.1))) := by
  rw [List.append_assoc, show 27 = 2 + (24 + 1) from rfl, wHi_2]
  show (wSt cI cB d qs z ++ wSt cI cB b qt y)[24 + 0]? = _
  rw [wSt_24, wSt_0n]
theorem wHk_set {cS cI cB cZ : ClassId} {a n i k : Nat} {ut uu uk uc v1 v2 : Value} {v3 : Int32} {v4 v5 v6 v7 v8 : Value} {v9 v10 v11 v12 : Int32} {f : Nat → Option Nat} {X : va_W} : jset (wHi cS a n i ut uu uk uc f ++ (w_X2_forget cI cB cZ k v1 v2 v3 v4 v5 v6 v7 v8 v9 v10 v11 ++ X)) [2] (w_X2_forget cI cB cZ k v1 v2 v3 v4 v5 v6 v7 v8 v9 v10 v12) = wHi cS a n i ut uu uk uc f ++ (w_X2_forget cI cB cZ k v1 v2 v3 v4 v5 v6 v7 v8 v9 v10 v12 ++ X) := rfl
set_option maxHeartbeats 1000000 in
set_option maxRecDepth 100000 in
theorem c_X11_againb (l : Launch) (G : jGt) (D : va_G) (cI cB cZ cS cC cJ : ClassId) (a n i k : Nat) (ut uu uc : Value) (f : Nat → Option Nat) (v1 v2 : Value) (v3 : Int32) (v4 v5 v6 v7 v8 : Value) (v9 v10 v11 : Int32) (x1 : Int32) (b : Nat) (qs qt : Nat → Nat) (z y : zSt) {o : zSt} (h0 : ¬ x1 < 0) (h1 : ¬ 3 ≤ x1) (h2 : x1.toNatClampNeg < 3) (hi : f x1.toNatClampNeg = some b) (hf : zCp y z = some o) : jMi l yX11_again gX11_again rX11_again G D (jTx cI cB cZ cS cC cJ) [.ref a, .int x1] (wHi cS a n i ut uu (.ref k) uc f ++  (w_X2_forget cI cB cZ k v1 v2 v3 v4 v5 v6 v7 v8 v9 v10 v11 ++ (wSt cI cB b qt y ++ wSt cI cB n qs z))) (wHi cS a n i ut uu (.ref k) uc f ++  (w_X2_forget cI cB cZ k v1 v2 v3 v4 v5 v6 v7 v8 v9 v10 0 ++ (wSt cI cB b qt y ++ wSt cI cB n qs o))) 1 := by
  refine jmk_z RX11 rfl (by decide +kernel) rfl (Nat.le_of_ble_eq_true rfl) rfl ?_
  intro p e s m args below meth c ls A Q C hP hD hS hl K
  obtain ⟨⟨hx, hb, hml, hown, hts⟩, hK, hN, hA⟩ := C
  refine lv_iload_n hx hb dX11_again_0 rfl (lv_at hl 1 rfl) ?_
  refine lv_if_lt (tgt := 22) hx hb dX11_again_1 (by decide) (fun c1 => absurd c1 h0) (fun _ => ?_)
  refine lv_iload_n hx hb dX11_again_4 rfl (lv_at hl 1 rfl) ?_
  refine lv_aload_n hx hb dX11_again_5 rfl (lv_at hl 0 rfl) ?_
  refine va_get (D := D) (ci := 10) (v := .ref i) (C := RX11) (T := TX11) (N := 6) hx hb hts iw_X11 hown hK hP 0 wHi_0 rfl 1 (by decide) (hts _ (wG_in k_fl_X11_16 rfl)) (fun _ h9 => h9) rfl dX11_again_6 ?_
  refine va_alen (x := (3, .inr (.inr (.inr (.inr f))))) (v := 3) hx hb hK hP 1 3 wHi_1 rfl rfl dX11_again_9 ?_
  refine lv_icmp_ge (tgt := 22) hx hb dX11_again_10 (by decide) (fun c2 => absurd c2 h1) (fun _ => ?_)
  refine lv_aload_n hx hb dX11_again_13 rfl (lv_at hl 0 rfl) ?_
  refine va_get (D := D) (ci := 10) (v := .ref i) (C := RX11) (T := TX11) (N := 6) hx hb hts iw_X11 hown hK hP 0 wHi_0 rfl 1 (by decide) (hts _ (wG_in k_fl_X11_16 rfl)) (fun _ h9 => h9) rfl dX11_again_14 ?_
  refine lv_iload_n hx hb dX11_again_17 rfl (lv_at hl 1 rfl) ?_
  refine ja_aald hx hb hK hP 1 3 wHi_1 rfl rfl (j_in3 h0 h2) (v := .ref b) (by rw [hi]; rfl) dX11_again_18 ?_
  refine lv_ifnonnull (tgt := 24) hx hb dX11_again_19 (by decide) ?_
  refine lv_aload_n hx hb dX11_again_24 rfl (lv_at hl 0 rfl) ?_
  refine va_get (D := D) (ci := 10) (v := .ref n) (C := RX11) (T := TX11) (N := 6) hx hb hts iw_X11 hown hK hP 0 wHi_0 rfl 0 (by decide) (hts _ (wG_in k_fl_X11_10 rfl)) (fun _ h9 => h9) rfl dX11_again_25 ?_
  refine lv_aload_n hx hb dX11_again_28 rfl (lv_at hl 0 rfl) ?_
  refine va_get (D := D) (ci := 10) (v := .ref i) (C := RX11) (T := TX11) (N := 6) hx hb hts iw_X11 hown hK hP 0 wHi_0 rfl 1 (by decide) (hts _ (wG_in k_fl_X11_16 rfl)) (fun _ h9 => h9) rfl dX11_again_29 ?_
  refine lv_iload_n hx hb dX11_again_32 rfl (lv_at hl 1 rfl) ?_
  refine ja_aald hx hb hK hP 1 3 wHi_1 rfl rfl (j_in3 h0 h2) (v := .ref b) (by rw [hi]; rfl) dX11_again_33 ?_
  rw [← List.append_assoc] at hP hD
  refine jcB_v (As := [.ref b]) (rest := []) ⟨hx, hb, hml, hown, hts⟩ (hK.sub [0, 1, 2] rfl) hN hA (c_Scp l G D cI cB cZ b n qt qs y z hf) (cwV 1 hts (wG_V k_ml_X11_284 k_im_X6_copyFrom k_se_X6_copyFrom k_in_X6 k_co_X6_copyFrom) rfl rfl rfl hd_X6_copyFrom ⟨Nat.le_of_ble_eq_true rfl, Nat.le_of_ble_eq_true rfl⟩) hP hD hS (ci := 5) rfl 27 wHk_27 rfl rfl hl.1 rfl (Nat.le_of_ble_eq_true rfl) dX11_again_34 ⟨Nat.le_of_ble_eq_true rfl, Nat.le_of_ble_eq_true rfl⟩ (fun H locs hP hD hS => ?_)
  rw [List.append_assoc] at hP hD
  refine lv_aload_n hx hb dX11_again_37 rfl (lv_at hl 0 rfl) ?_
  refine va_get (D := D) (ci := 10) (v := .ref k) (C := RX11) (T := TX11) (N := 6) hx hb hts iw_X11 hown hK hP 0 wHi_0 rfl 4 (by decide) (hts _ (wG_in k_fl_X11_37 rfl)) (fun _ h9 => h9) rfl dX11_again_38 ?_
  refine jcV_v (As := []) (rest := []) ⟨hx, hb, hml, hown, hts⟩ (hK.sub [0, 1, 2] rfl) hN hA (c_X2_forget l G D cI cB cZ k v1 v2 v3 v4 v5 v6 v7 v8 v9 v10 v11 (o := 0) rfl) (cwV 0 hts (wG_V k_ml_X11_76 k_im_X2_forget k_se_X2_forget k_in_X2 k_co_X2_forget) rfl rfl rfl hd_X2_forget ⟨Nat.le_of_ble_eq_true rfl, Nat.le_of_ble_eq_true rfl⟩) hP hD hS [2] rfl rfl rfl (ci := 1) rfl 2 rfl rfl rfl hl.1 rfl (Nat.le_of_ble_eq_true rfl) dX11_again_41 ⟨Nat.le_of_ble_eq_true rfl, Nat.le_of_ble_eq_true rfl⟩ (fun H locs hP hD hS => ?_)
  rw [wHk_set] at hP
  refine lv_iconst (v := (1 : Int32)) hx hb dX11_again_44 (by decide) ?_
  exact K _ _ _ _ (Or.inr rfl) hP hS dX11_again_45

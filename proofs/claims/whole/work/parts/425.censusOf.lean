/-! censusOf of the class -/
theorem k_cl_X11_41 : Cond.classLink RX11 41 RX0 ∈ lw_tbl := tb_2 _ (List.mem_of_getElem? (i := 103) (by decide +kernel))
theorem k_co_X0_init : Cond.code yX0_init cX0_init 3 none ∈ lw_tbl := tb_4 _ (List.mem_of_getElem? (i := 167) (by decide +kernel))
theorem k_co_X0_judge : Cond.code yX0_judge cX0_judge 3 none ∈ lw_tbl := tb_5 _ (List.mem_of_getElem? (i := 28) (by decide +kernel))
theorem k_co_X0_rowEntry : Cond.code yX0_rowEntry cX0_rowEntry 4 (some .int) ∈ lw_tbl := tb_5 _ (List.mem_of_getElem? (i := 46) (by decide +kernel))
theorem k_co_X11_censusOf : Cond.code yX11_censusOf cX11_censusOf 3 (some (.object "SectionHouse$Census")) ∈ lw_tbl := tb_4 _ (List.mem_of_getElem? (i := 163) (by decide +kernel))
theorem k_fl_X11_193 : Cond.fieldLink RX11 193 "SectionHouse$Census" "lawfulSystems" "I" ∈ lw_tbl := tb_4 _ (List.mem_of_getElem? (i := 230) (by decide +kernel))
theorem k_fl_X11_196 : Cond.fieldLink RX11 196 "SectionHouse$Census" "lawfulCount" "I" ∈ lw_tbl := tb_4 _ (List.mem_of_getElem? (i := 228) (by decide +kernel))
theorem k_fl_X11_43 : Cond.fieldLink RX11 43 "SectionHouse" "censuses" "[LSectionHouse$Census;" ∈ lw_tbl := tb_2 _ (List.mem_of_getElem? (i := 110) (by decide +kernel))
theorem k_ib_X0 : Cond.instantiable RX0 15 ∈ lw_tbl := tb_4 _ (List.mem_of_getElem? (i := 164) (by decide +kernel))
theorem k_im_X0_init : Cond.instanceMethod yX0_init ∈ lw_tbl := tb_4 _ (List.mem_of_getElem? (i := 166) (by decide +kernel))
theorem k_im_X0_judge : Cond.instanceMethod yX0_judge ∈ lw_tbl := tb_5 _ (List.mem_of_getElem? (i := 26) (by decide +kernel))
theorem k_im_X0_rowEntry : Cond.instanceMethod yX0_rowEntry ∈ lw_tbl := tb_5 _ (List.mem_of_getElem? (i := 44) (by decide +kernel))
theorem k_im_X11_censusOf : Cond.instanceMethod yX11_censusOf ∈ lw_tbl := tb_4 _ (List.mem_of_getElem? (i := 162) (by decide +kernel))
theorem k_ml_X11_189 : Cond.methodLink RX11 189 yX11_censusOf ∈ lw_tbl := tb_4 _ (List.mem_of_getElem? (i := 160) (by decide +kernel))
theorem k_ml_X11_199 : Cond.methodLink RX11 199 yX0_rowEntry ∈ lw_tbl := tb_5 _ (List.mem_of_getElem? (i := 43) (by decide +kernel))
theorem k_ml_X11_291 : Cond.methodLink RX11 291 yX0_init ∈ lw_tbl := tb_4 _ (List.mem_of_getElem? (i := 165) (by decide +kernel))
theorem k_ml_X11_294 : Cond.methodLink RX11 294 yX0_judge ∈ lw_tbl := tb_5 _ (List.mem_of_getElem? (i := 25) (by decide +kernel))
theorem k_se_X0_judge : Cond.selects RX0 yX0_judge yX0_judge ∈ lw_tbl := tb_5 _ (List.mem_of_getElem? (i := 27) (by decide +kernel))
theorem k_se_X0_rowEntry : Cond.selects RX0 yX0_rowEntry yX0_rowEntry ∈ lw_tbl := tb_5 _ (List.mem_of_getElem? (i := 45) (by decide +kernel))
theorem k_se_X11_censusOf : Cond.selects RX11 yX11_censusOf yX11_censusOf ∈ lw_tbl := List.mem_append_left _ (List.mem_of_getElem? (i := 23) (by decide +kernel))
theorem hd_X0_init : yX0_init.cls = RX0 ∧ yX0_init.cls ≠ "java/lang/invoke/MethodHandle" ∧ yX0_init.cls ≠ "java/lang/invoke/VarHandle" ∧ (parseMethodDescriptor yX0_init.desc).map (fun d => d.parameters.length) = some 1 := by decide +kernel
theorem hd_X0_judge : yX0_judge.cls = RX0 ∧ yX0_judge.cls ≠ "java/lang/invoke/MethodHandle" ∧ yX0_judge.cls ≠ "java/lang/invoke/VarHandle" ∧ (parseMethodDescriptor yX0_judge.desc).map (fun d => d.parameters.length) = some 1 := by decide +kernel
theorem hd_X0_rowEntry : yX0_rowEntry.cls = RX0 ∧ yX0_rowEntry.cls ≠ "java/lang/invoke/MethodHandle" ∧ yX0_rowEntry.cls ≠ "java/lang/invoke/VarHandle" ∧ (parseMethodDescriptor yX0_rowEntry.desc).map (fun d => d.parameters.length) = some 2 := by decide +kernel
theorem hd_X11_censusOf : yX11_censusOf.cls = RX11 ∧ yX11_censusOf.cls ≠ "java/lang/invoke/MethodHandle" ∧ yX11_censusOf.cls ≠ "java/lang/invoke/VarHandle" ∧ (parseMethodDescriptor yX11_censusOf.desc).map (fun d => d.parameters.length) = some 1 := by decide +kernel
def wHc (cC : ClassId) (a n k : Nat) (ui ut uu uk : Value) (g : Nat → Option Nat) : va_W := [(a, .inr (10, (oX11 (.ref n) ui ut uu uk (.ref k)))), (k, .inl (cC, 4, .inr (.inr (.inr (.inr g)))))]
def wNl (n d : Nat) (v0 v1 v3 v4 : Value) (v5 : Int32) : va_W := [(n, .inr (5, (oX6 v0 v1 (.ref d) v3 v4 v5)))]
theorem wHc_set {cC : ClassId} {a n k : Nat} {ui ut uu uk : Value} {f g : Nat → Option Nat} {X : va_W} : (wHc cC a n k ui ut uu uk f ++ X).set 1 (k, .inl (cC, 4, .inr (.inr (.inr (.inr g))))) = wHc cC a n k ui ut uu uk g ++ X := rfl
theorem wHc_0 {cC : ClassId} {a n k : Nat} {ui ut uu uk : Value} {g : Nat → Option Nat} {X : va_W} : (wHc cC a n k ui ut uu uk g ++ X)[0]? = some (a, .inr (10, (oX11 (.ref n) ui ut uu uk (.ref k)))) := rfl
theorem wHc_1 {cC : ClassId} {a n k : Nat} {ui ut uu uk : Value} {g : Nat → Option Nat} {X : va_W} : (wHc cC a n k ui ut uu uk g ++ X)[1]? = some (k, .inl (cC, 4, .inr (.inr (.inr (.inr g))))) := rfl
theorem wHc_2 {cC : ClassId} {a n k d : Nat} {ui ut uu uk v0 v1 v3 v4 : Value} {v5 : Int32} {g : Nat → Option Nat} {X : va_W} : (wHc cC a n k ui ut uu uk g ++ (wNl n d v0 v1 v3 v4 v5 ++ X))[2]? = some (n, .inr (5, (oX6 v0 v1 (.ref d) v3 v4 v5))) := rfl
abbrev rX11_censusOf : Room := { frames := 5, cells := 16, slots := 600, locals := 130 }
abbrev rX11_censusO0 : Room := { frames := 5, cells := 0, slots := 0, locals := 130 }
abbrev gX11_censusOf : List Cond := wG yX11_censusOf cX11_censusOf 3 (some (.object "SectionHouse$Census"))
set_option maxHeartbeats 1000000 in
set_option maxRecDepth 100000 in
theorem c_X11_censusOfa (l : Launch) (G : jGt) (D : va_G) (cI cB cZ cS cC cJ : ClassId) (a n k : Nat) (ui ut uu uk : Value) (g : Nat → Option Nat) (x1 : Int32) (h : ¬ x1 < 2 → ¬ 5 < x1 → ¬ x1 - 2 < 4) : jMo l yX11_censusOf gX11_censusOf rX11_censusO0 G D (jTx cI cB cZ cS cC cJ) [.ref a, .int x1] (wHc cC a n k ui ut uu uk  g) (fun _ => wHc cC a n k ui ut uu uk  g) (fun _ => none) 0 0 := by
  refine jmk_qo RX11 rfl (by decide +kernel) rfl (Nat.le_of_ble_eq_true rfl) ?_
  intro p e s m args below meth c ls A Q C hP hD hS hl K
  obtain ⟨⟨hx, hb, hml, hown, hts⟩, hK, hN, hA⟩ := C
  refine lv_iload_n hx hb dX11_censusOf_0 rfl (lv_at hl 1 rfl) ?_
  refine lv_iconst (v := (2 : Int32)) hx hb dX11_censusOf_1 (by decide) ?_
  refine lv_isub hx hb dX11_censusOf_2 ?_
  refine lv_istore_n (lv' := [(2, .int (x1 - 2)), (0, .ref a), (1, .int x1)]) hx hb dX11_censusOf_3 rfl hl (by decide) rfl (fun ls hl => ?_)
  refine lv_iload_n hx hb dX11_censusOf_4 rfl (lv_at hl 2 rfl) ?_
  refine lv_iconst (v := (2 : Int32)) hx hb dX11_censusOf_5 (by decide) ?_
  refine lv_icmp_lt (tgt := 23) hx hb dX11_censusOf_6 (by decide) (fun c1 => ?_) (fun c1 => ?_)
  · refine lv_null hx hb dX11_censusOf_23 ?_
    exact K (fun _ => 0) _ _ _ _ hP hD hS dX11_censusOf_24
  · refine lv_iload_n hx hb dX11_censusOf_9 rfl (lv_at hl 2 rfl) ?_
    refine lv_iconst (v := (5 : Int32)) hx hb dX11_censusOf_10 (by decide) ?_
    refine lv_icmp_gt (tgt := 23) hx hb dX11_censusOf_11 (by decide) (fun c2 => ?_) (fun c2 => ?_)
    · refine lv_null hx hb dX11_censusOf_23 ?_
      exact K (fun _ => 0) _ _ _ _ hP hD hS dX11_censusOf_24
    · refine lv_iload_n hx hb dX11_censusOf_14 rfl (lv_at hl 0 rfl) ?_
      refine lv_aload_n hx hb dX11_censusOf_15 rfl (lv_at hl 1 rfl) ?_
      refine va_get (D := D) (ci := 10) (v := .ref k) (C := RX11) (T := TX11) (N := 6) hx hb hts iw_X11 hown hK hP 0 rfl rfl 5 (by decide) (hts _ (wG_in k_fl_X11_43 rfl)) (fun _ h9 => h9) rfl dX11_censusOf_16 ?_
      refine va_alen (x := (4, .inr (.inr (.inr (.inr g))))) (v := 4) hx hb hK hP 1 4 rfl rfl rfl dX11_censusOf_19 ?_
      refine lv_icmp_lt (tgt := 25) hx hb dX11_censusOf_20 (by decide) (fun c3 => absurd c3 (h c1 c2)) (fun c3 => ?_)
      refine lv_null hx hb dX11_censusOf_23 ?_
      exact K (fun _ => 0) _ _ _ _ hP hD hS dX11_censusOf_24
set_option maxHeartbeats 1000000 in
set_option maxRecDepth 100000 in
theorem c_X11_censusOfb (l : Launch) (G : jGt) (D : va_G) (cI cB cZ cS cC cJ : ClassId) (a n k : Nat) (ui ut uu uk : Value) (g : Nat → Option Nat) (v0 v1 v3 v4 : Value) (v5 : Int32) (x1 : Int32) (b : Nat) (qs qt : Nat → Nat) (z : zSt) (y : zCe) {o : zCe} (h0 : ¬ x1 < 2) (h1 : ¬ 5 < x1) (h2 : x1 - 2 < 4) (h3 : vp_in (x1 - 2) 4) (hg : g (x1 - 2).toNatClampNeg = some b) (hf : zJd z y = some o) : jMo l yX11_censusOf gX11_censusOf rX11_censusO0 G D (jTx cI cB cZ cS cC cJ) [.ref a, .int x1] (wHc cC a n k ui ut uu uk  g ++ (wNl n (qs 7) v0 v1 v3 v4 v5 ++ (wLa cI qs z ++ wCe cI b qt y))) (fun _ => wHc cC a n k ui ut uu uk  g ++ (wNl n (qs 7) v0 v1 v3 v4 v5 ++ (wLa cI qs z ++ wCe cI b qt o))) (fun _ => some b) 0 0 := by
  refine jmk_qo RX11 rfl (by decide +kernel) rfl (Nat.le_of_ble_eq_true rfl) ?_
  intro p e s m args below meth c ls A Q C hP hD hS hl K
  obtain ⟨⟨hx, hb, hml, hown, hts⟩, hK, hN, hA⟩ := C
  refine lv_iload_n hx hb dX11_censusOf_0 rfl (lv_at hl 1 rfl) ?_
  refine lv_iconst (v := (2 : Int32)) hx hb dX11_censusOf_1 (by decide) ?_
  refine lv_isub hx hb dX11_censusOf_2 ?_
  refine lv_istore_n (lv' := [(2, .int (x1 - 2)), (0, .ref a), (1, .int x1)]) hx hb dX11_censusOf_3 rfl hl (by decide) rfl (fun ls hl => ?_)
  refine lv_iload_n hx hb dX11_censusOf_4 rfl (lv_at hl 2 rfl) ?_
  refine lv_iconst (v := (2 : Int32)) hx hb dX11_censusOf_5 (by decide) ?_
  refine lv_icmp_lt (tgt := 23) hx hb dX11_censusOf_6 (by decide) (fun c1 => absurd c1 h0) (fun _ => ?_)
  refine lv_iload_n hx hb dX11_censusOf_9 rfl (lv_at hl 2 rfl) ?_
  refine lv_iconst (v := (5 : Int32)) hx hb dX11_censusOf_10 (by decide) ?_
  refine lv_icmp_gt (tgt := 23) hx hb dX11_censusOf_11 (by decide) (fun c1 => absurd c1 h1) (fun _ => ?_)
  refine lv_iload_n hx hb dX11_censusOf_14 rfl (lv_at hl 0 rfl) ?_
  refine lv_aload_n hx hb dX11_censusOf_15 rfl (lv_at hl 1 rfl) ?_
  refine va_get (D := D) (ci := 10) (v := .ref k) (C := RX11) (T := TX11) (N := 6) hx hb hts iw_X11 hown hK hP 0 wHc_0 rfl 5 (by decide) (hts _ (wG_in k_fl_X11_43 rfl)) (fun _ h9 => h9) rfl dX11_censusOf_16 ?_
  refine va_alen (x := (4, .inr (.inr (.inr (.inr g))))) (v := 4) hx hb hK hP 1 4 wHc_1 rfl rfl dX11_censusOf_19 ?_
  refine lv_icmp_lt (tgt := 25) hx hb dX11_censusOf_20 (by decide) (fun _ => ?_) (fun c1 => absurd h2 c1)
  refine lv_aload_n hx hb dX11_censusOf_25 rfl (lv_at hl 1 rfl) ?_
  refine va_get (D := D) (ci := 10) (v := .ref k) (C := RX11) (T := TX11) (N := 6) hx hb hts iw_X11 hown hK hP 0 wHc_0 rfl 5 (by decide) (hts _ (wG_in k_fl_X11_43 rfl)) (fun _ h9 => h9) rfl dX11_censusOf_26 ?_
  refine lv_iload_n hx hb dX11_censusOf_29 rfl (lv_at hl 0 rfl) ?_
  refine ja_aald hx hb hK hP 1 4 wHc_1 rfl rfl h3 (v := .ref b) (by rw [hg]; rfl) dX11_censusOf_30 ?_
  refine lv_ifnonnull (tgt := 48) hx hb dX11_censusOf_31 (by decide) ?_
  refine lv_aload_n hx hb dX11_censusOf_48 rfl (lv_at hl 1 rfl) ?_
  refine va_get (D := D) (ci := 10) (v := .ref k) (C := RX11) (T := TX11) (N := 6) hx hb hts iw_X11 hown hK hP 0 wHc_0 rfl 5 (by decide) (hts _ (wG_in k_fl_X11_43 rfl)) (fun _ h9 => h9) rfl dX11_censusOf_49 ?_
  refine lv_iload_n hx hb dX11_censusOf_52 rfl (lv_at hl 0 rfl) ?_
  refine ja_aald hx hb hK hP 1 4 wHc_1 rfl rfl h3 (v := .ref b) (by rw [hg]; rfl) dX11_censusOf_53 ?_
  refine lv_aload_n hx hb dX11_censusOf_54 rfl (lv_at hl 1 rfl) ?_
  refine va_get (D := D) (ci := 10) (v := .ref n) (C := RX11) (T := TX11) (N := 6) hx hb hts iw_X11 hown hK hP 0 wHc_0 rfl 0 (by decide) (hts _ (wG_in k_fl_X11_10 rfl)) (fun _ h9 => h9) rfl dX11_censusOf_55 ?_
  refine va_get (D := D) (ci := 5) (v := .ref (qs 7)) (C := RX6) (T := TX6) (N := 6) hx hb hts iw_X6 hown hK hP 2 wHc_2 rfl 2 (by decide) (hts _ (wG_in k_fl_X11_86 rfl)) (fun _ h9 => h9) rfl dX11_censusOf_58 ?_
  replace hP := jP_perm (j_prm wCe_split) hP
  replace hD := jD_perm (j_prm wCe_split) hD
  refine jcB_v (As := [.ref (qs 7)]) (rest := []) ⟨hx, hb, hml, hown, hts⟩ (hK.sub [0, 1, 2] rfl) hN hA (c_Cjd l G D cI cB cZ b qs qt z y hf) (cwV 1 hts (wG_V k_ml_X11_294 k_im_X0_judge k_se_X0_judge k_in_X0 k_co_X0_judge) rfl rfl rfl hd_X0_judge ⟨Nat.le_of_ble_eq_true rfl, Nat.le_of_ble_eq_true rfl⟩) hP hD hS (ci := 0) rfl 9 rfl rfl rfl hl.1 rfl (Nat.le_of_ble_eq_true rfl) dX11_censusOf_61 ⟨Nat.le_of_ble_eq_true rfl, Nat.le_of_ble_eq_true rfl⟩ (fun H locs hP hD hS => ?_)
  rw [← wCk_jd hf] at hP hD
  replace hP := jP_perm (j_prm wCe_split).symm hP
  replace hD := jD_perm (j_prm wCe_split).symm hD
  refine lv_aload_n hx hb dX11_censusOf_64 rfl (lv_at hl 1 rfl) ?_
  refine va_get (D := D) (ci := 10) (v := .ref k) (C := RX11) (T := TX11) (N := 6) hx hb hts iw_X11 hown hK hP 0 wHc_0 rfl 5 (by decide) (hts _ (wG_in k_fl_X11_43 rfl)) (fun _ h9 => h9) rfl dX11_censusOf_65 ?_
  refine lv_iload_n hx hb dX11_censusOf_68 rfl (lv_at hl 0 rfl) ?_
  refine ja_aald hx hb hK hP 1 4 wHc_1 rfl rfl h3 (v := .ref b) (by rw [hg]; rfl) dX11_censusOf_69 ?_
  exact K (fun _ => 0) _ _ _ _ hP hD hS dX11_censusOf_70
set_option maxHeartbeats 1000000 in
set_option maxRecDepth 100000 in
theorem c_X11_censusOfc (l : Launch) (G : jGt) (D : va_G) (cI cB cZ cS cC cJ : ClassId) (a n k : Nat) (ui ut uu uk : Value) (g : Nat → Option Nat) (v0 v1 v3 v4 : Value) (v5 : Int32) (x1 : Int32) (qs : Nat → Nat) (z : zSt) {y o : zCe} (h0 : ¬ x1 < 2) (h1 : ¬ 5 < x1) (h2 : x1 - 2 < 4) (h3 : vp_in (x1 - 2) 4) (hg : g (x1 - 2).toNatClampNeg = none) (hy : f_X0_init x1 = some y) (hf : zJd z y = some o) : jMo l yX11_censusOf gX11_censusOf rX11_censusOf G D (jTx cI cB cZ cS cC cJ) [.ref a, .int x1] (wHc cC a n k ui ut uu uk  g ++ (wNl n (qs 7) v0 v1 v3 v4 v5 ++ wLa cI qs z)) (fun qt => wHc cC a n k ui ut uu uk  (va_up g (x1 - 2).toNatClampNeg (some (qt 0))) ++ (wNl n (qs 7) v0 v1 v3 v4 v5 ++ (wLa cI qs z ++ wCe cI (qt 0) (fun j => qt (j + 1)) o))) (fun qt => some (qt 0)) 16 600 := by
  refine jmk_qo RX11 rfl (by decide +kernel) rfl (Nat.le_of_ble_eq_true rfl) ?_
  intro p e s m args below meth c ls A Q C hP hD hS hl K
  obtain ⟨⟨hx, hb, hml, hown, hts⟩, hK, hN, hA⟩ := C
  refine lv_iload_n hx hb dX11_censusOf_0 rfl (lv_at hl 1 rfl) ?_
  refine lv_iconst (v := (2 : Int32)) hx hb dX11_censusOf_1 (by decide) ?_
  refine lv_isub hx hb dX11_censusOf_2 ?_
  refine lv_istore_n (lv' := [(2, .int (x1 - 2)), (0, .ref a), (1, .int x1)]) hx hb dX11_censusOf_3 rfl hl (by decide) rfl (fun ls hl => ?_)
  refine lv_iload_n hx hb dX11_censusOf_4 rfl (lv_at hl 2 rfl) ?_
  refine lv_iconst (v := (2 : Int32)) hx hb dX11_censusOf_5 (by decide) ?_
  refine lv_icmp_lt (tgt := 23) hx hb dX11_censusOf_6 (by decide) (fun c1 => absurd c1 h0) (fun _ => ?_)
  refine lv_iload_n hx hb dX11_censusOf_9 rfl (lv_at hl 2 rfl) ?_
  refine lv_iconst (v := (5 : Int32)) hx hb dX11_censusOf_10 (by decide) ?_
  refine lv_icmp_gt (tgt := 23) hx hb dX11_censusOf_11 (by decide) (fun c1 => absurd c1 h1) (fun _ => ?_)
  refine lv_iload_n hx hb dX11_censusOf_14 rfl (lv_at hl 0 rfl) ?_
  refine lv_aload_n hx hb dX11_censusOf_15 rfl (lv_at hl 1 rfl) ?_
  refine va_get (D := D) (ci := 10) (v := .ref k) (C := RX11) (T := TX11) (N := 6) hx hb hts iw_X11 hown hK hP 0 wHc_0 rfl 5 (by decide) (hts _ (wG_in k_fl_X11_43 rfl)) (fun _ h9 => h9) rfl dX11_censusOf_16 ?_
  refine va_alen (x := (4, .inr (.inr (.inr (.inr g))))) (v := 4) hx hb hK hP 1 4 wHc_1 rfl rfl dX11_censusOf_19 ?_
  refine lv_icmp_lt (tgt := 25) hx hb dX11_censusOf_20 (by decide) (fun _ => ?_) (fun c1 => absurd h2 c1)
  refine lv_aload_n hx hb dX11_censusOf_25 rfl (lv_at hl 1 rfl) ?_
  refine va_get (D := D) (ci := 10) (v := .ref k) (C := RX11) (T := TX11) (N := 6) hx hb hts iw_X11 hown hK hP 0 wHc_0 rfl 5 (by decide) (hts _ (wG_in k_fl_X11_43 rfl)) (fun _ h9 => h9) rfl dX11_censusOf_26 ?_
  refine lv_iload_n hx hb dX11_censusOf_29 rfl (lv_at hl 0 rfl) ?_
  refine ja_aald hx hb hK hP 1 4 wHc_1 rfl rfl h3 (v := .null) (by rw [hg]; rfl) dX11_censusOf_30 ?_
  refine lv_ifnonnullN hx hb dX11_censusOf_31 ?_
  refine lv_aload_n hx hb dX11_censusOf_34 rfl (lv_at hl 1 rfl) ?_
  refine va_get (D := D) (ci := 10) (v := .ref k) (C := RX11) (T := TX11) (N := 6) hx hb hts iw_X11 hown hK hP 0 wHc_0 rfl 5 (by decide) (hts _ (wG_in k_fl_X11_43 rfl)) (fun _ h9 => h9) rfl dX11_censusOf_35 ?_
  refine lv_iload_n hx hb dX11_censusOf_38 rfl (lv_at hl 0 rfl) ?_
  refine va_new (ci := 0) (fs := [.int 0, .null, .int 0, .null, .int 0, .null, .null, .null, .int 0, .null, .int 0, .int 0, .null, .int 0, .null]) (C := RX0) (T := TX0) (N := 15) hx hb hts iw_X0 tyX0 tyX0_ok hown (hts _ (wG_in k_cl_X11_41 rfl)) (hts _ (wG_in k_ib_X0 rfl)) (hts _ (wG_in k_in_X0 rfl)) hK hP hD hS hA.1 rfl (fun j hj => match j, hj with | 0, _ => rfl | 1, _ => rfl | 2, _ => rfl | 3, _ => rfl | 4, _ => rfl | 5, _ => rfl | 6, _ => rfl | 7, _ => rfl | 8, _ => rfl | 9, _ => rfl | 10, _ => rfl | 11, _ => rfl | 12, _ => rfl | 13, _ => rfl | 14, _ => rfl | (k + 15), h => absurd h (by omega)) (Nat.le_of_ble_eq_true rfl) (Nat.le_of_ble_eq_true rfl) dX11_censusOf_39 (fun b H hP hD hS => ?_)
  refine lv_dup hx hb dX11_censusOf_42 rfl ?_
  refine lv_iload_n hx hb dX11_censusOf_43 rfl (lv_at hl 2 rfl) ?_
  refine jcB_K (As := [.int x1]) (rest := [.ref b, .int (x1 - 2), .ref k]) ⟨hx, hb, hml, hown, hts⟩ (hK.sub [0, 1, 2] rfl) hN hA (c_Cnew l G D cI cB cZ b x1 hy) (cwI 1 hts (wG_good k_co_X0_init) rfl rfl rfl (hts _ (wG_in k_in_X0 rfl)) (hts _ (wG_in k_ml_X11_291 rfl)) (hts _ (wG_in k_im_X0_init rfl)) rfl hd_X0_init.2 ⟨Nat.le_of_ble_eq_true rfl, Nat.le_of_ble_eq_true rfl⟩) hP hD hS rfl hl.1 rfl (Nat.le_of_ble_eq_true rfl) dX11_censusOf_44 ⟨Nat.le_of_ble_eq_true rfl, Nat.le_of_ble_eq_true rfl⟩ (fun qt H locs hP hD hS => ?_)
  rw [List.append_assoc, List.append_assoc] at hP hD
  refine va_astq hx hb hK hP hD hS 1 4 7 0 wHc_1 rfl rfl rfl h3 dX11_censusOf_47 (fun H locs hP hD hS => ?_)
  rw [wHc_set] at hP hD
  have hg1 : va_up g (x1 - 2).toNatClampNeg (some b) (x1 - 2).toNatClampNeg = some b := by simp [va_up]
  refine lv_aload_n hx hb dX11_censusOf_48 rfl (lv_at hl 1 rfl) ?_
  refine va_get (D := D) (ci := 10) (v := .ref k) (C := RX11) (T := TX11) (N := 6) hx hb hts iw_X11 hown hK hP 0 wHc_0 rfl 5 (by decide) (hts _ (wG_in k_fl_X11_43 rfl)) (fun _ h9 => h9) rfl dX11_censusOf_49 ?_
  refine lv_iload_n hx hb dX11_censusOf_52 rfl (lv_at hl 0 rfl) ?_
  refine ja_aald hx hb hK hP 1 4 wHc_1 rfl rfl h3 (v := .ref b) (by rw [hg1]; rfl) dX11_censusOf_53 ?_
  refine lv_aload_n hx hb dX11_censusOf_54 rfl (lv_at hl 1 rfl) ?_
  refine va_get (D := D) (ci := 10) (v := .ref n) (C := RX11) (T := TX11) (N := 6) hx hb hts iw_X11 hown hK hP 0 wHc_0 rfl 0 (by decide) (hts _ (wG_in k_fl_X11_10 rfl)) (fun _ h9 => h9) rfl dX11_censusOf_55 ?_
  refine va_get (D := D) (ci := 5) (v := .ref (qs 7)) (C := RX6) (T := TX6) (N := 6) hx hb hts iw_X6 hown hK hP 2 wHc_2 rfl 2 (by decide) (hts _ (wG_in k_fl_X11_86 rfl)) (fun _ h9 => h9) rfl dX11_censusOf_58 ?_
  replace hP := jP_perm (j_prm wCe_split) hP
  replace hD := jD_perm (j_prm wCe_split) hD
  refine jcB_v (As := [.ref (qs 7)]) (rest := []) ⟨hx, hb, hml, hown, hts⟩ (hK.sub [0, 1, 2] rfl) hN hA (c_Cjd l G D cI cB cZ b qs qt z y hf) (cwV 1 hts (wG_V k_ml_X11_294 k_im_X0_judge k_se_X0_judge k_in_X0 k_co_X0_judge) rfl rfl rfl hd_X0_judge ⟨Nat.le_of_ble_eq_true rfl, Nat.le_of_ble_eq_true rfl⟩) hP hD hS (ci := 0) rfl 9 rfl rfl rfl hl.1 rfl (Nat.le_of_ble_eq_true rfl) dX11_censusOf_61 ⟨Nat.le_of_ble_eq_true rfl, Nat.le_of_ble_eq_true rfl⟩ (fun H locs hP hD hS => ?_)
  rw [← wCk_jd hf] at hP hD
  replace hP := jP_perm (j_prm wCe_split).symm hP
  replace hD := jD_perm (j_prm wCe_split).symm hD
  refine lv_aload_n hx hb dX11_censusOf_64 rfl (lv_at hl 1 rfl) ?_
  refine va_get (D := D) (ci := 10) (v := .ref k) (C := RX11) (T := TX11) (N := 6) hx hb hts iw_X11 hown hK hP 0 wHc_0 rfl 5 (by decide) (hts _ (wG_in k_fl_X11_43 rfl)) (fun _ h9 => h9) rfl dX11_censusOf_65 ?_
  refine lv_iload_n hx hb dX11_censusOf_68 rfl (lv_at hl 0 rfl) ?_
  refine ja_aald hx hb hK hP 1 4 wHc_1 rfl rfl h3 (v := .ref b) (by rw [hg1]; rfl) dX11_censusOf_69 ?_
  exact K (fun j => match j with | 0 => b | (j + 1) => qt j) _ _ _ _ hP hD hS dX11_censusOf_70

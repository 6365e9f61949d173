theorem k_co_J0_charAt_5068e : Cond.code yJ0_charAt_5068e cJ0_charAt_5068e 2 (some .char) ∈ lw_tbl := tb_2 _ (List.mem_of_getElem? (i := 212) (by decide +kernel))
theorem k_co_J0_checkIndex_df160 : Cond.code yJ0_checkIndex_df160 cJ0_checkIndex_df160 2 none ∈ lw_tbl := tb_2 _ (List.mem_of_getElem? (i := 222) (by decide +kernel))
theorem k_co_J0_coder_7d493 : Cond.code yJ0_coder_7d493 cJ0_coder_7d493 1 (some .byte) ∈ lw_tbl := tb_2 _ (List.mem_of_getElem? (i := 206) (by decide +kernel))
theorem k_co_J0_isLatin1_aae02 : Cond.code yJ0_isLatin1_aae02 cJ0_isLatin1_aae02 1 (some .boolean) ∈ lw_tbl := tb_2 _ (List.mem_of_getElem? (i := 216) (by decide +kernel))
theorem k_co_J0_length_8abf5 : Cond.code yJ0_length_8abf5 cJ0_length_8abf5 1 (some .int) ∈ lw_tbl := tb_2 _ (List.mem_of_getElem? (i := 202) (by decide +kernel))
theorem k_co_J1_charAt_3b067 : Cond.code yJ1_charAt_3b067 cJ1_charAt_3b067 2 (some .char) ∈ lw_tbl := tb_2 _ (List.mem_of_getElem? (i := 219) (by decide +kernel))
theorem k_co_J3_checkIndex_8e157 : Cond.code yJ3_checkIndex_8e157 cJ3_checkIndex_8e157 3 (some .int) ∈ lw_tbl := tb_2 _ (List.mem_of_getElem? (i := 227) (by decide +kernel))
theorem k_fl_J0_1053 : Cond.fieldLink RJ0 1053 "jdk/internal/util/Preconditions" "SIOOBE_FORMATTER" "Ljava/util/function/BiFunction;" ∈ lw_tbl := tb_2 _ (List.mem_of_getElem? (i := 223) (by decide +kernel))
theorem k_fl_J0_15 : Cond.fieldLink RJ0 15 "java/lang/String" "coder" "B" ∈ lw_tbl := tb_8 _ (List.mem_of_getElem? (i := 175) (by decide +kernel))
theorem k_fl_J0_38 : Cond.fieldLink RJ0 38 "java/lang/String" "COMPACT_STRINGS" "Z" ∈ lw_tbl := tb_2 _ (List.mem_of_getElem? (i := 207) (by decide +kernel))
theorem k_fl_J0_9 : Cond.fieldLink RJ0 9 "java/lang/String" "value" "[B" ∈ lw_tbl := tb_8 _ (List.mem_of_getElem? (i := 174) (by decide +kernel))
theorem k_im_J0_charAt_5068e : Cond.instanceMethod yJ0_charAt_5068e ∈ lw_tbl := tb_2 _ (List.mem_of_getElem? (i := 210) (by decide +kernel))
theorem k_im_J0_coder_7d493 : Cond.instanceMethod yJ0_coder_7d493 ∈ lw_tbl := tb_2 _ (List.mem_of_getElem? (i := 204) (by decide +kernel))
theorem k_im_J0_isLatin1_aae02 : Cond.instanceMethod yJ0_isLatin1_aae02 ∈ lw_tbl := tb_2 _ (List.mem_of_getElem? (i := 214) (by decide +kernel))
theorem k_im_J0_length_8abf5 : Cond.instanceMethod yJ0_length_8abf5 ∈ lw_tbl := tb_2 _ (List.mem_of_getElem? (i := 200) (by decide +kernel))
theorem k_in_J0 : Cond.initialized RJ0 ∈ lw_tbl := tb_1 _ (List.mem_of_getElem? (i := 13) (by decide +kernel))
theorem k_in_J1 : Cond.initialized RJ1 ∈ lw_tbl := tb_1 _ (List.mem_of_getElem? (i := 14) (by decide +kernel))
theorem k_in_J3 : Cond.initialized RJ3 ∈ lw_tbl := tb_1 _ (List.mem_of_getElem? (i := 15) (by decide +kernel))
theorem k_ml_J0_1059 : Cond.methodLink RJ0 1059 yJ3_checkIndex_8e157 ∈ lw_tbl := tb_2 _ (List.mem_of_getElem? (i := 225) (by decide +kernel))
theorem k_ml_J0_335 : Cond.methodLink RJ0 335 yJ0_coder_7d493 ∈ lw_tbl := tb_2 _ (List.mem_of_getElem? (i := 203) (by decide +kernel))
theorem k_ml_J0_492 : Cond.methodLink RJ0 492 yJ0_isLatin1_aae02 ∈ lw_tbl := tb_2 _ (List.mem_of_getElem? (i := 213) (by decide +kernel))
theorem k_ml_J0_495 : Cond.methodLink RJ0 495 yJ1_charAt_3b067 ∈ lw_tbl := tb_2 _ (List.mem_of_getElem? (i := 217) (by decide +kernel))
theorem k_ml_J1_9 : Cond.methodLink RJ1 9 yJ0_checkIndex_df160 ∈ lw_tbl := tb_2 _ (List.mem_of_getElem? (i := 220) (by decide +kernel))
theorem k_se_J0_charAt_5068e : Cond.selects RJ0 yJ0_charAt_5068e yJ0_charAt_5068e ∈ lw_tbl := tb_2 _ (List.mem_of_getElem? (i := 211) (by decide +kernel))
theorem k_se_J0_coder_7d493 : Cond.selects RJ0 yJ0_coder_7d493 yJ0_coder_7d493 ∈ lw_tbl := tb_2 _ (List.mem_of_getElem? (i := 205) (by decide +kernel))
theorem k_se_J0_isLatin1_aae02 : Cond.selects RJ0 yJ0_isLatin1_aae02 yJ0_isLatin1_aae02 ∈ lw_tbl := tb_2 _ (List.mem_of_getElem? (i := 215) (by decide +kernel))
theorem k_se_J0_length_8abf5 : Cond.selects RJ0 yJ0_length_8abf5 yJ0_length_8abf5 ∈ lw_tbl := tb_2 _ (List.mem_of_getElem? (i := 201) (by decide +kernel))
theorem k_st_J0_checkIndex_df160 : Cond.static yJ0_checkIndex_df160 ∈ lw_tbl := tb_2 _ (List.mem_of_getElem? (i := 221) (by decide +kernel))
theorem k_st_J1_charAt_3b067 : Cond.static yJ1_charAt_3b067 ∈ lw_tbl := tb_2 _ (List.mem_of_getElem? (i := 218) (by decide +kernel))
theorem k_st_J3_checkIndex_8e157 : Cond.static yJ3_checkIndex_8e157 ∈ lw_tbl := tb_2 _ (List.mem_of_getElem? (i := 226) (by decide +kernel))
theorem hd_J0_charAt_5068e : yJ0_charAt_5068e.cls = RJ0 ∧ yJ0_charAt_5068e.cls ≠ "java/lang/invoke/MethodHandle" ∧ yJ0_charAt_5068e.cls ≠ "java/lang/invoke/VarHandle" ∧ (parseMethodDescriptor yJ0_charAt_5068e.desc).map (fun d => d.parameters.length) = some 1 := by decide +kernel
theorem hd_J0_checkIndex_df160 : yJ0_checkIndex_df160.cls = RJ0 ∧ yJ0_checkIndex_df160.cls ≠ "java/lang/invoke/MethodHandle" ∧ yJ0_checkIndex_df160.cls ≠ "java/lang/invoke/VarHandle" ∧ (parseMethodDescriptor yJ0_checkIndex_df160.desc).map (fun d => d.parameters.length) = some 2 := by decide +kernel
theorem hd_J0_coder_7d493 : yJ0_coder_7d493.cls = RJ0 ∧ yJ0_coder_7d493.cls ≠ "java/lang/invoke/MethodHandle" ∧ yJ0_coder_7d493.cls ≠ "java/lang/invoke/VarHandle" ∧ (parseMethodDescriptor yJ0_coder_7d493.desc).map (fun d => d.parameters.length) = some 0 := by decide +kernel
theorem hd_J0_isLatin1_aae02 : yJ0_isLatin1_aae02.cls = RJ0 ∧ yJ0_isLatin1_aae02.cls ≠ "java/lang/invoke/MethodHandle" ∧ yJ0_isLatin1_aae02.cls ≠ "java/lang/invoke/VarHandle" ∧ (parseMethodDescriptor yJ0_isLatin1_aae02.desc).map (fun d => d.parameters.length) = some 0 := by decide +kernel
theorem hd_J0_length_8abf5 : yJ0_length_8abf5.cls = RJ0 ∧ yJ0_length_8abf5.cls ≠ "java/lang/invoke/MethodHandle" ∧ yJ0_length_8abf5.cls ≠ "java/lang/invoke/VarHandle" ∧ (parseMethodDescriptor yJ0_length_8abf5.desc).map (fun d => d.parameters.length) = some 0 := by decide +kernel
theorem hd_J1_charAt_3b067 : yJ1_charAt_3b067.cls = RJ1 ∧ yJ1_charAt_3b067.cls ≠ "java/lang/invoke/MethodHandle" ∧ yJ1_charAt_3b067.cls ≠ "java/lang/invoke/VarHandle" ∧ (parseMethodDescriptor yJ1_charAt_3b067.desc).map (fun d => d.parameters.length) = some 2 := by decide +kernel
theorem hd_J3_checkIndex_8e157 : yJ3_checkIndex_8e157.cls = RJ3 ∧ yJ3_checkIndex_8e157.cls ≠ "java/lang/invoke/MethodHandle" ∧ yJ3_checkIndex_8e157.cls ≠ "java/lang/invoke/VarHandle" ∧ (parseMethodDescriptor yJ3_checkIndex_8e157.desc).map (fun d => d.parameters.length) = some 3 := by decide +kernel
abbrev rJ0_coder_7d493 : Room := { frames := 0, cells := 0, slots := 0, locals := 0 }
abbrev gJ0_coder_7d493 : List Cond := wG yJ0_coder_7d493 cJ0_coder_7d493 1 (some .byte)
abbrev rJ0_isLatin1_aae02 : Room := { frames := 0, cells := 0, slots := 0, locals := 0 }
abbrev gJ0_isLatin1_aae02 : List Cond := wG yJ0_isLatin1_aae02 cJ0_isLatin1_aae02 1 (some .boolean)
abbrev rJ3_checkIndex_8e157 : Room := { frames := 0, cells := 0, slots := 0, locals := 0 }
abbrev gJ3_checkIndex_8e157 : List Cond := wG yJ3_checkIndex_8e157 cJ3_checkIndex_8e157 3 (some .int)
abbrev rJ0_length_8abf5 : Room := { frames := 1, cells := 0, slots := 0, locals := 20 }
abbrev gJ0_length_8abf5 : List Cond := wG yJ0_length_8abf5 cJ0_length_8abf5 1 (some .int)
abbrev rJ0_checkIndex_df160 : Room := { frames := 1, cells := 0, slots := 0, locals := 22 }
abbrev gJ0_checkIndex_df160 : List Cond := wG yJ0_checkIndex_df160 cJ0_checkIndex_df160 2 none
abbrev rJ1_charAt_3b067 : Room := { frames := 2, cells := 0, slots := 0, locals := 43 }
abbrev gJ1_charAt_3b067 : List Cond := wG yJ1_charAt_3b067 cJ1_charAt_3b067 2 (some .char)
abbrev rJ0_charAt_5068e : Room := { frames := 3, cells := 0, slots := 0, locals := 64 }
abbrev gJ0_charAt_5068e : List Cond := wG yJ0_charAt_5068e cJ0_charAt_5068e 2 (some .char)
section JSTR
variable {p : Program} {l : Launch} {e : Env} {R : Room} {s : State} {m : MethodId} {args : Array Value} {below : List Frame} {meth : Method} {c : Code} {H : Heap} {locs : List Loc} {cells slots : Nat} {Q : State → Prop}
variable {cc bytes : ByteArray} {nL maxL index n pc : Nat} {ls : Array Slot} {Ts ws : List Cond} {own C : String} {y : MethodName} {ret : Option FieldType} {rm : Room} {b : Addr} {rest st0 : List Value} {G : jGt} {D : va_G} {tys : List (ClassId × FieldType)} {A : Nat → Prop} {W0 : va_W} {r : Int32}
/-- a call on an object that is no cell of ours -/
theorem jcU_i0 (S : CallFix p m c cc nL s args Ts own) (hK : va_K D vwCl tys s) (hN : jN G s) (hA : (∀ q, s.heap.size ≤ q → A q) ∧ ∀ q, A q → G.1 ≤ q) {As : List Value} (hM : jMi l y ws rm G D tys (.ref b :: As) [] [] r) (cw : CallW R s args own C index y bytes maxL ret ws rm 0 0 n) (hP : va_P D vwCl W0 H) (hD : va_D A W0) (hS : va_S A s.heap H locs) (hO : va_O C b A s s.heap) (hn : As.length = n) (hsz : ls.size = nL) (hst : st0 = As.reverse ++ .ref b :: rest) (hrest : (rest.map fun v => v.category).sum ≤ 8) (hdg : decode cc pc = .ok (.invokevirtual index, 3)) (hf : cells + 0 ≤ R.cells ∧ slots + 0 ≤ R.slots)
    (kk : ∀ (H1 : Heap) (locs1 : List Loc), va_P D vwCl W0 H1 → va_D A W0 → va_S A s.heap H1 locs1 → W p l e R s m args below meth c H1 locs1 cells slots Q (F0 m (pc + 3) ls (.int r :: rest))) : W p l e R s m args below meth c H locs cells slots Q (F0 m pc ls st0) := by
  have hC : ([] : List Nat).map (fun i => W0[i]?) = ([] : va_W).map some := rfl
  have hFc := va_free hD hS hA.1 [] hC
  obtain ⟨cell, h1, h2, h3, -⟩ := hO.kept hS.2.1
  refine va_calli (va_runV S (hM.2 H.size) cw ⟨jblind, ⟨cell, h1, h2, h3⟩, jpre hC rfl hP hD hS hK hN hA.2⟩ rfl hn hsz hst (lv_room hrest) hdg hf) hS (fun q _ h => hFc q h) hFc (fun r1 u t H1 locs1 ht hvm hw hB hz1 hk1 hS1 => ?_)
  subst hw
  rw [ht] at hB
  exact kk H1 locs1 (j_ret0 hP hD [] hC hk1 hB) hD hS1
end JSTR
theorem jmk_n {l : Launch} {y : MethodName} {ws ws' : List Cond} {rm : Room} {G : jGt} {D : va_G} {tys : List (ClassId × FieldType)} {av : List Value} {c0 c1 : va_W} {r : Int32} {cc : ByteArray} {maxL : Nat} {rt : FieldType} (own : String) (hown : y.cls = own) (hy : plainName y.cls = true) (hw : ws = Cond.code y cc maxL (some rt) :: ws') (hlen : (lg_sl av).length ≤ maxL) (hadr : c1.map (·.1) = c0.map (·.1)) (hn : narrow rt (.int r) = .int r)
    (body : ∀ (p : Program) (e : Env) (s : State) (m : MethodId) (args : Array Value) (below : List Frame) (meth : Method) (c : Code) (ls : Array Slot) (A : Nat → Prop) (Q : State → Prop), jCx p s m args c cc maxL ws own G D tys A → va_P D vwCl c0 s.heap → va_D A c0 → va_S A s.heap s.heap [] → lv_has ls maxL (lv_args 0 av) → (∀ (H : Heap) (locs : List Loc) (pc : Nat) (ls : Array Slot), va_P D vwCl c1 H → va_S A s.heap H locs → decode cc pc = .ok (.ireturn, 1) → W p l e rm s m args below meth c H locs 0 0 Q (F0 m pc ls [.int r])) → W p l e rm s m args below meth c s.heap [] 0 0 Q (F0 m 0 ls [])) : jMi l y ws rm G D tys av c0 c1 r := by
  refine ⟨hadr, ?_⟩
  intro sz
  refine Met.ofW (cc := cc) (maxL := maxL) (ret := some rt) hy hw ?_
  intro p e s m args below meth c s₁ B hml hv
  obtain ⟨rfl, hsz, hP, hK, hD0, hN⟩ := hv
  have hx := B.exec
  have hb := B.bytes
  have hr := B.returns
  have hts := atoms_spec (ws := ws) B.pre
  have hown2 : s.vm.findClass own = some m.cls := by rw [← hown]; exact findClass_of_methodNamed B.named
  have hlocks := B.notSynchronized
  subst hsz
  have hD := hD0.self (sz := s.heap.size)
  have hl := lv_entry av (n := maxL) hlen
  rw [lg_entry_eq]
  refine body p e s m _ below meth c _ (va_A c0 s.heap.size) _ ⟨⟨hx, hb, hml, hown2, hts⟩, hK, hN, fun q h => Or.inr h, fun q h => h.elim (fun ⟨k, e, h⟩ => hD0.2 k _ h) (fun h => Nat.le_trans hN.2.1 h)⟩ hP hD va_S.rf hl (fun H locs pc ls hP1 hS hd => ?_)
  exact W.zret (v := r) hx hb hr hn (fun t ht hW => ⟨⟨r, (), rfl, rfl, by show va_P D vwCl c1 t.heap; rw [ht]; exact hP1⟩, hS.F ht⟩) hS.2.2 hd
theorem jst_len : ∀ q ∈ jSt, q.2.2.2.length ≤ 8 := by decide +kernel
theorem jst_lt {k : Nat} {q : String × Nat × String × List Int32} (h : jSt[k]? = some q) : q.2.2.2.length ≤ 8 := jst_len q (List.mem_of_getElem? h)
def f_J0_length_8abf5 (x0 : Nat) : Option Int32 := match jSt[x0]? with | none => none | some q => some (Int32.ofNat q.2.2.2.length >>> ((0 : Int32) &&& 31))
def f_J0_charAt_5068e (x0 : Nat) (x1 : Int32) : Option Int32 := match jSt[x0]? with | none => none | some q => if x1 < 0 ∨ q.2.2.2.length ≤ x1.toNatClampNeg then none else some (((q.2.2.2.getD x1.toNatClampNeg 0) &&& 255).toUInt32 % 65536).toInt32
set_option maxHeartbeats 4000000 in
theorem c_J0_coder_7d493 (l : Launch) (G : jGt) (D : va_G) (cI cB cZ : ClassId) (k : Nat) {q : String × Nat × String × List Int32} (hk : jSt[k]? = some q) : jMi l yJ0_coder_7d493 gJ0_coder_7d493 rJ0_coder_7d493 G D (jT cI cB cZ) [.ref (G.2.1 k)] [] [] 0 := by
  refine jmk_n RJ0 rfl (by decide +kernel) rfl (Nat.le_of_ble_eq_true rfl) rfl (by decide) ?_
  intro p e s m args below meth c ls A Q C hP hD hS hl K
  obtain ⟨⟨hx, hb, hml, hown, hts⟩, hK, hN, hA⟩ := C
  obtain ⟨g1, g2, g3, g4, g5⟩ := hN.2.2.1 k q hk
  have hl : lv_has ls 1 [(0, .ref (G.2.1 k))] := hl
  refine va_gets (v := .int 1) hx hb (hN.2.2.2.1.narrow hA.2) hS hown (hts _ (wG_in k_fl_J0_38 rfl)) (fun _ h => h) dJ0_coder_7d493_0 ?_
  refine lv_if_eq (tgt := 13) hx hb dJ0_coder_7d493_3 (by decide) (fun h => absurd h (by decide)) (fun _ => ?_)
  refine lv_aload_n hx hb dJ0_coder_7d493_6 rfl (lv_at hl 0 rfl) ?_
  refine vk_getf hx hb (g3.narrow hA.2) hS hown (hts _ (wG_in k_fl_J0_15 rfl)) (fun _ h => h) dJ0_coder_7d493_7 ?_
  refine lv_goto (tgt := 14) hx hb dJ0_coder_7d493_10 (by decide) ?_
  exact K _ _ _ _ hP hS dJ0_coder_7d493_14
set_option maxHeartbeats 4000000 in
theorem c_J0_isLatin1_aae02 (l : Launch) (G : jGt) (D : va_G) (cI cB cZ : ClassId) (k : Nat) {q : String × Nat × String × List Int32} (hk : jSt[k]? = some q) : jMi l yJ0_isLatin1_aae02 gJ0_isLatin1_aae02 rJ0_isLatin1_aae02 G D (jT cI cB cZ) [.ref (G.2.1 k)] [] [] 1 := by
  refine jmk_n RJ0 rfl (by decide +kernel) rfl (Nat.le_of_ble_eq_true rfl) rfl (by decide) ?_
  intro p e s m args below meth c ls A Q C hP hD hS hl K
  obtain ⟨⟨hx, hb, hml, hown, hts⟩, hK, hN, hA⟩ := C
  obtain ⟨g1, g2, g3, g4, g5⟩ := hN.2.2.1 k q hk
  have hl : lv_has ls 1 [(0, .ref (G.2.1 k))] := hl
  refine va_gets (v := .int 1) hx hb (hN.2.2.2.1.narrow hA.2) hS hown (hts _ (wG_in k_fl_J0_38 rfl)) (fun _ h => h) dJ0_isLatin1_aae02_0 ?_
  refine lv_if_eq (tgt := 17) hx hb dJ0_isLatin1_aae02_3 (by decide) (fun h => absurd h (by decide)) (fun _ => ?_)
  refine lv_aload_n hx hb dJ0_isLatin1_aae02_6 rfl (lv_at hl 0 rfl) ?_
  refine vk_getf hx hb (g3.narrow hA.2) hS hown (hts _ (wG_in k_fl_J0_15 rfl)) (fun _ h => h) dJ0_isLatin1_aae02_7 ?_
  refine lv_if_ne (tgt := 17) hx hb dJ0_isLatin1_aae02_10 (by decide) (fun h => absurd rfl h) (fun _ => ?_)
  refine lv_iconst (v := 1) hx hb dJ0_isLatin1_aae02_13 (by decide) ?_
  refine lv_goto (tgt := 18) hx hb dJ0_isLatin1_aae02_14 (by decide) ?_
  exact K _ _ _ _ hP hS dJ0_isLatin1_aae02_18
set_option maxHeartbeats 4000000 in
theorem c_J0_length_8abf5 (l : Launch) (G : jGt) (D : va_G) (cI cB cZ : ClassId) (x0 : Nat) {o : Int32} (hf : f_J0_length_8abf5 x0 = some o) : jMi l yJ0_length_8abf5 gJ0_length_8abf5 rJ0_length_8abf5 G D (jT cI cB cZ) [.ref (G.2.1 x0)] [] [] o := by
  unfold f_J0_length_8abf5 at hf
  cases hk : jSt[x0]? with
  | none => rw [hk] at hf; cases hf
  | some q =>
    rw [hk] at hf
    have ho := Option.some.inj hf
    subst ho
    refine jmk_i RJ0 rfl (by decide +kernel) rfl (Nat.le_of_ble_eq_true rfl) rfl ?_
    intro p e s m args below meth c ls A Q C hP hD hS hl K
    obtain ⟨⟨hx, hb, hml, hown, hts⟩, hK, hN, hA⟩ := C
    obtain ⟨g1, g2, g3, g4, g5⟩ := hN.2.2.1 x0 q hk
    have hl : lv_has ls 1 [(0, .ref (G.2.1 x0))] := hl
    refine lv_aload_n hx hb dJ0_length_8abf5_0 rfl (lv_at hl 0 rfl) ?_
    refine vk_getf hx hb (g4.narrow hA.2) hS hown (hts _ (wG_in k_fl_J0_9 rfl)) (fun _ h => h) dJ0_length_8abf5_1 ?_
    refine va_tlen hx hb (g5.narrow hA.2) hS rfl dJ0_length_8abf5_4 ?_
    refine lv_aload_n hx hb dJ0_length_8abf5_5 rfl (lv_at hl 0 rfl) ?_
    refine jcU_i0 (As := []) (rest := [.int (Int32.ofNat q.2.2.2.length)]) ⟨hx, hb, hml, hown, hts⟩ hK hN hA (c_J0_coder_7d493 l G D cI cB cZ x0 hk) (cwV 0 hts (wG_V k_ml_J0_335 k_im_J0_coder_7d493 k_se_J0_coder_7d493 k_in_J0 k_co_J0_coder_7d493) rfl rfl rfl hd_J0_coder_7d493 ⟨Nat.le_of_ble_eq_true rfl, Nat.le_of_ble_eq_true rfl⟩) hP hD hS (g2.narrow hA.2) rfl hl.1 rfl (Nat.le_of_ble_eq_true rfl) dJ0_length_8abf5_6 ⟨Nat.le_of_ble_eq_true rfl, Nat.le_of_ble_eq_true rfl⟩ (fun H locs hP hD hS => ?_)
    refine lv_ishr hx hb dJ0_length_8abf5_9 ?_
    exact K _ _ _ _ hP hS dJ0_length_8abf5_10
set_option maxHeartbeats 4000000 in
theorem c_J3_checkIndex_8e157 (l : Launch) (G : jGt) (D : va_G) (cI cB cZ : ClassId) (i k : Int32) (v : Value) (hv : v = .null ∨ ∃ t, v = .ref t) (h1 : ¬ i < 0) (h2 : i < k) : jMi l yJ3_checkIndex_8e157 gJ3_checkIndex_8e157 rJ3_checkIndex_8e157 G D (jT cI cB cZ) [.int i, .int k, v] [] [] i := by
  have hc : v.category = 1 := by rcases hv with rfl | ⟨t, rfl⟩ <;> rfl
  refine jmk_i RJ3 rfl (by decide +kernel) rfl (by rcases hv with rfl | ⟨t, rfl⟩ <;> exact Nat.le_of_ble_eq_true rfl) rfl ?_
  intro p e s m args below meth c ls A Q C hP hD hS hl K
  obtain ⟨⟨hx, hb, hml, hown, hts⟩, hK, hN, hA⟩ := C
  have hl : lv_has ls 3 [(0, .int i), (1, .int k), (2, v)] := hl
  refine lv_iload_n hx hb dJ3_checkIndex_8e157_0 rfl (lv_at hl 0 rfl) ?_
  refine lv_if_lt (tgt := 9) hx hb dJ3_checkIndex_8e157_1 (by decide) (fun h => absurd h h1) (fun _ => ?_)
  refine lv_iload_n hx hb dJ3_checkIndex_8e157_4 rfl (lv_at hl 0 rfl) ?_
  refine lv_iload_n hx hb dJ3_checkIndex_8e157_5 rfl (lv_at hl 1 rfl) ?_
  refine lv_icmp_lt (tgt := 16) hx hb dJ3_checkIndex_8e157_6 (by decide) (fun _ => ?_) (fun h => absurd h2 h)
  refine lv_iload_n hx hb dJ3_checkIndex_8e157_16 rfl (lv_at hl 0 rfl) ?_
  exact K _ _ _ _ hP hS dJ3_checkIndex_8e157_17
set_option maxHeartbeats 4000000 in
theorem c_J0_checkIndex_df160 (l : Launch) (G : jGt) (D : va_G) (cI cB cZ : ClassId) (i k : Int32) (h1 : ¬ i < 0) (h2 : i < k) : jMv l yJ0_checkIndex_df160 gJ0_checkIndex_df160 rJ0_checkIndex_df160 G D (jT cI cB cZ) [.int i, .int k] [] [] := by
  refine jmk_v RJ0 rfl (by decide +kernel) rfl (Nat.le_of_ble_eq_true rfl) rfl ?_
  intro p e s m args below meth c ls A Q C hP hD hS hl K
  obtain ⟨⟨hx, hb, hml, hown, hts⟩, hK, hN, hA⟩ := C
  have hl : lv_has ls 2 [(0, .int i), (1, .int k)] := hl
  refine lv_iload_n hx hb dJ0_checkIndex_df160_0 rfl (lv_at hl 0 rfl) ?_
  refine lv_iload_n hx hb dJ0_checkIndex_df160_1 rfl (lv_at hl 1 rfl) ?_
  have hz := hN.2.2.2.2.narrow hA.2
  have go : ∀ v : Value, (v = .null ∨ ∃ t, v = .ref t) → va_Z "jdk/internal/util/Preconditions" "SIOOBE_FORMATTER" "Ljava/util/function/BiFunction;" v A s s.heap → W p l e rJ0_checkIndex_df160 s m args below meth c s.heap [] 0 0 Q (F0 m 2 ls [.int k, .int i]) := by
    intro v hv hZ
    refine va_gets (v := v) hx hb hZ hS hown (hts _ (wG_in k_fl_J0_1053 rfl)) (fun _ h => h) dJ0_checkIndex_df160_2 ?_
    refine jcS_i0 (As := [.int i, .int k, v]) (rest := []) ⟨hx, hb, hml, hown, hts⟩ hK hN hA (c_J3_checkIndex_8e157 l G D cI cB cZ i k v hv h1 h2) (va_cwS 3 hts (wG_S k_ml_J0_1059 k_st_J3_checkIndex_8e157 k_in_J3 k_co_J3_checkIndex_8e157) rfl rfl rfl hd_J3_checkIndex_8e157.2 ⟨Nat.le_of_ble_eq_true rfl, Nat.le_of_ble_eq_true rfl⟩) hP hD hS [] rfl rfl rfl rfl hl.1 rfl (Nat.le_of_ble_eq_true rfl) dJ0_checkIndex_df160_5 ⟨Nat.le_of_ble_eq_true rfl, Nat.le_of_ble_eq_true rfl⟩ (fun H locs hP hD hS => ?_)
    refine lv_pop hx hb dJ0_checkIndex_df160_8 rfl ?_
    exact K _ _ _ _ hP hS dJ0_checkIndex_df160_9
  rcases hz with hz | ⟨t, hz⟩
  · exact go .null (Or.inl rfl) hz
  · exact go (.ref t) (Or.inr ⟨t, rfl⟩) hz
set_option maxHeartbeats 4000000 in
theorem c_J1_charAt_3b067 (l : Launch) (G : jGt) (D : va_G) (cI cB cZ : ClassId) (k : Nat) {q : String × Nat × String × List Int32} (hk : jSt[k]? = some q) (i : Int32) (h : vp_in i q.2.2.2.length) : jMi l yJ1_charAt_3b067 gJ1_charAt_3b067 rJ1_charAt_3b067 G D (jT cI cB cZ) [.ref (G.2.2 k), .int i] [] [] (((q.2.2.2.getD i.toNatClampNeg 0) &&& 255).toUInt32 % 65536).toInt32 := by
  have hlen := jst_lt hk
  obtain ⟨j, hj, ej⟩ := vp_in_of h (by omega)
  refine jmk_n RJ1 rfl (by decide +kernel) rfl (Nat.le_of_ble_eq_true rfl) rfl (pk_nc _) ?_
  intro p e s m args below meth c ls A Q C hP hD hS hl K
  obtain ⟨⟨hx, hb, hml, hown, hts⟩, hK, hN, hA⟩ := C
  obtain ⟨g1, g2, g3, g4, g5⟩ := hN.2.2.1 k q hk
  have hl : lv_has ls 2 [(0, .ref (G.2.2 k)), (1, .int i)] := hl
  refine lv_iload_n hx hb dJ1_charAt_3b067_0 rfl (lv_at hl 1 rfl) ?_
  refine lv_aload_n hx hb dJ1_charAt_3b067_1 rfl (lv_at hl 0 rfl) ?_
  refine va_tlen hx hb (g5.narrow hA.2) hS rfl dJ1_charAt_3b067_2 ?_
  refine jcS_v0 (As := [.int i, .int (Int32.ofNat q.2.2.2.length)]) (rest := []) ⟨hx, hb, hml, hown, hts⟩ hK hN hA (c_J0_checkIndex_df160 l G D cI cB cZ i (Int32.ofNat q.2.2.2.length) (by rw [ej]; exact nI_pos (by omega)) (by rw [ej]; exact nI_lt hj (by omega))) (va_cwS 2 hts (wG_S k_ml_J1_9 k_st_J0_checkIndex_df160 k_in_J0 k_co_J0_checkIndex_df160) rfl rfl rfl hd_J0_checkIndex_df160.2 ⟨Nat.le_of_ble_eq_true rfl, Nat.le_of_ble_eq_true rfl⟩) hP hD hS [] rfl rfl rfl rfl hl.1 rfl (Nat.le_of_ble_eq_true rfl) dJ1_charAt_3b067_3 ⟨Nat.le_of_ble_eq_true rfl, Nat.le_of_ble_eq_true rfl⟩ (fun H locs hP hD hS => ?_)
  refine lv_aload_n hx hb dJ1_charAt_3b067_6 rfl (lv_at hl 0 rfl) ?_
  refine lv_iload_n hx hb dJ1_charAt_3b067_7 rfl (lv_at hl 1 rfl) ?_
  refine va_tb hx hb (g5.narrow hA.2) hS h rfl dJ1_charAt_3b067_8 ?_
  refine lv_sipush (v := 255) hx hb dJ1_charAt_3b067_9 (by decide) ?_
  refine lv_iand hx hb dJ1_charAt_3b067_12 ?_
  refine lv_i2c hx hb dJ1_charAt_3b067_13 rfl ?_
  exact K _ _ _ _ hP hS dJ1_charAt_3b067_14
set_option maxHeartbeats 4000000 in
theorem c_J0_charAt_5068e (l : Launch) (G : jGt) (D : va_G) (cI cB cZ : ClassId) (x0 : Nat) (x1 : Int32) {o : Int32} (hf : f_J0_charAt_5068e x0 x1 = some o) : jMi l yJ0_charAt_5068e gJ0_charAt_5068e rJ0_charAt_5068e G D (jT cI cB cZ) [.ref (G.2.1 x0), .int x1] [] [] o := by
  unfold f_J0_charAt_5068e at hf
  cases hk : jSt[x0]? with
  | none => rw [hk] at hf; cases hf
  | some q =>
    rw [hk] at hf
    replace hf : (if x1 < 0 ∨ q.2.2.2.length ≤ x1.toNatClampNeg then none else some (((q.2.2.2.getD x1.toNatClampNeg 0) &&& 255).toUInt32 % 65536).toInt32) = some o := hf
    by_cases h : x1 < 0 ∨ q.2.2.2.length ≤ x1.toNatClampNeg
    · rw [if_pos h] at hf; cases hf
    · rw [if_neg h] at hf
      have ho := Option.some.inj hf
      subst ho
      refine jmk_n RJ0 rfl (by decide +kernel) rfl (Nat.le_of_ble_eq_true rfl) rfl (pk_nc _) ?_
      intro p e s m args below meth c ls A Q C hP hD hS hl K
      obtain ⟨⟨hx, hb, hml, hown, hts⟩, hK, hN, hA⟩ := C
      obtain ⟨g1, g2, g3, g4, g5⟩ := hN.2.2.1 x0 q hk
      have hl : lv_has ls 2 [(0, .ref (G.2.1 x0)), (1, .int x1)] := hl
      refine lv_aload_n hx hb dJ0_charAt_5068e_0 rfl (lv_at hl 0 rfl) ?_
      refine jcU_i0 (As := []) (rest := []) ⟨hx, hb, hml, hown, hts⟩ hK hN hA (c_J0_isLatin1_aae02 l G D cI cB cZ x0 hk) (cwV 0 hts (wG_V k_ml_J0_492 k_im_J0_isLatin1_aae02 k_se_J0_isLatin1_aae02 k_in_J0 k_co_J0_isLatin1_aae02) rfl rfl rfl hd_J0_isLatin1_aae02 ⟨Nat.le_of_ble_eq_true rfl, Nat.le_of_ble_eq_true rfl⟩) hP hD hS (g2.narrow hA.2) rfl hl.1 rfl (Nat.le_of_ble_eq_true rfl) dJ0_charAt_5068e_1 ⟨Nat.le_of_ble_eq_true rfl, Nat.le_of_ble_eq_true rfl⟩ (fun H locs hP hD hS => ?_)
      refine lv_if_eq (tgt := 16) hx hb dJ0_charAt_5068e_4 (by decide) (fun h => absurd h (by decide)) (fun _ => ?_)
      refine lv_aload_n hx hb dJ0_charAt_5068e_7 rfl (lv_at hl 0 rfl) ?_
      refine vk_getf hx hb (g4.narrow hA.2) hS hown (hts _ (wG_in k_fl_J0_9 rfl)) (fun _ h => h) dJ0_charAt_5068e_8 ?_
      refine lv_iload_n hx hb dJ0_charAt_5068e_11 rfl (lv_at hl 1 rfl) ?_
      refine jcS_i0 (As := [.ref (G.2.2 x0), .int x1]) (rest := []) ⟨hx, hb, hml, hown, hts⟩ hK hN hA (c_J1_charAt_3b067 l G D cI cB cZ x0 hk x1 h) (va_cwS 2 hts (wG_S k_ml_J0_495 k_st_J1_charAt_3b067 k_in_J1 k_co_J1_charAt_3b067) rfl rfl rfl hd_J1_charAt_3b067.2 ⟨Nat.le_of_ble_eq_true rfl, Nat.le_of_ble_eq_true rfl⟩) hP hD hS [] rfl rfl rfl rfl hl.1 rfl (Nat.le_of_ble_eq_true rfl) dJ0_charAt_5068e_12 ⟨Nat.le_of_ble_eq_true rfl, Nat.le_of_ble_eq_true rfl⟩ (fun H locs hP hD hS => ?_)
      exact K _ _ _ _ hP hS dJ0_charAt_5068e_15
theorem jst_l {x : Nat} {o : Int32} (hf : f_J0_length_8abf5 x = some o) : ∃ q, jSt[x]? = some q := by
  unfold f_J0_length_8abf5 at hf
  cases hk : jSt[x]? with
  | none => rw [hk] at hf; cases hf
  | some q => exact ⟨q, rfl⟩
theorem jst_c {x : Nat} {i o : Int32} (hf : f_J0_charAt_5068e x i = some o) : ∃ q, jSt[x]? = some q := by
  unfold f_J0_charAt_5068e at hf
  cases hk : jSt[x]? with
  | none => rw [hk] at hf; cases hf
  | some q => exact ⟨q, rfl⟩

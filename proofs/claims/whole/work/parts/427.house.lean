/-! the constructor of the class, given that of Turns -/
theorem k_cl_X11_20 : Cond.classLink RX11 20 RX8 ∈ lw_tbl := tb_1 _ (List.mem_of_getElem? (i := 192) (by decide +kernel))
theorem k_cl_X11_27 : Cond.classLink RX11 27 RX9 ∈ lw_tbl := tb_2 _ (List.mem_of_getElem? (i := 4) (by decide +kernel))
theorem k_cl_X11_34 : Cond.classLink RX11 34 RX2 ∈ lw_tbl := tb_2 _ (List.mem_of_getElem? (i := 62) (by decide +kernel))
theorem k_co_X2_init : Cond.code yX2_init cX2_init 1 none ∈ lw_tbl := tb_2 _ (List.mem_of_getElem? (i := 66) (by decide +kernel))
theorem k_co_X8_init : Cond.code yX8_init cX8_init 1 none ∈ lw_tbl := tb_1 _ (List.mem_of_getElem? (i := 196) (by decide +kernel))
theorem k_co_X9_init : Cond.code yX9_init cX9_init 1 none ∈ lw_tbl := tb_2 _ (List.mem_of_getElem? (i := 8) (by decide +kernel))
theorem k_ib_X2 : Cond.instantiable RX2 11 ∈ lw_tbl := tb_2 _ (List.mem_of_getElem? (i := 63) (by decide +kernel))
theorem k_ib_X8 : Cond.instantiable RX8 3 ∈ lw_tbl := tb_1 _ (List.mem_of_getElem? (i := 193) (by decide +kernel))
theorem k_ib_X9 : Cond.instantiable RX9 16 ∈ lw_tbl := tb_2 _ (List.mem_of_getElem? (i := 5) (by decide +kernel))
theorem k_im_X2_init : Cond.instanceMethod yX2_init ∈ lw_tbl := tb_2 _ (List.mem_of_getElem? (i := 65) (by decide +kernel))
theorem k_im_X8_init : Cond.instanceMethod yX8_init ∈ lw_tbl := tb_1 _ (List.mem_of_getElem? (i := 195) (by decide +kernel))
theorem k_im_X9_init : Cond.instanceMethod yX9_init ∈ lw_tbl := tb_2 _ (List.mem_of_getElem? (i := 7) (by decide +kernel))
theorem hd_X2_init : yX2_init.cls = RX2 ∧ yX2_init.cls ≠ "java/lang/invoke/MethodHandle" ∧ yX2_init.cls ≠ "java/lang/invoke/VarHandle" ∧ (parseMethodDescriptor yX2_init.desc).map (fun d => d.parameters.length) = some 0 := by decide +kernel
theorem hd_X8_init : yX8_init.cls = RX8 ∧ yX8_init.cls ≠ "java/lang/invoke/MethodHandle" ∧ yX8_init.cls ≠ "java/lang/invoke/VarHandle" ∧ (parseMethodDescriptor yX8_init.desc).map (fun d => d.parameters.length) = some 0 := by decide +kernel
theorem hd_X9_init : yX9_init.cls = RX9 ∧ yX9_init.cls ≠ "java/lang/invoke/MethodHandle" ∧ yX9_init.cls ≠ "java/lang/invoke/VarHandle" ∧ (parseMethodDescriptor yX9_init.desc).map (fun d => d.parameters.length) = some 0 := by decide +kernel
theorem nl_X11_22 : (RX11, 22, yX8_init) ∈ jNq := by decide +kernel
theorem nl_X11_29 : (RX11, 29, yX9_init) ∈ jNq := by decide +kernel
theorem nl_X11_36 : (RX11, 36, yX2_init) ∈ jNq := by decide +kernel
abbrev zTx : Type := Int32 × Int32 × Int32 × Int32 × Int32 × Int32 × Int32 × Int32 × jA × jA × jA × jA × jA × jA × jA
def wTx (cI cB : ClassId) (a : Nat) (qs : Nat → Nat) (z : zTx) : va_W := [(a, .inr (7, (oX8 (.ref (qs 0)) (.ref (qs 1)) (.ref (qs 6))))), ((qs 0), .inr (4, (oX5 .null z.2.2.2.2.2.1 z.2.1 z.2.2.2.1 z.2.2.2.2.2.2.1 z.2.2.1 z.2.2.2.2.1))), ((qs 1), .inr (9, (oX10 (.ref (qs 2)) (.ref (qs 3)) (.ref (qs 4)) (.ref (qs 5)) z.2.2.2.2.2.2.2.1))), ((qs 2), .inl (cI, z.2.2.2.2.2.2.2.2.2.2.2.2.2.2.1, .inl z.2.2.2.2.2.2.2.2.2.2.2.2.2.2.2)), ((qs 3), .inl (cI, z.2.2.2.2.2.2.2.2.2.2.2.1.1, .inl z.2.2.2.2.2.2.2.2.2.2.2.1.2)), ((qs 4), .inl (cI, z.2.2.2.2.2.2.2.2.2.2.2.2.2.1.1, .inl z.2.2.2.2.2.2.2.2.2.2.2.2.2.1.2)), ((qs 5), .inl (cI, z.2.2.2.2.2.2.2.2.2.2.2.2.1.1, .inl z.2.2.2.2.2.2.2.2.2.2.2.2.1.2)), ((qs 6), .inr (2, (oX3 (.ref (qs 7)) (.ref (qs 8)) (.ref (qs 9)) z.1))), ((qs 7), .inl (cI, z.2.2.2.2.2.2.2.2.2.2.1.1, .inl z.2.2.2.2.2.2.2.2.2.2.1.2)), ((qs 8), .inl (cI, z.2.2.2.2.2.2.2.2.1.1, .inl z.2.2.2.2.2.2.2.2.1.2)), ((qs 9), .inl (cI, z.2.2.2.2.2.2.2.2.2.1.1, .inl z.2.2.2.2.2.2.2.2.2.1.2))]
abbrev zKi : Type := Int32 × Int32 × Int32 × Int32 × jA × jA × jA × jA × jA × jA × jA
def wKi (cI : ClassId) (a : Nat) (qs : Nat → Nat) (z : zKi) : va_W := [(a, .inr (1, (oX2 (.ref (qs 0)) (.ref (qs 1)) z.2.2.2.1 (.ref (qs 2)) (.ref (qs 3)) (.ref (qs 4)) (.ref (qs 5)) (.ref (qs 6)) z.1 z.2.1 z.2.2.1))), ((qs 0), .inl (cI, z.2.2.2.2.2.2.2.2.2.1.1, .inl z.2.2.2.2.2.2.2.2.2.1.2)), ((qs 1), .inl (cI, z.2.2.2.2.2.2.2.2.2.2.1, .inl z.2.2.2.2.2.2.2.2.2.2.2)), ((qs 2), .inl (cI, z.2.2.2.2.2.2.2.2.1.1, .inl z.2.2.2.2.2.2.2.2.1.2)), ((qs 3), .inl (cI, z.2.2.2.2.1.1, .inl z.2.2.2.2.1.2)), ((qs 4), .inl (cI, z.2.2.2.2.2.2.2.1.1, .inl z.2.2.2.2.2.2.2.1.2)), ((qs 5), .inl (cI, z.2.2.2.2.2.1.1, .inl z.2.2.2.2.2.1.2)), ((qs 6), .inl (cI, z.2.2.2.2.2.2.1.1, .inl z.2.2.2.2.2.2.1.2))]
abbrev zTu : Type := Int32 × Int32 × Int32 × Int32 × Int32 × jA × jA × jA × jA × jA × jA × jA × jA × jA × jA × jA × jA
def wTu (cI cZ cJ : ClassId) (a : Nat) (qs : Nat → Nat) (z : zTu) : va_W := [(a, .inr (8, (oX9 z.1 z.2.1 z.2.2.1 z.2.2.2.1 z.2.2.2.2.1 (.ref (qs 0)) (.ref (qs 1)) (.ref (qs 2)) (.ref (qs 3)) (.ref (qs 4)) (.ref (qs 5)) (.ref (qs 6)) (.ref (qs 7)) (.ref (qs 10)) (.ref (qs 11)) (.ref (qs 12))))), ((qs 0), .inl (cI, z.2.2.2.2.2.1.1, .inl z.2.2.2.2.2.1.2)), ((qs 1), .inl (cI, z.2.2.2.2.2.2.1.1, .inl z.2.2.2.2.2.2.1.2)), ((qs 2), .inl (cI, z.2.2.2.2.2.2.2.1.1, .inl z.2.2.2.2.2.2.2.1.2)), ((qs 3), .inl (cI, z.2.2.2.2.2.2.2.2.1.1, .inl z.2.2.2.2.2.2.2.2.1.2)), ((qs 4), .inl (cI, z.2.2.2.2.2.2.2.2.2.1.1, .inl z.2.2.2.2.2.2.2.2.2.1.2)), ((qs 5), .inl (cI, z.2.2.2.2.2.2.2.2.2.2.1.1, .inl z.2.2.2.2.2.2.2.2.2.2.1.2)), ((qs 6), .inl (cZ, z.2.2.2.2.2.2.2.2.2.2.2.1.1, .inl z.2.2.2.2.2.2.2.2.2.2.2.1.2)), ((qs 7), .inl (cJ, 2, .inr (.inr (.inr (.inr (jO2 (qs 8) (qs 9))))))), ((qs 8), .inl (cI, z.2.2.2.2.2.2.2.2.2.2.2.2.1.1, .inl z.2.2.2.2.2.2.2.2.2.2.2.2.1.2)), ((qs 9), .inl (cI, z.2.2.2.2.2.2.2.2.2.2.2.2.2.1.1, .inl z.2.2.2.2.2.2.2.2.2.2.2.2.2.1.2)), ((qs 10), .inl (cI, z.2.2.2.2.2.2.2.2.2.2.2.2.2.2.1.1, .inl z.2.2.2.2.2.2.2.2.2.2.2.2.2.2.1.2)), ((qs 11), .inl (cI, z.2.2.2.2.2.2.2.2.2.2.2.2.2.2.2.1.1, .inl z.2.2.2.2.2.2.2.2.2.2.2.2.2.2.2.1.2)), ((qs 12), .inl (cI, z.2.2.2.2.2.2.2.2.2.2.2.2.2.2.2.2.1, .inl z.2.2.2.2.2.2.2.2.2.2.2.2.2.2.2.2.2))]
def zTu0 : zTu := (0, 0, 0, 0, 0, (500, fun _ => 0), (2048, fun _ => 0), (500, fun _ => 0), (500, fun _ => 0), (500, fun _ => 0), (500, fun _ => 0), (2, fun _ => 0), (1000, fun _ => 0), (1000, fun _ => 0), (1000, fun _ => 0), (1000, fun _ => 0), (1000, fun _ => 0))
def jMkS {S : Type} (l : Launch) (y : MethodName) (ws : List Cond) (rm : Room) (G : jGt) (D : va_G) (tys : List (ClassId × FieldType)) (av : List Value) (E : State → Prop) (c0 : va_W) (c1 : S → va_W) (mc ms : Nat) : Prop := ∀ sz : Nat, Met l y ws rm (va_Pc av (fun U => jPre G D tys c0 sz U ∧ E U)) (va_Qv (fun (_ : S) => True) (fun u t => va_P D vwCl (c1 u) t.heap ∧ va_D (va_A c0 sz) (c1 u)) (va_A c0 sz)) mc ms (va_A c0 sz)
theorem jmk_kS {S : Type} {l : Launch} {y : MethodName} {ws ws' : List Cond} {rm : Room} {G : jGt} {D : va_G} {tys : List (ClassId × FieldType)} {av : List Value} {E : State → Prop} {c0 : va_W} {c1 : S → va_W} {mc ms : Nat} {cc : ByteArray} {maxL : Nat} (own : String) (hown : y.cls = own) (hnm : y.name = "<init>") (hy : plainName y.cls = true) (hw : ws = Cond.code y cc maxL none :: ws') (hlen : (lg_sl av).length ≤ maxL)
    (body : ∀ (p : Program) (e : Env) (s : State) (m : MethodId) (args : Array Value) (below : List Frame) (meth : Method) (c : Code) (ls : Array Slot) (A : Nat → Prop) (Q : State → Prop), meth.name = "<init>" → E s → jCx p s m args c cc maxL ws own G D tys A → va_P D vwCl c0 s.heap → va_D A c0 → va_S A s.heap s.heap [] → lv_has ls maxL (lv_args 0 av) → (∀ (u : S) (H : Heap) (locs : List Loc) (pc : Nat) (ls : Array Slot), va_P D vwCl (c1 u) H → va_D A (c1 u) → va_S A s.heap H locs → decode cc pc = .ok (.return_, 1) → W p l e rm s m args below meth c H locs mc ms Q (F0 m pc ls [])) → W p l e rm s m args below meth c s.heap [] 0 0 Q (F0 m 0 ls [])) : jMkS l y ws rm G D tys av E c0 c1 mc ms := by
  intro sz
  refine Met.ofW (cc := cc) (maxL := maxL) (ret := none) hy hw ?_
  intro p e s m args below meth c s₁ B hml hv
  obtain ⟨rfl, ⟨hsz, hP, hK, hD0, hN⟩, hE⟩ := hv
  have hx := B.exec
  have hb := B.bytes
  have hr := B.returns
  have hts := atoms_spec (ws := ws) B.pre
  have hown2 : s.vm.findClass own = some m.cls := by rw [← hown]; exact findClass_of_methodNamed B.named
  have hlocks := B.notSynchronized
  have hin : meth.name = "<init>" := by rw [← hnm]; exact (name_of_methodNamed B.named B.method).1
  subst hsz
  have hD := hD0.self (sz := s.heap.size)
  have hl := lv_entry av (n := maxL) hlen
  rw [lg_entry_eq]
  refine body p e s m _ below meth c _ (va_A c0 s.heap.size) _ hin hE ⟨⟨hx, hb, hml, hown2, hts⟩, hK, hN, fun q h => Or.inr h, fun q h => h.elim (fun ⟨k, e, h⟩ => hD0.2 k _ h) (fun h => Nat.le_trans hN.2.1 h)⟩ hP hD va_S.rf hl (fun u H locs pc ls hP1 hD1 hS hd => ?_)
  exact W.vret hx hb hr (fun t ht hW => ⟨⟨u, rfl, trivial, by show va_P D vwCl (c1 u) t.heap; rw [ht]; exact hP1, hD1⟩, hS.F ht⟩) hS.2.2 hd
section JHOUSE
variable {p : Program} {l : Launch} {e : Env} {R : Room} {s : State} {m : MethodId} {args : Array Value} {below : List Frame} {meth : Method} {c : Code} {H : Heap} {locs : List Loc} {cells slots : Nat} {Q : State → Prop}
variable {cc bytes : ByteArray} {nL maxL index n pc : Nat} {ls : Array Slot} {Ts ws : List Cond} {own C : String} {y : MethodName} {ret : Option FieldType} {rm : Room} {b : Addr} {rest st0 : List Value} {G : jGt} {D : va_G} {A : Nat → Prop} {B w0 w1 : va_W} {tys : List (ClassId × FieldType)} {mc ms : Nat}
theorem jblindS {av : List Value} {c0 : va_W} {sz : Nat} {E : State → Prop} (hE : ∀ u U : State, u.vm.Alike U.vm → E u → E U) : FrameBlind (va_Pc av (fun U => jPre G D tys c0 sz U ∧ E U)) := fun a U g mk q => by
  obtain ⟨q0, ⟨q1, qP, qK, qD, qN⟩, qE⟩ := q
  exact ⟨q0, ⟨q1, qP, va_K.moved (u := U) (U := U.calling g mk a) (Vm.Alike.refl U.vm) qK, qD, jN_same rfl rfl qN⟩, hE U _ (Vm.Alike.refl U.vm) qE⟩
theorem jcB_kS {S1 : Type} {c1 : S1 → va_W} {host : String} {E : State → Prop} (hE : ∀ u U : State, u.vm.Alike U.vm → E u → E U) (hEs : E s) (S : CallFix p m c cc nL s args Ts own) (hK : va_K D vwCl tys s) (hN : jN G s) (hA : (∀ q, s.heap.size ≤ q → A q) ∧ ∀ q, A q → G.1 ≤ q) {As : List Value} (hM : jMkS l y ws rm G D tys (.ref b :: As) E w0 c1 mc ms) (cw : va_CN R s args own index y host bytes maxL none ws rm mc ms n ∧ y.name = "<init>" ∧ (Cond.instanceMethod y).before args s = true) (hP : va_P D vwCl (B ++ w0) H) (hD : va_D A (B ++ w0)) (hS : va_S A s.heap H locs) (hn : As.length = n) (hsz : ls.size = nL) (hst : st0 = As.reverse ++ .ref b :: rest) (hrest : (rest.map fun v => v.category).sum ≤ 8) (hdg : decode cc pc = .ok (.invokespecial index, 3)) (hf : cells + mc ≤ R.cells ∧ slots + ms ≤ R.slots)
    (kk : ∀ (qs : S1) (H1 : Heap) (locs1 : List Loc), va_P D vwCl (B ++ c1 qs) H1 → va_D A (B ++ c1 qs) → va_S A s.heap H1 locs1 → W p l e R s m args below meth c H1 locs1 (cells + mc) (slots + ms) Q (F0 m (pc + 3) ls rest)) : W p l e R s m args below meth c H locs cells slots Q (F0 m pc ls st0) := by
  have hFc := va_free hD hS hA.1 _ jb_l
  refine va_callv (va_runIN S (hM H.size) cw ⟨jblindS hE, fun U hU hW => ⟨(jpre jb_l (jb_nd _ _) hP hD hS hK hN hA.2 U hU hW).1, (jpre (av := .ref b :: As) jb_l (jb_nd _ _) hP hD hS hK hN hA.2 U hU hW).2, hE s U hW.alike hEs⟩⟩ rfl hn hsz hst (lv_room hrest) hdg hf) hS (fun q _ h => hFc q h) hFc (fun qs t H1 locs1 ht hvm hw hB hz1 hk1 hS1 => ?_)
  obtain ⟨hP1, hD1⟩ := hB
  rw [ht] at hP1
  obtain ⟨g1, g2⟩ := va_join hP hD _ _ jb_l jb_r (jb_nd _ _) jb_dis hk1 hFc hP1 hD1
  exact kk qs H1 locs1 g1 g2 hS1
theorem j_set0 {h h' : Nat × va_E} {X Y : va_W} : ((h :: X) ++ Y).set 0 h' = h' :: (X ++ Y) := rfl
end JHOUSE
abbrev rX9_init : Room := { frames := 1, cells := 13, slots := 9552, locals := 20 }
abbrev gX9_init : List Cond := wG yX9_init cX9_init 1 none
abbrev rX11_init : Room := { frames := 3, cells := 59, slots := 11059, locals := 70 }
abbrev gX11_init : List Cond := wG yX11_init cX11_init 1 none
abbrev zHa : Type := (Nat × Nat × Nat × Nat × Nat × Nat) × (Nat → Nat) × (Nat → Nat) × (Nat → Nat) × (Nat → Nat)
def wHo (cS cC : ClassId) (a : Nat) (q : Nat × Nat × Nat × Nat × Nat × Nat) (f g : Nat → Option Nat) (X1 X2 X3 X4 : va_W) : va_W := (a, .inr (10, (oX11 (.ref q.1) (.ref q.2.1) (.ref q.2.2.1) (.ref q.2.2.2.1) (.ref q.2.2.2.2.1) (.ref q.2.2.2.2.2)))) :: (((((X1 ++ [(q.2.1, .inl (cS, 3, .inr (.inr (.inr (.inr f)))))]) ++ X2) ++ X3) ++ X4) ++ [(q.2.2.2.2.2, .inl (cC, 4, .inr (.inr (.inr (.inr g)))))])
set_option maxHeartbeats 1000000 in
set_option maxRecDepth 100000 in
theorem c_X11_init (l : Launch) (G : jGt) (D : va_G) (cI cB cZ cS cC cJ : ClassId) (a : Nat) {E : State → Prop} (hE : ∀ u U : State, u.vm.Alike U.vm → E u → E U) (hES : ∀ U : State, E U → va_AO "SectionHouse$State" U) (hEC : ∀ U : State, E U → va_AO "SectionHouse$Census" U) (hT : ∀ b : Nat, jMkS l yX9_init gX9_init rX9_init G D (jTx cI cB cZ cS cC cJ) [.ref b] E [(b, .inr (8, [.int (0 : Int32), .int (0 : Int32), .int (0 : Int32), .int (0 : Int32), .int (0 : Int32), .null, .null, .null, .null, .null, .null, .null, .null, .null, .null, .null]))] (fun qs : Nat → Nat => wTu cI cZ cJ b qs zTu0) 13 9552) {z1 : zSt} (h1 : f_X6_init = some z1) {z2 : zTx} (h2 : f_X8_init = some z2) {z4 : zKi} (h4 : f_X2_init = some z4) : jMkS l yX11_init gX11_init rX11_init G D (jTx cI cB cZ cS cC cJ) [.ref a] E [(a, .inr (10, [.null, .null, .null, .null, .null, .null]))] (fun q : zHa => wHo cS cC a q.1 (fun _ => none) (fun _ => none) (wSt cI cB q.1.1 q.2.1 z1) (wTx cI cB q.1.2.2.1 q.2.2.1 z2) (wTu cI cZ cJ q.1.2.2.2.1 q.2.2.2.1 zTu0) (wKi cI q.1.2.2.2.2.1 q.2.2.2.2 z4)) 59 11059 := by
  refine jmk_kS RX11 rfl rfl (by decide +kernel) rfl (Nat.le_of_ble_eq_true rfl) ?_
  intro p e s m args below meth c ls A Q hin hEs C hP hD hS hl K
  obtain ⟨⟨hx, hb, hml, hown, hts⟩, hK, hN, hA⟩ := C
  refine lv_aload_n hx hb dX11_init_0 rfl (lv_at hl 0 rfl) ?_
  refine W.objInit hx hb hown (hts _ (wG_in k_ml_X11_1 rfl)) (hts _ (wG_in k_im_obj rfl)) (hts _ (wG_in k_co_obj rfl)) rfl (by rw [hml]; exact hl.1) rfl dX11_init_1 (Nat.le_of_ble_eq_true rfl) (Nat.le_of_ble_eq_true rfl) ?_
  refine W.eq (g2 := F0 m 4 ls []) rfl ?_
  refine lv_aload_n hx hb dX11_init_4 rfl (lv_at hl 0 rfl) ?_
  refine va_new (ci := 5) (fs := [.null, .null, .null, .null, .null, .int 0]) (C := RX6) (T := TX6) (N := 6) hx hb hts iw_X6 tyX6 tyX6_ok hown (hts _ (wG_in k_cl_X11_7 rfl)) (hts _ (wG_in k_ib_X6 rfl)) (hts _ (wG_in k_in_X6 rfl)) hK hP hD hS hA.1 rfl (fun j hj => match j, hj with | 0, _ => rfl | 1, _ => rfl | 2, _ => rfl | 3, _ => rfl | 4, _ => rfl | 5, _ => rfl | (k + 6), h => absurd h (by omega)) (Nat.le_of_ble_eq_true rfl) (Nat.le_of_ble_eq_true rfl) dX11_init_5 (fun n H hP hD hS => ?_)
  refine lv_dup hx hb dX11_init_8 rfl ?_
  refine jcB_k (As := []) (rest := [.ref n, .ref a]) ⟨hx, hb, hml, hown, hts⟩ (hK.sub [0, 1, 2] rfl) hN hA (c_Snew l G D cI cB cZ n h1) ⟨va_cnB 0 hts (wG_good k_co_X6_init) rfl rfl rfl (jN_l nl_X11_9 hN) (hts _ (wG_in k_in_X6 rfl)) hd_X6_init.2 ⟨Nat.le_of_ble_eq_true rfl, Nat.le_of_ble_eq_true rfl⟩, rfl, hts _ (wG_in k_im_X6_init rfl)⟩ hP hD hS rfl hl.1 rfl (Nat.le_of_ble_eq_true rfl) dX11_init_9 ⟨Nat.le_of_ble_eq_true rfl, Nat.le_of_ble_eq_true rfl⟩ (fun qn H locs hP hD hS => ?_)
  refine va_putF (D := D) (ci := 10) (v := .ref n) (ty := .object "SectionHouse$State") (C := RX11) (T := TX11) (N := 6) hx hb hts iw_X11 tyX11 tyX11_ok nmX11 hown hK hP hD hS 0 rfl rfl 0 (by decide) (hts _ (wG_in k_fl_X11_10 rfl)) (fun _ h9 => h9) rfl hin rfl (tyX11_ok 0 (by decide)) rfl rfl (Nat.le_of_ble_eq_true rfl) dX11_init_12 (fun H locs hP hD hS => ?_)
  rw [j_set0] at hP hD
  rw [List.nil_append] at hP hD
  refine lv_aload_n hx hb dX11_init_15 rfl (lv_at hl 0 rfl) ?_
  refine lv_iconst (v := (3 : Int32)) hx hb dX11_init_16 (by decide) ?_
  refine va_newq (C := "SectionHouse$State") (N' := 3) hx hb hown (hts _ (wG_in k_cl_X11_7 rfl)) (hES s hEs) hK hP hD hS hA.1 (by decide) (by decide) (by decide) (Nat.le_of_ble_eq_true rfl) (Nat.le_of_ble_eq_true rfl) dX11_init_17 (fun i cA H hK1 hP hD hS => ?_)
  have hcA : cA = cS := by
    obtain ⟨_, _, _, _, _, e1⟩ := (hK1.2 6 (cA, .object "SectionHouse$State") rfl).2
    obtain ⟨_, _, _, _, _, e2⟩ := (hK.2 3 (cS, .object "SectionHouse$State") rfl).2
    exact Option.some.inj (e1.symm.trans e2)
  subst hcA
  clear hK1
  refine va_putF (D := D) (ci := 10) (v := .ref i) (ty := .array (.object "SectionHouse$State")) (C := RX11) (T := TX11) (N := 6) hx hb hts iw_X11 tyX11 tyX11_ok nmX11 hown hK hP hD hS 0 rfl rfl 1 (by decide) (hts _ (wG_in k_fl_X11_16 rfl)) (fun _ h9 => h9) rfl hin rfl (tyX11_ok 1 (by decide)) rfl rfl (Nat.le_of_ble_eq_true rfl) dX11_init_20 (fun H locs hP hD hS => ?_)
  rw [j_set0] at hP hD
  refine lv_aload_n hx hb dX11_init_23 rfl (lv_at hl 0 rfl) ?_
  refine va_new (ci := 7) (fs := [.null, .null, .null]) (C := RX8) (T := TX8) (N := 3) hx hb hts iw_X8 tyX8 tyX8_ok hown (hts _ (wG_in k_cl_X11_20 rfl)) (hts _ (wG_in k_ib_X8 rfl)) (hts _ (wG_in k_in_X8 rfl)) hK hP hD hS hA.1 rfl (fun j hj => match j, hj with | 0, _ => rfl | 1, _ => rfl | 2, _ => rfl | (k + 3), h => absurd h (by omega)) (Nat.le_of_ble_eq_true rfl) (Nat.le_of_ble_eq_true rfl) dX11_init_24 (fun t H hP hD hS => ?_)
  refine lv_dup hx hb dX11_init_27 rfl ?_
  refine jcB_k (As := []) (rest := [.ref t, .ref a]) ⟨hx, hb, hml, hown, hts⟩ (hK.sub [0, 1, 2] rfl) hN hA (c_X8_init l G D cI cB cZ t h2) ⟨va_cnB 0 hts (wG_good k_co_X8_init) rfl rfl rfl (jN_l nl_X11_22 hN) (hts _ (wG_in k_in_X8 rfl)) hd_X8_init.2 ⟨Nat.le_of_ble_eq_true rfl, Nat.le_of_ble_eq_true rfl⟩, rfl, hts _ (wG_in k_im_X8_init rfl)⟩ hP hD hS rfl hl.1 rfl (Nat.le_of_ble_eq_true rfl) dX11_init_28 ⟨Nat.le_of_ble_eq_true rfl, Nat.le_of_ble_eq_true rfl⟩ (fun qt H locs hP hD hS => ?_)
  refine va_putF (D := D) (ci := 10) (v := .ref t) (ty := .object "SectionHouse$Texts") (C := RX11) (T := TX11) (N := 6) hx hb hts iw_X11 tyX11 tyX11_ok nmX11 hown hK hP hD hS 0 rfl rfl 2 (by decide) (hts _ (wG_in k_fl_X11_23 rfl)) (fun _ h9 => h9) rfl hin rfl (tyX11_ok 2 (by decide)) rfl rfl (Nat.le_of_ble_eq_true rfl) dX11_init_31 (fun H locs hP hD hS => ?_)
  rw [j_set0] at hP hD
  refine lv_aload_n hx hb dX11_init_34 rfl (lv_at hl 0 rfl) ?_
  refine va_new (ci := 8) (fs := [.int (0 : Int32), .int (0 : Int32), .int (0 : Int32), .int (0 : Int32), .int (0 : Int32), .null, .null, .null, .null, .null, .null, .null, .null, .null, .null, .null]) (C := RX9) (T := TX9) (N := 16) hx hb hts iw_X9 tyX9 tyX9_ok hown (hts _ (wG_in k_cl_X11_27 rfl)) (hts _ (wG_in k_ib_X9 rfl)) (hts _ (wG_in k_in_X9 rfl)) hK hP hD hS hA.1 rfl (fun j hj => match j, hj with | 0, _ => rfl | 1, _ => rfl | 2, _ => rfl | 3, _ => rfl | 4, _ => rfl | 5, _ => rfl | 6, _ => rfl | 7, _ => rfl | 8, _ => rfl | 9, _ => rfl | 10, _ => rfl | 11, _ => rfl | 12, _ => rfl | 13, _ => rfl | 14, _ => rfl | 15, _ => rfl | (k + 16), h => absurd h (by omega)) (Nat.le_of_ble_eq_true rfl) (Nat.le_of_ble_eq_true rfl) dX11_init_35 (fun u H hP hD hS => ?_)
  refine lv_dup hx hb dX11_init_38 rfl ?_
  refine jcB_kS hE hEs (As := []) (rest := [.ref u, .ref a]) ⟨hx, hb, hml, hown, hts⟩ hK hN hA (hT u) ⟨va_cnB 0 hts (wG_good k_co_X9_init) rfl rfl rfl (jN_l nl_X11_29 hN) (hts _ (wG_in k_in_X9 rfl)) hd_X9_init.2 ⟨Nat.le_of_ble_eq_true rfl, Nat.le_of_ble_eq_true rfl⟩, rfl, hts _ (wG_in k_im_X9_init rfl)⟩ hP hD hS rfl hl.1 rfl (Nat.le_of_ble_eq_true rfl) dX11_init_39 ⟨Nat.le_of_ble_eq_true rfl, Nat.le_of_ble_eq_true rfl⟩ (fun qu H locs hP hD hS => ?_)
  refine va_putF (D := D) (ci := 10) (v := .ref u) (ty := .object "SectionHouse$Turns") (C := RX11) (T := TX11) (N := 6) hx hb hts iw_X11 tyX11 tyX11_ok nmX11 hown hK hP hD hS 0 rfl rfl 3 (by decide) (hts _ (wG_in k_fl_X11_30 rfl)) (fun _ h9 => h9) rfl hin rfl (tyX11_ok 3 (by decide)) rfl rfl (Nat.le_of_ble_eq_true rfl) dX11_init_42 (fun H locs hP hD hS => ?_)
  rw [j_set0] at hP hD
  refine lv_aload_n hx hb dX11_init_45 rfl (lv_at hl 0 rfl) ?_
  refine va_new (ci := 1) (fs := [.null, .null, .int (0 : Int32), .null, .null, .null, .null, .null, .int (0 : Int32), .int (0 : Int32), .int (0 : Int32)]) (C := RX2) (T := TX2) (N := 11) hx hb hts iw_X2 tyX2 tyX2_ok hown (hts _ (wG_in k_cl_X11_34 rfl)) (hts _ (wG_in k_ib_X2 rfl)) (hts _ (wG_in k_in_X2 rfl)) hK hP hD hS hA.1 rfl (fun j hj => match j, hj with | 0, _ => rfl | 1, _ => rfl | 2, _ => rfl | 3, _ => rfl | 4, _ => rfl | 5, _ => rfl | 6, _ => rfl | 7, _ => rfl | 8, _ => rfl | 9, _ => rfl | 10, _ => rfl | (k + 11), h => absurd h (by omega)) (Nat.le_of_ble_eq_true rfl) (Nat.le_of_ble_eq_true rfl) dX11_init_46 (fun k H hP hD hS => ?_)
  refine lv_dup hx hb dX11_init_49 rfl ?_
  refine jcB_k (As := []) (rest := [.ref k, .ref a]) ⟨hx, hb, hml, hown, hts⟩ (hK.sub [0, 1, 2] rfl) hN hA (c_X2_init l G D cI cB cZ k h4) ⟨va_cnB 0 hts (wG_good k_co_X2_init) rfl rfl rfl (jN_l nl_X11_36 hN) (hts _ (wG_in k_in_X2 rfl)) hd_X2_init.2 ⟨Nat.le_of_ble_eq_true rfl, Nat.le_of_ble_eq_true rfl⟩, rfl, hts _ (wG_in k_im_X2_init rfl)⟩ hP hD hS rfl hl.1 rfl (Nat.le_of_ble_eq_true rfl) dX11_init_50 ⟨Nat.le_of_ble_eq_true rfl, Nat.le_of_ble_eq_true rfl⟩ (fun qk H locs hP hD hS => ?_)
  refine va_putF (D := D) (ci := 10) (v := .ref k) (ty := .object "SectionHouse$Kinship") (C := RX11) (T := TX11) (N := 6) hx hb hts iw_X11 tyX11 tyX11_ok nmX11 hown hK hP hD hS 0 rfl rfl 4 (by decide) (hts _ (wG_in k_fl_X11_37 rfl)) (fun _ h9 => h9) rfl hin rfl (tyX11_ok 4 (by decide)) rfl rfl (Nat.le_of_ble_eq_true rfl) dX11_init_53 (fun H locs hP hD hS => ?_)
  rw [j_set0] at hP hD
  refine lv_aload_n hx hb dX11_init_56 rfl (lv_at hl 0 rfl) ?_
  refine lv_iconst (v := (4 : Int32)) hx hb dX11_init_57 (by decide) ?_
  refine va_newq (C := "SectionHouse$Census") (N' := 4) hx hb hown (hts _ (wG_in k_cl_X11_41 rfl)) (hEC s hEs) hK hP hD hS hA.1 (by decide) (by decide) (by decide) (Nat.le_of_ble_eq_true rfl) (Nat.le_of_ble_eq_true rfl) dX11_init_58 (fun d cA H hK1 hP hD hS => ?_)
  have hcA : cA = cC := by
    obtain ⟨_, _, _, _, _, e1⟩ := (hK1.2 6 (cA, .object "SectionHouse$Census") rfl).2
    obtain ⟨_, _, _, _, _, e2⟩ := (hK.2 4 (cC, .object "SectionHouse$Census") rfl).2
    exact Option.some.inj (e1.symm.trans e2)
  subst hcA
  clear hK1
  refine va_putF (D := D) (ci := 10) (v := .ref d) (ty := .array (.object "SectionHouse$Census")) (C := RX11) (T := TX11) (N := 6) hx hb hts iw_X11 tyX11 tyX11_ok nmX11 hown hK hP hD hS 0 rfl rfl 5 (by decide) (hts _ (wG_in k_fl_X11_43 rfl)) (fun _ h9 => h9) rfl hin rfl (tyX11_ok 5 (by decide)) rfl rfl (Nat.le_of_ble_eq_true rfl) dX11_init_61 (fun H locs hP hD hS => ?_)
  rw [j_set0] at hP hD
  exact K ((n, i, t, u, k, d), qn, qt, qu, qk) _ _ _ _ hP hD hS dX11_init_64

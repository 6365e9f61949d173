/-! making: arrays, objects; contracts of constructors -/
def jMk (l : Launch) (y : MethodName) (ws : List Cond) (rm : Room) (G : jGt) (D : va_G) (tys : List (ClassId × FieldType)) (av : List Value) (c0 : va_W) (c1 : (Nat → Nat) → va_W) (mc ms : Nat) : Prop := ∀ sz : Nat, Met l y ws rm (va_Pc av (jPre G D tys c0 sz)) (va_Qv (fun (_ : Nat → Nat) => True) (fun qs t => va_P D vwCl (c1 qs) t.heap ∧ va_D (va_A c0 sz) (c1 qs)) (va_A c0 sz)) mc ms (va_A c0 sz)
theorem jmk_k {l : Launch} {y : MethodName} {ws ws' : List Cond} {rm : Room} {G : jGt} {D : va_G} {tys : List (ClassId × FieldType)} {av : List Value} {c0 : va_W} {c1 : (Nat → Nat) → va_W} {mc ms : Nat} {cc : ByteArray} {maxL : Nat} (own : String) (hown : y.cls = own) (hnm : y.name = "<init>") (hy : plainName y.cls = true) (hw : ws = Cond.code y cc maxL none :: ws') (hlen : (lg_sl av).length ≤ maxL)
    (body : ∀ (p : Program) (e : Env) (s : State) (m : MethodId) (args : Array Value) (below : List Frame) (meth : Method) (c : Code) (ls : Array Slot) (A : Nat → Prop) (Q : State → Prop), meth.name = "<init>" → jCx p s m args c cc maxL ws own G D tys A → va_P D vwCl c0 s.heap → va_D A c0 → va_S A s.heap s.heap [] → lv_has ls maxL (lv_args 0 av) → (∀ (qs : Nat → Nat) (H : Heap) (locs : List Loc) (pc : Nat) (ls : Array Slot), va_P D vwCl (c1 qs) H → va_D A (c1 qs) → va_S A s.heap H locs → decode cc pc = .ok (.return_, 1) → W p l e rm s m args below meth c H locs mc ms Q (F0 m pc ls [])) → W p l e rm s m args below meth c s.heap [] 0 0 Q (F0 m 0 ls [])) : jMk l y ws rm G D tys av c0 c1 mc ms := by
  intro sz
  refine Met.ofW (cc := cc) (maxL := maxL) (ret := none) hy hw ?_
  intro p e s m args below meth c s₁ B hml hv
  obtain ⟨rfl, hsz, hP, hK, hD0, hN⟩ := hv
  have hx := B.exec
  have hb := B.bytes
  have hr := B.returns
  have hts := atoms_spec (ws := ws) B.pre
  have hown2 : s.vm.findClass own = some m.cls := by rw [← hown]; exact findClass_of_methodNamed B.named
  have hlocks := B.notSynchronized
  have hin : meth.name = "<init>" := by rw [← hnm]; exact (name_of_methodNamed B.named B.method).1
  subst hsz
  have hD := hD0.self (sz := s.heap.size)
  have hl := lv_entry av (n := maxL) hlen
  rw [lg_entry_eq]
  refine body p e s m _ below meth c _ (va_A c0 s.heap.size) _ hin ⟨⟨hx, hb, hml, hown2, hts⟩, hK, hN, fun q h => Or.inr h, fun q h => h.elim (fun ⟨k, e, h⟩ => hD0.2 k _ h) (fun h => Nat.le_trans hN.2.1 h)⟩ hP hD va_S.rf hl (fun qs H locs pc ls hP1 hD1 hS hd => ?_)
  exact W.vret hx hb hr (fun t ht hW => ⟨⟨qs, rfl, trivial, by show va_P D vwCl (c1 qs) t.heap; rw [ht]; exact hP1, hD1⟩, hS.F ht⟩) hS.2.2 hd
section JMAKE
variable {p : Program} {l : Launch} {e : Env} {R : Room} {s : State} {m : MethodId} {args : Array Value} {below : List Frame} {meth : Method} {c : Code} {H : Heap} {locs : List Loc} {cells slots : Nat} {Q : State → Prop}
variable {cc bytes : ByteArray} {nL maxL index n pc : Nat} {ls : Array Slot} {Ts ws : List Cond} {own C : String} {y : MethodName} {ret : Option FieldType} {rm : Room} {b : Addr} {rest st0 : List Value} {G : jGt} {D : va_G} {A : Nat → Prop} {W0 w0 : va_W} {cI cB cZ : ClassId}
theorem ja_newi (hx : p.tables.exec = Jvm.exec) (hb : c.code = cc) (harr : (Cond.arrayClass .int).before args s = true) (hK : va_K D vwCl (jT cI cB cZ) s) (hP : va_P D vwCl W0 H) (hD : va_D A W0) (hS : va_S A s.heap H locs) (hA : ∀ q, s.heap.size ≤ q → A q) {k : Int32} {N : Nat} (hn : ¬ k < 0) (hN : k.toNatClampNeg = N) (hbytes : N * componentBytes .int ≤ 536870912) (hcells : cells + 1 ≤ R.cells) (hslots : slots + N ≤ R.slots) (hdg : decode cc pc = .ok (.newarray .int, 2))
    (kk : ∀ (q : Nat) (H1 : Heap), va_P D vwCl (W0 ++ [(q, .inl (cI, N, .inl (fun _ => 0)))]) H1 → va_D A (W0 ++ [(q, .inl (cI, N, .inl (fun _ => 0)))]) → va_S A s.heap H1 locs → W p l e R s m args below meth c H1 locs (cells + 1) (slots + N) Q (F0 m (pc + 2) ls (.ref q :: rest))) : W p l e R s m args below meth c H locs cells slots Q (F0 m pc ls (.int k :: rest)) := by
  refine va_newa (atype := .int) (ty := .int) (a0 := (N, .inl (fun _ => 0))) hx hb harr rfl hK hP hD hS hA (fun _ => rfl) hn hN hbytes hcells hslots hdg (fun q cA H1 hK1 hP1 hD1 hS1 => ?_)
  have h1 : s.vm.findClass ("[" ++ FieldType.int.toString) = some cA := (hK1.2 3 (cA, .int) rfl).2
  have h2 : s.vm.findClass ("[" ++ FieldType.int.toString) = some cI := (hK.2 0 (cI, .int) rfl).2
  have h3 : cA = cI := Option.some.inj (h1.symm.trans h2)
  subst h3
  exact kk q H1 hP1 hD1 hS1
theorem ja_newb (hx : p.tables.exec = Jvm.exec) (hb : c.code = cc) (harr : (Cond.arrayClass .byte).before args s = true) (hK : va_K D vwCl (jT cI cB cZ) s) (hP : va_P D vwCl W0 H) (hD : va_D A W0) (hS : va_S A s.heap H locs) (hA : ∀ q, s.heap.size ≤ q → A q) {k : Int32} {N : Nat} (hn : ¬ k < 0) (hN : k.toNatClampNeg = N) (hbytes : N * componentBytes .byte ≤ 536870912) (hcells : cells + 1 ≤ R.cells) (hslots : slots + N ≤ R.slots) (hdg : decode cc pc = .ok (.newarray .byte, 2))
    (kk : ∀ (q : Nat) (H1 : Heap), va_P D vwCl (W0 ++ [(q, .inl (cB, N, .inl (fun _ => 0)))]) H1 → va_D A (W0 ++ [(q, .inl (cB, N, .inl (fun _ => 0)))]) → va_S A s.heap H1 locs → W p l e R s m args below meth c H1 locs (cells + 1) (slots + N) Q (F0 m (pc + 2) ls (.ref q :: rest))) : W p l e R s m args below meth c H locs cells slots Q (F0 m pc ls (.int k :: rest)) := by
  refine va_newa (atype := .byte) (ty := .byte) (a0 := (N, .inl (fun _ => 0))) hx hb harr rfl hK hP hD hS hA (fun _ => rfl) hn hN hbytes hcells hslots hdg (fun q cA H1 hK1 hP1 hD1 hS1 => ?_)
  have h1 : s.vm.findClass ("[" ++ FieldType.byte.toString) = some cA := (hK1.2 3 (cA, .byte) rfl).2
  have h2 : s.vm.findClass ("[" ++ FieldType.byte.toString) = some cB := (hK.2 1 (cB, .byte) rfl).2
  have h3 : cA = cB := Option.some.inj (h1.symm.trans h2)
  subst h3
  exact kk q H1 hP1 hD1 hS1
theorem ja_newz (hx : p.tables.exec = Jvm.exec) (hb : c.code = cc) (harr : (Cond.arrayClass .boolean).before args s = true) (hK : va_K D vwCl (jT cI cB cZ) s) (hP : va_P D vwCl W0 H) (hD : va_D A W0) (hS : va_S A s.heap H locs) (hA : ∀ q, s.heap.size ≤ q → A q) {k : Int32} {N : Nat} (hn : ¬ k < 0) (hN : k.toNatClampNeg = N) (hbytes : N * componentBytes .boolean ≤ 536870912) (hcells : cells + 1 ≤ R.cells) (hslots : slots + N ≤ R.slots) (hdg : decode cc pc = .ok (.newarray .boolean, 2))
    (kk : ∀ (q : Nat) (H1 : Heap), va_P D vwCl (W0 ++ [(q, .inl (cZ, N, .inl (fun _ => 0)))]) H1 → va_D A (W0 ++ [(q, .inl (cZ, N, .inl (fun _ => 0)))]) → va_S A s.heap H1 locs → W p l e R s m args below meth c H1 locs (cells + 1) (slots + N) Q (F0 m (pc + 2) ls (.ref q :: rest))) : W p l e R s m args below meth c H locs cells slots Q (F0 m pc ls (.int k :: rest)) := by
  refine va_newa (atype := .boolean) (ty := .boolean) (a0 := (N, .inl (fun _ => 0))) hx hb harr rfl hK hP hD hS hA (fun _ => rfl) hn hN hbytes hcells hslots hdg (fun q cA H1 hK1 hP1 hD1 hS1 => ?_)
  have h1 : s.vm.findClass ("[" ++ FieldType.boolean.toString) = some cA := (hK1.2 3 (cA, .boolean) rfl).2
  have h2 : s.vm.findClass ("[" ++ FieldType.boolean.toString) = some cZ := (hK.2 2 (cZ, .boolean) rfl).2
  have h3 : cA = cZ := Option.some.inj (h1.symm.trans h2)
  subst h3
  exact kk q H1 hP1 hD1 hS1
/-- a constructor's call: the object's cell comes back with what it has made -/
theorem jcK {tys : List (ClassId × FieldType)} {c1 : (Nat → Nat) → va_W} {mc ms : Nat} (S : CallFix p m c cc nL s args Ts own) (hK : va_K D vwCl tys s) (hN : jN G s) (hA : (∀ q, s.heap.size ≤ q → A q) ∧ ∀ q, A q → G.1 ≤ q) {As : List Value} (hM : jMk l y ws rm G D tys (.ref b :: As) w0 c1 mc ms) (cw : CallB R s args own index y bytes maxL none ws rm mc ms n ∧ y.name = "<init>" ∧ (Cond.instanceMethod y).before args s = true) (hP : va_P D vwCl W0 H) (hD : va_D A W0) (hS : va_S A s.heap H locs) (isC isR : List Nat) (wr : va_W) (hC : isC.map (fun i => W0[i]?) = w0.map some) (hR : isR.map (fun i => W0[i]?) = wr.map some) (hnd : va_nd isC = true) (hndR : va_nd isR = true) (hdis : ∀ i ∈ isR, i ∉ isC) (hn : As.length = n) (hsz : ls.size = nL) (hst : st0 = As.reverse ++ .ref b :: rest) (hrest : (rest.map fun v => v.category).sum ≤ 8) (hdg : decode cc pc = .ok (.invokespecial index, 3)) (hf : cells + mc ≤ R.cells ∧ slots + ms ≤ R.slots)
    (kk : ∀ (qs : Nat → Nat) (H1 : Heap) (locs1 : List Loc), va_P D vwCl (wr ++ c1 qs) H1 → va_D A (wr ++ c1 qs) → va_S A s.heap H1 locs1 → W p l e R s m args below meth c H1 locs1 (cells + mc) (slots + ms) Q (F0 m (pc + 3) ls rest)) : W p l e R s m args below meth c H locs cells slots Q (F0 m pc ls st0) := by
  have hFc := va_free hD hS hA.1 isC hC
  refine va_callv (va_runI S (hM H.size) cw ⟨jblind, jpre hC hnd hP hD hS hK hN hA.2⟩ rfl hn hsz hst (lv_room hrest) hdg hf) hS (fun q _ h => hFc q h) hFc (fun qs t H1 locs1 ht hvm hw hB hz1 hk1 hS1 => ?_)
  obtain ⟨hP1, hD1⟩ := hB
  rw [ht] at hP1
  obtain ⟨g1, g2⟩ := va_join hP hD isC isR hC hR hndR hdis hk1 hFc hP1 hD1
  exact kk qs H1 locs1 g1 g2 hS1
theorem jcKN {tys : List (ClassId × FieldType)} {host : String} {c1 : (Nat → Nat) → va_W} {mc ms : Nat} (S : CallFix p m c cc nL s args Ts own) (hK : va_K D vwCl tys s) (hN : jN G s) (hA : (∀ q, s.heap.size ≤ q → A q) ∧ ∀ q, A q → G.1 ≤ q) {As : List Value} (hM : jMk l y ws rm G D tys (.ref b :: As) w0 c1 mc ms) (cw : va_CN R s args own index y host bytes maxL none ws rm mc ms n ∧ y.name = "<init>" ∧ (Cond.instanceMethod y).before args s = true) (hP : va_P D vwCl W0 H) (hD : va_D A W0) (hS : va_S A s.heap H locs) (isC isR : List Nat) (wr : va_W) (hC : isC.map (fun i => W0[i]?) = w0.map some) (hR : isR.map (fun i => W0[i]?) = wr.map some) (hnd : va_nd isC = true) (hndR : va_nd isR = true) (hdis : ∀ i ∈ isR, i ∉ isC) (hn : As.length = n) (hsz : ls.size = nL) (hst : st0 = As.reverse ++ .ref b :: rest) (hrest : (rest.map fun v => v.category).sum ≤ 8) (hdg : decode cc pc = .ok (.invokespecial index, 3)) (hf : cells + mc ≤ R.cells ∧ slots + ms ≤ R.slots)
    (kk : ∀ (qs : Nat → Nat) (H1 : Heap) (locs1 : List Loc), va_P D vwCl (wr ++ c1 qs) H1 → va_D A (wr ++ c1 qs) → va_S A s.heap H1 locs1 → W p l e R s m args below meth c H1 locs1 (cells + mc) (slots + ms) Q (F0 m (pc + 3) ls rest)) : W p l e R s m args below meth c H locs cells slots Q (F0 m pc ls st0) := by
  have hFc := va_free hD hS hA.1 isC hC
  refine va_callv (va_runIN S (hM H.size) cw ⟨jblind, jpre hC hnd hP hD hS hK hN hA.2⟩ rfl hn hsz hst (lv_room hrest) hdg hf) hS (fun q _ h => hFc q h) hFc (fun qs t H1 locs1 ht hvm hw hB hz1 hk1 hS1 => ?_)
  obtain ⟨hP1, hD1⟩ := hB
  rw [ht] at hP1
  obtain ⟨g1, g2⟩ := va_join hP hD isC isR hC hR hndR hdis hk1 hFc hP1 hD1
  exact kk qs H1 locs1 g1 g2 hS1
end JMAKE

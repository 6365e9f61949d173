/-! new int[2][1000], by the machine's own step (the outer array, a row, its store, a row, its store); the row of Turns' grid -/
section JGD
variable {E : CtlPost} {e : Env} {d : Bool} {acts : List Action} {s : State} {cI cJ comp : ClassId} {kI kJ : Class} {n : Nat}
def jgO (cJ : ClassId) : Cell := { cls := cJ, slots := Array.replicate 2 .null, vm := .none }
def jgI (cI : ClassId) (n : Nat) : Cell := { cls := cI, slots := Array.replicate n (.int 0), vm := .none }
def jgA (s : State) (cJ cI : ClassId) (n : Nat) : State := ((s.pushCell (jgO cJ)).pushCell (jgI cI n)).setCell s.heap.size ((jgO cJ).setSlot 0 (.ref (s.heap.size + 1)))
def jgS (s : State) (cJ cI : ClassId) (n : Nat) : State := ((jgA s cJ cI n).pushCell (jgI cI n)).setCell s.heap.size (((jgO cJ).setSlot 0 (.ref (s.heap.size + 1))).setSlot 1 (.ref (s.heap.size + 2)))
theorem jg_row {Q : Addr → Pre} {b : Int32} (hk : s.vm.classes[cI]? = some kI) (hkind : kI.kind = .array comp .int) (hb : ¬ b < 0) (hn : b.toNatClampNeg = n) (h1 : ¬ n > e.platform.arrayLengthLimit) (h2 : ¬ n * componentBytes .int > e.platform.maxHeapBytes) (h3 : s.heap.size < e.platform.maxCells) (h4 : s.slotsUsed + n ≤ e.platform.maxSlots) (hq : ∀ acts', Q s.heap.size d acts' (s.pushCell (jgI cI n))) : wp (multianewarray.make cI [b]) Q E e d acts s := by
  unfold multianewarray.make
  simp only [wp_bind', W.ite, hb, if_false, wp_pure', W.theClass, hk, Option.some.injEq, exists_eq_left', hkind]
  rw [hn]
  exact W.newArray_of hk hkind h1 h2 h3 h4 rfl hq
theorem jg_make {Q : Addr → Pre} {a b : Int32} (hkJ : s.vm.classes[cJ]? = some kJ) (kindJ : kJ.kind = .array cI (.array .int)) (hkI : s.vm.classes[cI]? = some kI) (kindI : kI.kind = .array comp .int) (ha : ¬ a < 0) (ha0 : (a == 0) = false) (ha2 : a.toNatClampNeg = 2) (hb : ¬ b < 0) (hn : b.toNatClampNeg = n) (l1 : ¬ 2 > e.platform.arrayLengthLimit) (l2 : ¬ 2 * componentBytes (.array .int) > e.platform.maxHeapBytes) (l3 : ¬ n > e.platform.arrayLengthLimit) (l4 : ¬ n * componentBytes .int > e.platform.maxHeapBytes) (h3 : s.heap.size + 3 ≤ e.platform.maxCells) (h4 : s.slotsUsed + (2 + 2 * n) ≤ e.platform.maxSlots) (hq : ∀ acts', Q s.heap.size true acts' (jgS s cJ cI n)) : wp (multianewarray.make cJ [a, b]) Q E e d acts s := by
  have zO : (jgO cJ).slots.size = 2 := by simp [jgO]
  have zI : (jgI cI n).slots.size = n := by simp [jgI]
  have fJ : ∀ (t : State) (i : Nat) (x : Addr), t.vm = s.vm → t.fitsSlot cJ .none i (.ref x) = true := fun t i x ht => by
    simp [State.fitsSlot, State.slotType?, ht, hkJ, kindJ, fits]
  unfold multianewarray.make
  simp only [wp_bind', W.ite, ha, if_false, wp_pure', W.theClass, hkJ, Option.some.injEq, exists_eq_left', kindJ, ha0, Bool.false_eq_true, ha2]
  refine W.newArray_of hkJ kindJ l1 l2 (by omega) (by omega) rfl (fun acts1 => ?_)
  simp only [Std.Legacy.Range.forIn_eq_forIn_range', Std.Legacy.Range.size]
  rw [show List.range' 0 ((2 - 0 + 1 - 1) / 1) 1 = [0, 1] from rfl]
  simp only [List.forIn_cons, List.forIn_nil, wp_bind', wp_pure']
  refine jg_row (s := s.pushCell (jgO cJ)) (comp := comp) hkI kindI hb hn l3 l4 (by simp; omega) (by simp [zO]; omega) (fun acts2 => ?_)
  have c1 : ((s.pushCell (jgO cJ)).pushCell (jgI cI n)).heap[s.heap.size]? = some (jgO cJ) := by
    simp [Array.getElem?_push]
  have e1 : (s.pushCell (jgO cJ)).heap.size = s.heap.size + 1 := by simp
  simp only [wp_bind', W.writeLoc, wp_pure']
  refine ⟨jgO cJ, c1, (by intro h; cases h), (by show 0 < (jgO cJ).slots.size; rw [zO]; omega), fJ _ _ _ rfl, ?_⟩
  rw [e1]
  refine jg_row (s := jgA s cJ cI n) (comp := comp) hkI kindI hb hn l3 l4 (by simp [jgA]; omega) (by simp [jgA, zO, zI]; omega) (fun acts3 => ?_)
  have e2 : (jgA s cJ cI n).heap.size = s.heap.size + 2 := by simp [jgA]
  have c2 : ((jgA s cJ cI n).pushCell (jgI cI n)).heap[s.heap.size]? = some ((jgO cJ).setSlot 0 (.ref (s.heap.size + 1))) := by
    rw [State.heap_pushCell, Array.getElem?_push, if_neg (by omega)]
    exact State.heap_setCell_self c1
  simp only [wp_bind', W.writeLoc, wp_pure']
  refine ⟨(jgO cJ).setSlot 0 (.ref (s.heap.size + 1)), c2, (by intro h; cases h), (by simp [Cell.setSlot, zO]), fJ _ _ _ rfl, ?_⟩
  rw [e2]
  exact hq _
theorem jg_sem {Q : Unit → Pre} {f : JFrame} {index : Nat} {rest : List Value} {a b : Int32} (hs : s.topJava?.isSome) (hr : s.vm.classReady f.method.cls index cJ) (hst : f.stack = .int b :: .int a :: rest) (hkJ : s.vm.classes[cJ]? = some kJ) (kindJ : kJ.kind = .array cI (.array .int)) (hkI : s.vm.classes[cI]? = some kI) (kindI : kI.kind = .array comp .int) (ha : ¬ a < 0) (ha0 : (a == 0) = false) (ha2 : a.toNatClampNeg = 2) (hb : ¬ b < 0) (hn : b.toNatClampNeg = n) (l1 : ¬ 2 > e.platform.arrayLengthLimit) (l2 : ¬ 2 * componentBytes (.array .int) > e.platform.maxHeapBytes) (l3 : ¬ n > e.platform.arrayLengthLimit) (l4 : ¬ n * componentBytes .int > e.platform.maxHeapBytes) (h3 : s.heap.size + 3 ≤ e.platform.maxCells) (h4 : s.slotsUsed + (2 + 2 * n) ≤ e.platform.maxSlots) (hq : ∀ acts', Q () true acts' ((jgS s cJ cI n).setTop { f with stack := .ref s.heap.size :: rest })) : wp (multianewarray.sem index 2) Q E e d acts (s.setTop f) := by
  simp only [multianewarray.sem, wp_bind', W.resolveClassAt_ready (State.method?_setTop f hs) hr, Jvm.popN, W.pop]
  refine ⟨f, State.topJava?_setTop' _ hs, _, _, hst, ?_⟩
  simp only [State.setTop_setTop]
  refine ⟨_, State.topJava?_setTop' _ hs, _, _, rfl, ?_⟩
  simp only [State.setTop_setTop, wp_pure', List.nil_append, List.cons_append, List.mapM, List.mapM.loop, wp_bind', List.reverse_cons, List.reverse_nil]
  refine jg_make (s := s.setTop { f with stack := rest }) hkJ kindJ hkI kindI ha ha0 ha2 hb hn l1 l2 l3 l4 h3 h4 (fun acts' => ?_)
  have key : ∃ f0, ((jgS s cJ cI n).setTop { f with stack := rest }).topJava? = some f0 ∧ Q () true acts' (((jgS s cJ cI n).setTop { f with stack := rest }).setTop { f0 with stack := .ref s.heap.size :: f0.stack }) := ⟨_, State.topJava?_setTop' _ (show (jgS s cJ cI n).topJava?.isSome from hs), by rw [State.setTop_setTop]; exact hq _⟩
  exact key
theorem jg_cold {Q : Unit → Pre} {f : JFrame} {index c : Nat} {vm' : Vm} (hs : s.topJava?.isSome) (hg : (Jvm.resolveClass f.method.cls index).Gives e.toSetting s.vm (.ok c) vm') (hr : vm'.classReady f.method.cls index c) (hsz : vm'.classes.size ≤ s.vm.classes.size) (h : wp (multianewarray.sem index 2) Q E e d acts ((s.setVm vm').setTop f)) : wp (multianewarray.sem index 2) Q E e d acts (s.setTop f) := by
  simp only [multianewarray.sem, wp_bind'] at h ⊢
  exact (W.resolveClassAt_transfer (s := s.setTop f) (State.method?_setTop f hs) hg hr hsz).mpr h
end JGD
theorem jg_heap (H : Heap) (O0 I O1 O2 : Cell) {G : Heap} (hG : G = ((((H.push O0).push I).setIfInBounds H.size O1).push I).setIfInBounds H.size O2) : G.size = H.size + 3 ∧ (∀ x, x < H.size → G[x]? = H[x]?) ∧ G[H.size]? = some O2 ∧ G[H.size + 1]? = some I ∧ G[H.size + 2]? = some I := by
  subst hG
  refine ⟨by simp, fun x hx => ?_, ?_, ?_, ?_⟩
  · rw [Array.getElem?_setIfInBounds_ne (by omega), Array.getElem?_push, if_neg (by simp; omega), Array.getElem?_setIfInBounds_ne (by omega), Array.getElem?_push, if_neg (by simp; omega), Array.getElem?_push, if_neg (by omega)]
  · rw [Array.getElem?_setIfInBounds_self_of_lt (by simp; omega)]
  · rw [Array.getElem?_setIfInBounds_ne (by omega), Array.getElem?_push, if_neg (by simp), Array.getElem?_setIfInBounds_ne (by omega), Array.getElem?_push, if_pos (by simp)]
  · rw [Array.getElem?_setIfInBounds_ne (by omega), Array.getElem?_push, if_pos (by simp)]
theorem jg_outer (cJ : ClassId) (N : Nat) : ((jgO cJ).setSlot 0 (.ref (N + 1))).setSlot 1 (.ref (N + 2)) = vp_cell cJ (2, .inr (.inr (.inr (.inr (jO2 (N + 1) (N + 2)))))) := by
  rw [vp_cell_q]
  unfold jgO
  rw [arrV_new, arrV_store, arrV_store]
  refine congrArg (arrV cJ 2) (funext fun j => ?_)
  unfold updV jO2
  by_cases h1 : j = 1
  · subst h1; rfl
  · by_cases h0 : j = 0
    · subst h0; rfl
    · rw [if_neg h1, if_neg h0, if_neg h0, if_neg h1]; rfl
theorem jg_inner (cI : ClassId) (n : Nat) : jgI cI n = vp_cell cI (n, .inl (fun _ => 0)) := by
  rw [vp_cell_i]
  exact arrV_new ..
/-- what is written into cells that were not there at the beginning needs no word -/
theorem jg_drop {p : Program} {l : Launch} {e : Env} {R : Room} {s : State} {m : MethodId} {args : Array Value} {below : List Frame} {meth : Method} {c : Code} {T : State} {locs l2 : List Loc} {cells slots : Nat} (X : Stand p l e R s m args below meth c T (locs ++ l2) cells slots) (h : ∀ q ∈ l2, s.heap.size ≤ q.base) : Stand p l e R s m args below meth c T locs cells slots := by
  obtain ⟨a1, a2, a3, a4, a5, a6⟩ := X.same
  refine ⟨X.admits, X.cas, X.clock, X.frames, X.room, X.hears, X.method, X.code, X.here, X.tail, X.warmed, X.limits, X.bytes, a1, a2, a3, a4, a5, fun a c hc => ?_⟩
  obtain ⟨c', x1, x2, x3, x4⟩ := a6 a c hc
  refine ⟨c', x1, x2, x3, fun i hi => x4 i (fun hm => (List.mem_append.mp hm).elim hi (fun hm2 => ?_))⟩
  have h1 : s.heap.size ≤ a := h _ hm2
  exact absurd h1 (Nat.not_le.mpr (Array.getElem?_eq_some_iff.mp hc).1)
theorem jgrid : jGridRow := by
  intro p l e R s m args below meth c H locs cells slots Q D A X cI cB cZ cS cC cJ ls rest hx hb hown hcl hAA harr hK hP hD hS hA hc hs kk
  intro T hT XT
  subst hT
  obtain ⟨-, kI, hkI, comp, kindI⟩ := (hK.2 0 (cI, .int) rfl).1 0 (fun _ => .null)
  obtain ⟨cI', cJ', kJ, j1, -, hkJ, kindJ, j5⟩ := jAA_spec hAA
  have e1 : some cI' = some cI := j1.symm.trans (hK.2 0 (cI, .int) rfl).2
  have e2 : some cJ' = some cJ := j5.symm.trans (hK.2 5 (cJ, .array .int) rfl).2
  cases e1
  cases e2
  obtain ⟨cc', hfcc, hcl2⟩ := Cond.classLink_spec hown hcl e.platform (by rw [XT.admits.platform])
  have e3 : some cc' = some cJ := hfcc.symm.trans (hK.2 5 (cJ, .array .int) rfl).2
  cases e3
  obtain ⟨hg1, hwarm, hready⟩ := State.classEntry (e := e) XT.warmed hcl2
  generalize T.vm.noted m.cls 34 (.cls cJ) = vm1 at hg1 hwarm hready
  have hal : s.vm.Alike vm1 := hwarm.alike
  obtain ⟨kJ1, hkJ1, heJ⟩ := hal.2.2 _ _ hkJ
  obtain ⟨kI1, hkI1, heI⟩ := hal.2.2 _ _ hkI
  have kindJ1 : kJ1.kind = .array cI (.array .int) := by rw [heJ]; exact kindJ
  have kindI1 : kI1.kind = .array comp .int := by rw [heI]; exact kindI
  obtain ⟨r1, r2⟩ := XT.roomAbove hc hs
  have hlim := Launch.admits_arrayLengthLimit XT.admits
  have hhp := Launch.admits_maxHeapBytes XT.admits
  have hT5 : (jgS (T.setVm vm1) cJ cI 1000).heap = ((((T.heap.push (jgO cJ)).push (jgI cI 1000)).setIfInBounds T.heap.size ((jgO cJ).setSlot 0 (.ref (T.heap.size + 1)))).push (jgI cI 1000)).setIfInBounds T.heap.size (((jgO cJ).setSlot 0 (.ref (T.heap.size + 1))).setSlot 1 (.ref (T.heap.size + 2))) := rfl
  obtain ⟨g1, g2, g3, g4, g5⟩ := jg_heap T.heap _ _ _ _ hT5
  rw [jg_outer] at g3
  rw [jg_inner] at g4 g5
  have X2 := ((XT.noted hwarm).pushed (jgO cJ)).pushed (jgI cI 1000)
  have c1 : (((T.setVm vm1).pushCell (jgO cJ)).pushCell (jgI cI 1000)).heap[T.heap.size]? = some (jgO cJ) := by
    show ((T.heap.push (jgO cJ)).push (jgI cI 1000))[T.heap.size]? = _
    rw [Array.getElem?_push, if_neg (by simp), Array.getElem?_push, if_pos rfl]
  have X3 := (X2.stored c1 0 (.ref (T.heap.size + 1))).pushed (jgI cI 1000)
  have c2 : ((jgA (T.setVm vm1) cJ cI 1000).pushCell (jgI cI 1000)).heap[T.heap.size]? = some ((jgO cJ).setSlot 0 (.ref (T.heap.size + 1))) := by
    show ((((T.heap.push (jgO cJ)).push (jgI cI 1000)).setIfInBounds T.heap.size ((jgO cJ).setSlot 0 (.ref (T.heap.size + 1)))).push (jgI cI 1000))[T.heap.size]? = _
    rw [Array.getElem?_push, if_neg (by simp; omega), Array.getElem?_setIfInBounds_self_of_lt (by simp; omega)]
  have X4 := X3.stored c2 1 (.ref (T.heap.size + 2))
  have zO : (jgO cJ).slots.size = 2 := by simp [jgO]
  have zI : (jgI cI 1000).slots.size = 1000 := by simp [jgI]
  rw [zO, zI, List.append_assoc] at X4
  have X5 : Stand p l e R s m args below meth c (jgS (T.setVm vm1) cJ cI 1000) locs (cells + 3) (slots + 2002) := jg_drop X4 (fun q hq => by
    have hb : q.base = T.heap.size := by
      rcases List.mem_append.mp hq with h | h
      · rw [List.mem_singleton.mp h]
      · rw [List.mem_singleton.mp h]
    rw [hb]
    exact hS.1)
  have hlow : ∀ (i : Nat) (x : Nat × va_E), X[i]? = some x → x.1 < T.heap.size := fun i x hx => (hP i x hx).lt
  have hthree : ∀ (i : Nat) (x : Nat × va_E), ([(T.heap.size, .inl (cJ, 2, .inr (.inr (.inr (.inr (jO2 (T.heap.size + 1) (T.heap.size + 2))))))), (T.heap.size + 1, .inl (cI, 1000, .inl (fun _ => 0))), (T.heap.size + 2, .inl (cI, 1000, .inl (fun _ => 0)))] : va_W)[i]? = some x → x.1 = T.heap.size + i ∧ va_at D vwCl x (jgS (T.setVm vm1) cJ cI 1000).heap := by
    intro i x hx
    rcases i with _ | _ | _ | i
    · cases hx
      exact ⟨rfl, g3⟩
    · cases hx
      exact ⟨rfl, g4⟩
    · cases hx
      exact ⟨rfl, g5⟩
    · cases hx
  have hP1 := (hP.kept (fun i x hx => g2 x.1 (hlow i x hx))).app (fun i x hx => (hthree i x hx).2)
  have hD3 : va_D A ([(T.heap.size, .inl (cJ, 2, .inr (.inr (.inr (.inr (jO2 (T.heap.size + 1) (T.heap.size + 2))))))), (T.heap.size + 1, .inl (cI, 1000, .inl (fun _ => 0))), (T.heap.size + 2, .inl (cI, 1000, .inl (fun _ => 0)))] : va_W) := by
    refine ⟨fun i j x y hi hj hxy => ?_, fun i x hi => hA _ ?_⟩
    · have h1 := (hthree i x hi).1
      have h2 := (hthree j y hj).1
      omega
    · have h1 := (hthree i x hi).1
      have h2 := hS.1
      omega
  have hD1 := hD.app hD3 (fun i j x y hi hj => by
    have h1 := hlow i x hi
    have h2 := (hthree j y hj).1
    omega)
  have hS1 : va_S A s.heap (jgS (T.setVm vm1) cJ cI 1000).heap locs := ⟨by rw [g1]; have := hS.1; omega, fun x h1 h2 => (g2 x (Nat.lt_of_lt_of_le h1 hS.1)).trans (hS.2.1 x h1 h2), hS.2.2⟩
  obtain ⟨t, a1, b1⟩ := kk T.heap.size (T.heap.size + 1) (T.heap.size + 2) _ hP1 hD1 hS1 _ rfl X5
  refine ⟨t, ?_, b1⟩
  refine Steps.instr (c := c) (by simpa using XT.here) ?_
  rw [hb, dX9_init_70, hx]
  show wp (multianewarray.sem 34 2) _ _ e false [] (T.setTop _)
  refine jg_cold XT.here.top hg1 hready (Nat.le_trans hal.size_le XT.warmed.alike.symm.size_le) ?_
  refine jg_sem (s := T.setVm vm1) (a := 2) (b := 1000) (n := 1000) XT.here.top hready rfl hkJ1 kindJ1 hkI1 kindI1 (by decide) (by decide) (by decide) (by decide) (by decide) (by rw [hlim]; omega) (by rw [hhp]; decide) (by rw [hlim]; omega) (by rw [hhp]; decide) r1 (by show T.slotsUsed + _ ≤ _; omega) (fun acts' acts => ?_)
  rw [afterInstr_ok]
  exact a1

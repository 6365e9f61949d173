/-! methods that make: contracts and calls; worlds under a permutation -/
theorem jP_perm {D : va_G} {cl : List vw_C} {W0 W1 : va_W} {H : Heap} (h : W0.Perm W1) (hP : va_P D cl W0 H) : va_P D cl W1 H := by
  intro k q hq
  obtain ⟨i, hi⟩ := List.mem_iff_getElem?.mp (h.mem_iff.mpr (List.mem_of_getElem? hq))
  exact hP i q hi
theorem jD_nd {A : Nat → Prop} {W0 : va_W} : va_D A W0 ↔ List.Pairwise (fun p q : Nat × va_E => p.1 ≠ q.1) W0 ∧ ∀ q ∈ W0, A q.1 := by
  constructor
  · intro h
    refine ⟨List.pairwise_iff_getElem.mpr fun i j hi hj hij e => ?_, fun q hq => ?_⟩
    · have := h.1 i j _ _ (List.getElem?_eq_getElem hi) (List.getElem?_eq_getElem hj) e
      omega
    · obtain ⟨i, hi⟩ := List.mem_iff_getElem?.mp hq
      exact h.2 i q hi
  · intro h
    have hp := List.pairwise_iff_getElem.mp h.1
    refine ⟨fun i j p q hi hj e => ?_, fun k q hq => h.2 q (List.mem_of_getElem? hq)⟩
    obtain ⟨hi1, hi2⟩ := List.getElem?_eq_some_iff.mp hi
    obtain ⟨hj1, hj2⟩ := List.getElem?_eq_some_iff.mp hj
    rcases Nat.lt_trichotomy i j with g | g | g
    · exact absurd (by rw [hi2, hj2]; exact e) (hp i j hi1 hj1 g)
    · exact g
    · exact absurd (by rw [hi2, hj2]; exact e.symm) (hp j i hj1 hi1 g)
theorem jD_perm {A : Nat → Prop} {W0 W1 : va_W} (h : W0.Perm W1) (hD : va_D A W0) : va_D A W1 := by
  rw [jD_nd] at hD ⊢
  exact ⟨(h.pairwise_iff (fun {a b} e => fun g => e g.symm)).mp hD.1, fun q hq => hD.2 q (h.mem_iff.mpr hq)⟩
theorem j_pre {X pl w0 : va_W} {is : List Nat} (h : is.map (fun i => X[i]?) = w0.map some) : is.map (fun i => (X ++ pl)[i]?) = w0.map some := by
  rw [← h]
  refine List.map_congr_left fun i hi => ?_
  have h1 : X[i]? ∈ w0.map some := by rw [← h]; exact List.mem_map.mpr ⟨i, hi, rfl⟩
  obtain ⟨q, -, hq⟩ := List.mem_map.mp h1
  obtain ⟨hl, -⟩ := List.getElem?_eq_some_iff.mp hq.symm
  exact List.getElem?_append_left hl
def jMq (l : Launch) (y : MethodName) (ws : List Cond) (rm : Room) (G : jGt) (D : va_G) (tys : List (ClassId × FieldType)) (av : List Value) (c0 : va_W) (c1 : (Nat → Nat) → va_W) (r : Int32) (mc ms : Nat) : Prop := ∀ sz : Nat, Met l y ws rm (va_Pc av (jPre G D tys c0 sz)) (va_Qi (fun r' (_ : Nat → Nat) => r' = r) (fun qs t => va_P D vwCl (c1 qs) t.heap ∧ va_D (va_A c0 sz) (c1 qs)) (va_A c0 sz)) mc ms (va_A c0 sz)
def jMo (l : Launch) (y : MethodName) (ws : List Cond) (rm : Room) (G : jGt) (D : va_G) (tys : List (ClassId × FieldType)) (av : List Value) (c0 : va_W) (c1 : (Nat → Nat) → va_W) (ra : (Nat → Nat) → Option Nat) (mc ms : Nat) : Prop := ∀ sz : Nat, Met l y ws rm (va_Pc av (jPre G D tys c0 sz)) (va_Qq (fun r' (qs : Nat → Nat) => r' = ra qs) (fun qs t => va_P D vwCl (c1 qs) t.heap ∧ va_D (va_A c0 sz) (c1 qs)) (va_A c0 sz)) mc ms (va_A c0 sz)
theorem jmk_qi {l : Launch} {y : MethodName} {ws ws' : List Cond} {rm : Room} {G : jGt} {D : va_G} {tys : List (ClassId × FieldType)} {av : List Value} {c0 : va_W} {c1 : (Nat → Nat) → va_W} {r : Int32} {mc ms : Nat} {cc : ByteArray} {maxL : Nat} (own : String) (hown : y.cls = own) (hy : plainName y.cls = true) (hw : ws = Cond.code y cc maxL (some .int) :: ws') (hlen : (lg_sl av).length ≤ maxL)
    (body : ∀ (p : Program) (e : Env) (s : State) (m : MethodId) (args : Array Value) (below : List Frame) (meth : Method) (c : Code) (ls : Array Slot) (A : Nat → Prop) (Q : State → Prop), jCx p s m args c cc maxL ws own G D tys A → va_P D vwCl c0 s.heap → va_D A c0 → va_S A s.heap s.heap [] → lv_has ls maxL (lv_args 0 av) → (∀ (qs : Nat → Nat) (H : Heap) (locs : List Loc) (pc : Nat) (ls : Array Slot), va_P D vwCl (c1 qs) H → va_D A (c1 qs) → va_S A s.heap H locs → decode cc pc = .ok (.ireturn, 1) → W p l e rm s m args below meth c H locs mc ms Q (F0 m pc ls [.int r])) → W p l e rm s m args below meth c s.heap [] 0 0 Q (F0 m 0 ls [])) : jMq l y ws rm G D tys av c0 c1 r mc ms := by
  intro sz
  refine Met.ofW (cc := cc) (maxL := maxL) (ret := some .int) hy hw ?_
  intro p e s m args below meth c s₁ B hml hv
  obtain ⟨rfl, hsz, hP, hK, hD0, hN⟩ := hv
  have hx := B.exec
  have hb := B.bytes
  have hr := B.returns
  have hts := atoms_spec (ws := ws) B.pre
  have hown2 : s.vm.findClass own = some m.cls := by rw [← hown]; exact findClass_of_methodNamed B.named
  have hlocks := B.notSynchronized
  subst hsz
  have hD := hD0.self (sz := s.heap.size)
  have hl := lv_entry av (n := maxL) hlen
  rw [lg_entry_eq]
  refine body p e s m _ below meth c _ (va_A c0 s.heap.size) _ ⟨⟨hx, hb, hml, hown2, hts⟩, hK, hN, fun q h => Or.inr h, fun q h => h.elim (fun ⟨k, e, h⟩ => hD0.2 k _ h) (fun h => Nat.le_trans hN.2.1 h)⟩ hP hD va_S.rf hl (fun qs H locs pc ls hP1 hD1 hS hd => ?_)
  exact W.iret (v := r) hx hb hr (fun t ht hW => ⟨⟨r, qs, rfl, rfl, by show va_P D vwCl (c1 qs) t.heap; rw [ht]; exact hP1, hD1⟩, hS.F ht⟩) hS.2.2 hd
theorem jmk_qz {l : Launch} {y : MethodName} {ws ws' : List Cond} {rm : Room} {G : jGt} {D : va_G} {tys : List (ClassId × FieldType)} {av : List Value} {c0 : va_W} {c1 : (Nat → Nat) → va_W} {r : Int32} {mc ms : Nat} {cc : ByteArray} {maxL : Nat} (own : String) (hown : y.cls = own) (hy : plainName y.cls = true) (hw : ws = Cond.code y cc maxL (some .boolean) :: ws') (hlen : (lg_sl av).length ≤ maxL) (hz : r = 0 ∨ r = 1)
    (body : ∀ (p : Program) (e : Env) (s : State) (m : MethodId) (args : Array Value) (below : List Frame) (meth : Method) (c : Code) (ls : Array Slot) (A : Nat → Prop) (Q : State → Prop), jCx p s m args c cc maxL ws own G D tys A → va_P D vwCl c0 s.heap → va_D A c0 → va_S A s.heap s.heap [] → lv_has ls maxL (lv_args 0 av) → (∀ (qs : Nat → Nat) (H : Heap) (locs : List Loc) (pc : Nat) (ls : Array Slot), va_P D vwCl (c1 qs) H → va_D A (c1 qs) → va_S A s.heap H locs → decode cc pc = .ok (.ireturn, 1) → W p l e rm s m args below meth c H locs mc ms Q (F0 m pc ls [.int r])) → W p l e rm s m args below meth c s.heap [] 0 0 Q (F0 m 0 ls [])) : jMq l y ws rm G D tys av c0 c1 r mc ms := by
  intro sz
  refine Met.ofW (cc := cc) (maxL := maxL) (ret := some .boolean) hy hw ?_
  intro p e s m args below meth c s₁ B hml hv
  obtain ⟨rfl, hsz, hP, hK, hD0, hN⟩ := hv
  have hx := B.exec
  have hb := B.bytes
  have hr := B.returns
  have hts := atoms_spec (ws := ws) B.pre
  have hown2 : s.vm.findClass own = some m.cls := by rw [← hown]; exact findClass_of_methodNamed B.named
  have hlocks := B.notSynchronized
  subst hsz
  have hD := hD0.self (sz := s.heap.size)
  have hl := lv_entry av (n := maxL) hlen
  rw [lg_entry_eq]
  refine body p e s m _ below meth c _ (va_A c0 s.heap.size) _ ⟨⟨hx, hb, hml, hown2, hts⟩, hK, hN, fun q h => Or.inr h, fun q h => h.elim (fun ⟨k, e, h⟩ => hD0.2 k _ h) (fun h => Nat.le_trans hN.2.1 h)⟩ hP hD va_S.rf hl (fun qs H locs pc ls hP1 hD1 hS hd => ?_)
  exact W.zret (v := r) hx hb hr (jz_nar hz) (fun t ht hW => ⟨⟨r, qs, rfl, rfl, by show va_P D vwCl (c1 qs) t.heap; rw [ht]; exact hP1, hD1⟩, hS.F ht⟩) hS.2.2 hd
theorem jmk_qo {l : Launch} {y : MethodName} {ws ws' : List Cond} {rm : Room} {G : jGt} {D : va_G} {tys : List (ClassId × FieldType)} {av : List Value} {c0 : va_W} {c1 : (Nat → Nat) → va_W} {ra : (Nat → Nat) → Option Nat} {mc ms : Nat} {cc : ByteArray} {maxL : Nat} {cn : String} (own : String) (hown : y.cls = own) (hy : plainName y.cls = true) (hw : ws = Cond.code y cc maxL (some (.object cn)) :: ws') (hlen : (lg_sl av).length ≤ maxL)
    (body : ∀ (p : Program) (e : Env) (s : State) (m : MethodId) (args : Array Value) (below : List Frame) (meth : Method) (c : Code) (ls : Array Slot) (A : Nat → Prop) (Q : State → Prop), jCx p s m args c cc maxL ws own G D tys A → va_P D vwCl c0 s.heap → va_D A c0 → va_S A s.heap s.heap [] → lv_has ls maxL (lv_args 0 av) → (∀ (qs : Nat → Nat) (H : Heap) (locs : List Loc) (pc : Nat) (ls : Array Slot), va_P D vwCl (c1 qs) H → va_D A (c1 qs) → va_S A s.heap H locs → decode cc pc = .ok (.areturn, 1) → W p l e rm s m args below meth c H locs mc ms Q (F0 m pc ls [va_rf (ra qs)])) → W p l e rm s m args below meth c s.heap [] 0 0 Q (F0 m 0 ls [])) : jMo l y ws rm G D tys av c0 c1 ra mc ms := by
  intro sz
  refine Met.ofW (cc := cc) (maxL := maxL) (ret := some (.object cn)) hy hw ?_
  intro p e s m args below meth c s₁ B hml hv
  obtain ⟨rfl, hsz, hP, hK, hD0, hN⟩ := hv
  have hx := B.exec
  have hb := B.bytes
  have hr := B.returns
  have hts := atoms_spec (ws := ws) B.pre
  have hown2 : s.vm.findClass own = some m.cls := by rw [← hown]; exact findClass_of_methodNamed B.named
  have hlocks := B.notSynchronized
  subst hsz
  have hD := hD0.self (sz := s.heap.size)
  have hl := lv_entry av (n := maxL) hlen
  rw [lg_entry_eq]
  refine body p e s m _ below meth c _ (va_A c0 s.heap.size) _ ⟨⟨hx, hb, hml, hown2, hts⟩, hK, hN, fun q h => Or.inr h, fun q h => h.elim (fun ⟨k, e, h⟩ => hD0.2 k _ h) (fun h => Nat.le_trans hN.2.1 h)⟩ hP hD va_S.rf hl (fun qs H locs pc ls hP1 hD1 hS hd => ?_)
  refine W.aret (v := va_rf (ra qs)) hx hb hr (Or.inl ⟨_, rfl⟩) ?_ (fun t ht hW => ⟨⟨ra qs, qs, rfl, rfl, by show va_P D vwCl (c1 qs) t.heap; rw [ht]; exact hP1, hD1⟩, hS.F ht⟩) hS.2.2 hd
  cases ra qs with
  | none => exact Or.inl rfl
  | some a => exact Or.inr ⟨a, rfl⟩
section JMAKE2
variable {p : Program} {l : Launch} {e : Env} {R : Room} {s : State} {m : MethodId} {args : Array Value} {below : List Frame} {meth : Method} {c : Code} {H : Heap} {locs : List Loc} {cells slots : Nat} {Q : State → Prop}
variable {cc bytes : ByteArray} {nL maxL index n pc : Nat} {ls : Array Slot} {Ts ws : List Cond} {own C : String} {y : MethodName} {ret : Option FieldType} {rm : Room} {b : Addr} {rest st0 : List Value} {G : jGt} {D : va_G} {A : Nat → Prop} {X pl w0 : va_W} {tys : List (ClassId × FieldType)} {c1 : (Nat → Nat) → va_W} {mc ms : Nat}
theorem jcQ_i {r : Int32} (S : CallFix p m c cc nL s args Ts own) (hK : va_K D vwCl tys s) (hN : jN G s) (hA : (∀ q, s.heap.size ≤ q → A q) ∧ ∀ q, A q → G.1 ≤ q) {As : List Value} (hM : jMq l y ws rm G D tys (.ref b :: As) w0 c1 r mc ms) (cw : CallW R s args own C index y bytes maxL ret ws rm mc ms n) (hP : va_P D vwCl (X ++ pl) H) (hD : va_D A (X ++ pl)) (hS : va_S A s.heap H locs) (isC isR : List Nat) (wr : va_W) (hCx : isC.map (fun i => X[i]?) = w0.map some) (hR : isR.map (fun i => X[i]?) = wr.map some) (hnd : va_nd isC = true) (hndR : va_nd isR = true) (hdis : ∀ i ∈ isR, i ∉ isC) {ci : Nat} {q : vw_C} {fs : List Value} (hcl : vwCl[ci]? = some q) (qr : Nat) (hre : (X ++ pl)[qr]? = some (b, .inr (ci, fs))) (hqC : q.1 = C) (hn : As.length = n) (hsz : ls.size = nL) (hst : st0 = As.reverse ++ .ref b :: rest) (hrest : (rest.map fun v => v.category).sum ≤ 8) (hdg : decode cc pc = .ok (.invokevirtual index, 3)) (hf : cells + mc ≤ R.cells ∧ slots + ms ≤ R.slots)
    (kk : ∀ (qs : Nat → Nat) (H1 : Heap) (locs1 : List Loc), va_P D vwCl ((wr ++ c1 qs) ++ pl) H1 → va_D A ((wr ++ c1 qs) ++ pl) → va_S A s.heap H1 locs1 → W p l e R s m args below meth c H1 locs1 (cells + mc) (slots + ms) Q (F0 m (pc + 3) ls (.int r :: rest))) : W p l e R s m args below meth c H locs cells slots Q (F0 m pc ls st0) := by
  have hC : isC.map (fun i => (X ++ pl)[i]?) = w0.map some := j_pre hCx
  have hFc := va_free hD hS hA.1 isC hC
  subst hqC
  refine va_calli (va_runV S (hM H.size) cw ⟨jblind, va_recv hK hP hcl hre, jpre hC hnd hP hD hS hK hN hA.2⟩ rfl hn hsz hst (lv_room hrest) hdg hf) hS (fun q _ h => hFc q h) hFc (fun r1 qs t H1 locs1 ht hvm hw hB hz1 hk1 hS1 => ?_)
  subst hw
  obtain ⟨hP1, hD1⟩ := hB
  rw [ht] at hP1
  obtain ⟨g1, g2⟩ := va_joinQ hP hD isC isR hCx hR hndR hdis hk1 hFc hP1 hD1
  exact kk qs H1 locs1 g1 g2 hS1
theorem jcQ_o {ra : (Nat → Nat) → Option Nat} (S : CallFix p m c cc nL s args Ts own) (hK : va_K D vwCl tys s) (hN : jN G s) (hA : (∀ q, s.heap.size ≤ q → A q) ∧ ∀ q, A q → G.1 ≤ q) {As : List Value} (hM : jMo l y ws rm G D tys (.ref b :: As) w0 c1 ra mc ms) (cw : CallW R s args own C index y bytes maxL ret ws rm mc ms n) (hP : va_P D vwCl (X ++ pl) H) (hD : va_D A (X ++ pl)) (hS : va_S A s.heap H locs) (isC isR : List Nat) (wr : va_W) (hCx : isC.map (fun i => X[i]?) = w0.map some) (hR : isR.map (fun i => X[i]?) = wr.map some) (hnd : va_nd isC = true) (hndR : va_nd isR = true) (hdis : ∀ i ∈ isR, i ∉ isC) {ci : Nat} {q : vw_C} {fs : List Value} (hcl : vwCl[ci]? = some q) (qr : Nat) (hre : (X ++ pl)[qr]? = some (b, .inr (ci, fs))) (hqC : q.1 = C) (hn : As.length = n) (hsz : ls.size = nL) (hst : st0 = As.reverse ++ .ref b :: rest) (hrest : (rest.map fun v => v.category).sum ≤ 8) (hdg : decode cc pc = .ok (.invokevirtual index, 3)) (hf : cells + mc ≤ R.cells ∧ slots + ms ≤ R.slots)
    (kk : ∀ (qs : Nat → Nat) (H1 : Heap) (locs1 : List Loc), va_P D vwCl ((wr ++ c1 qs) ++ pl) H1 → va_D A ((wr ++ c1 qs) ++ pl) → va_S A s.heap H1 locs1 → W p l e R s m args below meth c H1 locs1 (cells + mc) (slots + ms) Q (F0 m (pc + 3) ls (va_rf (ra qs) :: rest))) : W p l e R s m args below meth c H locs cells slots Q (F0 m pc ls st0) := by
  have hC : isC.map (fun i => (X ++ pl)[i]?) = w0.map some := j_pre hCx
  have hFc := va_free hD hS hA.1 isC hC
  subst hqC
  refine va_callq (va_runV S (hM H.size) cw ⟨jblind, va_recv hK hP hcl hre, jpre hC hnd hP hD hS hK hN hA.2⟩ rfl hn hsz hst (lv_room hrest) hdg hf) hS (fun q _ h => hFc q h) hFc (fun r1 qs t H1 locs1 ht hvm hw hB hz1 hk1 hS1 => ?_)
  subst hw
  obtain ⟨hP1, hD1⟩ := hB
  rw [ht] at hP1
  obtain ⟨g1, g2⟩ := va_joinQ hP hD isC isR hCx hR hndR hdis hk1 hFc hP1 hD1
  exact kk qs H1 locs1 g1 g2 hS1
end JMAKE2

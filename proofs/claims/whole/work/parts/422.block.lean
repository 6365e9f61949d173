/-! calls on the last block of a world: B ++ w0 becomes B ++ w1 -/
theorem jb_l {B w0 : va_W} : (List.range' B.length w0.length).map (fun i => (B ++ w0)[i]?) = w0.map some := by
  refine List.ext_getElem? fun k => ?_
  rw [List.getElem?_map, List.getElem?_map]
  by_cases hk : k < w0.length
  · rw [List.getElem?_range' hk, List.getElem?_eq_getElem hk]
    show some ((B ++ w0)[B.length + 1 * k]?) = some (some w0[k])
    rw [List.getElem?_append_right (by omega), show B.length + 1 * k - B.length = k by omega, List.getElem?_eq_getElem hk]
  · rw [List.getElem?_eq_none (by simpa using hk), List.getElem?_eq_none (by omega)]
    rfl
theorem jb_r {B w0 : va_W} : (List.range' 0 B.length).map (fun i => (B ++ w0)[i]?) = B.map some := by
  refine List.ext_getElem? fun k => ?_
  rw [List.getElem?_map, List.getElem?_map]
  by_cases hk : k < B.length
  · rw [List.getElem?_range' hk, List.getElem?_eq_getElem hk]
    show some ((B ++ w0)[0 + 1 * k]?) = some (some B[k])
    rw [show 0 + 1 * k = k by omega, List.getElem?_append_left hk, List.getElem?_eq_getElem hk]
  · rw [List.getElem?_eq_none (by simpa using hk), List.getElem?_eq_none (by omega)]
    rfl
theorem jb_nd : ∀ (n a : Nat), va_nd (List.range' a n) = true
  | 0, _ => rfl
  | n + 1, a => by
    show (decide (a ∉ List.range' (a + 1) n) && va_nd (List.range' (a + 1) n)) = true
    rw [jb_nd n (a + 1), Bool.and_true, decide_eq_true_eq, List.mem_range']
    rintro ⟨i, -, h⟩
    omega
theorem jb_dis {b n : Nat} : ∀ i ∈ List.range' 0 b, i ∉ List.range' b n := by
  intro i hi hj
  obtain ⟨j, h1, h2⟩ := List.mem_range'.mp hi
  obtain ⟨k, h3, h4⟩ := List.mem_range'.mp hj
  omega
theorem jb_self {A : Nat → Prop} {B w0 : va_W} {sz : Nat} (hD : va_D A (B ++ w0)) : va_D (va_A w0 sz) w0 := by
  refine ⟨fun i j p q hi hj e => ?_, fun k q hq => Or.inl ⟨k, q.2, hq⟩⟩
  have h : ∀ {k : Nat} {q : Nat × va_E}, w0[k]? = some q → (B ++ w0)[B.length + k]? = some q := fun {k q} h => by
    rw [List.getElem?_append_right (by omega), show B.length + k - B.length = k by omega]
    exact h
  have := hD.1 _ _ p q (h hi) (h hj) e
  omega
section JBLOCK
variable {p : Program} {l : Launch} {e : Env} {R : Room} {s : State} {m : MethodId} {args : Array Value} {below : List Frame} {meth : Method} {c : Code} {H : Heap} {locs : List Loc} {cells slots : Nat} {Q : State → Prop}
variable {cc bytes : ByteArray} {nL maxL index n pc : Nat} {ls : Array Slot} {Ts ws : List Cond} {own C : String} {y : MethodName} {ret : Option FieldType} {rm : Room} {b : Addr} {rest st0 : List Value} {G : jGt} {D : va_G} {A : Nat → Prop} {B w0 w1 : va_W} {tys : List (ClassId × FieldType)} {c1 : (Nat → Nat) → va_W} {mc ms : Nat}
theorem jcB_v (S : CallFix p m c cc nL s args Ts own) (hK : va_K D vwCl tys s) (hN : jN G s) (hA : (∀ q, s.heap.size ≤ q → A q) ∧ ∀ q, A q → G.1 ≤ q) {As : List Value} (hM : jMv l y ws rm G D tys (.ref b :: As) w0 w1) (cw : CallW R s args own C index y bytes maxL ret ws rm 0 0 n) (hP : va_P D vwCl (B ++ w0) H) (hD : va_D A (B ++ w0)) (hS : va_S A s.heap H locs) {ci : Nat} {q : vw_C} {fs : List Value} (hcl : vwCl[ci]? = some q) (qr : Nat) (hre : (B ++ w0)[qr]? = some (b, .inr (ci, fs))) (hqC : q.1 = C) (hn : As.length = n) (hsz : ls.size = nL) (hst : st0 = As.reverse ++ .ref b :: rest) (hrest : (rest.map fun v => v.category).sum ≤ 8) (hdg : decode cc pc = .ok (.invokevirtual index, 3)) (hf : cells + 0 ≤ R.cells ∧ slots + 0 ≤ R.slots)
    (kk : ∀ (H1 : Heap) (locs1 : List Loc), va_P D vwCl (B ++ w1) H1 → va_D A (B ++ w1) → va_S A s.heap H1 locs1 → W p l e R s m args below meth c H1 locs1 cells slots Q (F0 m (pc + 3) ls rest)) : W p l e R s m args below meth c H locs cells slots Q (F0 m pc ls st0) := by
  have hFc := va_free hD hS hA.1 _ jb_l
  subst hqC
  refine va_callv (va_runV S (hM.2 H.size) cw ⟨jblind, va_recv hK hP hcl hre, jpre jb_l (jb_nd _ _) hP hD hS hK hN hA.2⟩ rfl hn hsz hst (lv_room hrest) hdg hf) hS (fun q _ h => hFc q h) hFc (fun u t H1 locs1 ht hvm hw hB hz1 hk1 hS1 => ?_)
  rw [ht] at hB
  obtain ⟨g1, g2⟩ := va_join hP hD _ _ jb_l jb_r (jb_nd _ _) jb_dis hk1 hFc hB (j_subD hM.1 (jb_self hD))
  exact kk H1 locs1 g1 g2 hS1
theorem jcB_i {r : Int32} (S : CallFix p m c cc nL s args Ts own) (hK : va_K D vwCl tys s) (hN : jN G s) (hA : (∀ q, s.heap.size ≤ q → A q) ∧ ∀ q, A q → G.1 ≤ q) {As : List Value} (hM : jMi l y ws rm G D tys (.ref b :: As) w0 w1 r) (cw : CallW R s args own C index y bytes maxL ret ws rm 0 0 n) (hP : va_P D vwCl (B ++ w0) H) (hD : va_D A (B ++ w0)) (hS : va_S A s.heap H locs) {ci : Nat} {q : vw_C} {fs : List Value} (hcl : vwCl[ci]? = some q) (qr : Nat) (hre : (B ++ w0)[qr]? = some (b, .inr (ci, fs))) (hqC : q.1 = C) (hn : As.length = n) (hsz : ls.size = nL) (hst : st0 = As.reverse ++ .ref b :: rest) (hrest : (rest.map fun v => v.category).sum ≤ 8) (hdg : decode cc pc = .ok (.invokevirtual index, 3)) (hf : cells + 0 ≤ R.cells ∧ slots + 0 ≤ R.slots)
    (kk : ∀ (H1 : Heap) (locs1 : List Loc), va_P D vwCl (B ++ w1) H1 → va_D A (B ++ w1) → va_S A s.heap H1 locs1 → W p l e R s m args below meth c H1 locs1 cells slots Q (F0 m (pc + 3) ls (.int r :: rest))) : W p l e R s m args below meth c H locs cells slots Q (F0 m pc ls st0) := by
  have hFc := va_free hD hS hA.1 _ jb_l
  subst hqC
  refine va_calli (va_runV S (hM.2 H.size) cw ⟨jblind, va_recv hK hP hcl hre, jpre jb_l (jb_nd _ _) hP hD hS hK hN hA.2⟩ rfl hn hsz hst (lv_room hrest) hdg hf) hS (fun q _ h => hFc q h) hFc (fun r1 u t H1 locs1 ht hvm hw hB hz1 hk1 hS1 => ?_)
  subst hw
  rw [ht] at hB
  obtain ⟨g1, g2⟩ := va_join hP hD _ _ jb_l jb_r (jb_nd _ _) jb_dis hk1 hFc hB (j_subD hM.1 (jb_self hD))
  exact kk H1 locs1 g1 g2 hS1
theorem jcB_q {r : Int32} (S : CallFix p m c cc nL s args Ts own) (hK : va_K D vwCl tys s) (hN : jN G s) (hA : (∀ q, s.heap.size ≤ q → A q) ∧ ∀ q, A q → G.1 ≤ q) {As : List Value} (hM : jMq l y ws rm G D tys (.ref b :: As) w0 c1 r mc ms) (cw : CallW R s args own C index y bytes maxL ret ws rm mc ms n) (hP : va_P D vwCl (B ++ w0) H) (hD : va_D A (B ++ w0)) (hS : va_S A s.heap H locs) {ci : Nat} {q : vw_C} {fs : List Value} (hcl : vwCl[ci]? = some q) (qr : Nat) (hre : (B ++ w0)[qr]? = some (b, .inr (ci, fs))) (hqC : q.1 = C) (hn : As.length = n) (hsz : ls.size = nL) (hst : st0 = As.reverse ++ .ref b :: rest) (hrest : (rest.map fun v => v.category).sum ≤ 8) (hdg : decode cc pc = .ok (.invokevirtual index, 3)) (hf : cells + mc ≤ R.cells ∧ slots + ms ≤ R.slots)
    (kk : ∀ (qs : Nat → Nat) (H1 : Heap) (locs1 : List Loc), va_P D vwCl (B ++ c1 qs) H1 → va_D A (B ++ c1 qs) → va_S A s.heap H1 locs1 → W p l e R s m args below meth c H1 locs1 (cells + mc) (slots + ms) Q (F0 m (pc + 3) ls (.int r :: rest))) : W p l e R s m args below meth c H locs cells slots Q (F0 m pc ls st0) := by
  have hFc := va_free hD hS hA.1 _ jb_l
  subst hqC
  refine va_calli (va_runV S (hM H.size) cw ⟨jblind, va_recv hK hP hcl hre, jpre jb_l (jb_nd _ _) hP hD hS hK hN hA.2⟩ rfl hn hsz hst (lv_room hrest) hdg hf) hS (fun q _ h => hFc q h) hFc (fun r1 qs t H1 locs1 ht hvm hw hB hz1 hk1 hS1 => ?_)
  subst hw
  obtain ⟨hP1, hD1⟩ := hB
  rw [ht] at hP1
  obtain ⟨g1, g2⟩ := va_join hP hD _ _ jb_l jb_r (jb_nd _ _) jb_dis hk1 hFc hP1 hD1
  exact kk qs H1 locs1 g1 g2 hS1
theorem jcB_o {ra : (Nat → Nat) → Option Nat} (S : CallFix p m c cc nL s args Ts own) (hK : va_K D vwCl tys s) (hN : jN G s) (hA : (∀ q, s.heap.size ≤ q → A q) ∧ ∀ q, A q → G.1 ≤ q) {As : List Value} (hM : jMo l y ws rm G D tys (.ref b :: As) w0 c1 ra mc ms) (cw : CallW R s args own C index y bytes maxL ret ws rm mc ms n) (hP : va_P D vwCl (B ++ w0) H) (hD : va_D A (B ++ w0)) (hS : va_S A s.heap H locs) {ci : Nat} {q : vw_C} {fs : List Value} (hcl : vwCl[ci]? = some q) (qr : Nat) (hre : (B ++ w0)[qr]? = some (b, .inr (ci, fs))) (hqC : q.1 = C) (hn : As.length = n) (hsz : ls.size = nL) (hst : st0 = As.reverse ++ .ref b :: rest) (hrest : (rest.map fun v => v.category).sum ≤ 8) (hdg : decode cc pc = .ok (.invokevirtual index, 3)) (hf : cells + mc ≤ R.cells ∧ slots + ms ≤ R.slots)
    (kk : ∀ (qs : Nat → Nat) (H1 : Heap) (locs1 : List Loc), va_P D vwCl (B ++ c1 qs) H1 → va_D A (B ++ c1 qs) → va_S A s.heap H1 locs1 → W p l e R s m args below meth c H1 locs1 (cells + mc) (slots + ms) Q (F0 m (pc + 3) ls (va_rf (ra qs) :: rest))) : W p l e R s m args below meth c H locs cells slots Q (F0 m pc ls st0) := by
  have hFc := va_free hD hS hA.1 _ jb_l
  subst hqC
  refine va_callq (va_runV S (hM H.size) cw ⟨jblind, va_recv hK hP hcl hre, jpre jb_l (jb_nd _ _) hP hD hS hK hN hA.2⟩ rfl hn hsz hst (lv_room hrest) hdg hf) hS (fun q _ h => hFc q h) hFc (fun r1 qs t H1 locs1 ht hvm hw hB hz1 hk1 hS1 => ?_)
  subst hw
  obtain ⟨hP1, hD1⟩ := hB
  rw [ht] at hP1
  obtain ⟨g1, g2⟩ := va_join hP hD _ _ jb_l jb_r (jb_nd _ _) jb_dis hk1 hFc hP1 hD1
  exact kk qs H1 locs1 g1 g2 hS1
theorem jcB_k {host : String} (S : CallFix p m c cc nL s args Ts own) (hK : va_K D vwCl tys s) (hN : jN G s) (hA : (∀ q, s.heap.size ≤ q → A q) ∧ ∀ q, A q → G.1 ≤ q) {As : List Value} (hM : jMk l y ws rm G D tys (.ref b :: As) w0 c1 mc ms) (cw : va_CN R s args own index y host bytes maxL none ws rm mc ms n ∧ y.name = "<init>" ∧ (Cond.instanceMethod y).before args s = true) (hP : va_P D vwCl (B ++ w0) H) (hD : va_D A (B ++ w0)) (hS : va_S A s.heap H locs) (hn : As.length = n) (hsz : ls.size = nL) (hst : st0 = As.reverse ++ .ref b :: rest) (hrest : (rest.map fun v => v.category).sum ≤ 8) (hdg : decode cc pc = .ok (.invokespecial index, 3)) (hf : cells + mc ≤ R.cells ∧ slots + ms ≤ R.slots)
    (kk : ∀ (qs : Nat → Nat) (H1 : Heap) (locs1 : List Loc), va_P D vwCl (B ++ c1 qs) H1 → va_D A (B ++ c1 qs) → va_S A s.heap H1 locs1 → W p l e R s m args below meth c H1 locs1 (cells + mc) (slots + ms) Q (F0 m (pc + 3) ls rest)) : W p l e R s m args below meth c H locs cells slots Q (F0 m pc ls st0) :=
  jcKN S hK hN hA hM cw hP hD hS _ _ B jb_l jb_r (jb_nd _ _) (jb_nd _ _) jb_dis hn hsz hst hrest hdg hf kk
theorem jcB_K (S : CallFix p m c cc nL s args Ts own) (hK : va_K D vwCl tys s) (hN : jN G s) (hA : (∀ q, s.heap.size ≤ q → A q) ∧ ∀ q, A q → G.1 ≤ q) {As : List Value} (hM : jMk l y ws rm G D tys (.ref b :: As) w0 c1 mc ms) (cw : CallB R s args own index y bytes maxL none ws rm mc ms n ∧ y.name = "<init>" ∧ (Cond.instanceMethod y).before args s = true) (hP : va_P D vwCl (B ++ w0) H) (hD : va_D A (B ++ w0)) (hS : va_S A s.heap H locs) (hn : As.length = n) (hsz : ls.size = nL) (hst : st0 = As.reverse ++ .ref b :: rest) (hrest : (rest.map fun v => v.category).sum ≤ 8) (hdg : decode cc pc = .ok (.invokespecial index, 3)) (hf : cells + mc ≤ R.cells ∧ slots + ms ≤ R.slots)
    (kk : ∀ (qs : Nat → Nat) (H1 : Heap) (locs1 : List Loc), va_P D vwCl (B ++ c1 qs) H1 → va_D A (B ++ c1 qs) → va_S A s.heap H1 locs1 → W p l e R s m args below meth c H1 locs1 (cells + mc) (slots + ms) Q (F0 m (pc + 3) ls rest)) : W p l e R s m args below meth c H locs cells slots Q (F0 m pc ls st0) :=
  jcK S hK hN hA hM cw hP hD hS _ _ B jb_l jb_r (jb_nd _ _) (jb_nd _ _) jb_dis hn hsz hst hrest hdg hf kk
end JBLOCK

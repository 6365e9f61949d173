/-! the class's kinds -/
theorem q_put {n : Nat} {W C : Nat → Nat} {ch fa hu wi : Nat → Int32} {sz : Int32} (hn : n ≤ 5) (hW : qP n W) (hC : qP n C) : ∃ ch' fa' hu' wi' V U, f_X10_put sz (8, ch) (8, fa) (8, hu) (8, wi) (nI n) (nI (qcd W n)) (nI (qcd C n)) = some (nI n, (8, ch'), (8, fa'), (8, hu'), (8, wi')) ∧ qXw n W C V U wi' ch' hu' fa' := by
  obtain ⟨ch1, wi1, c1, c2⟩ := q_clear (sz := sz) (x := nI n) (ch := ch) (wi := wi)
  have W8 : ∀ i, i < n → W i < 8 := fun i hi => by have := hW.1 i hi; omega
  have C8 : ∀ i, i < n → C i < 8 := fun i hi => by have := hC.1 i hi; omega
  have loop : qW (f_X10_put_l8 (nI n) (8, fa) (8, hu) (nI n) (nI (qcd W n)) (nI (qcd C n)) (8, ch1) (8, wi1) (nI 0)) (fun e => ∃ a b, e = ((8, a), (8, b)) ∧ qR 0 n b W ∧ qR 0 n a C) := by
    unfold f_X10_put_l8
    refine qfor 0 n (fun i z => ∃ a b, z = ((8, a), (8, b), nI i) ∧ qR 0 i b W ∧ qR 0 i a C) ⟨_, _, rfl, fun j hj => absurd hj (by omega), fun j hj => absurd hj (by omega)⟩ (by omega) (by omega) ?_ ?_
    · rintro i z - hi ⟨a, b, rfl, h1, h2⟩
      have n1 := q_numberAt hn W8 hi
      have n2 := q_numberAt hn C8 hi
      have s1 := q_set (f := b) (N := 8) (j := i) (x := nI (W i)) (by omega) (by decide)
      have s2 := q_set (f := a) (N := 8) (j := i) (x := nI (C i)) (by omega) (by decide)
      simp (disch := first | omega | assumption) only [f_X10_put_b8, f_X10_tie, f_X10_tie_j15, f_X10_tie_j15b, n1, n2, s1, s2, qn_lit, qn_ofNat, qn_neg1, qn_neg2, nI_add, pk_mul, qn_sub, qn_ltT, qn_ltF, qn_leT, qn_leF, qn_eqT, qn_eqF, qn_m1T, qn_m1F, qn_m1F2, qn_m1lt, qn_m1lt2, qn_m1le, qn_m1le2, qn_and1, qn_and3, qn_and7, qn_and15, qn_and31, qn_and255, qn_and2047, qn_shl, qn_shr, qn_or, qn_div, qn_modlt, Nat.reduceMod, Nat.reduceAdd, Nat.reduceMul, Nat.reducePow, Nat.reduceDiv, Nat.reduceSub, ↓reduceIte, qn_us, qn_un, not_true_eq_false, not_false_eq_true, true_and, and_true, qn_nn, qn_addm, qn_ngT, qn_ngF, qn_ngE, qn_ngE2, qn_ngL, qn_ngM, Nat.add_sub_cancel, qL, qS, qM, qV, qQ, qZ0, qZ1, qE_l, qE_r, qW_some]
      refine ⟨_, _, rfl, fun j hj => ?_, fun j hj => ?_⟩
      · rw [Nat.zero_add]
        by_cases e : j = i
        · rw [e]; exact pk_us
        · rw [pk_un e]; exact qR_0 h1 (by omega)
      · rw [Nat.zero_add]
        by_cases e : j = i
        · rw [e]; exact pk_us
        · rw [pk_un e]; exact qR_0 h2 (by omega)
    · rintro z ⟨a, b, rfl, h1, h2⟩
      simp (disch := first | omega | assumption) only [f_X10_put_b8, qn_lit, qn_ofNat, qn_neg1, qn_neg2, nI_add, pk_mul, qn_sub, qn_ltT, qn_ltF, qn_leT, qn_leF, qn_eqT, qn_eqF, qn_m1T, qn_m1F, qn_m1F2, qn_m1lt, qn_m1lt2, qn_m1le, qn_m1le2, qn_and1, qn_and3, qn_and7, qn_and15, qn_and31, qn_and255, qn_and2047, qn_shl, qn_shr, qn_or, qn_div, qn_modlt, Nat.reduceMod, Nat.reduceAdd, Nat.reduceMul, Nat.reducePow, Nat.reduceDiv, Nat.reduceSub, ↓reduceIte, qn_us, qn_un, not_true_eq_false, not_false_eq_true, true_and, and_true, qn_nn, qn_addm, qn_ngT, qn_ngF, qn_ngE, qn_ngE2, qn_ngL, qn_ngM, Nat.add_sub_cancel, qL, qS, qM, qV, qQ, qZ0, qZ1, qE_l, qE_r, qW_some]
      exact ⟨_, _, rfl, h1, h2⟩
  obtain ⟨e, g1, a, b, rfl, g2, g3⟩ := loop
  obtain ⟨fa', hu', V, U, t1, t2⟩ := q_turnBX (fa := fa) (hu := hu) (show n ≤ 8 by omega) hW hC g2 g3
  exact ⟨a, fa', hu', b, V, U, by simp (disch := first | omega | assumption) only [f_X10_put, c1, g1, t1, qn_lit, qn_ofNat, qn_neg1, qn_neg2, nI_add, pk_mul, qn_sub, qn_ltT, qn_ltF, qn_leT, qn_leF, qn_eqT, qn_eqF, qn_m1T, qn_m1F, qn_m1F2, qn_m1lt, qn_m1lt2, qn_m1le, qn_m1le2, qn_and1, qn_and3, qn_and7, qn_and15, qn_and31, qn_and255, qn_and2047, qn_shl, qn_shr, qn_or, qn_div, qn_modlt, Nat.reduceMod, Nat.reduceAdd, Nat.reduceMul, Nat.reducePow, Nat.reduceDiv, Nat.reduceSub, ↓reduceIte, qn_us, qn_un, not_true_eq_false, not_false_eq_true, true_and, and_true, qn_nn, qn_addm, qn_ngT, qn_ngF, qn_ngE, qn_ngE2, qn_ngL, qn_ngM, Nat.add_sub_cancel, qL, qS, qM, qV, qQ, qZ0, qZ1, qE_l, qE_r, qW_some], t2⟩
/-- the kinds among the first x pairs, as the class has them -/
def qKs (n N : Nat) (O : Nat → Nat → Nat) (x : Nat) (wv cd sh : Nat → Int32) : Prop := ∀ m, m < x → qKd n N O m → wv (qct (qKd n N O) m) = nI (qcd (O (m / N)) n) ∧ cd (qct (qKd n N O) m) = nI (qcd (O (m % N)) n) ∧ sh (qct (qKd n N O) m) = nI (N / qSt N (qac n N O) m)
theorem qKs_skip {n N : Nat} {O : Nat → Nat → Nat} {wv cd sh : Nat → Int32} {x : Nat} (h : qKs n N O x wv cd sh) (hx : ¬ qKd n N O x) : qKs n N O (x + 1) wv cd sh := by
  intro m hm hk
  by_cases e : m = x
  · subst e; exact absurd hk hx
  · exact h m (by omega) hk
theorem qKs_add {n N : Nat} {O : Nat → Nat → Nat} {wv cd sh : Nat → Int32} {x : Nat} (h : qKs n N O x wv cd sh) : qKs n N O (x + 1) (upd wv (qct (qKd n N O) x) (nI (qcd (O (x / N)) n))) (upd cd (qct (qKd n N O) x) (nI (qcd (O (x % N)) n))) (upd sh (qct (qKd n N O) x) (nI (N / qSt N (qac n N O) x))) := by
  intro m hm hk
  unfold upd
  by_cases e : m = x
  · subst e
    rw [if_pos rfl, if_pos rfl, if_pos rfl]
    exact ⟨rfl, rfl, rfl⟩
  · have := qct_ltN (K := qKd n N O) (show m < x by omega) hk
    rw [if_neg (by omega), if_neg (by omega), if_neg (by omega)]
    exact h m (by omega) hk
theorem qKs_row {n N : Nat} {O : Nat → Nat → Nat} {wv cd sh : Nat → Int32} {w : Nat} (h : qKs n N O (w * N) wv cd sh) (hx : ∀ c, c < N → ¬ qKd n N O (w * N + c)) : qKs n N O ((w + 1) * N) wv cd sh ∧ qct (qKd n N O) ((w + 1) * N) = qct (qKd n N O) (w * N) := by
  have key : ∀ c, c ≤ N → qKs n N O (w * N + c) wv cd sh ∧ qct (qKd n N O) (w * N + c) = qct (qKd n N O) (w * N) := by
    intro c
    induction c with
    | zero => intro _; exact ⟨h, rfl⟩
    | succ c ih =>
      intro hc
      obtain ⟨i1, i2⟩ := ih (by omega)
      have := hx c (by omega)
      refine ⟨qKs_skip i1 this, ?_⟩
      rw [← i2]
      exact qct_F this
  have := key N (Nat.le_refl _)
  rw [Nat.add_mul, Nat.one_mul]
  exact this
section
variable {n N : Nat} {O : Nat → Nat → Nat}
theorem q_addKinds {od ks : Nat → Int32} {w : Nat} {wv cd sh ch fa hu wi : Nat → Int32} {sz : Int32} (h : qOr n N O) (hB : qct (qKd n N O) (N * N) ≤ 64) (ho : qCO n N O od) (hw : w < N) (hl : ∀ p, p < N → ¬ qrni n N O p w < w) (hk : ∀ j, j < qct (qKe n N O w) N → ks j = nI (qcd (O (qkj (qKe n N O w) N j)) n)) (hs : qKs n N O (w * N) wv cd sh) : ∃ wv' cd' sh' ch' fa' hu' wi' sz', f_X0_addKindsWith (nI (qct (qKe n N O w) N)) (nI N) (nI n) (120, ks) (120, od) (nI (qct (qKd n N O) (w * N))) (64, cd) (64, sh) sz (64, wv) (8, ch) (8, fa) (8, hu) (8, wi) (nI (qcd (O w) n)) = some (nI (qct (qKd n N O) ((w + 1) * N)), (64, cd'), (64, sh'), sz', (64, wv'), (8, ch'), (8, fa'), (8, hu'), (8, wi')) ∧ qKs n N O ((w + 1) * N) wv' cd' sh' := by
  have N120 := h.2.2.1
  have n5 := h.2.1
  have n2 := h.1
  have loop : qW (f_X0_addKindsWith_l2 (nI (qct (qKe n N O w) N)) (nI N) (nI n) (120, ks) (120, od) (nI (qcd (O w) n)) (nI (qct (qKd n N O) (w * N))) (64, cd) (64, sh) sz (64, wv) (8, ch) (8, fa) (8, hu) (8, wi) (nI 0)) (fun e => ∃ wv' cd' sh' ch' fa' hu' wi' sz', e = (nI (qct (qKd n N O) (w * N + N)), (64, cd'), (64, sh'), sz', (64, wv'), (8, ch'), (8, fa'), (8, hu'), (8, wi')) ∧ qKs n N O (w * N + N) wv' cd' sh') := by
    unfold f_X0_addKindsWith_l2
    refine qfor 0 N (fun c z => ∃ wv' cd' sh' ch' fa' hu' wi' sz', z = (nI (qct (qKd n N O) (w * N + c)), (64, cd'), (64, sh'), sz', (64, wv'), (8, ch'), (8, fa'), (8, hu'), (8, wi'), nI c) ∧ qKs n N O (w * N + c) wv' cd' sh') ⟨wv, cd, sh, ch, fa, hu, wi, sz, rfl, hs⟩ (by omega) (by omega) ?_ ?_
    · rintro c z - hc ⟨wv', cd', sh', ch', fa', hu', wi', sz', rfl, hs'⟩
      have oc := ho c hc
      obtain ⟨s, s1, s2, s3, s4⟩ := q_namesKeep (ks := ks) (w := w) h hc hk
      obtain ⟨ch2, fa2, hu2, wi2, V, U, p1, p2⟩ := q_put (sz := sz') (ch := ch') (fa := fa') (hu := hu') (wi := wi') n5 (h.2.2.2.1 w hw) (h.2.2.2.1 c hc)
      have dm := qdm (x := w) hc
      have mM := qdm_lt hw hc
      have mi := qMi_pair h mM
      have st := qSt_pair h mM
      rw [dm.1, dm.2] at mi st
      have ctM := qct_mono (P := qKd n N O) (show w * N + c ≤ N * N by omega)
      have skip : ¬ qKd n N O (w * N + c) → ∃ wv2 cd2 sh2 ch3 fa3 hu3 wi3 sz3, (nI (qct (qKd n N O) (w * N + c)), (64, cd'), (64, sh'), nI n, (64, wv'), (8, ch2), (8, fa2), (8, hu2), (8, wi2), nI (c + 1)) = (nI (qct (qKd n N O) (w * N + (c + 1))), (64, cd2), (64, sh2), sz3, (64, wv2), (8, ch3), (8, fa3), (8, hu3), (8, wi3), nI (c + 1)) ∧ qKs n N O (w * N + (c + 1)) wv2 cd2 sh2 := by
        intro nk
        have e := qct_F (P := qKd n N O) (m := w * N + c) nk
        exact ⟨wv', cd', sh', ch2, fa2, hu2, wi2, nI n, by rw [show w * N + (c + 1) = w * N + c + 1 from rfl, e], qKs_skip hs' nk⟩
      by_cases ok : ∀ p, p < N → qKe n N O w p → ¬ qrni n N O p c < c
      · have se := s3 ok
        have kd : qKd n N O (w * N + c) ↔ qPr n (O w) (O c) := by
          unfold qKd
          rw [mi, dm.1, dm.2]
          exact ⟨fun z => z.2, fun z => ⟨⟨hl, fun p hp e => ok p hp e⟩, z⟩⟩
        have sS : s = qSt N (qac n N O) (w * N + c) := by rw [st, se]; rfl
        have s0 : 0 < s := by
          have := q_group h
          have e1 := this.2.2.2.2.2.2.1 (w * N + c) mM
          have e2 : (fun p => qac n N O p (w * N + c) = w * N + c) (qei n N O) := e1
          have := qct_ltN (K := fun p => qac n N O p (w * N + c) = w * N + c) (qei_s h).1 e2
          rw [sS]
          unfold qSt
          omega
        by_cases k64 : 64 ≤ qct (qKd n N O) (w * N + c)
        · have nk : ¬ qKd n N O (w * N + c) := fun z => by
            have := qct_ltN (K := qKd n N O) mM z
            omega
          have sk := skip nk
          generalize hq : qct (qKd n N O) (w * N + c) = kc at *
          simp (disch := first | omega | assumption) only [f_X0_addKindsWith_b2, f_X0_addKindsWith_j118, oc, s2, p1, qn_lit, qn_ofNat, qn_neg1, qn_neg2, nI_add, pk_mul, qn_sub, qn_ltT, qn_ltF, qn_leT, qn_leF, qn_eqT, qn_eqF, qn_m1T, qn_m1F, qn_m1F2, qn_m1lt, qn_m1lt2, qn_m1le, qn_m1le2, qn_and1, qn_and3, qn_and7, qn_and15, qn_and31, qn_and255, qn_and2047, qn_shl, qn_shr, qn_or, qn_div, qn_modlt, Nat.reduceMod, Nat.reduceAdd, Nat.reduceMul, Nat.reducePow, Nat.reduceDiv, Nat.reduceSub, ↓reduceIte, qn_us, qn_un, not_true_eq_false, not_false_eq_true, true_and, and_true, qn_nn, qn_addm, qn_ngT, qn_ngF, qn_ngE, qn_ngE2, qn_ngL, qn_ngM, Nat.add_sub_cancel, qL, qS, qM, qV, qQ, qZ0, qZ1, qE_l, qE_r, qW_some]
          exact sk
        · obtain ⟨e, g1, ⟨rfl, g2⟩ | ⟨rfl, g2⟩⟩ := q_isProper p2 (by omega)
          · have yes := kd.mpr g2
            have e := qct_T (P := qKd n N O) (m := w * N + c) yes
            have ad := qKs_add (x := w * N + c) hs'
            rw [dm.1, dm.2, ← sS] at ad
            have fin : ∃ wv2 cd2 sh2 ch3 fa3 hu3 wi3 sz3, (nI (qct (qKd n N O) (w * N + c) + 1), (64, upd cd' (qct (qKd n N O) (w * N + c)) (nI (qcd (O c) n))), (64, upd sh' (qct (qKd n N O) (w * N + c)) (nI (N / s))), nI n, (64, upd wv' (qct (qKd n N O) (w * N + c)) (nI (qcd (O w) n))), (8, ch2), (8, fa2), (8, hu2), (8, wi2), nI (c + 1)) = (nI (qct (qKd n N O) (w * N + (c + 1))), (64, cd2), (64, sh2), sz3, (64, wv2), (8, ch3), (8, fa3), (8, hu3), (8, wi3), nI (c + 1)) ∧ qKs n N O (w * N + (c + 1)) wv2 cd2 sh2 := ⟨_, _, _, ch2, fa2, hu2, wi2, nI n, by rw [show w * N + (c + 1) = w * N + c + 1 from rfl, e], ad⟩
            generalize hq : qct (qKd n N O) (w * N + c) = kc at *
            simp (disch := first | omega | assumption) only [f_X0_addKindsWith_b2, f_X0_addKindsWith_j118, oc, s2, p1, g1, qn_lit, qn_ofNat, qn_neg1, qn_neg2, nI_add, pk_mul, qn_sub, qn_ltT, qn_ltF, qn_leT, qn_leF, qn_eqT, qn_eqF, qn_m1T, qn_m1F, qn_m1F2, qn_m1lt, qn_m1lt2, qn_m1le, qn_m1le2, qn_and1, qn_and3, qn_and7, qn_and15, qn_and31, qn_and255, qn_and2047, qn_shl, qn_shr, qn_or, qn_div, qn_modlt, Nat.reduceMod, Nat.reduceAdd, Nat.reduceMul, Nat.reducePow, Nat.reduceDiv, Nat.reduceSub, ↓reduceIte, qn_us, qn_un, not_true_eq_false, not_false_eq_true, true_and, and_true, qn_nn, qn_addm, qn_ngT, qn_ngF, qn_ngE, qn_ngE2, qn_ngL, qn_ngM, Nat.add_sub_cancel, qL, qS, qM, qV, qQ, qZ0, qZ1, qE_l, qE_r, qW_some]
            exact fin
          · have sk := skip (fun z => g2 (kd.mp z))
            generalize hq : qct (qKd n N O) (w * N + c) = kc at *
            simp (disch := first | omega | assumption) only [f_X0_addKindsWith_b2, f_X0_addKindsWith_j118, oc, s2, p1, g1, qn_lit, qn_ofNat, qn_neg1, qn_neg2, nI_add, pk_mul, qn_sub, qn_ltT, qn_ltF, qn_leT, qn_leF, qn_eqT, qn_eqF, qn_m1T, qn_m1F, qn_m1F2, qn_m1lt, qn_m1lt2, qn_m1le, qn_m1le2, qn_and1, qn_and3, qn_and7, qn_and15, qn_and31, qn_and255, qn_and2047, qn_shl, qn_shr, qn_or, qn_div, qn_modlt, Nat.reduceMod, Nat.reduceAdd, Nat.reduceMul, Nat.reducePow, Nat.reduceDiv, Nat.reduceSub, ↓reduceIte, qn_us, qn_un, not_true_eq_false, not_false_eq_true, true_and, and_true, qn_nn, qn_addm, qn_ngT, qn_ngF, qn_ngE, qn_ngE2, qn_ngL, qn_ngM, Nat.add_sub_cancel, qL, qS, qM, qV, qQ, qZ0, qZ1, qE_l, qE_r, qW_some]
            exact sk
      · have s0 := s4 ok
        subst s0
        have nk : ¬ qKd n N O (w * N + c) := fun z => ok (fun p hp e => (mi.mp z.1).2 p hp e)
        have sk := skip nk
        generalize hq : qct (qKd n N O) (w * N + c) = kc at *
        simp (disch := first | omega | assumption) only [f_X0_addKindsWith_b2, f_X0_addKindsWith_j118, oc, s2, p1, qn_lit, qn_ofNat, qn_neg1, qn_neg2, nI_add, pk_mul, qn_sub, qn_ltT, qn_ltF, qn_leT, qn_leF, qn_eqT, qn_eqF, qn_m1T, qn_m1F, qn_m1F2, qn_m1lt, qn_m1lt2, qn_m1le, qn_m1le2, qn_and1, qn_and3, qn_and7, qn_and15, qn_and31, qn_and255, qn_and2047, qn_shl, qn_shr, qn_or, qn_div, qn_modlt, Nat.reduceMod, Nat.reduceAdd, Nat.reduceMul, Nat.reducePow, Nat.reduceDiv, Nat.reduceSub, ↓reduceIte, qn_us, qn_un, not_true_eq_false, not_false_eq_true, true_and, and_true, qn_nn, qn_addm, qn_ngT, qn_ngF, qn_ngE, qn_ngE2, qn_ngL, qn_ngM, Nat.add_sub_cancel, qL, qS, qM, qV, qQ, qZ0, qZ1, qE_l, qE_r, qW_some]
        exact sk
    · rintro z ⟨wv', cd', sh', ch', fa', hu', wi', sz', rfl, hs'⟩
      simp (disch := first | omega | assumption) only [f_X0_addKindsWith_b2, qn_lit, qn_ofNat, qn_neg1, qn_neg2, nI_add, pk_mul, qn_sub, qn_ltT, qn_ltF, qn_leT, qn_leF, qn_eqT, qn_eqF, qn_m1T, qn_m1F, qn_m1F2, qn_m1lt, qn_m1lt2, qn_m1le, qn_m1le2, qn_and1, qn_and3, qn_and7, qn_and15, qn_and31, qn_and255, qn_and2047, qn_shl, qn_shr, qn_or, qn_div, qn_modlt, Nat.reduceMod, Nat.reduceAdd, Nat.reduceMul, Nat.reducePow, Nat.reduceDiv, Nat.reduceSub, ↓reduceIte, qn_us, qn_un, not_true_eq_false, not_false_eq_true, true_and, and_true, qn_nn, qn_addm, qn_ngT, qn_ngF, qn_ngE, qn_ngE2, qn_ngL, qn_ngM, Nat.add_sub_cancel, qL, qS, qM, qV, qQ, qZ0, qZ1, qE_l, qE_r, qW_some]
      exact ⟨wv', cd', sh', ch', fa', hu', wi', sz', rfl, hs'⟩
  obtain ⟨e, g1, wv', cd', sh', ch', fa', hu', wi', sz', rfl, g2⟩ := loop
  rw [Nat.add_mul, Nat.one_mul]
  exact ⟨wv', cd', sh', ch', fa', hu', wi', sz', by simp (disch := first | omega | assumption) only [f_X0_addKindsWith, g1, qn_lit, qn_ofNat, qn_neg1, qn_neg2, nI_add, pk_mul, qn_sub, qn_ltT, qn_ltF, qn_leT, qn_leF, qn_eqT, qn_eqF, qn_m1T, qn_m1F, qn_m1F2, qn_m1lt, qn_m1lt2, qn_m1le, qn_m1le2, qn_and1, qn_and3, qn_and7, qn_and15, qn_and31, qn_and255, qn_and2047, qn_shl, qn_shr, qn_or, qn_div, qn_modlt, Nat.reduceMod, Nat.reduceAdd, Nat.reduceMul, Nat.reducePow, Nat.reduceDiv, Nat.reduceSub, ↓reduceIte, qn_us, qn_un, not_true_eq_false, not_false_eq_true, true_and, and_true, qn_nn, qn_addm, qn_ngT, qn_ngF, qn_ngE, qn_ngE2, qn_ngL, qn_ngM, Nat.add_sub_cancel, qL, qS, qM, qV, qQ, qZ0, qZ1, qE_l, qE_r, qW_some], g2⟩
end

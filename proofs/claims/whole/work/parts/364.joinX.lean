/-! the class's families: join -/
def qKI (c n : Nat) (W C V : Nat → Nat) (E : Nat → Nat → Nat → Prop) (Q : List Nat) (F : Nat → Nat) (K : Nat → Nat → Nat) (kb le qu : Nat → Int32) : Prop := qNd Q ∧ (∀ i, i < Q.length → Q.getD i 0 < c ∧ qu i = nI (Q.getD i 0)) ∧ (∀ p, p < c → (p ∈ Q → le p = nI (F p)) ∧ (¬ p ∈ Q → le p = mI)) ∧ ∀ p, p ∈ Q → F p ≤ p ∧ qcn E (F p) p ∧ ∀ r, r < n → kb (8 * p + r) = nI (K p r) ∧ qfo n W C V E (F p) r p (K p r) ∧ (F p = p → K p r = r)
def qKB (c n : Nat) (W C V : Nat → Nat) (E : Nat → Nat → Nat → Prop) (i i0 h : Nat) (Q : List Nat) (F : Nat → Nat) (K : Nat → Nat → Nat) (kb le qu : Nat → Int32) : Prop := qKI c n W C V E Q F K kb le qu ∧ (∀ j, j < i → j < Q.length → ∀ a b k, E a b k → (a = Q.getD j 0 ∨ b = Q.getD j 0) → a ∈ Q ∧ b ∈ Q ∧ F a = F b) ∧ (∀ j, i0 ≤ j → j < Q.length → F (Q.getD j 0) = h) ∧ (∀ p, p ≤ h → p ∈ Q) ∧ i0 ≤ i ∧ i ≤ Q.length
theorem qKI_len {c n : Nat} {W C V : Nat → Nat} {E : Nat → Nat → Nat → Prop} {Q : List Nat} {F : Nat → Nat} {K : Nat → Nat → Nat} {kb le qu : Nat → Int32} (h : qKI c n W C V E Q F K kb le qu) : Q.length ≤ c := qpig c Q.length (fun i => Q.getD i 0) (fun i hi => (h.2.1 i hi).1) (fun i j hi hj e => h.1 i j hi hj e)
/-- one more person of the family -/
theorem qKB_add {c n i i0 h x y : Nat} {W C V : Nat → Nat} {E : Nat → Nat → Nat → Prop} {Q : List Nat} {F : Nat → Nat} {K : Nat → Nat → Nat} {kb le qu kb' : Nat → Int32} {g : Nat → Nat} (hn : n ≤ 8) (hB : qKB c n W C V E i i0 h Q F K kb le qu) (hx : x ∈ Q) (hF : F x = h) (hy : y < c) (hQ : ¬ y ∈ Q) (hxy : qcn E x y) (hk1 : ∀ r, r < n → kb' (8 * y + r) = nI (g r)) (hk2 : ∀ j, j < 8 * y ∨ 8 * y + n ≤ j → kb' j = kb j) (hg : ∀ r, r < n → qfo n W C V E h r y (g r)) : qKB c n W C V E i i0 h (Q ++ [y]) (qup F y h) (fun p => if p = y then g else K p) kb' (upd le y (nI h)) (upd qu Q.length (nI y)) := by
  obtain ⟨⟨n1, n2, n3, n4⟩, b2, b3, b4, b5, b6⟩ := hB
  have ne : ∀ p, p ∈ Q → p ≠ y := fun p hp e => hQ (by rw [← e]; exact hp)
  have le' : (Q ++ [y]).length = Q.length + 1 := by simp
  have hy0 : h < y := Nat.lt_of_not_le (fun q => hQ (b4 y q))
  refine ⟨⟨qNd_app n1 hQ, fun j hj => ?_, fun p hp => ⟨fun hm => ?_, fun hm => ?_⟩, fun p hp => ?_⟩, fun j hj hj2 a b k hE hab => ?_, fun j hj hj2 => ?_, fun p hp => List.mem_append_left _ (b4 p hp), b5, by rw [le']; omega⟩
  · rw [le'] at hj
    by_cases e : j = Q.length
    · rw [e, q_getD_new, pk_us]; exact ⟨hy, rfl⟩
    · rw [q_getD_app (by omega), pk_un e]; exact n2 j (by omega)
  · by_cases e : p = y
    · rw [e, pk_us, qup_s]
    · rw [pk_un e, qup_n e]
      refine (n3 p hp).1 ?_
      rcases List.mem_append.mp hm with q | q
      · exact q
      · exact absurd (List.mem_singleton.mp q) e
  · have e : p ≠ y := fun e => hm (by rw [e]; simp)
    rw [pk_un e]
    exact (n3 p hp).2 (fun q => hm (List.mem_append_left _ q))
  · rcases List.mem_append.mp hp with q | q
    · have e := ne p q
      rw [qup_n e]
      simp only [if_neg e]
      obtain ⟨m1, m2, m3⟩ := n4 p q
      refine ⟨m1, m2, fun r hr => ⟨?_, (m3 r hr).2⟩⟩
      rw [hk2 _ (by omega)]
      exact (m3 r hr).1
    · have e := List.mem_singleton.mp q
      subst e
      rw [qup_s]
      simp only [if_true]
      have m2 := (n4 x hx).2.1
      rw [hF] at m2
      exact ⟨Nat.le_of_lt hy0, qcn_t m2 hxy, fun r hr => ⟨hk1 r hr, hg r hr, fun e => by omega⟩⟩
  · by_cases jl : j < Q.length
    · rw [q_getD_app jl] at hab
      obtain ⟨a1, a2, a3⟩ := b2 j hj jl a b k hE hab
      exact ⟨List.mem_append_left _ a1, List.mem_append_left _ a2, by rw [qup_n (ne a a1), qup_n (ne b a2)]; exact a3⟩
    · rw [le'] at hj2
      have : j = Q.length := by omega
      subst this
      omega
  · rw [le'] at hj2
    by_cases e : j = Q.length
    · rw [e, q_getD_new, qup_s]
    · rw [q_getD_app (by omega), qup_n (ne _ (q_getD_mem (by omega)))]
      exact b3 j hj (by omega)
theorem q_kindOf {x r : Nat} {kb : Nat → Int32} (hx : x < 24) (hr : r < 8) : f_X2_kindOf (192, kb) (nI x) (nI r) = some (kb (8 * x + r)) := by
  have e := q_entry (f := kb) (show 8 * x + r < 192 by omega) (by decide)
  simp (disch := first | omega | assumption) only [f_X2_kindOf, qn_lit, qn_ofNat, qn_neg1, qn_neg2, nI_add, pk_mul, qn_sub, qn_ltT, qn_ltF, qn_leT, qn_leF, qn_eqT, qn_eqF, qn_m1T, qn_m1F, qn_m1F2, qn_m1lt, qn_m1lt2, qn_m1le, qn_m1le2, qn_and1, qn_and3, qn_and7, qn_and15, qn_and31, qn_and255, qn_and2047, qn_shl, qn_shr, qn_or, qn_div, qn_modlt, Nat.reduceMod, Nat.reduceAdd, Nat.reduceMul, Nat.reducePow, Nat.reduceDiv, Nat.reduceSub, ↓reduceIte, qn_us, qn_un, not_true_eq_false, not_false_eq_true, true_and, and_true, qn_nn, qn_addm, qn_ngT, qn_ngF, qn_ngE, qn_ngE2, qn_ngL, qn_ngM, Nat.add_sub_cancel, qL, qS, qM, qV, qQ, qZ0, qZ1, qE_l, qE_r, qW_some, Nat.mul_comm x 8, e]
/-- join: one who is known, one who hangs on him, and the letter that leads there -/
theorem q_join {xp_sex : Nat → Int32} {xw_child : Nat → Int32} {xw_father : Nat → Int32} {xw_husband : Nat → Int32} {xw_wife : Nat → Int32} {ks_kindBy : Nat → Int32} {ks_least : Nat → Int32} {ks_queue : Nat → Int32} {c n i i0 h x y l s : Nat} {W C V U : Nat → Nat} {E : Nat → Nat → Nat → Prop} {Q : List Nat} {F : Nat → Nat} {K : Nat → Nat → Nat} (hw : qXw n W C V U xw_wife xw_child xw_husband xw_father) (hc : c ≤ 24) (hB : qKB c n W C V E i i0 h Q F K ks_kindBy ks_least ks_queue) (hx : x ∈ Q) (hF : F x = h) (hy : y < c) (hxy : qcn E x y) (hl : l < 8) (hs : s < 2) (hsx : xp_sex x = nI s) (hg : ∀ r u, qfo n W C V E h r x u → qfo n W C V E h r y (qst W C V U l s u)) : ∃ Q' F' K' kb' le' qu', f_X2_join (nI c) (nI n) (24, xp_sex) (8, xw_child) (8, xw_father) (8, xw_husband) (8, xw_wife) (nI Q.length) (192, ks_kindBy) (24, ks_least) (24, ks_queue) (nI x) (nI y) (nI l) = some (nI Q'.length, (192, kb'), (24, le'), (24, qu')) ∧ qKB c n W C V E i i0 h Q' F' K' kb' le' qu' ∧ y ∈ Q' ∧ (∀ p, p ∈ Q → p ∈ Q') ∧ (∀ j, j < Q.length → Q'.getD j 0 = Q.getD j 0) ∧ Q.length ≤ Q'.length := by
  have hn := hw.1.1
  have hq := qKI_len hB.1
  have hxc : x < c := by
    obtain ⟨j, j1, j2⟩ := q_mem.mp hx
    rw [← j2]; exact (hB.1.2.1 j j1).1
  have hh := q_has_in (c := c) (j := y) (by omega) hy
  by_cases hm : y ∈ Q
  · refine ⟨Q, F, K, ks_kindBy, ks_least, ks_queue, ?_, hB, hm, fun _ h => h, fun _ _ => rfl, Nat.le_refl _⟩
    have e := q_entry (f := ks_least) (show y < 24 by omega) (by decide)
    have fy := (hB.1.2.2.2 y hm).1
    rw [(hB.1.2.2.1 y hy).1 hm] at e
    simp (disch := first | omega | assumption) only [f_X2_join, hh, e, qn_lit, qn_ofNat, qn_neg1, qn_neg2, nI_add, pk_mul, qn_sub, qn_ltT, qn_ltF, qn_leT, qn_leF, qn_eqT, qn_eqF, qn_m1T, qn_m1F, qn_m1F2, qn_m1lt, qn_m1lt2, qn_m1le, qn_m1le2, qn_and1, qn_and3, qn_and7, qn_and15, qn_and31, qn_and255, qn_and2047, qn_shl, qn_shr, qn_or, qn_div, qn_modlt, Nat.reduceMod, Nat.reduceAdd, Nat.reduceMul, Nat.reducePow, Nat.reduceDiv, Nat.reduceSub, ↓reduceIte, qn_us, qn_un, not_true_eq_false, not_false_eq_true, true_and, and_true, qn_nn, qn_addm, qn_ngT, qn_ngF, qn_ngE, qn_ngE2, qn_ngL, qn_ngM, Nat.add_sub_cancel, qL, qS, qM, qV, qQ, qZ0, qZ1, qE_l, qE_r, qW_some]
  · have e := q_entry (f := ks_least) (show y < 24 by omega) (by decide)
    rw [(hB.1.2.2.1 y hy).2 hm] at e
    have e2 := q_entry (f := ks_least) (show x < 24 by omega) (by decide)
    rw [(hB.1.2.2.1 x hxc).1 hx, hF] at e2
    have s1 := q_set (f := ks_least) (x := nI h) (show y < 24 by omega) (by decide)
    have ex := q_sexOf (sx := xp_sex) hc hxc
    rw [hsx] at ex
    have hne : x ≠ y := fun z => hm (by rw [← z]; exact hx)
    have hK := (hB.1.2.2.2 x hx).2.2
    rw [hF] at hK
    have loop : qW (f_X2_join_l49 (nI n) (8, xw_child) (8, xw_father) (8, xw_husband) (8, xw_wife) (nI Q.length) ((24, upd ks_least y (nI h))) (24, ks_queue) (nI x) (nI y) (nI l) (nI s) (192, ks_kindBy) (nI 0)) (fun e => ∃ kb', e = (192, kb') ∧ (∀ r, r < n → kb' (8 * y + r) = nI (qst W C V U l s (K x r))) ∧ ∀ j, j < 8 * y ∨ 8 * y + n ≤ j → kb' j = ks_kindBy j) := by
      unfold f_X2_join_l49
      refine qfor 0 n (fun r z => ∃ kb', z = ((192, kb'), nI r) ∧ (∀ r', r' < r → kb' (8 * y + r') = nI (qst W C V U l s (K x r'))) ∧ ∀ j, j < 8 * y ∨ 8 * y + r ≤ j → kb' j = ks_kindBy j) ⟨_, rfl, fun r' hr => absurd hr (by omega), fun _ _ => rfl⟩ (by omega) (by omega) ?_ ?_
      · rintro r z - hr ⟨kb', rfl, k1, k2⟩
        have ko := q_kindOf (x := x) (r := r) (kb := kb') (by omega) (by omega)
        rw [k2 _ (by omega), (hK r hr).1] at ko
        have xn := (hK r hr).2.1.1
        have st := q_step hw.1 hw.2.1 hw.2.2.1 hw.2.2.2.1 hw.2.2.2.2 hl hs xn
        have se := q_set (f := kb') (x := nI (qst W C V U l s (K x r))) (show 8 * y + r < 192 by omega) (by decide)
        simp (disch := first | omega | assumption) only [f_X2_join_b49, ko, st, qn_lit, qn_ofNat, qn_neg1, qn_neg2, nI_add, pk_mul, qn_sub, qn_ltT, qn_ltF, qn_leT, qn_leF, qn_eqT, qn_eqF, qn_m1T, qn_m1F, qn_m1F2, qn_m1lt, qn_m1lt2, qn_m1le, qn_m1le2, qn_and1, qn_and3, qn_and7, qn_and15, qn_and31, qn_and255, qn_and2047, qn_shl, qn_shr, qn_or, qn_div, qn_modlt, Nat.reduceMod, Nat.reduceAdd, Nat.reduceMul, Nat.reducePow, Nat.reduceDiv, Nat.reduceSub, ↓reduceIte, qn_us, qn_un, not_true_eq_false, not_false_eq_true, true_and, and_true, qn_nn, qn_addm, qn_ngT, qn_ngF, qn_ngE, qn_ngE2, qn_ngL, qn_ngM, Nat.add_sub_cancel, qL, qS, qM, qV, qQ, qZ0, qZ1, qE_l, qE_r, qW_some, Nat.mul_comm y 8, se]
        refine ⟨_, rfl, fun r' hr' => ?_, fun j hj => ?_⟩
        · by_cases q : r' = r
          · rw [q, pk_us]
          · rw [pk_un (by omega)]; exact k1 r' (by omega)
        · rw [pk_un (by omega)]; exact k2 j (by omega)
      · rintro z ⟨kb', rfl, k1, k2⟩
        simp (disch := first | omega | assumption) only [f_X2_join_b49, qn_lit, qn_ofNat, qn_neg1, qn_neg2, nI_add, pk_mul, qn_sub, qn_ltT, qn_ltF, qn_leT, qn_leF, qn_eqT, qn_eqF, qn_m1T, qn_m1F, qn_m1F2, qn_m1lt, qn_m1lt2, qn_m1le, qn_m1le2, qn_and1, qn_and3, qn_and7, qn_and15, qn_and31, qn_and255, qn_and2047, qn_shl, qn_shr, qn_or, qn_div, qn_modlt, Nat.reduceMod, Nat.reduceAdd, Nat.reduceMul, Nat.reducePow, Nat.reduceDiv, Nat.reduceSub, ↓reduceIte, qn_us, qn_un, not_true_eq_false, not_false_eq_true, true_and, and_true, qn_nn, qn_addm, qn_ngT, qn_ngF, qn_ngE, qn_ngE2, qn_ngL, qn_ngM, Nat.add_sub_cancel, qL, qS, qM, qV, qQ, qZ0, qZ1, qE_l, qE_r, qW_some]
        exact ⟨kb', rfl, k1, k2⟩
    obtain ⟨e3, g1, kb', rfl, g2, g3⟩ := loop
    have hB' := qKB_add (g := fun r => qst W C V U l s (K x r)) hn hB hx hF hy hm hxy g2 g3 (fun r hr => hg r _ (hK r hr).2.1)
    have lq := qKI_len hB'.1
    have le' : (Q ++ [y]).length = Q.length + 1 := by simp
    have s2 := q_set (f := ks_queue) (x := nI y) (show Q.length < 24 by omega) (by decide)
    refine ⟨_, _, _, _, _, _, ?_, hB', by simp, fun p hp => List.mem_append_left _ hp, fun j hj => q_getD_app hj, by omega⟩
    simp (disch := first | omega | assumption) only [f_X2_join, hh, e, e2, s1, ex, g1, s2, qn_lit, qn_ofNat, qn_neg1, qn_neg2, nI_add, pk_mul, qn_sub, qn_ltT, qn_ltF, qn_leT, qn_leF, qn_eqT, qn_eqF, qn_m1T, qn_m1F, qn_m1F2, qn_m1lt, qn_m1lt2, qn_m1le, qn_m1le2, qn_and1, qn_and3, qn_and7, qn_and15, qn_and31, qn_and255, qn_and2047, qn_shl, qn_shr, qn_or, qn_div, qn_modlt, Nat.reduceMod, Nat.reduceAdd, Nat.reduceMul, Nat.reducePow, Nat.reduceDiv, Nat.reduceSub, ↓reduceIte, qn_us, qn_un, not_true_eq_false, not_false_eq_true, true_and, and_true, qn_nn, qn_addm, qn_ngT, qn_ngF, qn_ngE, qn_ngE2, qn_ngL, qn_ngM, Nat.add_sub_cancel, qL, qS, qM, qV, qQ, qZ0, qZ1, qE_l, qE_r, qW_some, le']
theorem q_join_no {n : Nat} {xp_sex : Nat → Int32} {xw_child : Nat → Int32} {xw_father : Nat → Int32} {xw_husband : Nat → Int32} {xw_wife : Nat → Int32} {ks_queued : Int32} {ks_kindBy : Nat → Int32} {ks_least : Nat → Int32} {ks_queue : Nat → Int32} {c : Nat} (hc : c ≤ 24) (x l : Int32) : f_X2_join (nI c) (nI n) (24, xp_sex) (8, xw_child) (8, xw_father) (8, xw_husband) (8, xw_wife) ks_queued (192, ks_kindBy) (24, ks_least) (24, ks_queue) x mI l = some (ks_queued, (192, ks_kindBy), (24, ks_least), (24, ks_queue)) := by
  have hh := q_has_out (c := c) (x := mI) (by omega) (Or.inl (by decide))
  simp (disch := first | omega | assumption) only [f_X2_join, hh, qn_lit, qn_ofNat, qn_neg1, qn_neg2, nI_add, pk_mul, qn_sub, qn_ltT, qn_ltF, qn_leT, qn_leF, qn_eqT, qn_eqF, qn_m1T, qn_m1F, qn_m1F2, qn_m1lt, qn_m1lt2, qn_m1le, qn_m1le2, qn_and1, qn_and3, qn_and7, qn_and15, qn_and31, qn_and255, qn_and2047, qn_shl, qn_shr, qn_or, qn_div, qn_modlt, Nat.reduceMod, Nat.reduceAdd, Nat.reduceMul, Nat.reducePow, Nat.reduceDiv, Nat.reduceSub, ↓reduceIte, qn_us, qn_un, not_true_eq_false, not_false_eq_true, true_and, and_true, qn_nn, qn_addm, qn_ngT, qn_ngF, qn_ngE, qn_ngE2, qn_ngL, qn_ngM, Nat.add_sub_cancel, qL, qS, qM, qV, qQ, qZ0, qZ1, qE_l, qE_r, qW_some]

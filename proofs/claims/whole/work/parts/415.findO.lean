/-! the reference's orders -/
theorem q_dm {r n : Nat} : r / n * n ≤ r ∧ r - r / n * n = r % n := by
  have h := Nat.div_add_mod' r n
  constructor <;> omega
theorem q_l40 {n c : Nat} (h2 : 2 ≤ n) (h5 : n ≤ 5) (hc : c < 3125) (a : Int32) (b : jA) (d : Int32) : f_X12_findOrders_l40 a b (nI n) d (nI c) (nI 0) (nI c) (nI 0) = some (nI (bmk n c n)) := by
  have loop : qW (f_X12_findOrders_l40 a b (nI n) d (nI c) (nI 0) (nI c) (nI 0)) (fun e => e = nI (bmk n c n)) := by
    unfold f_X12_findOrders_l40
    refine qfor 0 n (fun i z => z = (nI (bmk n c i), nI (c / n ^ i), nI i)) (by show (nI 0, nI c, nI 0) = (nI 0, nI (c / n ^ 0), nI 0); rw [Nat.pow_zero, Nat.div_one]) (by omega) (by omega) ?_ ?_
    · rintro i z - hi rfl
      have r1 : c / n ^ i ≤ c := Nat.div_le_self _ _
      have e2 : c / n ^ (i + 1) = c / n ^ i / n := by rw [Nat.pow_succ, Nat.div_div_eq_div_mul]
      have e3 : bmk n c (i + 1) = bmk n c i ||| 2 ^ (c / n ^ i % n) := rfl
      rw [e2, e3]
      generalize c / n ^ i = r at *
      obtain ⟨d1, d2⟩ := q_dm (r := r) (n := n)
      have m1 : r % n < n := Nat.mod_lt _ (by omega)
      have dl : r / n ≤ r := Nat.div_le_self _ _
      have m2 : r % n % 32 = r % n := Nat.mod_eq_of_lt (by omega)
      simp (disch := first | omega | assumption) only [f_X12_findOrders_b40, qn_lit, qn_ofNat, qn_neg1, qn_neg2, nI_add, pk_mul, qn_sub, qn_ltT, qn_ltF, qn_leT, qn_leF, qn_eqT, qn_eqF, qn_m1T, qn_m1F, qn_m1F2, qn_m1lt, qn_m1lt2, qn_m1le, qn_m1le2, qn_and1, qn_and3, qn_and7, qn_and15, qn_and31, qn_and255, qn_and2047, qn_shl, qn_shr, qn_or, qn_div, qn_modlt, Nat.reduceMod, Nat.reduceAdd, Nat.reduceMul, Nat.reducePow, Nat.reduceDiv, Nat.reduceSub, ↓reduceIte, qn_us, qn_un, not_true_eq_false, not_false_eq_true, true_and, and_true, qn_nn, qn_addm, qn_ngT, qn_ngF, qn_ngE, qn_ngE2, qn_ngL, qn_ngM, Nat.add_sub_cancel, qL, qS, qM, qV, qQ, qZ0, qZ1, qE_l, qE_r, qW_some, d2, m2, Nat.mul_one]
    · rintro z rfl
      simp (disch := first | omega | assumption) only [f_X12_findOrders_b40, qn_lit, qn_ofNat, qn_neg1, qn_neg2, nI_add, pk_mul, qn_sub, qn_ltT, qn_ltF, qn_leT, qn_leF, qn_eqT, qn_eqF, qn_m1T, qn_m1F, qn_m1F2, qn_m1lt, qn_m1lt2, qn_m1le, qn_m1le2, qn_and1, qn_and3, qn_and7, qn_and15, qn_and31, qn_and255, qn_and2047, qn_shl, qn_shr, qn_or, qn_div, qn_modlt, Nat.reduceMod, Nat.reduceAdd, Nat.reduceMul, Nat.reducePow, Nat.reduceDiv, Nat.reduceSub, ↓reduceIte, qn_us, qn_un, not_true_eq_false, not_false_eq_true, true_and, and_true, qn_nn, qn_addm, qn_ngT, qn_ngF, qn_ngE, qn_ngE2, qn_ngL, qn_ngM, Nat.add_sub_cancel, qL, qS, qM, qV, qQ, qZ0, qZ1, qE_l, qE_r, qW_some]
  obtain ⟨e, g1, rfl⟩ := loop
  exact g1
def qdn (n t : Nat) : Int32 := if t < n then nI (n - 1 - t) else mI
theorem q_l90 {n c k : Nat} {f : Nat → Int32} (h2 : 2 ≤ n) (h5 : n ≤ 5) (hc : c < 3125) (hk : k < 120) (d : Int32) : ∃ g, f_X12_findOrders_l90 (nI k) (nI n) d (nI c) (600, f) (nI c) (nI (n - 1)) = some (600, g) ∧ (∀ t, t < n → g (5 * k + (n - 1 - t)) = nI (bdg n c t)) ∧ ∀ i, (i < 5 * k ∨ 5 * k + 5 ≤ i) → g i = f i := by
  have loop : qW (f_X12_findOrders_l90 (nI k) (nI n) d (nI c) (600, f) (nI c) (nI (n - 1))) (fun e => ∃ g, e = (600, g) ∧ (∀ t, t < n → g (5 * k + (n - 1 - t)) = nI (bdg n c t)) ∧ ∀ i, (i < 5 * k ∨ 5 * k + 5 ≤ i) → g i = f i) := by
    unfold f_X12_findOrders_l90
    refine qfor 0 n (fun t z => ∃ g, z = ((600, g), nI (c / n ^ t), qdn n t) ∧ (∀ s, s < t → g (5 * k + (n - 1 - s)) = nI (bdg n c s)) ∧ ∀ i, (i < 5 * k ∨ 5 * k + 5 ≤ i) → g i = f i) ⟨f, by unfold qdn; rw [if_pos (by omega), Nat.pow_zero, Nat.div_one, Nat.sub_zero], fun s hs => absurd hs (by omega), fun i _ => rfl⟩ (by omega) (by omega) ?_ ?_
    · rintro t z - ht ⟨g, rfl, h1, h2'⟩
      have r1 : c / n ^ t ≤ c := Nat.div_le_self _ _
      have e2 : c / n ^ (t + 1) = c / n ^ t / n := by rw [Nat.pow_succ, Nat.div_div_eq_div_mul]
      have e3 : bdg n c t = c / n ^ t % n := rfl
      have q0 : qdn n t = nI (n - 1 - t) := if_pos ht
      have q1 : nI (n - 1 - t) + mI = qdn n (t + 1) := by
        unfold qdn
        by_cases q : t + 1 < n
        · rw [if_pos q, qn_addm (by omega)]
          congr 1
        · rw [if_neg q, show n - 1 - t = 0 by omega]
          decide
      have fin : ∃ g', ((600, upd g (5 * k + (n - 1 - t)) (nI (bdg n c t))), nI (c / n ^ t / n), qdn n (t + 1)) = ((600, g'), nI (c / n ^ (t + 1)), qdn n (t + 1)) ∧ (∀ s, s < t + 1 → g' (5 * k + (n - 1 - s)) = nI (bdg n c s)) ∧ ∀ i, (i < 5 * k ∨ 5 * k + 5 ≤ i) → g' i = f i := by
        refine ⟨_, by rw [e2], fun s hs => ?_, fun i hi => ?_⟩
        · unfold upd
          by_cases q : s = t
          · rw [q, if_pos rfl]
          · rw [if_neg (by omega)]; exact h1 s (by omega)
        · unfold upd
          rw [if_neg (by omega)]; exact h2' i hi
      rw [e3] at fin
      rw [q0]
      generalize c / n ^ t = r at *
      obtain ⟨d1, d2⟩ := q_dm (r := r) (n := n)
      have dl : r / n ≤ r := Nat.div_le_self _ _
      generalize hu : n - 1 - t = u at *
      have ul : u < 5 := by omega
      simp (disch := first | omega | assumption) only [f_X12_findOrders_b90, qn_lit, qn_ofNat, qn_neg1, qn_neg2, nI_add, pk_mul, qn_sub, qn_ltT, qn_ltF, qn_leT, qn_leF, qn_eqT, qn_eqF, qn_m1T, qn_m1F, qn_m1F2, qn_m1lt, qn_m1lt2, qn_m1le, qn_m1le2, qn_and1, qn_and3, qn_and7, qn_and15, qn_and31, qn_and255, qn_and2047, qn_shl, qn_shr, qn_or, qn_div, qn_modlt, Nat.reduceMod, Nat.reduceAdd, Nat.reduceMul, Nat.reducePow, Nat.reduceDiv, Nat.reduceSub, ↓reduceIte, qn_us, qn_un, not_true_eq_false, not_false_eq_true, true_and, and_true, qn_nn, qn_addm, qn_ngT, qn_ngF, qn_ngE, qn_ngE2, qn_ngL, qn_ngM, Nat.add_sub_cancel, qL, qS, qM, qV, qQ, qZ0, qZ1, qE_l, qE_r, qW_some, d2, q1]
      exact fin
    · rintro z ⟨g, rfl, h1, h2'⟩
      have q0 : qdn n n = mI := if_neg (by omega)
      rw [q0]
      simp (disch := first | omega | assumption) only [f_X12_findOrders_b90, qn_lit, qn_ofNat, qn_neg1, qn_neg2, nI_add, pk_mul, qn_sub, qn_ltT, qn_ltF, qn_leT, qn_leF, qn_eqT, qn_eqF, qn_m1T, qn_m1F, qn_m1F2, qn_m1lt, qn_m1lt2, qn_m1le, qn_m1le2, qn_and1, qn_and3, qn_and7, qn_and15, qn_and31, qn_and255, qn_and2047, qn_shl, qn_shr, qn_or, qn_div, qn_modlt, Nat.reduceMod, Nat.reduceAdd, Nat.reduceMul, Nat.reducePow, Nat.reduceDiv, Nat.reduceSub, ↓reduceIte, qn_us, qn_un, not_true_eq_false, not_false_eq_true, true_and, and_true, qn_nn, qn_addm, qn_ngT, qn_ngF, qn_ngE, qn_ngE2, qn_ngL, qn_ngM, Nat.add_sub_cancel, qL, qS, qM, qV, qQ, qZ0, qZ1, qE_l, qE_r, qW_some]
      exact ⟨g, rfl, h1, h2'⟩
  obtain ⟨e, g1, g, rfl, g2, g3⟩ := loop
  exact ⟨g, g1, g2, g3⟩
def qRO (n N : Nat) (f : Nat → Int32) : Prop := ∀ k, k < N → ∀ i, i < n → f (5 * k + i) = nI (cO n k i)
theorem q_findOrders {n : Nat} {f : Nat → Int32} {x : Int32} (h2 : 2 ≤ n) (h5 : n ≤ 5) : ∃ g, f_X12_findOrders x (600, f) (nI n) = some (nI (qfa n), (600, g)) ∧ qRO n (qfa n) g := by
  obtain ⟨t1, t2, t3, t4⟩ := cT_all h2 h5
  obtain ⟨-, N120, M3⟩ := qfa_le h2 h5
  have l1 : f_X12_findOrders_l9 (nI 0) (600, f) (nI n) (nI 1) (nI 0) = some (nI (n ^ n)) := by
    have loop : qW (f_X12_findOrders_l9 (nI 0) (600, f) (nI n) (nI 1) (nI 0)) (fun e => e = nI (n ^ n)) := by
      unfold f_X12_findOrders_l9
      refine qfor 0 n (fun i z => z = (nI (n ^ i), nI i)) (by rw [Nat.pow_zero]) (by omega) (by omega) ?_ ?_
      · rintro i z - hi rfl
        simp (disch := first | omega | assumption) only [f_X12_findOrders_b9, qn_lit, qn_ofNat, qn_neg1, qn_neg2, nI_add, pk_mul, qn_sub, qn_ltT, qn_ltF, qn_leT, qn_leF, qn_eqT, qn_eqF, qn_m1T, qn_m1F, qn_m1F2, qn_m1lt, qn_m1lt2, qn_m1le, qn_m1le2, qn_and1, qn_and3, qn_and7, qn_and15, qn_and31, qn_and255, qn_and2047, qn_shl, qn_shr, qn_or, qn_div, qn_modlt, Nat.reduceMod, Nat.reduceAdd, Nat.reduceMul, Nat.reducePow, Nat.reduceDiv, Nat.reduceSub, ↓reduceIte, qn_us, qn_un, not_true_eq_false, not_false_eq_true, true_and, and_true, qn_nn, qn_addm, qn_ngT, qn_ngF, qn_ngE, qn_ngE2, qn_ngL, qn_ngM, Nat.add_sub_cancel, qL, qS, qM, qV, qQ, qZ0, qZ1, qE_l, qE_r, qW_some, Nat.pow_succ]
      · rintro z rfl
        simp (disch := first | omega | assumption) only [f_X12_findOrders_b9, qn_lit, qn_ofNat, qn_neg1, qn_neg2, nI_add, pk_mul, qn_sub, qn_ltT, qn_ltF, qn_leT, qn_leF, qn_eqT, qn_eqF, qn_m1T, qn_m1F, qn_m1F2, qn_m1lt, qn_m1lt2, qn_m1le, qn_m1le2, qn_and1, qn_and3, qn_and7, qn_and15, qn_and31, qn_and255, qn_and2047, qn_shl, qn_shr, qn_or, qn_div, qn_modlt, Nat.reduceMod, Nat.reduceAdd, Nat.reduceMul, Nat.reducePow, Nat.reduceDiv, Nat.reduceSub, ↓reduceIte, qn_us, qn_un, not_true_eq_false, not_false_eq_true, true_and, and_true, qn_nn, qn_addm, qn_ngT, qn_ngF, qn_ngE, qn_ngE2, qn_ngL, qn_ngM, Nat.add_sub_cancel, qL, qS, qM, qV, qQ, qZ0, qZ1, qE_l, qE_r, qW_some]
    obtain ⟨e, g1, rfl⟩ := loop
    exact g1
  have l2 : qW (f_X12_findOrders_l26 (nI n) (nI (n ^ n)) (nI 0) (600, f) (nI 0)) (fun e => ∃ g, e = (nI (qfa n), (600, g)) ∧ qRO n (qfa n) g) := by
    unfold f_X12_findOrders_l26
    refine qfor 0 (n ^ n) (fun c z => ∃ r g, z = (nI r, (600, g), nI c) ∧ cgo n (n ^ n) (n ^ n - c) ((cT n).drop r) = true ∧ r ≤ qfa n ∧ qRO n r g) ⟨0, f, rfl, t1, by omega, fun k hk => absurd hk (by omega)⟩ (by omega) (by omega) ?_ ?_
    · rintro c z - hc ⟨r, g, rfl, h1, h3, h4⟩
      have mk := q_l40 (n := n) (c := c) h2 h5 (by omega) (nI r) (600, g) (nI (n ^ n))
      have mb := (bmk_Mk (m := n) (c := c) (by omega) (by omega) n).1
      have p1 : 1 ≤ 2 ^ n := Nat.one_le_two_pow
      have p2 := q_2n (show n ≤ 8 by omega)
      obtain ⟨fu, hfu⟩ : ∃ fu, n ^ n - c = fu + 1 := ⟨n ^ n - c - 1, by omega⟩
      have hfu2 : n ^ n - (c + 1) = fu := by omega
      have hc2 : n ^ n - (fu + 1) = c := by omega
      rw [hfu] at h1
      unfold cgo at h1
      rw [hc2] at h1
      by_cases q : bmk n c n = 2 ^ n - 1
      · rw [if_pos q] at h1
        have rl : r < (cT n).length := by
          refine Classical.byContradiction fun z => ?_
          rw [List.drop_eq_nil_of_le (by omega)] at h1
          exact absurd h1 (by simp)
        rw [List.drop_eq_getElem_cons rl] at h1
        simp only [Bool.and_eq_true, decide_eq_true_eq] at h1
        obtain ⟨h5', h6⟩ := h1
        rw [← q_getD rl] at h5'
        obtain ⟨g', g1, g2, g3⟩ := q_l90 (n := n) (c := c) (k := r) (f := g) h2 h5 (by omega) (by omega) (nI (n ^ n))
        have co := cO_of (k := r) (by omega) (by omega) h5'
        rw [q] at mk
        simp (disch := first | omega | assumption) only [f_X12_findOrders_b26, f_X12_findOrders_j135, mk, g1, q, qn_lit, qn_ofNat, qn_neg1, qn_neg2, nI_add, pk_mul, qn_sub, qn_ltT, qn_ltF, qn_leT, qn_leF, qn_eqT, qn_eqF, qn_m1T, qn_m1F, qn_m1F2, qn_m1lt, qn_m1lt2, qn_m1le, qn_m1le2, qn_and1, qn_and3, qn_and7, qn_and15, qn_and31, qn_and255, qn_and2047, qn_shl, qn_shr, qn_or, qn_div, qn_modlt, Nat.reduceMod, Nat.reduceAdd, Nat.reduceMul, Nat.reducePow, Nat.reduceDiv, Nat.reduceSub, ↓reduceIte, qn_us, qn_un, not_true_eq_false, not_false_eq_true, true_and, and_true, qn_nn, qn_addm, qn_ngT, qn_ngF, qn_ngE, qn_ngE2, qn_ngL, qn_ngM, Nat.add_sub_cancel, qL, qS, qM, qV, qQ, qZ0, qZ1, qE_l, qE_r, qW_some, Nat.mul_one]
        refine ⟨r + 1, g', rfl, by rw [hfu2]; exact h6, by omega, fun k hk i hi => ?_⟩
        by_cases e : k = r
        · subst e
          have := g2 (n - 1 - i) (by omega)
          rw [show n - 1 - (n - 1 - i) = i by omega] at this
          rw [this, co i hi]
        · rw [g3 _ (by omega)]
          exact h4 k (by omega) i hi
      · rw [if_neg q] at h1
        simp (disch := first | omega | assumption) only [f_X12_findOrders_b26, f_X12_findOrders_j135, mk, qn_lit, qn_ofNat, qn_neg1, qn_neg2, nI_add, pk_mul, qn_sub, qn_ltT, qn_ltF, qn_leT, qn_leF, qn_eqT, qn_eqF, qn_m1T, qn_m1F, qn_m1F2, qn_m1lt, qn_m1lt2, qn_m1le, qn_m1le2, qn_and1, qn_and3, qn_and7, qn_and15, qn_and31, qn_and255, qn_and2047, qn_shl, qn_shr, qn_or, qn_div, qn_modlt, Nat.reduceMod, Nat.reduceAdd, Nat.reduceMul, Nat.reducePow, Nat.reduceDiv, Nat.reduceSub, ↓reduceIte, qn_us, qn_un, not_true_eq_false, not_false_eq_true, true_and, and_true, qn_nn, qn_addm, qn_ngT, qn_ngF, qn_ngE, qn_ngE2, qn_ngL, qn_ngM, Nat.add_sub_cancel, qL, qS, qM, qV, qQ, qZ0, qZ1, qE_l, qE_r, qW_some, Nat.mul_one]
        exact ⟨r, g, rfl, by rw [hfu2]; exact h1, h3, h4⟩
    · rintro z ⟨r, g, rfl, h1, h3, h4⟩
      rw [Nat.sub_self] at h1
      have e1 : (cT n).drop r = [] := List.isEmpty_iff.mp h1
      have e2 : (cT n).length ≤ r := List.drop_eq_nil_iff.mp e1
      have : r = qfa n := by omega
      subst this
      simp (disch := first | omega | assumption) only [f_X12_findOrders_b26, qn_lit, qn_ofNat, qn_neg1, qn_neg2, nI_add, pk_mul, qn_sub, qn_ltT, qn_ltF, qn_leT, qn_leF, qn_eqT, qn_eqF, qn_m1T, qn_m1F, qn_m1F2, qn_m1lt, qn_m1lt2, qn_m1le, qn_m1le2, qn_and1, qn_and3, qn_and7, qn_and15, qn_and31, qn_and255, qn_and2047, qn_shl, qn_shr, qn_or, qn_div, qn_modlt, Nat.reduceMod, Nat.reduceAdd, Nat.reduceMul, Nat.reducePow, Nat.reduceDiv, Nat.reduceSub, ↓reduceIte, qn_us, qn_un, not_true_eq_false, not_false_eq_true, true_and, and_true, qn_nn, qn_addm, qn_ngT, qn_ngF, qn_ngE, qn_ngE2, qn_ngL, qn_ngM, Nat.add_sub_cancel, qL, qS, qM, qV, qQ, qZ0, qZ1, qE_l, qE_r, qW_some]
      exact ⟨g, rfl, h4⟩
  obtain ⟨e, g1, g, rfl, g2⟩ := l2
  exact ⟨g, by simp (disch := first | omega | assumption) only [f_X12_findOrders, l1, g1, qn_lit, qn_ofNat, qn_neg1, qn_neg2, nI_add, pk_mul, qn_sub, qn_ltT, qn_ltF, qn_leT, qn_leF, qn_eqT, qn_eqF, qn_m1T, qn_m1F, qn_m1F2, qn_m1lt, qn_m1lt2, qn_m1le, qn_m1le2, qn_and1, qn_and3, qn_and7, qn_and15, qn_and31, qn_and255, qn_and2047, qn_shl, qn_shr, qn_or, qn_div, qn_modlt, Nat.reduceMod, Nat.reduceAdd, Nat.reduceMul, Nat.reducePow, Nat.reduceDiv, Nat.reduceSub, ↓reduceIte, qn_us, qn_un, not_true_eq_false, not_false_eq_true, true_and, and_true, qn_nn, qn_addm, qn_ngT, qn_ngF, qn_ngE, qn_ngE2, qn_ngL, qn_ngM, Nat.add_sub_cancel, qL, qS, qM, qV, qQ, qZ0, qZ1, qE_l, qE_r, qW_some], g2⟩
theorem q_lay {n w c : Nat} {od ch cb we wb : Nat → Int32} {rn : Int32} (h2 : 2 ≤ n) (h5 : n ≤ 5) (ho : qRO n (qfa n) od) (hw : w < qfa n) (hc : c < qfa n) : ∃ ch' cb' we' wb', f_X12_lay (600, od) rn (8, ch) (8, cb) (8, we) (8, wb) (nI n) (nI w) (nI c) = some (nI n, (8, ch'), (8, cb'), (8, we'), (8, wb')) ∧ qXw n (cO n w) (cO n c) (qvi n (cO n w)) (qvi n (cO n c)) we' ch' wb' cb' := by
  have h := q_orders h2 h5
  have N120 := h.2.2.1
  have PW := h.2.2.2.1 w hw
  have PC := h.2.2.2.1 c hc
  have loop : qW (f_X12_lay_l8 (600, od) (nI n) (8, cb) (8, wb) (nI n) (nI w) (nI c) (8, ch) (8, we) (nI 0)) (fun e => ∃ a b, e = ((8, a), (8, b)) ∧ qR 0 n b (cO n w) ∧ qR 0 n a (cO n c)) := by
    unfold f_X12_lay_l8
    refine qfor 0 n (fun i z => ∃ a b, z = ((8, a), (8, b), nI i) ∧ qR 0 i b (cO n w) ∧ qR 0 i a (cO n c)) ⟨_, _, rfl, fun j hj => absurd hj (by omega), fun j hj => absurd hj (by omega)⟩ (by omega) (by omega) ?_ ?_
    · rintro i z - hi ⟨a, b, rfl, h1, h3⟩
      have o1 := ho w hw i hi
      have o2 := ho c hc i hi
      simp (disch := first | omega | assumption) only [f_X12_lay_b8, o1, o2, qn_lit, qn_ofNat, qn_neg1, qn_neg2, nI_add, pk_mul, qn_sub, qn_ltT, qn_ltF, qn_leT, qn_leF, qn_eqT, qn_eqF, qn_m1T, qn_m1F, qn_m1F2, qn_m1lt, qn_m1lt2, qn_m1le, qn_m1le2, qn_and1, qn_and3, qn_and7, qn_and15, qn_and31, qn_and255, qn_and2047, qn_shl, qn_shr, qn_or, qn_div, qn_modlt, Nat.reduceMod, Nat.reduceAdd, Nat.reduceMul, Nat.reducePow, Nat.reduceDiv, Nat.reduceSub, ↓reduceIte, qn_us, qn_un, not_true_eq_false, not_false_eq_true, true_and, and_true, qn_nn, qn_addm, qn_ngT, qn_ngF, qn_ngE, qn_ngE2, qn_ngL, qn_ngM, Nat.add_sub_cancel, qL, qS, qM, qV, qQ, qZ0, qZ1, qE_l, qE_r, qW_some]
      refine ⟨_, _, rfl, fun j hj => ?_, fun j hj => ?_⟩
      · rw [Nat.zero_add]
        by_cases e : j = i
        · rw [e]; exact pk_us
        · rw [pk_un e]; exact qR_0 h1 (by omega)
      · rw [Nat.zero_add]
        by_cases e : j = i
        · rw [e]; exact pk_us
        · rw [pk_un e]; exact qR_0 h3 (by omega)
    · rintro z ⟨a, b, rfl, h1, h3⟩
      simp (disch := first | omega | assumption) only [f_X12_lay_b8, qn_lit, qn_ofNat, qn_neg1, qn_neg2, nI_add, pk_mul, qn_sub, qn_ltT, qn_ltF, qn_leT, qn_leF, qn_eqT, qn_eqF, qn_m1T, qn_m1F, qn_m1F2, qn_m1lt, qn_m1lt2, qn_m1le, qn_m1le2, qn_and1, qn_and3, qn_and7, qn_and15, qn_and31, qn_and255, qn_and2047, qn_shl, qn_shr, qn_or, qn_div, qn_modlt, Nat.reduceMod, Nat.reduceAdd, Nat.reduceMul, Nat.reducePow, Nat.reduceDiv, Nat.reduceSub, ↓reduceIte, qn_us, qn_un, not_true_eq_false, not_false_eq_true, true_and, and_true, qn_nn, qn_addm, qn_ngT, qn_ngF, qn_ngE, qn_ngE2, qn_ngL, qn_ngM, Nat.add_sub_cancel, qL, qS, qM, qV, qQ, qZ0, qZ1, qE_l, qE_r, qW_some]
      exact ⟨_, _, rfl, h1, h3⟩
  obtain ⟨e, g1, a, b, rfl, g2, g3⟩ := loop
  obtain ⟨cb', wb', t1, t2, t3⟩ := q_turnBack (cb := cb) (wb := wb) (show n ≤ 8 by omega) PW PC g2 g3
  refine ⟨a, cb', b, wb', by simp (disch := first | omega | assumption) only [f_X12_lay, g1, t1, qn_lit, qn_ofNat, qn_neg1, qn_neg2, nI_add, pk_mul, qn_sub, qn_ltT, qn_ltF, qn_leT, qn_leF, qn_eqT, qn_eqF, qn_m1T, qn_m1F, qn_m1F2, qn_m1lt, qn_m1lt2, qn_m1le, qn_m1le2, qn_and1, qn_and3, qn_and7, qn_and15, qn_and31, qn_and255, qn_and2047, qn_shl, qn_shr, qn_or, qn_div, qn_modlt, Nat.reduceMod, Nat.reduceAdd, Nat.reduceMul, Nat.reducePow, Nat.reduceDiv, Nat.reduceSub, ↓reduceIte, qn_us, qn_un, not_true_eq_false, not_false_eq_true, true_and, and_true, qn_nn, qn_addm, qn_ngT, qn_ngF, qn_ngE, qn_ngE2, qn_ngL, qn_ngM, Nat.add_sub_cancel, qL, qS, qM, qV, qQ, qZ0, qZ1, qE_l, qE_r, qW_some], qH_vi (by omega) PW PC, g2, g3, fun y hy => ?_, fun y hy => ?_⟩
  · obtain ⟨i, i1, rfl⟩ := qP_surj PW hy
    rw [Nat.zero_add, t2 i i1, (qvi_B PW i i1).2.2]
  · obtain ⟨i, i1, rfl⟩ := qP_surj PC hy
    rw [Nat.zero_add, t3 i i1, (qvi_B PC i i1).2.2]

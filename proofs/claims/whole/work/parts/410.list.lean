/-! the k-th of what holds; the class's orders, keepers -/
theorem qct_at {K : Nat → Prop} {j : Nat} : ∀ N : Nat, j < qct K N → ∃ p, p < N ∧ K p ∧ qct K p = j := by
  intro N
  induction N with
  | zero => intro h; exact absurd h (by simp [qct])
  | succ N ih =>
    intro h
    by_cases c : K N
    · rw [qct_T c] at h
      by_cases d : j < qct K N
      · obtain ⟨p, p1, p2, p3⟩ := ih d
        exact ⟨p, by omega, p2, p3⟩
      · exact ⟨N, by omega, c, by omega⟩
    · rw [qct_F c] at h
      obtain ⟨p, p1, p2, p3⟩ := ih h
      exact ⟨p, by omega, p2, p3⟩
noncomputable def qkj (K : Nat → Prop) (N j : Nat) : Nat := @dite Nat (∃ p, p < N ∧ K p ∧ qct K p = j) (Classical.propDecidable _) (fun h => Classical.choose h) (fun _ => 0)
theorem qct_u {K : Nat → Prop} {p q : Nat} (hp : K p) (hq : K q) (h : qct K p = qct K q) : p = q := by
  have key : ∀ a b, K a → qct K a = qct K b → ¬ a < b := by
    intro a b ha e hab
    have h1 := qct_T ha
    have h2 := qct_mono (P := K) (show a + 1 ≤ b by omega)
    omega
  have h1 := key p q hp h
  have h2 := key q p hq h.symm
  omega
theorem qkj_s {K : Nat → Prop} {N j : Nat} (h : j < qct K N) : qkj K N j < N ∧ K (qkj K N j) ∧ qct K (qkj K N j) = j := by
  have hx := qct_at N h
  unfold qkj
  rw [dif_pos hx]
  exact Classical.choose_spec hx
theorem qct_ltN {K : Nat → Prop} {N p : Nat} (hp : p < N) (hk : K p) : qct K p < qct K N := by
  have h1 := qct_T hk
  have h2 := qct_mono (P := K) (show p + 1 ≤ N by omega)
  omega
theorem qkj_p {K : Nat → Prop} {N p : Nat} (hp : p < N) (hk : K p) : qkj K N (qct K p) = p := by
  obtain ⟨h1, h2, h3⟩ := qkj_s (qct_ltN hp hk)
  exact qct_u h2 hk h3
theorem qsu_kj {K : Nat → Prop} {N : Nat} (g : Nat → Nat) : ∀ P, P ≤ N → qsu (fun m => qin (K m) * g m) P = qsu (fun j => g (qkj K N j)) (qct K P) := by
  intro P
  induction P with
  | zero => intro _; rfl
  | succ P ih =>
    intro hP
    simp only [qsu]
    by_cases c : K P
    · rw [qct_T c, qin_T c, Nat.one_mul]
      simp only [qsu]
      rw [ih (by omega), qkj_p (by omega) c]
    · rw [qct_F c, qin_F c, Nat.zero_mul, Nat.add_zero]
      exact ih (by omega)
theorem qct_kj {K E : Nat → Prop} {N : Nat} (P : Nat) (hP : P ≤ N) : qct (fun m => K m ∧ E m) P = qct (fun j => E (qkj K N j)) (qct K P) := by
  rw [qsu_ct, qsu_ct, ← qsu_kj (fun m => qin (E m)) P hP]
  refine qsu_ext P (fun m _ => ?_)
  by_cases c : K m
  · by_cases d : E m
    · rw [qin_T ⟨c, d⟩, qin_T c, qin_T d]
    · rw [qin_F (fun z => d z.2), qin_F d, Nat.mul_zero]
  · rw [qin_F (fun z => c z.1), qin_F c, Nat.zero_mul]
/-- the class's row of orders -/
def qCO (n N : Nat) (O : Nat → Nat → Nat) (f : Nat → Int32) : Prop := ∀ k, k < N → f k = nI (qcd (O k) n)
theorem q_listOrders {n : Nat} {f : Nat → Int32} (h2 : 2 ≤ n) (h5 : n ≤ 5) : ∃ g, f_X0_listOrders (nI n) (nI 0) (120, f) = some (nI (qfa n), (120, g)) ∧ qCO n (qfa n) (cO n) g := by
  obtain ⟨t1, t2, t3, t4⟩ := cT_all h2 h5
  have N120 := (qfa_le h2 h5).2.1
  have l1 : qW (f_X0_listOrders_l4 (nI n) (nI 0) (120, f) (nI 1) (nI 2)) (fun e => e = nI (qfa n)) := by
    unfold f_X0_listOrders_l4
    refine qfor 2 (n + 1) (fun i z => z = (nI (qfa (i - 1)), nI i)) rfl (by omega) (by omega) ?_ ?_
    · rintro i z i1 hi rfl
      have e : qfa i = qfa (i - 1) * i := by
        obtain ⟨m, rfl⟩ : ∃ m, i = m + 1 := ⟨i - 1, by omega⟩
        rfl
      simp (disch := first | omega | assumption) only [f_X0_listOrders_b4, qn_lit, qn_ofNat, qn_neg1, qn_neg2, nI_add, pk_mul, qn_sub, qn_ltT, qn_ltF, qn_leT, qn_leF, qn_eqT, qn_eqF, qn_m1T, qn_m1F, qn_m1F2, qn_m1lt, qn_m1lt2, qn_m1le, qn_m1le2, qn_and1, qn_and3, qn_and7, qn_and15, qn_and31, qn_and255, qn_and2047, qn_shl, qn_shr, qn_or, qn_div, qn_modlt, Nat.reduceMod, Nat.reduceAdd, Nat.reduceMul, Nat.reducePow, Nat.reduceDiv, Nat.reduceSub, ↓reduceIte, qn_us, qn_un, not_true_eq_false, not_false_eq_true, true_and, and_true, qn_nn, qn_addm, qn_ngT, qn_ngF, qn_ngE, qn_ngE2, qn_ngL, qn_ngM, Nat.add_sub_cancel, qL, qS, qM, qV, qQ, qZ0, qZ1, qE_l, qE_r, qW_some, Nat.add_sub_cancel]
      rw [e]
    · rintro z rfl
      simp (disch := first | omega | assumption) only [f_X0_listOrders_b4, qn_lit, qn_ofNat, qn_neg1, qn_neg2, nI_add, pk_mul, qn_sub, qn_ltT, qn_ltF, qn_leT, qn_leF, qn_eqT, qn_eqF, qn_m1T, qn_m1F, qn_m1F2, qn_m1lt, qn_m1lt2, qn_m1le, qn_m1le2, qn_and1, qn_and3, qn_and7, qn_and15, qn_and31, qn_and255, qn_and2047, qn_shl, qn_shr, qn_or, qn_div, qn_modlt, Nat.reduceMod, Nat.reduceAdd, Nat.reduceMul, Nat.reducePow, Nat.reduceDiv, Nat.reduceSub, ↓reduceIte, qn_us, qn_un, not_true_eq_false, not_false_eq_true, true_and, and_true, qn_nn, qn_addm, qn_ngT, qn_ngF, qn_ngE, qn_ngE2, qn_ngL, qn_ngM, Nat.add_sub_cancel, qL, qS, qM, qV, qQ, qZ0, qZ1, qE_l, qE_r, qW_some, Nat.add_sub_cancel]
  obtain ⟨e, g1, rfl⟩ := l1
  have l2 : qW (f_X0_listOrders_l24 (nI n) (nI (qfa n)) (nI 0) (120, f) (nI 0)) (fun e => ∃ g, e = (nI (qfa n), (120, g)) ∧ qCO n (qfa n) (cO n) g) := by
    unfold f_X0_listOrders_l24
    refine qfor 0 (qfa n) (fun i z => ∃ g, z = (nI i, (120, g), nI i) ∧ qCO n i (cO n) g) ⟨f, rfl, fun k hk => absurd hk (by omega)⟩ (by omega) (by omega) ?_ ?_
    · rintro i z - hi ⟨g, rfl, h⟩
      have o := t4 i hi
      rw [← cT_cd h2 h5 hi] at o
      simp (disch := first | omega | assumption) only [f_X0_listOrders_b24, o, qn_lit, qn_ofNat, qn_neg1, qn_neg2, nI_add, pk_mul, qn_sub, qn_ltT, qn_ltF, qn_leT, qn_leF, qn_eqT, qn_eqF, qn_m1T, qn_m1F, qn_m1F2, qn_m1lt, qn_m1lt2, qn_m1le, qn_m1le2, qn_and1, qn_and3, qn_and7, qn_and15, qn_and31, qn_and255, qn_and2047, qn_shl, qn_shr, qn_or, qn_div, qn_modlt, Nat.reduceMod, Nat.reduceAdd, Nat.reduceMul, Nat.reducePow, Nat.reduceDiv, Nat.reduceSub, ↓reduceIte, qn_us, qn_un, not_true_eq_false, not_false_eq_true, true_and, and_true, qn_nn, qn_addm, qn_ngT, qn_ngF, qn_ngE, qn_ngE2, qn_ngL, qn_ngM, Nat.add_sub_cancel, qL, qS, qM, qV, qQ, qZ0, qZ1, qE_l, qE_r, qW_some]
      refine ⟨_, rfl, fun k hk => ?_⟩
      unfold upd
      by_cases q : k = i
      · rw [q, if_pos rfl]
      · rw [if_neg q]; exact h k (by omega)
    · rintro z ⟨g, rfl, h⟩
      simp (disch := first | omega | assumption) only [f_X0_listOrders_b24, qn_lit, qn_ofNat, qn_neg1, qn_neg2, nI_add, pk_mul, qn_sub, qn_ltT, qn_ltF, qn_leT, qn_leF, qn_eqT, qn_eqF, qn_m1T, qn_m1F, qn_m1F2, qn_m1lt, qn_m1lt2, qn_m1le, qn_m1le2, qn_and1, qn_and3, qn_and7, qn_and15, qn_and31, qn_and255, qn_and2047, qn_shl, qn_shr, qn_or, qn_div, qn_modlt, Nat.reduceMod, Nat.reduceAdd, Nat.reduceMul, Nat.reducePow, Nat.reduceDiv, Nat.reduceSub, ↓reduceIte, qn_us, qn_un, not_true_eq_false, not_false_eq_true, true_and, and_true, qn_nn, qn_addm, qn_ngT, qn_ngF, qn_ngE, qn_ngE2, qn_ngL, qn_ngM, Nat.add_sub_cancel, qL, qS, qM, qV, qQ, qZ0, qZ1, qE_l, qE_r, qW_some]
      exact ⟨g, rfl, h⟩
  obtain ⟨e, g2, g, rfl, g3⟩ := l2
  exact ⟨g, by simp (disch := first | omega | assumption) only [f_X0_listOrders, g1, g2, qn_lit, qn_ofNat, qn_neg1, qn_neg2, nI_add, pk_mul, qn_sub, qn_ltT, qn_ltF, qn_leT, qn_leF, qn_eqT, qn_eqF, qn_m1T, qn_m1F, qn_m1F2, qn_m1lt, qn_m1lt2, qn_m1le, qn_m1le2, qn_and1, qn_and3, qn_and7, qn_and15, qn_and31, qn_and255, qn_and2047, qn_shl, qn_shr, qn_or, qn_div, qn_modlt, Nat.reduceMod, Nat.reduceAdd, Nat.reduceMul, Nat.reducePow, Nat.reduceDiv, Nat.reduceSub, ↓reduceIte, qn_us, qn_un, not_true_eq_false, not_false_eq_true, true_and, and_true, qn_nn, qn_addm, qn_ngT, qn_ngF, qn_ngE, qn_ngE2, qn_ngL, qn_ngM, Nat.add_sub_cancel, qL, qS, qM, qV, qQ, qZ0, qZ1, qE_l, qE_r, qW_some], g3⟩
section
variable {n N : Nat} {O : Nat → Nat → Nat} {od ks : Nat → Int32}
theorem qO8 (h : qOr n N O) {k : Nat} (hk : k < N) : ∀ i, i < n → O k i < 8 := fun i hi => by
  have h1 := (h.2.2.2.1 k hk).1 i hi
  have h2 := h.2.1
  omega
theorem qO_cmp (h : qOr n N O) {k l : Nat} (hk : k < N) (hl : l < N) : (qcd (O k) n < qcd (O l) n ↔ k < l) ∧ (qcd (O k) n = qcd (O l) n ↔ k = l) ∧ qcd (O k) n < 32768 := by
  have k8 := qO8 h hk
  have l8 := qO8 h hl
  refine ⟨(qcd_lx n k8 l8).trans (qOr_lx h hk hl).symm, ⟨fun z => qOr_inj h hk hl (qcd_inj n k8 l8 z), fun z => by rw [z]⟩, ?_⟩
  have := qcd_lt n k8
  have := q_8n h.2.1
  omega
theorem q_rencode (h : qOr n N O) {p k : Nat} (hp : p < N) (hk : k < N) : f_X0_renamed (nI n) (nI (qcd (O k) n)) (nI (qcd (O p) n)) = some (nI (qcd (O (qrni n N O p k)) n)) := q_renamed h.2.1 (h.2.2.2.1 p hp) (h.2.2.2.1 k hk).1 (qrni_s h hp hk).2
def qKe (n N : Nat) (O : Nat → Nat → Nat) (w p : Nat) : Prop := qrni n N O p w = w
theorem q_leastOwn (h : qOr n N O) (ho : qCO n N O od) {w : Nat} {kc : Int32} (hw : w < N) : ∃ b c g, b < 2 ∧ f_X0_isLeastOfItsOwn (nI N) (nI n) (120, od) kc (120, ks) (nI (qcd (O w) n)) = some (nI b, c, (120, g)) ∧ (b = 1 ↔ ∀ p, p < N → ¬ qrni n N O p w < w) ∧ (b = 1 → c = nI (qct (qKe n N O w) N) ∧ ∀ j, j < qct (qKe n N O w) N → g j = nI (qcd (O (qkj (qKe n N O w) N j)) n)) := by
  have N120 := h.2.2.1
  have loop : qW (f_X0_isLeastOfItsOwn_l7 (nI N) (nI n) (120, od) (nI (qcd (O w) n)) (nI 0) (120, ks) (nI 0)) (fun e => (∃ c g, e = Sum.inl (c, (120, g)) ∧ ¬ ∀ p, p < N → ¬ qrni n N O p w < w) ∨ (∃ g, e = Sum.inr (nI (qct (qKe n N O w) N), (120, g)) ∧ (∀ p, p < N → ¬ qrni n N O p w < w) ∧ ∀ p, p < N → qKe n N O w p → g (qct (qKe n N O w) p) = nI (qcd (O p) n))) := by
    unfold f_X0_isLeastOfItsOwn_l7
    refine qfor 0 N (fun i z => ∃ g, z = (nI (qct (qKe n N O w) i), (120, g), nI i) ∧ (∀ p, p < i → ¬ qrni n N O p w < w) ∧ ∀ p, p < i → qKe n N O w p → g (qct (qKe n N O w) p) = nI (qcd (O p) n)) ⟨ks, rfl, fun p hp => absurd hp (by omega), fun p hp => absurd hp (by omega)⟩ (by omega) (by omega) ?_ ?_
    · rintro i z - hi ⟨g, rfl, h1, h2⟩
      have oi := ho i hi
      have rc := q_rencode h hi hw
      have rl := (qrni_s h hi hw).1
      obtain ⟨c1, c2, c3⟩ := qO_cmp h rl hw
      obtain ⟨-, -, c4⟩ := qO_cmp h hw rl
      have ci := qct_le (qKe n N O w) i
      by_cases q : qrni n N O i w < w
      · have q2 := c1.mpr q
        simp (disch := first | omega | assumption) only [f_X0_isLeastOfItsOwn_b7, oi, rc, qn_lit, qn_ofNat, qn_neg1, qn_neg2, nI_add, pk_mul, qn_sub, qn_ltT, qn_ltF, qn_leT, qn_leF, qn_eqT, qn_eqF, qn_m1T, qn_m1F, qn_m1F2, qn_m1lt, qn_m1lt2, qn_m1le, qn_m1le2, qn_and1, qn_and3, qn_and7, qn_and15, qn_and31, qn_and255, qn_and2047, qn_shl, qn_shr, qn_or, qn_div, qn_modlt, Nat.reduceMod, Nat.reduceAdd, Nat.reduceMul, Nat.reducePow, Nat.reduceDiv, Nat.reduceSub, ↓reduceIte, qn_us, qn_un, not_true_eq_false, not_false_eq_true, true_and, and_true, qn_nn, qn_addm, qn_ngT, qn_ngF, qn_ngE, qn_ngE2, qn_ngL, qn_ngM, Nat.add_sub_cancel, qL, qS, qM, qV, qQ, qZ0, qZ1, qE_l, qE_r, qW_some]
        exact Or.inl ⟨_, _, rfl, fun z => z i hi q⟩
      · have q2 : ¬ qcd (O (qrni n N O i w)) n < qcd (O w) n := fun z => q (c1.mp z)
        have nx : ∀ p, p < i + 1 → ¬ qrni n N O p w < w := by
          intro p hp
          by_cases e : p = i
          · rw [e]; exact q
          · exact h1 p (by omega)
        by_cases e : qrni n N O i w = w
        · have e2 := c2.mpr e
          have ke : qKe n N O w i := e
          rw [qct_T ke]
          generalize hcc : qct (qKe n N O w) i = cc at *
          simp (disch := first | omega | assumption) only [f_X0_isLeastOfItsOwn_b7, f_X0_isLeastOfItsOwn_j79, oi, rc, qn_lit, qn_ofNat, qn_neg1, qn_neg2, nI_add, pk_mul, qn_sub, qn_ltT, qn_ltF, qn_leT, qn_leF, qn_eqT, qn_eqF, qn_m1T, qn_m1F, qn_m1F2, qn_m1lt, qn_m1lt2, qn_m1le, qn_m1le2, qn_and1, qn_and3, qn_and7, qn_and15, qn_and31, qn_and255, qn_and2047, qn_shl, qn_shr, qn_or, qn_div, qn_modlt, Nat.reduceMod, Nat.reduceAdd, Nat.reduceMul, Nat.reducePow, Nat.reduceDiv, Nat.reduceSub, ↓reduceIte, qn_us, qn_un, not_true_eq_false, not_false_eq_true, true_and, and_true, qn_nn, qn_addm, qn_ngT, qn_ngF, qn_ngE, qn_ngE2, qn_ngL, qn_ngM, Nat.add_sub_cancel, qL, qS, qM, qV, qQ, qZ0, qZ1, qE_l, qE_r, qW_some]
          refine ⟨_, rfl, nx, fun p hp hk => ?_⟩
          unfold upd
          by_cases e3 : p = i
          · subst e3
            rw [if_pos hcc]
          · have := qct_ltN (K := qKe n N O w) (show p < i by omega) hk
            rw [if_neg (by omega)]
            exact h2 p (by omega) hk
        · have e2 : ¬ qcd (O (qrni n N O i w)) n = qcd (O w) n := fun z => e (c2.mp z)
          have ke : ¬ qKe n N O w i := e
          rw [qct_F ke]
          generalize hcc : qct (qKe n N O w) i = cc at *
          simp (disch := first | omega | assumption) only [f_X0_isLeastOfItsOwn_b7, f_X0_isLeastOfItsOwn_j79, oi, rc, qn_lit, qn_ofNat, qn_neg1, qn_neg2, nI_add, pk_mul, qn_sub, qn_ltT, qn_ltF, qn_leT, qn_leF, qn_eqT, qn_eqF, qn_m1T, qn_m1F, qn_m1F2, qn_m1lt, qn_m1lt2, qn_m1le, qn_m1le2, qn_and1, qn_and3, qn_and7, qn_and15, qn_and31, qn_and255, qn_and2047, qn_shl, qn_shr, qn_or, qn_div, qn_modlt, Nat.reduceMod, Nat.reduceAdd, Nat.reduceMul, Nat.reducePow, Nat.reduceDiv, Nat.reduceSub, ↓reduceIte, qn_us, qn_un, not_true_eq_false, not_false_eq_true, true_and, and_true, qn_nn, qn_addm, qn_ngT, qn_ngF, qn_ngE, qn_ngE2, qn_ngL, qn_ngM, Nat.add_sub_cancel, qL, qS, qM, qV, qQ, qZ0, qZ1, qE_l, qE_r, qW_some]
          refine ⟨_, rfl, nx, fun p hp hk => ?_⟩
          by_cases e3 : p = i
          · subst e3; exact absurd hk ke
          · exact h2 p (by omega) hk
    · rintro z ⟨g, rfl, h1, h2⟩
      have ci := qct_le (qKe n N O w) N
      simp (disch := first | omega | assumption) only [f_X0_isLeastOfItsOwn_b7, qn_lit, qn_ofNat, qn_neg1, qn_neg2, nI_add, pk_mul, qn_sub, qn_ltT, qn_ltF, qn_leT, qn_leF, qn_eqT, qn_eqF, qn_m1T, qn_m1F, qn_m1F2, qn_m1lt, qn_m1lt2, qn_m1le, qn_m1le2, qn_and1, qn_and3, qn_and7, qn_and15, qn_and31, qn_and255, qn_and2047, qn_shl, qn_shr, qn_or, qn_div, qn_modlt, Nat.reduceMod, Nat.reduceAdd, Nat.reduceMul, Nat.reducePow, Nat.reduceDiv, Nat.reduceSub, ↓reduceIte, qn_us, qn_un, not_true_eq_false, not_false_eq_true, true_and, and_true, qn_nn, qn_addm, qn_ngT, qn_ngF, qn_ngE, qn_ngE2, qn_ngL, qn_ngM, Nat.add_sub_cancel, qL, qS, qM, qV, qQ, qZ0, qZ1, qE_l, qE_r, qW_some]
      exact Or.inr ⟨g, rfl, h1, h2⟩
  obtain ⟨e, g1, ⟨c, g, rfl, g2⟩ | ⟨g, rfl, g2, g3⟩⟩ := loop
  · exact ⟨0, c, g, by decide, by simp (disch := first | omega | assumption) only [f_X0_isLeastOfItsOwn, g1, qn_lit, qn_ofNat, qn_neg1, qn_neg2, nI_add, pk_mul, qn_sub, qn_ltT, qn_ltF, qn_leT, qn_leF, qn_eqT, qn_eqF, qn_m1T, qn_m1F, qn_m1F2, qn_m1lt, qn_m1lt2, qn_m1le, qn_m1le2, qn_and1, qn_and3, qn_and7, qn_and15, qn_and31, qn_and255, qn_and2047, qn_shl, qn_shr, qn_or, qn_div, qn_modlt, Nat.reduceMod, Nat.reduceAdd, Nat.reduceMul, Nat.reducePow, Nat.reduceDiv, Nat.reduceSub, ↓reduceIte, qn_us, qn_un, not_true_eq_false, not_false_eq_true, true_and, and_true, qn_nn, qn_addm, qn_ngT, qn_ngF, qn_ngE, qn_ngE2, qn_ngL, qn_ngM, Nat.add_sub_cancel, qL, qS, qM, qV, qQ, qZ0, qZ1, qE_l, qE_r, qW_some], ⟨fun z => absurd z (by decide), fun z => absurd z g2⟩, fun z => absurd z (by decide)⟩
  · refine ⟨1, _, g, by decide, by simp (disch := first | omega | assumption) only [f_X0_isLeastOfItsOwn, g1, qn_lit, qn_ofNat, qn_neg1, qn_neg2, nI_add, pk_mul, qn_sub, qn_ltT, qn_ltF, qn_leT, qn_leF, qn_eqT, qn_eqF, qn_m1T, qn_m1F, qn_m1F2, qn_m1lt, qn_m1lt2, qn_m1le, qn_m1le2, qn_and1, qn_and3, qn_and7, qn_and15, qn_and31, qn_and255, qn_and2047, qn_shl, qn_shr, qn_or, qn_div, qn_modlt, Nat.reduceMod, Nat.reduceAdd, Nat.reduceMul, Nat.reducePow, Nat.reduceDiv, Nat.reduceSub, ↓reduceIte, qn_us, qn_un, not_true_eq_false, not_false_eq_true, true_and, and_true, qn_nn, qn_addm, qn_ngT, qn_ngF, qn_ngE, qn_ngE2, qn_ngL, qn_ngM, Nat.add_sub_cancel, qL, qS, qM, qV, qQ, qZ0, qZ1, qE_l, qE_r, qW_some], ⟨fun _ => g2, fun _ => rfl⟩, fun _ => ⟨rfl, fun j hj => ?_⟩⟩
    obtain ⟨k1, k2, k3⟩ := qkj_s hj
    have := g3 _ k1 k2
    rw [k3] at this
    exact this
theorem q_namesKeep (h : qOr n N O) {w c : Nat} (hc : c < N) (hk : ∀ j, j < qct (qKe n N O w) N → ks j = nI (qcd (O (qkj (qKe n N O w) N j)) n)) : ∃ s, s ≤ 120 ∧ f_X0_namesThatKeep (nI (qct (qKe n N O w) N)) (nI n) (120, ks) (nI (qcd (O c) n)) = some (nI s) ∧ ((∀ p, p < N → qKe n N O w p → ¬ qrni n N O p c < c) → s = qct (fun p => qKe n N O w p ∧ qrni n N O p c = c) N) ∧ ((¬ ∀ p, p < N → qKe n N O w p → ¬ qrni n N O p c < c) → s = 0) := by
  have N120 := h.2.2.1
  have kcN := qct_le (qKe n N O w) N
  have loop : qW (f_X0_namesThatKeep_l4 (nI (qct (qKe n N O w) N)) (nI n) (120, ks) (nI (qcd (O c) n)) (nI 0) (nI 0)) (fun e => (e = Sum.inl () ∧ ¬ ∀ p, p < N → qKe n N O w p → ¬ qrni n N O p c < c) ∨ (e = Sum.inr (nI (qct (fun j => qrni n N O (qkj (qKe n N O w) N j) c = c) (qct (qKe n N O w) N))) ∧ ∀ j, j < qct (qKe n N O w) N → ¬ qrni n N O (qkj (qKe n N O w) N j) c < c)) := by
    unfold f_X0_namesThatKeep_l4
    refine qfor 0 (qct (qKe n N O w) N) (fun i z => z = (nI (qct (fun j => qrni n N O (qkj (qKe n N O w) N j) c = c) i), nI i) ∧ ∀ j, j < i → ¬ qrni n N O (qkj (qKe n N O w) N j) c < c) ⟨rfl, fun j hj => absurd hj (by omega)⟩ (by omega) (by omega) ?_ ?_
    · rintro i z - hi ⟨rfl, h1⟩
      obtain ⟨k1, k2, k3⟩ := qkj_s hi
      have oi := hk i hi
      have rc := q_rencode h k1 hc
      have rl := (qrni_s h k1 hc).1
      obtain ⟨c1, c2, c3⟩ := qO_cmp h rl hc
      obtain ⟨-, -, c4⟩ := qO_cmp h hc rl
      have ci := qct_le (fun j => qrni n N O (qkj (qKe n N O w) N j) c = c) i
      by_cases q : qrni n N O (qkj (qKe n N O w) N i) c < c
      · have q2 := c1.mpr q
        simp (disch := first | omega | assumption) only [f_X0_namesThatKeep_b4, oi, rc, qn_lit, qn_ofNat, qn_neg1, qn_neg2, nI_add, pk_mul, qn_sub, qn_ltT, qn_ltF, qn_leT, qn_leF, qn_eqT, qn_eqF, qn_m1T, qn_m1F, qn_m1F2, qn_m1lt, qn_m1lt2, qn_m1le, qn_m1le2, qn_and1, qn_and3, qn_and7, qn_and15, qn_and31, qn_and255, qn_and2047, qn_shl, qn_shr, qn_or, qn_div, qn_modlt, Nat.reduceMod, Nat.reduceAdd, Nat.reduceMul, Nat.reducePow, Nat.reduceDiv, Nat.reduceSub, ↓reduceIte, qn_us, qn_un, not_true_eq_false, not_false_eq_true, true_and, and_true, qn_nn, qn_addm, qn_ngT, qn_ngF, qn_ngE, qn_ngE2, qn_ngL, qn_ngM, Nat.add_sub_cancel, qL, qS, qM, qV, qQ, qZ0, qZ1, qE_l, qE_r, qW_some]
        exact Or.inl fun z => z _ k1 k2 q
      · have q2 : ¬ qcd (O (qrni n N O (qkj (qKe n N O w) N i) c)) n < qcd (O c) n := fun z => q (c1.mp z)
        have nx : ∀ j, j < i + 1 → ¬ qrni n N O (qkj (qKe n N O w) N j) c < c := by
          intro j hj
          by_cases e : j = i
          · rw [e]; exact q
          · exact h1 j (by omega)
        by_cases e : qrni n N O (qkj (qKe n N O w) N i) c = c
        · have e2 := c2.mpr e
          have e3 := qct_T (P := fun j => qrni n N O (qkj (qKe n N O w) N j) c = c) (m := i) e
          rw [e3]
          generalize hcc : qct (fun j => qrni n N O (qkj (qKe n N O w) N j) c = c) i = cc at *
          simp (disch := first | omega | assumption) only [f_X0_namesThatKeep_b4, f_X0_namesThatKeep_j48, oi, rc, qn_lit, qn_ofNat, qn_neg1, qn_neg2, nI_add, pk_mul, qn_sub, qn_ltT, qn_ltF, qn_leT, qn_leF, qn_eqT, qn_eqF, qn_m1T, qn_m1F, qn_m1F2, qn_m1lt, qn_m1lt2, qn_m1le, qn_m1le2, qn_and1, qn_and3, qn_and7, qn_and15, qn_and31, qn_and255, qn_and2047, qn_shl, qn_shr, qn_or, qn_div, qn_modlt, Nat.reduceMod, Nat.reduceAdd, Nat.reduceMul, Nat.reducePow, Nat.reduceDiv, Nat.reduceSub, ↓reduceIte, qn_us, qn_un, not_true_eq_false, not_false_eq_true, true_and, and_true, qn_nn, qn_addm, qn_ngT, qn_ngF, qn_ngE, qn_ngE2, qn_ngL, qn_ngM, Nat.add_sub_cancel, qL, qS, qM, qV, qQ, qZ0, qZ1, qE_l, qE_r, qW_some]
          exact nx
        · have e2 : ¬ qcd (O (qrni n N O (qkj (qKe n N O w) N i) c)) n = qcd (O c) n := fun z => e (c2.mp z)
          have e3 := qct_F (P := fun j => qrni n N O (qkj (qKe n N O w) N j) c = c) (m := i) e
          rw [e3]
          generalize hcc : qct (fun j => qrni n N O (qkj (qKe n N O w) N j) c = c) i = cc at *
          simp (disch := first | omega | assumption) only [f_X0_namesThatKeep_b4, f_X0_namesThatKeep_j48, oi, rc, qn_lit, qn_ofNat, qn_neg1, qn_neg2, nI_add, pk_mul, qn_sub, qn_ltT, qn_ltF, qn_leT, qn_leF, qn_eqT, qn_eqF, qn_m1T, qn_m1F, qn_m1F2, qn_m1lt, qn_m1lt2, qn_m1le, qn_m1le2, qn_and1, qn_and3, qn_and7, qn_and15, qn_and31, qn_and255, qn_and2047, qn_shl, qn_shr, qn_or, qn_div, qn_modlt, Nat.reduceMod, Nat.reduceAdd, Nat.reduceMul, Nat.reducePow, Nat.reduceDiv, Nat.reduceSub, ↓reduceIte, qn_us, qn_un, not_true_eq_false, not_false_eq_true, true_and, and_true, qn_nn, qn_addm, qn_ngT, qn_ngF, qn_ngE, qn_ngE2, qn_ngL, qn_ngM, Nat.add_sub_cancel, qL, qS, qM, qV, qQ, qZ0, qZ1, qE_l, qE_r, qW_some]
          exact nx
    · rintro z ⟨rfl, h1⟩
      simp (disch := first | omega | assumption) only [f_X0_namesThatKeep_b4, qn_lit, qn_ofNat, qn_neg1, qn_neg2, nI_add, pk_mul, qn_sub, qn_ltT, qn_ltF, qn_leT, qn_leF, qn_eqT, qn_eqF, qn_m1T, qn_m1F, qn_m1F2, qn_m1lt, qn_m1lt2, qn_m1le, qn_m1le2, qn_and1, qn_and3, qn_and7, qn_and15, qn_and31, qn_and255, qn_and2047, qn_shl, qn_shr, qn_or, qn_div, qn_modlt, Nat.reduceMod, Nat.reduceAdd, Nat.reduceMul, Nat.reducePow, Nat.reduceDiv, Nat.reduceSub, ↓reduceIte, qn_us, qn_un, not_true_eq_false, not_false_eq_true, true_and, and_true, qn_nn, qn_addm, qn_ngT, qn_ngF, qn_ngE, qn_ngE2, qn_ngL, qn_ngM, Nat.add_sub_cancel, qL, qS, qM, qV, qQ, qZ0, qZ1, qE_l, qE_r, qW_some]
      exact Or.inr h1
  obtain ⟨e, g1, ⟨rfl, g2⟩ | ⟨rfl, g2⟩⟩ := loop
  · exact ⟨0, by omega, by simp (disch := first | omega | assumption) only [f_X0_namesThatKeep, g1, qn_lit, qn_ofNat, qn_neg1, qn_neg2, nI_add, pk_mul, qn_sub, qn_ltT, qn_ltF, qn_leT, qn_leF, qn_eqT, qn_eqF, qn_m1T, qn_m1F, qn_m1F2, qn_m1lt, qn_m1lt2, qn_m1le, qn_m1le2, qn_and1, qn_and3, qn_and7, qn_and15, qn_and31, qn_and255, qn_and2047, qn_shl, qn_shr, qn_or, qn_div, qn_modlt, Nat.reduceMod, Nat.reduceAdd, Nat.reduceMul, Nat.reducePow, Nat.reduceDiv, Nat.reduceSub, ↓reduceIte, qn_us, qn_un, not_true_eq_false, not_false_eq_true, true_and, and_true, qn_nn, qn_addm, qn_ngT, qn_ngF, qn_ngE, qn_ngE2, qn_ngL, qn_ngM, Nat.add_sub_cancel, qL, qS, qM, qV, qQ, qZ0, qZ1, qE_l, qE_r, qW_some], fun z => absurd z g2, fun _ => rfl⟩
  · have le := qct_le (fun j => qrni n N O (qkj (qKe n N O w) N j) c = c) (qct (qKe n N O w) N)
    refine ⟨qct (fun j => qrni n N O (qkj (qKe n N O w) N j) c = c) (qct (qKe n N O w) N), by omega, by simp (disch := first | omega | assumption) only [f_X0_namesThatKeep, g1, qn_lit, qn_ofNat, qn_neg1, qn_neg2, nI_add, pk_mul, qn_sub, qn_ltT, qn_ltF, qn_leT, qn_leF, qn_eqT, qn_eqF, qn_m1T, qn_m1F, qn_m1F2, qn_m1lt, qn_m1lt2, qn_m1le, qn_m1le2, qn_and1, qn_and3, qn_and7, qn_and15, qn_and31, qn_and255, qn_and2047, qn_shl, qn_shr, qn_or, qn_div, qn_modlt, Nat.reduceMod, Nat.reduceAdd, Nat.reduceMul, Nat.reducePow, Nat.reduceDiv, Nat.reduceSub, ↓reduceIte, qn_us, qn_un, not_true_eq_false, not_false_eq_true, true_and, and_true, qn_nn, qn_addm, qn_ngT, qn_ngF, qn_ngE, qn_ngE2, qn_ngL, qn_ngM, Nat.add_sub_cancel, qL, qS, qM, qV, qQ, qZ0, qZ1, qE_l, qE_r, qW_some], fun _ => ?_, fun z => absurd (fun p hp hkp => ?_) z⟩
    · exact (qct_kj (K := qKe n N O w) (E := fun p => qrni n N O p c = c) N (Nat.le_refl _)).symm
    · have := g2 _ (qct_ltN (K := qKe n N O w) hp hkp)
      rw [qkj_p hp hkp] at this
      exact this
end

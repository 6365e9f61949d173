/-! brides: how many words of so many letters lead to each state -/
noncomputable def qn1 (de : Nat → Nat → Nat) (g : Nat → Nat) (p l : Nat) (nx : Nat → Nat) : Nat → Nat := @ite _ (qal p l) (Classical.propDecidable _) (qup nx (de p l) (nx (de p l) + g p)) nx
theorem qn1_T {de : Nat → Nat → Nat} {g nx : Nat → Nat} {p l : Nat} (h : qal p l) : qn1 de g p l nx = qup nx (de p l) (nx (de p l) + g p) := if_pos h
theorem qn1_F {de : Nat → Nat → Nat} {g nx : Nat → Nat} {p l : Nat} (h : ¬ qal p l) : qn1 de g p l nx = nx := if_neg h
noncomputable def qn8 (de : Nat → Nat → Nat) (g : Nat → Nat) (p : Nat) (nx : Nat → Nat) : Nat → Nat → Nat
  | 0 => nx
  | m + 1 => qn1 de g p m (qn8 de g p nx m)
noncomputable def qnp (de : Nat → Nat → Nat) (g : Nat → Nat) : Nat → Nat → Nat
  | 0 => fun _ => 0
  | p + 1 => qn8 de g p (qnp de g p) 8
noncomputable def qwy (de : Nat → Nat → Nat) (M : Nat) : Nat → Nat → Nat
  | 0 => qup (fun _ => 0) 1 1
  | m + 1 => qnp de (qwy de M m) M
theorem qn8_0 {de : Nat → Nat → Nat} {g : Nat → Nat} {p : Nat} {nx : Nat → Nat} (h : g p = 0) : ∀ m, qn8 de g p nx m = nx := by
  intro m
  induction m with
  | zero => rfl
  | succ m ih =>
    show qn1 de g p m (qn8 de g p nx m) = nx
    rw [ih]
    by_cases q : qal p m
    · rw [qn1_T q, h]
      funext y
      by_cases e : y = de p m
      · rw [e, qup_s]; rfl
      · rw [qup_n e]
    · rw [qn1_F q]
def qsm (f : Nat → Nat) : Nat → Nat
  | 0 => 0
  | n + 1 => qsm f n + f n
theorem qsm_up {f : Nat → Nat} {k x : Nat} : ∀ n, k < n → qsm (qup f k (f k + x)) n = qsm f n + x := by
  have lo : ∀ n, n ≤ k → qsm (qup f k (f k + x)) n = qsm f n := by
    intro n
    induction n with
    | zero => intro _; rfl
    | succ n ih =>
      intro h
      simp only [qsm]
      rw [ih (by omega), qup_n (by omega)]
  intro n
  induction n with
  | zero => intro h; omega
  | succ n ih =>
    intro h
    simp only [qsm]
    by_cases e : n = k
    · rw [e, qup_s, lo k (Nat.le_refl _)]; omega
    · rw [ih (by omega), qup_n e]; omega
theorem qsm_le {f : Nat → Nat} {y : Nat} : ∀ n, y < n → f y ≤ qsm f n := by
  intro n
  induction n with
  | zero => intro h; omega
  | succ n ih =>
    intro h
    simp only [qsm]
    by_cases e : y = n
    · rw [e]; omega
    · have := ih (by omega); omega
theorem qsm_n8 {de : Nat → Nat → Nat} {g : Nat → Nat} {M p : Nat} {nx : Nat → Nat} (hde : ∀ p l, p < M → l < 8 → de p l < M) (hp : p < M) : ∀ m, m ≤ 8 → qsm (qn8 de g p nx m) M ≤ qsm nx M + m * g p := by
  intro m
  induction m with
  | zero => intro _; exact Nat.le_add_right _ _
  | succ m ih =>
    intro hm
    have h1 := ih (by omega)
    show qsm (qn1 de g p m (qn8 de g p nx m)) M ≤ _
    rw [Nat.succ_mul]
    by_cases q : qal p m
    · rw [qn1_T q, qsm_up M (hde p m hp (by omega))]
      omega
    · rw [qn1_F q]
      omega
theorem qsm_z (M : Nat) : qsm (fun _ => 0) M = 0 := by
  induction M with
  | zero => rfl
  | succ M ih => simp only [qsm, ih]
theorem qsm_np {de : Nat → Nat → Nat} {g : Nat → Nat} {M : Nat} (hde : ∀ p l, p < M → l < 8 → de p l < M) : ∀ p, p ≤ M → qsm (qnp de g p) M ≤ 8 * qsm g p := by
  intro p
  induction p with
  | zero => intro _; show qsm (fun _ => 0) M ≤ _; rw [qsm_z]; exact Nat.zero_le _
  | succ p ih =>
    intro hp
    have h1 := ih (by omega)
    have h2 := qsm_n8 (g := g) (nx := qnp de g p) hde (show p < M by omega) 8 (Nat.le_refl _)
    show qsm (qn8 de g p (qnp de g p) 8) M ≤ _
    simp only [qsm]
    omega
theorem qsm_mono {f : Nat → Nat} {a b : Nat} (h : a ≤ b) : qsm f a ≤ qsm f b := by
  induction b with
  | zero => have : a = 0 := by omega
            subst this; exact Nat.le_refl _
  | succ b ih =>
    by_cases e : a = b + 1
    · rw [e]; exact Nat.le_refl _
    · have := ih (by omega)
      simp only [qsm]
      omega
theorem qwy_b {de : Nat → Nat → Nat} {M : Nat} (hde : ∀ p l, p < M → l < 8 → de p l < M) (hM : 1 < M) : ∀ m, qsm (qwy de M m) M ≤ 8 ^ m := by
  intro m
  induction m with
  | zero =>
    show qsm (qup (fun _ => 0) 1 1) M ≤ 1
    have := qsm_up (f := fun _ => 0) (k := 1) (x := 1) M hM
    rw [qsm_z] at this
    exact Nat.le_of_eq this
  | succ m ih =>
    have := qsm_np (g := qwy de M m) hde M (Nat.le_refl _)
    show qsm (qnp de (qwy de M m) M) M ≤ _
    rw [Nat.pow_succ]
    omega
/-! the class -/
theorem q_goOn1 {N p B : Nat} {w c v u g nx : Nat → Nat} {bc bf bh bw wy nw : Nat → Int32} (h : qTC N w c v u bc bf bh bw) (hp : p < 2 * N) (hg : wy p = nI (g p)) (hB : g p ≤ B) (hB2 : B ≤ 100000) (hs : qsm nx (2 * N) ≤ 8 * B) (hn : ∀ y, y < 2 * N → nw y = nI (nx y)) : qW (f_X9_goOn_l33 (500, bc) (500, bf) (500, bh) (500, bw) (1000, wy) (nI p) (1000, nw) (nI 0)) (fun e => ∃ nw', e = (1000, nw') ∧ ∀ y, y < 2 * N → nw' y = nI (qn8 (qde w c v u) g p nx 8 y)) := by
  obtain ⟨hN, hw, hc, hv, hu, h1, h2, h3, h4⟩ := h
  have hde := qde_lt hw hc hv hu
  unfold f_X9_goOn_l33
  refine qfor 0 8 (fun m z => ∃ nw', z = ((1000, nw'), nI m) ∧ ∀ y, y < 2 * N → nw' y = nI (qn8 (qde w c v u) g p nx m y)) ⟨nw, rfl, hn⟩ (by omega) (by omega) ?_ ?_
  · rintro m z - hm ⟨nw', rfl, q⟩
    have b1 := qsm_n8 (g := g) (nx := nx) hde hp m (by omega)
    have b2 : m * g p ≤ 8 * B := Nat.mul_le_mul (by omega) hB
    have es : qn8 (qde w c v u) g p nx (m + 1) = qn1 (qde w c v u) g p m (qn8 (qde w c v u) g p nx m) := rfl
    rw [es]
    generalize qn8 (qde w c v u) g p nx m = F at *
    by_cases ha : qal p m
    · have st := q_stepX hN hw hc hv hu h1 h2 h3 h4 hm hp ha
      have hdM := hde p m hp hm
      rw [qn1_T ha]
      generalize qde w c v u p m = y at *
      have b3 := qsm_le (f := F) (2 * N) hdM
      have qy := q y hdM
      simp (disch := first | omega | assumption) only [f_X9_goOn_b33, f_X9_goOn_j75, q_len7, st, qy, hg, qn_lit, qn_ofNat, qn_neg1, qn_neg2, nI_add, pk_mul, qn_sub, qn_ltT, qn_ltF, qn_leT, qn_leF, qn_eqT, qn_eqF, qn_m1T, qn_m1F, qn_m1F2, qn_m1lt, qn_m1lt2, qn_m1le, qn_m1le2, qn_and1, qn_and3, qn_and7, qn_and15, qn_and31, qn_and255, qn_and2047, qn_shl, qn_shr, qn_or, qn_div, qn_modlt, Nat.reduceMod, Nat.reduceAdd, Nat.reduceMul, Nat.reducePow, Nat.reduceDiv, Nat.reduceSub, ↓reduceIte, qn_us, qn_un, not_true_eq_false, not_false_eq_true, true_and, and_true, qn_nn, qn_addm, qn_ngT, qn_ngF, qn_ngE, qn_ngE2, qn_ngL, qn_ngM, Nat.add_sub_cancel, qL, qS, qM, qV, qQ, qZ0, qZ1, qE_l, qE_r, qW_some]
      refine ⟨_, rfl, fun x hx => ?_⟩
      by_cases e : x = y
      · rw [e, pk_us, qup_s]
      · rw [pk_un e, qup_n e]; exact q x hx
    · have st := q_stepX_no (bc := bc) (bf := bf) (bh := bh) (bw := bw) hm (show p < 1000 by omega) ha
      have mn : mI < nI 0 := by decide
      rw [qn1_F ha]
      simp (disch := first | omega | assumption) only [f_X9_goOn_b33, f_X9_goOn_j75, q_len7, st, mn, qn_lit, qn_ofNat, qn_neg1, qn_neg2, nI_add, pk_mul, qn_sub, qn_ltT, qn_ltF, qn_leT, qn_leF, qn_eqT, qn_eqF, qn_m1T, qn_m1F, qn_m1F2, qn_m1lt, qn_m1lt2, qn_m1le, qn_m1le2, qn_and1, qn_and3, qn_and7, qn_and15, qn_and31, qn_and255, qn_and2047, qn_shl, qn_shr, qn_or, qn_div, qn_modlt, Nat.reduceMod, Nat.reduceAdd, Nat.reduceMul, Nat.reducePow, Nat.reduceDiv, Nat.reduceSub, ↓reduceIte, qn_us, qn_un, not_true_eq_false, not_false_eq_true, true_and, and_true, qn_nn, qn_addm, qn_ngT, qn_ngF, qn_ngE, qn_ngE2, qn_ngL, qn_ngM, Nat.add_sub_cancel, qL, qS, qM, qV, qQ, qZ0, qZ1, qE_l, qE_r, qW_some]
      exact ⟨_, rfl, q⟩
  · rintro z ⟨nw', rfl, q⟩
    simp (disch := first | omega | assumption) only [f_X9_goOn_b33, q_len7, qn_lit, qn_ofNat, qn_neg1, qn_neg2, nI_add, pk_mul, qn_sub, qn_ltT, qn_ltF, qn_leT, qn_leF, qn_eqT, qn_eqF, qn_m1T, qn_m1F, qn_m1F2, qn_m1lt, qn_m1lt2, qn_m1le, qn_m1le2, qn_and1, qn_and3, qn_and7, qn_and15, qn_and31, qn_and255, qn_and2047, qn_shl, qn_shr, qn_or, qn_div, qn_modlt, Nat.reduceMod, Nat.reduceAdd, Nat.reduceMul, Nat.reducePow, Nat.reduceDiv, Nat.reduceSub, ↓reduceIte, qn_us, qn_un, not_true_eq_false, not_false_eq_true, true_and, and_true, qn_nn, qn_addm, qn_ngT, qn_ngF, qn_ngE, qn_ngE2, qn_ngL, qn_ngM, Nat.add_sub_cancel, qL, qS, qM, qV, qQ, qZ0, qZ1, qE_l, qE_r, qW_some]
    exact ⟨_, rfl, q⟩
theorem q_goOn {N B : Nat} {w c v u g : Nat → Nat} {bc bf bh bw wy nw : Nat → Int32} (h : qTC N w c v u bc bf bh bw) (hg : ∀ p, p < 2 * N → wy p = nI (g p)) (hB : qsm g (2 * N) ≤ B) (hB2 : B ≤ 100000) (hn : ∀ y, y < 2 * N → nw y = nI 0) : ∃ nw', f_X9_goOn (nI N) (500, bc) (500, bf) (500, bh) (500, bw) (1000, wy) (1000, nw) = some (1000, nw') ∧ ∀ y, y < 2 * N → nw' y = nI (qnp (qde w c v u) g (2 * N) y) := by
  have hN := h.1
  have hde := qde_lt h.2.1 h.2.2.1 h.2.2.2.1 h.2.2.2.2.1
  have key : qW (f_X9_goOn_l2 (nI N) (500, bc) (500, bf) (500, bh) (500, bw) (1000, wy) (1000, nw) (nI 0)) (fun e => ∃ nw', e = (1000, nw') ∧ ∀ y, y < 2 * N → nw' y = nI (qnp (qde w c v u) g (2 * N) y)) := by
    unfold f_X9_goOn_l2
    refine qfor 0 (2 * N) (fun p z => ∃ nw', z = ((1000, nw'), nI p) ∧ ∀ y, y < 2 * N → nw' y = nI (qnp (qde w c v u) g p y)) ⟨nw, rfl, hn⟩ (by omega) (by omega) ?_ ?_
    · rintro p z - hp ⟨nw', rfl, q⟩
      have gp := hg p hp
      have b1 := qsm_le (f := g) (2 * N) hp
      have b2 := qsm_np (g := g) hde p (by omega)
      have b3 := qsm_mono (f := g) (show p ≤ 2 * N by omega)
      have es : qnp (qde w c v u) g (p + 1) = qn8 (qde w c v u) g p (qnp (qde w c v u) g p) 8 := rfl
      rw [es]
      by_cases e0 : g p = 0
      · rw [qn8_0 e0]
        rw [e0] at gp
        simp (disch := first | omega | assumption) only [f_X9_goOn_b2, f_X9_goOn_j81, gp, qn_lit, qn_ofNat, qn_neg1, qn_neg2, nI_add, pk_mul, qn_sub, qn_ltT, qn_ltF, qn_leT, qn_leF, qn_eqT, qn_eqF, qn_m1T, qn_m1F, qn_m1F2, qn_m1lt, qn_m1lt2, qn_m1le, qn_m1le2, qn_and1, qn_and3, qn_and7, qn_and15, qn_and31, qn_and255, qn_and2047, qn_shl, qn_shr, qn_or, qn_div, qn_modlt, Nat.reduceMod, Nat.reduceAdd, Nat.reduceMul, Nat.reducePow, Nat.reduceDiv, Nat.reduceSub, ↓reduceIte, qn_us, qn_un, not_true_eq_false, not_false_eq_true, true_and, and_true, qn_nn, qn_addm, qn_ngT, qn_ngF, qn_ngE, qn_ngE2, qn_ngL, qn_ngM, Nat.add_sub_cancel, qL, qS, qM, qV, qQ, qZ0, qZ1, qE_l, qE_r, qW_some]
        exact ⟨_, rfl, q⟩
      · obtain ⟨e, g1, nw2, rfl, g2⟩ := q_goOn1 (B := B) (g := g) h hp gp (by omega) hB2 (by omega) q
        simp (disch := first | omega | assumption) only [f_X9_goOn_b2, f_X9_goOn_j81, gp, g1, qn_lit, qn_ofNat, qn_neg1, qn_neg2, nI_add, pk_mul, qn_sub, qn_ltT, qn_ltF, qn_leT, qn_leF, qn_eqT, qn_eqF, qn_m1T, qn_m1F, qn_m1F2, qn_m1lt, qn_m1lt2, qn_m1le, qn_m1le2, qn_and1, qn_and3, qn_and7, qn_and15, qn_and31, qn_and255, qn_and2047, qn_shl, qn_shr, qn_or, qn_div, qn_modlt, Nat.reduceMod, Nat.reduceAdd, Nat.reduceMul, Nat.reducePow, Nat.reduceDiv, Nat.reduceSub, ↓reduceIte, qn_us, qn_un, not_true_eq_false, not_false_eq_true, true_and, and_true, qn_nn, qn_addm, qn_ngT, qn_ngF, qn_ngE, qn_ngE2, qn_ngL, qn_ngM, Nat.add_sub_cancel, qL, qS, qM, qV, qQ, qZ0, qZ1, qE_l, qE_r, qW_some]
        exact ⟨_, rfl, g2⟩
    · rintro z ⟨nw', rfl, q⟩
      simp (disch := first | omega | assumption) only [f_X9_goOn_b2, qn_lit, qn_ofNat, qn_neg1, qn_neg2, nI_add, pk_mul, qn_sub, qn_ltT, qn_ltF, qn_leT, qn_leF, qn_eqT, qn_eqF, qn_m1T, qn_m1F, qn_m1F2, qn_m1lt, qn_m1lt2, qn_m1le, qn_m1le2, qn_and1, qn_and3, qn_and7, qn_and15, qn_and31, qn_and255, qn_and2047, qn_shl, qn_shr, qn_or, qn_div, qn_modlt, Nat.reduceMod, Nat.reduceAdd, Nat.reduceMul, Nat.reducePow, Nat.reduceDiv, Nat.reduceSub, ↓reduceIte, qn_us, qn_un, not_true_eq_false, not_false_eq_true, true_and, and_true, qn_nn, qn_addm, qn_ngT, qn_ngF, qn_ngE, qn_ngE2, qn_ngL, qn_ngM, Nat.add_sub_cancel, qL, qS, qM, qV, qQ, qZ0, qZ1, qE_l, qE_r, qW_some]
      exact ⟨_, rfl, q⟩
  obtain ⟨e, g1, nw', rfl, g2⟩ := key
  exact ⟨nw', by simp (disch := first | omega | assumption) only [f_X9_goOn, g1, qn_lit, qn_ofNat, qn_neg1, qn_neg2, nI_add, pk_mul, qn_sub, qn_ltT, qn_ltF, qn_leT, qn_leF, qn_eqT, qn_eqF, qn_m1T, qn_m1F, qn_m1F2, qn_m1lt, qn_m1lt2, qn_m1le, qn_m1le2, qn_and1, qn_and3, qn_and7, qn_and15, qn_and31, qn_and255, qn_and2047, qn_shl, qn_shr, qn_or, qn_div, qn_modlt, Nat.reduceMod, Nat.reduceAdd, Nat.reduceMul, Nat.reducePow, Nat.reduceDiv, Nat.reduceSub, ↓reduceIte, qn_us, qn_un, not_true_eq_false, not_false_eq_true, true_and, and_true, qn_nn, qn_addm, qn_ngT, qn_ngF, qn_ngE, qn_ngE2, qn_ngL, qn_ngM, Nat.add_sub_cancel, qL, qS, qM, qV, qQ, qZ0, qZ1, qE_l, qE_r, qW_some], g2⟩
theorem qY {β : Type} {N M n : Nat} {f g : Nat → Int32} {k : jA → Option β} (hN : n ≤ N) (hM : n ≤ M) (hn : n < 2147483648) : jY .int (N, f) (M, g) (nI 0) (nI 0) (nI n) k = k (M, va_cpy f g 0 0 n) := by
  unfold jY
  have c0 : (nI 0).toNatClampNeg = 0 := nI_clamp (by decide)
  have cn : (nI n).toNatClampNeg = n := nI_clamp hn
  rw [if_pos, c0, cn]
  rw [c0, cn]
  exact ⟨by decide, by decide, nI_pos hn, by simpa using hN, by simpa using hM, fun i _ => rfl⟩
theorem q_bridesX {N m : Nat} {w c v u : Nat → Nat} {bc bf bh bw : Nat → Int32} {tn_children : Int32} {tn_many : Int32} {tn_size : Int32} {tn_wives : Int32} {tn_searched : Nat → Int32} {tn_slot : Nat → Int32} {tn_turn : Nat → Int32} {tn_nextWays : Nat → Int32} {tn_ways : Nat → Int32} (h : qTC N w c v u bc bf bh bw) (hN1 : 0 < N) (hm : m ≤ 6) (hg : ∀ p, p < 2 * N → tn_ways p = nI (qwy (qde w c v u) (2 * N) 0 p)) : ∃ nw' wy', f_X9_bridesOf_l33 tn_children (nI N) tn_many tn_size tn_wives (500, bc) (500, bf) (500, bh) (500, bw) (2, tn_searched) (2048, tn_slot) (500, tn_turn) (nI m) (1000, tn_nextWays) (1000, tn_ways) (nI 0) = some ((1000, nw'), (1000, wy')) ∧ ∀ p, p < 2 * N → wy' p = nI (qwy (qde w c v u) (2 * N) m p) := by
  have hN := h.1
  have hde := qde_lt h.2.1 h.2.2.1 h.2.2.2.1 h.2.2.2.2.1
  have key : qW (f_X9_bridesOf_l33 tn_children (nI N) tn_many tn_size tn_wives (500, bc) (500, bf) (500, bh) (500, bw) (2, tn_searched) (2048, tn_slot) (500, tn_turn) (nI m) (1000, tn_nextWays) (1000, tn_ways) (nI 0)) (fun e => ∃ nw' wy', e = ((1000, nw'), (1000, wy')) ∧ ∀ p, p < 2 * N → wy' p = nI (qwy (qde w c v u) (2 * N) m p)) := by
    unfold f_X9_bridesOf_l33
    refine qfor 0 m (fun i z => ∃ nw' wy', z = ((1000, nw'), (1000, wy'), nI i) ∧ ∀ p, p < 2 * N → wy' p = nI (qwy (qde w c v u) (2 * N) i p)) ⟨_, _, rfl, hg⟩ (by omega) (by omega) ?_ ?_
    · rintro i z - hi ⟨nw', wy', rfl, q⟩
      have b1 := qwy_b hde (by omega) i
      have b2 : 8 ^ i ≤ 8 ^ 5 := Nat.pow_le_pow_right (by decide) (by omega)
      have b3 : 8 ^ 5 = 32768 := by decide
      obtain ⟨nz, z1, z2⟩ := q_fill (N := 1000) (f := nw') (v := nI 0) (by decide)
      obtain ⟨nw2, g1, g2⟩ := q_goOn (B := 32768) (nw := nz) h q (by omega) (by omega) (fun y hy => z2 y (by omega))
      have yy := fun (k : jA → Option ((jA × jA × Int32) ⊕ (jA × jA))) => qY (N := 1000) (M := 1000) (n := 1000) (f := nw2) (g := wy') (k := k) (by decide) (by decide) (by decide)
      simp (disch := first | omega | assumption) only [f_X9_bridesOf_b33, z1, g1, yy, qn_lit, qn_ofNat, qn_neg1, qn_neg2, nI_add, pk_mul, qn_sub, qn_ltT, qn_ltF, qn_leT, qn_leF, qn_eqT, qn_eqF, qn_m1T, qn_m1F, qn_m1F2, qn_m1lt, qn_m1lt2, qn_m1le, qn_m1le2, qn_and1, qn_and3, qn_and7, qn_and15, qn_and31, qn_and255, qn_and2047, qn_shl, qn_shr, qn_or, qn_div, qn_modlt, Nat.reduceMod, Nat.reduceAdd, Nat.reduceMul, Nat.reducePow, Nat.reduceDiv, Nat.reduceSub, ↓reduceIte, qn_us, qn_un, not_true_eq_false, not_false_eq_true, true_and, and_true, qn_nn, qn_addm, qn_ngT, qn_ngF, qn_ngE, qn_ngE2, qn_ngL, qn_ngM, Nat.add_sub_cancel, qL, qS, qM, qV, qQ, qZ0, qZ1, qE_l, qE_r, qW_some]
      refine ⟨_, _, rfl, fun p hp => ?_⟩
      rw [pk_cpy_in (by omega) (by omega)]
      simp only [Nat.zero_add, Nat.sub_zero]
      exact g2 p hp
    · rintro z ⟨nw', wy', rfl, q⟩
      simp (disch := first | omega | assumption) only [f_X9_bridesOf_b33, qn_lit, qn_ofNat, qn_neg1, qn_neg2, nI_add, pk_mul, qn_sub, qn_ltT, qn_ltF, qn_leT, qn_leF, qn_eqT, qn_eqF, qn_m1T, qn_m1F, qn_m1F2, qn_m1lt, qn_m1lt2, qn_m1le, qn_m1le2, qn_and1, qn_and3, qn_and7, qn_and15, qn_and31, qn_and255, qn_and2047, qn_shl, qn_shr, qn_or, qn_div, qn_modlt, Nat.reduceMod, Nat.reduceAdd, Nat.reduceMul, Nat.reducePow, Nat.reduceDiv, Nat.reduceSub, ↓reduceIte, qn_us, qn_un, not_true_eq_false, not_false_eq_true, true_and, and_true, qn_nn, qn_addm, qn_ngT, qn_ngF, qn_ngE, qn_ngE2, qn_ngL, qn_ngM, Nat.add_sub_cancel, qL, qS, qM, qV, qQ, qZ0, qZ1, qE_l, qE_r, qW_some]
      exact ⟨_, _, rfl, q⟩
  obtain ⟨e, g1, nw', wy', rfl, g2⟩ := key
  exact ⟨nw', wy', g1, g2⟩
/-! the reference -/
theorem q_bridesR1 {N n p B : Nat} {de : Nat → Nat → Nat} {g nx : Nat → Nat} {x1 x2 : Int32} {R_code : Int32} {R_child : Nat → Int32} {R_childBack : Nat → Int32} {R_turn : Nat → Int32} {R_waysTo : Nat → Int32} {R_weds : Nat → Int32} {R_wedsBack : Nat → Int32} {R_nextWays : Nat → Int32} (hpl : ∀ p l, p < 2 * N → l < 8 → f_X12_placeBehind (nI n) (nI N) (8, R_child) (8, R_childBack) (502, R_turn) (8, R_weds) (8, R_wedsBack) (nI p) (nI l) = some (nI (de p l))) (hde : ∀ p l, p < 2 * N → l < 8 → de p l < 2 * N) (hN : N ≤ 500) (hp : p < 2 * N) (hg : R_waysTo p = nI (g p)) (hB : g p ≤ B) (hB2 : B ≤ 100000) (hs : qsm nx (2 * N) ≤ 8 * B) (hn : ∀ y, y < 2 * N → R_nextWays y = nI (nx y)) : qW (f_X12_brides_l116 R_code (nI n) (nI N) (8, R_child) (8, R_childBack) (502, R_turn) (1004, R_waysTo) (8, R_weds) (8, R_wedsBack) x1 x2 (nI p) (1004, R_nextWays) (nI 0)) (fun e => ∃ nw', e = (1004, nw') ∧ ∀ y, y < 2 * N → nw' y = nI (qn8 de g p nx 8 y)) := by
  by_cases g0 : g p = 0
  · rw [g0] at hg
    unfold f_X12_brides_l116
    refine qfor 0 0 (fun i z => z = ((1004, R_nextWays), nI 0)) rfl (by decide) (by decide) (fun i s h1 h2 => absurd h2 (by omega)) ?_
    rintro z rfl
    simp (disch := first | omega | assumption) only [f_X12_brides_b116, hg, qn_lit, qn_ofNat, qn_neg1, qn_neg2, nI_add, pk_mul, qn_sub, qn_ltT, qn_ltF, qn_leT, qn_leF, qn_eqT, qn_eqF, qn_m1T, qn_m1F, qn_m1F2, qn_m1lt, qn_m1lt2, qn_m1le, qn_m1le2, qn_and1, qn_and3, qn_and7, qn_and15, qn_and31, qn_and255, qn_and2047, qn_shl, qn_shr, qn_or, qn_div, qn_modlt, Nat.reduceMod, Nat.reduceAdd, Nat.reduceMul, Nat.reducePow, Nat.reduceDiv, Nat.reduceSub, ↓reduceIte, qn_us, qn_un, not_true_eq_false, not_false_eq_true, true_and, and_true, qn_nn, qn_addm, qn_ngT, qn_ngF, qn_ngE, qn_ngE2, qn_ngL, qn_ngM, Nat.add_sub_cancel, qL, qS, qM, qV, qQ, qZ0, qZ1, qE_l, qE_r, qW_some]
    rw [qn8_0 g0]
    exact ⟨_, rfl, hn⟩
  unfold f_X12_brides_l116
  refine qfor 0 8 (fun m z => ∃ nw', z = ((1004, nw'), nI m) ∧ ∀ y, y < 2 * N → nw' y = nI (qn8 de g p nx m y)) ⟨_, rfl, hn⟩ (by omega) (by omega) ?_ ?_
  · rintro m z - hm ⟨nw', rfl, q⟩
    have b1 := qsm_n8 (g := g) (nx := nx) hde hp m (by omega)
    have b2 : m * g p ≤ 8 * B := Nat.mul_le_mul (by omega) hB
    have es : qn8 de g p nx (m + 1) = qn1 de g p m (qn8 de g p nx m) := rfl
    rw [es]
    generalize qn8 de g p nx m = F at *
    have ep : p - p / 2 * 2 = p % 2 := by omega
    have ms := q_mayStep (s := p % 2) (l := m) (by omega) hm
    by_cases ha : qal p m
    · rw [if_neg ha] at ms
      have st := hpl p m hp hm
      have hdM := hde p m hp hm
      rw [qn1_T ha]
      generalize de p m = y at *
      have b3 := qsm_le (f := F) (2 * N) hdM
      have qy := q y hdM
      simp (disch := first | omega | assumption) only [f_X12_brides_b116, f_X12_brides_j168, ep, ms, st, qy, hg, qn_lit, qn_ofNat, qn_neg1, qn_neg2, nI_add, pk_mul, qn_sub, qn_ltT, qn_ltF, qn_leT, qn_leF, qn_eqT, qn_eqF, qn_m1T, qn_m1F, qn_m1F2, qn_m1lt, qn_m1lt2, qn_m1le, qn_m1le2, qn_and1, qn_and3, qn_and7, qn_and15, qn_and31, qn_and255, qn_and2047, qn_shl, qn_shr, qn_or, qn_div, qn_modlt, Nat.reduceMod, Nat.reduceAdd, Nat.reduceMul, Nat.reducePow, Nat.reduceDiv, Nat.reduceSub, ↓reduceIte, qn_us, qn_un, not_true_eq_false, not_false_eq_true, true_and, and_true, qn_nn, qn_addm, qn_ngT, qn_ngF, qn_ngE, qn_ngE2, qn_ngL, qn_ngM, Nat.add_sub_cancel, qL, qS, qM, qV, qQ, qZ0, qZ1, qE_l, qE_r, qW_some]
      refine ⟨_, rfl, fun x hx => ?_⟩
      by_cases e : x = y
      · rw [e, pk_us, qup_s]
      · rw [pk_un e, qup_n e]; exact q x hx
    · rw [if_pos (Classical.not_not.mp ha)] at ms
      rw [qn1_F ha]
      simp (disch := first | omega | assumption) only [f_X12_brides_b116, f_X12_brides_j168, ep, ms, hg, qn_lit, qn_ofNat, qn_neg1, qn_neg2, nI_add, pk_mul, qn_sub, qn_ltT, qn_ltF, qn_leT, qn_leF, qn_eqT, qn_eqF, qn_m1T, qn_m1F, qn_m1F2, qn_m1lt, qn_m1lt2, qn_m1le, qn_m1le2, qn_and1, qn_and3, qn_and7, qn_and15, qn_and31, qn_and255, qn_and2047, qn_shl, qn_shr, qn_or, qn_div, qn_modlt, Nat.reduceMod, Nat.reduceAdd, Nat.reduceMul, Nat.reducePow, Nat.reduceDiv, Nat.reduceSub, ↓reduceIte, qn_us, qn_un, not_true_eq_false, not_false_eq_true, true_and, and_true, qn_nn, qn_addm, qn_ngT, qn_ngF, qn_ngE, qn_ngE2, qn_ngL, qn_ngM, Nat.add_sub_cancel, qL, qS, qM, qV, qQ, qZ0, qZ1, qE_l, qE_r, qW_some]
      exact ⟨_, rfl, q⟩
  · rintro z ⟨nw', rfl, q⟩
    simp (disch := first | omega | assumption) only [f_X12_brides_b116, qn_lit, qn_ofNat, qn_neg1, qn_neg2, nI_add, pk_mul, qn_sub, qn_ltT, qn_ltF, qn_leT, qn_leF, qn_eqT, qn_eqF, qn_m1T, qn_m1F, qn_m1F2, qn_m1lt, qn_m1lt2, qn_m1le, qn_m1le2, qn_and1, qn_and3, qn_and7, qn_and15, qn_and31, qn_and255, qn_and2047, qn_shl, qn_shr, qn_or, qn_div, qn_modlt, Nat.reduceMod, Nat.reduceAdd, Nat.reduceMul, Nat.reducePow, Nat.reduceDiv, Nat.reduceSub, ↓reduceIte, qn_us, qn_un, not_true_eq_false, not_false_eq_true, true_and, and_true, qn_nn, qn_addm, qn_ngT, qn_ngF, qn_ngE, qn_ngE2, qn_ngL, qn_ngM, Nat.add_sub_cancel, qL, qS, qM, qV, qQ, qZ0, qZ1, qE_l, qE_r, qW_some]
    exact ⟨_, rfl, q⟩
theorem q_bridesR2 {N n B : Nat} {de : Nat → Nat → Nat} {g : Nat → Nat} {x1 x2 : Int32} {R_code : Int32} {R_child : Nat → Int32} {R_childBack : Nat → Int32} {R_turn : Nat → Int32} {R_waysTo : Nat → Int32} {R_weds : Nat → Int32} {R_wedsBack : Nat → Int32} {R_nextWays : Nat → Int32} (hpl : ∀ p l, p < 2 * N → l < 8 → f_X12_placeBehind (nI n) (nI N) (8, R_child) (8, R_childBack) (502, R_turn) (8, R_weds) (8, R_wedsBack) (nI p) (nI l) = some (nI (de p l))) (hde : ∀ p l, p < 2 * N → l < 8 → de p l < 2 * N) (hN : N ≤ 500) (hg : ∀ p, p < 2 * N → R_waysTo p = nI (g p)) (hB : qsm g (2 * N) ≤ B) (hB2 : B ≤ 100000) (hn : ∀ y, y < 2 * N → R_nextWays y = nI 0) : qW (f_X12_brides_l103 R_code (nI n) (nI N) (8, R_child) (8, R_childBack) (502, R_turn) (1004, R_waysTo) (8, R_weds) (8, R_wedsBack) x1 x2 (1004, R_nextWays) (nI 0)) (fun e => ∃ nw', e = (1004, nw') ∧ ∀ y, y < 2 * N → nw' y = nI (qnp de g (2 * N) y)) := by
  unfold f_X12_brides_l103
  refine qfor 0 (2 * N) (fun p z => ∃ nw', z = ((1004, nw'), nI p) ∧ ∀ y, y < 2 * N → nw' y = nI (qnp de g p y)) ⟨_, rfl, hn⟩ (by omega) (by omega) ?_ ?_
  · rintro p z - hp ⟨nw', rfl, q⟩
    have b1 := qsm_le (f := g) (2 * N) hp
    have b2 := qsm_np (g := g) hde p (by omega)
    have b3 := qsm_mono (f := g) (show p ≤ 2 * N by omega)
    obtain ⟨e, g1, nw2, rfl, g2⟩ := q_bridesR1 (B := B) (g := g) (x1 := x1) (x2 := x2) (R_code := R_code) hpl hde hN hp (hg p hp) (by omega) hB2 (by omega) q
    simp (disch := first | omega | assumption) only [f_X12_brides_b103, f_X12_brides_j174, g1, qn_lit, qn_ofNat, qn_neg1, qn_neg2, nI_add, pk_mul, qn_sub, qn_ltT, qn_ltF, qn_leT, qn_leF, qn_eqT, qn_eqF, qn_m1T, qn_m1F, qn_m1F2, qn_m1lt, qn_m1lt2, qn_m1le, qn_m1le2, qn_and1, qn_and3, qn_and7, qn_and15, qn_and31, qn_and255, qn_and2047, qn_shl, qn_shr, qn_or, qn_div, qn_modlt, Nat.reduceMod, Nat.reduceAdd, Nat.reduceMul, Nat.reducePow, Nat.reduceDiv, Nat.reduceSub, ↓reduceIte, qn_us, qn_un, not_true_eq_false, not_false_eq_true, true_and, and_true, qn_nn, qn_addm, qn_ngT, qn_ngF, qn_ngE, qn_ngE2, qn_ngL, qn_ngM, Nat.add_sub_cancel, qL, qS, qM, qV, qQ, qZ0, qZ1, qE_l, qE_r, qW_some]
    exact ⟨_, rfl, g2⟩
  · rintro z ⟨nw', rfl, q⟩
    simp (disch := first | omega | assumption) only [f_X12_brides_b103, qn_lit, qn_ofNat, qn_neg1, qn_neg2, nI_add, pk_mul, qn_sub, qn_ltT, qn_ltF, qn_leT, qn_leF, qn_eqT, qn_eqF, qn_m1T, qn_m1F, qn_m1F2, qn_m1lt, qn_m1lt2, qn_m1le, qn_m1le2, qn_and1, qn_and3, qn_and7, qn_and15, qn_and31, qn_and255, qn_and2047, qn_shl, qn_shr, qn_or, qn_div, qn_modlt, Nat.reduceMod, Nat.reduceAdd, Nat.reduceMul, Nat.reducePow, Nat.reduceDiv, Nat.reduceSub, ↓reduceIte, qn_us, qn_un, not_true_eq_false, not_false_eq_true, true_and, and_true, qn_nn, qn_addm, qn_ngT, qn_ngF, qn_ngE, qn_ngE2, qn_ngL, qn_ngM, Nat.add_sub_cancel, qL, qS, qM, qV, qQ, qZ0, qZ1, qE_l, qE_r, qW_some]
    exact ⟨_, rfl, q⟩
theorem q_bridesR {N n m : Nat} {de : Nat → Nat → Nat} {R_code : Int32} {R_child : Nat → Int32} {R_childBack : Nat → Int32} {R_turn : Nat → Int32} {R_weds : Nat → Int32} {R_wedsBack : Nat → Int32} {R_nextWays : Nat → Int32} {R_waysTo : Nat → Int32} (hpl : ∀ p l, p < 2 * N → l < 8 → f_X12_placeBehind (nI n) (nI N) (8, R_child) (8, R_childBack) (502, R_turn) (8, R_weds) (8, R_wedsBack) (nI p) (nI l) = some (nI (de p l))) (hde : ∀ p l, p < 2 * N → l < 8 → de p l < 2 * N) (hN : N ≤ 500) (hN1 : 0 < N) (hm : m ≤ 6) (hg : ∀ p, p < 2 * N → R_waysTo p = nI (qwy de (2 * N) 0 p)) : ∃ nw' wy', f_X12_brides_l71 R_code (nI n) (nI N) (8, R_child) (8, R_childBack) (502, R_turn) (8, R_weds) (8, R_wedsBack) (nI m) (1004, R_nextWays) (1004, R_waysTo) (nI 0) = some ((1004, nw'), (1004, wy')) ∧ ∀ p, p < 2 * N → wy' p = nI (qwy de (2 * N) m p) := by
  have key : qW (f_X12_brides_l71 R_code (nI n) (nI N) (8, R_child) (8, R_childBack) (502, R_turn) (8, R_weds) (8, R_wedsBack) (nI m) (1004, R_nextWays) (1004, R_waysTo) (nI 0)) (fun e => ∃ nw' wy', e = ((1004, nw'), (1004, wy')) ∧ ∀ p, p < 2 * N → wy' p = nI (qwy de (2 * N) m p)) := by
    unfold f_X12_brides_l71
    refine qfor 0 m (fun i z => ∃ nw' wy', z = ((1004, nw'), (1004, wy'), nI i) ∧ ∀ p, p < 2 * N → wy' p = nI (qwy de (2 * N) i p)) ⟨_, _, rfl, hg⟩ (by omega) (by omega) ?_ ?_
    · rintro i z - hi ⟨nw', wy', rfl, q⟩
      have b1 := qwy_b hde (by omega) i
      have b2 : 8 ^ i ≤ 8 ^ 5 := Nat.pow_le_pow_right (by decide) (by omega)
      have b3 : 8 ^ 5 = 32768 := by decide
      have f1 : qW (f_X12_brides_l78 R_code (nI n) (nI N) (8, R_child) (8, R_childBack) (502, R_turn) (1004, wy') (8, R_weds) (8, R_wedsBack) (nI m) (nI i) (1004, nw') (nI 0)) (fun e => ∃ nz, e = (1004, nz) ∧ ∀ y, y < 2 * N → nz y = nI 0) := by
        unfold f_X12_brides_l78
        refine qfor 0 (2 * N) (fun j z => ∃ nz, z = ((1004, nz), nI j) ∧ ∀ y, y < j → nz y = nI 0) ⟨_, rfl, by simp⟩ (by omega) (by omega) ?_ ?_
        · rintro j z - hj ⟨nz, rfl, r⟩
          simp (disch := first | omega | assumption) only [f_X12_brides_b78, qn_lit, qn_ofNat, qn_neg1, qn_neg2, nI_add, pk_mul, qn_sub, qn_ltT, qn_ltF, qn_leT, qn_leF, qn_eqT, qn_eqF, qn_m1T, qn_m1F, qn_m1F2, qn_m1lt, qn_m1lt2, qn_m1le, qn_m1le2, qn_and1, qn_and3, qn_and7, qn_and15, qn_and31, qn_and255, qn_and2047, qn_shl, qn_shr, qn_or, qn_div, qn_modlt, Nat.reduceMod, Nat.reduceAdd, Nat.reduceMul, Nat.reducePow, Nat.reduceDiv, Nat.reduceSub, ↓reduceIte, qn_us, qn_un, not_true_eq_false, not_false_eq_true, true_and, and_true, qn_nn, qn_addm, qn_ngT, qn_ngF, qn_ngE, qn_ngE2, qn_ngL, qn_ngM, Nat.add_sub_cancel, qL, qS, qM, qV, qQ, qZ0, qZ1, qE_l, qE_r, qW_some]
          refine ⟨_, rfl, fun y hy => ?_⟩
          by_cases e : y = j
          · rw [e]; exact pk_us
          · rw [pk_un e]; exact r y (by omega)
        · rintro z ⟨nz, rfl, r⟩
          simp (disch := first | omega | assumption) only [f_X12_brides_b78, qn_lit, qn_ofNat, qn_neg1, qn_neg2, nI_add, pk_mul, qn_sub, qn_ltT, qn_ltF, qn_leT, qn_leF, qn_eqT, qn_eqF, qn_m1T, qn_m1F, qn_m1F2, qn_m1lt, qn_m1lt2, qn_m1le, qn_m1le2, qn_and1, qn_and3, qn_and7, qn_and15, qn_and31, qn_and255, qn_and2047, qn_shl, qn_shr, qn_or, qn_div, qn_modlt, Nat.reduceMod, Nat.reduceAdd, Nat.reduceMul, Nat.reducePow, Nat.reduceDiv, Nat.reduceSub, ↓reduceIte, qn_us, qn_un, not_true_eq_false, not_false_eq_true, true_and, and_true, qn_nn, qn_addm, qn_ngT, qn_ngF, qn_ngE, qn_ngE2, qn_ngL, qn_ngM, Nat.add_sub_cancel, qL, qS, qM, qV, qQ, qZ0, qZ1, qE_l, qE_r, qW_some]
          exact ⟨_, rfl, r⟩
      obtain ⟨e1, f2, nz, rfl, f3⟩ := f1
      obtain ⟨e2, g1, nw2, rfl, g2⟩ := q_bridesR2 (B := 32768) (x1 := nI m) (x2 := nI i) (R_code := R_code) hpl hde hN q (by omega) (by omega) f3
      have f4 : qW (f_X12_brides_l182 R_code (nI n) (nI N) (8, R_child) (8, R_childBack) (1004, nw2) (502, R_turn) (8, R_weds) (8, R_wedsBack) (nI m) (nI i) (1004, wy') (nI 0)) (fun e => ∃ wz, e = (1004, wz) ∧ ∀ y, y < 2 * N → wz y = nw2 y) := by
        unfold f_X12_brides_l182
        refine qfor 0 (2 * N) (fun j z => ∃ wz, z = ((1004, wz), nI j) ∧ ∀ y, y < j → wz y = nw2 y) ⟨_, rfl, by simp⟩ (by omega) (by omega) ?_ ?_
        · rintro j z - hj ⟨wz, rfl, r⟩
          simp (disch := first | omega | assumption) only [f_X12_brides_b182, qn_lit, qn_ofNat, qn_neg1, qn_neg2, nI_add, pk_mul, qn_sub, qn_ltT, qn_ltF, qn_leT, qn_leF, qn_eqT, qn_eqF, qn_m1T, qn_m1F, qn_m1F2, qn_m1lt, qn_m1lt2, qn_m1le, qn_m1le2, qn_and1, qn_and3, qn_and7, qn_and15, qn_and31, qn_and255, qn_and2047, qn_shl, qn_shr, qn_or, qn_div, qn_modlt, Nat.reduceMod, Nat.reduceAdd, Nat.reduceMul, Nat.reducePow, Nat.reduceDiv, Nat.reduceSub, ↓reduceIte, qn_us, qn_un, not_true_eq_false, not_false_eq_true, true_and, and_true, qn_nn, qn_addm, qn_ngT, qn_ngF, qn_ngE, qn_ngE2, qn_ngL, qn_ngM, Nat.add_sub_cancel, qL, qS, qM, qV, qQ, qZ0, qZ1, qE_l, qE_r, qW_some]
          refine ⟨_, rfl, fun y hy => ?_⟩
          by_cases e : y = j
          · rw [e]; exact pk_us
          · rw [pk_un e]; exact r y (by omega)
        · rintro z ⟨wz, rfl, r⟩
          simp (disch := first | omega | assumption) only [f_X12_brides_b182, qn_lit, qn_ofNat, qn_neg1, qn_neg2, nI_add, pk_mul, qn_sub, qn_ltT, qn_ltF, qn_leT, qn_leF, qn_eqT, qn_eqF, qn_m1T, qn_m1F, qn_m1F2, qn_m1lt, qn_m1lt2, qn_m1le, qn_m1le2, qn_and1, qn_and3, qn_and7, qn_and15, qn_and31, qn_and255, qn_and2047, qn_shl, qn_shr, qn_or, qn_div, qn_modlt, Nat.reduceMod, Nat.reduceAdd, Nat.reduceMul, Nat.reducePow, Nat.reduceDiv, Nat.reduceSub, ↓reduceIte, qn_us, qn_un, not_true_eq_false, not_false_eq_true, true_and, and_true, qn_nn, qn_addm, qn_ngT, qn_ngF, qn_ngE, qn_ngE2, qn_ngL, qn_ngM, Nat.add_sub_cancel, qL, qS, qM, qV, qQ, qZ0, qZ1, qE_l, qE_r, qW_some]
          exact ⟨_, rfl, r⟩
      obtain ⟨e3, f5, wz, rfl, f6⟩ := f4
      simp (disch := first | omega | assumption) only [f_X12_brides_b71, f2, g1, f5, qn_lit, qn_ofNat, qn_neg1, qn_neg2, nI_add, pk_mul, qn_sub, qn_ltT, qn_ltF, qn_leT, qn_leF, qn_eqT, qn_eqF, qn_m1T, qn_m1F, qn_m1F2, qn_m1lt, qn_m1lt2, qn_m1le, qn_m1le2, qn_and1, qn_and3, qn_and7, qn_and15, qn_and31, qn_and255, qn_and2047, qn_shl, qn_shr, qn_or, qn_div, qn_modlt, Nat.reduceMod, Nat.reduceAdd, Nat.reduceMul, Nat.reducePow, Nat.reduceDiv, Nat.reduceSub, ↓reduceIte, qn_us, qn_un, not_true_eq_false, not_false_eq_true, true_and, and_true, qn_nn, qn_addm, qn_ngT, qn_ngF, qn_ngE, qn_ngE2, qn_ngL, qn_ngM, Nat.add_sub_cancel, qL, qS, qM, qV, qQ, qZ0, qZ1, qE_l, qE_r, qW_some]
      exact ⟨_, _, rfl, fun p hp => by rw [f6 p hp]; exact g2 p hp⟩
    · rintro z ⟨nw', wy', rfl, q⟩
      simp (disch := first | omega | assumption) only [f_X12_brides_b71, qn_lit, qn_ofNat, qn_neg1, qn_neg2, nI_add, pk_mul, qn_sub, qn_ltT, qn_ltF, qn_leT, qn_leF, qn_eqT, qn_eqF, qn_m1T, qn_m1F, qn_m1F2, qn_m1lt, qn_m1lt2, qn_m1le, qn_m1le2, qn_and1, qn_and3, qn_and7, qn_and15, qn_and31, qn_and255, qn_and2047, qn_shl, qn_shr, qn_or, qn_div, qn_modlt, Nat.reduceMod, Nat.reduceAdd, Nat.reduceMul, Nat.reducePow, Nat.reduceDiv, Nat.reduceSub, ↓reduceIte, qn_us, qn_un, not_true_eq_false, not_false_eq_true, true_and, and_true, qn_nn, qn_addm, qn_ngT, qn_ngF, qn_ngE, qn_ngE2, qn_ngL, qn_ngM, Nat.add_sub_cancel, qL, qS, qM, qV, qQ, qZ0, qZ1, qE_l, qE_r, qW_some]
      exact ⟨_, _, rfl, q⟩
  obtain ⟨e, g1, nw', wy', rfl, g2⟩ := key
  exact ⟨nw', wy', g1, g2⟩

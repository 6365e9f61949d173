/-! halves -/
def qpc (m : Nat) : Nat → Nat
  | 0 => 0
  | n + 1 => qpc m n + m / 2 ^ n % 2
theorem qpc_le (m n : Nat) : qpc m n ≤ n := by
  induction n with
  | zero => exact Nat.le_refl _
  | succ n ih => simp only [qpc]; omega
theorem q_bitCount {m : Nat} (h : m < 256) : f_J6_bitCount_0f7a4 (nI m) = some (nI (qpc m 8)) := by
  have key : ∀ k : Fin 256, f_J6_bitCount_0f7a4 (nI k.val) = some (nI (qpc k.val 8)) := by decide +kernel
  exact key ⟨m, h⟩
theorem qpc_8 {m n : Nat} (hn : n ≤ 8) (h : m < 2 ^ n) : qpc m n = qpc m 8 := by
  have key : ∀ k : Fin 9, ∀ j : Fin 256, j.val < 2 ^ k.val → qpc j.val k.val = qpc j.val 8 := by decide +kernel
  exact key ⟨n, by omega⟩ ⟨m, by have := q_2n hn; omega⟩ h
theorem q_ite2 {p : Prop} [Decidable p] : (if p then 1 else 0) < 2 := by split <;> decide
def qbt (m i : Nat) : Nat := m / 2 ^ i % 2
def qh1 (W C V : Nat → Nat) (k m i : Nat) : Prop := if k = 2 then qbt m (W i) = qbt m i ∧ qbt m (C i) ≠ qbt m i else qbt m (W i) ≠ qbt m i ∧ qbt m (if k = 1 then C (V i) else C i) = qbt m i
def qhv (n : Nat) (W C V : Nat → Nat) (k m : Nat) : Prop := 2 * qpc m n = n ∧ ∀ i, i < n → qh1 W C V k m i
theorem q_sameHalf {m a b : Nat} (hm : m < 256) (ha : a < 8) (hb : b < 8) : f_X10_sameHalf (nI m) (nI a) (nI b) = some (nI (if qbt m a = qbt m b then 1 else 0)) := by
  have h1 : qbt m a < 2 := Nat.mod_lt _ (by decide)
  have h2 : qbt m b < 2 := Nat.mod_lt _ (by decide)
  unfold qbt at h1 h2 ⊢
  by_cases e : m / 2 ^ a % 2 = m / 2 ^ b % 2
  · simp (disch := first | omega | assumption) only [f_X10_sameHalf, qn_lit, qn_ofNat, qn_neg1, qn_neg2, nI_add, pk_mul, qn_sub, qn_ltT, qn_ltF, qn_leT, qn_leF, qn_eqT, qn_eqF, qn_m1T, qn_m1F, qn_m1F2, qn_m1lt, qn_m1lt2, qn_m1le, qn_m1le2, qn_and1, qn_and3, qn_and7, qn_and15, qn_and31, qn_and255, qn_and2047, qn_shl, qn_shr, qn_or, qn_div, qn_modlt, Nat.reduceMod, Nat.reduceAdd, Nat.reduceMul, Nat.reducePow, Nat.reduceDiv, Nat.reduceSub, ↓reduceIte, qn_us, qn_un, not_true_eq_false, not_false_eq_true, true_and, and_true, qn_nn, qn_addm, qn_ngT, qn_ngF, qn_ngE, qn_ngE2, qn_ngL, qn_ngM, Nat.add_sub_cancel, qL, qS, qM, qV, qQ, qZ0, qZ1, qE_l, qE_r, qW_some, if_pos e]
  · simp (disch := first | omega | assumption) only [f_X10_sameHalf, qn_lit, qn_ofNat, qn_neg1, qn_neg2, nI_add, pk_mul, qn_sub, qn_ltT, qn_ltF, qn_leT, qn_leF, qn_eqT, qn_eqF, qn_m1T, qn_m1F, qn_m1F2, qn_m1lt, qn_m1lt2, qn_m1le, qn_m1le2, qn_and1, qn_and3, qn_and7, qn_and15, qn_and31, qn_and255, qn_and2047, qn_shl, qn_shr, qn_or, qn_div, qn_modlt, Nat.reduceMod, Nat.reduceAdd, Nat.reduceMul, Nat.reducePow, Nat.reduceDiv, Nat.reduceSub, ↓reduceIte, qn_us, qn_un, not_true_eq_false, not_false_eq_true, true_and, and_true, qn_nn, qn_addm, qn_ngT, qn_ngF, qn_ngE, qn_ngE2, qn_ngL, qn_ngM, Nat.add_sub_cancel, qL, qS, qM, qV, qQ, qZ0, qZ1, qE_l, qE_r, qW_some, if_neg e]
theorem q_halvesBy {n k m : Nat} {W C V U : Nat → Nat} {wi ch hu fa : Nat → Int32} (hx : qXw n W C V U wi ch hu fa) (hk : k < 3) (hm : m < 2 ^ n) : qW (f_X10_halvesBy (nI n) (8, ch) (8, hu) (8, wi) (nI k) (nI m)) (fun e => (e = nI 1 ∧ qhv n W C V k m) ∨ (e = nI 0 ∧ ¬ qhv n W C V k m)) := by
  have h := hx.1
  have hn := h.1
  have hp := q_2n hn
  have bc := q_bitCount (m := m) (by omega)
  rw [← qpc_8 hn hm] at bc
  have pl := qpc_le m n
  by_cases e : 2 * qpc m n = n
  · have key : ∀ s y, s < 2 → y < 2 → (∀ i, i < n → (qh1 W C V k m i ↔ ((if qbt m i = qbt m (W i) then 1 else 0) = y ∧ ¬ (if qbt m i = qbt m (if s = 1 then C i else C (V i)) then 1 else 0) = y))) → qW (f_X10_halvesBy_j36 (nI n) (8, ch) (8, hu) (8, wi) (nI m) (nI s) (nI y)) (fun e => (e = nI 1 ∧ ∀ i, i < n → qh1 W C V k m i) ∨ (e = nI 0 ∧ ¬ ∀ i, i < n → qh1 W C V k m i)) := by
      intro s y hs hy hq
      have k2 : qW (f_X10_halvesBy_l41 (nI n) (8, ch) (8, hu) (8, wi) (nI m) (nI s) (nI y) (nI 0)) (fun e => (e = Sum.inr () ∧ ∀ i, i < n → qh1 W C V k m i) ∨ (e = Sum.inl () ∧ ¬ ∀ i, i < n → qh1 W C V k m i)) := by
        unfold f_X10_halvesBy_l41
        refine qfor 0 n (fun i z => z = nI i ∧ ∀ j, j < i → qh1 W C V k m j) ⟨rfl, by simp⟩ (by omega) (by omega) ?_ ?_
        · rintro i z - hi ⟨rfl, hI⟩
          have b1 := h.2.1.1 i hi
          have b2 := h.2.2.1.1 i hi
          have b3 := h.2.2.1.1 _ (h.2.2.2.1 i hi).1
          have b4 : (if s = 1 then C i else C (V i)) < n := by split <;> assumption
          have s1 := q_sameHalf (m := m) (a := i) (b := W i) (by omega) (by omega) (by omega)
          have s2 := q_sameHalf (m := m) (a := i) (b := if s = 1 then C i else C (V i)) (by omega) (by omega) (by omega)
          have hqi := hq i hi
          generalize hA : (if qbt m i = qbt m (W i) then 1 else 0) = A at s1 hqi
          generalize hB : (if qbt m i = qbt m (if s = 1 then C i else C (V i)) then 1 else 0) = B at s2 hqi
          have hA2 : A < 2 := by rw [← hA]; exact q_ite2
          have hB2 : B < 2 := by rw [← hB]; exact q_ite2
          by_cases c1 : A = y
          · by_cases c2 : B = y
            · simp (disch := first | omega | assumption) only [f_X10_halvesBy_b41, q_entry, qR_0 hx.2.1, q_childOfX hx hi hs, s1, s2, qn_lit, qn_ofNat, qn_neg1, qn_neg2, nI_add, pk_mul, qn_sub, qn_ltT, qn_ltF, qn_leT, qn_leF, qn_eqT, qn_eqF, qn_m1T, qn_m1F, qn_m1F2, qn_m1lt, qn_m1lt2, qn_m1le, qn_m1le2, qn_and1, qn_and3, qn_and7, qn_and15, qn_and31, qn_and255, qn_and2047, qn_shl, qn_shr, qn_or, qn_div, qn_modlt, Nat.reduceMod, Nat.reduceAdd, Nat.reduceMul, Nat.reducePow, Nat.reduceDiv, Nat.reduceSub, ↓reduceIte, qn_us, qn_un, not_true_eq_false, not_false_eq_true, true_and, and_true, qn_nn, qn_addm, qn_ngT, qn_ngF, qn_ngE, qn_ngE2, qn_ngL, qn_ngM, Nat.add_sub_cancel, qL, qS, qM, qV, qQ, qZ0, qZ1, qE_l, qE_r, qW_some]
              exact Or.inr (fun z => (hqi.mp (z i hi)).2 c2)
            · simp (disch := first | omega | assumption) only [f_X10_halvesBy_b41, q_entry, qR_0 hx.2.1, q_childOfX hx hi hs, s1, s2, qn_lit, qn_ofNat, qn_neg1, qn_neg2, nI_add, pk_mul, qn_sub, qn_ltT, qn_ltF, qn_leT, qn_leF, qn_eqT, qn_eqF, qn_m1T, qn_m1F, qn_m1F2, qn_m1lt, qn_m1lt2, qn_m1le, qn_m1le2, qn_and1, qn_and3, qn_and7, qn_and15, qn_and31, qn_and255, qn_and2047, qn_shl, qn_shr, qn_or, qn_div, qn_modlt, Nat.reduceMod, Nat.reduceAdd, Nat.reduceMul, Nat.reducePow, Nat.reduceDiv, Nat.reduceSub, ↓reduceIte, qn_us, qn_un, not_true_eq_false, not_false_eq_true, true_and, and_true, qn_nn, qn_addm, qn_ngT, qn_ngF, qn_ngE, qn_ngE2, qn_ngL, qn_ngM, Nat.add_sub_cancel, qL, qS, qM, qV, qQ, qZ0, qZ1, qE_l, qE_r, qW_some]
              intro j hj
              by_cases q : j = i
              · rw [q]; exact hqi.mpr ⟨c1, c2⟩
              · exact hI j (by omega)
          · simp (disch := first | omega | assumption) only [f_X10_halvesBy_b41, q_entry, qR_0 hx.2.1, q_childOfX hx hi hs, s1, s2, qn_lit, qn_ofNat, qn_neg1, qn_neg2, nI_add, pk_mul, qn_sub, qn_ltT, qn_ltF, qn_leT, qn_leF, qn_eqT, qn_eqF, qn_m1T, qn_m1F, qn_m1F2, qn_m1lt, qn_m1lt2, qn_m1le, qn_m1le2, qn_and1, qn_and3, qn_and7, qn_and15, qn_and31, qn_and255, qn_and2047, qn_shl, qn_shr, qn_or, qn_div, qn_modlt, Nat.reduceMod, Nat.reduceAdd, Nat.reduceMul, Nat.reducePow, Nat.reduceDiv, Nat.reduceSub, ↓reduceIte, qn_us, qn_un, not_true_eq_false, not_false_eq_true, true_and, and_true, qn_nn, qn_addm, qn_ngT, qn_ngF, qn_ngE, qn_ngE2, qn_ngL, qn_ngM, Nat.add_sub_cancel, qL, qS, qM, qV, qQ, qZ0, qZ1, qE_l, qE_r, qW_some]
            exact Or.inr (fun z => c1 (hqi.mp (z i hi)).1)
        · rintro z ⟨rfl, hI⟩
          simp (disch := first | omega | assumption) only [f_X10_halvesBy_b41, qn_lit, qn_ofNat, qn_neg1, qn_neg2, nI_add, pk_mul, qn_sub, qn_ltT, qn_ltF, qn_leT, qn_leF, qn_eqT, qn_eqF, qn_m1T, qn_m1F, qn_m1F2, qn_m1lt, qn_m1lt2, qn_m1le, qn_m1le2, qn_and1, qn_and3, qn_and7, qn_and15, qn_and31, qn_and255, qn_and2047, qn_shl, qn_shr, qn_or, qn_div, qn_modlt, Nat.reduceMod, Nat.reduceAdd, Nat.reduceMul, Nat.reducePow, Nat.reduceDiv, Nat.reduceSub, ↓reduceIte, qn_us, qn_un, not_true_eq_false, not_false_eq_true, true_and, and_true, qn_nn, qn_addm, qn_ngT, qn_ngF, qn_ngE, qn_ngE2, qn_ngL, qn_ngM, Nat.add_sub_cancel, qL, qS, qM, qV, qQ, qZ0, qZ1, qE_l, qE_r, qW_some]
          exact Or.inl hI
      obtain ⟨e, g1, g2⟩ := k2
      rcases g2 with ⟨rfl, g2⟩ | ⟨rfl, g2⟩
      · exact ⟨nI 1, by simp (disch := first | omega | assumption) only [f_X10_halvesBy_j36, g1, qn_lit, qn_ofNat, qn_neg1, qn_neg2, nI_add, pk_mul, qn_sub, qn_ltT, qn_ltF, qn_leT, qn_leF, qn_eqT, qn_eqF, qn_m1T, qn_m1F, qn_m1F2, qn_m1lt, qn_m1lt2, qn_m1le, qn_m1le2, qn_and1, qn_and3, qn_and7, qn_and15, qn_and31, qn_and255, qn_and2047, qn_shl, qn_shr, qn_or, qn_div, qn_modlt, Nat.reduceMod, Nat.reduceAdd, Nat.reduceMul, Nat.reducePow, Nat.reduceDiv, Nat.reduceSub, ↓reduceIte, qn_us, qn_un, not_true_eq_false, not_false_eq_true, true_and, and_true, qn_nn, qn_addm, qn_ngT, qn_ngF, qn_ngE, qn_ngE2, qn_ngL, qn_ngM, Nat.add_sub_cancel, qL, qS, qM, qV, qQ, qZ0, qZ1, qE_l, qE_r, qW_some], Or.inl ⟨rfl, g2⟩⟩
      · exact ⟨nI 0, by simp (disch := first | omega | assumption) only [f_X10_halvesBy_j36, g1, qn_lit, qn_ofNat, qn_neg1, qn_neg2, nI_add, pk_mul, qn_sub, qn_ltT, qn_ltF, qn_leT, qn_leF, qn_eqT, qn_eqF, qn_m1T, qn_m1F, qn_m1F2, qn_m1lt, qn_m1lt2, qn_m1le, qn_m1le2, qn_and1, qn_and3, qn_and7, qn_and15, qn_and31, qn_and255, qn_and2047, qn_shl, qn_shr, qn_or, qn_div, qn_modlt, Nat.reduceMod, Nat.reduceAdd, Nat.reduceMul, Nat.reducePow, Nat.reduceDiv, Nat.reduceSub, ↓reduceIte, qn_us, qn_un, not_true_eq_false, not_false_eq_true, true_and, and_true, qn_nn, qn_addm, qn_ngT, qn_ngF, qn_ngE, qn_ngE2, qn_ngL, qn_ngM, Nat.add_sub_cancel, qL, qS, qM, qV, qQ, qZ0, qZ1, qE_l, qE_r, qW_some], Or.inr ⟨rfl, g2⟩⟩
    have fin : ∀ {s y : Nat}, f_X10_halvesBy (nI n) (8, ch) (8, hu) (8, wi) (nI k) (nI m) = f_X10_halvesBy_j36 (nI n) (8, ch) (8, hu) (8, wi) (nI m) (nI s) (nI y) → s < 2 → y < 2 → (∀ i, i < n → (qh1 W C V k m i ↔ ((if qbt m i = qbt m (W i) then 1 else 0) = y ∧ ¬ (if qbt m i = qbt m (if s = 1 then C i else C (V i)) then 1 else 0) = y))) → qW (f_X10_halvesBy (nI n) (8, ch) (8, hu) (8, wi) (nI k) (nI m)) (fun e => (e = nI 1 ∧ qhv n W C V k m) ∨ (e = nI 0 ∧ ¬ qhv n W C V k m)) := by
      intro s y he hs hy hq
      rw [he]
      refine qW_mono (key s y hs hy hq) (fun a ha => ?_)
      rcases ha with ⟨rfl, g2⟩ | ⟨rfl, g2⟩
      · exact Or.inl ⟨rfl, e, g2⟩
      · exact Or.inr ⟨rfl, fun z => g2 z.2⟩
    have hk2 : k = 0 ∨ k = 1 ∨ k = 2 := by omega
    rcases hk2 with rfl | rfl | rfl
    · refine fin (s := 1) (y := 0) ?_ (by decide) (by decide) (fun i hi => ?_)
      · simp (disch := first | omega | assumption) only [f_X10_halvesBy, f_X10_halvesBy_j25, bc, qn_lit, qn_ofNat, qn_neg1, qn_neg2, nI_add, pk_mul, qn_sub, qn_ltT, qn_ltF, qn_leT, qn_leF, qn_eqT, qn_eqF, qn_m1T, qn_m1F, qn_m1F2, qn_m1lt, qn_m1lt2, qn_m1le, qn_m1le2, qn_and1, qn_and3, qn_and7, qn_and15, qn_and31, qn_and255, qn_and2047, qn_shl, qn_shr, qn_or, qn_div, qn_modlt, Nat.reduceMod, Nat.reduceAdd, Nat.reduceMul, Nat.reducePow, Nat.reduceDiv, Nat.reduceSub, ↓reduceIte, qn_us, qn_un, not_true_eq_false, not_false_eq_true, true_and, and_true, qn_nn, qn_addm, qn_ngT, qn_ngF, qn_ngE, qn_ngE2, qn_ngL, qn_ngM, Nat.add_sub_cancel, qL, qS, qM, qV, qQ, qZ0, qZ1, qE_l, qE_r, qW_some]
      · unfold qh1
        simp only [if_neg (show ¬ (0 : Nat) = 2 by decide), if_neg (show ¬ (0 : Nat) = 1 by decide), if_pos (show (1 : Nat) = 1 from rfl)]
        by_cases p1 : qbt m i = qbt m (W i) <;> by_cases p2 : qbt m i = qbt m (C i) <;> simp [p1, p2, eq_comm] <;> omega
    · refine fin (s := 0) (y := 0) ?_ (by decide) (by decide) (fun i hi => ?_)
      · simp (disch := first | omega | assumption) only [f_X10_halvesBy, f_X10_halvesBy_j25, bc, qn_lit, qn_ofNat, qn_neg1, qn_neg2, nI_add, pk_mul, qn_sub, qn_ltT, qn_ltF, qn_leT, qn_leF, qn_eqT, qn_eqF, qn_m1T, qn_m1F, qn_m1F2, qn_m1lt, qn_m1lt2, qn_m1le, qn_m1le2, qn_and1, qn_and3, qn_and7, qn_and15, qn_and31, qn_and255, qn_and2047, qn_shl, qn_shr, qn_or, qn_div, qn_modlt, Nat.reduceMod, Nat.reduceAdd, Nat.reduceMul, Nat.reducePow, Nat.reduceDiv, Nat.reduceSub, ↓reduceIte, qn_us, qn_un, not_true_eq_false, not_false_eq_true, true_and, and_true, qn_nn, qn_addm, qn_ngT, qn_ngF, qn_ngE, qn_ngE2, qn_ngL, qn_ngM, Nat.add_sub_cancel, qL, qS, qM, qV, qQ, qZ0, qZ1, qE_l, qE_r, qW_some]
      · unfold qh1
        simp only [if_neg (show ¬ (1 : Nat) = 2 by decide), if_neg (show ¬ (0 : Nat) = 1 by decide), if_pos (show (1 : Nat) = 1 from rfl)]
        by_cases p1 : qbt m i = qbt m (W i) <;> by_cases p2 : qbt m i = qbt m (C (V i)) <;> simp [p1, p2, eq_comm] <;> omega
    · refine fin (s := 1) (y := 1) ?_ (by decide) (by decide) (fun i hi => ?_)
      · simp (disch := first | omega | assumption) only [f_X10_halvesBy, f_X10_halvesBy_j25, bc, qn_lit, qn_ofNat, qn_neg1, qn_neg2, nI_add, pk_mul, qn_sub, qn_ltT, qn_ltF, qn_leT, qn_leF, qn_eqT, qn_eqF, qn_m1T, qn_m1F, qn_m1F2, qn_m1lt, qn_m1lt2, qn_m1le, qn_m1le2, qn_and1, qn_and3, qn_and7, qn_and15, qn_and31, qn_and255, qn_and2047, qn_shl, qn_shr, qn_or, qn_div, qn_modlt, Nat.reduceMod, Nat.reduceAdd, Nat.reduceMul, Nat.reducePow, Nat.reduceDiv, Nat.reduceSub, ↓reduceIte, qn_us, qn_un, not_true_eq_false, not_false_eq_true, true_and, and_true, qn_nn, qn_addm, qn_ngT, qn_ngF, qn_ngE, qn_ngE2, qn_ngL, qn_ngM, Nat.add_sub_cancel, qL, qS, qM, qV, qQ, qZ0, qZ1, qE_l, qE_r, qW_some]
      · unfold qh1
        simp only [if_pos (show (2 : Nat) = 2 from rfl), if_pos (show (1 : Nat) = 1 from rfl)]
        by_cases p1 : qbt m i = qbt m (W i) <;> by_cases p2 : qbt m i = qbt m (C i) <;> simp [p1, p2, eq_comm] <;> omega
  · refine ⟨nI 0, ?_, Or.inr ⟨rfl, fun z => e z.1⟩⟩
    simp (disch := first | omega | assumption) only [f_X10_halvesBy, bc, qn_lit, qn_ofNat, qn_neg1, qn_neg2, nI_add, pk_mul, qn_sub, qn_ltT, qn_ltF, qn_leT, qn_leF, qn_eqT, qn_eqF, qn_m1T, qn_m1F, qn_m1F2, qn_m1lt, qn_m1lt2, qn_m1le, qn_m1le2, qn_and1, qn_and3, qn_and7, qn_and15, qn_and31, qn_and255, qn_and2047, qn_shl, qn_shr, qn_or, qn_div, qn_modlt, Nat.reduceMod, Nat.reduceAdd, Nat.reduceMul, Nat.reducePow, Nat.reduceDiv, Nat.reduceSub, ↓reduceIte, qn_us, qn_un, not_true_eq_false, not_false_eq_true, true_and, and_true, qn_nn, qn_addm, qn_ngT, qn_ngF, qn_ngE, qn_ngE2, qn_ngL, qn_ngM, Nat.add_sub_cancel, qL, qS, qM, qV, qQ, qZ0, qZ1, qE_l, qE_r, qW_some]
theorem q_isHalf {n k m : Nat} {W C V U : Nat → Nat} {wi ch hu fa : Nat → Int32} (hx : qXw n W C V U wi ch hu fa) (hk : k < 3) (hm : m < 2 ^ n) : qW (f_X12_isHalf (nI n) (8, ch) (8, wi) (8, hu) (nI k) (nI m)) (fun e => (e = nI 1 ∧ qhv n W C V k m ∧ m % 2 = 1) ∨ (e = nI 0 ∧ ¬ (qhv n W C V k m ∧ m % 2 = 1))) := by
  have h := hx.1
  have hn := h.1
  have hp := q_2n hn
  have pl := qpc_le m n
  have cnt : qW (f_X12_isHalf_l5 (nI n) (nI k) (nI m) (nI 0) (nI 0)) (fun e => e = nI (qpc m n)) := by
    unfold f_X12_isHalf_l5
    refine qfor 0 n (fun i z => z = (nI (qpc m i), nI i)) rfl (by omega) (by omega) ?_ ?_
    · rintro i z - hi rfl
      simp (disch := first | omega | assumption) only [f_X12_isHalf_b5, qn_lit, qn_ofNat, qn_neg1, qn_neg2, nI_add, pk_mul, qn_sub, qn_ltT, qn_ltF, qn_leT, qn_leF, qn_eqT, qn_eqF, qn_m1T, qn_m1F, qn_m1F2, qn_m1lt, qn_m1lt2, qn_m1le, qn_m1le2, qn_and1, qn_and3, qn_and7, qn_and15, qn_and31, qn_and255, qn_and2047, qn_shl, qn_shr, qn_or, qn_div, qn_modlt, Nat.reduceMod, Nat.reduceAdd, Nat.reduceMul, Nat.reducePow, Nat.reduceDiv, Nat.reduceSub, ↓reduceIte, qn_us, qn_un, not_true_eq_false, not_false_eq_true, true_and, and_true, qn_nn, qn_addm, qn_ngT, qn_ngF, qn_ngE, qn_ngE2, qn_ngL, qn_ngM, Nat.add_sub_cancel, qL, qS, qM, qV, qQ, qZ0, qZ1, qE_l, qE_r, qW_some, qpc]
    · rintro z rfl
      simp (disch := first | omega | assumption) only [f_X12_isHalf_b5, qn_lit, qn_ofNat, qn_neg1, qn_neg2, nI_add, pk_mul, qn_sub, qn_ltT, qn_ltF, qn_leT, qn_leF, qn_eqT, qn_eqF, qn_m1T, qn_m1F, qn_m1F2, qn_m1lt, qn_m1lt2, qn_m1le, qn_m1le2, qn_and1, qn_and3, qn_and7, qn_and15, qn_and31, qn_and255, qn_and2047, qn_shl, qn_shr, qn_or, qn_div, qn_modlt, Nat.reduceMod, Nat.reduceAdd, Nat.reduceMul, Nat.reducePow, Nat.reduceDiv, Nat.reduceSub, ↓reduceIte, qn_us, qn_un, not_true_eq_false, not_false_eq_true, true_and, and_true, qn_nn, qn_addm, qn_ngT, qn_ngF, qn_ngE, qn_ngE2, qn_ngL, qn_ngM, Nat.add_sub_cancel, qL, qS, qM, qV, qQ, qZ0, qZ1, qE_l, qE_r, qW_some]
  obtain ⟨e, c1, rfl⟩ := cnt
  by_cases e : 2 * qpc m n = n
  · by_cases o : m % 2 = 1
    · have key : qW (f_X12_isHalf_l50 (nI n) (8, ch) (8, wi) (8, hu) (nI k) (nI m) (nI 0)) (fun e => (e = Sum.inr (Sum.inr ()) ∧ ∀ i, i < n → qh1 W C V k m i) ∨ ((e = Sum.inl () ∨ e = Sum.inr (Sum.inl ())) ∧ ¬ ∀ i, i < n → qh1 W C V k m i)) := by
        unfold f_X12_isHalf_l50
        refine qfor 0 n (fun i z => z = nI i ∧ ∀ j, j < i → qh1 W C V k m j) ⟨rfl, by simp⟩ (by omega) (by omega) ?_ ?_
        · rintro i z - hi ⟨rfl, hI⟩
          have b1 := h.2.1.1 i hi
          have b2 := h.2.2.1.1 i hi
          have b3 := h.2.2.1.1 _ (h.2.2.2.1 i hi).1
          have d1 := q_childOfR hx hi (s := 1) (by decide)
          have d0 := q_childOfR hx hi (s := 0) (by decide)
          rw [if_pos rfl] at d1
          rw [if_neg (by decide)] at d0
          have stp : qh1 W C V k m i → ∀ j, j < i + 1 → qh1 W C V k m j := fun q j hj => by
            by_cases e3 : j = i
            · rw [e3]; exact q
            · exact hI j (by omega)
          have hk2 : k = 0 ∨ k = 1 ∨ k = 2 := by omega
          rcases hk2 with rfl | rfl | rfl
          · by_cases p1 : m / 2 ^ W i % 2 = m / 2 ^ i % 2
            · simp (disch := first | omega | assumption) only [f_X12_isHalf_b50, f_X12_isHalf_j94, qR_0 hx.2.1, d1, qn_lit, qn_ofNat, qn_neg1, qn_neg2, nI_add, pk_mul, qn_sub, qn_ltT, qn_ltF, qn_leT, qn_leF, qn_eqT, qn_eqF, qn_m1T, qn_m1F, qn_m1F2, qn_m1lt, qn_m1lt2, qn_m1le, qn_m1le2, qn_and1, qn_and3, qn_and7, qn_and15, qn_and31, qn_and255, qn_and2047, qn_shl, qn_shr, qn_or, qn_div, qn_modlt, Nat.reduceMod, Nat.reduceAdd, Nat.reduceMul, Nat.reducePow, Nat.reduceDiv, Nat.reduceSub, ↓reduceIte, qn_us, qn_un, not_true_eq_false, not_false_eq_true, true_and, and_true, qn_nn, qn_addm, qn_ngT, qn_ngF, qn_ngE, qn_ngE2, qn_ngL, qn_ngM, Nat.add_sub_cancel, qL, qS, qM, qV, qQ, qZ0, qZ1, qE_l, qE_r, qW_some]
              exact Or.inr ⟨Or.inr trivial, fun z => (z i hi).1 p1⟩
            · by_cases p2 : m / 2 ^ C i % 2 = m / 2 ^ i % 2
              · simp (disch := first | omega | assumption) only [f_X12_isHalf_b50, f_X12_isHalf_j94, f_X12_isHalf_j140, qR_0 hx.2.1, d1, qn_lit, qn_ofNat, qn_neg1, qn_neg2, nI_add, pk_mul, qn_sub, qn_ltT, qn_ltF, qn_leT, qn_leF, qn_eqT, qn_eqF, qn_m1T, qn_m1F, qn_m1F2, qn_m1lt, qn_m1lt2, qn_m1le, qn_m1le2, qn_and1, qn_and3, qn_and7, qn_and15, qn_and31, qn_and255, qn_and2047, qn_shl, qn_shr, qn_or, qn_div, qn_modlt, Nat.reduceMod, Nat.reduceAdd, Nat.reduceMul, Nat.reducePow, Nat.reduceDiv, Nat.reduceSub, ↓reduceIte, qn_us, qn_un, not_true_eq_false, not_false_eq_true, true_and, and_true, qn_nn, qn_addm, qn_ngT, qn_ngF, qn_ngE, qn_ngE2, qn_ngL, qn_ngM, Nat.add_sub_cancel, qL, qS, qM, qV, qQ, qZ0, qZ1, qE_l, qE_r, qW_some]
                exact stp ⟨p1, p2⟩
              · simp (disch := first | omega | assumption) only [f_X12_isHalf_b50, f_X12_isHalf_j94, f_X12_isHalf_j140, qR_0 hx.2.1, d1, qn_lit, qn_ofNat, qn_neg1, qn_neg2, nI_add, pk_mul, qn_sub, qn_ltT, qn_ltF, qn_leT, qn_leF, qn_eqT, qn_eqF, qn_m1T, qn_m1F, qn_m1F2, qn_m1lt, qn_m1lt2, qn_m1le, qn_m1le2, qn_and1, qn_and3, qn_and7, qn_and15, qn_and31, qn_and255, qn_and2047, qn_shl, qn_shr, qn_or, qn_div, qn_modlt, Nat.reduceMod, Nat.reduceAdd, Nat.reduceMul, Nat.reducePow, Nat.reduceDiv, Nat.reduceSub, ↓reduceIte, qn_us, qn_un, not_true_eq_false, not_false_eq_true, true_and, and_true, qn_nn, qn_addm, qn_ngT, qn_ngF, qn_ngE, qn_ngE2, qn_ngL, qn_ngM, Nat.add_sub_cancel, qL, qS, qM, qV, qQ, qZ0, qZ1, qE_l, qE_r, qW_some]
                exact Or.inr ⟨Or.inr trivial, fun z => p2 (z i hi).2⟩
          · by_cases p1 : m / 2 ^ W i % 2 = m / 2 ^ i % 2
            · simp (disch := first | omega | assumption) only [f_X12_isHalf_b50, f_X12_isHalf_j94, qR_0 hx.2.1, d0, qn_lit, qn_ofNat, qn_neg1, qn_neg2, nI_add, pk_mul, qn_sub, qn_ltT, qn_ltF, qn_leT, qn_leF, qn_eqT, qn_eqF, qn_m1T, qn_m1F, qn_m1F2, qn_m1lt, qn_m1lt2, qn_m1le, qn_m1le2, qn_and1, qn_and3, qn_and7, qn_and15, qn_and31, qn_and255, qn_and2047, qn_shl, qn_shr, qn_or, qn_div, qn_modlt, Nat.reduceMod, Nat.reduceAdd, Nat.reduceMul, Nat.reducePow, Nat.reduceDiv, Nat.reduceSub, ↓reduceIte, qn_us, qn_un, not_true_eq_false, not_false_eq_true, true_and, and_true, qn_nn, qn_addm, qn_ngT, qn_ngF, qn_ngE, qn_ngE2, qn_ngL, qn_ngM, Nat.add_sub_cancel, qL, qS, qM, qV, qQ, qZ0, qZ1, qE_l, qE_r, qW_some]
              exact Or.inr ⟨Or.inr trivial, fun z => (z i hi).1 p1⟩
            · by_cases p2 : m / 2 ^ C (V i) % 2 = m / 2 ^ i % 2
              · simp (disch := first | omega | assumption) only [f_X12_isHalf_b50, f_X12_isHalf_j94, f_X12_isHalf_j140, qR_0 hx.2.1, d0, qn_lit, qn_ofNat, qn_neg1, qn_neg2, nI_add, pk_mul, qn_sub, qn_ltT, qn_ltF, qn_leT, qn_leF, qn_eqT, qn_eqF, qn_m1T, qn_m1F, qn_m1F2, qn_m1lt, qn_m1lt2, qn_m1le, qn_m1le2, qn_and1, qn_and3, qn_and7, qn_and15, qn_and31, qn_and255, qn_and2047, qn_shl, qn_shr, qn_or, qn_div, qn_modlt, Nat.reduceMod, Nat.reduceAdd, Nat.reduceMul, Nat.reducePow, Nat.reduceDiv, Nat.reduceSub, ↓reduceIte, qn_us, qn_un, not_true_eq_false, not_false_eq_true, true_and, and_true, qn_nn, qn_addm, qn_ngT, qn_ngF, qn_ngE, qn_ngE2, qn_ngL, qn_ngM, Nat.add_sub_cancel, qL, qS, qM, qV, qQ, qZ0, qZ1, qE_l, qE_r, qW_some]
                exact stp ⟨p1, p2⟩
              · simp (disch := first | omega | assumption) only [f_X12_isHalf_b50, f_X12_isHalf_j94, f_X12_isHalf_j140, qR_0 hx.2.1, d0, qn_lit, qn_ofNat, qn_neg1, qn_neg2, nI_add, pk_mul, qn_sub, qn_ltT, qn_ltF, qn_leT, qn_leF, qn_eqT, qn_eqF, qn_m1T, qn_m1F, qn_m1F2, qn_m1lt, qn_m1lt2, qn_m1le, qn_m1le2, qn_and1, qn_and3, qn_and7, qn_and15, qn_and31, qn_and255, qn_and2047, qn_shl, qn_shr, qn_or, qn_div, qn_modlt, Nat.reduceMod, Nat.reduceAdd, Nat.reduceMul, Nat.reducePow, Nat.reduceDiv, Nat.reduceSub, ↓reduceIte, qn_us, qn_un, not_true_eq_false, not_false_eq_true, true_and, and_true, qn_nn, qn_addm, qn_ngT, qn_ngF, qn_ngE, qn_ngE2, qn_ngL, qn_ngM, Nat.add_sub_cancel, qL, qS, qM, qV, qQ, qZ0, qZ1, qE_l, qE_r, qW_some]
                exact Or.inr ⟨Or.inr trivial, fun z => p2 (z i hi).2⟩
          · by_cases p1 : m / 2 ^ W i % 2 = m / 2 ^ i % 2
            · by_cases p2 : m / 2 ^ C i % 2 = m / 2 ^ i % 2
              · simp (disch := first | omega | assumption) only [f_X12_isHalf_b50, f_X12_isHalf_j94, f_X12_isHalf_j140, qR_0 hx.2.1, d1, qn_lit, qn_ofNat, qn_neg1, qn_neg2, nI_add, pk_mul, qn_sub, qn_ltT, qn_ltF, qn_leT, qn_leF, qn_eqT, qn_eqF, qn_m1T, qn_m1F, qn_m1F2, qn_m1lt, qn_m1lt2, qn_m1le, qn_m1le2, qn_and1, qn_and3, qn_and7, qn_and15, qn_and31, qn_and255, qn_and2047, qn_shl, qn_shr, qn_or, qn_div, qn_modlt, Nat.reduceMod, Nat.reduceAdd, Nat.reduceMul, Nat.reducePow, Nat.reduceDiv, Nat.reduceSub, ↓reduceIte, qn_us, qn_un, not_true_eq_false, not_false_eq_true, true_and, and_true, qn_nn, qn_addm, qn_ngT, qn_ngF, qn_ngE, qn_ngE2, qn_ngL, qn_ngM, Nat.add_sub_cancel, qL, qS, qM, qV, qQ, qZ0, qZ1, qE_l, qE_r, qW_some]
                exact Or.inr ⟨Or.inl trivial, fun z => (z i hi).2 p2⟩
              · simp (disch := first | omega | assumption) only [f_X12_isHalf_b50, f_X12_isHalf_j94, f_X12_isHalf_j140, qR_0 hx.2.1, d1, qn_lit, qn_ofNat, qn_neg1, qn_neg2, nI_add, pk_mul, qn_sub, qn_ltT, qn_ltF, qn_leT, qn_leF, qn_eqT, qn_eqF, qn_m1T, qn_m1F, qn_m1F2, qn_m1lt, qn_m1lt2, qn_m1le, qn_m1le2, qn_and1, qn_and3, qn_and7, qn_and15, qn_and31, qn_and255, qn_and2047, qn_shl, qn_shr, qn_or, qn_div, qn_modlt, Nat.reduceMod, Nat.reduceAdd, Nat.reduceMul, Nat.reducePow, Nat.reduceDiv, Nat.reduceSub, ↓reduceIte, qn_us, qn_un, not_true_eq_false, not_false_eq_true, true_and, and_true, qn_nn, qn_addm, qn_ngT, qn_ngF, qn_ngE, qn_ngE2, qn_ngL, qn_ngM, Nat.add_sub_cancel, qL, qS, qM, qV, qQ, qZ0, qZ1, qE_l, qE_r, qW_some]
                exact stp ⟨p1, p2⟩
            · simp (disch := first | omega | assumption) only [f_X12_isHalf_b50, f_X12_isHalf_j94, qR_0 hx.2.1, d1, qn_lit, qn_ofNat, qn_neg1, qn_neg2, nI_add, pk_mul, qn_sub, qn_ltT, qn_ltF, qn_leT, qn_leF, qn_eqT, qn_eqF, qn_m1T, qn_m1F, qn_m1F2, qn_m1lt, qn_m1lt2, qn_m1le, qn_m1le2, qn_and1, qn_and3, qn_and7, qn_and15, qn_and31, qn_and255, qn_and2047, qn_shl, qn_shr, qn_or, qn_div, qn_modlt, Nat.reduceMod, Nat.reduceAdd, Nat.reduceMul, Nat.reducePow, Nat.reduceDiv, Nat.reduceSub, ↓reduceIte, qn_us, qn_un, not_true_eq_false, not_false_eq_true, true_and, and_true, qn_nn, qn_addm, qn_ngT, qn_ngF, qn_ngE, qn_ngE2, qn_ngL, qn_ngM, Nat.add_sub_cancel, qL, qS, qM, qV, qQ, qZ0, qZ1, qE_l, qE_r, qW_some]
              exact Or.inr ⟨Or.inr trivial, fun z => p1 (z i hi).1⟩
        · rintro z ⟨rfl, hI⟩
          simp (disch := first | omega | assumption) only [f_X12_isHalf_b50, qn_lit, qn_ofNat, qn_neg1, qn_neg2, nI_add, pk_mul, qn_sub, qn_ltT, qn_ltF, qn_leT, qn_leF, qn_eqT, qn_eqF, qn_m1T, qn_m1F, qn_m1F2, qn_m1lt, qn_m1lt2, qn_m1le, qn_m1le2, qn_and1, qn_and3, qn_and7, qn_and15, qn_and31, qn_and255, qn_and2047, qn_shl, qn_shr, qn_or, qn_div, qn_modlt, Nat.reduceMod, Nat.reduceAdd, Nat.reduceMul, Nat.reducePow, Nat.reduceDiv, Nat.reduceSub, ↓reduceIte, qn_us, qn_un, not_true_eq_false, not_false_eq_true, true_and, and_true, qn_nn, qn_addm, qn_ngT, qn_ngF, qn_ngE, qn_ngE2, qn_ngL, qn_ngM, Nat.add_sub_cancel, qL, qS, qM, qV, qQ, qZ0, qZ1, qE_l, qE_r, qW_some]
          exact Or.inl hI
      obtain ⟨r, g1, g2⟩ := key
      rcases g2 with ⟨rfl, g2⟩ | ⟨rfl | rfl, g2⟩
      · exact ⟨nI 1, by simp (disch := first | omega | assumption) only [f_X12_isHalf, c1, g1, qn_lit, qn_ofNat, qn_neg1, qn_neg2, nI_add, pk_mul, qn_sub, qn_ltT, qn_ltF, qn_leT, qn_leF, qn_eqT, qn_eqF, qn_m1T, qn_m1F, qn_m1F2, qn_m1lt, qn_m1lt2, qn_m1le, qn_m1le2, qn_and1, qn_and3, qn_and7, qn_and15, qn_and31, qn_and255, qn_and2047, qn_shl, qn_shr, qn_or, qn_div, qn_modlt, Nat.reduceMod, Nat.reduceAdd, Nat.reduceMul, Nat.reducePow, Nat.reduceDiv, Nat.reduceSub, ↓reduceIte, qn_us, qn_un, not_true_eq_false, not_false_eq_true, true_and, and_true, qn_nn, qn_addm, qn_ngT, qn_ngF, qn_ngE, qn_ngE2, qn_ngL, qn_ngM, Nat.add_sub_cancel, qL, qS, qM, qV, qQ, qZ0, qZ1, qE_l, qE_r, qW_some], Or.inl ⟨rfl, ⟨e, g2⟩, o⟩⟩
      · exact ⟨nI 0, by simp (disch := first | omega | assumption) only [f_X12_isHalf, c1, g1, qn_lit, qn_ofNat, qn_neg1, qn_neg2, nI_add, pk_mul, qn_sub, qn_ltT, qn_ltF, qn_leT, qn_leF, qn_eqT, qn_eqF, qn_m1T, qn_m1F, qn_m1F2, qn_m1lt, qn_m1lt2, qn_m1le, qn_m1le2, qn_and1, qn_and3, qn_and7, qn_and15, qn_and31, qn_and255, qn_and2047, qn_shl, qn_shr, qn_or, qn_div, qn_modlt, Nat.reduceMod, Nat.reduceAdd, Nat.reduceMul, Nat.reducePow, Nat.reduceDiv, Nat.reduceSub, ↓reduceIte, qn_us, qn_un, not_true_eq_false, not_false_eq_true, true_and, and_true, qn_nn, qn_addm, qn_ngT, qn_ngF, qn_ngE, qn_ngE2, qn_ngL, qn_ngM, Nat.add_sub_cancel, qL, qS, qM, qV, qQ, qZ0, qZ1, qE_l, qE_r, qW_some], Or.inr ⟨rfl, fun z => g2 z.1.2⟩⟩
      · exact ⟨nI 0, by simp (disch := first | omega | assumption) only [f_X12_isHalf, c1, g1, qn_lit, qn_ofNat, qn_neg1, qn_neg2, nI_add, pk_mul, qn_sub, qn_ltT, qn_ltF, qn_leT, qn_leF, qn_eqT, qn_eqF, qn_m1T, qn_m1F, qn_m1F2, qn_m1lt, qn_m1lt2, qn_m1le, qn_m1le2, qn_and1, qn_and3, qn_and7, qn_and15, qn_and31, qn_and255, qn_and2047, qn_shl, qn_shr, qn_or, qn_div, qn_modlt, Nat.reduceMod, Nat.reduceAdd, Nat.reduceMul, Nat.reducePow, Nat.reduceDiv, Nat.reduceSub, ↓reduceIte, qn_us, qn_un, not_true_eq_false, not_false_eq_true, true_and, and_true, qn_nn, qn_addm, qn_ngT, qn_ngF, qn_ngE, qn_ngE2, qn_ngL, qn_ngM, Nat.add_sub_cancel, qL, qS, qM, qV, qQ, qZ0, qZ1, qE_l, qE_r, qW_some], Or.inr ⟨rfl, fun z => g2 z.1.2⟩⟩
    · exact ⟨nI 0, by simp (disch := first | omega | assumption) only [f_X12_isHalf, c1, qn_lit, qn_ofNat, qn_neg1, qn_neg2, nI_add, pk_mul, qn_sub, qn_ltT, qn_ltF, qn_leT, qn_leF, qn_eqT, qn_eqF, qn_m1T, qn_m1F, qn_m1F2, qn_m1lt, qn_m1lt2, qn_m1le, qn_m1le2, qn_and1, qn_and3, qn_and7, qn_and15, qn_and31, qn_and255, qn_and2047, qn_shl, qn_shr, qn_or, qn_div, qn_modlt, Nat.reduceMod, Nat.reduceAdd, Nat.reduceMul, Nat.reducePow, Nat.reduceDiv, Nat.reduceSub, ↓reduceIte, qn_us, qn_un, not_true_eq_false, not_false_eq_true, true_and, and_true, qn_nn, qn_addm, qn_ngT, qn_ngF, qn_ngE, qn_ngE2, qn_ngL, qn_ngM, Nat.add_sub_cancel, qL, qS, qM, qV, qQ, qZ0, qZ1, qE_l, qE_r, qW_some], Or.inr ⟨rfl, fun z => o z.2⟩⟩
  · exact ⟨nI 0, by simp (disch := first | omega | assumption) only [f_X12_isHalf, c1, qn_lit, qn_ofNat, qn_neg1, qn_neg2, nI_add, pk_mul, qn_sub, qn_ltT, qn_ltF, qn_leT, qn_leF, qn_eqT, qn_eqF, qn_m1T, qn_m1F, qn_m1F2, qn_m1lt, qn_m1lt2, qn_m1le, qn_m1le2, qn_and1, qn_and3, qn_and7, qn_and15, qn_and31, qn_and255, qn_and2047, qn_shl, qn_shr, qn_or, qn_div, qn_modlt, Nat.reduceMod, Nat.reduceAdd, Nat.reduceMul, Nat.reducePow, Nat.reduceDiv, Nat.reduceSub, ↓reduceIte, qn_us, qn_un, not_true_eq_false, not_false_eq_true, true_and, and_true, qn_nn, qn_addm, qn_ngT, qn_ngF, qn_ngE, qn_ngE2, qn_ngL, qn_ngM, Nat.add_sub_cancel, qL, qS, qM, qV, qQ, qZ0, qZ1, qE_l, qE_r, qW_some], Or.inr ⟨rfl, fun z => e z.1.1⟩⟩
/-- halves and half of both sides: the odd ones below 2 ^ n -/
theorem q_halvings {n k : Nat} {W C V U : Nat → Nat} {wi ch hu fa : Nat → Int32} (hx : qXw n W C V U wi ch hu fa) (hk : k < 3) (h0 : 0 < n) : f_X10_halvings (nI n) (8, ch) (8, hu) (8, wi) (nI k) = some (nI (qct (fun m => qhv n W C V k m ∧ m % 2 = 1) (2 ^ n))) := by
  have hn := hx.1.1
  have hp := q_2n hn
  obtain ⟨N, hN⟩ : ∃ N, 2 ^ n = 2 * N := ⟨2 ^ (n - 1), by rw [← Nat.pow_succ']; congr 1; omega⟩
  have key : qW (f_X10_halvings_l4 (nI n) (8, ch) (8, hu) (8, wi) (nI k) (nI 0) (nI 1)) (fun e => e = nI (qct (fun m => qhv n W C V k m ∧ m % 2 = 1) (2 ^ n))) := by
    unfold f_X10_halvings_l4
    refine qfor 0 N (fun i z => z = (nI (qct (fun m => qhv n W C V k m ∧ m % 2 = 1) (2 * i)), nI (2 * i + 1))) rfl (by omega) (by omega) ?_ ?_
    · rintro i z - hi rfl
      obtain ⟨e, g1, g2⟩ := q_halvesBy hx hk (m := 2 * i + 1) (by omega)
      have c := qct_le (fun m => qhv n W C V k m ∧ m % 2 = 1) (2 * i)
      have c0 : qct (fun m => qhv n W C V k m ∧ m % 2 = 1) (2 * i + 1) = qct (fun m => qhv n W C V k m ∧ m % 2 = 1) (2 * i) := qct_F (fun z => by have := z.2; omega)
      rcases g2 with ⟨rfl, g2⟩ | ⟨rfl, g2⟩
      · have c1 : qct (fun m => qhv n W C V k m ∧ m % 2 = 1) (2 * (i + 1)) = qct (fun m => qhv n W C V k m ∧ m % 2 = 1) (2 * i) + 1 := by
          rw [show 2 * (i + 1) = 2 * i + 1 + 1 by omega, qct_T ⟨g2, by omega⟩, c0]
        simp (disch := first | omega | assumption) only [f_X10_halvings_b4, f_X10_halvings_j26, g1, qn_lit, qn_ofNat, qn_neg1, qn_neg2, nI_add, pk_mul, qn_sub, qn_ltT, qn_ltF, qn_leT, qn_leF, qn_eqT, qn_eqF, qn_m1T, qn_m1F, qn_m1F2, qn_m1lt, qn_m1lt2, qn_m1le, qn_m1le2, qn_and1, qn_and3, qn_and7, qn_and15, qn_and31, qn_and255, qn_and2047, qn_shl, qn_shr, qn_or, qn_div, qn_modlt, Nat.reduceMod, Nat.reduceAdd, Nat.reduceMul, Nat.reducePow, Nat.reduceDiv, Nat.reduceSub, ↓reduceIte, qn_us, qn_un, not_true_eq_false, not_false_eq_true, true_and, and_true, qn_nn, qn_addm, qn_ngT, qn_ngF, qn_ngE, qn_ngE2, qn_ngL, qn_ngM, Nat.add_sub_cancel, qL, qS, qM, qV, qQ, qZ0, qZ1, qE_l, qE_r, qW_some, Nat.mul_one, hN, c1]
        rw [show 2 * i + 1 + 2 = 2 * (i + 1) + 1 by omega]
      · have c1 : qct (fun m => qhv n W C V k m ∧ m % 2 = 1) (2 * (i + 1)) = qct (fun m => qhv n W C V k m ∧ m % 2 = 1) (2 * i) := by
          rw [show 2 * (i + 1) = 2 * i + 1 + 1 by omega, qct_F (fun z => g2 z.1), c0]
        simp (disch := first | omega | assumption) only [f_X10_halvings_b4, f_X10_halvings_j26, g1, qn_lit, qn_ofNat, qn_neg1, qn_neg2, nI_add, pk_mul, qn_sub, qn_ltT, qn_ltF, qn_leT, qn_leF, qn_eqT, qn_eqF, qn_m1T, qn_m1F, qn_m1F2, qn_m1lt, qn_m1lt2, qn_m1le, qn_m1le2, qn_and1, qn_and3, qn_and7, qn_and15, qn_and31, qn_and255, qn_and2047, qn_shl, qn_shr, qn_or, qn_div, qn_modlt, Nat.reduceMod, Nat.reduceAdd, Nat.reduceMul, Nat.reducePow, Nat.reduceDiv, Nat.reduceSub, ↓reduceIte, qn_us, qn_un, not_true_eq_false, not_false_eq_true, true_and, and_true, qn_nn, qn_addm, qn_ngT, qn_ngF, qn_ngE, qn_ngE2, qn_ngL, qn_ngM, Nat.add_sub_cancel, qL, qS, qM, qV, qQ, qZ0, qZ1, qE_l, qE_r, qW_some, Nat.mul_one, hN, c1]
        rw [show 2 * i + 1 + 2 = 2 * (i + 1) + 1 by omega]
    · rintro z rfl
      simp (disch := first | omega | assumption) only [f_X10_halvings_b4, qn_lit, qn_ofNat, qn_neg1, qn_neg2, nI_add, pk_mul, qn_sub, qn_ltT, qn_ltF, qn_leT, qn_leF, qn_eqT, qn_eqF, qn_m1T, qn_m1F, qn_m1F2, qn_m1lt, qn_m1lt2, qn_m1le, qn_m1le2, qn_and1, qn_and3, qn_and7, qn_and15, qn_and31, qn_and255, qn_and2047, qn_shl, qn_shr, qn_or, qn_div, qn_modlt, Nat.reduceMod, Nat.reduceAdd, Nat.reduceMul, Nat.reducePow, Nat.reduceDiv, Nat.reduceSub, ↓reduceIte, qn_us, qn_un, not_true_eq_false, not_false_eq_true, true_and, and_true, qn_nn, qn_addm, qn_ngT, qn_ngF, qn_ngE, qn_ngE2, qn_ngL, qn_ngM, Nat.add_sub_cancel, qL, qS, qM, qV, qQ, qZ0, qZ1, qE_l, qE_r, qW_some, Nat.mul_one, hN]
  obtain ⟨e, g1, rfl⟩ := key
  simp (disch := first | omega | assumption) only [f_X10_halvings, g1, qn_lit, qn_ofNat, qn_neg1, qn_neg2, nI_add, pk_mul, qn_sub, qn_ltT, qn_ltF, qn_leT, qn_leF, qn_eqT, qn_eqF, qn_m1T, qn_m1F, qn_m1F2, qn_m1lt, qn_m1lt2, qn_m1le, qn_m1le2, qn_and1, qn_and3, qn_and7, qn_and15, qn_and31, qn_and255, qn_and2047, qn_shl, qn_shr, qn_or, qn_div, qn_modlt, Nat.reduceMod, Nat.reduceAdd, Nat.reduceMul, Nat.reducePow, Nat.reduceDiv, Nat.reduceSub, ↓reduceIte, qn_us, qn_un, not_true_eq_false, not_false_eq_true, true_and, and_true, qn_nn, qn_addm, qn_ngT, qn_ngF, qn_ngE, qn_ngE2, qn_ngL, qn_ngM, Nat.add_sub_cancel, qL, qS, qM, qV, qQ, qZ0, qZ1, qE_l, qE_r, qW_some]
theorem q_halvesR {R_code : Int32} {R_child : Nat → Int32} {R_childBack : Nat → Int32} {R_weds : Nat → Int32} {R_wedsBack : Nat → Int32} {n k : Nat} {W C V U : Nat → Nat} (hx : qXw n W C V U R_weds R_child R_wedsBack R_childBack) (hk : k < 3) : f_X12_halves_l27 R_code (nI n) (8, R_child) (8, R_childBack) (8, R_weds) (8, R_wedsBack) (nI k) (nI 0) (nI 0) = some (nI (qct (fun m => qhv n W C V k m ∧ m % 2 = 1) (2 ^ n))) := by
  have hn := hx.1.1
  have hp := q_2n hn
  have key : qW (f_X12_halves_l27 R_code (nI n) (8, R_child) (8, R_childBack) (8, R_weds) (8, R_wedsBack) (nI k) (nI 0) (nI 0)) (fun e => e = nI (qct (fun m => qhv n W C V k m ∧ m % 2 = 1) (2 ^ n))) := by
    unfold f_X12_halves_l27
    refine qfor 0 (2 ^ n) (fun i z => z = (nI (qct (fun m => qhv n W C V k m ∧ m % 2 = 1) i), nI i)) rfl (Nat.zero_le _) (by omega) ?_ ?_
    · rintro i z - hi rfl
      obtain ⟨e, g1, g2⟩ := q_isHalf hx hk hi
      have c := qct_le (fun m => qhv n W C V k m ∧ m % 2 = 1) i
      rcases g2 with ⟨rfl, g2⟩ | ⟨rfl, g2⟩
      · have c1 : qct (fun m => qhv n W C V k m ∧ m % 2 = 1) (i + 1) = qct (fun m => qhv n W C V k m ∧ m % 2 = 1) i + 1 := qct_T g2
        simp (disch := first | omega | assumption) only [f_X12_halves_b27, f_X12_halves_j52, g1, qn_lit, qn_ofNat, qn_neg1, qn_neg2, nI_add, pk_mul, qn_sub, qn_ltT, qn_ltF, qn_leT, qn_leF, qn_eqT, qn_eqF, qn_m1T, qn_m1F, qn_m1F2, qn_m1lt, qn_m1lt2, qn_m1le, qn_m1le2, qn_and1, qn_and3, qn_and7, qn_and15, qn_and31, qn_and255, qn_and2047, qn_shl, qn_shr, qn_or, qn_div, qn_modlt, Nat.reduceMod, Nat.reduceAdd, Nat.reduceMul, Nat.reducePow, Nat.reduceDiv, Nat.reduceSub, ↓reduceIte, qn_us, qn_un, not_true_eq_false, not_false_eq_true, true_and, and_true, qn_nn, qn_addm, qn_ngT, qn_ngF, qn_ngE, qn_ngE2, qn_ngL, qn_ngM, Nat.add_sub_cancel, qL, qS, qM, qV, qQ, qZ0, qZ1, qE_l, qE_r, qW_some, Nat.mul_one, c1]
      · have c1 : qct (fun m => qhv n W C V k m ∧ m % 2 = 1) (i + 1) = qct (fun m => qhv n W C V k m ∧ m % 2 = 1) i := qct_F g2
        simp (disch := first | omega | assumption) only [f_X12_halves_b27, f_X12_halves_j52, g1, qn_lit, qn_ofNat, qn_neg1, qn_neg2, nI_add, pk_mul, qn_sub, qn_ltT, qn_ltF, qn_leT, qn_leF, qn_eqT, qn_eqF, qn_m1T, qn_m1F, qn_m1F2, qn_m1lt, qn_m1lt2, qn_m1le, qn_m1le2, qn_and1, qn_and3, qn_and7, qn_and15, qn_and31, qn_and255, qn_and2047, qn_shl, qn_shr, qn_or, qn_div, qn_modlt, Nat.reduceMod, Nat.reduceAdd, Nat.reduceMul, Nat.reducePow, Nat.reduceDiv, Nat.reduceSub, ↓reduceIte, qn_us, qn_un, not_true_eq_false, not_false_eq_true, true_and, and_true, qn_nn, qn_addm, qn_ngT, qn_ngF, qn_ngE, qn_ngE2, qn_ngL, qn_ngM, Nat.add_sub_cancel, qL, qS, qM, qV, qQ, qZ0, qZ1, qE_l, qE_r, qW_some, Nat.mul_one, c1, Nat.add_zero]
    · rintro z rfl
      simp (disch := first | omega | assumption) only [f_X12_halves_b27, qn_lit, qn_ofNat, qn_neg1, qn_neg2, nI_add, pk_mul, qn_sub, qn_ltT, qn_ltF, qn_leT, qn_leF, qn_eqT, qn_eqF, qn_m1T, qn_m1F, qn_m1F2, qn_m1lt, qn_m1lt2, qn_m1le, qn_m1le2, qn_and1, qn_and3, qn_and7, qn_and15, qn_and31, qn_and255, qn_and2047, qn_shl, qn_shr, qn_or, qn_div, qn_modlt, Nat.reduceMod, Nat.reduceAdd, Nat.reduceMul, Nat.reducePow, Nat.reduceDiv, Nat.reduceSub, ↓reduceIte, qn_us, qn_un, not_true_eq_false, not_false_eq_true, true_and, and_true, qn_nn, qn_addm, qn_ngT, qn_ngF, qn_ngE, qn_ngE2, qn_ngL, qn_ngM, Nat.add_sub_cancel, qL, qS, qM, qV, qQ, qZ0, qZ1, qE_l, qE_r, qW_some, Nat.mul_one]
  obtain ⟨e, g1, rfl⟩ := key
  exact g1
theorem q_halving {n k j : Nat} {W C V U : Nat → Nat} {wi ch hu fa : Nat → Int32} (hx : qXw n W C V U wi ch hu fa) (hk : k < 3) (h0 : 0 < n) (hj : j < 2147483648) : qW (f_X10_halving (nI n) (8, ch) (8, hu) (8, wi) (nI k) (nI j)) (fun e => qkt (fun m => qhv n W C V k m ∧ m % 2 = 1) (2 ^ n) j e) := by
  have hn := hx.1.1
  have hp := q_2n hn
  obtain ⟨N, hN⟩ : ∃ N, 2 ^ n = 2 * N := ⟨2 ^ (n - 1), by rw [← Nat.pow_succ']; congr 1; omega⟩
  have key : qW (f_X10_halving_l5 (nI n) (8, ch) (8, hu) (8, wi) (nI k) (nI j) (nI 1)) (fun e => (∃ m, m < 2 ^ n ∧ (qhv n W C V k m ∧ m % 2 = 1) ∧ qct (fun m => qhv n W C V k m ∧ m % 2 = 1) m = j ∧ e = Sum.inl (nI m)) ∨ (e = Sum.inr () ∧ qct (fun m => qhv n W C V k m ∧ m % 2 = 1) (2 ^ n) ≤ j)) := by
    unfold f_X10_halving_l5
    refine qfor 0 N (fun i z => qct (fun m => qhv n W C V k m ∧ m % 2 = 1) (2 * i) ≤ j ∧ z = (nI (j - qct (fun m => qhv n W C V k m ∧ m % 2 = 1) (2 * i)), nI (2 * i + 1))) ⟨Nat.zero_le _, rfl⟩ (by omega) (by omega) ?_ ?_
    · rintro i z - hi ⟨hc, rfl⟩
      obtain ⟨e, g1, g2⟩ := q_halvesBy hx hk (m := 2 * i + 1) (by omega)
      have c0 : qct (fun m => qhv n W C V k m ∧ m % 2 = 1) (2 * i + 1) = qct (fun m => qhv n W C V k m ∧ m % 2 = 1) (2 * i) := qct_F (fun z => by have := z.2; omega)
      rcases g2 with ⟨rfl, g2⟩ | ⟨rfl, g2⟩
      · have c1 : qct (fun m => qhv n W C V k m ∧ m % 2 = 1) (2 * (i + 1)) = qct (fun m => qhv n W C V k m ∧ m % 2 = 1) (2 * i) + 1 := by
          rw [show 2 * (i + 1) = 2 * i + 1 + 1 by omega, qct_T ⟨g2, by omega⟩, c0]
        by_cases e : qct (fun m => qhv n W C V k m ∧ m % 2 = 1) (2 * i) = j
        · simp (disch := first | omega | assumption) only [f_X10_halving_b5, f_X10_halving_j36, g1, qn_lit, qn_ofNat, qn_neg1, qn_neg2, nI_add, pk_mul, qn_sub, qn_ltT, qn_ltF, qn_leT, qn_leF, qn_eqT, qn_eqF, qn_m1T, qn_m1F, qn_m1F2, qn_m1lt, qn_m1lt2, qn_m1le, qn_m1le2, qn_and1, qn_and3, qn_and7, qn_and15, qn_and31, qn_and255, qn_and2047, qn_shl, qn_shr, qn_or, qn_div, qn_modlt, Nat.reduceMod, Nat.reduceAdd, Nat.reduceMul, Nat.reducePow, Nat.reduceDiv, Nat.reduceSub, ↓reduceIte, qn_us, qn_un, not_true_eq_false, not_false_eq_true, true_and, and_true, qn_nn, qn_addm, qn_ngT, qn_ngF, qn_ngE, qn_ngE2, qn_ngL, qn_ngM, Nat.add_sub_cancel, qL, qS, qM, qV, qQ, qZ0, qZ1, qE_l, qE_r, qW_some, Nat.mul_one, hN]
          exact Or.inl ⟨2 * i + 1, by omega, ⟨g2, by omega⟩, by rw [c0]; exact e, rfl⟩
        · simp (disch := first | omega | assumption) only [f_X10_halving_b5, f_X10_halving_j36, g1, qn_lit, qn_ofNat, qn_neg1, qn_neg2, nI_add, pk_mul, qn_sub, qn_ltT, qn_ltF, qn_leT, qn_leF, qn_eqT, qn_eqF, qn_m1T, qn_m1F, qn_m1F2, qn_m1lt, qn_m1lt2, qn_m1le, qn_m1le2, qn_and1, qn_and3, qn_and7, qn_and15, qn_and31, qn_and255, qn_and2047, qn_shl, qn_shr, qn_or, qn_div, qn_modlt, Nat.reduceMod, Nat.reduceAdd, Nat.reduceMul, Nat.reducePow, Nat.reduceDiv, Nat.reduceSub, ↓reduceIte, qn_us, qn_un, not_true_eq_false, not_false_eq_true, true_and, and_true, qn_nn, qn_addm, qn_ngT, qn_ngF, qn_ngE, qn_ngE2, qn_ngL, qn_ngM, Nat.add_sub_cancel, qL, qS, qM, qV, qQ, qZ0, qZ1, qE_l, qE_r, qW_some, Nat.mul_one, hN, c1]
          refine ⟨by omega, ?_⟩
          rw [show 2 * i + 1 + 2 = 2 * (i + 1) + 1 by omega, Nat.sub_sub]
      · have c1 : qct (fun m => qhv n W C V k m ∧ m % 2 = 1) (2 * (i + 1)) = qct (fun m => qhv n W C V k m ∧ m % 2 = 1) (2 * i) := by
          rw [show 2 * (i + 1) = 2 * i + 1 + 1 by omega, qct_F (fun z => g2 z.1), c0]
        simp (disch := first | omega | assumption) only [f_X10_halving_b5, f_X10_halving_j36, g1, qn_lit, qn_ofNat, qn_neg1, qn_neg2, nI_add, pk_mul, qn_sub, qn_ltT, qn_ltF, qn_leT, qn_leF, qn_eqT, qn_eqF, qn_m1T, qn_m1F, qn_m1F2, qn_m1lt, qn_m1lt2, qn_m1le, qn_m1le2, qn_and1, qn_and3, qn_and7, qn_and15, qn_and31, qn_and255, qn_and2047, qn_shl, qn_shr, qn_or, qn_div, qn_modlt, Nat.reduceMod, Nat.reduceAdd, Nat.reduceMul, Nat.reducePow, Nat.reduceDiv, Nat.reduceSub, ↓reduceIte, qn_us, qn_un, not_true_eq_false, not_false_eq_true, true_and, and_true, qn_nn, qn_addm, qn_ngT, qn_ngF, qn_ngE, qn_ngE2, qn_ngL, qn_ngM, Nat.add_sub_cancel, qL, qS, qM, qV, qQ, qZ0, qZ1, qE_l, qE_r, qW_some, Nat.mul_one, hN, c1]
        refine ⟨hc, ?_⟩
        rw [show 2 * i + 1 + 2 = 2 * (i + 1) + 1 by omega]
    · rintro z ⟨hc, rfl⟩
      simp (disch := first | omega | assumption) only [f_X10_halving_b5, qn_lit, qn_ofNat, qn_neg1, qn_neg2, nI_add, pk_mul, qn_sub, qn_ltT, qn_ltF, qn_leT, qn_leF, qn_eqT, qn_eqF, qn_m1T, qn_m1F, qn_m1F2, qn_m1lt, qn_m1lt2, qn_m1le, qn_m1le2, qn_and1, qn_and3, qn_and7, qn_and15, qn_and31, qn_and255, qn_and2047, qn_shl, qn_shr, qn_or, qn_div, qn_modlt, Nat.reduceMod, Nat.reduceAdd, Nat.reduceMul, Nat.reducePow, Nat.reduceDiv, Nat.reduceSub, ↓reduceIte, qn_us, qn_un, not_true_eq_false, not_false_eq_true, true_and, and_true, qn_nn, qn_addm, qn_ngT, qn_ngF, qn_ngE, qn_ngE2, qn_ngL, qn_ngM, Nat.add_sub_cancel, qL, qS, qM, qV, qQ, qZ0, qZ1, qE_l, qE_r, qW_some, Nat.mul_one, hN]
      exact Or.inr hc
  obtain ⟨e, g1, g2⟩ := key
  rcases g2 with ⟨m, m1, m2, m3, rfl⟩ | ⟨rfl, g2⟩
  · exact ⟨nI m, by simp (disch := first | omega | assumption) only [f_X10_halving, g1, qn_lit, qn_ofNat, qn_neg1, qn_neg2, nI_add, pk_mul, qn_sub, qn_ltT, qn_ltF, qn_leT, qn_leF, qn_eqT, qn_eqF, qn_m1T, qn_m1F, qn_m1F2, qn_m1lt, qn_m1lt2, qn_m1le, qn_m1le2, qn_and1, qn_and3, qn_and7, qn_and15, qn_and31, qn_and255, qn_and2047, qn_shl, qn_shr, qn_or, qn_div, qn_modlt, Nat.reduceMod, Nat.reduceAdd, Nat.reduceMul, Nat.reducePow, Nat.reduceDiv, Nat.reduceSub, ↓reduceIte, qn_us, qn_un, not_true_eq_false, not_false_eq_true, true_and, and_true, qn_nn, qn_addm, qn_ngT, qn_ngF, qn_ngE, qn_ngE2, qn_ngL, qn_ngM, Nat.add_sub_cancel, qL, qS, qM, qV, qQ, qZ0, qZ1, qE_l, qE_r, qW_some], Or.inl ⟨m, m1, m2, m3, rfl⟩⟩
  · exact ⟨mI, by simp (disch := first | omega | assumption) only [f_X10_halving, g1, qn_lit, qn_ofNat, qn_neg1, qn_neg2, nI_add, pk_mul, qn_sub, qn_ltT, qn_ltF, qn_leT, qn_leF, qn_eqT, qn_eqF, qn_m1T, qn_m1F, qn_m1F2, qn_m1lt, qn_m1lt2, qn_m1le, qn_m1le2, qn_and1, qn_and3, qn_and7, qn_and15, qn_and31, qn_and255, qn_and2047, qn_shl, qn_shr, qn_or, qn_div, qn_modlt, Nat.reduceMod, Nat.reduceAdd, Nat.reduceMul, Nat.reducePow, Nat.reduceDiv, Nat.reduceSub, ↓reduceIte, qn_us, qn_un, not_true_eq_false, not_false_eq_true, true_and, and_true, qn_nn, qn_addm, qn_ngT, qn_ngF, qn_ngE, qn_ngE2, qn_ngL, qn_ngM, Nat.add_sub_cancel, qL, qS, qM, qV, qQ, qZ0, qZ1, qE_l, qE_r, qW_some], Or.inr ⟨rfl, g2⟩⟩
theorem q_halfR {R_code : Int32} {R_child : Nat → Int32} {R_childBack : Nat → Int32} {R_weds : Nat → Int32} {R_wedsBack : Nat → Int32} {n k : Nat} {x : Int32} {W C V U : Nat → Nat} (hx : qXw n W C V U R_weds R_child R_wedsBack R_childBack) (hk : k < 3) : qW (f_X12_half_l28 R_code (nI n) (8, R_child) (8, R_childBack) (8, R_weds) (8, R_wedsBack) (nI k) x (nI 0) (nI 0)) (fun e => (∃ m, m < 2 ^ n ∧ (qhv n W C V k m ∧ m % 2 = 1) ∧ nI (qct (fun m => qhv n W C V k m ∧ m % 2 = 1) m) = x ∧ e = Sum.inl (nI m)) ∨ (e = Sum.inr () ∧ ∀ m, m < 2 ^ n → (qhv n W C V k m ∧ m % 2 = 1) → nI (qct (fun m => qhv n W C V k m ∧ m % 2 = 1) m) ≠ x)) := by
  have hn := hx.1.1
  have hp := q_2n hn
  unfold f_X12_half_l28
  refine qfor 0 (2 ^ n) (fun i z => z = (nI (qct (fun m => qhv n W C V k m ∧ m % 2 = 1) i), nI i) ∧ ∀ m, m < i → (qhv n W C V k m ∧ m % 2 = 1) → nI (qct (fun m => qhv n W C V k m ∧ m % 2 = 1) m) ≠ x) ⟨rfl, by simp⟩ (Nat.zero_le _) (by omega) ?_ ?_
  · rintro i z - hi ⟨rfl, hI⟩
    obtain ⟨e, g1, g2⟩ := q_isHalf hx hk hi
    have c := qct_le (fun m => qhv n W C V k m ∧ m % 2 = 1) i
    rcases g2 with ⟨rfl, g2⟩ | ⟨rfl, g2⟩
    · have c1 : qct (fun m => qhv n W C V k m ∧ m % 2 = 1) (i + 1) = qct (fun m => qhv n W C V k m ∧ m % 2 = 1) i + 1 := qct_T g2
      by_cases e : nI (qct (fun m => qhv n W C V k m ∧ m % 2 = 1) i) = x
      · simp (disch := first | omega | assumption) only [f_X12_half_b28, f_X12_half_j60, g1, qn_lit, qn_ofNat, qn_neg1, qn_neg2, nI_add, pk_mul, qn_sub, qn_ltT, qn_ltF, qn_leT, qn_leF, qn_eqT, qn_eqF, qn_m1T, qn_m1F, qn_m1F2, qn_m1lt, qn_m1lt2, qn_m1le, qn_m1le2, qn_and1, qn_and3, qn_and7, qn_and15, qn_and31, qn_and255, qn_and2047, qn_shl, qn_shr, qn_or, qn_div, qn_modlt, Nat.reduceMod, Nat.reduceAdd, Nat.reduceMul, Nat.reducePow, Nat.reduceDiv, Nat.reduceSub, ↓reduceIte, qn_us, qn_un, not_true_eq_false, not_false_eq_true, true_and, and_true, qn_nn, qn_addm, qn_ngT, qn_ngF, qn_ngE, qn_ngE2, qn_ngL, qn_ngM, Nat.add_sub_cancel, qL, qS, qM, qV, qQ, qZ0, qZ1, qE_l, qE_r, qW_some, Nat.mul_one, e]
        exact Or.inl ⟨i, hi, g2, e, rfl⟩
      · simp (disch := first | omega | assumption) only [f_X12_half_b28, f_X12_half_j60, g1, qn_lit, qn_ofNat, qn_neg1, qn_neg2, nI_add, pk_mul, qn_sub, qn_ltT, qn_ltF, qn_leT, qn_leF, qn_eqT, qn_eqF, qn_m1T, qn_m1F, qn_m1F2, qn_m1lt, qn_m1lt2, qn_m1le, qn_m1le2, qn_and1, qn_and3, qn_and7, qn_and15, qn_and31, qn_and255, qn_and2047, qn_shl, qn_shr, qn_or, qn_div, qn_modlt, Nat.reduceMod, Nat.reduceAdd, Nat.reduceMul, Nat.reducePow, Nat.reduceDiv, Nat.reduceSub, ↓reduceIte, qn_us, qn_un, not_true_eq_false, not_false_eq_true, true_and, and_true, qn_nn, qn_addm, qn_ngT, qn_ngF, qn_ngE, qn_ngE2, qn_ngL, qn_ngM, Nat.add_sub_cancel, qL, qS, qM, qV, qQ, qZ0, qZ1, qE_l, qE_r, qW_some, Nat.mul_one, e, c1]
        intro m hm h2
        by_cases q : m = i
        · rw [q]; exact e
        · exact hI m (by omega) h2
    · have c1 : qct (fun m => qhv n W C V k m ∧ m % 2 = 1) (i + 1) = qct (fun m => qhv n W C V k m ∧ m % 2 = 1) i := qct_F g2
      simp (disch := first | omega | assumption) only [f_X12_half_b28, f_X12_half_j60, g1, qn_lit, qn_ofNat, qn_neg1, qn_neg2, nI_add, pk_mul, qn_sub, qn_ltT, qn_ltF, qn_leT, qn_leF, qn_eqT, qn_eqF, qn_m1T, qn_m1F, qn_m1F2, qn_m1lt, qn_m1lt2, qn_m1le, qn_m1le2, qn_and1, qn_and3, qn_and7, qn_and15, qn_and31, qn_and255, qn_and2047, qn_shl, qn_shr, qn_or, qn_div, qn_modlt, Nat.reduceMod, Nat.reduceAdd, Nat.reduceMul, Nat.reducePow, Nat.reduceDiv, Nat.reduceSub, ↓reduceIte, qn_us, qn_un, not_true_eq_false, not_false_eq_true, true_and, and_true, qn_nn, qn_addm, qn_ngT, qn_ngF, qn_ngE, qn_ngE2, qn_ngL, qn_ngM, Nat.add_sub_cancel, qL, qS, qM, qV, qQ, qZ0, qZ1, qE_l, qE_r, qW_some, Nat.mul_one, c1]
      intro m hm h2
      by_cases q : m = i
      · rw [q] at h2; exact absurd h2 g2
      · exact hI m (by omega) h2
  · rintro z ⟨rfl, hI⟩
    simp (disch := first | omega | assumption) only [f_X12_half_b28, qn_lit, qn_ofNat, qn_neg1, qn_neg2, nI_add, pk_mul, qn_sub, qn_ltT, qn_ltF, qn_leT, qn_leF, qn_eqT, qn_eqF, qn_m1T, qn_m1F, qn_m1F2, qn_m1lt, qn_m1lt2, qn_m1le, qn_m1le2, qn_and1, qn_and3, qn_and7, qn_and15, qn_and31, qn_and255, qn_and2047, qn_shl, qn_shr, qn_or, qn_div, qn_modlt, Nat.reduceMod, Nat.reduceAdd, Nat.reduceMul, Nat.reducePow, Nat.reduceDiv, Nat.reduceSub, ↓reduceIte, qn_us, qn_un, not_true_eq_false, not_false_eq_true, true_and, and_true, qn_nn, qn_addm, qn_ngT, qn_ngF, qn_ngE, qn_ngE2, qn_ngL, qn_ngM, Nat.add_sub_cancel, qL, qS, qM, qV, qQ, qZ0, qZ1, qE_l, qE_r, qW_some, Nat.mul_one]
    exact Or.inr hI
theorem q_isHalving {n a : Nat} (hn : n ≤ 8) (h0 : 0 < n) (ha : a < 3) : f_X11_isHalving (nI n) (nI a) = some (nI 1) := by
  simp (disch := first | omega | assumption) only [f_X11_isHalving, qn_lit, qn_ofNat, qn_neg1, qn_neg2, nI_add, pk_mul, qn_sub, qn_ltT, qn_ltF, qn_leT, qn_leF, qn_eqT, qn_eqF, qn_m1T, qn_m1F, qn_m1F2, qn_m1lt, qn_m1lt2, qn_m1le, qn_m1le2, qn_and1, qn_and3, qn_and7, qn_and15, qn_and31, qn_and255, qn_and2047, qn_shl, qn_shr, qn_or, qn_div, qn_modlt, Nat.reduceMod, Nat.reduceAdd, Nat.reduceMul, Nat.reducePow, Nat.reduceDiv, Nat.reduceSub, ↓reduceIte, qn_us, qn_un, not_true_eq_false, not_false_eq_true, true_and, and_true, qn_nn, qn_addm, qn_ngT, qn_ngF, qn_ngE, qn_ngE2, qn_ngL, qn_ngM, Nat.add_sub_cancel, qL, qS, qM, qV, qQ, qZ0, qZ1, qE_l, qE_r, qW_some]
theorem q_isHalving_no {n : Nat} {x : Int32} (hn : n ≤ 8) (h : n = 0 ∨ qOut 3 x) : f_X11_isHalving (nI n) x = some (nI 0) := by
  by_cases h0 : n = 0
  · simp (disch := first | omega | assumption) only [f_X11_isHalving, qn_lit, qn_ofNat, qn_neg1, qn_neg2, nI_add, pk_mul, qn_sub, qn_ltT, qn_ltF, qn_leT, qn_leF, qn_eqT, qn_eqF, qn_m1T, qn_m1F, qn_m1F2, qn_m1lt, qn_m1lt2, qn_m1le, qn_m1le2, qn_and1, qn_and3, qn_and7, qn_and15, qn_and31, qn_and255, qn_and2047, qn_shl, qn_shr, qn_or, qn_div, qn_modlt, Nat.reduceMod, Nat.reduceAdd, Nat.reduceMul, Nat.reducePow, Nat.reduceDiv, Nat.reduceSub, ↓reduceIte, qn_us, qn_un, not_true_eq_false, not_false_eq_true, true_and, and_true, qn_nn, qn_addm, qn_ngT, qn_ngF, qn_ngE, qn_ngE2, qn_ngL, qn_ngM, Nat.add_sub_cancel, qL, qS, qM, qV, qQ, qZ0, qZ1, qE_l, qE_r, qW_some]
  · rcases h.resolve_left h0 with g | ⟨j, g1, g2, rfl⟩ <;> simp (disch := first | omega | assumption) only [f_X11_isHalving, qn_lit, qn_ofNat, qn_neg1, qn_neg2, nI_add, pk_mul, qn_sub, qn_ltT, qn_ltF, qn_leT, qn_leF, qn_eqT, qn_eqF, qn_m1T, qn_m1F, qn_m1F2, qn_m1lt, qn_m1lt2, qn_m1le, qn_m1le2, qn_and1, qn_and3, qn_and7, qn_and15, qn_and31, qn_and255, qn_and2047, qn_shl, qn_shr, qn_or, qn_div, qn_modlt, Nat.reduceMod, Nat.reduceAdd, Nat.reduceMul, Nat.reducePow, Nat.reduceDiv, Nat.reduceSub, ↓reduceIte, qn_us, qn_un, not_true_eq_false, not_false_eq_true, true_and, and_true, qn_nn, qn_addm, qn_ngT, qn_ngF, qn_ngE, qn_ngE2, qn_ngL, qn_ngM, Nat.add_sub_cancel, qL, qS, qM, qV, qQ, qZ0, qZ1, qE_l, qE_r, qW_some]
theorem q_halves {n : Nat} {xw_child : Nat → Int32} {xw_husband : Nat → Int32} {xw_wife : Nat → Int32} {R_childRow : Nat → Int32} {R_classes : Nat → Int32} {R_wedsRow : Nat → Int32} {R_code : Int32} {R_n : Int32} {R_child : Nat → Int32} {R_childBack : Nat → Int32} {R_weds : Nat → Int32} {R_wedsBack : Nat → Int32} {xw_father : Nat → Int32} {W C V U : Nat → Nat} (hx : qXw n W C V U xw_wife xw_child xw_husband xw_father) (hr : qRw 0 n W C R_classes R_wedsRow R_childRow) (x : Int32) : ∃ r R_n' R_child' R_childBack' R_weds' R_wedsBack', f_X11_halves (nI n) (8, xw_child) (8, xw_husband) (8, xw_wife) x = some r ∧ f_X12_halves (32, R_childRow) (4, R_classes) (32, R_wedsRow) R_code R_n (8, R_child) (8, R_childBack) (8, R_weds) (8, R_wedsBack) x = some (r, nI 0, R_n', (8, R_child'), (8, R_childBack'), (8, R_weds'), (8, R_wedsBack')) := by
  obtain ⟨ch', cb', we', wb', h1, hX⟩ := q_bringX (R_n := R_n) (R_child := R_child) (R_childBack := R_childBack) (R_weds := R_weds) (R_wedsBack := R_wedsBack) hx.1 hr
  have hn := hx.1.1
  rcases qn_inout x 3 with ⟨a, a1, a2, rfl⟩ | g
  · by_cases h0 : n = 0
    · subst h0
      refine ⟨mI, nI 0, ch', cb', we', wb', ?_, ?_⟩
      · simp (disch := first | omega | assumption) only [f_X11_halves, q_isHalving_no (n := 0) (x := nI a) (by decide) (Or.inl rfl), qn_lit, qn_ofNat, qn_neg1, qn_neg2, nI_add, pk_mul, qn_sub, qn_ltT, qn_ltF, qn_leT, qn_leF, qn_eqT, qn_eqF, qn_m1T, qn_m1F, qn_m1F2, qn_m1lt, qn_m1lt2, qn_m1le, qn_m1le2, qn_and1, qn_and3, qn_and7, qn_and15, qn_and31, qn_and255, qn_and2047, qn_shl, qn_shr, qn_or, qn_div, qn_modlt, Nat.reduceMod, Nat.reduceAdd, Nat.reduceMul, Nat.reducePow, Nat.reduceDiv, Nat.reduceSub, ↓reduceIte, qn_us, qn_un, not_true_eq_false, not_false_eq_true, true_and, and_true, qn_nn, qn_addm, qn_ngT, qn_ngF, qn_ngE, qn_ngE2, qn_ngL, qn_ngM, Nat.add_sub_cancel, qL, qS, qM, qV, qQ, qZ0, qZ1, qE_l, qE_r, qW_some]
      · simp (disch := first | omega | assumption) only [f_X12_halves, q_in_T, h1, qn_lit, qn_ofNat, qn_neg1, qn_neg2, nI_add, pk_mul, qn_sub, qn_ltT, qn_ltF, qn_leT, qn_leF, qn_eqT, qn_eqF, qn_m1T, qn_m1F, qn_m1F2, qn_m1lt, qn_m1lt2, qn_m1le, qn_m1le2, qn_and1, qn_and3, qn_and7, qn_and15, qn_and31, qn_and255, qn_and2047, qn_shl, qn_shr, qn_or, qn_div, qn_modlt, Nat.reduceMod, Nat.reduceAdd, Nat.reduceMul, Nat.reducePow, Nat.reduceDiv, Nat.reduceSub, ↓reduceIte, qn_us, qn_un, not_true_eq_false, not_false_eq_true, true_and, and_true, qn_nn, qn_addm, qn_ngT, qn_ngF, qn_ngE, qn_ngE2, qn_ngL, qn_ngM, Nat.add_sub_cancel, qL, qS, qM, qV, qQ, qZ0, qZ1, qE_l, qE_r, qW_some]
    · rw [if_neg h0] at h1
      refine ⟨nI (qct (fun m => qhv n W C V a m ∧ m % 2 = 1) (2 ^ n)), nI n, ch', cb', we', wb', ?_, ?_⟩
      · simp (disch := first | omega | assumption) only [f_X11_halves, q_isHalving, q_halvings hx a1 (Nat.pos_of_ne_zero h0), qn_lit, qn_ofNat, qn_neg1, qn_neg2, nI_add, pk_mul, qn_sub, qn_ltT, qn_ltF, qn_leT, qn_leF, qn_eqT, qn_eqF, qn_m1T, qn_m1F, qn_m1F2, qn_m1lt, qn_m1lt2, qn_m1le, qn_m1le2, qn_and1, qn_and3, qn_and7, qn_and15, qn_and31, qn_and255, qn_and2047, qn_shl, qn_shr, qn_or, qn_div, qn_modlt, Nat.reduceMod, Nat.reduceAdd, Nat.reduceMul, Nat.reducePow, Nat.reduceDiv, Nat.reduceSub, ↓reduceIte, qn_us, qn_un, not_true_eq_false, not_false_eq_true, true_and, and_true, qn_nn, qn_addm, qn_ngT, qn_ngF, qn_ngE, qn_ngE2, qn_ngL, qn_ngM, Nat.add_sub_cancel, qL, qS, qM, qV, qQ, qZ0, qZ1, qE_l, qE_r, qW_some]
      · simp (disch := first | omega | assumption) only [f_X12_halves, q_in_T, h1, q_halvesR hX a1, qn_lit, qn_ofNat, qn_neg1, qn_neg2, nI_add, pk_mul, qn_sub, qn_ltT, qn_ltF, qn_leT, qn_leF, qn_eqT, qn_eqF, qn_m1T, qn_m1F, qn_m1F2, qn_m1lt, qn_m1lt2, qn_m1le, qn_m1le2, qn_and1, qn_and3, qn_and7, qn_and15, qn_and31, qn_and255, qn_and2047, qn_shl, qn_shr, qn_or, qn_div, qn_modlt, Nat.reduceMod, Nat.reduceAdd, Nat.reduceMul, Nat.reducePow, Nat.reduceDiv, Nat.reduceSub, ↓reduceIte, qn_us, qn_un, not_true_eq_false, not_false_eq_true, true_and, and_true, qn_nn, qn_addm, qn_ngT, qn_ngF, qn_ngE, qn_ngE2, qn_ngL, qn_ngM, Nat.add_sub_cancel, qL, qS, qM, qV, qQ, qZ0, qZ1, qE_l, qE_r, qW_some]
  · refine ⟨mI, R_n, R_child, R_childBack, R_weds, R_wedsBack, ?_, ?_⟩
    · simp (disch := first | omega | assumption) only [f_X11_halves, q_isHalving_no hn (Or.inr g), qn_lit, qn_ofNat, qn_neg1, qn_neg2, nI_add, pk_mul, qn_sub, qn_ltT, qn_ltF, qn_leT, qn_leF, qn_eqT, qn_eqF, qn_m1T, qn_m1F, qn_m1F2, qn_m1lt, qn_m1lt2, qn_m1le, qn_m1le2, qn_and1, qn_and3, qn_and7, qn_and15, qn_and31, qn_and255, qn_and2047, qn_shl, qn_shr, qn_or, qn_div, qn_modlt, Nat.reduceMod, Nat.reduceAdd, Nat.reduceMul, Nat.reducePow, Nat.reduceDiv, Nat.reduceSub, ↓reduceIte, qn_us, qn_un, not_true_eq_false, not_false_eq_true, true_and, and_true, qn_nn, qn_addm, qn_ngT, qn_ngF, qn_ngE, qn_ngE2, qn_ngL, qn_ngM, Nat.add_sub_cancel, qL, qS, qM, qV, qQ, qZ0, qZ1, qE_l, qE_r, qW_some]
    · rcases g with g | ⟨j, g1, g2, rfl⟩ <;> simp (disch := first | omega | assumption) only [f_X12_halves, f_X12_in, qn_lit, qn_ofNat, qn_neg1, qn_neg2, nI_add, pk_mul, qn_sub, qn_ltT, qn_ltF, qn_leT, qn_leF, qn_eqT, qn_eqF, qn_m1T, qn_m1F, qn_m1F2, qn_m1lt, qn_m1lt2, qn_m1le, qn_m1le2, qn_and1, qn_and3, qn_and7, qn_and15, qn_and31, qn_and255, qn_and2047, qn_shl, qn_shr, qn_or, qn_div, qn_modlt, Nat.reduceMod, Nat.reduceAdd, Nat.reduceMul, Nat.reducePow, Nat.reduceDiv, Nat.reduceSub, ↓reduceIte, qn_us, qn_un, not_true_eq_false, not_false_eq_true, true_and, and_true, qn_nn, qn_addm, qn_ngT, qn_ngF, qn_ngE, qn_ngE2, qn_ngL, qn_ngM, Nat.add_sub_cancel, qL, qS, qM, qV, qQ, qZ0, qZ1, qE_l, qE_r, qW_some]
theorem q_half {n : Nat} {xw_child : Nat → Int32} {xw_husband : Nat → Int32} {xw_wife : Nat → Int32} {R_childRow : Nat → Int32} {R_classes : Nat → Int32} {R_wedsRow : Nat → Int32} {R_code : Int32} {R_n : Int32} {R_child : Nat → Int32} {R_childBack : Nat → Int32} {R_weds : Nat → Int32} {R_wedsBack : Nat → Int32} {xw_father : Nat → Int32} {W C V U : Nat → Nat} (hx : qXw n W C V U xw_wife xw_child xw_husband xw_father) (hr : qRw 0 n W C R_classes R_wedsRow R_childRow) (x y : Int32) : ∃ r R_n' R_child' R_childBack' R_weds' R_wedsBack', f_X11_half (nI n) (8, xw_child) (8, xw_husband) (8, xw_wife) x y = some r ∧ f_X12_half (32, R_childRow) (4, R_classes) (32, R_wedsRow) R_code R_n (8, R_child) (8, R_childBack) (8, R_weds) (8, R_wedsBack) x y = some (r, nI 0, R_n', (8, R_child'), (8, R_childBack'), (8, R_weds'), (8, R_wedsBack')) := by
  obtain ⟨ch', cb', we', wb', h1, hX⟩ := q_bringX (R_n := R_n) (R_child := R_child) (R_childBack := R_childBack) (R_weds := R_weds) (R_wedsBack := R_wedsBack) hx.1 hr
  have hn := hx.1.1
  have hp := q_2n hn
  rcases qn_inout x 3 with ⟨a, a1, a2, rfl⟩ | g
  · by_cases h0 : n = 0
    · subst h0
      refine ⟨mI, nI 0, ch', cb', we', wb', ?_, ?_⟩
      · simp (disch := first | omega | assumption) only [f_X11_half, q_isHalving_no (n := 0) (x := nI a) (by decide) (Or.inl rfl), qn_lit, qn_ofNat, qn_neg1, qn_neg2, nI_add, pk_mul, qn_sub, qn_ltT, qn_ltF, qn_leT, qn_leF, qn_eqT, qn_eqF, qn_m1T, qn_m1F, qn_m1F2, qn_m1lt, qn_m1lt2, qn_m1le, qn_m1le2, qn_and1, qn_and3, qn_and7, qn_and15, qn_and31, qn_and255, qn_and2047, qn_shl, qn_shr, qn_or, qn_div, qn_modlt, Nat.reduceMod, Nat.reduceAdd, Nat.reduceMul, Nat.reducePow, Nat.reduceDiv, Nat.reduceSub, ↓reduceIte, qn_us, qn_un, not_true_eq_false, not_false_eq_true, true_and, and_true, qn_nn, qn_addm, qn_ngT, qn_ngF, qn_ngE, qn_ngE2, qn_ngL, qn_ngM, Nat.add_sub_cancel, qL, qS, qM, qV, qQ, qZ0, qZ1, qE_l, qE_r, qW_some]
      · simp (disch := first | omega | assumption) only [f_X12_half, q_in_T, h1, qn_lit, qn_ofNat, qn_neg1, qn_neg2, nI_add, pk_mul, qn_sub, qn_ltT, qn_ltF, qn_leT, qn_leF, qn_eqT, qn_eqF, qn_m1T, qn_m1F, qn_m1F2, qn_m1lt, qn_m1lt2, qn_m1le, qn_m1le2, qn_and1, qn_and3, qn_and7, qn_and15, qn_and31, qn_and255, qn_and2047, qn_shl, qn_shr, qn_or, qn_div, qn_modlt, Nat.reduceMod, Nat.reduceAdd, Nat.reduceMul, Nat.reducePow, Nat.reduceDiv, Nat.reduceSub, ↓reduceIte, qn_us, qn_un, not_true_eq_false, not_false_eq_true, true_and, and_true, qn_nn, qn_addm, qn_ngT, qn_ngF, qn_ngE, qn_ngE2, qn_ngL, qn_ngM, Nat.add_sub_cancel, qL, qS, qM, qV, qQ, qZ0, qZ1, qE_l, qE_r, qW_some]
    · rw [if_neg h0] at h1
      obtain ⟨e, g1, g2⟩ := q_halfR (R_code := nI 0) (x := y) hX a1
      rcases qn_split y with g | ⟨j, j1, rfl⟩
      · refine ⟨mI, nI n, ch', cb', we', wb', ?_, ?_⟩
        · simp (disch := first | omega | assumption) only [f_X11_half, q_isHalving, qn_lit, qn_ofNat, qn_neg1, qn_neg2, nI_add, pk_mul, qn_sub, qn_ltT, qn_ltF, qn_leT, qn_leF, qn_eqT, qn_eqF, qn_m1T, qn_m1F, qn_m1F2, qn_m1lt, qn_m1lt2, qn_m1le, qn_m1le2, qn_and1, qn_and3, qn_and7, qn_and15, qn_and31, qn_and255, qn_and2047, qn_shl, qn_shr, qn_or, qn_div, qn_modlt, Nat.reduceMod, Nat.reduceAdd, Nat.reduceMul, Nat.reducePow, Nat.reduceDiv, Nat.reduceSub, ↓reduceIte, qn_us, qn_un, not_true_eq_false, not_false_eq_true, true_and, and_true, qn_nn, qn_addm, qn_ngT, qn_ngF, qn_ngE, qn_ngE2, qn_ngL, qn_ngM, Nat.add_sub_cancel, qL, qS, qM, qV, qQ, qZ0, qZ1, qE_l, qE_r, qW_some]
        · rcases g2 with ⟨m, m1, m2, m3, rfl⟩ | ⟨rfl, g2⟩
          · have c := qct_le (fun m => qhv n W C V a m ∧ m % 2 = 1) m
            have := qn_ngE (b := qct (fun m => qhv n W C V a m ∧ m % 2 = 1) m) g (by omega)
            rw [m3] at this
            exact absurd rfl (of_eq_false this)
          · simp (disch := first | omega | assumption) only [f_X12_half, q_in_T, h1, g1, qn_lit, qn_ofNat, qn_neg1, qn_neg2, nI_add, pk_mul, qn_sub, qn_ltT, qn_ltF, qn_leT, qn_leF, qn_eqT, qn_eqF, qn_m1T, qn_m1F, qn_m1F2, qn_m1lt, qn_m1lt2, qn_m1le, qn_m1le2, qn_and1, qn_and3, qn_and7, qn_and15, qn_and31, qn_and255, qn_and2047, qn_shl, qn_shr, qn_or, qn_div, qn_modlt, Nat.reduceMod, Nat.reduceAdd, Nat.reduceMul, Nat.reducePow, Nat.reduceDiv, Nat.reduceSub, ↓reduceIte, qn_us, qn_un, not_true_eq_false, not_false_eq_true, true_and, and_true, qn_nn, qn_addm, qn_ngT, qn_ngF, qn_ngE, qn_ngE2, qn_ngL, qn_ngM, Nat.add_sub_cancel, qL, qS, qM, qV, qQ, qZ0, qZ1, qE_l, qE_r, qW_some]
      · obtain ⟨e', g3, g4⟩ := q_halving hx a1 (Nat.pos_of_ne_zero h0) j1
        have g5 : ∃ r, e = (match r with | some z => Sum.inl z | none => Sum.inr ()) ∧ qkt (fun m => qhv n W C V a m ∧ m % 2 = 1) (2 ^ n) j (r.getD mI) := by
          rcases g2 with ⟨m, m1, m2, m3, rfl⟩ | ⟨rfl, g2⟩
          · have c := qct_le (fun m => qhv n W C V a m ∧ m % 2 = 1) m
            exact ⟨some (nI m), rfl, Or.inl ⟨m, m1, m2, (nI_eq (by omega) j1).mp m3, rfl⟩⟩
          · refine ⟨none, rfl, Or.inr ⟨rfl, Nat.le_of_not_lt fun hlt => ?_⟩⟩
            have key : ∀ N, N ≤ 2 ^ n → j < qct (fun m => qhv n W C V a m ∧ m % 2 = 1) N → False := by
              intro N
              induction N with
              | zero => intro _ h; exact absurd h (Nat.not_lt_zero _)
              | succ N ih =>
                intro hN h
                by_cases q : qhv n W C V a N ∧ N % 2 = 1
                · rw [qct_T q] at h
                  by_cases q2 : qct (fun m => qhv n W C V a m ∧ m % 2 = 1) N = j
                  · exact g2 N (by omega) q (congrArg nI q2)
                  · exact ih (by omega) (by omega)
                · rw [qct_F q] at h
                  exact ih (by omega) h
            exact key _ (Nat.le_refl _) hlt
        obtain ⟨r, rfl, g5⟩ := g5
        have := qkt_u g4 g5
        subst this
        cases r with
        | some z =>
          refine ⟨z, nI n, ch', cb', we', wb', ?_, ?_⟩
          · simp (disch := first | omega | assumption) only [f_X11_half, q_isHalving, g3, qn_lit, qn_ofNat, qn_neg1, qn_neg2, nI_add, pk_mul, qn_sub, qn_ltT, qn_ltF, qn_leT, qn_leF, qn_eqT, qn_eqF, qn_m1T, qn_m1F, qn_m1F2, qn_m1lt, qn_m1lt2, qn_m1le, qn_m1le2, qn_and1, qn_and3, qn_and7, qn_and15, qn_and31, qn_and255, qn_and2047, qn_shl, qn_shr, qn_or, qn_div, qn_modlt, Nat.reduceMod, Nat.reduceAdd, Nat.reduceMul, Nat.reducePow, Nat.reduceDiv, Nat.reduceSub, ↓reduceIte, qn_us, qn_un, not_true_eq_false, not_false_eq_true, true_and, and_true, qn_nn, qn_addm, qn_ngT, qn_ngF, qn_ngE, qn_ngE2, qn_ngL, qn_ngM, Nat.add_sub_cancel, qL, qS, qM, qV, qQ, qZ0, qZ1, qE_l, qE_r, qW_some, Option.getD_some]
          · simp (disch := first | omega | assumption) only [f_X12_half, q_in_T, h1, g1, qn_lit, qn_ofNat, qn_neg1, qn_neg2, nI_add, pk_mul, qn_sub, qn_ltT, qn_ltF, qn_leT, qn_leF, qn_eqT, qn_eqF, qn_m1T, qn_m1F, qn_m1F2, qn_m1lt, qn_m1lt2, qn_m1le, qn_m1le2, qn_and1, qn_and3, qn_and7, qn_and15, qn_and31, qn_and255, qn_and2047, qn_shl, qn_shr, qn_or, qn_div, qn_modlt, Nat.reduceMod, Nat.reduceAdd, Nat.reduceMul, Nat.reducePow, Nat.reduceDiv, Nat.reduceSub, ↓reduceIte, qn_us, qn_un, not_true_eq_false, not_false_eq_true, true_and, and_true, qn_nn, qn_addm, qn_ngT, qn_ngF, qn_ngE, qn_ngE2, qn_ngL, qn_ngM, Nat.add_sub_cancel, qL, qS, qM, qV, qQ, qZ0, qZ1, qE_l, qE_r, qW_some]
        | none =>
          refine ⟨mI, nI n, ch', cb', we', wb', ?_, ?_⟩
          · simp (disch := first | omega | assumption) only [f_X11_half, q_isHalving, g3, qn_lit, qn_ofNat, qn_neg1, qn_neg2, nI_add, pk_mul, qn_sub, qn_ltT, qn_ltF, qn_leT, qn_leF, qn_eqT, qn_eqF, qn_m1T, qn_m1F, qn_m1F2, qn_m1lt, qn_m1lt2, qn_m1le, qn_m1le2, qn_and1, qn_and3, qn_and7, qn_and15, qn_and31, qn_and255, qn_and2047, qn_shl, qn_shr, qn_or, qn_div, qn_modlt, Nat.reduceMod, Nat.reduceAdd, Nat.reduceMul, Nat.reducePow, Nat.reduceDiv, Nat.reduceSub, ↓reduceIte, qn_us, qn_un, not_true_eq_false, not_false_eq_true, true_and, and_true, qn_nn, qn_addm, qn_ngT, qn_ngF, qn_ngE, qn_ngE2, qn_ngL, qn_ngM, Nat.add_sub_cancel, qL, qS, qM, qV, qQ, qZ0, qZ1, qE_l, qE_r, qW_some, Option.getD_none]
          · simp (disch := first | omega | assumption) only [f_X12_half, q_in_T, h1, g1, qn_lit, qn_ofNat, qn_neg1, qn_neg2, nI_add, pk_mul, qn_sub, qn_ltT, qn_ltF, qn_leT, qn_leF, qn_eqT, qn_eqF, qn_m1T, qn_m1F, qn_m1F2, qn_m1lt, qn_m1lt2, qn_m1le, qn_m1le2, qn_and1, qn_and3, qn_and7, qn_and15, qn_and31, qn_and255, qn_and2047, qn_shl, qn_shr, qn_or, qn_div, qn_modlt, Nat.reduceMod, Nat.reduceAdd, Nat.reduceMul, Nat.reducePow, Nat.reduceDiv, Nat.reduceSub, ↓reduceIte, qn_us, qn_un, not_true_eq_false, not_false_eq_true, true_and, and_true, qn_nn, qn_addm, qn_ngT, qn_ngF, qn_ngE, qn_ngE2, qn_ngL, qn_ngM, Nat.add_sub_cancel, qL, qS, qM, qV, qQ, qZ0, qZ1, qE_l, qE_r, qW_some]
  · refine ⟨mI, R_n, R_child, R_childBack, R_weds, R_wedsBack, ?_, ?_⟩
    · simp (disch := first | omega | assumption) only [f_X11_half, q_isHalving_no hn (Or.inr g), qn_lit, qn_ofNat, qn_neg1, qn_neg2, nI_add, pk_mul, qn_sub, qn_ltT, qn_ltF, qn_leT, qn_leF, qn_eqT, qn_eqF, qn_m1T, qn_m1F, qn_m1F2, qn_m1lt, qn_m1lt2, qn_m1le, qn_m1le2, qn_and1, qn_and3, qn_and7, qn_and15, qn_and31, qn_and255, qn_and2047, qn_shl, qn_shr, qn_or, qn_div, qn_modlt, Nat.reduceMod, Nat.reduceAdd, Nat.reduceMul, Nat.reducePow, Nat.reduceDiv, Nat.reduceSub, ↓reduceIte, qn_us, qn_un, not_true_eq_false, not_false_eq_true, true_and, and_true, qn_nn, qn_addm, qn_ngT, qn_ngF, qn_ngE, qn_ngE2, qn_ngL, qn_ngM, Nat.add_sub_cancel, qL, qS, qM, qV, qQ, qZ0, qZ1, qE_l, qE_r, qW_some]
    · rcases g with g | ⟨j, g1, g2, rfl⟩ <;> simp (disch := first | omega | assumption) only [f_X12_half, f_X12_in, qn_lit, qn_ofNat, qn_neg1, qn_neg2, nI_add, pk_mul, qn_sub, qn_ltT, qn_ltF, qn_leT, qn_leF, qn_eqT, qn_eqF, qn_m1T, qn_m1F, qn_m1F2, qn_m1lt, qn_m1lt2, qn_m1le, qn_m1le2, qn_and1, qn_and3, qn_and7, qn_and15, qn_and31, qn_and255, qn_and2047, qn_shl, qn_shr, qn_or, qn_div, qn_modlt, Nat.reduceMod, Nat.reduceAdd, Nat.reduceMul, Nat.reducePow, Nat.reduceDiv, Nat.reduceSub, ↓reduceIte, qn_us, qn_un, not_true_eq_false, not_false_eq_true, true_and, and_true, qn_nn, qn_addm, qn_ngT, qn_ngF, qn_ngE, qn_ngE2, qn_ngL, qn_ngM, Nat.add_sub_cancel, qL, qS, qM, qV, qQ, qZ0, qZ1, qE_l, qE_r, qW_some]

/-! rows of numbers as one number, the first one highest -/
def qcd (f : Nat → Nat) : Nat → Nat
  | 0 => 0
  | n + 1 => 8 * qcd f n + f n
def qdx (x d : Nat) : Nat := x / 8 ^ d % 8
theorem qcd_lt {f : Nat → Nat} : ∀ n : Nat, (∀ i, i < n → f i < 8) → qcd f n < 8 ^ n := by
  intro n
  induction n with
  | zero => intro _; exact Nat.one_pos
  | succ n ih =>
    intro h
    have h1 := ih (fun i hi => h i (by omega))
    have h2 := h n (by omega)
    simp only [qcd, Nat.pow_succ]
    omega
theorem qcd_ext {f g : Nat → Nat} : ∀ n : Nat, (∀ i, i < n → f i = g i) → qcd f n = qcd g n := by
  intro n
  induction n with
  | zero => intro _; rfl
  | succ n ih =>
    intro h
    simp only [qcd]
    rw [ih (fun i hi => h i (by omega)), h n (by omega)]
theorem qcd_inj {f g : Nat → Nat} : ∀ n : Nat, (∀ i, i < n → f i < 8) → (∀ i, i < n → g i < 8) → qcd f n = qcd g n → ∀ i, i < n → f i = g i := by
  intro n
  induction n with
  | zero => intro _ _ _ i hi; omega
  | succ n ih =>
    intro hf hg h i hi
    have h1 := hf n (by omega)
    have h2 := hg n (by omega)
    simp only [qcd] at h
    by_cases e : i = n
    · subst e; omega
    · exact ih (fun i hi => hf i (by omega)) (fun i hi => hg i (by omega)) (by omega) i (by omega)
def qlx (n : Nat) (f g : Nat → Nat) : Prop := ∃ i, i < n ∧ (∀ j, j < i → f j = g j) ∧ f i < g i
theorem qcd_lx {f g : Nat → Nat} : ∀ n : Nat, (∀ i, i < n → f i < 8) → (∀ i, i < n → g i < 8) → (qcd f n < qcd g n ↔ qlx n f g) := by
  intro n
  induction n with
  | zero => intro _ _; exact ⟨fun z => absurd z (by simp [qcd]), fun ⟨i, i1, _⟩ => absurd i1 (by omega)⟩
  | succ n ih =>
    intro hf hg
    have h1 := hf n (by omega)
    have h2 := hg n (by omega)
    have ih2 := ih (fun i hi => hf i (by omega)) (fun i hi => hg i (by omega))
    have inj := qcd_inj n (fun i hi => hf i (by omega)) (fun i hi => hg i (by omega))
    simp only [qcd]
    constructor
    · intro h
      by_cases c : qcd f n < qcd g n
      · obtain ⟨i, i1, i2, i3⟩ := ih2.mp c
        exact ⟨i, by omega, i2, i3⟩
      · exact ⟨n, by omega, inj (by omega), by omega⟩
    · rintro ⟨i, i1, i2, i3⟩
      by_cases e : i = n
      · subst e
        have := qcd_ext i i2
        omega
      · have := ih2.mpr ⟨i, by omega, i2, i3⟩
        omega
theorem qdx_lt (x d : Nat) : qdx x d < 8 := Nat.mod_lt _ (by decide)
theorem qcd_dg {f : Nat → Nat} : ∀ (n i : Nat), (∀ i, i < n → f i < 8) → i < n → qdx (qcd f n) (n - 1 - i) = f i := by
  intro n
  induction n with
  | zero => intro i _ hi; omega
  | succ n ih =>
    intro i h hi
    have h2 := h n (by omega)
    unfold qdx
    simp only [qcd]
    by_cases e : i = n
    · subst e
      rw [show i + 1 - 1 - i = 0 by omega, Nat.pow_zero, Nat.div_one]
      omega
    · have := ih i (fun i hi => h i (by omega)) (by omega)
      unfold qdx at this
      rw [show n + 1 - 1 - i = (n - 1 - i) + 1 by omega, Nat.pow_succ, Nat.mul_comm (8 ^ (n - 1 - i)) 8, ← Nat.div_div_eq_div_mul, show (8 * qcd f n + f n) / 8 = qcd f n by omega]
      exact this
theorem qdx_or (a b d : Nat) : qdx (a ||| b) d = qdx a d ||| qdx b d := by
  unfold qdx
  rw [show 8 ^ d = 2 ^ (3 * d) from (q_8pow d).symm, ← Nat.shiftRight_eq_div_pow, ← Nat.shiftRight_eq_div_pow, ← Nat.shiftRight_eq_div_pow, Nat.shiftRight_or_distrib, show (8 : Nat) = 2 ^ 3 from rfl, Nat.or_mod_two_pow]
theorem qdx_at {v e d : Nat} (hv : v < 8) : qdx (8 ^ e * v) d = if d = e then v else 0 := by
  unfold qdx
  by_cases h : d = e
  · rw [if_pos h, h, Nat.mul_div_cancel_left _ (Nat.pow_pos (by decide)), Nat.mod_eq_of_lt hv]
  · rw [if_neg h]
    rcases Nat.lt_or_gt_of_ne h with l | l
    · obtain ⟨k, rfl⟩ : ∃ k, e = d + (k + 1) := ⟨e - d - 1, by omega⟩
      rw [Nat.pow_add, Nat.mul_assoc, Nat.mul_div_cancel_left _ (Nat.pow_pos (by decide)), Nat.pow_succ, Nat.mul_comm (8 ^ k) 8, Nat.mul_assoc]
      exact Nat.mul_mod_right 8 _
    · obtain ⟨k, rfl⟩ : ∃ k, d = e + (k + 1) := ⟨d - e - 1, by omega⟩
      rw [Nat.pow_add, ← Nat.div_div_eq_div_mul, Nat.mul_div_cancel_left _ (Nat.pow_pos (by decide)), Nat.div_eq_of_lt]
      rw [Nat.pow_succ]
      have : 1 ≤ 8 ^ k := Nat.one_le_pow _ _ (by decide)
      omega
/-- a number is told by its digits -/
theorem qcd_of {x : Nat} {f : Nat → Nat} : ∀ n : Nat, x < 8 ^ n → (∀ i, i < n → qdx x (n - 1 - i) = f i) → x = qcd f n := by
  intro n
  induction n generalizing x with
  | zero => intro h _; simp only [qcd]; simp at h; omega
  | succ n ih =>
    intro h hd
    have e0 := hd n (by omega)
    unfold qdx at e0
    rw [show n + 1 - 1 - n = 0 by omega, Nat.pow_zero, Nat.div_one] at e0
    rw [Nat.pow_succ] at h
    have := ih (x := x / 8) (by omega) (fun i hi => by
      have := hd i (by omega)
      unfold qdx at this ⊢
      rw [show n + 1 - 1 - i = (n - 1 - i) + 1 by omega, Nat.pow_succ, Nat.mul_comm (8 ^ (n - 1 - i)) 8, ← Nat.div_div_eq_div_mul] at this
      exact this)
    simp only [qcd]
    rw [← this, ← e0]
    omega
theorem q_8n {n : Nat} (h : n ≤ 5) : 8 ^ n ≤ 32768 := Nat.pow_le_pow_right (n := 8) (by decide) h
theorem q_numberAt {n i : Nat} {f : Nat → Nat} (hn : n ≤ 5) (hf : ∀ i, i < n → f i < 8) (hi : i < n) : f_X0_numberAt (nI n) (nI (qcd f n)) (nI i) = some (nI (f i)) := by
  have h1 := qcd_lt n hf
  have h2 := q_8n hn
  have h3 := qcd_dg n i hf hi
  unfold qdx at h3
  rw [show 8 ^ (n - 1 - i) = 2 ^ (3 * (n - 1 - i)) from (q_8pow _).symm] at h3
  simp (disch := first | omega | assumption) only [f_X0_numberAt, qn_lit, qn_ofNat, qn_neg1, qn_neg2, nI_add, pk_mul, qn_sub, qn_ltT, qn_ltF, qn_leT, qn_leF, qn_eqT, qn_eqF, qn_m1T, qn_m1F, qn_m1F2, qn_m1lt, qn_m1lt2, qn_m1le, qn_m1le2, qn_and1, qn_and3, qn_and7, qn_and15, qn_and31, qn_and255, qn_and2047, qn_shl, qn_shr, qn_or, qn_div, qn_modlt, Nat.reduceMod, Nat.reduceAdd, Nat.reduceMul, Nat.reducePow, Nat.reduceDiv, Nat.reduceSub, ↓reduceIte, qn_us, qn_un, not_true_eq_false, not_false_eq_true, true_and, and_true, qn_nn, qn_addm, qn_ngT, qn_ngF, qn_ngE, qn_ngE2, qn_ngL, qn_ngM, Nat.add_sub_cancel, qL, qS, qM, qV, qQ, qZ0, qZ1, qE_l, qE_r, qW_some, h3]
/-- new names -/
def qrn (n : Nat) (p f g : Nat → Nat) : Prop := ∀ i, i < n → g (p i) = p (f i)
theorem q_renamed {n : Nat} {p f g : Nat → Nat} (hn : n ≤ 5) (hp : qP n p) (hf : ∀ i, i < n → f i < n) (hg : qrn n p f g) : f_X0_renamed (nI n) (nI (qcd f n)) (nI (qcd p n)) = some (nI (qcd g n)) := by
  have f8 : ∀ i, i < n → f i < 8 := fun i hi => by have := hf i hi; omega
  have p8 : ∀ i, i < n → p i < 8 := fun i hi => by have := hp.1 i hi; omega
  have h8 := q_8n hn
  have loop : qW (f_X0_renamed_l5 (nI n) (nI (qcd f n)) (nI (qcd p n)) (nI 0) (nI 0)) (fun e => e = nI (qcd g n)) := by
    unfold f_X0_renamed_l5
    refine qfor 0 n (fun i z => ∃ x, z = (nI x, nI i) ∧ x < 8 ^ n ∧ (∀ j, j < i → qdx x (n - 1 - p j) = p (f j)) ∧ ∀ y, y < n → (∀ j, j < i → p j ≠ y) → qdx x (n - 1 - y) = 0) ⟨0, rfl, Nat.pow_pos (by decide), fun j hj => absurd hj (by omega), fun y _ _ => by unfold qdx; simp⟩ (by omega) (by omega) ?_ ?_
    · rintro i z - hi ⟨x, rfl, x1, x2, x3⟩
      have a1 := q_numberAt hn p8 hi
      have a2 := q_numberAt hn f8 hi
      have a3 := q_numberAt hn p8 (hf i hi)
      have b1 := hp.1 i hi
      have b2 := hp.1 (f i) (hf i hi)
      have vl : p (f i) < 8 := by omega
      have e1 : 2 ^ (3 * (n - 1 - p i)) * p (f i) = 8 ^ (n - 1 - p i) * p (f i) := by rw [q_8pow]
      have bb : 8 ^ (n - 1 - p i) * p (f i) < 8 ^ n := by
        have : 8 ^ (n - 1 - p i) * 8 ≤ 8 ^ n := by
          rw [← Nat.pow_succ]
          exact Nat.pow_le_pow_right (by decide) (by omega)
        have h1 : 1 ≤ 8 ^ (n - 1 - p i) := Nat.one_le_pow _ _ (by decide)
        have h2 := Nat.mul_lt_mul_of_pos_left vl h1
        omega
      have bo : x ||| 8 ^ (n - 1 - p i) * p (f i) < 8 ^ n := by
        have gen : ∀ y, y < 8 ^ n → x ||| y < 8 ^ n := fun y hy => by
          rw [← q_8pow] at x1 hy ⊢
          exact Nat.or_lt_two_pow x1 hy
        exact gen _ bb
      have sh : 3 * (n - 1 - p i) < 32 := by omega
      simp (disch := first | omega | assumption) only [f_X0_renamed_b5, a1, a2, a3, qn_lit, qn_ofNat, qn_neg1, qn_neg2, nI_add, pk_mul, qn_sub, qn_ltT, qn_ltF, qn_leT, qn_leF, qn_eqT, qn_eqF, qn_m1T, qn_m1F, qn_m1F2, qn_m1lt, qn_m1lt2, qn_m1le, qn_m1le2, qn_and1, qn_and3, qn_and7, qn_and15, qn_and31, qn_and255, qn_and2047, qn_shl, qn_shr, qn_or, qn_div, qn_modlt, Nat.reduceMod, Nat.reduceAdd, Nat.reduceMul, Nat.reducePow, Nat.reduceDiv, Nat.reduceSub, ↓reduceIte, qn_us, qn_un, not_true_eq_false, not_false_eq_true, true_and, and_true, qn_nn, qn_addm, qn_ngT, qn_ngF, qn_ngE, qn_ngE2, qn_ngL, qn_ngM, Nat.add_sub_cancel, qL, qS, qM, qV, qQ, qZ0, qZ1, qE_l, qE_r, qW_some, e1]
      refine ⟨_, rfl, bo, fun j hj => ?_, fun y hy hno => ?_⟩
      · rw [qdx_or, qdx_at vl]
        by_cases q : j = i
        · subst q
          rw [if_pos rfl, x3 (p j) b1 (fun k hk z => by have := hp.2 k j (by omega) hi z; omega), Nat.zero_or]
        · have pj := hp.1 j (by omega)
          have ne : p j ≠ p i := fun z => q (hp.2 j i (by omega) hi z)
          rw [if_neg (by omega), Nat.or_zero]
          exact x2 j (by omega)
      · have ne := hno i (by omega)
        rw [qdx_or, qdx_at vl, if_neg (by omega), Nat.or_zero]
        exact x3 y hy (fun k hk => hno k (by omega))
    · rintro z ⟨x, rfl, x1, x2, x3⟩
      simp (disch := first | omega | assumption) only [f_X0_renamed_b5, qn_lit, qn_ofNat, qn_neg1, qn_neg2, nI_add, pk_mul, qn_sub, qn_ltT, qn_ltF, qn_leT, qn_leF, qn_eqT, qn_eqF, qn_m1T, qn_m1F, qn_m1F2, qn_m1lt, qn_m1lt2, qn_m1le, qn_m1le2, qn_and1, qn_and3, qn_and7, qn_and15, qn_and31, qn_and255, qn_and2047, qn_shl, qn_shr, qn_or, qn_div, qn_modlt, Nat.reduceMod, Nat.reduceAdd, Nat.reduceMul, Nat.reducePow, Nat.reduceDiv, Nat.reduceSub, ↓reduceIte, qn_us, qn_un, not_true_eq_false, not_false_eq_true, true_and, and_true, qn_nn, qn_addm, qn_ngT, qn_ngF, qn_ngE, qn_ngE2, qn_ngL, qn_ngM, Nat.add_sub_cancel, qL, qS, qM, qV, qQ, qZ0, qZ1, qE_l, qE_r, qW_some]
      have : x = qcd g n := qcd_of n x1 (fun y hy => by
        obtain ⟨j, j1, rfl⟩ := qP_surj hp hy
        rw [x2 j j1, hg j j1])
      rw [this]
  obtain ⟨e, g1, rfl⟩ := loop
  simp (disch := first | omega | assumption) only [f_X0_renamed, g1, qn_lit, qn_ofNat, qn_neg1, qn_neg2, nI_add, pk_mul, qn_sub, qn_ltT, qn_ltF, qn_leT, qn_leF, qn_eqT, qn_eqF, qn_m1T, qn_m1F, qn_m1F2, qn_m1lt, qn_m1lt2, qn_m1le, qn_m1le2, qn_and1, qn_and3, qn_and7, qn_and15, qn_and31, qn_and255, qn_and2047, qn_shl, qn_shr, qn_or, qn_div, qn_modlt, Nat.reduceMod, Nat.reduceAdd, Nat.reduceMul, Nat.reducePow, Nat.reduceDiv, Nat.reduceSub, ↓reduceIte, qn_us, qn_un, not_true_eq_false, not_false_eq_true, true_and, and_true, qn_nn, qn_addm, qn_ngT, qn_ngF, qn_ngE, qn_ngE2, qn_ngL, qn_ngM, Nat.add_sub_cancel, qL, qS, qM, qV, qQ, qZ0, qZ1, qE_l, qE_r, qW_some]
theorem q_movesAll {n : Nat} {f : Nat → Nat} (hn : n ≤ 5) (hf : ∀ i, i < n → f i < 8) : ∃ b, b < 2 ∧ f_X0_movesAll (nI n) (nI (qcd f n)) = some (nI b) ∧ (b = 1 ↔ ∀ i, i < n → f i ≠ i) := by
  have loop : qW (f_X0_movesAll_l2 (nI n) (nI (qcd f n)) (nI 0)) (fun e => (e = Sum.inl () ∧ ¬ ∀ i, i < n → f i ≠ i) ∨ (e = Sum.inr () ∧ ∀ i, i < n → f i ≠ i)) := by
    unfold f_X0_movesAll_l2
    refine qfor 0 n (fun i z => z = nI i ∧ ∀ j, j < i → f j ≠ j) ⟨rfl, fun j hj => absurd hj (by omega)⟩ (by omega) (by omega) ?_ ?_
    · rintro i z - hi ⟨rfl, h⟩
      have a1 := q_numberAt hn hf hi
      have b1 := hf i hi
      by_cases q : f i = i
      · rw [q] at a1
        simp (disch := first | omega | assumption) only [f_X0_movesAll_b2, a1, qn_lit, qn_ofNat, qn_neg1, qn_neg2, nI_add, pk_mul, qn_sub, qn_ltT, qn_ltF, qn_leT, qn_leF, qn_eqT, qn_eqF, qn_m1T, qn_m1F, qn_m1F2, qn_m1lt, qn_m1lt2, qn_m1le, qn_m1le2, qn_and1, qn_and3, qn_and7, qn_and15, qn_and31, qn_and255, qn_and2047, qn_shl, qn_shr, qn_or, qn_div, qn_modlt, Nat.reduceMod, Nat.reduceAdd, Nat.reduceMul, Nat.reducePow, Nat.reduceDiv, Nat.reduceSub, ↓reduceIte, qn_us, qn_un, not_true_eq_false, not_false_eq_true, true_and, and_true, qn_nn, qn_addm, qn_ngT, qn_ngF, qn_ngE, qn_ngE2, qn_ngL, qn_ngM, Nat.add_sub_cancel, qL, qS, qM, qV, qQ, qZ0, qZ1, qE_l, qE_r, qW_some]
        exact Or.inl fun z => z i hi q
      · simp (disch := first | omega | assumption) only [f_X0_movesAll_b2, a1, qn_lit, qn_ofNat, qn_neg1, qn_neg2, nI_add, pk_mul, qn_sub, qn_ltT, qn_ltF, qn_leT, qn_leF, qn_eqT, qn_eqF, qn_m1T, qn_m1F, qn_m1F2, qn_m1lt, qn_m1lt2, qn_m1le, qn_m1le2, qn_and1, qn_and3, qn_and7, qn_and15, qn_and31, qn_and255, qn_and2047, qn_shl, qn_shr, qn_or, qn_div, qn_modlt, Nat.reduceMod, Nat.reduceAdd, Nat.reduceMul, Nat.reducePow, Nat.reduceDiv, Nat.reduceSub, ↓reduceIte, qn_us, qn_un, not_true_eq_false, not_false_eq_true, true_and, and_true, qn_nn, qn_addm, qn_ngT, qn_ngF, qn_ngE, qn_ngE2, qn_ngL, qn_ngM, Nat.add_sub_cancel, qL, qS, qM, qV, qQ, qZ0, qZ1, qE_l, qE_r, qW_some]
        intro j hj
        by_cases e : j = i
        · subst e; exact q
        · exact h j (by omega)
    · rintro z ⟨rfl, h⟩
      simp (disch := first | omega | assumption) only [f_X0_movesAll_b2, qn_lit, qn_ofNat, qn_neg1, qn_neg2, nI_add, pk_mul, qn_sub, qn_ltT, qn_ltF, qn_leT, qn_leF, qn_eqT, qn_eqF, qn_m1T, qn_m1F, qn_m1F2, qn_m1lt, qn_m1lt2, qn_m1le, qn_m1le2, qn_and1, qn_and3, qn_and7, qn_and15, qn_and31, qn_and255, qn_and2047, qn_shl, qn_shr, qn_or, qn_div, qn_modlt, Nat.reduceMod, Nat.reduceAdd, Nat.reduceMul, Nat.reducePow, Nat.reduceDiv, Nat.reduceSub, ↓reduceIte, qn_us, qn_un, not_true_eq_false, not_false_eq_true, true_and, and_true, qn_nn, qn_addm, qn_ngT, qn_ngF, qn_ngE, qn_ngE2, qn_ngL, qn_ngM, Nat.add_sub_cancel, qL, qS, qM, qV, qQ, qZ0, qZ1, qE_l, qE_r, qW_some]
      exact Or.inr h
  obtain ⟨e, g1, ⟨rfl, g2⟩ | ⟨rfl, g2⟩⟩ := loop
  · exact ⟨0, by decide, by simp (disch := first | omega | assumption) only [f_X0_movesAll, g1, qn_lit, qn_ofNat, qn_neg1, qn_neg2, nI_add, pk_mul, qn_sub, qn_ltT, qn_ltF, qn_leT, qn_leF, qn_eqT, qn_eqF, qn_m1T, qn_m1F, qn_m1F2, qn_m1lt, qn_m1lt2, qn_m1le, qn_m1le2, qn_and1, qn_and3, qn_and7, qn_and15, qn_and31, qn_and255, qn_and2047, qn_shl, qn_shr, qn_or, qn_div, qn_modlt, Nat.reduceMod, Nat.reduceAdd, Nat.reduceMul, Nat.reducePow, Nat.reduceDiv, Nat.reduceSub, ↓reduceIte, qn_us, qn_un, not_true_eq_false, not_false_eq_true, true_and, and_true, qn_nn, qn_addm, qn_ngT, qn_ngF, qn_ngE, qn_ngE2, qn_ngL, qn_ngM, Nat.add_sub_cancel, qL, qS, qM, qV, qQ, qZ0, qZ1, qE_l, qE_r, qW_some], ⟨fun z => absurd z (by decide), fun z => absurd z g2⟩⟩
  · exact ⟨1, by decide, by simp (disch := first | omega | assumption) only [f_X0_movesAll, g1, qn_lit, qn_ofNat, qn_neg1, qn_neg2, nI_add, pk_mul, qn_sub, qn_ltT, qn_ltF, qn_leT, qn_leF, qn_eqT, qn_eqF, qn_m1T, qn_m1F, qn_m1F2, qn_m1lt, qn_m1lt2, qn_m1le, qn_m1le2, qn_and1, qn_and3, qn_and7, qn_and15, qn_and31, qn_and255, qn_and2047, qn_shl, qn_shr, qn_or, qn_div, qn_modlt, Nat.reduceMod, Nat.reduceAdd, Nat.reduceMul, Nat.reducePow, Nat.reduceDiv, Nat.reduceSub, ↓reduceIte, qn_us, qn_un, not_true_eq_false, not_false_eq_true, true_and, and_true, qn_nn, qn_addm, qn_ngT, qn_ngF, qn_ngE, qn_ngE2, qn_ngL, qn_ngM, Nat.add_sub_cancel, qL, qS, qM, qV, qQ, qZ0, qZ1, qE_l, qE_r, qW_some], ⟨fun _ => g2, fun _ => rfl⟩⟩

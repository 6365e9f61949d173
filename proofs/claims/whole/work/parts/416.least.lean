/-! the reference's least -/
theorem q_l39 {n p y : Nat} {od : Nat → Int32} (h2 : 2 ≤ n) (h5 : n ≤ 5) (ho : qRO n (qfa n) od) (hp : p < qfa n) (hy : y < n) (a : Int32) : f_X12_isLeast_l39 (600, od) (nI p) a (nI y) (nI 0) = some (nI (qvi n (cO n p) y)) := by
  have h := q_orders h2 h5
  have N120 := h.2.2.1
  have P := h.2.2.2.1 p hp
  have b := qvi_B P
  have by' := b y hy
  have loop : qW (f_X12_isLeast_l39 (600, od) (nI p) a (nI y) (nI 0)) (fun e => e = nI (qvi n (cO n p) y)) := by
    unfold f_X12_isLeast_l39
    refine qfor 0 (qvi n (cO n p) y) (fun i z => z = nI i) rfl (by omega) (by omega) ?_ ?_
    · rintro i z - hi rfl
      have o := ho p hp i (by omega)
      have ne : cO n p i ≠ y := fun e => by
        have := P.2 i (qvi n (cO n p) y) (by omega) by'.1 (by rw [e, by'.2.1])
        omega
      have l := P.1 i (by omega)
      simp (disch := first | omega | assumption) only [f_X12_isLeast_b39, o, qn_lit, qn_ofNat, qn_neg1, qn_neg2, nI_add, pk_mul, qn_sub, qn_ltT, qn_ltF, qn_leT, qn_leF, qn_eqT, qn_eqF, qn_m1T, qn_m1F, qn_m1F2, qn_m1lt, qn_m1lt2, qn_m1le, qn_m1le2, qn_and1, qn_and3, qn_and7, qn_and15, qn_and31, qn_and255, qn_and2047, qn_shl, qn_shr, qn_or, qn_div, qn_modlt, Nat.reduceMod, Nat.reduceAdd, Nat.reduceMul, Nat.reducePow, Nat.reduceDiv, Nat.reduceSub, ↓reduceIte, qn_us, qn_un, not_true_eq_false, not_false_eq_true, true_and, and_true, qn_nn, qn_addm, qn_ngT, qn_ngF, qn_ngE, qn_ngE2, qn_ngL, qn_ngM, Nat.add_sub_cancel, qL, qS, qM, qV, qQ, qZ0, qZ1, qE_l, qE_r, qW_some]
    · rintro z rfl
      have o := ho p hp _ by'.1
      rw [by'.2.1] at o
      simp (disch := first | omega | assumption) only [f_X12_isLeast_b39, o, qn_lit, qn_ofNat, qn_neg1, qn_neg2, nI_add, pk_mul, qn_sub, qn_ltT, qn_ltF, qn_leT, qn_leF, qn_eqT, qn_eqF, qn_m1T, qn_m1F, qn_m1F2, qn_m1lt, qn_m1lt2, qn_m1le, qn_m1le2, qn_and1, qn_and3, qn_and7, qn_and15, qn_and31, qn_and255, qn_and2047, qn_shl, qn_shr, qn_or, qn_div, qn_modlt, Nat.reduceMod, Nat.reduceAdd, Nat.reduceMul, Nat.reducePow, Nat.reduceDiv, Nat.reduceSub, ↓reduceIte, qn_us, qn_un, not_true_eq_false, not_false_eq_true, true_and, and_true, qn_nn, qn_addm, qn_ngT, qn_ngF, qn_ngE, qn_ngE2, qn_ngL, qn_ngM, Nat.add_sub_cancel, qL, qS, qM, qV, qQ, qZ0, qZ1, qE_l, qE_r, qW_some]
  obtain ⟨e, g1, rfl⟩ := loop
  exact g1
/-- a pair's row -/
def qrw (n : Nat) (f g : Nat → Nat) (x : Nat) : Nat := if x < n then f x else g (x - n)
theorem qrw_lx {n : Nat} {f g f' g' : Nat → Nat} : qlx (2 * n) (qrw n f' g') (qrw n f g) ↔ qlx n f' f ∨ ((∀ i, i < n → f' i = f i) ∧ qlx n g' g) := by
  constructor
  · rintro ⟨i, i1, i2, i3⟩
    by_cases c : i < n
    · left
      refine ⟨i, c, fun j hj => ?_, ?_⟩
      · have := i2 j hj
        unfold qrw at this
        rwa [if_pos (by omega), if_pos (by omega)] at this
      · unfold qrw at i3
        rwa [if_pos c, if_pos c] at i3
    · right
      refine ⟨fun j hj => ?_, i - n, by omega, fun j hj => ?_, ?_⟩
      · have := i2 j (by omega)
        unfold qrw at this
        rwa [if_pos hj, if_pos hj] at this
      · have := i2 (n + j) (by omega)
        unfold qrw at this
        rwa [if_neg (by omega), if_neg (by omega), Nat.add_sub_cancel_left] at this
      · unfold qrw at i3
        rwa [if_neg c, if_neg c] at i3
  · rintro (⟨i, i1, i2, i3⟩ | ⟨h, i, i1, i2, i3⟩)
    · refine ⟨i, by omega, fun j hj => ?_, ?_⟩
      · unfold qrw
        rw [if_pos (by omega), if_pos (by omega)]; exact i2 j hj
      · unfold qrw
        rw [if_pos i1, if_pos i1]; exact i3
    · refine ⟨n + i, by omega, fun j hj => ?_, ?_⟩
      · unfold qrw
        by_cases c : j < n
        · rw [if_pos c, if_pos c]; exact h j c
        · rw [if_neg c, if_neg c]; exact i2 (j - n) (by omega)
      · unfold qrw
        rw [if_neg (by omega), if_neg (by omega), Nat.add_sub_cancel_left]; exact i3
theorem q_sign {n p w c : Nat} {od we ch : Nat → Int32} (h2 : 2 ≤ n) (h5 : n ≤ 5) (ho : qRO n (qfa n) od) (hp : p < qfa n) (hw : w < qfa n) (hc : c < qfa n) (rw1 : qR 0 n we (cO n w)) (rc1 : qR 0 n ch (cO n c)) : ∃ s, f_X12_isLeast_l14 (nI n) (8, ch) (600, od) (8, we) (nI p) (nI 0) (nI 0) = some s ∧ ((s = mI ∧ qac n (qfa n) (cO n) p (w * qfa n + c) < w * qfa n + c) ∨ ((s = nI 0 ∨ s = nI 1) ∧ ¬ qac n (qfa n) (cO n) p (w * qfa n + c) < w * qfa n + c)) := by
  have h := q_orders h2 h5
  have N120 := h.2.2.1
  have P := h.2.2.2.1 p hp
  have PW := h.2.2.2.1 w hw
  have PC := h.2.2.2.1 c hc
  have b := qvi_B P
  obtain ⟨a1, a2⟩ := qrni_s h hp hw
  obtain ⟨a3, a4⟩ := qrni_s h hp hc
  have Pw' := h.2.2.2.1 _ a1
  have Pc' := h.2.2.2.1 _ a3
  have lex : qac n (qfa n) (cO n) p (w * qfa n + c) < w * qfa n + c ↔ qlx (2 * n) (qrw n (cO n (qrni n (qfa n) (cO n) p w)) (cO n (qrni n (qfa n) (cO n) p c))) (qrw n (cO n w) (cO n c)) := by
    have dm := qdm (x := w) hc
    have e : qac n (qfa n) (cO n) p (w * qfa n + c) = qrni n (qfa n) (cO n) p w * qfa n + qrni n (qfa n) (cO n) p c := by
      unfold qac
      rw [dm.1, dm.2]
    rw [qrw_lx, ← qOr_lx h a1 hw, ← qOr_lx h a3 hc, e]
    have eqi : (∀ i, i < n → cO n (qrni n (qfa n) (cO n) p w) i = cO n w i) ↔ qrni n (qfa n) (cO n) p w = w := ⟨fun z => qOr_inj h a1 hw z, fun z i _ => by rw [z]⟩
    rw [eqi]
    generalize qrni n (qfa n) (cO n) p w = x at *
    generalize qrni n (qfa n) (cO n) p c = y at *
    generalize qfa n = N at *
    constructor
    · intro z
      rcases Nat.lt_trichotomy x w with d | d | d
      · exact Or.inl d
      · subst d; exact Or.inr ⟨rfl, by omega⟩
      · have := Nat.mul_le_mul_right N (show w + 1 ≤ x from d)
        rw [Nat.add_mul, Nat.one_mul] at this
        omega
    · rintro (d | ⟨rfl, d⟩)
      · have := Nat.mul_le_mul_right N (show x + 1 ≤ w from d)
        rw [Nat.add_mul, Nat.one_mul] at this
        omega
      · omega
  have lm : (nI 1 = nI 0) = False := qn_eqF (by decide) (by decide) (by decide)
  have loop : qW (f_X12_isLeast_l14 (nI n) (8, ch) (600, od) (8, we) (nI p) (nI 0) (nI 0)) (fun s => (s = mI ∧ qlx (2 * n) (qrw n (cO n (qrni n (qfa n) (cO n) p w)) (cO n (qrni n (qfa n) (cO n) p c))) (qrw n (cO n w) (cO n c))) ∨ ((s = nI 0 ∨ s = nI 1) ∧ ¬ qlx (2 * n) (qrw n (cO n (qrni n (qfa n) (cO n) p w)) (cO n (qrni n (qfa n) (cO n) p c))) (qrw n (cO n w) (cO n c)))) := by
    unfold f_X12_isLeast_l14
    refine qfor 0 (2 * n) (fun x z => ∃ s, z = (s, nI x) ∧ ((s = nI 0 ∧ ∀ y, y < x → qrw n (cO n (qrni n (qfa n) (cO n) p w)) (cO n (qrni n (qfa n) (cO n) p c)) y = qrw n (cO n w) (cO n c) y) ∨ (s = mI ∧ qlx (2 * n) (qrw n (cO n (qrni n (qfa n) (cO n) p w)) (cO n (qrni n (qfa n) (cO n) p c))) (qrw n (cO n w) (cO n c))) ∨ (s = nI 1 ∧ ¬ qlx (2 * n) (qrw n (cO n (qrni n (qfa n) (cO n) p w)) (cO n (qrni n (qfa n) (cO n) p c))) (qrw n (cO n w) (cO n c))))) ⟨nI 0, rfl, Or.inl ⟨rfl, fun y hy => absurd hy (by omega)⟩⟩ (by omega) (by omega) ?_ ?_
    · rintro x z - hx ⟨s, rfl, ⟨rfl, eqs⟩ | ⟨rfl, hs⟩ | ⟨rfl, hs⟩⟩
      · have key : ∃ y k0 its, y < n ∧ x - x / n * n = y ∧ x / n * n ≤ x ∧ x / n ≤ x ∧ its < n ∧ k0 < n ∧ qrw n (cO n w) (cO n c) x = k0 ∧ qrw n (cO n (qrni n (qfa n) (cO n) p w)) (cO n (qrni n (qfa n) (cO n) p c)) x = its ∧ f_X12_isLeast_b14 (nI n) (8, ch) (600, od) (8, we) (nI p) (nI 0) (nI x) = (if nI k0 ≤ nI its then if nI its ≤ nI k0 then some (Sum.inl (nI 0, nI (x + 1))) else some (Sum.inl (nI 1, nI (x + 1))) else some (Sum.inl (mI, nI (x + 1)))) := by
          obtain ⟨d1, d2⟩ := q_dm (r := x) (n := n)
          have dl : x / n ≤ x := Nat.div_le_self _ _
          by_cases c1 : x < n
          · have md : x % n = x := Nat.mod_eq_of_lt c1
            rw [md] at d2
            have f39 := q_l39 h2 h5 ho hp c1 (nI x)
            have bx := b x c1
            have ol := PW.1 _ bx.1
            have o1 := ho p hp _ ol
            have w1 := qR_0 rw1 c1
            have w2 := qR_0 rw1 bx.1
            have its : cO n (qrni n (qfa n) (cO n) p w) x = cO n p (cO n w (qvi n (cO n p) x)) := by
              have := a2 _ bx.1
              rw [bx.2.1] at this
              exact this
            refine ⟨x, cO n w x, cO n p (cO n w (qvi n (cO n p) x)), c1, d2, d1, dl, P.1 _ ol, PW.1 _ c1, by unfold qrw; rw [if_pos c1], by unfold qrw; rw [if_pos c1]; exact its, ?_⟩
            generalize cO n w (qvi n (cO n p) x) = u at *
            generalize qvi n (cO n p) x = v at *
            have vb := bx.1
            simp (disch := first | omega | assumption) only [f_X12_isLeast_b14, f_X12_isLeast_j86, f_X12_isLeast_j120, f_X12_isLeast_j147, f39, w1, w2, o1, d2, qn_lit, qn_ofNat, qn_neg1, qn_neg2, nI_add, pk_mul, qn_sub, qn_ltT, qn_ltF, qn_leT, qn_leF, qn_eqT, qn_eqF, qn_m1T, qn_m1F, qn_m1F2, qn_m1lt, qn_m1lt2, qn_m1le, qn_m1le2, qn_and1, qn_and3, qn_and7, qn_and15, qn_and31, qn_and255, qn_and2047, qn_shl, qn_shr, qn_or, qn_div, qn_modlt, Nat.reduceMod, Nat.reduceAdd, Nat.reduceMul, Nat.reducePow, Nat.reduceDiv, Nat.reduceSub, ↓reduceIte, qn_us, qn_un, not_true_eq_false, not_false_eq_true, true_and, and_true, qn_nn, qn_addm, qn_ngT, qn_ngF, qn_ngE, qn_ngE2, qn_ngL, qn_ngM, Nat.add_sub_cancel, qL, qS, qM, qV, qQ, qZ0, qZ1, qE_l, qE_r, qW_some]
          · have md : x % n = x - n := by
              rw [Nat.mod_eq_sub_mod (by omega), Nat.mod_eq_of_lt (by omega)]
            rw [md] at d2
            have c2 : x - n < n := by omega
            have f39 := q_l39 h2 h5 ho hp c2 (nI x)
            have bx := b (x - n) c2
            have ol := PC.1 _ bx.1
            have o1 := ho p hp _ ol
            have w1 := qR_0 rc1 c2
            have w2 := qR_0 rc1 bx.1
            have its : cO n (qrni n (qfa n) (cO n) p c) (x - n) = cO n p (cO n c (qvi n (cO n p) (x - n))) := by
              have := a4 _ bx.1
              rw [bx.2.1] at this
              exact this
            refine ⟨x - n, cO n c (x - n), cO n p (cO n c (qvi n (cO n p) (x - n))), c2, d2, d1, dl, P.1 _ ol, PC.1 _ c2, by unfold qrw; rw [if_neg c1], by unfold qrw; rw [if_neg c1]; exact its, ?_⟩
            generalize cO n c (qvi n (cO n p) (x - n)) = u at *
            generalize qvi n (cO n p) (x - n) = v at *
            generalize hxn : x - n = xn at *
            have vb := bx.1
            simp (disch := first | omega | assumption) only [f_X12_isLeast_b14, f_X12_isLeast_j86, f_X12_isLeast_j120, f_X12_isLeast_j147, f39, w1, w2, o1, d2, qn_lit, qn_ofNat, qn_neg1, qn_neg2, nI_add, pk_mul, qn_sub, qn_ltT, qn_ltF, qn_leT, qn_leF, qn_eqT, qn_eqF, qn_m1T, qn_m1F, qn_m1F2, qn_m1lt, qn_m1lt2, qn_m1le, qn_m1le2, qn_and1, qn_and3, qn_and7, qn_and15, qn_and31, qn_and255, qn_and2047, qn_shl, qn_shr, qn_or, qn_div, qn_modlt, Nat.reduceMod, Nat.reduceAdd, Nat.reduceMul, Nat.reducePow, Nat.reduceDiv, Nat.reduceSub, ↓reduceIte, qn_us, qn_un, not_true_eq_false, not_false_eq_true, true_and, and_true, qn_nn, qn_addm, qn_ngT, qn_ngF, qn_ngE, qn_ngE2, qn_ngL, qn_ngM, Nat.add_sub_cancel, qL, qS, qM, qV, qQ, qZ0, qZ1, qE_l, qE_r, qW_some]
        obtain ⟨y, k0, its, -, -, -, -, i1, i2, e1, e2, e3⟩ := key
        show qW (f_X12_isLeast_b14 (nI n) (8, ch) (600, od) (8, we) (nI p) (nI 0) (nI x)) _
        rw [e3]
        by_cases l1 : k0 ≤ its
        · by_cases l2 : its ≤ k0
          · simp (disch := first | omega | assumption) only [qn_lit, qn_ofNat, qn_neg1, qn_neg2, nI_add, pk_mul, qn_sub, qn_ltT, qn_ltF, qn_leT, qn_leF, qn_eqT, qn_eqF, qn_m1T, qn_m1F, qn_m1F2, qn_m1lt, qn_m1lt2, qn_m1le, qn_m1le2, qn_and1, qn_and3, qn_and7, qn_and15, qn_and31, qn_and255, qn_and2047, qn_shl, qn_shr, qn_or, qn_div, qn_modlt, Nat.reduceMod, Nat.reduceAdd, Nat.reduceMul, Nat.reducePow, Nat.reduceDiv, Nat.reduceSub, ↓reduceIte, qn_us, qn_un, not_true_eq_false, not_false_eq_true, true_and, and_true, qn_nn, qn_addm, qn_ngT, qn_ngF, qn_ngE, qn_ngE2, qn_ngL, qn_ngM, Nat.add_sub_cancel, qL, qS, qM, qV, qQ, qZ0, qZ1, qE_l, qE_r, qW_some]
            refine ⟨_, rfl, Or.inl ⟨rfl, fun z hz => ?_⟩⟩
            by_cases q : z = x
            · subst q; omega
            · exact eqs z (by omega)
          · simp (disch := first | omega | assumption) only [qn_lit, qn_ofNat, qn_neg1, qn_neg2, nI_add, pk_mul, qn_sub, qn_ltT, qn_ltF, qn_leT, qn_leF, qn_eqT, qn_eqF, qn_m1T, qn_m1F, qn_m1F2, qn_m1lt, qn_m1lt2, qn_m1le, qn_m1le2, qn_and1, qn_and3, qn_and7, qn_and15, qn_and31, qn_and255, qn_and2047, qn_shl, qn_shr, qn_or, qn_div, qn_modlt, Nat.reduceMod, Nat.reduceAdd, Nat.reduceMul, Nat.reducePow, Nat.reduceDiv, Nat.reduceSub, ↓reduceIte, qn_us, qn_un, not_true_eq_false, not_false_eq_true, true_and, and_true, qn_nn, qn_addm, qn_ngT, qn_ngF, qn_ngE, qn_ngE2, qn_ngL, qn_ngM, Nat.add_sub_cancel, qL, qS, qM, qV, qQ, qZ0, qZ1, qE_l, qE_r, qW_some]
            refine ⟨_, rfl, Or.inr (Or.inr ⟨rfl, ?_⟩)⟩
            rintro ⟨i, k1, k2, k3⟩
            rcases Nat.lt_trichotomy i x with q | q | q
            · have := eqs i q; omega
            · subst q; omega
            · have := k2 x q; omega
        · simp (disch := first | omega | assumption) only [qn_lit, qn_ofNat, qn_neg1, qn_neg2, nI_add, pk_mul, qn_sub, qn_ltT, qn_ltF, qn_leT, qn_leF, qn_eqT, qn_eqF, qn_m1T, qn_m1F, qn_m1F2, qn_m1lt, qn_m1lt2, qn_m1le, qn_m1le2, qn_and1, qn_and3, qn_and7, qn_and15, qn_and31, qn_and255, qn_and2047, qn_shl, qn_shr, qn_or, qn_div, qn_modlt, Nat.reduceMod, Nat.reduceAdd, Nat.reduceMul, Nat.reducePow, Nat.reduceDiv, Nat.reduceSub, ↓reduceIte, qn_us, qn_un, not_true_eq_false, not_false_eq_true, true_and, and_true, qn_nn, qn_addm, qn_ngT, qn_ngF, qn_ngE, qn_ngE2, qn_ngL, qn_ngM, Nat.add_sub_cancel, qL, qS, qM, qV, qQ, qZ0, qZ1, qE_l, qE_r, qW_some]
          exact ⟨_, rfl, Or.inr (Or.inl ⟨rfl, x, by omega, eqs, by omega⟩)⟩
      · simp (disch := first | omega | assumption) only [f_X12_isLeast_b14, qn_lit, qn_ofNat, qn_neg1, qn_neg2, nI_add, pk_mul, qn_sub, qn_ltT, qn_ltF, qn_leT, qn_leF, qn_eqT, qn_eqF, qn_m1T, qn_m1F, qn_m1F2, qn_m1lt, qn_m1lt2, qn_m1le, qn_m1le2, qn_and1, qn_and3, qn_and7, qn_and15, qn_and31, qn_and255, qn_and2047, qn_shl, qn_shr, qn_or, qn_div, qn_modlt, Nat.reduceMod, Nat.reduceAdd, Nat.reduceMul, Nat.reducePow, Nat.reduceDiv, Nat.reduceSub, ↓reduceIte, qn_us, qn_un, not_true_eq_false, not_false_eq_true, true_and, and_true, qn_nn, qn_addm, qn_ngT, qn_ngF, qn_ngE, qn_ngE2, qn_ngL, qn_ngM, Nat.add_sub_cancel, qL, qS, qM, qV, qQ, qZ0, qZ1, qE_l, qE_r, qW_some]
        exact Or.inl hs
      · simp (disch := first | omega | assumption) only [f_X12_isLeast_b14, lm, qn_lit, qn_ofNat, qn_neg1, qn_neg2, nI_add, pk_mul, qn_sub, qn_ltT, qn_ltF, qn_leT, qn_leF, qn_eqT, qn_eqF, qn_m1T, qn_m1F, qn_m1F2, qn_m1lt, qn_m1lt2, qn_m1le, qn_m1le2, qn_and1, qn_and3, qn_and7, qn_and15, qn_and31, qn_and255, qn_and2047, qn_shl, qn_shr, qn_or, qn_div, qn_modlt, Nat.reduceMod, Nat.reduceAdd, Nat.reduceMul, Nat.reducePow, Nat.reduceDiv, Nat.reduceSub, ↓reduceIte, qn_us, qn_un, not_true_eq_false, not_false_eq_true, true_and, and_true, qn_nn, qn_addm, qn_ngT, qn_ngF, qn_ngE, qn_ngE2, qn_ngL, qn_ngM, Nat.add_sub_cancel, qL, qS, qM, qV, qQ, qZ0, qZ1, qE_l, qE_r, qW_some]
        exact Or.inr ⟨Or.inr trivial, hs⟩
    · rintro z ⟨s, rfl, ⟨rfl, eqs⟩ | ⟨rfl, hs⟩ | ⟨rfl, hs⟩⟩
      · simp (disch := first | omega | assumption) only [f_X12_isLeast_b14, qn_lit, qn_ofNat, qn_neg1, qn_neg2, nI_add, pk_mul, qn_sub, qn_ltT, qn_ltF, qn_leT, qn_leF, qn_eqT, qn_eqF, qn_m1T, qn_m1F, qn_m1F2, qn_m1lt, qn_m1lt2, qn_m1le, qn_m1le2, qn_and1, qn_and3, qn_and7, qn_and15, qn_and31, qn_and255, qn_and2047, qn_shl, qn_shr, qn_or, qn_div, qn_modlt, Nat.reduceMod, Nat.reduceAdd, Nat.reduceMul, Nat.reducePow, Nat.reduceDiv, Nat.reduceSub, ↓reduceIte, qn_us, qn_un, not_true_eq_false, not_false_eq_true, true_and, and_true, qn_nn, qn_addm, qn_ngT, qn_ngF, qn_ngE, qn_ngE2, qn_ngL, qn_ngM, Nat.add_sub_cancel, qL, qS, qM, qV, qQ, qZ0, qZ1, qE_l, qE_r, qW_some]
        refine Or.inr ⟨Or.inl trivial, ?_⟩
        rintro ⟨i, k1, k2, k3⟩
        have := eqs i k1
        omega
      · simp (disch := first | omega | assumption) only [f_X12_isLeast_b14, qn_lit, qn_ofNat, qn_neg1, qn_neg2, nI_add, pk_mul, qn_sub, qn_ltT, qn_ltF, qn_leT, qn_leF, qn_eqT, qn_eqF, qn_m1T, qn_m1F, qn_m1F2, qn_m1lt, qn_m1lt2, qn_m1le, qn_m1le2, qn_and1, qn_and3, qn_and7, qn_and15, qn_and31, qn_and255, qn_and2047, qn_shl, qn_shr, qn_or, qn_div, qn_modlt, Nat.reduceMod, Nat.reduceAdd, Nat.reduceMul, Nat.reducePow, Nat.reduceDiv, Nat.reduceSub, ↓reduceIte, qn_us, qn_un, not_true_eq_false, not_false_eq_true, true_and, and_true, qn_nn, qn_addm, qn_ngT, qn_ngF, qn_ngE, qn_ngE2, qn_ngL, qn_ngM, Nat.add_sub_cancel, qL, qS, qM, qV, qQ, qZ0, qZ1, qE_l, qE_r, qW_some]
        exact Or.inl hs
      · simp (disch := first | omega | assumption) only [f_X12_isLeast_b14, qn_lit, qn_ofNat, qn_neg1, qn_neg2, nI_add, pk_mul, qn_sub, qn_ltT, qn_ltF, qn_leT, qn_leF, qn_eqT, qn_eqF, qn_m1T, qn_m1F, qn_m1F2, qn_m1lt, qn_m1lt2, qn_m1le, qn_m1le2, qn_and1, qn_and3, qn_and7, qn_and15, qn_and31, qn_and255, qn_and2047, qn_shl, qn_shr, qn_or, qn_div, qn_modlt, Nat.reduceMod, Nat.reduceAdd, Nat.reduceMul, Nat.reducePow, Nat.reduceDiv, Nat.reduceSub, ↓reduceIte, qn_us, qn_un, not_true_eq_false, not_false_eq_true, true_and, and_true, qn_nn, qn_addm, qn_ngT, qn_ngF, qn_ngE, qn_ngE2, qn_ngL, qn_ngM, Nat.add_sub_cancel, qL, qS, qM, qV, qQ, qZ0, qZ1, qE_l, qE_r, qW_some]
        exact Or.inr ⟨Or.inr trivial, hs⟩
  obtain ⟨s, g1, g2⟩ := loop
  rw [← lex] at g2
  exact ⟨s, g1, g2⟩
theorem q_isLeast {n w c : Nat} {od we ch : Nat → Int32} (h2 : 2 ≤ n) (h5 : n ≤ 5) (ho : qRO n (qfa n) od) (hw : w < qfa n) (hc : c < qfa n) (rw1 : qR 0 n we (cO n w)) (rc1 : qR 0 n ch (cO n c)) : ∃ b, b < 2 ∧ f_X12_isLeast (nI n) (nI (qfa n)) (8, ch) (600, od) (8, we) = some (nI b) ∧ (b = 1 ↔ qMi (qfa n) (qac n (qfa n) (cO n)) (w * qfa n + c)) := by
  have N120 := (q_orders h2 h5).2.2.1
  have lm : (nI 0 ≤ mI) = False := eq_false (by decide)
  have loop : qW (f_X12_isLeast_l2 (nI n) (nI (qfa n)) (8, ch) (600, od) (8, we) (nI 0)) (fun e => (e = Sum.inl () ∧ ¬ qMi (qfa n) (qac n (qfa n) (cO n)) (w * qfa n + c)) ∨ (e = Sum.inr () ∧ qMi (qfa n) (qac n (qfa n) (cO n)) (w * qfa n + c))) := by
    unfold f_X12_isLeast_l2
    refine qfor 0 (qfa n) (fun p z => z = nI p ∧ ∀ q, q < p → ¬ qac n (qfa n) (cO n) q (w * qfa n + c) < w * qfa n + c) ⟨rfl, fun q hq => absurd hq (by omega)⟩ (by omega) (by omega) ?_ ?_
    · rintro p z - hp ⟨rfl, hq⟩
      obtain ⟨s, s1, ⟨rfl, s2⟩ | ⟨s2, s3⟩⟩ := q_sign h2 h5 ho hp hw hc rw1 rc1
      · simp (disch := first | omega | assumption) only [f_X12_isLeast_b2, f_X12_isLeast_j154, s1, lm, qn_lit, qn_ofNat, qn_neg1, qn_neg2, nI_add, pk_mul, qn_sub, qn_ltT, qn_ltF, qn_leT, qn_leF, qn_eqT, qn_eqF, qn_m1T, qn_m1F, qn_m1F2, qn_m1lt, qn_m1lt2, qn_m1le, qn_m1le2, qn_and1, qn_and3, qn_and7, qn_and15, qn_and31, qn_and255, qn_and2047, qn_shl, qn_shr, qn_or, qn_div, qn_modlt, Nat.reduceMod, Nat.reduceAdd, Nat.reduceMul, Nat.reducePow, Nat.reduceDiv, Nat.reduceSub, ↓reduceIte, qn_us, qn_un, not_true_eq_false, not_false_eq_true, true_and, and_true, qn_nn, qn_addm, qn_ngT, qn_ngF, qn_ngE, qn_ngE2, qn_ngL, qn_ngM, Nat.add_sub_cancel, qL, qS, qM, qV, qQ, qZ0, qZ1, qE_l, qE_r, qW_some]
        exact Or.inl fun z => z p hp s2
      · have nx : ∀ q, q < p + 1 → ¬ qac n (qfa n) (cO n) q (w * qfa n + c) < w * qfa n + c := by
          intro q hq2
          by_cases e : q = p
          · rw [e]; exact s3
          · exact hq q (by omega)
        rcases s2 with rfl | rfl
        · simp (disch := first | omega | assumption) only [f_X12_isLeast_b2, f_X12_isLeast_j154, s1, qn_lit, qn_ofNat, qn_neg1, qn_neg2, nI_add, pk_mul, qn_sub, qn_ltT, qn_ltF, qn_leT, qn_leF, qn_eqT, qn_eqF, qn_m1T, qn_m1F, qn_m1F2, qn_m1lt, qn_m1lt2, qn_m1le, qn_m1le2, qn_and1, qn_and3, qn_and7, qn_and15, qn_and31, qn_and255, qn_and2047, qn_shl, qn_shr, qn_or, qn_div, qn_modlt, Nat.reduceMod, Nat.reduceAdd, Nat.reduceMul, Nat.reducePow, Nat.reduceDiv, Nat.reduceSub, ↓reduceIte, qn_us, qn_un, not_true_eq_false, not_false_eq_true, true_and, and_true, qn_nn, qn_addm, qn_ngT, qn_ngF, qn_ngE, qn_ngE2, qn_ngL, qn_ngM, Nat.add_sub_cancel, qL, qS, qM, qV, qQ, qZ0, qZ1, qE_l, qE_r, qW_some]
          exact nx
        · simp (disch := first | omega | assumption) only [f_X12_isLeast_b2, f_X12_isLeast_j154, s1, qn_lit, qn_ofNat, qn_neg1, qn_neg2, nI_add, pk_mul, qn_sub, qn_ltT, qn_ltF, qn_leT, qn_leF, qn_eqT, qn_eqF, qn_m1T, qn_m1F, qn_m1F2, qn_m1lt, qn_m1lt2, qn_m1le, qn_m1le2, qn_and1, qn_and3, qn_and7, qn_and15, qn_and31, qn_and255, qn_and2047, qn_shl, qn_shr, qn_or, qn_div, qn_modlt, Nat.reduceMod, Nat.reduceAdd, Nat.reduceMul, Nat.reducePow, Nat.reduceDiv, Nat.reduceSub, ↓reduceIte, qn_us, qn_un, not_true_eq_false, not_false_eq_true, true_and, and_true, qn_nn, qn_addm, qn_ngT, qn_ngF, qn_ngE, qn_ngE2, qn_ngL, qn_ngM, Nat.add_sub_cancel, qL, qS, qM, qV, qQ, qZ0, qZ1, qE_l, qE_r, qW_some]
          exact nx
    · rintro z ⟨rfl, hq⟩
      simp (disch := first | omega | assumption) only [f_X12_isLeast_b2, qn_lit, qn_ofNat, qn_neg1, qn_neg2, nI_add, pk_mul, qn_sub, qn_ltT, qn_ltF, qn_leT, qn_leF, qn_eqT, qn_eqF, qn_m1T, qn_m1F, qn_m1F2, qn_m1lt, qn_m1lt2, qn_m1le, qn_m1le2, qn_and1, qn_and3, qn_and7, qn_and15, qn_and31, qn_and255, qn_and2047, qn_shl, qn_shr, qn_or, qn_div, qn_modlt, Nat.reduceMod, Nat.reduceAdd, Nat.reduceMul, Nat.reducePow, Nat.reduceDiv, Nat.reduceSub, ↓reduceIte, qn_us, qn_un, not_true_eq_false, not_false_eq_true, true_and, and_true, qn_nn, qn_addm, qn_ngT, qn_ngF, qn_ngE, qn_ngE2, qn_ngL, qn_ngM, Nat.add_sub_cancel, qL, qS, qM, qV, qQ, qZ0, qZ1, qE_l, qE_r, qW_some]
      exact Or.inr hq
  obtain ⟨e, g1, ⟨rfl, g2⟩ | ⟨rfl, g2⟩⟩ := loop
  · exact ⟨0, by decide, by simp (disch := first | omega | assumption) only [f_X12_isLeast, g1, qn_lit, qn_ofNat, qn_neg1, qn_neg2, nI_add, pk_mul, qn_sub, qn_ltT, qn_ltF, qn_leT, qn_leF, qn_eqT, qn_eqF, qn_m1T, qn_m1F, qn_m1F2, qn_m1lt, qn_m1lt2, qn_m1le, qn_m1le2, qn_and1, qn_and3, qn_and7, qn_and15, qn_and31, qn_and255, qn_and2047, qn_shl, qn_shr, qn_or, qn_div, qn_modlt, Nat.reduceMod, Nat.reduceAdd, Nat.reduceMul, Nat.reducePow, Nat.reduceDiv, Nat.reduceSub, ↓reduceIte, qn_us, qn_un, not_true_eq_false, not_false_eq_true, true_and, and_true, qn_nn, qn_addm, qn_ngT, qn_ngF, qn_ngE, qn_ngE2, qn_ngL, qn_ngM, Nat.add_sub_cancel, qL, qS, qM, qV, qQ, qZ0, qZ1, qE_l, qE_r, qW_some], ⟨fun z => absurd z (by decide), fun z => absurd z g2⟩⟩
  · exact ⟨1, by decide, by simp (disch := first | omega | assumption) only [f_X12_isLeast, g1, qn_lit, qn_ofNat, qn_neg1, qn_neg2, nI_add, pk_mul, qn_sub, qn_ltT, qn_ltF, qn_leT, qn_leF, qn_eqT, qn_eqF, qn_m1T, qn_m1F, qn_m1F2, qn_m1lt, qn_m1lt2, qn_m1le, qn_m1le2, qn_and1, qn_and3, qn_and7, qn_and15, qn_and31, qn_and255, qn_and2047, qn_shl, qn_shr, qn_or, qn_div, qn_modlt, Nat.reduceMod, Nat.reduceAdd, Nat.reduceMul, Nat.reducePow, Nat.reduceDiv, Nat.reduceSub, ↓reduceIte, qn_us, qn_un, not_true_eq_false, not_false_eq_true, true_and, and_true, qn_nn, qn_addm, qn_ngT, qn_ngF, qn_ngE, qn_ngE2, qn_ngL, qn_ngM, Nat.add_sub_cancel, qL, qS, qM, qV, qQ, qZ0, qZ1, qE_l, qE_r, qW_some], ⟨fun _ => g2, fun _ => rfl⟩⟩

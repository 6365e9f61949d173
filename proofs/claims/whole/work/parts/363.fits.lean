/-! fits, to its end -/
theorem qct_one {P Q : Nat → Prop} {p : Nat} (hP : P p) (hQ : ¬ Q p) (he : ∀ q, q ≠ p → (P q ↔ Q q)) : ∀ n, p < n → qct Q n + 1 = qct P n := by
  intro n
  induction n with
  | zero => intro h; omega
  | succ n ih =>
    intro h
    by_cases e : n = p
    · subst e
      rw [qct_T hP, qct_F hQ, qct_ext (fun i hi => he i (by omega))]
    · have := ih (by omega)
      have h2 := he n e
      by_cases q : P n
      · rw [qct_T q, qct_T (h2.mp q)]; omega
      · rw [qct_F q, qct_F (fun z => q (h2.mpr z))]; omega
theorem q_mIne {x : Nat} (h : x < 2147483648) : ¬ nI x = mI := of_eq_false (qn_m1F h)
def qhs (c n : Nat) (W C V : Nat → Nat) (E : Nat → Nat → Nat → Prop) (h r : Nat) (hs : Nat → Int32) : Prop := (∀ p, p < c → hs p = mI ∨ ∃ x, hs p = nI x ∧ qfo n W C V E h r p x) ∧ hs h = nI r ∧ r < n
theorem qhs_up {c n : Nat} {W C V : Nat → Nat} {E : Nat → Nat → Nat → Prop} {h r p x : Nat} {hs : Nat → Int32} (hn : n ≤ 8) (hH : qhs c n W C V E h r hs) (hp : hs p = mI) (hf : qfo n W C V E h r p x) : qhs c n W C V E h r (upd hs p (nI x)) := by
  obtain ⟨h1, y1, y2⟩ := hH
  refine ⟨fun q hq => ?_, ?_, y2⟩
  · by_cases e : q = p
    · rw [e, pk_us]; exact Or.inr ⟨x, rfl, hf⟩
    · rw [pk_un e]; exact h1 q hq
  · have : h ≠ p := fun e => by
      rw [← e, y1] at hp
      exact q_mIne (by omega) hp
    rw [pk_un this]
    exact y1
theorem q_fits1 {c n m h r : Nat} {W C V U : Nat → Nat} {E : Nat → Nat → Nat → Prop} {t1 t2 t3 : Nat → Nat} {R_child : Nat → Int32} {R_childBack : Nat → Int32} {R_tieKind : Nat → Int32} {R_tieOne : Nat → Int32} {R_tieTwo : Nat → Int32} {R_weds : Nat → Int32} {R_wedsBack : Nat → Int32} {R_has : Nat → Int32} (hx : qXw n W C V U R_weds R_child R_wedsBack R_childBack) (hc : c ≤ 24) (hm : m ≤ 72) (hE : ∀ a b k, E a b k → a < c ∧ b < c ∧ a ≠ b ∧ k < 3) (h1 : qTI m t1 t2 t3 R_tieOne R_tieTwo R_tieKind) (h2 : qTE m t1 t2 t3 E) (h3 : qhs c n W C V E h r R_has) : qW (f_X12_fits_l43 (nI m) (8, R_child) (8, R_childBack) (72, R_tieKind) (72, R_tieOne) (72, R_tieTwo) (8, R_weds) (8, R_wedsBack) (24, R_has) (nI 0) (nI 0)) (fun e => ∃ hs f, e = ((24, hs), nI f) ∧ f < 2 ∧ qhs c n W C V E h r hs ∧ (f = 1 → qct (fun p => hs p = mI) c < qct (fun p => R_has p = mI) c) ∧ (f = 0 → hs = R_has ∧ ∀ a b k, E a b k → (hs a = mI ↔ hs b = mI))) := by
  have hn := hx.1.1
  unfold f_X12_fits_l43
  refine qfor 0 m (fun i z => ∃ hs f, z = ((24, hs), nI f, nI i) ∧ f < 2 ∧ qhs c n W C V E h r hs ∧ (f = 1 → qct (fun p => hs p = mI) c < qct (fun p => R_has p = mI) c) ∧ qct (fun p => hs p = mI) c ≤ qct (fun p => R_has p = mI) c ∧ (f = 0 → hs = R_has ∧ ∀ j, j < i → (hs (t1 j) = mI ↔ hs (t2 j) = mI))) ⟨_, 0, rfl, by decide, h3, fun q => absurd q (by decide), Nat.le_refl _, fun _ => ⟨rfl, fun j hj => absurd hj (by omega)⟩⟩ (by omega) (by omega) ?_ ?_
  · rintro i z - hi ⟨hs, f, rfl, f1, f2, f3, f4, f5⟩
    obtain ⟨e1, e2, e3⟩ := h1 i hi
    have hEi := h2.1 i hi
    obtain ⟨a1, b1, ab, k3⟩ := hE _ _ _ hEi
    generalize ha : t1 i = a at *
    generalize hb : t2 i = b at *
    generalize hk : t3 i = k at *
    have same : (hs a = mI ↔ hs b = mI) → ∃ hs' f', ((24, hs), nI f, nI (i + 1)) = (((24, hs') : jA), nI f', nI (i + 1)) ∧ f' < 2 ∧ qhs c n W C V E h r hs' ∧ (f' = 1 → qct (fun p => hs' p = mI) c < qct (fun p => R_has p = mI) c) ∧ qct (fun p => hs' p = mI) c ≤ qct (fun p => R_has p = mI) c ∧ (f' = 0 → hs' = R_has ∧ ∀ j, j < i + 1 → (hs' (t1 j) = mI ↔ hs' (t2 j) = mI)) := by
      intro q
      refine ⟨hs, f, rfl, f1, f2, f3, f4, fun f0 => ⟨(f5 f0).1, fun j hj => ?_⟩⟩
      by_cases e : j = i
      · rw [e, ha, hb]; exact q
      · exact (f5 f0).2 j (by omega)
    have chg : ∀ p x, p < c → hs p = mI → qfo n W C V E h r p x → ∃ hs' f', ((24, upd hs p (nI x)), nI 1, nI (i + 1)) = (((24, hs') : jA), nI f', nI (i + 1)) ∧ f' < 2 ∧ qhs c n W C V E h r hs' ∧ (f' = 1 → qct (fun p => hs' p = mI) c < qct (fun p => R_has p = mI) c) ∧ qct (fun p => hs' p = mI) c ≤ qct (fun p => R_has p = mI) c ∧ (f' = 0 → hs' = R_has ∧ ∀ j, j < i + 1 → (hs' (t1 j) = mI ↔ hs' (t2 j) = mI)) := by
      intro p x hp hpm hf
      have hx := hf.1
      have c1 := qct_one (P := fun q => hs q = mI) (Q := fun q => upd hs p (nI x) q = mI) (p := p) hpm (by show ¬ upd hs p (nI x) p = mI; rw [pk_us]; exact q_mIne (by omega)) (fun q hq => by show _ ↔ upd hs p (nI x) q = mI; rw [pk_un hq]) c hp
      exact ⟨_, 1, rfl, by decide, qhs_up hn f2 hpm hf, fun _ => by omega, by omega, fun q => absurd q (by decide)⟩
    rcases f2.1 a a1 with q | ⟨x, x1, x2⟩
    · rcases f2.1 b b1 with q' | ⟨y, y1, y2⟩
      · simp (disch := first | omega | assumption) only [f_X12_fits_b43, f_X12_fits_j122, f_X12_fits_j171, e1, e2, q, q', qn_lit, qn_ofNat, qn_neg1, qn_neg2, nI_add, pk_mul, qn_sub, qn_ltT, qn_ltF, qn_leT, qn_leF, qn_eqT, qn_eqF, qn_m1T, qn_m1F, qn_m1F2, qn_m1lt, qn_m1lt2, qn_m1le, qn_m1le2, qn_and1, qn_and3, qn_and7, qn_and15, qn_and31, qn_and255, qn_and2047, qn_shl, qn_shr, qn_or, qn_div, qn_modlt, Nat.reduceMod, Nat.reduceAdd, Nat.reduceMul, Nat.reducePow, Nat.reduceDiv, Nat.reduceSub, ↓reduceIte, qn_us, qn_un, not_true_eq_false, not_false_eq_true, true_and, and_true, qn_nn, qn_addm, qn_ngT, qn_ngF, qn_ngE, qn_ngE2, qn_ngL, qn_ngM, Nat.add_sub_cancel, qL, qS, qM, qV, qQ, qZ0, qZ1, qE_l, qE_r, qW_some]
        exact same ⟨fun _ => q', fun _ => q⟩
      · have yn := y2.1
        have ob := q_overBack hx k3 yn
        simp (disch := first | omega | assumption) only [f_X12_fits_b43, f_X12_fits_j122, f_X12_fits_j171, e1, e2, e3, q, y1, ob, qn_lit, qn_ofNat, qn_neg1, qn_neg2, nI_add, pk_mul, qn_sub, qn_ltT, qn_ltF, qn_leT, qn_leF, qn_eqT, qn_eqF, qn_m1T, qn_m1F, qn_m1F2, qn_m1lt, qn_m1lt2, qn_m1le, qn_m1le2, qn_and1, qn_and3, qn_and7, qn_and15, qn_and31, qn_and255, qn_and2047, qn_shl, qn_shr, qn_or, qn_div, qn_modlt, Nat.reduceMod, Nat.reduceAdd, Nat.reduceMul, Nat.reducePow, Nat.reduceDiv, Nat.reduceSub, ↓reduceIte, qn_us, qn_un, not_true_eq_false, not_false_eq_true, true_and, and_true, qn_nn, qn_addm, qn_ngT, qn_ngF, qn_ngE, qn_ngE2, qn_ngL, qn_ngM, Nat.add_sub_cancel, qL, qS, qM, qV, qQ, qZ0, qZ1, qE_l, qE_r, qW_some]
        exact chg a _ a1 q (qfo_b hx.1 hEi y2)
    · have xn := x2.1
      rcases f2.1 b b1 with q' | ⟨y, y1, y2⟩
      · have ov := q_over hx k3 xn
        simp (disch := first | omega | assumption) only [f_X12_fits_b43, f_X12_fits_j171, e1, e2, e3, x1, q', ov, qn_lit, qn_ofNat, qn_neg1, qn_neg2, nI_add, pk_mul, qn_sub, qn_ltT, qn_ltF, qn_leT, qn_leF, qn_eqT, qn_eqF, qn_m1T, qn_m1F, qn_m1F2, qn_m1lt, qn_m1lt2, qn_m1le, qn_m1le2, qn_and1, qn_and3, qn_and7, qn_and15, qn_and31, qn_and255, qn_and2047, qn_shl, qn_shr, qn_or, qn_div, qn_modlt, Nat.reduceMod, Nat.reduceAdd, Nat.reduceMul, Nat.reducePow, Nat.reduceDiv, Nat.reduceSub, ↓reduceIte, qn_us, qn_un, not_true_eq_false, not_false_eq_true, true_and, and_true, qn_nn, qn_addm, qn_ngT, qn_ngF, qn_ngE, qn_ngE2, qn_ngL, qn_ngM, Nat.add_sub_cancel, qL, qS, qM, qV, qQ, qZ0, qZ1, qE_l, qE_r, qW_some]
        exact chg b _ b1 q' (qfo_f hx.1 hEi x2)
      · have yn := y2.1
        simp (disch := first | omega | assumption) only [f_X12_fits_b43, f_X12_fits_j122, f_X12_fits_j171, e1, e2, x1, y1, qn_lit, qn_ofNat, qn_neg1, qn_neg2, nI_add, pk_mul, qn_sub, qn_ltT, qn_ltF, qn_leT, qn_leF, qn_eqT, qn_eqF, qn_m1T, qn_m1F, qn_m1F2, qn_m1lt, qn_m1lt2, qn_m1le, qn_m1le2, qn_and1, qn_and3, qn_and7, qn_and15, qn_and31, qn_and255, qn_and2047, qn_shl, qn_shr, qn_or, qn_div, qn_modlt, Nat.reduceMod, Nat.reduceAdd, Nat.reduceMul, Nat.reducePow, Nat.reduceDiv, Nat.reduceSub, ↓reduceIte, qn_us, qn_un, not_true_eq_false, not_false_eq_true, true_and, and_true, qn_nn, qn_addm, qn_ngT, qn_ngF, qn_ngE, qn_ngE2, qn_ngL, qn_ngM, Nat.add_sub_cancel, qL, qS, qM, qV, qQ, qZ0, qZ1, qE_l, qE_r, qW_some]
        exact same ⟨fun z => by rw [x1] at z; exact absurd z (q_mIne (by omega)), fun z => by rw [y1] at z; exact absurd z (q_mIne (by omega))⟩
  · rintro z ⟨hs, f, rfl, f1, f2, f3, f4, f5⟩
    simp (disch := first | omega | assumption) only [f_X12_fits_b43, qn_lit, qn_ofNat, qn_neg1, qn_neg2, nI_add, pk_mul, qn_sub, qn_ltT, qn_ltF, qn_leT, qn_leF, qn_eqT, qn_eqF, qn_m1T, qn_m1F, qn_m1F2, qn_m1lt, qn_m1lt2, qn_m1le, qn_m1le2, qn_and1, qn_and3, qn_and7, qn_and15, qn_and31, qn_and255, qn_and2047, qn_shl, qn_shr, qn_or, qn_div, qn_modlt, Nat.reduceMod, Nat.reduceAdd, Nat.reduceMul, Nat.reducePow, Nat.reduceDiv, Nat.reduceSub, ↓reduceIte, qn_us, qn_un, not_true_eq_false, not_false_eq_true, true_and, and_true, qn_nn, qn_addm, qn_ngT, qn_ngF, qn_ngE, qn_ngE2, qn_ngL, qn_ngM, Nat.add_sub_cancel, qL, qS, qM, qV, qQ, qZ0, qZ1, qE_l, qE_r, qW_some]
    refine ⟨hs, f, rfl, f1, f2, f3, fun f0 => ⟨(f5 f0).1, fun a b k hab => ?_⟩⟩
    obtain ⟨i, i1, i2, i3, i4⟩ := h2.2 a b k hab
    rw [← i2, ← i3]
    exact (f5 f0).2 i i1
theorem q_fits2 {c n m h r : Nat} {W C V U : Nat → Nat} {E : Nat → Nat → Nat → Prop} {t1 t2 t3 : Nat → Nat} {R_child : Nat → Int32} {R_childBack : Nat → Int32} {R_tieKind : Nat → Int32} {R_tieOne : Nat → Int32} {R_tieTwo : Nat → Int32} {R_weds : Nat → Int32} {R_wedsBack : Nat → Int32} {R_has : Nat → Int32} (hx : qXw n W C V U R_weds R_child R_wedsBack R_childBack) (hc : c ≤ 24) (hm : m ≤ 72) (hE : ∀ a b k, E a b k → a < c ∧ b < c ∧ a ≠ b ∧ k < 3) (h1 : qTI m t1 t2 t3 R_tieOne R_tieTwo R_tieKind) (h2 : qTE m t1 t2 t3 E) (h3 : qhs c n W C V E h r R_has) : qW (f_X12_fits_l34 (nI m) (8, R_child) (8, R_childBack) (72, R_tieKind) (72, R_tieOne) (72, R_tieTwo) (8, R_weds) (8, R_wedsBack) (24, R_has) (nI 1)) (fun e => ∃ hs, e = (24, hs) ∧ qhs c n W C V E h r hs ∧ ∀ a b k, E a b k → (hs a = mI ↔ hs b = mI)) := by
  unfold f_X12_fits_l34
  refine qwhile (fun z => ∃ hs f, z = ((24, hs), nI f) ∧ f < 2 ∧ qhs c n W C V E h r hs ∧ (f = 0 → ∀ a b k, E a b k → (hs a = mI ↔ hs b = mI))) (fun z => 2 * qct (fun p => z.1.2 p = mI) c + @ite _ (z.2 = nI 0) (Classical.propDecidable _) 0 1) ⟨_, 1, rfl, by decide, h3, fun q => absurd q (by decide)⟩ ?_ ?_
  · have := qct_le (fun p => R_has p = mI) c
    dsimp only
    split <;> omega
  · rintro z ⟨hs, f, rfl, f1, f2, f3⟩
    have hf : f = 0 ∨ f = 1 := by omega
    rcases hf with rfl | rfl
    · simp (disch := first | omega | assumption) only [f_X12_fits_b34, qn_lit, qn_ofNat, qn_neg1, qn_neg2, nI_add, pk_mul, qn_sub, qn_ltT, qn_ltF, qn_leT, qn_leF, qn_eqT, qn_eqF, qn_m1T, qn_m1F, qn_m1F2, qn_m1lt, qn_m1lt2, qn_m1le, qn_m1le2, qn_and1, qn_and3, qn_and7, qn_and15, qn_and31, qn_and255, qn_and2047, qn_shl, qn_shr, qn_or, qn_div, qn_modlt, Nat.reduceMod, Nat.reduceAdd, Nat.reduceMul, Nat.reducePow, Nat.reduceDiv, Nat.reduceSub, ↓reduceIte, qn_us, qn_un, not_true_eq_false, not_false_eq_true, true_and, and_true, qn_nn, qn_addm, qn_ngT, qn_ngF, qn_ngE, qn_ngE2, qn_ngL, qn_ngM, Nat.add_sub_cancel, qL, qS, qM, qV, qQ, qZ0, qZ1, qE_l, qE_r, qW_some]
      exact ⟨hs, rfl, f2, f3 rfl⟩
    · obtain ⟨e, g1, hs', f', rfl, g2, g3, g4, g5⟩ := q_fits1 hx hc hm hE h1 h2 f2
      simp (disch := first | omega | assumption) only [f_X12_fits_b34, g1, qn_lit, qn_ofNat, qn_neg1, qn_neg2, nI_add, pk_mul, qn_sub, qn_ltT, qn_ltF, qn_leT, qn_leF, qn_eqT, qn_eqF, qn_m1T, qn_m1F, qn_m1F2, qn_m1lt, qn_m1lt2, qn_m1le, qn_m1le2, qn_and1, qn_and3, qn_and7, qn_and15, qn_and31, qn_and255, qn_and2047, qn_shl, qn_shr, qn_or, qn_div, qn_modlt, Nat.reduceMod, Nat.reduceAdd, Nat.reduceMul, Nat.reducePow, Nat.reduceDiv, Nat.reduceSub, ↓reduceIte, qn_us, qn_un, not_true_eq_false, not_false_eq_true, true_and, and_true, qn_nn, qn_addm, qn_ngT, qn_ngF, qn_ngE, qn_ngE2, qn_ngL, qn_ngM, Nat.add_sub_cancel, qL, qS, qM, qV, qQ, qZ0, qZ1, qE_l, qE_r, qW_some]
      refine ⟨⟨hs', f', rfl, g2, g3, fun q => (g5 q).2⟩, ?_⟩
      have hf' : f' = 0 ∨ f' = 1 := by omega
      rcases hf' with rfl | rfl
      · have e := (g5 rfl).1
        subst e
        rw [if_pos rfl]
        omega
      · have e := g4 rfl
        rw [if_neg (fun z => absurd ((nI_eq (by decide) (by decide)).mp z) (by decide))]
        omega
theorem q_fitsR {R_child : Nat → Int32} {R_childBack : Nat → Int32} {R_persons : Nat → Int32} {R_tieKind : Nat → Int32} {R_tieOne : Nat → Int32} {R_tieTwo : Nat → Int32} {R_weds : Nat → Int32} {R_wedsBack : Nat → Int32} {R_has : Nat → Int32} {c n m h r : Nat} {W C V U : Nat → Nat} {E : Nat → Nat → Nat → Prop} {t1 t2 t3 : Nat → Nat} (hx : qXw n W C V U R_weds R_child R_wedsBack R_childBack) (hc : c ≤ 24) (hm : m ≤ 72) (hE : ∀ a b k, E a b k → a < c ∧ b < c ∧ a ≠ b ∧ k < 3) (h1 : qTI m t1 t2 t3 R_tieOne R_tieTwo R_tieKind) (h2 : qTE m t1 t2 t3 E) (hp : R_persons 0 = nI c) (hh : h < c) (hr : r < n) : ∃ f hs, f_X12_fits (nI m) (8, R_child) (8, R_childBack) (4, R_persons) (72, R_tieKind) (72, R_tieOne) (72, R_tieTwo) (8, R_weds) (8, R_wedsBack) (24, R_has) (nI h) (nI r) = some (nI f, (24, hs)) ∧ ((f = 1 ∧ ∃ X, qCo n W C V E h X ∧ X h = r ∧ ∀ p, p < c → qcn E h p → hs p = nI (X p)) ∨ (f = 0 ∧ ¬ ∃ X, qCo n W C V E h X ∧ X h = r)) := by
  have hn := hx.1.1
  have l2 : qW (f_X12_fits_l2 (4, R_persons) (nI h) (nI r) (24, R_has) (nI 0)) (fun e => ∃ hs, e = (24, hs) ∧ ∀ p, p < c → hs p = mI) := by
    unfold f_X12_fits_l2
    refine qfor 0 c (fun i z => ∃ hs, z = ((24, hs), nI i) ∧ ∀ p, p < i → hs p = mI) ⟨_, rfl, by simp⟩ (by omega) (by omega) ?_ ?_
    · rintro i z - hi ⟨hs, rfl, q⟩
      simp (disch := first | omega | assumption) only [f_X12_fits_b2, hp, qn_lit, qn_ofNat, qn_neg1, qn_neg2, nI_add, pk_mul, qn_sub, qn_ltT, qn_ltF, qn_leT, qn_leF, qn_eqT, qn_eqF, qn_m1T, qn_m1F, qn_m1F2, qn_m1lt, qn_m1lt2, qn_m1le, qn_m1le2, qn_and1, qn_and3, qn_and7, qn_and15, qn_and31, qn_and255, qn_and2047, qn_shl, qn_shr, qn_or, qn_div, qn_modlt, Nat.reduceMod, Nat.reduceAdd, Nat.reduceMul, Nat.reducePow, Nat.reduceDiv, Nat.reduceSub, ↓reduceIte, qn_us, qn_un, not_true_eq_false, not_false_eq_true, true_and, and_true, qn_nn, qn_addm, qn_ngT, qn_ngF, qn_ngE, qn_ngE2, qn_ngL, qn_ngM, Nat.add_sub_cancel, qL, qS, qM, qV, qQ, qZ0, qZ1, qE_l, qE_r, qW_some]
      refine ⟨_, rfl, fun p hp2 => ?_⟩
      by_cases e : p = i
      · rw [e]; exact pk_us
      · rw [pk_un e]; exact q p (by omega)
    · rintro z ⟨hs, rfl, q⟩
      simp (disch := first | omega | assumption) only [f_X12_fits_b2, hp, qn_lit, qn_ofNat, qn_neg1, qn_neg2, nI_add, pk_mul, qn_sub, qn_ltT, qn_ltF, qn_leT, qn_leF, qn_eqT, qn_eqF, qn_m1T, qn_m1F, qn_m1F2, qn_m1lt, qn_m1lt2, qn_m1le, qn_m1le2, qn_and1, qn_and3, qn_and7, qn_and15, qn_and31, qn_and255, qn_and2047, qn_shl, qn_shr, qn_or, qn_div, qn_modlt, Nat.reduceMod, Nat.reduceAdd, Nat.reduceMul, Nat.reducePow, Nat.reduceDiv, Nat.reduceSub, ↓reduceIte, qn_us, qn_un, not_true_eq_false, not_false_eq_true, true_and, and_true, qn_nn, qn_addm, qn_ngT, qn_ngF, qn_ngE, qn_ngE2, qn_ngL, qn_ngM, Nat.add_sub_cancel, qL, qS, qM, qV, qQ, qZ0, qZ1, qE_l, qE_r, qW_some]
      exact ⟨hs, rfl, q⟩
  obtain ⟨e1, g1, hs0, rfl, g2⟩ := l2
  have h0 : qhs c n W C V E h r (upd hs0 h (nI r)) := by
    refine ⟨fun p hp2 => ?_, pk_us, hr⟩
    by_cases e : p = h
    · rw [e, pk_us]
      exact Or.inr ⟨r, rfl, hr, qcn_r h, fun X _ q => q⟩
    · rw [pk_un e]
      exact Or.inl (g2 p hp2)
  obtain ⟨e2, k1, hs, rfl, k2, k3⟩ := q_fits2 hx hc hm hE h1 h2 h0
  obtain ⟨y1, y2⟩ := k2.2
  have all : ∀ p, p < c → qcn E h p → ∃ x, hs p = nI x ∧ qfo n W C V E h r p x := by
    intro p hp2 hq
    rcases k2.1 p hp2 with q | q
    · refine absurd q ?_
      exact hq (fun p => ¬ hs p = mI) (fun a b k hab => not_congr (k3 a b k hab)) (by rw [y1]; exact q_mIne (by omega))
    · exact q
  have out : ∀ p, p < c → ¬ qcn E h p → hs p = mI := by
    intro p hp2 hq
    rcases k2.1 p hp2 with q | ⟨x, -, x2⟩
    · exact q
    · exact absurd x2.2.1 hq
  -- the last check
  have chk : qW (f_X12_fits_l183 (nI m) (8, R_child) (72, R_tieKind) (72, R_tieOne) (72, R_tieTwo) (8, R_weds) (8, R_wedsBack) (24, hs) (nI 0)) (fun e => (e = Sum.inr () ∧ ∀ i, i < m → ∀ x, hs (t1 i) = nI x → hs (t2 i) = nI (qcw W C V (t3 i) x) ∨ ¬ x < n) ∨ (e = Sum.inl () ∧ ∃ i x, i < m ∧ x < n ∧ hs (t1 i) = nI x ∧ ¬ hs (t2 i) = nI (qcw W C V (t3 i) x))) := by
    unfold f_X12_fits_l183
    refine qfor 0 m (fun i z => z = nI i ∧ ∀ j, j < i → ∀ x, hs (t1 j) = nI x → hs (t2 j) = nI (qcw W C V (t3 j) x) ∨ ¬ x < n) ⟨rfl, fun j hj => absurd hj (by omega)⟩ (by omega) (by omega) ?_ ?_
    · rintro i z - hi ⟨rfl, hI⟩
      obtain ⟨e1, e2, e3⟩ := h1 i hi
      obtain ⟨a1, b1, ab, k3'⟩ := hE _ _ _ (h2.1 i hi)
      generalize ha : t1 i = a at *
      generalize hb : t2 i = b at *
      generalize hk : t3 i = k at *
      have step : (∀ x, hs a = nI x → hs b = nI (qcw W C V k x) ∨ ¬ x < n) → ∀ j, j < i + 1 → ∀ x, hs (t1 j) = nI x → hs (t2 j) = nI (qcw W C V (t3 j) x) ∨ ¬ x < n := by
        intro q j hj
        by_cases e : j = i
        · rw [e, ha, hb, hk]; exact q
        · exact hI j (by omega)
      rcases k2.1 a a1 with q | ⟨x, x1, x2⟩
      · simp (disch := first | omega | assumption) only [f_X12_fits_b183, f_X12_fits_j248, e1, q, qn_lit, qn_ofNat, qn_neg1, qn_neg2, nI_add, pk_mul, qn_sub, qn_ltT, qn_ltF, qn_leT, qn_leF, qn_eqT, qn_eqF, qn_m1T, qn_m1F, qn_m1F2, qn_m1lt, qn_m1lt2, qn_m1le, qn_m1le2, qn_and1, qn_and3, qn_and7, qn_and15, qn_and31, qn_and255, qn_and2047, qn_shl, qn_shr, qn_or, qn_div, qn_modlt, Nat.reduceMod, Nat.reduceAdd, Nat.reduceMul, Nat.reducePow, Nat.reduceDiv, Nat.reduceSub, ↓reduceIte, qn_us, qn_un, not_true_eq_false, not_false_eq_true, true_and, and_true, qn_nn, qn_addm, qn_ngT, qn_ngF, qn_ngE, qn_ngE2, qn_ngL, qn_ngM, Nat.add_sub_cancel, qL, qS, qM, qV, qQ, qZ0, qZ1, qE_l, qE_r, qW_some]
        refine step (fun x hx2 => ?_)
        rw [q] at hx2
        by_cases xb : x < n
        · exact absurd hx2.symm (q_mIne (by omega))
        · exact Or.inr xb
      · have xn := x2.1
        have ov := q_over hx k3' xn
        by_cases q : hs b = nI (qcw W C V k x)
        · simp (disch := first | omega | assumption) only [f_X12_fits_b183, f_X12_fits_j248, e1, e2, e3, x1, ov, q, qn_lit, qn_ofNat, qn_neg1, qn_neg2, nI_add, pk_mul, qn_sub, qn_ltT, qn_ltF, qn_leT, qn_leF, qn_eqT, qn_eqF, qn_m1T, qn_m1F, qn_m1F2, qn_m1lt, qn_m1lt2, qn_m1le, qn_m1le2, qn_and1, qn_and3, qn_and7, qn_and15, qn_and31, qn_and255, qn_and2047, qn_shl, qn_shr, qn_or, qn_div, qn_modlt, Nat.reduceMod, Nat.reduceAdd, Nat.reduceMul, Nat.reducePow, Nat.reduceDiv, Nat.reduceSub, ↓reduceIte, qn_us, qn_un, not_true_eq_false, not_false_eq_true, true_and, and_true, qn_nn, qn_addm, qn_ngT, qn_ngF, qn_ngE, qn_ngE2, qn_ngL, qn_ngM, Nat.add_sub_cancel, qL, qS, qM, qV, qQ, qZ0, qZ1, qE_l, qE_r, qW_some]
          refine step (fun x' hx2 => ?_)
          by_cases xb : x' < n
          · rw [x1] at hx2
            have := (nI_eq (by omega) (by omega)).mp hx2
            rw [← this]
            exact Or.inl q
          · exact Or.inr xb
        · have q2 : ¬ nI (qcw W C V k x) = hs b := fun z => q z.symm
          simp (disch := first | omega | assumption) only [f_X12_fits_b183, f_X12_fits_j248, e1, e2, e3, x1, ov, q2, qn_lit, qn_ofNat, qn_neg1, qn_neg2, nI_add, pk_mul, qn_sub, qn_ltT, qn_ltF, qn_leT, qn_leF, qn_eqT, qn_eqF, qn_m1T, qn_m1F, qn_m1F2, qn_m1lt, qn_m1lt2, qn_m1le, qn_m1le2, qn_and1, qn_and3, qn_and7, qn_and15, qn_and31, qn_and255, qn_and2047, qn_shl, qn_shr, qn_or, qn_div, qn_modlt, Nat.reduceMod, Nat.reduceAdd, Nat.reduceMul, Nat.reducePow, Nat.reduceDiv, Nat.reduceSub, ↓reduceIte, qn_us, qn_un, not_true_eq_false, not_false_eq_true, true_and, and_true, qn_nn, qn_addm, qn_ngT, qn_ngF, qn_ngE, qn_ngE2, qn_ngL, qn_ngM, Nat.add_sub_cancel, qL, qS, qM, qV, qQ, qZ0, qZ1, qE_l, qE_r, qW_some]
          exact Or.inr ⟨i, x, hi, xn, by rw [ha]; exact x1, by rw [hb, hk]; exact q⟩
    · rintro z ⟨rfl, hI⟩
      simp (disch := first | omega | assumption) only [f_X12_fits_b183, qn_lit, qn_ofNat, qn_neg1, qn_neg2, nI_add, pk_mul, qn_sub, qn_ltT, qn_ltF, qn_leT, qn_leF, qn_eqT, qn_eqF, qn_m1T, qn_m1F, qn_m1F2, qn_m1lt, qn_m1lt2, qn_m1le, qn_m1le2, qn_and1, qn_and3, qn_and7, qn_and15, qn_and31, qn_and255, qn_and2047, qn_shl, qn_shr, qn_or, qn_div, qn_modlt, Nat.reduceMod, Nat.reduceAdd, Nat.reduceMul, Nat.reducePow, Nat.reduceDiv, Nat.reduceSub, ↓reduceIte, qn_us, qn_un, not_true_eq_false, not_false_eq_true, true_and, and_true, qn_nn, qn_addm, qn_ngT, qn_ngF, qn_ngE, qn_ngE2, qn_ngL, qn_ngM, Nat.add_sub_cancel, qL, qS, qM, qV, qQ, qZ0, qZ1, qE_l, qE_r, qW_some]
      exact Or.inl hI
  obtain ⟨e3, l1, l2⟩ := chk
  rcases l2 with ⟨rfl, l2⟩ | ⟨rfl, i, x, i1, i2, i3, i4⟩
  · refine ⟨1, hs, by simp (disch := first | omega | assumption) only [f_X12_fits, g1, k1, l1, qn_lit, qn_ofNat, qn_neg1, qn_neg2, nI_add, pk_mul, qn_sub, qn_ltT, qn_ltF, qn_leT, qn_leF, qn_eqT, qn_eqF, qn_m1T, qn_m1F, qn_m1F2, qn_m1lt, qn_m1lt2, qn_m1le, qn_m1le2, qn_and1, qn_and3, qn_and7, qn_and15, qn_and31, qn_and255, qn_and2047, qn_shl, qn_shr, qn_or, qn_div, qn_modlt, Nat.reduceMod, Nat.reduceAdd, Nat.reduceMul, Nat.reducePow, Nat.reduceDiv, Nat.reduceSub, ↓reduceIte, qn_us, qn_un, not_true_eq_false, not_false_eq_true, true_and, and_true, qn_nn, qn_addm, qn_ngT, qn_ngF, qn_ngE, qn_ngE2, qn_ngL, qn_ngM, Nat.add_sub_cancel, qL, qS, qM, qV, qQ, qZ0, qZ1, qE_l, qE_r, qW_some], Or.inl ⟨rfl, fun p => (hs p).toNatClampNeg, ?_, ?_, ?_⟩⟩
    · have val : ∀ p, p < c → qcn E h p → ∃ x, hs p = nI x ∧ x < n ∧ (hs p).toNatClampNeg = x := by
        intro p hp2 hq
        obtain ⟨x, x1, x2⟩ := all p hp2 hq
        have := x2.1
        exact ⟨x, x1, this, by rw [x1, nI_clamp (by omega)]⟩
      have inc : ∀ p, qcn E h p → p < c := fun p hq => hq (fun p => p < c) (fun a b k hab => by have := hE a b k hab; exact ⟨fun _ => this.2.1, fun _ => this.1⟩) hh
      refine ⟨fun a hq => ?_, fun a b k hab hq => ?_⟩
      · obtain ⟨x, x1, x2, x3⟩ := val a (inc a hq) hq
        show (hs a).toNatClampNeg < n
        omega
      · obtain ⟨x, x1, x2, x3⟩ := val a (inc a hq) hq
        obtain ⟨i, i1, i2, i3, i4⟩ := h2.2 a b k hab
        have := l2 i i1 x (by rw [i2]; exact x1)
        rw [i3, i4] at this
        have q := this.resolve_right (fun z => z x2)
        show (hs b).toNatClampNeg = qcw W C V k (hs a).toNatClampNeg
        have bd := (qcw_P hx.1 k).1 x x2
        rw [q, x3, nI_clamp (by omega)]
    · show (hs h).toNatClampNeg = r
      rw [y1, nI_clamp (by omega)]
    · intro p hp2 hq
      obtain ⟨x, x1, x2⟩ := all p hp2 hq
      have := x2.1
      show hs p = nI (hs p).toNatClampNeg
      rw [x1, nI_clamp (by omega)]
  · refine ⟨0, hs, by simp (disch := first | omega | assumption) only [f_X12_fits, g1, k1, l1, qn_lit, qn_ofNat, qn_neg1, qn_neg2, nI_add, pk_mul, qn_sub, qn_ltT, qn_ltF, qn_leT, qn_leF, qn_eqT, qn_eqF, qn_m1T, qn_m1F, qn_m1F2, qn_m1lt, qn_m1lt2, qn_m1le, qn_m1le2, qn_and1, qn_and3, qn_and7, qn_and15, qn_and31, qn_and255, qn_and2047, qn_shl, qn_shr, qn_or, qn_div, qn_modlt, Nat.reduceMod, Nat.reduceAdd, Nat.reduceMul, Nat.reducePow, Nat.reduceDiv, Nat.reduceSub, ↓reduceIte, qn_us, qn_un, not_true_eq_false, not_false_eq_true, true_and, and_true, qn_nn, qn_addm, qn_ngT, qn_ngF, qn_ngE, qn_ngE2, qn_ngL, qn_ngM, Nat.add_sub_cancel, qL, qS, qM, qV, qQ, qZ0, qZ1, qE_l, qE_r, qW_some], Or.inr ⟨rfl, fun ⟨X, X1, X2⟩ => ?_⟩⟩
    have hEi := h2.1 i i1
    obtain ⟨a1, b1, ab, k3'⟩ := hE _ _ _ hEi
    have hq : qcn E h (t1 i) := by
      refine Classical.byContradiction fun hno => ?_
      have := out _ a1 hno
      rw [i3] at this
      exact q_mIne (by omega) this
    obtain ⟨x', x1', x2'⟩ := all _ a1 hq
    obtain ⟨z', z1', z2'⟩ := all _ b1 (qcn_t hq (qcn_e hEi))
    have n1 := x2'.1
    have e1 : x' = x := (nI_eq (by omega) (by omega)).mp (by rw [← x1', i3])
    have v1 := x2'.2.2 X X1 X2
    have v2 := z2'.2.2 X X1 X2
    have v3 := X1.2 _ _ _ hEi hq
    refine i4 ?_
    rw [z1', ← v2, v3, v1, e1]

/-! families grow together; fits -/
theorem qsm_dn {f : Nat → Nat} {k x : Nat} (hx : x ≤ f k) : ∀ n, k < n → qsm (qup f k x) n + (f k - x) = qsm f n := by
  have lo : ∀ n, n ≤ k → qsm (qup f k x) n = qsm f n := by
    intro n
    induction n with
    | zero => intro _; rfl
    | succ n ih =>
      intro h
      simp only [qsm]
      rw [ih (by omega), qup_n (by omega)]
  intro n
  induction n with
  | zero => intro h; omega
  | succ n ih =>
    intro h
    simp only [qsm]
    by_cases e : n = k
    · rw [e, qup_s, lo k (Nat.le_refl _)]; omega
    · have := ih (by omega)
      rw [qup_n e]; omega
theorem qsm_ext {f g : Nat → Nat} : ∀ n, (∀ i, i < n → f i = g i) → qsm f n = qsm g n := by
  intro n
  induction n with
  | zero => intro _; rfl
  | succ n ih =>
    intro h
    simp only [qsm]
    rw [ih (fun i hi => h i (by omega)), h n (by omega)]
theorem qsm_bd {f : Nat → Nat} {B : Nat} : ∀ n, (∀ i, i < n → f i ≤ B) → qsm f n ≤ n * B := by
  intro n
  induction n with
  | zero => intro _; exact Nat.zero_le _
  | succ n ih =>
    intro h
    simp only [qsm, Nat.succ_mul]
    have h1 := ih (fun i hi => h i (by omega))
    have h2 := h n (by omega)
    omega
def qFi (c : Nat) (E : Nat → Nat → Nat → Prop) (F : Nat → Nat) : Prop := ∀ p, p < c → qcn E p (F p) ∧ F p ≤ p
/-- one round through the ties -/
theorem q_grow1 {c m : Nat} {E : Nat → Nat → Nat → Prop} {t1 t2 t3 F0 : Nat → Nat} {R_tieKind : Nat → Int32} {R_tieOne : Nat → Int32} {R_tieTwo : Nat → Int32} {R_family : Nat → Int32} (hc : c ≤ 24) (hm : m ≤ 72) (hE : ∀ a b k, E a b k → a < c ∧ b < c ∧ a ≠ b) (h1 : qTI m t1 t2 t3 R_tieOne R_tieTwo R_tieKind) (h2 : qTE m t1 t2 t3 E) (h3 : ∀ p, p < c → R_family p = nI (F0 p)) (h4 : qFi c E F0) : qW (f_X12_findFamilies_l155 (nI m) (72, R_tieKind) (72, R_tieOne) (72, R_tieTwo) (24, R_family) (nI 0) (nI 0)) (fun e => ∃ fm F r, e = ((24, fm), nI r) ∧ r < 2 ∧ (∀ p, p < c → fm p = nI (F p)) ∧ qFi c E F ∧ (r = 1 → qsm F c < qsm F0 c) ∧ (r = 0 → F = F0 ∧ ∀ a b k, E a b k → F a = F b)) := by
  unfold f_X12_findFamilies_l155
  refine qfor 0 m (fun i z => ∃ fm F r, z = ((24, fm), nI r, nI i) ∧ r < 2 ∧ (∀ p, p < c → fm p = nI (F p)) ∧ qFi c E F ∧ (r = 1 → qsm F c < qsm F0 c) ∧ qsm F c ≤ qsm F0 c ∧ (r = 0 → F = F0 ∧ ∀ j, j < i → F (t1 j) = F (t2 j))) ⟨_, F0, 0, rfl, by decide, h3, h4, fun q => absurd q (by decide), Nat.le_refl _, fun _ => ⟨rfl, fun j hj => absurd hj (by omega)⟩⟩ (by omega) (by omega) ?_ ?_
  · rintro i z - hi ⟨fm, F, r, rfl, r1, r2, r3, r4, r5, r6⟩
    obtain ⟨e1, e2, e3⟩ := h1 i hi
    have hEi := h2.1 i hi
    obtain ⟨a1, b1, ab⟩ := hE _ _ _ hEi
    generalize ha : t1 i = a at *
    generalize hb : t2 i = b at *
    have fa := r2 a a1
    have fb := r2 b b1
    obtain ⟨ca, la⟩ := r3 a a1
    obtain ⟨cb, lb⟩ := r3 b b1
    by_cases q : F a = F b
    · have q2 : nI (F a) = nI (F b) := congrArg nI q
      simp (disch := first | omega | assumption) only [f_X12_findFamilies_b155, f_X12_findFamilies_j242, e1, e2, fa, fb, qn_lit, qn_ofNat, qn_neg1, qn_neg2, nI_add, pk_mul, qn_sub, qn_ltT, qn_ltF, qn_leT, qn_leF, qn_eqT, qn_eqF, qn_m1T, qn_m1F, qn_m1F2, qn_m1lt, qn_m1lt2, qn_m1le, qn_m1le2, qn_and1, qn_and3, qn_and7, qn_and15, qn_and31, qn_and255, qn_and2047, qn_shl, qn_shr, qn_or, qn_div, qn_modlt, Nat.reduceMod, Nat.reduceAdd, Nat.reduceMul, Nat.reducePow, Nat.reduceDiv, Nat.reduceSub, ↓reduceIte, qn_us, qn_un, not_true_eq_false, not_false_eq_true, true_and, and_true, qn_nn, qn_addm, qn_ngT, qn_ngF, qn_ngE, qn_ngE2, qn_ngL, qn_ngM, Nat.add_sub_cancel, qL, qS, qM, qV, qQ, qZ0, qZ1, qE_l, qE_r, qW_some]
      refine ⟨fm, F, r, rfl, r1, r2, r3, r4, r5, fun r0 => ⟨(r6 r0).1, fun j hj => ?_⟩⟩
      by_cases e : j = i
      · rw [e, ha, hb]; exact q
      · exact (r6 r0).2 j (by omega)
    · have fin : ∀ x, x ≤ F a → x ≤ F b → (x = F a ∨ x = F b) → ∃ fm' F' r', ((24, upd (upd fm a (nI x)) b (nI x)), nI 1, nI (i + 1)) = (((24, fm') : jA), nI r', nI (i + 1)) ∧ r' < 2 ∧ (∀ p, p < c → fm' p = nI (F' p)) ∧ qFi c E F' ∧ (r' = 1 → qsm F' c < qsm F0 c) ∧ qsm F' c ≤ qsm F0 c ∧ (r' = 0 → F' = F0 ∧ ∀ j, j < i + 1 → F' (t1 j) = F' (t2 j)) := by
        intro x xa xb xo
        have s1 := qsm_dn (f := F) xa c a1
        have e4 : qup F a x b = F b := qup_n (fun z => ab z.symm)
        have s2 := qsm_dn (f := qup F a x) (k := b) (x := x) (by rw [e4]; exact xb) c b1
        rw [e4] at s2
        have sl : qsm (qup (qup F a x) b x) c < qsm F0 c := by omega
        refine ⟨_, qup (qup F a x) b x, 1, rfl, by decide, fun p hp => ?_, fun p hp => ?_, fun _ => sl, Nat.le_of_lt sl, fun z => absurd z (by decide)⟩
        · by_cases e : p = b
          · rw [e, pk_us, qup_s]
          · rw [pk_un e, qup_n e]
            by_cases e' : p = a
            · rw [e', pk_us, qup_s]
            · rw [pk_un e', qup_n e']
              exact r2 p hp
        · have cx : qcn E a x := by
            rcases xo with rfl | rfl
            · exact ca
            · exact qcn_t (qcn_e hEi) cb
          by_cases e : p = b
          · rw [e, qup_s]
            exact ⟨qcn_t (qcn_s (qcn_e hEi)) cx, by omega⟩
          · rw [qup_n e]
            by_cases e' : p = a
            · rw [e', qup_s]
              exact ⟨cx, by omega⟩
            · rw [qup_n e']
              exact r3 p hp
      by_cases q3 : F b ≤ F a
      · simp (disch := first | omega | assumption) only [f_X12_findFamilies_b155, f_X12_findFamilies_j216, f_X12_findFamilies_j239, f_X12_findFamilies_j242, e1, e2, fa, fb, qn_lit, qn_ofNat, qn_neg1, qn_neg2, nI_add, pk_mul, qn_sub, qn_ltT, qn_ltF, qn_leT, qn_leF, qn_eqT, qn_eqF, qn_m1T, qn_m1F, qn_m1F2, qn_m1lt, qn_m1lt2, qn_m1le, qn_m1le2, qn_and1, qn_and3, qn_and7, qn_and15, qn_and31, qn_and255, qn_and2047, qn_shl, qn_shr, qn_or, qn_div, qn_modlt, Nat.reduceMod, Nat.reduceAdd, Nat.reduceMul, Nat.reducePow, Nat.reduceDiv, Nat.reduceSub, ↓reduceIte, qn_us, qn_un, not_true_eq_false, not_false_eq_true, true_and, and_true, qn_nn, qn_addm, qn_ngT, qn_ngF, qn_ngE, qn_ngE2, qn_ngL, qn_ngM, Nat.add_sub_cancel, qL, qS, qM, qV, qQ, qZ0, qZ1, qE_l, qE_r, qW_some]
        exact fin (F b) q3 (Nat.le_refl _) (Or.inr rfl)
      · simp (disch := first | omega | assumption) only [f_X12_findFamilies_b155, f_X12_findFamilies_j216, f_X12_findFamilies_j239, f_X12_findFamilies_j242, e1, e2, fa, fb, qn_lit, qn_ofNat, qn_neg1, qn_neg2, nI_add, pk_mul, qn_sub, qn_ltT, qn_ltF, qn_leT, qn_leF, qn_eqT, qn_eqF, qn_m1T, qn_m1F, qn_m1F2, qn_m1lt, qn_m1lt2, qn_m1le, qn_m1le2, qn_and1, qn_and3, qn_and7, qn_and15, qn_and31, qn_and255, qn_and2047, qn_shl, qn_shr, qn_or, qn_div, qn_modlt, Nat.reduceMod, Nat.reduceAdd, Nat.reduceMul, Nat.reducePow, Nat.reduceDiv, Nat.reduceSub, ↓reduceIte, qn_us, qn_un, not_true_eq_false, not_false_eq_true, true_and, and_true, qn_nn, qn_addm, qn_ngT, qn_ngF, qn_ngE, qn_ngE2, qn_ngL, qn_ngM, Nat.add_sub_cancel, qL, qS, qM, qV, qQ, qZ0, qZ1, qE_l, qE_r, qW_some]
        exact fin (F a) (Nat.le_refl _) (by omega) (Or.inl rfl)
  · rintro z ⟨fm, F, r, rfl, r1, r2, r3, r4, r5, r6⟩
    simp (disch := first | omega | assumption) only [f_X12_findFamilies_b155, qn_lit, qn_ofNat, qn_neg1, qn_neg2, nI_add, pk_mul, qn_sub, qn_ltT, qn_ltF, qn_leT, qn_leF, qn_eqT, qn_eqF, qn_m1T, qn_m1F, qn_m1F2, qn_m1lt, qn_m1lt2, qn_m1le, qn_m1le2, qn_and1, qn_and3, qn_and7, qn_and15, qn_and31, qn_and255, qn_and2047, qn_shl, qn_shr, qn_or, qn_div, qn_modlt, Nat.reduceMod, Nat.reduceAdd, Nat.reduceMul, Nat.reducePow, Nat.reduceDiv, Nat.reduceSub, ↓reduceIte, qn_us, qn_un, not_true_eq_false, not_false_eq_true, true_and, and_true, qn_nn, qn_addm, qn_ngT, qn_ngF, qn_ngE, qn_ngE2, qn_ngL, qn_ngM, Nat.add_sub_cancel, qL, qS, qM, qV, qQ, qZ0, qZ1, qE_l, qE_r, qW_some]
    refine ⟨fm, F, r, rfl, r1, r2, r3, r4, fun r0 => ⟨(r6 r0).1, fun a b k hab => ?_⟩⟩
    obtain ⟨i, i1, i2, i3, i4⟩ := h2.2 a b k hab
    rw [← i2, ← i3]
    exact (r6 r0).2 i i1
theorem q_grow {c m : Nat} {E : Nat → Nat → Nat → Prop} {t1 t2 t3 : Nat → Nat} {R_tieKind : Nat → Int32} {R_tieOne : Nat → Int32} {R_tieTwo : Nat → Int32} {R_family : Nat → Int32} (hc : c ≤ 24) (hm : m ≤ 72) (hE : ∀ a b k, E a b k → a < c ∧ b < c ∧ a ≠ b) (h1 : qTI m t1 t2 t3 R_tieOne R_tieTwo R_tieKind) (h2 : qTE m t1 t2 t3 E) (h3 : ∀ p, p < c → R_family p = nI p) : qW (f_X12_findFamilies_l147 (nI m) (72, R_tieKind) (72, R_tieOne) (72, R_tieTwo) (24, R_family) (nI 1)) (fun e => ∃ fm F, e = (24, fm) ∧ (∀ p, p < c → fm p = nI (F p)) ∧ qFm c E F) := by
  have meas : ∀ {fm : Nat → Int32} {F : Nat → Nat}, (∀ p, p < c → fm p = nI (F p)) → qFi c E F → qsm (fun p => (fm p).toNatClampNeg) c = qsm F c := fun {fm F} q1 q2 => qsm_ext c (fun i hi => by
    show (fm i).toNatClampNeg = F i
    rw [q1 i hi, nI_clamp (by have := (q2 i hi).2; omega)])
  unfold f_X12_findFamilies_l147
  refine qwhile (fun z => ∃ fm F r, z = ((24, fm), nI r) ∧ r < 2 ∧ (∀ p, p < c → fm p = nI (F p)) ∧ qFi c E F ∧ (r = 0 → ∀ a b k, E a b k → F a = F b)) (fun z => 2 * qsm (fun p => (z.1.2 p).toNatClampNeg) c + (if z.2 = nI 0 then 0 else 1)) ⟨_, fun p => p, 1, rfl, by decide, h3, fun p _ => ⟨qcn_r p, Nat.le_refl _⟩, fun q => absurd q (by decide)⟩ ?_ ?_
  · have e0 := meas h3 (fun p _ => ⟨qcn_r p, Nat.le_refl _⟩)
    have e1 := qsm_bd (f := fun p => p) (B := 24) c (fun i hi => by omega)
    have e2 : c * 24 ≤ 24 * 24 := Nat.mul_le_mul_right _ hc
    dsimp only
    rw [e0]
    split <;> omega
  · rintro z ⟨fm, F, r, rfl, r1, r2, r3, r4⟩
    have hr : r = 0 ∨ r = 1 := by omega
    rcases hr with rfl | rfl
    · simp (disch := first | omega | assumption) only [f_X12_findFamilies_b147, qn_lit, qn_ofNat, qn_neg1, qn_neg2, nI_add, pk_mul, qn_sub, qn_ltT, qn_ltF, qn_leT, qn_leF, qn_eqT, qn_eqF, qn_m1T, qn_m1F, qn_m1F2, qn_m1lt, qn_m1lt2, qn_m1le, qn_m1le2, qn_and1, qn_and3, qn_and7, qn_and15, qn_and31, qn_and255, qn_and2047, qn_shl, qn_shr, qn_or, qn_div, qn_modlt, Nat.reduceMod, Nat.reduceAdd, Nat.reduceMul, Nat.reducePow, Nat.reduceDiv, Nat.reduceSub, ↓reduceIte, qn_us, qn_un, not_true_eq_false, not_false_eq_true, true_and, and_true, qn_nn, qn_addm, qn_ngT, qn_ngF, qn_ngE, qn_ngE2, qn_ngL, qn_ngM, Nat.add_sub_cancel, qL, qS, qM, qV, qQ, qZ0, qZ1, qE_l, qE_r, qW_some]
      exact ⟨fm, F, rfl, r2, r3, r4 rfl⟩
    · obtain ⟨e, g1, fm', F', r', rfl, g2, g3, g4, g5, g6⟩ := q_grow1 (F0 := F) hc hm hE h1 h2 r2 r3
      simp (disch := first | omega | assumption) only [f_X12_findFamilies_b147, g1, qn_lit, qn_ofNat, qn_neg1, qn_neg2, nI_add, pk_mul, qn_sub, qn_ltT, qn_ltF, qn_leT, qn_leF, qn_eqT, qn_eqF, qn_m1T, qn_m1F, qn_m1F2, qn_m1lt, qn_m1lt2, qn_m1le, qn_m1le2, qn_and1, qn_and3, qn_and7, qn_and15, qn_and31, qn_and255, qn_and2047, qn_shl, qn_shr, qn_or, qn_div, qn_modlt, Nat.reduceMod, Nat.reduceAdd, Nat.reduceMul, Nat.reducePow, Nat.reduceDiv, Nat.reduceSub, ↓reduceIte, qn_us, qn_un, not_true_eq_false, not_false_eq_true, true_and, and_true, qn_nn, qn_addm, qn_ngT, qn_ngF, qn_ngE, qn_ngE2, qn_ngL, qn_ngM, Nat.add_sub_cancel, qL, qS, qM, qV, qQ, qZ0, qZ1, qE_l, qE_r, qW_some]
      refine ⟨⟨fm', F', r', rfl, g2, g3, g4, fun q => (g6 q).2⟩, ?_⟩
      rw [meas g3 g4, meas r2 r3]
      have hr' : r' = 0 ∨ r' = 1 := by omega
      rcases hr' with rfl | rfl
      · have e := (g6 rfl).1
        subst e
        simp (disch := first | omega | assumption) only [qn_lit, qn_ofNat, qn_neg1, qn_neg2, nI_add, pk_mul, qn_sub, qn_ltT, qn_ltF, qn_leT, qn_leF, qn_eqT, qn_eqF, qn_m1T, qn_m1F, qn_m1F2, qn_m1lt, qn_m1lt2, qn_m1le, qn_m1le2, qn_and1, qn_and3, qn_and7, qn_and15, qn_and31, qn_and255, qn_and2047, qn_shl, qn_shr, qn_or, qn_div, qn_modlt, Nat.reduceMod, Nat.reduceAdd, Nat.reduceMul, Nat.reducePow, Nat.reduceDiv, Nat.reduceSub, ↓reduceIte, qn_us, qn_un, not_true_eq_false, not_false_eq_true, true_and, and_true, qn_nn, qn_addm, qn_ngT, qn_ngF, qn_ngE, qn_ngE2, qn_ngL, qn_ngM, Nat.add_sub_cancel, qL, qS, qM, qV, qQ, qZ0, qZ1, qE_l, qE_r, qW_some]
        omega
      · have e := g5 rfl
        simp (disch := first | omega | assumption) only [qn_lit, qn_ofNat, qn_neg1, qn_neg2, nI_add, pk_mul, qn_sub, qn_ltT, qn_ltF, qn_leT, qn_leF, qn_eqT, qn_eqF, qn_m1T, qn_m1F, qn_m1F2, qn_m1lt, qn_m1lt2, qn_m1le, qn_m1le2, qn_and1, qn_and3, qn_and7, qn_and15, qn_and31, qn_and255, qn_and2047, qn_shl, qn_shr, qn_or, qn_div, qn_modlt, Nat.reduceMod, Nat.reduceAdd, Nat.reduceMul, Nat.reducePow, Nat.reduceDiv, Nat.reduceSub, ↓reduceIte, qn_us, qn_un, not_true_eq_false, not_false_eq_true, true_and, and_true, qn_nn, qn_addm, qn_ngT, qn_ngF, qn_ngE, qn_ngE2, qn_ngL, qn_ngM, Nat.add_sub_cancel, qL, qS, qM, qV, qQ, qZ0, qZ1, qE_l, qE_r, qW_some]
        omega
theorem q_findFamilies {R_days : Nat → Int32} {R_fatherOf : Nat → Int32} {R_husband : Nat → Int32} {R_motherOf : Nat → Int32} {R_parentsDay : Nat → Int32} {R_persons : Nat → Int32} {R_viewed : Nat → Int32} {R_wedDay : Nat → Int32} {R_weddings : Nat → Int32} {R_wife : Nat → Int32} {R_ties : Int32} {R_family : Nat → Int32} {R_tieKind : Nat → Int32} {R_tieOne : Nat → Int32} {R_tieTwo : Nat → Int32} {c w d : Nat} {sn : Int32} {sx mo fa pd man wom wd Rsx : Nat → Int32} (h : qPP c w d sn sx mo fa pd man wom wd) (hp : qPp 0 c d sx mo fa pd Rsx R_motherOf R_fatherOf R_parentsDay) (hw : qPw 0 c w d sx man wom wd R_husband R_wife R_wedDay) (h1 : R_days 0 = nI d) (h2 : R_viewed 0 = sn) (h3 : R_persons 0 = nI c) (h4 : R_weddings 0 = nI w) : ∃ m t1 t2 t3 F R_family' R_tieKind' R_tieOne' R_tieTwo', f_X12_findFamilies (4, R_days) (96, R_fatherOf) (96, R_husband) (96, R_motherOf) (96, R_parentsDay) (4, R_persons) (4, R_viewed) (96, R_wedDay) (4, R_weddings) (96, R_wife) R_ties (24, R_family) (72, R_tieKind) (72, R_tieOne) (72, R_tieTwo) = some (nI m, (24, R_family'), (72, R_tieKind'), (72, R_tieOne'), (72, R_tieTwo')) ∧ m ≤ 72 ∧ qTI m t1 t2 t3 R_tieOne' R_tieTwo' R_tieKind' ∧ qTE m t1 t2 t3 (qE c w sn mo fa pd man wom wd) ∧ (∀ p, p < c → R_family' p = nI (F p)) ∧ qFm c (qE c w sn mo fa pd man wom wd) F := by
  obtain ⟨e1, g1, m, t1, t2, t3, fm, kd, on, tw, rfl, g2, g3, g4, g5⟩ := q_tiesR (R_family := R_family) (R_tieKind := R_tieKind) (R_tieOne := R_tieOne) (R_tieTwo := R_tieTwo) h hp h1 h2 h3
  obtain ⟨e2, k1, m', s1, s2, s3, kd', on', tw', rfl, k2, k3, k4⟩ := q_tiesR2 (R_family := fm) h hw h1 h2 h4 g2 g3 g4
  have hE := fun a b k hab => (fun z => And.intro z.1 (And.intro z.2.1 z.2.2.1)) (qE_lt h (a := a) (b := b) (k := k) hab)
  obtain ⟨e3, l1, fm', F, rfl, l2, l3⟩ := q_grow h.1 k2 hE k3 k4 g5
  refine ⟨m', s1, s2, s3, F, fm', kd', on', tw', ?_, k2, k3, k4, l2, l3⟩
  simp (disch := first | omega | assumption) only [f_X12_findFamilies, g1, k1, l1, qn_lit, qn_ofNat, qn_neg1, qn_neg2, nI_add, pk_mul, qn_sub, qn_ltT, qn_ltF, qn_leT, qn_leF, qn_eqT, qn_eqF, qn_m1T, qn_m1F, qn_m1F2, qn_m1lt, qn_m1lt2, qn_m1le, qn_m1le2, qn_and1, qn_and3, qn_and7, qn_and15, qn_and31, qn_and255, qn_and2047, qn_shl, qn_shr, qn_or, qn_div, qn_modlt, Nat.reduceMod, Nat.reduceAdd, Nat.reduceMul, Nat.reducePow, Nat.reduceDiv, Nat.reduceSub, ↓reduceIte, qn_us, qn_un, not_true_eq_false, not_false_eq_true, true_and, and_true, qn_nn, qn_addm, qn_ngT, qn_ngF, qn_ngE, qn_ngE2, qn_ngL, qn_ngM, Nat.add_sub_cancel, qL, qS, qM, qV, qQ, qZ0, qZ1, qE_l, qE_r, qW_some]
/-! fits -/
def qcv (W V U : Nat → Nat) (k x : Nat) : Nat := if k = 2 then V x else if k = 0 then U x else W (U x)
theorem qcv_B {n : Nat} {W C V U : Nat → Nat} (h : qH n W C V U) (k : Nat) : qB n (qcw W C V k) (qcv W V U k) := by
  obtain ⟨hn, hW, hC, hV, hU⟩ := h
  intro i hi
  unfold qcw qcv
  by_cases c2 : k = 2
  · simp only [if_pos c2]
    exact hV i hi
  · simp only [if_neg c2]
    by_cases c0 : k = 0
    · simp only [if_pos c0]
      exact hU i hi
    · simp only [if_neg c0]
      have u := (hU i hi).1
      have v := (hV i hi).1
      exact ⟨hW.1 _ u, by rw [(hV _ u).2.2, (hU i hi).2.1], by rw [(hU _ v).2.2, (hV i hi).2.1]⟩
theorem q_over {n k x : Nat} {W C V U : Nat → Nat} {we ch wb cb : Nat → Int32} (hx : qXw n W C V U we ch wb cb) (hk : k < 3) (hn : x < n) : f_X12_over (8, ch) (8, we) (8, wb) (nI k) (nI x) = some (nI (qcw W C V k x)) := by
  have h8 := hx.1.1
  have c1 := q_childOfR hx hn (s := 1) (by decide)
  have c0 := q_childOfR hx hn (s := 0) (by decide)
  rw [if_pos rfl] at c1
  rw [if_neg (by decide)] at c0
  unfold qcw
  have hk2 : k = 0 ∨ k = 1 ∨ k = 2 := by omega
  rcases hk2 with rfl | rfl | rfl
  · simp (disch := first | omega | assumption) only [f_X12_over, c1, qn_lit, qn_ofNat, qn_neg1, qn_neg2, nI_add, pk_mul, qn_sub, qn_ltT, qn_ltF, qn_leT, qn_leF, qn_eqT, qn_eqF, qn_m1T, qn_m1F, qn_m1F2, qn_m1lt, qn_m1lt2, qn_m1le, qn_m1le2, qn_and1, qn_and3, qn_and7, qn_and15, qn_and31, qn_and255, qn_and2047, qn_shl, qn_shr, qn_or, qn_div, qn_modlt, Nat.reduceMod, Nat.reduceAdd, Nat.reduceMul, Nat.reducePow, Nat.reduceDiv, Nat.reduceSub, ↓reduceIte, qn_us, qn_un, not_true_eq_false, not_false_eq_true, true_and, and_true, qn_nn, qn_addm, qn_ngT, qn_ngF, qn_ngE, qn_ngE2, qn_ngL, qn_ngM, Nat.add_sub_cancel, qL, qS, qM, qV, qQ, qZ0, qZ1, qE_l, qE_r, qW_some, Nat.reduceEqDiff]
  · simp (disch := first | omega | assumption) only [f_X12_over, c0, qn_lit, qn_ofNat, qn_neg1, qn_neg2, nI_add, pk_mul, qn_sub, qn_ltT, qn_ltF, qn_leT, qn_leF, qn_eqT, qn_eqF, qn_m1T, qn_m1F, qn_m1F2, qn_m1lt, qn_m1lt2, qn_m1le, qn_m1le2, qn_and1, qn_and3, qn_and7, qn_and15, qn_and31, qn_and255, qn_and2047, qn_shl, qn_shr, qn_or, qn_div, qn_modlt, Nat.reduceMod, Nat.reduceAdd, Nat.reduceMul, Nat.reducePow, Nat.reduceDiv, Nat.reduceSub, ↓reduceIte, qn_us, qn_un, not_true_eq_false, not_false_eq_true, true_and, and_true, qn_nn, qn_addm, qn_ngT, qn_ngF, qn_ngE, qn_ngE2, qn_ngL, qn_ngM, Nat.add_sub_cancel, qL, qS, qM, qV, qQ, qZ0, qZ1, qE_l, qE_r, qW_some, Nat.reduceEqDiff]
  · simp (disch := first | omega | assumption) only [f_X12_over, qR_0 hx.2.1, qn_lit, qn_ofNat, qn_neg1, qn_neg2, nI_add, pk_mul, qn_sub, qn_ltT, qn_ltF, qn_leT, qn_leF, qn_eqT, qn_eqF, qn_m1T, qn_m1F, qn_m1F2, qn_m1lt, qn_m1lt2, qn_m1le, qn_m1le2, qn_and1, qn_and3, qn_and7, qn_and15, qn_and31, qn_and255, qn_and2047, qn_shl, qn_shr, qn_or, qn_div, qn_modlt, Nat.reduceMod, Nat.reduceAdd, Nat.reduceMul, Nat.reducePow, Nat.reduceDiv, Nat.reduceSub, ↓reduceIte, qn_us, qn_un, not_true_eq_false, not_false_eq_true, true_and, and_true, qn_nn, qn_addm, qn_ngT, qn_ngF, qn_ngE, qn_ngE2, qn_ngL, qn_ngM, Nat.add_sub_cancel, qL, qS, qM, qV, qQ, qZ0, qZ1, qE_l, qE_r, qW_some]
theorem q_overBack {n k x : Nat} {W C V U : Nat → Nat} {we ch wb cb : Nat → Int32} (hx : qXw n W C V U we ch wb cb) (hk : k < 3) (hn : x < n) : f_X12_overBack (8, cb) (8, we) (8, wb) (nI k) (nI x) = some (nI (qcv W V U k x)) := by
  obtain ⟨⟨h8, hW, hC, hV, hU⟩, h1, h2, h3, h4⟩ := hx
  have u := (hU x hn).1
  unfold qcv
  have hk2 : k = 0 ∨ k = 1 ∨ k = 2 := by omega
  rcases hk2 with rfl | rfl | rfl
  · simp (disch := first | omega | assumption) only [f_X12_overBack, qR_0 h4, qn_lit, qn_ofNat, qn_neg1, qn_neg2, nI_add, pk_mul, qn_sub, qn_ltT, qn_ltF, qn_leT, qn_leF, qn_eqT, qn_eqF, qn_m1T, qn_m1F, qn_m1F2, qn_m1lt, qn_m1lt2, qn_m1le, qn_m1le2, qn_and1, qn_and3, qn_and7, qn_and15, qn_and31, qn_and255, qn_and2047, qn_shl, qn_shr, qn_or, qn_div, qn_modlt, Nat.reduceMod, Nat.reduceAdd, Nat.reduceMul, Nat.reducePow, Nat.reduceDiv, Nat.reduceSub, ↓reduceIte, qn_us, qn_un, not_true_eq_false, not_false_eq_true, true_and, and_true, qn_nn, qn_addm, qn_ngT, qn_ngF, qn_ngE, qn_ngE2, qn_ngL, qn_ngM, Nat.add_sub_cancel, qL, qS, qM, qV, qQ, qZ0, qZ1, qE_l, qE_r, qW_some, Nat.reduceEqDiff]
  · simp (disch := first | omega | assumption) only [f_X12_overBack, qR_0 h4, qR_0 h1, qn_lit, qn_ofNat, qn_neg1, qn_neg2, nI_add, pk_mul, qn_sub, qn_ltT, qn_ltF, qn_leT, qn_leF, qn_eqT, qn_eqF, qn_m1T, qn_m1F, qn_m1F2, qn_m1lt, qn_m1lt2, qn_m1le, qn_m1le2, qn_and1, qn_and3, qn_and7, qn_and15, qn_and31, qn_and255, qn_and2047, qn_shl, qn_shr, qn_or, qn_div, qn_modlt, Nat.reduceMod, Nat.reduceAdd, Nat.reduceMul, Nat.reducePow, Nat.reduceDiv, Nat.reduceSub, ↓reduceIte, qn_us, qn_un, not_true_eq_false, not_false_eq_true, true_and, and_true, qn_nn, qn_addm, qn_ngT, qn_ngF, qn_ngE, qn_ngE2, qn_ngL, qn_ngM, Nat.add_sub_cancel, qL, qS, qM, qV, qQ, qZ0, qZ1, qE_l, qE_r, qW_some, Nat.reduceEqDiff]
  · simp (disch := first | omega | assumption) only [f_X12_overBack, qR_0 h3, qn_lit, qn_ofNat, qn_neg1, qn_neg2, nI_add, pk_mul, qn_sub, qn_ltT, qn_ltF, qn_leT, qn_leF, qn_eqT, qn_eqF, qn_m1T, qn_m1F, qn_m1F2, qn_m1lt, qn_m1lt2, qn_m1le, qn_m1le2, qn_and1, qn_and3, qn_and7, qn_and15, qn_and31, qn_and255, qn_and2047, qn_shl, qn_shr, qn_or, qn_div, qn_modlt, Nat.reduceMod, Nat.reduceAdd, Nat.reduceMul, Nat.reducePow, Nat.reduceDiv, Nat.reduceSub, ↓reduceIte, qn_us, qn_un, not_true_eq_false, not_false_eq_true, true_and, and_true, qn_nn, qn_addm, qn_ngT, qn_ngF, qn_ngE, qn_ngE2, qn_ngL, qn_ngM, Nat.add_sub_cancel, qL, qS, qM, qV, qQ, qZ0, qZ1, qE_l, qE_r, qW_some]
/-- X tells classes of all of h's family, as the ties will have it -/
def qCo (n : Nat) (W C V : Nat → Nat) (E : Nat → Nat → Nat → Prop) (h : Nat) (X : Nat → Nat) : Prop := (∀ a, qcn E h a → X a < n) ∧ ∀ a b k, E a b k → qcn E h a → X b = qcw W C V k (X a)
theorem qCo_b {n : Nat} {W C V U : Nat → Nat} {E : Nat → Nat → Nat → Prop} {h : Nat} {X : Nat → Nat} (hH : qH n W C V U) (hC : qCo n W C V E h X) {a b k : Nat} (hE : E a b k) (hb : qcn E h b) : X a = qcv W V U k (X b) := by
  have ha : qcn E h a := qcn_t hb (qcn_s (qcn_e hE))
  have e := hC.2 a b k hE ha
  rw [e]
  exact ((qcv_B hH k) (X a) (hC.1 a ha)).2.2.symm
/-- classes that are forced -/
def qfo (n : Nat) (W C V : Nat → Nat) (E : Nat → Nat → Nat → Prop) (h r p x : Nat) : Prop := x < n ∧ qcn E h p ∧ ∀ X, qCo n W C V E h X → X h = r → X p = x
theorem qfo_f {n : Nat} {W C V U : Nat → Nat} {E : Nat → Nat → Nat → Prop} {h r a b k x : Nat} (hH : qH n W C V U) (hE : E a b k) (hf : qfo n W C V E h r a x) : qfo n W C V E h r b (qcw W C V k x) := ⟨(qcw_P hH k).1 x hf.1, qcn_t hf.2.1 (qcn_e hE), fun X hX hr => by rw [hX.2 a b k hE hf.2.1, hf.2.2 X hX hr]⟩
theorem qfo_b {n : Nat} {W C V U : Nat → Nat} {E : Nat → Nat → Nat → Prop} {h r a b k x : Nat} (hH : qH n W C V U) (hE : E a b k) (hf : qfo n W C V E h r b x) : qfo n W C V E h r a (qcv W V U k x) := ⟨((qcv_B hH k) x hf.1).1, qcn_t hf.2.1 (qcn_s (qcn_e hE)), fun X hX hr => by rw [qCo_b hH hX hE hf.2.1, hf.2.2 X hX hr]⟩

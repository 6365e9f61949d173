/-! wrong tellings -/
theorem qct_add {P Q R : Nat → Prop} (h : ∀ k, R k ↔ P k ∨ Q k) (hd : ∀ k, P k → ¬ Q k) : ∀ n, qct R n = qct P n + qct Q n := by
  intro n
  induction n with
  | zero => rfl
  | succ n ih =>
    by_cases p : P n
    · rw [qct_T p, qct_F (hd n p), qct_T ((h n).mpr (Or.inl p)), ih]; omega
    · by_cases q : Q n
      · rw [qct_F p, qct_T q, qct_T ((h n).mpr (Or.inr q)), ih]; omega
      · rw [qct_F p, qct_F q, qct_F (fun z => by rcases (h n).mp z with z | z; exact p z; exact q z), ih]
theorem qct_none {P : Nat → Prop} : ∀ n, (∀ k, k < n → ¬ P k) → qct P n = 0 := by
  intro n
  induction n with
  | zero => intro _; rfl
  | succ n ih =>
    intro h
    rw [qct_F (h n (by omega))]
    exact ih (fun k hk => h k (by omega))
/-- a telling is wrong, by the best of its family -/
def qwr (F : Nat → Nat) (K : Nat → Nat → Nat) (tp tq : Nat → Nat) (ts : Nat → Prop) (bst : Nat → Int32) (k : Nat) : Prop := ts k ∧ K (tp k) (qtp bst (F (tp k))) ≠ tq k
theorem q_wrongBest {R_days : Nat → Int32} {R_persons : Nat → Int32} {R_tellings : Nat → Int32} {R_toldClass : Nat → Int32} {R_toldDay : Nat → Int32} {R_toldPerson : Nat → Int32} {R_viewed : Nat → Int32} {R_child : Nat → Int32} {R_childBack : Nat → Int32} {R_family : Nat → Int32} {R_isWrong : Nat → Int32} {R_tieKind : Nat → Int32} {R_tieOne : Nat → Int32} {R_tieTwo : Nat → Int32} {R_weds : Nat → Int32} {R_wedsBack : Nat → Int32} {R_has : Nat → Int32} {c n m t d h : Nat} {sn x1 : Int32} {W C V U t1 t2 t3 F tp tq : Nat → Nat} {K : Nat → Nat → Nat} {ts : Nat → Prop} {E : Nat → Nat → Nat → Prop} (hR : qRF c n m W C V U E t1 t2 t3 F R_weds R_child R_wedsBack R_childBack R_family R_tieOne R_tieTwo R_tieKind) (hT : qRT c t d sn tp tq ts R_days R_viewed R_tellings R_toldPerson R_toldClass R_toldDay) (hfo : ∀ p r, p < c → r < n → qfo n W C V E (F p) r p (K p r)) (hp : R_persons 0 = nI c) (hh : h < c) (hF : F h = h) : qW (f_X12_findWrong_l69 (4, R_days) (4, R_persons) (4, R_tellings) (240, R_toldClass) (240, R_toldDay) (240, R_toldPerson) (4, R_viewed) (nI n) (nI m) (8, R_child) (8, R_childBack) (24, R_family) (60, R_isWrong) (72, R_tieKind) (72, R_tieOne) (72, R_tieTwo) (8, R_weds) (8, R_wedsBack) x1 (nI h) (24, R_has) mI (nI 0) (nI 0)) (fun e => ∃ hs b fw, e = ((24, hs), b, nI fw) ∧ qbs (qft n W C V E h) (qag F K tp tq ts t h) n b ∧ ∀ s, s < n → b = nI s → fw = qag F K tp tq ts t h s) := by
  have hn := hR.1.1.1
  have hfm : ∀ p, p < c → R_family p = nI (F p) ∧ F p < c := fun p hp2 => ⟨hR.2.2.2.2.2.2.1 p hp2, by have := (hR.2.2.2.2.2.2.2.1 p hp2).2; omega⟩
  have t60 := hT.1
  unfold f_X12_findWrong_l69
  refine qfor 0 n (fun r z => ∃ hs b fw, z = ((24, hs), b, nI fw, nI r) ∧ fw ≤ t ∧ qbs (qft n W C V E h) (qag F K tp tq ts t h) r b ∧ ∀ s, s < r → b = nI s → fw = qag F K tp tq ts t h s) ⟨_, mI, 0, rfl, Nat.zero_le _, Or.inl ⟨rfl, fun r hr => absurd hr (by omega)⟩, fun s hs => absurd hs (by omega)⟩ (by omega) (by omega) ?_ ?_
  · rintro r z - hr ⟨hs, b, fw, rfl, g0, g1, g2⟩
    obtain ⟨f, hs2, k1, k2⟩ := q_fitsK (R_has := hs) hR hfo hp hh hF hr
    rcases k2 with ⟨rfl, k2, k3⟩ | ⟨rfl, k2⟩
    · have dg := q_disagree (R_has := hs2) (r := r) hT hR.2.1 hfm k3 (fun p hp2 => by have := (hfo p r hp2 hr).1; omega) hh
      have cl : qag F K tp tq ts t h r ≤ t := qct_le _ _
      have new : (∀ s, s < r → qft n W C V E h s → qag F K tp tq ts t h r < qag F K tp tq ts t h s) → ∃ hs' b' fw', ((24, hs2), nI r, nI (qag F K tp tq ts t h r), nI (r + 1)) = (((24, hs') : jA), b', nI fw', nI (r + 1)) ∧ fw' ≤ t ∧ qbs (qft n W C V E h) (qag F K tp tq ts t h) (r + 1) b' ∧ ∀ s, s < r + 1 → b' = nI s → fw' = qag F K tp tq ts t h s := by
        intro q
        refine ⟨hs2, nI r, _, rfl, cl, Or.inr ⟨r, by omega, rfl, k2, fun s hs hP => ?_⟩, fun s hs e => ?_⟩
        · by_cases e : s = r
          · rw [e]; exact Or.inr ⟨rfl, Nat.le_refl _⟩
          · exact Or.inl (q s (by omega) hP)
        · have := (nI_eq (by omega) (by omega)).mp e
          rw [this]
      rcases g1 with ⟨rfl, g1⟩ | ⟨s, s1, rfl, s2, s3⟩
      · simp (disch := first | omega | assumption) only [f_X12_findWrong_b69, f_X12_findWrong_j103, f_X12_findWrong_j113, k1, dg, qn_lit, qn_ofNat, qn_neg1, qn_neg2, nI_add, pk_mul, qn_sub, qn_ltT, qn_ltF, qn_leT, qn_leF, qn_eqT, qn_eqF, qn_m1T, qn_m1F, qn_m1F2, qn_m1lt, qn_m1lt2, qn_m1le, qn_m1le2, qn_and1, qn_and3, qn_and7, qn_and15, qn_and31, qn_and255, qn_and2047, qn_shl, qn_shr, qn_or, qn_div, qn_modlt, Nat.reduceMod, Nat.reduceAdd, Nat.reduceMul, Nat.reducePow, Nat.reduceDiv, Nat.reduceSub, ↓reduceIte, qn_us, qn_un, not_true_eq_false, not_false_eq_true, true_and, and_true, qn_nn, qn_addm, qn_ngT, qn_ngF, qn_ngE, qn_ngE2, qn_ngL, qn_ngM, Nat.add_sub_cancel, qL, qS, qM, qV, qQ, qZ0, qZ1, qE_l, qE_r, qW_some]
        exact new (fun s hs hP => absurd hP (g1 s hs))
      · have ef := g2 s s1 rfl
        by_cases q : fw ≤ qag F K tp tq ts t h r
        · simp (disch := first | omega | assumption) only [f_X12_findWrong_b69, f_X12_findWrong_j103, f_X12_findWrong_j113, k1, dg, qn_lit, qn_ofNat, qn_neg1, qn_neg2, nI_add, pk_mul, qn_sub, qn_ltT, qn_ltF, qn_leT, qn_leF, qn_eqT, qn_eqF, qn_m1T, qn_m1F, qn_m1F2, qn_m1lt, qn_m1lt2, qn_m1le, qn_m1le2, qn_and1, qn_and3, qn_and7, qn_and15, qn_and31, qn_and255, qn_and2047, qn_shl, qn_shr, qn_or, qn_div, qn_modlt, Nat.reduceMod, Nat.reduceAdd, Nat.reduceMul, Nat.reducePow, Nat.reduceDiv, Nat.reduceSub, ↓reduceIte, qn_us, qn_un, not_true_eq_false, not_false_eq_true, true_and, and_true, qn_nn, qn_addm, qn_ngT, qn_ngF, qn_ngE, qn_ngE2, qn_ngL, qn_ngM, Nat.add_sub_cancel, qL, qS, qM, qV, qQ, qZ0, qZ1, qE_l, qE_r, qW_some]
          refine ⟨hs2, nI s, fw, rfl, g0, Or.inr ⟨s, by omega, rfl, s2, fun i hi hP => ?_⟩, fun i hi e => ?_⟩
          · by_cases e : i = r
            · subst e; omega
            · exact s3 i (by omega) hP
          · have := (nI_eq (by omega) (by omega)).mp e
            rw [← this]; exact ef
        · simp (disch := first | omega | assumption) only [f_X12_findWrong_b69, f_X12_findWrong_j103, f_X12_findWrong_j113, k1, dg, qn_lit, qn_ofNat, qn_neg1, qn_neg2, nI_add, pk_mul, qn_sub, qn_ltT, qn_ltF, qn_leT, qn_leF, qn_eqT, qn_eqF, qn_m1T, qn_m1F, qn_m1F2, qn_m1lt, qn_m1lt2, qn_m1le, qn_m1le2, qn_and1, qn_and3, qn_and7, qn_and15, qn_and31, qn_and255, qn_and2047, qn_shl, qn_shr, qn_or, qn_div, qn_modlt, Nat.reduceMod, Nat.reduceAdd, Nat.reduceMul, Nat.reducePow, Nat.reduceDiv, Nat.reduceSub, ↓reduceIte, qn_us, qn_un, not_true_eq_false, not_false_eq_true, true_and, and_true, qn_nn, qn_addm, qn_ngT, qn_ngF, qn_ngE, qn_ngE2, qn_ngL, qn_ngM, Nat.add_sub_cancel, qL, qS, qM, qV, qQ, qZ0, qZ1, qE_l, qE_r, qW_some]
          refine new (fun i hi hP => ?_)
          have := s3 i hi hP
          omega
    · simp (disch := first | omega | assumption) only [f_X12_findWrong_b69, f_X12_findWrong_j113, k1, qn_lit, qn_ofNat, qn_neg1, qn_neg2, nI_add, pk_mul, qn_sub, qn_ltT, qn_ltF, qn_leT, qn_leF, qn_eqT, qn_eqF, qn_m1T, qn_m1F, qn_m1F2, qn_m1lt, qn_m1lt2, qn_m1le, qn_m1le2, qn_and1, qn_and3, qn_and7, qn_and15, qn_and31, qn_and255, qn_and2047, qn_shl, qn_shr, qn_or, qn_div, qn_modlt, Nat.reduceMod, Nat.reduceAdd, Nat.reduceMul, Nat.reducePow, Nat.reduceDiv, Nat.reduceSub, ↓reduceIte, qn_us, qn_un, not_true_eq_false, not_false_eq_true, true_and, and_true, qn_nn, qn_addm, qn_ngT, qn_ngF, qn_ngE, qn_ngE2, qn_ngL, qn_ngM, Nat.add_sub_cancel, qL, qS, qM, qV, qQ, qZ0, qZ1, qE_l, qE_r, qW_some]
      refine ⟨hs2, b, fw, rfl, g0, ?_, fun s hs e => ?_⟩
      · rcases g1 with ⟨rfl, g1⟩ | ⟨s, s1, rfl, s2, s3⟩
        · refine Or.inl ⟨rfl, fun i hi => ?_⟩
          by_cases e : i = r
          · rw [e]; exact k2
          · exact g1 i (by omega)
        · refine Or.inr ⟨s, by omega, rfl, s2, fun i hi hP => ?_⟩
          by_cases e : i = r
          · rw [e] at hP; exact absurd hP k2
          · exact s3 i (by omega) hP
      · rcases g1 with ⟨rfl, g1⟩ | ⟨s', s1, rfl, s2, s3⟩
        · exact absurd e.symm (q_mIne (by omega))
        · have := (nI_eq (by omega) (by omega)).mp e
          subst this
          exact g2 s' s1 rfl
  · rintro z ⟨hs, b, fw, rfl, g0, g1, g2⟩
    simp (disch := first | omega | assumption) only [f_X12_findWrong_b69, qn_lit, qn_ofNat, qn_neg1, qn_neg2, nI_add, pk_mul, qn_sub, qn_ltT, qn_ltF, qn_leT, qn_leF, qn_eqT, qn_eqF, qn_m1T, qn_m1F, qn_m1F2, qn_m1lt, qn_m1lt2, qn_m1le, qn_m1le2, qn_and1, qn_and3, qn_and7, qn_and15, qn_and31, qn_and255, qn_and2047, qn_shl, qn_shr, qn_or, qn_div, qn_modlt, Nat.reduceMod, Nat.reduceAdd, Nat.reduceMul, Nat.reducePow, Nat.reduceDiv, Nat.reduceSub, ↓reduceIte, qn_us, qn_un, not_true_eq_false, not_false_eq_true, true_and, and_true, qn_nn, qn_addm, qn_ngT, qn_ngF, qn_ngE, qn_ngE2, qn_ngL, qn_ngM, Nat.add_sub_cancel, qL, qS, qM, qV, qQ, qZ0, qZ1, qE_l, qE_r, qW_some]
    exact ⟨hs, b, fw, rfl, g1, g2⟩
/-- all of the reference's wrong tellings -/
theorem q_wrongR {R_days : Nat → Int32} {R_persons : Nat → Int32} {R_tellings : Nat → Int32} {R_toldClass : Nat → Int32} {R_toldDay : Nat → Int32} {R_toldPerson : Nat → Int32} {R_viewed : Nat → Int32} {R_child : Nat → Int32} {R_childBack : Nat → Int32} {R_family : Nat → Int32} {R_tieKind : Nat → Int32} {R_tieOne : Nat → Int32} {R_tieTwo : Nat → Int32} {R_weds : Nat → Int32} {R_wedsBack : Nat → Int32} {R_has : Nat → Int32} {R_isWrong : Nat → Int32} {c n m t d : Nat} {sn : Int32} {bst : Nat → Int32} {W C V U t1 t2 t3 F tp tq : Nat → Nat} {K : Nat → Nat → Nat} {ts : Nat → Prop} {E : Nat → Nat → Nat → Prop} (hR : qRF c n m W C V U E t1 t2 t3 F R_weds R_child R_wedsBack R_childBack R_family R_tieOne R_tieTwo R_tieKind) (hT : qRT c t d sn tp tq ts R_days R_viewed R_tellings R_toldPerson R_toldClass R_toldDay) (hfo : ∀ p r, p < c → r < n → qfo n W C V E (F p) r p (K p r)) (hp : R_persons 0 = nI c) (hb : ∀ h, h < c → F h = h → qbs (qft n W C V E h) (qag F K tp tq ts t h) n (bst h)) (hw0 : ∀ k, k < 60 → R_isWrong k = nI 0) : qW (f_X12_findWrong_l38 (4, R_days) (4, R_persons) (4, R_tellings) (240, R_toldClass) (240, R_toldDay) (240, R_toldPerson) (4, R_viewed) (nI n) (nI m) (8, R_child) (8, R_childBack) (24, R_family) (72, R_tieKind) (72, R_tieOne) (72, R_tieTwo) (8, R_weds) (8, R_wedsBack) (24, R_has) (60, R_isWrong) (nI 0) (nI 0)) (fun e => ∃ hs iw, (e = Sum.inl ((24, hs), (60, iw)) ∧ ∃ h, h < c ∧ F h = h ∧ bst h = mI) ∨ (e = Sum.inr ((24, hs), (60, iw), nI (qct (qwr F K tp tq ts bst) t)) ∧ (∀ h, h < c → F h = h → bst h ≠ mI) ∧ ∀ k, k < t → (qwr F K tp tq ts bst k ∧ iw k = nI 1) ∨ (¬ qwr F K tp tq ts bst k ∧ iw k = nI 0))) := by
  have hn := hR.1.1.1
  have c24 := hR.2.1
  have hfm : ∀ p, p < c → R_family p = nI (F p) ∧ F p < c := fun p hp2 => ⟨hR.2.2.2.2.2.2.1 p hp2, by have := (hR.2.2.2.2.2.2.2.1 p hp2).2; omega⟩
  obtain ⟨t60, d9, hv, h1, h2, h3, h4⟩ := id hT
  obtain ⟨vd, v1, v2, v3⟩ := q_viewDay d9 hv h1 h2
  unfold f_X12_findWrong_l38
  refine qfor 0 c (fun p z => ∃ hs iw, z = ((24, hs), (60, iw), nI (qct (fun k => qwr F K tp tq ts bst k ∧ F (tp k) < p) t), nI p) ∧ (∀ h, h < p → F h = h → bst h ≠ mI) ∧ ∀ k, k < t → ((qwr F K tp tq ts bst k ∧ F (tp k) < p) ∧ iw k = nI 1) ∨ (¬ (qwr F K tp tq ts bst k ∧ F (tp k) < p) ∧ iw k = nI 0)) ⟨R_has, R_isWrong, ?_, fun h hh => absurd hh (by omega), fun k hk => Or.inr ⟨fun z => absurd z.2 (by omega), hw0 k (by omega)⟩⟩ (by omega) (by omega) ?_ ?_
  · have : qct (fun k => qwr F K tp tq ts bst k ∧ F (tp k) < 0) t = 0 := qct_none t (fun k _ z => absurd z.2 (by omega))
    rw [this]
  · rintro p z - hpc ⟨hs, iw, rfl, g1, g2⟩
    have cl := qct_le (fun k => qwr F K tp tq ts bst k ∧ F (tp k) < p) t
    obtain ⟨fp, fl⟩ := hfm p hpc
    have fle := (hR.2.2.2.2.2.2.2.1 p hpc).2
    by_cases hF : F p = p
    · rw [hF] at fp
      obtain ⟨e, q1, hs2, b, fw, rfl, q2, q3⟩ := q_wrongBest (R_has := hs) (R_isWrong := iw) (x1 := nI (qct (fun k => qwr F K tp tq ts bst k ∧ F (tp k) < p) t)) hR hT hfo hp hpc hF
      have eb := qbs_u q2 (hb p hpc hF)
      subst eb
      by_cases qb : bst p = mI
      · rw [qb] at q1
        simp (disch := first | omega | assumption) only [f_X12_findWrong_b38, hp, fp, q1, qn_lit, qn_ofNat, qn_neg1, qn_neg2, nI_add, pk_mul, qn_sub, qn_ltT, qn_ltF, qn_leT, qn_leF, qn_eqT, qn_eqF, qn_m1T, qn_m1F, qn_m1F2, qn_m1lt, qn_m1lt2, qn_m1le, qn_m1le2, qn_and1, qn_and3, qn_and7, qn_and15, qn_and31, qn_and255, qn_and2047, qn_shl, qn_shr, qn_or, qn_div, qn_modlt, Nat.reduceMod, Nat.reduceAdd, Nat.reduceMul, Nat.reducePow, Nat.reduceDiv, Nat.reduceSub, ↓reduceIte, qn_us, qn_un, not_true_eq_false, not_false_eq_true, true_and, and_true, qn_nn, qn_addm, qn_ngT, qn_ngF, qn_ngE, qn_ngE2, qn_ngL, qn_ngM, Nat.add_sub_cancel, qL, qS, qM, qV, qQ, qZ0, qZ1, qE_l, qE_r, qW_some]
        exact ⟨hs2, iw, Or.inl ⟨rfl, p, hpc, hF, qb⟩⟩
      · obtain ⟨r, r1, r2, r3⟩ : ∃ r, r < n ∧ bst p = nI r ∧ qft n W C V E p r := by
          rcases q2 with ⟨z, -⟩ | ⟨r, r1, r2, r3, -⟩
          · exact absurd z qb
          · exact ⟨r, r1, r2, r3⟩
        have bv : qtp bst p = r := by unfold qtp; rw [r2, nI_clamp (by omega)]
        have ef := q3 r r1 r2
        obtain ⟨f, hs3, k1, k2⟩ := q_fitsK (R_has := hs2) hR hfo hp hpc hF r1
        have k3 : f = 1 ∧ ∀ q, q < c → F q = p → hs3 q = nI (K q r) := by
          rcases k2 with ⟨z1, -, z3⟩ | ⟨-, z⟩
          · exact ⟨z1, z3⟩
          · exact absurd r3 z
        obtain ⟨rfl, k3⟩ := k3
        rw [r2] at q1
        have mark : qW (f_X12_findWrong_l137 (4, R_days) (4, R_tellings) (240, R_toldClass) (240, R_toldDay) (240, R_toldPerson) (4, R_viewed) (nI n) (nI m) (8, R_child) (8, R_childBack) (24, R_family) (24, hs3) (72, R_tieKind) (72, R_tieOne) (72, R_tieTwo) (8, R_weds) (8, R_wedsBack) (nI (qct (fun k => qwr F K tp tq ts bst k ∧ F (tp k) < p) t)) (nI p) (nI fw) (60, iw) (nI 0)) (fun e => ∃ iw', e = (60, iw') ∧ ∀ k, k < t → ((qwr F K tp tq ts bst k ∧ F (tp k) < p + 1) ∧ iw' k = nI 1) ∨ (¬ (qwr F K tp tq ts bst k ∧ F (tp k) < p + 1) ∧ iw' k = nI 0)) := by
          unfold f_X12_findWrong_l137
          refine qfor 0 t (fun i z => ∃ iw', z = ((60, iw'), nI i) ∧ (∀ k, i ≤ k → iw' k = iw k) ∧ ∀ k, k < i → ((qwr F K tp tq ts bst k ∧ F (tp k) < p + 1) ∧ iw' k = nI 1) ∨ (¬ (qwr F K tp tq ts bst k ∧ F (tp k) < p + 1) ∧ iw' k = nI 0)) ⟨_, rfl, fun _ _ => rfl, fun k hk => absurd hk (by omega)⟩ (by omega) (by omega) ?_ ?_
          · rintro i z - hi ⟨iw', rfl, u1, u2⟩
            obtain ⟨e1, e2, e3, e4, e, e5, e6, e7⟩ := h4 i hi
            obtain ⟨f1, f2⟩ := hfm (tp i) e2
            have kb := (hfo (tp i) r e2 r1).1
            have ui := u1 i (Nat.le_refl _)
            have fin1 : (qwr F K tp tq ts bst i ∧ F (tp i) < p + 1) → ∃ iw'', ((60, upd iw' i (nI 1)), nI (i + 1)) = (((60, iw'') : jA), nI (i + 1)) ∧ (∀ k, i + 1 ≤ k → iw'' k = iw k) ∧ ∀ k, k < i + 1 → ((qwr F K tp tq ts bst k ∧ F (tp k) < p + 1) ∧ iw'' k = nI 1) ∨ (¬ (qwr F K tp tq ts bst k ∧ F (tp k) < p + 1) ∧ iw'' k = nI 0) := by
              intro q
              refine ⟨_, rfl, fun k hk => by rw [pk_un (by omega)]; exact u1 k (by omega), fun k hk => ?_⟩
              by_cases e : k = i
              · rw [e, pk_us]; exact Or.inl ⟨q, rfl⟩
              · rw [pk_un e]; exact u2 k (by omega)
            have fin0 : ¬ (qwr F K tp tq ts bst i ∧ F (tp i) < p + 1) → ∃ iw'', ((60, upd iw' i (nI 0)), nI (i + 1)) = (((60, iw'') : jA), nI (i + 1)) ∧ (∀ k, i + 1 ≤ k → iw'' k = iw k) ∧ ∀ k, k < i + 1 → ((qwr F K tp tq ts bst k ∧ F (tp k) < p + 1) ∧ iw'' k = nI 1) ∨ (¬ (qwr F K tp tq ts bst k ∧ F (tp k) < p + 1) ∧ iw'' k = nI 0) := by
              intro q
              refine ⟨_, rfl, fun k hk => by rw [pk_un (by omega)]; exact u1 k (by omega), fun k hk => ?_⟩
              by_cases e : k = i
              · rw [e, pk_us]; exact Or.inr ⟨q, rfl⟩
              · rw [pk_un e]; exact u2 k (by omega)
            rcases g2 i hi with ⟨w1, w2⟩ | ⟨w1, w2⟩
            · rw [w2] at ui
              simp (disch := first | omega | assumption) only [f_X12_findWrong_b137, f_X12_findWrong_j215, f_X12_findWrong_j220, h3, e1, ui, qn_lit, qn_ofNat, qn_neg1, qn_neg2, nI_add, pk_mul, qn_sub, qn_ltT, qn_ltF, qn_leT, qn_leF, qn_eqT, qn_eqF, qn_m1T, qn_m1F, qn_m1F2, qn_m1lt, qn_m1lt2, qn_m1le, qn_m1le2, qn_and1, qn_and3, qn_and7, qn_and15, qn_and31, qn_and255, qn_and2047, qn_shl, qn_shr, qn_or, qn_div, qn_modlt, Nat.reduceMod, Nat.reduceAdd, Nat.reduceMul, Nat.reducePow, Nat.reduceDiv, Nat.reduceSub, ↓reduceIte, qn_us, qn_un, not_true_eq_false, not_false_eq_true, true_and, and_true, qn_nn, qn_addm, qn_ngT, qn_ngF, qn_ngE, qn_ngE2, qn_ngL, qn_ngM, Nat.add_sub_cancel, qL, qS, qM, qV, qQ, qZ0, qZ1, qE_l, qE_r, qW_some, q_nar1]
              exact fin1 ⟨w1.1, by have := w1.2; omega⟩
            · rw [w2] at ui
              by_cases s : ts i
              · have se := (v3 e e5).mp (e7.mp s)
                by_cases q : F (tp i) = p
                · have hv2 := k3 (tp i) e2 q
                  have eq : qwr F K tp tq ts bst i ↔ K (tp i) r ≠ tq i := by
                    unfold qwr
                    rw [q, bv]
                    exact ⟨fun z => z.2, fun z => ⟨s, z⟩⟩
                  by_cases q4 : tq i = K (tp i) r
                  · simp (disch := first | omega | assumption) only [f_X12_findWrong_b137, f_X12_findWrong_j219, f_X12_findWrong_j220, h3, e1, ui, e6, v2, f1, e3, hv2, qn_lit, qn_ofNat, qn_neg1, qn_neg2, nI_add, pk_mul, qn_sub, qn_ltT, qn_ltF, qn_leT, qn_leF, qn_eqT, qn_eqF, qn_m1T, qn_m1F, qn_m1F2, qn_m1lt, qn_m1lt2, qn_m1le, qn_m1le2, qn_and1, qn_and3, qn_and7, qn_and15, qn_and31, qn_and255, qn_and2047, qn_shl, qn_shr, qn_or, qn_div, qn_modlt, Nat.reduceMod, Nat.reduceAdd, Nat.reduceMul, Nat.reducePow, Nat.reduceDiv, Nat.reduceSub, ↓reduceIte, qn_us, qn_un, not_true_eq_false, not_false_eq_true, true_and, and_true, qn_nn, qn_addm, qn_ngT, qn_ngF, qn_ngE, qn_ngE2, qn_ngL, qn_ngM, Nat.add_sub_cancel, qL, qS, qM, qV, qQ, qZ0, qZ1, qE_l, qE_r, qW_some, q_nar0]
                    exact fin0 (fun z => eq.mp z.1 q4.symm)
                  · simp (disch := first | omega | assumption) only [f_X12_findWrong_b137, f_X12_findWrong_j215, f_X12_findWrong_j220, h3, e1, ui, e6, v2, f1, e3, hv2, qn_lit, qn_ofNat, qn_neg1, qn_neg2, nI_add, pk_mul, qn_sub, qn_ltT, qn_ltF, qn_leT, qn_leF, qn_eqT, qn_eqF, qn_m1T, qn_m1F, qn_m1F2, qn_m1lt, qn_m1lt2, qn_m1le, qn_m1le2, qn_and1, qn_and3, qn_and7, qn_and15, qn_and31, qn_and255, qn_and2047, qn_shl, qn_shr, qn_or, qn_div, qn_modlt, Nat.reduceMod, Nat.reduceAdd, Nat.reduceMul, Nat.reducePow, Nat.reduceDiv, Nat.reduceSub, ↓reduceIte, qn_us, qn_un, not_true_eq_false, not_false_eq_true, true_and, and_true, qn_nn, qn_addm, qn_ngT, qn_ngF, qn_ngE, qn_ngE2, qn_ngL, qn_ngM, Nat.add_sub_cancel, qL, qS, qM, qV, qQ, qZ0, qZ1, qE_l, qE_r, qW_some, q_nar1]
                    exact fin1 ⟨eq.mpr (fun z => q4 z.symm), by omega⟩
                · simp (disch := first | omega | assumption) only [f_X12_findWrong_b137, f_X12_findWrong_j219, f_X12_findWrong_j220, h3, e1, ui, e6, v2, f1, qn_lit, qn_ofNat, qn_neg1, qn_neg2, nI_add, pk_mul, qn_sub, qn_ltT, qn_ltF, qn_leT, qn_leF, qn_eqT, qn_eqF, qn_m1T, qn_m1F, qn_m1F2, qn_m1lt, qn_m1lt2, qn_m1le, qn_m1le2, qn_and1, qn_and3, qn_and7, qn_and15, qn_and31, qn_and255, qn_and2047, qn_shl, qn_shr, qn_or, qn_div, qn_modlt, Nat.reduceMod, Nat.reduceAdd, Nat.reduceMul, Nat.reducePow, Nat.reduceDiv, Nat.reduceSub, ↓reduceIte, qn_us, qn_un, not_true_eq_false, not_false_eq_true, true_and, and_true, qn_nn, qn_addm, qn_ngT, qn_ngF, qn_ngE, qn_ngE2, qn_ngL, qn_ngM, Nat.add_sub_cancel, qL, qS, qM, qV, qQ, qZ0, qZ1, qE_l, qE_r, qW_some, q_nar0]
                  exact fin0 (fun z => w1 ⟨z.1, by have := z.2; omega⟩)
              · have se : ¬ e ≤ vd := fun z => s (e7.mpr ((v3 e e5).mpr z))
                simp (disch := first | omega | assumption) only [f_X12_findWrong_b137, f_X12_findWrong_j219, f_X12_findWrong_j220, h3, e1, ui, e6, v2, qn_lit, qn_ofNat, qn_neg1, qn_neg2, nI_add, pk_mul, qn_sub, qn_ltT, qn_ltF, qn_leT, qn_leF, qn_eqT, qn_eqF, qn_m1T, qn_m1F, qn_m1F2, qn_m1lt, qn_m1lt2, qn_m1le, qn_m1le2, qn_and1, qn_and3, qn_and7, qn_and15, qn_and31, qn_and255, qn_and2047, qn_shl, qn_shr, qn_or, qn_div, qn_modlt, Nat.reduceMod, Nat.reduceAdd, Nat.reduceMul, Nat.reducePow, Nat.reduceDiv, Nat.reduceSub, ↓reduceIte, qn_us, qn_un, not_true_eq_false, not_false_eq_true, true_and, and_true, qn_nn, qn_addm, qn_ngT, qn_ngF, qn_ngE, qn_ngE2, qn_ngL, qn_ngM, Nat.add_sub_cancel, qL, qS, qM, qV, qQ, qZ0, qZ1, qE_l, qE_r, qW_some, q_nar0]
                exact fin0 (fun z => s z.1.1)
          · rintro z ⟨iw', rfl, u1, u2⟩
            simp (disch := first | omega | assumption) only [f_X12_findWrong_b137, h3, qn_lit, qn_ofNat, qn_neg1, qn_neg2, nI_add, pk_mul, qn_sub, qn_ltT, qn_ltF, qn_leT, qn_leF, qn_eqT, qn_eqF, qn_m1T, qn_m1F, qn_m1F2, qn_m1lt, qn_m1lt2, qn_m1le, qn_m1le2, qn_and1, qn_and3, qn_and7, qn_and15, qn_and31, qn_and255, qn_and2047, qn_shl, qn_shr, qn_or, qn_div, qn_modlt, Nat.reduceMod, Nat.reduceAdd, Nat.reduceMul, Nat.reducePow, Nat.reduceDiv, Nat.reduceSub, ↓reduceIte, qn_us, qn_un, not_true_eq_false, not_false_eq_true, true_and, and_true, qn_nn, qn_addm, qn_ngT, qn_ngF, qn_ngE, qn_ngE2, qn_ngL, qn_ngM, Nat.add_sub_cancel, qL, qS, qM, qV, qQ, qZ0, qZ1, qE_l, qE_r, qW_some]
            exact ⟨iw', rfl, u2⟩
        obtain ⟨e, m1, iw', rfl, m2⟩ := mark
        have cadd : qct (fun k => qwr F K tp tq ts bst k ∧ F (tp k) < p + 1) t = qct (fun k => qwr F K tp tq ts bst k ∧ F (tp k) < p) t + fw := by
          rw [ef]
          refine qct_add (fun k => ?_) (fun k z1 z2 => by have := z1.2; have := z2.2.1; omega) t
          unfold qwr
          constructor
          · rintro ⟨⟨z1, z2⟩, z3⟩
            by_cases e : F (tp k) = p
            · right
              rw [e, bv] at z2
              exact ⟨z1, e, z2⟩
            · exact Or.inl ⟨⟨z1, z2⟩, by omega⟩
          · rintro (⟨z1, z2⟩ | ⟨z1, z2, z3⟩)
            · exact ⟨z1, by omega⟩
            · exact ⟨⟨z1, by rw [z2, bv]; exact z3⟩, by omega⟩
        have fwt : fw ≤ t := by rw [ef]; exact qct_le _ _
        simp (disch := first | omega | assumption) only [f_X12_findWrong_b38, f_X12_findWrong_j232, hp, fp, q1, k1, m1, qn_lit, qn_ofNat, qn_neg1, qn_neg2, nI_add, pk_mul, qn_sub, qn_ltT, qn_ltF, qn_leT, qn_leF, qn_eqT, qn_eqF, qn_m1T, qn_m1F, qn_m1F2, qn_m1lt, qn_m1lt2, qn_m1le, qn_m1le2, qn_and1, qn_and3, qn_and7, qn_and15, qn_and31, qn_and255, qn_and2047, qn_shl, qn_shr, qn_or, qn_div, qn_modlt, Nat.reduceMod, Nat.reduceAdd, Nat.reduceMul, Nat.reducePow, Nat.reduceDiv, Nat.reduceSub, ↓reduceIte, qn_us, qn_un, not_true_eq_false, not_false_eq_true, true_and, and_true, qn_nn, qn_addm, qn_ngT, qn_ngF, qn_ngE, qn_ngE2, qn_ngL, qn_ngM, Nat.add_sub_cancel, qL, qS, qM, qV, qQ, qZ0, qZ1, qE_l, qE_r, qW_some]
        refine ⟨hs3, iw', by rw [cadd], fun h hh hFh => ?_, m2⟩
        by_cases e : h = p
        · rw [e]; exact qb
        · exact g1 h (by omega) hFh
    · have same : ∀ k, k < t → ((qwr F K tp tq ts bst k ∧ F (tp k) < p + 1) ↔ (qwr F K tp tq ts bst k ∧ F (tp k) < p)) := by
        intro k hk
        have e2 := (h4 k hk).2.1
        have fi := qFm_i hR.2.2.2.2.2.2.2 e2
        constructor
        · rintro ⟨z1, z2⟩
          have : F (tp k) ≠ p := fun e => by rw [e] at fi; exact hF fi
          exact ⟨z1, by omega⟩
        · rintro ⟨z1, z2⟩
          exact ⟨z1, by omega⟩
      simp (disch := first | omega | assumption) only [f_X12_findWrong_b38, f_X12_findWrong_j232, hp, fp, qn_lit, qn_ofNat, qn_neg1, qn_neg2, nI_add, pk_mul, qn_sub, qn_ltT, qn_ltF, qn_leT, qn_leF, qn_eqT, qn_eqF, qn_m1T, qn_m1F, qn_m1F2, qn_m1lt, qn_m1lt2, qn_m1le, qn_m1le2, qn_and1, qn_and3, qn_and7, qn_and15, qn_and31, qn_and255, qn_and2047, qn_shl, qn_shr, qn_or, qn_div, qn_modlt, Nat.reduceMod, Nat.reduceAdd, Nat.reduceMul, Nat.reducePow, Nat.reduceDiv, Nat.reduceSub, ↓reduceIte, qn_us, qn_un, not_true_eq_false, not_false_eq_true, true_and, and_true, qn_nn, qn_addm, qn_ngT, qn_ngF, qn_ngE, qn_ngE2, qn_ngL, qn_ngM, Nat.add_sub_cancel, qL, qS, qM, qV, qQ, qZ0, qZ1, qE_l, qE_r, qW_some]
      refine ⟨hs, iw, by rw [qct_ext same], fun h hh hFh => ?_, fun k hk => ?_⟩
      · by_cases e : h = p
        · rw [e] at hFh; exact absurd hFh hF
        · exact g1 h (by omega) hFh
      · rw [same k hk]
        exact g2 k hk
  · rintro z ⟨hs, iw, rfl, g1, g2⟩
    have same : ∀ k, k < t → ((qwr F K tp tq ts bst k ∧ F (tp k) < c) ↔ qwr F K tp tq ts bst k) := fun k hk => ⟨fun z => z.1, fun z => ⟨z, (hfm _ (h4 k hk).2.1).2⟩⟩
    simp (disch := first | omega | assumption) only [f_X12_findWrong_b38, hp, qn_lit, qn_ofNat, qn_neg1, qn_neg2, nI_add, pk_mul, qn_sub, qn_ltT, qn_ltF, qn_leT, qn_leF, qn_eqT, qn_eqF, qn_m1T, qn_m1F, qn_m1F2, qn_m1lt, qn_m1lt2, qn_m1le, qn_m1le2, qn_and1, qn_and3, qn_and7, qn_and15, qn_and31, qn_and255, qn_and2047, qn_shl, qn_shr, qn_or, qn_div, qn_modlt, Nat.reduceMod, Nat.reduceAdd, Nat.reduceMul, Nat.reducePow, Nat.reduceDiv, Nat.reduceSub, ↓reduceIte, qn_us, qn_un, not_true_eq_false, not_false_eq_true, true_and, and_true, qn_nn, qn_addm, qn_ngT, qn_ngF, qn_ngE, qn_ngE2, qn_ngL, qn_ngM, Nat.add_sub_cancel, qL, qS, qM, qV, qQ, qZ0, qZ1, qE_l, qE_r, qW_some]
    refine ⟨hs, iw, Or.inr ⟨by rw [qct_ext same], g1, fun k hk => ?_⟩⟩
    have := g2 k hk
    rw [same k hk] at this
    exact this

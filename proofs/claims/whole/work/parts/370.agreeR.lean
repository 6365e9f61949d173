/-! the reference: what disagrees, agrees, is possible -/
/-- the reference's rows of families -/
def qRF (c n m : Nat) (W C V U : Nat → Nat) (E : Nat → Nat → Nat → Prop) (t1 t2 t3 F : Nat → Nat) (we ch wb cb fm on tw kd : Nat → Int32) : Prop := qXw n W C V U we ch wb cb ∧ c ≤ 24 ∧ m ≤ 72 ∧ (∀ a b k, E a b k → a < c ∧ b < c ∧ a ≠ b ∧ k < 3) ∧ qTI m t1 t2 t3 on tw kd ∧ qTE m t1 t2 t3 E ∧ (∀ p, p < c → fm p = nI (F p)) ∧ qFm c E F
def qRT (c t d : Nat) (sn : Int32) (tp tq : Nat → Nat) (ts : Nat → Prop) (R_days R_viewed R_tellings R_toldPerson R_toldClass R_toldDay : Nat → Int32) : Prop := t ≤ 60 ∧ d ≤ 999 ∧ qvw sn d ∧ R_days 0 = nI d ∧ R_viewed 0 = sn ∧ R_tellings 0 = nI t ∧ ∀ k, k < t → R_toldPerson k = nI (tp k) ∧ tp k < c ∧ R_toldClass k = nI (tq k) ∧ tq k < 8 ∧ ∃ e, e ≤ d ∧ R_toldDay k = nI e ∧ (ts k ↔ qsn sn e)
theorem q_fitsK {R_child : Nat → Int32} {R_childBack : Nat → Int32} {R_persons : Nat → Int32} {R_tieKind : Nat → Int32} {R_tieOne : Nat → Int32} {R_tieTwo : Nat → Int32} {R_weds : Nat → Int32} {R_wedsBack : Nat → Int32} {R_has : Nat → Int32} {c n m h r : Nat} {W C V U t1 t2 t3 F : Nat → Nat} {K : Nat → Nat → Nat} {E : Nat → Nat → Nat → Prop} {R_family : Nat → Int32} (hR : qRF c n m W C V U E t1 t2 t3 F R_weds R_child R_wedsBack R_childBack R_family R_tieOne R_tieTwo R_tieKind) (hfo : ∀ p r, p < c → r < n → qfo n W C V E (F p) r p (K p r)) (hp : R_persons 0 = nI c) (hh : h < c) (hF : F h = h) (hr : r < n) : ∃ f hs, f_X12_fits (nI m) (8, R_child) (8, R_childBack) (4, R_persons) (72, R_tieKind) (72, R_tieOne) (72, R_tieTwo) (8, R_weds) (8, R_wedsBack) (24, R_has) (nI h) (nI r) = some (nI f, (24, hs)) ∧ ((f = 1 ∧ qft n W C V E h r ∧ ∀ p, p < c → F p = h → hs p = nI (K p r)) ∨ (f = 0 ∧ ¬ qft n W C V E h r)) := by
  obtain ⟨r1, r2, r3, r4, r5, r6, r7, r8⟩ := hR
  obtain ⟨f, hs, g1, g2⟩ := q_fitsR (R_has := R_has) r1 r2 r3 r4 r5 r6 hp hh hr
  refine ⟨f, hs, g1, ?_⟩
  rcases g2 with ⟨rfl, X, X1, X2, X3⟩ | ⟨rfl, g2⟩
  · refine Or.inl ⟨rfl, ⟨X, X1, X2⟩, fun p hp2 hFp => ?_⟩
    have hq : qcn E h p := by
      have := (r8.1 p hp2).1
      rw [hFp] at this
      exact qcn_s this
    rw [X3 p hp2 hq]
    have f1 := hfo p r hp2 hr
    rw [hFp] at f1
    exact congrArg nI (f1.2.2 X X1 X2)
  · exact Or.inr ⟨rfl, g2⟩
theorem q_disagree {R_days : Nat → Int32} {R_family : Nat → Int32} {R_has : Nat → Int32} {R_tellings : Nat → Int32} {R_toldClass : Nat → Int32} {R_toldDay : Nat → Int32} {R_toldPerson : Nat → Int32} {R_viewed : Nat → Int32} {c t d h r : Nat} {sn : Int32} {tp tq F : Nat → Nat} {K : Nat → Nat → Nat} {ts : Nat → Prop} (hT : qRT c t d sn tp tq ts R_days R_viewed R_tellings R_toldPerson R_toldClass R_toldDay) (hc : c ≤ 24) (hfm : ∀ p, p < c → R_family p = nI (F p) ∧ F p < c) (hhs : ∀ p, p < c → F p = h → R_has p = nI (K p r)) (hK : ∀ p, p < c → K p r < 8) (hh : h < c) : f_X12_disagree (4, R_days) (24, R_family) (24, R_has) (4, R_tellings) (240, R_toldClass) (240, R_toldDay) (240, R_toldPerson) (4, R_viewed) (nI h) = some (nI (qag F K tp tq ts t h r)) := by
  obtain ⟨t60, d9, hv, h1, h2, h3, h4⟩ := hT
  obtain ⟨vd, v1, v2, v3⟩ := q_viewDay d9 hv h1 h2
  have loop : qW (f_X12_disagree_l4 (4, R_days) (24, R_family) (24, R_has) (4, R_tellings) (240, R_toldClass) (240, R_toldDay) (240, R_toldPerson) (4, R_viewed) (nI h) (nI 0) (nI 0)) (fun e => e = nI (qag F K tp tq ts t h r)) := by
    unfold f_X12_disagree_l4
    refine qfor 0 t (fun k z => z = (nI (qag F K tp tq ts k h r), nI k)) rfl (by omega) (by omega) ?_ ?_
    · rintro k z - hk rfl
      obtain ⟨e1, e2, e3, e4, e, e5, e6, e7⟩ := h4 k hk
      obtain ⟨f1, f2⟩ := hfm (tp k) e2
      have cl := qct_le (fun k => ts k ∧ F (tp k) = h ∧ K (tp k) r ≠ tq k) k
      have cl2 : qag F K tp tq ts k h r ≤ k := cl
      have sk := v3 e e5
      by_cases s : ts k
      · have se := sk.mp (e7.mp s)
        by_cases q : F (tp k) = h
        · have hv2 := hhs (tp k) e2 q
          have kb := hK (tp k) e2
          by_cases q2 : tq k = K (tp k) r
          · have ec : qag F K tp tq ts (k + 1) h r = qag F K tp tq ts k h r := qct_F (fun z => z.2.2 q2.symm)
            simp (disch := first | omega | assumption) only [f_X12_disagree_b4, f_X12_disagree_j67, f_X12_disagree_j68, h3, e1, e6, v2, f1, e3, hv2, qn_lit, qn_ofNat, qn_neg1, qn_neg2, nI_add, pk_mul, qn_sub, qn_ltT, qn_ltF, qn_leT, qn_leF, qn_eqT, qn_eqF, qn_m1T, qn_m1F, qn_m1F2, qn_m1lt, qn_m1lt2, qn_m1le, qn_m1le2, qn_and1, qn_and3, qn_and7, qn_and15, qn_and31, qn_and255, qn_and2047, qn_shl, qn_shr, qn_or, qn_div, qn_modlt, Nat.reduceMod, Nat.reduceAdd, Nat.reduceMul, Nat.reducePow, Nat.reduceDiv, Nat.reduceSub, ↓reduceIte, qn_us, qn_un, not_true_eq_false, not_false_eq_true, true_and, and_true, qn_nn, qn_addm, qn_ngT, qn_ngF, qn_ngE, qn_ngE2, qn_ngL, qn_ngM, Nat.add_sub_cancel, qL, qS, qM, qV, qQ, qZ0, qZ1, qE_l, qE_r, qW_some, ec, Nat.add_zero]
          · have ec : qag F K tp tq ts (k + 1) h r = qag F K tp tq ts k h r + 1 := qct_T ⟨s, q, fun z => q2 z.symm⟩
            simp (disch := first | omega | assumption) only [f_X12_disagree_b4, f_X12_disagree_j67, f_X12_disagree_j68, h3, e1, e6, v2, f1, e3, hv2, qn_lit, qn_ofNat, qn_neg1, qn_neg2, nI_add, pk_mul, qn_sub, qn_ltT, qn_ltF, qn_leT, qn_leF, qn_eqT, qn_eqF, qn_m1T, qn_m1F, qn_m1F2, qn_m1lt, qn_m1lt2, qn_m1le, qn_m1le2, qn_and1, qn_and3, qn_and7, qn_and15, qn_and31, qn_and255, qn_and2047, qn_shl, qn_shr, qn_or, qn_div, qn_modlt, Nat.reduceMod, Nat.reduceAdd, Nat.reduceMul, Nat.reducePow, Nat.reduceDiv, Nat.reduceSub, ↓reduceIte, qn_us, qn_un, not_true_eq_false, not_false_eq_true, true_and, and_true, qn_nn, qn_addm, qn_ngT, qn_ngF, qn_ngE, qn_ngE2, qn_ngL, qn_ngM, Nat.add_sub_cancel, qL, qS, qM, qV, qQ, qZ0, qZ1, qE_l, qE_r, qW_some, ec]
        · have ec : qag F K tp tq ts (k + 1) h r = qag F K tp tq ts k h r := qct_F (fun z => q z.2.1)
          simp (disch := first | omega | assumption) only [f_X12_disagree_b4, f_X12_disagree_j67, f_X12_disagree_j68, h3, e1, e6, v2, f1, qn_lit, qn_ofNat, qn_neg1, qn_neg2, nI_add, pk_mul, qn_sub, qn_ltT, qn_ltF, qn_leT, qn_leF, qn_eqT, qn_eqF, qn_m1T, qn_m1F, qn_m1F2, qn_m1lt, qn_m1lt2, qn_m1le, qn_m1le2, qn_and1, qn_and3, qn_and7, qn_and15, qn_and31, qn_and255, qn_and2047, qn_shl, qn_shr, qn_or, qn_div, qn_modlt, Nat.reduceMod, Nat.reduceAdd, Nat.reduceMul, Nat.reducePow, Nat.reduceDiv, Nat.reduceSub, ↓reduceIte, qn_us, qn_un, not_true_eq_false, not_false_eq_true, true_and, and_true, qn_nn, qn_addm, qn_ngT, qn_ngF, qn_ngE, qn_ngE2, qn_ngL, qn_ngM, Nat.add_sub_cancel, qL, qS, qM, qV, qQ, qZ0, qZ1, qE_l, qE_r, qW_some, ec, Nat.add_zero]
      · have se : ¬ e ≤ vd := fun z => s (e7.mpr (sk.mpr z))
        have ec : qag F K tp tq ts (k + 1) h r = qag F K tp tq ts k h r := qct_F (fun z => s z.1)
        simp (disch := first | omega | assumption) only [f_X12_disagree_b4, f_X12_disagree_j67, f_X12_disagree_j68, h3, e1, e6, v2, qn_lit, qn_ofNat, qn_neg1, qn_neg2, nI_add, pk_mul, qn_sub, qn_ltT, qn_ltF, qn_leT, qn_leF, qn_eqT, qn_eqF, qn_m1T, qn_m1F, qn_m1F2, qn_m1lt, qn_m1lt2, qn_m1le, qn_m1le2, qn_and1, qn_and3, qn_and7, qn_and15, qn_and31, qn_and255, qn_and2047, qn_shl, qn_shr, qn_or, qn_div, qn_modlt, Nat.reduceMod, Nat.reduceAdd, Nat.reduceMul, Nat.reducePow, Nat.reduceDiv, Nat.reduceSub, ↓reduceIte, qn_us, qn_un, not_true_eq_false, not_false_eq_true, true_and, and_true, qn_nn, qn_addm, qn_ngT, qn_ngF, qn_ngE, qn_ngE2, qn_ngL, qn_ngM, Nat.add_sub_cancel, qL, qS, qM, qV, qQ, qZ0, qZ1, qE_l, qE_r, qW_some, ec, Nat.add_zero]
    · rintro z rfl
      simp (disch := first | omega | assumption) only [f_X12_disagree_b4, h3, qn_lit, qn_ofNat, qn_neg1, qn_neg2, nI_add, pk_mul, qn_sub, qn_ltT, qn_ltF, qn_leT, qn_leF, qn_eqT, qn_eqF, qn_m1T, qn_m1F, qn_m1F2, qn_m1lt, qn_m1lt2, qn_m1le, qn_m1le2, qn_and1, qn_and3, qn_and7, qn_and15, qn_and31, qn_and255, qn_and2047, qn_shl, qn_shr, qn_or, qn_div, qn_modlt, Nat.reduceMod, Nat.reduceAdd, Nat.reduceMul, Nat.reducePow, Nat.reduceDiv, Nat.reduceSub, ↓reduceIte, qn_us, qn_un, not_true_eq_false, not_false_eq_true, true_and, and_true, qn_nn, qn_addm, qn_ngT, qn_ngF, qn_ngE, qn_ngE2, qn_ngL, qn_ngM, Nat.add_sub_cancel, qL, qS, qM, qV, qQ, qZ0, qZ1, qE_l, qE_r, qW_some]
  obtain ⟨e, g1, rfl⟩ := loop
  simp (disch := first | omega | assumption) only [f_X12_disagree, g1, qn_lit, qn_ofNat, qn_neg1, qn_neg2, nI_add, pk_mul, qn_sub, qn_ltT, qn_ltF, qn_leT, qn_leF, qn_eqT, qn_eqF, qn_m1T, qn_m1F, qn_m1F2, qn_m1lt, qn_m1lt2, qn_m1le, qn_m1le2, qn_and1, qn_and3, qn_and7, qn_and15, qn_and31, qn_and255, qn_and2047, qn_shl, qn_shr, qn_or, qn_div, qn_modlt, Nat.reduceMod, Nat.reduceAdd, Nat.reduceMul, Nat.reducePow, Nat.reduceDiv, Nat.reduceSub, ↓reduceIte, qn_us, qn_un, not_true_eq_false, not_false_eq_true, true_and, and_true, qn_nn, qn_addm, qn_ngT, qn_ngF, qn_ngE, qn_ngE2, qn_ngL, qn_ngM, Nat.add_sub_cancel, qL, qS, qM, qV, qQ, qZ0, qZ1, qE_l, qE_r, qW_some]
theorem q_bitor {m r : Nat} (hm : m < 256) (hr : r < 8) : m ||| 2 ^ r < 256 ∧ ∀ i, i < 8 → (qbt (m ||| 2 ^ r) i = 1 ↔ qbt m i = 1 ∨ i = r) := by
  have key : ∀ a : Fin 256, ∀ b : Fin 8, (a.val ||| 2 ^ b.val) < 256 ∧ ∀ i : Fin 8, (qbt (a.val ||| 2 ^ b.val) i.val = 1 ↔ qbt a.val i.val = 1 ∨ i.val = b.val) := by decide +kernel
  obtain ⟨k1, k2⟩ := key ⟨m, hm⟩ ⟨r, hr⟩
  exact ⟨k1, fun i hi => k2 ⟨i, hi⟩⟩
theorem q_maskeq {a b : Nat} (ha : a < 256) (hb : b < 256) (h : ∀ i, i < 8 → (qbt a i = 1 ↔ qbt b i = 1)) : a = b := by
  apply Nat.eq_of_testBit_eq
  intro i
  by_cases hi : i < 8
  · have := h i hi
    have h1 : a.testBit i = true ↔ b.testBit i = true := by rw [← qtb, ← qtb]; exact this
    cases ea : a.testBit i <;> cases eb : b.testBit i
    · rfl
    · rw [ea, eb] at h1; simp at h1
    · rw [ea, eb] at h1; simp at h1
    · rfl
  · rw [Nat.testBit_lt_two_pow (Nat.lt_of_lt_of_le ha (Nat.pow_le_pow_right (n := 2) (i := 8) (by decide) (by omega))), Nat.testBit_lt_two_pow (Nat.lt_of_lt_of_le hb (Nat.pow_le_pow_right (n := 2) (i := 8) (by decide) (by omega)))]
theorem q_agreeing {R_child : Nat → Int32} {R_childBack : Nat → Int32} {R_days : Nat → Int32} {R_family : Nat → Int32} {R_persons : Nat → Int32} {R_tellings : Nat → Int32} {R_tieKind : Nat → Int32} {R_tieOne : Nat → Int32} {R_tieTwo : Nat → Int32} {R_toldClass : Nat → Int32} {R_toldDay : Nat → Int32} {R_toldPerson : Nat → Int32} {R_viewed : Nat → Int32} {R_weds : Nat → Int32} {R_wedsBack : Nat → Int32} {R_has : Nat → Int32} {c n m t d h : Nat} {sn : Int32} {W C V U t1 t2 t3 F tp tq : Nat → Nat} {K : Nat → Nat → Nat} {ts : Nat → Prop} {E : Nat → Nat → Nat → Prop} (hR : qRF c n m W C V U E t1 t2 t3 F R_weds R_child R_wedsBack R_childBack R_family R_tieOne R_tieTwo R_tieKind) (hT : qRT c t d sn tp tq ts R_days R_viewed R_tellings R_toldPerson R_toldClass R_toldDay) (hfo : ∀ p r, p < c → r < n → qfo n W C V E (F p) r p (K p r)) (hp : R_persons 0 = nI c) (hh : h < c) (hF : F h = h) : ∃ ma hs, f_X12_agreeing (nI n) (nI m) (8, R_child) (8, R_childBack) (4, R_days) (24, R_family) (4, R_persons) (4, R_tellings) (72, R_tieKind) (72, R_tieOne) (72, R_tieTwo) (240, R_toldClass) (240, R_toldDay) (240, R_toldPerson) (4, R_viewed) (8, R_weds) (8, R_wedsBack) (24, R_has) (nI h) = some (nI ma, (24, hs)) ∧ ma < 256 ∧ ∀ r, r < 8 → (qbt ma r = 1 ↔ r < n ∧ qft n W C V E h r ∧ qag F K tp tq ts t h r = 0) := by
  have hn := hR.1.1.1
  have hfm : ∀ p, p < c → R_family p = nI (F p) ∧ F p < c := fun p hp2 => ⟨hR.2.2.2.2.2.2.1 p hp2, by have := (hR.2.2.2.2.2.2.2.1 p hp2).2; omega⟩
  have t60 := hT.1
  have loop : qW (f_X12_agreeing_l4 (nI n) (nI m) (8, R_child) (8, R_childBack) (4, R_days) (24, R_family) (4, R_persons) (4, R_tellings) (72, R_tieKind) (72, R_tieOne) (72, R_tieTwo) (240, R_toldClass) (240, R_toldDay) (240, R_toldPerson) (4, R_viewed) (8, R_weds) (8, R_wedsBack) (nI h) (24, R_has) (nI 0) (nI 0)) (fun e => ∃ ma hs, e = ((24, hs), nI ma) ∧ ma < 256 ∧ ∀ r, r < 8 → (qbt ma r = 1 ↔ r < n ∧ qft n W C V E h r ∧ qag F K tp tq ts t h r = 0)) := by
    unfold f_X12_agreeing_l4
    refine qfor 0 n (fun r z => ∃ ma hs, z = ((24, hs), nI ma, nI r) ∧ ma < 256 ∧ ∀ i, i < 8 → (qbt ma i = 1 ↔ i < r ∧ qft n W C V E h i ∧ qag F K tp tq ts t h i = 0)) ⟨0, _, rfl, by decide, fun i hi => ⟨fun z => absurd z (by unfold qbt; simp), fun z => absurd z.1 (by omega)⟩⟩ (by omega) (by omega) ?_ ?_
    · rintro r z - hr ⟨ma, hs, rfl, g1, g2⟩
      obtain ⟨f, hs2, k1, k2⟩ := q_fitsK (R_has := hs) hR hfo hp hh hF hr
      have skip : ¬ (qft n W C V E h r ∧ qag F K tp tq ts t h r = 0) → ∃ ma' hs', ((24, hs2), nI ma, nI (r + 1)) = (((24, hs') : jA), nI ma', nI (r + 1)) ∧ ma' < 256 ∧ ∀ i, i < 8 → (qbt ma' i = 1 ↔ i < r + 1 ∧ qft n W C V E h i ∧ qag F K tp tq ts t h i = 0) := by
        intro q
        refine ⟨ma, hs2, rfl, g1, fun i hi => (g2 i hi).trans ⟨fun z => ⟨by omega, z.2⟩, fun z => ?_⟩⟩
        have : i ≠ r := fun e => q (by rw [← e]; exact z.2)
        exact ⟨by omega, z.2⟩
      rcases k2 with ⟨rfl, k2, k3⟩ | ⟨rfl, k2⟩
      · have dg := q_disagree (R_has := hs2) (r := r) hT hR.2.1 hfm k3 (fun p hp2 => by have := (hfo p r hp2 hr).1; omega) hh
        have cl : qag F K tp tq ts t h r ≤ t := qct_le _ _
        by_cases q : qag F K tp tq ts t h r = 0
        · rw [q] at dg
          obtain ⟨o1, o2⟩ := q_bitor g1 (show r < 8 by omega)
          simp (disch := first | omega | assumption) only [f_X12_agreeing_b4, f_X12_agreeing_j36, f_X12_agreeing_j37, k1, dg, qn_lit, qn_ofNat, qn_neg1, qn_neg2, nI_add, pk_mul, qn_sub, qn_ltT, qn_ltF, qn_leT, qn_leF, qn_eqT, qn_eqF, qn_m1T, qn_m1F, qn_m1F2, qn_m1lt, qn_m1lt2, qn_m1le, qn_m1le2, qn_and1, qn_and3, qn_and7, qn_and15, qn_and31, qn_and255, qn_and2047, qn_shl, qn_shr, qn_or, qn_div, qn_modlt, Nat.reduceMod, Nat.reduceAdd, Nat.reduceMul, Nat.reducePow, Nat.reduceDiv, Nat.reduceSub, ↓reduceIte, qn_us, qn_un, not_true_eq_false, not_false_eq_true, true_and, and_true, qn_nn, qn_addm, qn_ngT, qn_ngF, qn_ngE, qn_ngE2, qn_ngL, qn_ngM, Nat.add_sub_cancel, qL, qS, qM, qV, qQ, qZ0, qZ1, qE_l, qE_r, qW_some, Nat.mul_one]
          refine ⟨_, _, rfl, o1, fun i hi => (o2 i hi).trans ?_⟩
          rw [g2 i hi]
          constructor
          · rintro (z | rfl)
            · exact ⟨by omega, z.2⟩
            · exact ⟨by omega, k2, q⟩
          · rintro ⟨z1, z2⟩
            by_cases e : i = r
            · exact Or.inr e
            · exact Or.inl ⟨by omega, z2⟩
        · have o0 : ma ||| 0 = ma := Nat.or_zero ma
          simp (disch := first | omega | assumption) only [f_X12_agreeing_b4, f_X12_agreeing_j36, f_X12_agreeing_j37, k1, dg, qn_lit, qn_ofNat, qn_neg1, qn_neg2, nI_add, pk_mul, qn_sub, qn_ltT, qn_ltF, qn_leT, qn_leF, qn_eqT, qn_eqF, qn_m1T, qn_m1F, qn_m1F2, qn_m1lt, qn_m1lt2, qn_m1le, qn_m1le2, qn_and1, qn_and3, qn_and7, qn_and15, qn_and31, qn_and255, qn_and2047, qn_shl, qn_shr, qn_or, qn_div, qn_modlt, Nat.reduceMod, Nat.reduceAdd, Nat.reduceMul, Nat.reducePow, Nat.reduceDiv, Nat.reduceSub, ↓reduceIte, qn_us, qn_un, not_true_eq_false, not_false_eq_true, true_and, and_true, qn_nn, qn_addm, qn_ngT, qn_ngF, qn_ngE, qn_ngE2, qn_ngL, qn_ngM, Nat.add_sub_cancel, qL, qS, qM, qV, qQ, qZ0, qZ1, qE_l, qE_r, qW_some, o0]
          exact skip (fun z => q z.2)
      · have o0 : ma ||| 0 = ma := Nat.or_zero ma
        simp (disch := first | omega | assumption) only [f_X12_agreeing_b4, f_X12_agreeing_j36, f_X12_agreeing_j37, k1, qn_lit, qn_ofNat, qn_neg1, qn_neg2, nI_add, pk_mul, qn_sub, qn_ltT, qn_ltF, qn_leT, qn_leF, qn_eqT, qn_eqF, qn_m1T, qn_m1F, qn_m1F2, qn_m1lt, qn_m1lt2, qn_m1le, qn_m1le2, qn_and1, qn_and3, qn_and7, qn_and15, qn_and31, qn_and255, qn_and2047, qn_shl, qn_shr, qn_or, qn_div, qn_modlt, Nat.reduceMod, Nat.reduceAdd, Nat.reduceMul, Nat.reducePow, Nat.reduceDiv, Nat.reduceSub, ↓reduceIte, qn_us, qn_un, not_true_eq_false, not_false_eq_true, true_and, and_true, qn_nn, qn_addm, qn_ngT, qn_ngF, qn_ngE, qn_ngE2, qn_ngL, qn_ngM, Nat.add_sub_cancel, qL, qS, qM, qV, qQ, qZ0, qZ1, qE_l, qE_r, qW_some, o0]
        exact skip (fun z => k2 z.1)
    · rintro z ⟨ma, hs, rfl, g1, g2⟩
      simp (disch := first | omega | assumption) only [f_X12_agreeing_b4, qn_lit, qn_ofNat, qn_neg1, qn_neg2, nI_add, pk_mul, qn_sub, qn_ltT, qn_ltF, qn_leT, qn_leF, qn_eqT, qn_eqF, qn_m1T, qn_m1F, qn_m1F2, qn_m1lt, qn_m1lt2, qn_m1le, qn_m1le2, qn_and1, qn_and3, qn_and7, qn_and15, qn_and31, qn_and255, qn_and2047, qn_shl, qn_shr, qn_or, qn_div, qn_modlt, Nat.reduceMod, Nat.reduceAdd, Nat.reduceMul, Nat.reducePow, Nat.reduceDiv, Nat.reduceSub, ↓reduceIte, qn_us, qn_un, not_true_eq_false, not_false_eq_true, true_and, and_true, qn_nn, qn_addm, qn_ngT, qn_ngF, qn_ngE, qn_ngE2, qn_ngL, qn_ngM, Nat.add_sub_cancel, qL, qS, qM, qV, qQ, qZ0, qZ1, qE_l, qE_r, qW_some]
      exact ⟨ma, hs, rfl, g1, g2⟩
  obtain ⟨e, g1, ma, hs, rfl, g2, g3⟩ := loop
  exact ⟨ma, hs, by simp (disch := first | omega | assumption) only [f_X12_agreeing, g1, qn_lit, qn_ofNat, qn_neg1, qn_neg2, nI_add, pk_mul, qn_sub, qn_ltT, qn_ltF, qn_leT, qn_leF, qn_eqT, qn_eqF, qn_m1T, qn_m1F, qn_m1F2, qn_m1lt, qn_m1lt2, qn_m1le, qn_m1le2, qn_and1, qn_and3, qn_and7, qn_and15, qn_and31, qn_and255, qn_and2047, qn_shl, qn_shr, qn_or, qn_div, qn_modlt, Nat.reduceMod, Nat.reduceAdd, Nat.reduceMul, Nat.reducePow, Nat.reduceDiv, Nat.reduceSub, ↓reduceIte, qn_us, qn_un, not_true_eq_false, not_false_eq_true, true_and, and_true, qn_nn, qn_addm, qn_ngT, qn_ngF, qn_ngE, qn_ngE2, qn_ngL, qn_ngM, Nat.add_sub_cancel, qL, qS, qM, qV, qQ, qZ0, qZ1, qE_l, qE_r, qW_some], g2, g3⟩
theorem q_possible {R_child : Nat → Int32} {R_childBack : Nat → Int32} {R_days : Nat → Int32} {R_family : Nat → Int32} {R_persons : Nat → Int32} {R_tellings : Nat → Int32} {R_tieKind : Nat → Int32} {R_tieOne : Nat → Int32} {R_tieTwo : Nat → Int32} {R_toldClass : Nat → Int32} {R_toldDay : Nat → Int32} {R_toldPerson : Nat → Int32} {R_viewed : Nat → Int32} {R_weds : Nat → Int32} {R_wedsBack : Nat → Int32} {R_has : Nat → Int32} {c n m t d p : Nat} {sn : Int32} {W C V U t1 t2 t3 F tp tq : Nat → Nat} {K : Nat → Nat → Nat} {ts : Nat → Prop} {E : Nat → Nat → Nat → Prop} (hR : qRF c n m W C V U E t1 t2 t3 F R_weds R_child R_wedsBack R_childBack R_family R_tieOne R_tieTwo R_tieKind) (hT : qRT c t d sn tp tq ts R_days R_viewed R_tellings R_toldPerson R_toldClass R_toldDay) (hfo : ∀ p r, p < c → r < n → qfo n W C V E (F p) r p (K p r)) (hp : R_persons 0 = nI c) (hpp : p < c) : ∃ ma hs, f_X12_possible (nI n) (nI m) (8, R_child) (8, R_childBack) (4, R_days) (24, R_family) (4, R_persons) (4, R_tellings) (72, R_tieKind) (72, R_tieOne) (72, R_tieTwo) (240, R_toldClass) (240, R_toldDay) (240, R_toldPerson) (4, R_viewed) (8, R_weds) (8, R_wedsBack) (24, R_has) (nI p) = some (nI ma, (24, hs)) ∧ ma < 256 ∧ ∀ x, x < 8 → (qbt ma x = 1 ↔ ∃ r, r < n ∧ qft n W C V E (F p) r ∧ qag F K tp tq ts t (F p) r = 0 ∧ K p r = x) := by
  have hn := hR.1.1.1
  have hfm : ∀ p, p < c → R_family p = nI (F p) ∧ F p < c := fun p hp2 => ⟨hR.2.2.2.2.2.2.1 p hp2, by have := (hR.2.2.2.2.2.2.2.1 p hp2).2; omega⟩
  have t60 := hT.1
  have c24 := hR.2.1
  obtain ⟨fp1, fp2⟩ := hfm p hpp
  have fi := qFm_i hR.2.2.2.2.2.2.2 hpp
  have loop : qW (f_X12_possible_l12 (nI n) (nI m) (8, R_child) (8, R_childBack) (4, R_days) (24, R_family) (4, R_persons) (4, R_tellings) (72, R_tieKind) (72, R_tieOne) (72, R_tieTwo) (240, R_toldClass) (240, R_toldDay) (240, R_toldPerson) (4, R_viewed) (8, R_weds) (8, R_wedsBack) (nI p) (nI (F p)) (24, R_has) (nI 0) (nI 0)) (fun e => ∃ ma hs, e = ((24, hs), nI ma) ∧ ma < 256 ∧ ∀ x, x < 8 → (qbt ma x = 1 ↔ ∃ r, r < n ∧ qft n W C V E (F p) r ∧ qag F K tp tq ts t (F p) r = 0 ∧ K p r = x)) := by
    unfold f_X12_possible_l12
    refine qfor 0 n (fun r z => ∃ ma hs, z = ((24, hs), nI ma, nI r) ∧ ma < 256 ∧ ∀ x, x < 8 → (qbt ma x = 1 ↔ ∃ i, i < r ∧ qft n W C V E (F p) i ∧ qag F K tp tq ts t (F p) i = 0 ∧ K p i = x)) ⟨0, _, rfl, by decide, fun i hi => ⟨fun z => absurd z (by unfold qbt; simp), fun ⟨i, i1, _⟩ => absurd i1 (by omega)⟩⟩ (by omega) (by omega) ?_ ?_
    · rintro r z - hr ⟨ma, hs, rfl, g1, g2⟩
      obtain ⟨f, hs2, k1, k2⟩ := q_fitsK (R_has := hs) hR hfo hp fp2 fi hr
      have skip : ¬ (qft n W C V E (F p) r ∧ qag F K tp tq ts t (F p) r = 0) → ∃ ma' hs', ((24, hs2), nI ma, nI (r + 1)) = (((24, hs') : jA), nI ma', nI (r + 1)) ∧ ma' < 256 ∧ ∀ x, x < 8 → (qbt ma' x = 1 ↔ ∃ i, i < r + 1 ∧ qft n W C V E (F p) i ∧ qag F K tp tq ts t (F p) i = 0 ∧ K p i = x) := by
        intro q
        refine ⟨ma, hs2, rfl, g1, fun x hx => (g2 x hx).trans ⟨fun ⟨i, z⟩ => ⟨i, by omega, z.2⟩, fun ⟨i, z⟩ => ?_⟩⟩
        have : i ≠ r := fun e => q (by rw [← e]; exact ⟨z.2.1, z.2.2.1⟩)
        exact ⟨i, by omega, z.2⟩
      rcases k2 with ⟨rfl, k2, k3⟩ | ⟨rfl, k2⟩
      · have dg := q_disagree (R_has := hs2) (r := r) hT hR.2.1 hfm k3 (fun p hp2 => by have := (hfo p r hp2 hr).1; omega) fp2
        have cl : qag F K tp tq ts t (F p) r ≤ t := qct_le _ _
        have kb := (hfo p r hpp hr).1
        by_cases q : qag F K tp tq ts t (F p) r = 0
        · rw [q] at dg
          have hp3 := k3 p hpp rfl
          obtain ⟨o1, o2⟩ := q_bitor g1 (show K p r < 8 by omega)
          simp (disch := first | omega | assumption) only [f_X12_possible_b12, f_X12_possible_j51, f_X12_possible_j52, k1, dg, hp3, qn_lit, qn_ofNat, qn_neg1, qn_neg2, nI_add, pk_mul, qn_sub, qn_ltT, qn_ltF, qn_leT, qn_leF, qn_eqT, qn_eqF, qn_m1T, qn_m1F, qn_m1F2, qn_m1lt, qn_m1lt2, qn_m1le, qn_m1le2, qn_and1, qn_and3, qn_and7, qn_and15, qn_and31, qn_and255, qn_and2047, qn_shl, qn_shr, qn_or, qn_div, qn_modlt, Nat.reduceMod, Nat.reduceAdd, Nat.reduceMul, Nat.reducePow, Nat.reduceDiv, Nat.reduceSub, ↓reduceIte, qn_us, qn_un, not_true_eq_false, not_false_eq_true, true_and, and_true, qn_nn, qn_addm, qn_ngT, qn_ngF, qn_ngE, qn_ngE2, qn_ngL, qn_ngM, Nat.add_sub_cancel, qL, qS, qM, qV, qQ, qZ0, qZ1, qE_l, qE_r, qW_some, Nat.mul_one]
          refine ⟨_, _, rfl, o1, fun x hx => (o2 x hx).trans ?_⟩
          rw [g2 x hx]
          constructor
          · rintro (⟨i, z⟩ | rfl)
            · exact ⟨i, by omega, z.2⟩
            · exact ⟨r, by omega, k2, q, rfl⟩
          · rintro ⟨i, z1, z2⟩
            by_cases e : i = r
            · subst e
              exact Or.inr z2.2.2.symm
            · exact Or.inl ⟨i, by omega, z2⟩
        · have o0 : ma ||| 0 = ma := Nat.or_zero ma
          simp (disch := first | omega | assumption) only [f_X12_possible_b12, f_X12_possible_j51, f_X12_possible_j52, k1, dg, qn_lit, qn_ofNat, qn_neg1, qn_neg2, nI_add, pk_mul, qn_sub, qn_ltT, qn_ltF, qn_leT, qn_leF, qn_eqT, qn_eqF, qn_m1T, qn_m1F, qn_m1F2, qn_m1lt, qn_m1lt2, qn_m1le, qn_m1le2, qn_and1, qn_and3, qn_and7, qn_and15, qn_and31, qn_and255, qn_and2047, qn_shl, qn_shr, qn_or, qn_div, qn_modlt, Nat.reduceMod, Nat.reduceAdd, Nat.reduceMul, Nat.reducePow, Nat.reduceDiv, Nat.reduceSub, ↓reduceIte, qn_us, qn_un, not_true_eq_false, not_false_eq_true, true_and, and_true, qn_nn, qn_addm, qn_ngT, qn_ngF, qn_ngE, qn_ngE2, qn_ngL, qn_ngM, Nat.add_sub_cancel, qL, qS, qM, qV, qQ, qZ0, qZ1, qE_l, qE_r, qW_some, o0]
          exact skip (fun z => q z.2)
      · have o0 : ma ||| 0 = ma := Nat.or_zero ma
        simp (disch := first | omega | assumption) only [f_X12_possible_b12, f_X12_possible_j51, f_X12_possible_j52, k1, qn_lit, qn_ofNat, qn_neg1, qn_neg2, nI_add, pk_mul, qn_sub, qn_ltT, qn_ltF, qn_leT, qn_leF, qn_eqT, qn_eqF, qn_m1T, qn_m1F, qn_m1F2, qn_m1lt, qn_m1lt2, qn_m1le, qn_m1le2, qn_and1, qn_and3, qn_and7, qn_and15, qn_and31, qn_and255, qn_and2047, qn_shl, qn_shr, qn_or, qn_div, qn_modlt, Nat.reduceMod, Nat.reduceAdd, Nat.reduceMul, Nat.reducePow, Nat.reduceDiv, Nat.reduceSub, ↓reduceIte, qn_us, qn_un, not_true_eq_false, not_false_eq_true, true_and, and_true, qn_nn, qn_addm, qn_ngT, qn_ngF, qn_ngE, qn_ngE2, qn_ngL, qn_ngM, Nat.add_sub_cancel, qL, qS, qM, qV, qQ, qZ0, qZ1, qE_l, qE_r, qW_some, o0]
        exact skip (fun z => k2 z.1)
    · rintro z ⟨ma, hs, rfl, g1, g2⟩
      simp (disch := first | omega | assumption) only [f_X12_possible_b12, qn_lit, qn_ofNat, qn_neg1, qn_neg2, nI_add, pk_mul, qn_sub, qn_ltT, qn_ltF, qn_leT, qn_leF, qn_eqT, qn_eqF, qn_m1T, qn_m1F, qn_m1F2, qn_m1lt, qn_m1lt2, qn_m1le, qn_m1le2, qn_and1, qn_and3, qn_and7, qn_and15, qn_and31, qn_and255, qn_and2047, qn_shl, qn_shr, qn_or, qn_div, qn_modlt, Nat.reduceMod, Nat.reduceAdd, Nat.reduceMul, Nat.reducePow, Nat.reduceDiv, Nat.reduceSub, ↓reduceIte, qn_us, qn_un, not_true_eq_false, not_false_eq_true, true_and, and_true, qn_nn, qn_addm, qn_ngT, qn_ngF, qn_ngE, qn_ngE2, qn_ngL, qn_ngM, Nat.add_sub_cancel, qL, qS, qM, qV, qQ, qZ0, qZ1, qE_l, qE_r, qW_some]
      exact ⟨ma, hs, rfl, g1, g2⟩
  obtain ⟨e, g1, ma, hs, rfl, g2, g3⟩ := loop
  exact ⟨ma, hs, by simp (disch := first | omega | assumption) only [f_X12_possible, fp1, g1, qn_lit, qn_ofNat, qn_neg1, qn_neg2, nI_add, pk_mul, qn_sub, qn_ltT, qn_ltF, qn_leT, qn_leF, qn_eqT, qn_eqF, qn_m1T, qn_m1F, qn_m1F2, qn_m1lt, qn_m1lt2, qn_m1le, qn_m1le2, qn_and1, qn_and3, qn_and7, qn_and15, qn_and31, qn_and255, qn_and2047, qn_shl, qn_shr, qn_or, qn_div, qn_modlt, Nat.reduceMod, Nat.reduceAdd, Nat.reduceMul, Nat.reducePow, Nat.reduceDiv, Nat.reduceSub, ↓reduceIte, qn_us, qn_un, not_true_eq_false, not_false_eq_true, true_and, and_true, qn_nn, qn_addm, qn_ngT, qn_ngF, qn_ngE, qn_ngE2, qn_ngL, qn_ngM, Nat.add_sub_cancel, qL, qS, qM, qV, qQ, qZ0, qZ1, qE_l, qE_r, qW_some], g2, g3⟩

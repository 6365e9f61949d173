/-! the class's families: gather, find -/
def qKX (Q Q' : List Nat) : Prop := (∀ p, p ∈ Q → p ∈ Q') ∧ (∀ j, j < Q.length → Q'.getD j 0 = Q.getD j 0) ∧ Q.length ≤ Q'.length
theorem qKX_r (Q : List Nat) : qKX Q Q := ⟨fun _ h => h, fun _ _ => rfl, Nat.le_refl _⟩
theorem qKX_t {A B D : List Nat} (h : qKX A B) (g : qKX B D) : qKX A D := ⟨fun p hp => g.1 p (h.1 p hp), fun j hj => by rw [g.2.1 j (by have := h.2.2; omega), h.2.1 j hj], Nat.le_trans h.2.2 g.2.2⟩
theorem q_gchild {xp_seenTo : Int32} {xp_father : Nat → Int32} {xp_mother : Nat → Int32} {xp_parentsDay : Nat → Int32} {xp_sex : Nat → Int32} {xw_child : Nat → Int32} {xw_father : Nat → Int32} {xw_husband : Nat → Int32} {xw_wife : Nat → Int32} {ks_kindBy : Nat → Int32} {ks_least : Nat → Int32} {ks_queue : Nat → Int32} {c w d n i i0 h x s : Nat} {xp_man xp_woman xp_weddingDay : Nat → Int32} {x3 : Int32} {W C V U : Nat → Nat} {Q : List Nat} {F : Nat → Nat} {K : Nat → Nat → Nat} (hw : qXw n W C V U xw_wife xw_child xw_husband xw_father) (hP : qPP c w d xp_seenTo xp_sex xp_mother xp_father xp_parentsDay xp_man xp_woman xp_weddingDay) (hB : qKB c n W C V (qE c w xp_seenTo xp_mother xp_father xp_parentsDay xp_man xp_woman xp_weddingDay) i i0 h Q F K ks_kindBy ks_least ks_queue) (hi : i < Q.length) (hx : x = Q.getD i 0) (hs : s < 2) (hsx : xp_sex x = nI s) : qW (f_X2_gather_l69 (nI c) xp_seenTo (nI n) (nI c) (24, xp_father) (24, xp_mother) (24, xp_parentsDay) (24, xp_sex) (8, xw_child) (8, xw_father) (8, xw_husband) (8, xw_wife) x3 (nI x) (nI Q.length) (192, ks_kindBy) (24, ks_least) (24, ks_queue) (nI (x + 1))) (fun e => ∃ Q' F' K' kb' le' qu', e = (nI Q'.length, (192, kb'), (24, le'), (24, qu')) ∧ qKB c n W C V (qE c w xp_seenTo xp_mother xp_father xp_parentsDay xp_man xp_woman xp_weddingDay) i i0 h Q' F' K' kb' le' qu' ∧ qKX Q Q' ∧ ∀ b, b < c → qE c w xp_seenTo xp_mother xp_father xp_parentsDay xp_man xp_woman xp_weddingDay x b (1 - s) → b ∈ Q') := by
  have hc := hP.1
  have hxQ : x ∈ Q := by rw [hx]; exact q_getD_mem hi
  have hxc : x < c := by rw [hx]; exact (hB.1.2.1 i hi).1
  have i0i := hB.2.2.2.2.1
  have ex := q_sexOf (sx := xp_sex) hc hxc
  rw [hsx] at ex
  unfold f_X2_gather_l69
  refine qfor (x + 1) c (fun cc z => ∃ Q' F' K' kb' le' qu', z = (nI Q'.length, (192, kb'), (24, le'), (24, qu'), nI cc) ∧ qKB c n W C V (qE c w xp_seenTo xp_mother xp_father xp_parentsDay xp_man xp_woman xp_weddingDay) i i0 h Q' F' K' kb' le' qu' ∧ qKX Q Q' ∧ ∀ b, b < cc → qE c w xp_seenTo xp_mother xp_father xp_parentsDay xp_man xp_woman xp_weddingDay x b (1 - s) → b ∈ Q') ⟨Q, F, K, _, _, _, rfl, hB, qKX_r Q, fun b hb hE => ?_⟩ (by omega) (by omega) ?_ ?_
  · have hq := qE_lt hP hE
    have : s = 0 ∨ s = 1 := by omega
    rcases this with rfl | rfl
    · have := (hq.2.2.2.2.1 rfl).1; omega
    · have := (hq.2.2.2.2.2.1 rfl).1; omega
  · rintro cc z hcc hcc2 ⟨Q', F', K', kb', le', qu', rfl, g1, g2, g3⟩
    obtain ⟨r, r1, r2⟩ := q_parentSeen hP (p := cc) (s := s) hcc2 hs
    have hxQ' := g2.1 x hxQ
    have e1 := g2.2.1 i hi
    have hF' : F' x = h := by
      have := g1.2.2.1 i i0i (by have := g2.2.2; omega)
      rw [e1, ← hx] at this
      exact this
    by_cases hr : r = nI x
    · rcases r2 with ⟨a, a1, a2, a3⟩ | ⟨a2, -⟩
      · have ea : a = x := by
          rw [a2] at hr
          exact (nI_eq (by omega) (by omega)).mp hr
        subst ea
        obtain ⟨Q2, F2, K2, kb2, le2, qu2, k1, k2, k3, k4, k5, k6⟩ := q_join (y := cc) (l := 2) hw hc g1 hxQ' hF' hcc2 (qcn_e a3) (by decide) hs hsx (fun r u hf => by
          have := qfo_f hw.1 a3 hf
          have e : qcw W C V (1 - s) u = qst W C V U 2 s u := by
            have hs2 : s = 0 ∨ s = 1 := by omega
            rcases hs2 with rfl | rfl <;> rfl
          rw [e] at this
          exact this)
        rw [a2] at r1
        simp (disch := first | omega | assumption) only [f_X2_gather_b69, f_X2_gather_j106, ex, r1, k1, qn_lit, qn_ofNat, qn_neg1, qn_neg2, nI_add, pk_mul, qn_sub, qn_ltT, qn_ltF, qn_leT, qn_leF, qn_eqT, qn_eqF, qn_m1T, qn_m1F, qn_m1F2, qn_m1lt, qn_m1lt2, qn_m1le, qn_m1le2, qn_and1, qn_and3, qn_and7, qn_and15, qn_and31, qn_and255, qn_and2047, qn_shl, qn_shr, qn_or, qn_div, qn_modlt, Nat.reduceMod, Nat.reduceAdd, Nat.reduceMul, Nat.reducePow, Nat.reduceDiv, Nat.reduceSub, ↓reduceIte, qn_us, qn_un, not_true_eq_false, not_false_eq_true, true_and, and_true, qn_nn, qn_addm, qn_ngT, qn_ngF, qn_ngE, qn_ngE2, qn_ngL, qn_ngM, Nat.add_sub_cancel, qL, qS, qM, qV, qQ, qZ0, qZ1, qE_l, qE_r, qW_some]
        refine ⟨Q2, F2, K2, kb2, le2, qu2, rfl, k2, qKX_t g2 ⟨k4, k5, k6⟩, fun b hb hE => ?_⟩
        by_cases q : b = cc
        · rw [q]; exact k3
        · exact k4 b (g3 b (by omega) hE)
      · rw [a2] at hr
        exact absurd hr.symm (q_mIne (by omega))
    · simp (disch := first | omega | assumption) only [f_X2_gather_b69, f_X2_gather_j106, ex, r1, hr, qn_lit, qn_ofNat, qn_neg1, qn_neg2, nI_add, pk_mul, qn_sub, qn_ltT, qn_ltF, qn_leT, qn_leF, qn_eqT, qn_eqF, qn_m1T, qn_m1F, qn_m1F2, qn_m1lt, qn_m1lt2, qn_m1le, qn_m1le2, qn_and1, qn_and3, qn_and7, qn_and15, qn_and31, qn_and255, qn_and2047, qn_shl, qn_shr, qn_or, qn_div, qn_modlt, Nat.reduceMod, Nat.reduceAdd, Nat.reduceMul, Nat.reducePow, Nat.reduceDiv, Nat.reduceSub, ↓reduceIte, qn_us, qn_un, not_true_eq_false, not_false_eq_true, true_and, and_true, qn_nn, qn_addm, qn_ngT, qn_ngF, qn_ngE, qn_ngE2, qn_ngL, qn_ngM, Nat.add_sub_cancel, qL, qS, qM, qV, qQ, qZ0, qZ1, qE_l, qE_r, qW_some]
      refine ⟨Q', F', K', kb', le', qu', rfl, g1, g2, fun b hb hE => ?_⟩
      by_cases q : b = cc
      · subst q
        rcases r2 with ⟨a, a1, a2, a3⟩ | ⟨-, a2⟩
        · -- only one mother, one father
          have hs2 : s = 0 ∨ s = 1 := by omega
          have ha : nI a = nI x := by
            rcases hs2 with rfl | rfl
            · rcases a3 with ⟨-, -, -, -, z1⟩ | ⟨z, -⟩ | ⟨z, -⟩
              · rcases hE with ⟨-, -, -, -, z2⟩ | ⟨z, -⟩ | ⟨z, -⟩
                · rw [← z1, z2]
                · omega
                · omega
              · omega
              · omega
            · rcases a3 with ⟨z, -⟩ | ⟨-, -, -, -, z1⟩ | ⟨z, -⟩
              · omega
              · rcases hE with ⟨z, -⟩ | ⟨-, -, -, -, z2⟩ | ⟨z, -⟩
                · omega
                · rw [← z1, z2]
                · omega
              · omega
          exact absurd (a2.trans ha) hr
        · exact absurd hE (a2 x)
      · exact g3 b (by omega) hE
  · rintro z ⟨Q', F', K', kb', le', qu', rfl, g1, g2, g3⟩
    simp (disch := first | omega | assumption) only [f_X2_gather_b69, qn_lit, qn_ofNat, qn_neg1, qn_neg2, nI_add, pk_mul, qn_sub, qn_ltT, qn_ltF, qn_leT, qn_leF, qn_eqT, qn_eqF, qn_m1T, qn_m1F, qn_m1F2, qn_m1lt, qn_m1lt2, qn_m1le, qn_m1le2, qn_and1, qn_and3, qn_and7, qn_and15, qn_and31, qn_and255, qn_and2047, qn_shl, qn_shr, qn_or, qn_div, qn_modlt, Nat.reduceMod, Nat.reduceAdd, Nat.reduceMul, Nat.reducePow, Nat.reduceDiv, Nat.reduceSub, ↓reduceIte, qn_us, qn_un, not_true_eq_false, not_false_eq_true, true_and, and_true, qn_nn, qn_addm, qn_ngT, qn_ngF, qn_ngE, qn_ngE2, qn_ngL, qn_ngM, Nat.add_sub_cancel, qL, qS, qM, qV, qQ, qZ0, qZ1, qE_l, qE_r, qW_some]
    exact ⟨Q', F', K', kb', le', qu', rfl, g1, g2, g3⟩
theorem q_gwed {xp_seenTo : Int32} {xp_man : Nat → Int32} {xp_sex : Nat → Int32} {xp_weddingDay : Nat → Int32} {xp_woman : Nat → Int32} {xw_child : Nat → Int32} {xw_father : Nat → Int32} {xw_husband : Nat → Int32} {xw_wife : Nat → Int32} {ks_kindBy : Nat → Int32} {ks_least : Nat → Int32} {ks_queue : Nat → Int32} {c w d n i i0 h x s : Nat} {xp_mother xp_father xp_parentsDay : Nat → Int32} {x3 : Int32} {W C V U : Nat → Nat} {Q : List Nat} {F : Nat → Nat} {K : Nat → Nat → Nat} (hw : qXw n W C V U xw_wife xw_child xw_husband xw_father) (hP : qPP c w d xp_seenTo xp_sex xp_mother xp_father xp_parentsDay xp_man xp_woman xp_weddingDay) (hB : qKB c n W C V (qE c w xp_seenTo xp_mother xp_father xp_parentsDay xp_man xp_woman xp_weddingDay) i i0 h Q F K ks_kindBy ks_least ks_queue) (hi : i < Q.length) (hx : x = Q.getD i 0) (hs : s < 2) (hsx : xp_sex x = nI s) : qW (f_X2_gather_l115 (nI c) xp_seenTo (nI w) (nI n) (24, xp_man) (24, xp_sex) (24, xp_weddingDay) (24, xp_woman) (8, xw_child) (8, xw_father) (8, xw_husband) (8, xw_wife) x3 (nI x) (nI Q.length) (192, ks_kindBy) (24, ks_least) (24, ks_queue) (nI 0)) (fun e => ∃ Q' F' K' kb' le' qu', e = (nI Q'.length, (192, kb'), (24, le'), (24, qu')) ∧ qKB c n W C V (qE c w xp_seenTo xp_mother xp_father xp_parentsDay xp_man xp_woman xp_weddingDay) i i0 h Q' F' K' kb' le' qu' ∧ qKX Q Q' ∧ ∀ a b, qE c w xp_seenTo xp_mother xp_father xp_parentsDay xp_man xp_woman xp_weddingDay a b 2 → (a = x ∨ b = x) → a ∈ Q' ∧ b ∈ Q') := by
  have hc := hP.1
  have hw24 := hP.2.1
  have hxQ : x ∈ Q := by rw [hx]; exact q_getD_mem hi
  have hxc : x < c := by rw [hx]; exact (hB.1.2.1 i hi).1
  have i0i := hB.2.2.2.2.1
  have fx : ∀ {Q' : List Nat} {F' : Nat → Nat} {K' : Nat → Nat → Nat} {kb' le' qu' : Nat → Int32}, qKB c n W C V (qE c w xp_seenTo xp_mother xp_father xp_parentsDay xp_man xp_woman xp_weddingDay) i i0 h Q' F' K' kb' le' qu' → qKX Q Q' → F' x = h := by
    intro Q' F' K' kb' le' qu' g1 g2
    have := g1.2.2.1 i i0i (by have := g2.2.2; omega)
    rw [g2.2.1 i hi, ← hx] at this
    exact this
  unfold f_X2_gather_l115
  refine qfor 0 w (fun j z => ∃ Q' F' K' kb' le' qu', z = (nI Q'.length, (192, kb'), (24, le'), (24, qu'), nI j) ∧ qKB c n W C V (qE c w xp_seenTo xp_mother xp_father xp_parentsDay xp_man xp_woman xp_weddingDay) i i0 h Q' F' K' kb' le' qu' ∧ qKX Q Q' ∧ ∀ j', j' < j → ∀ a b, xp_man j' = nI a → xp_woman j' = nI b → a < 24 → b < 24 → (∃ e, e ≤ 999 ∧ xp_weddingDay j' = nI e ∧ qsn xp_seenTo e) → (a = x ∨ b = x) → a ∈ Q' ∧ b ∈ Q') ⟨Q, F, K, _, _, _, rfl, hB, qKX_r Q, fun j hj => absurd hj (by omega)⟩ (by omega) (by omega) ?_ ?_
  · rintro j z - hj ⟨Q', F', K', kb', le', qu', rfl, g1, g2, g3⟩
    have hxQ' := g2.1 x hxQ
    have hF' := fx g1 g2
    rcases q_spouseSeen hP hj with ⟨se, a, b, ma, wb, hE, f1, f0⟩ | ⟨se, f1, f0⟩
    · obtain ⟨ac, bc, ab, -, -, -, sx2⟩ := qE_lt hP hE
      have uq : ∀ a' b', xp_man j = nI a' → xp_woman j = nI b' → a' < 24 → b' < 24 → a' = a ∧ b' = b := by
        intro a' b' q1 q2 q3 q4
        rw [ma] at q1
        rw [wb] at q2
        exact ⟨((nI_eq (by omega) (by omega)).mp q1).symm, ((nI_eq (by omega) (by omega)).mp q2).symm⟩
      by_cases q1 : a = x
      · subst q1
        have q2 : ¬ b = a := fun z => ab z.symm
        obtain ⟨Q2, F2, K2, kb2, le2, qu2, k1, k2, k3, k4, k5, k6⟩ := q_join (y := b) (l := 7) hw hc g1 hxQ' hF' bc (qcn_e hE) (by decide) hs hsx (fun r u hf => qfo_f hw.1 hE hf)
        simp (disch := first | omega | assumption) only [f_X2_gather_b115, f_X2_gather_j153, f_X2_gather_j182, f1, f0, k1, qn_lit, qn_ofNat, qn_neg1, qn_neg2, nI_add, pk_mul, qn_sub, qn_ltT, qn_ltF, qn_leT, qn_leF, qn_eqT, qn_eqF, qn_m1T, qn_m1F, qn_m1F2, qn_m1lt, qn_m1lt2, qn_m1le, qn_m1le2, qn_and1, qn_and3, qn_and7, qn_and15, qn_and31, qn_and255, qn_and2047, qn_shl, qn_shr, qn_or, qn_div, qn_modlt, Nat.reduceMod, Nat.reduceAdd, Nat.reduceMul, Nat.reducePow, Nat.reduceDiv, Nat.reduceSub, ↓reduceIte, qn_us, qn_un, not_true_eq_false, not_false_eq_true, true_and, and_true, qn_nn, qn_addm, qn_ngT, qn_ngF, qn_ngE, qn_ngE2, qn_ngL, qn_ngM, Nat.add_sub_cancel, qL, qS, qM, qV, qQ, qZ0, qZ1, qE_l, qE_r, qW_some]
        refine ⟨Q2, F2, K2, kb2, le2, qu2, rfl, k2, qKX_t g2 ⟨k4, k5, k6⟩, fun j' hj' a' b' z1 z2 z3 z4 z5 z6 => ?_⟩
        by_cases e : j' = j
        · subst e
          obtain ⟨rfl, rfl⟩ := uq a' b' z1 z2 z3 z4
          exact ⟨k4 _ hxQ', k3⟩
        · have := g3 j' (by omega) a' b' z1 z2 z3 z4 z5 z6
          exact ⟨k4 _ this.1, k4 _ this.2⟩
      · by_cases q2 : b = x
        · subst q2
          obtain ⟨Q2, F2, K2, kb2, le2, qu2, k1, k2, k3, k4, k5, k6⟩ := q_join (y := a) (l := 6) hw hc g1 hxQ' hF' ac (qcn_s (qcn_e hE)) (by decide) hs hsx (fun r u hf => qfo_b hw.1 hE hf)
          simp (disch := first | omega | assumption) only [f_X2_gather_b115, f_X2_gather_j153, f_X2_gather_j182, f1, f0, k1, qn_lit, qn_ofNat, qn_neg1, qn_neg2, nI_add, pk_mul, qn_sub, qn_ltT, qn_ltF, qn_leT, qn_leF, qn_eqT, qn_eqF, qn_m1T, qn_m1F, qn_m1F2, qn_m1lt, qn_m1lt2, qn_m1le, qn_m1le2, qn_and1, qn_and3, qn_and7, qn_and15, qn_and31, qn_and255, qn_and2047, qn_shl, qn_shr, qn_or, qn_div, qn_modlt, Nat.reduceMod, Nat.reduceAdd, Nat.reduceMul, Nat.reducePow, Nat.reduceDiv, Nat.reduceSub, ↓reduceIte, qn_us, qn_un, not_true_eq_false, not_false_eq_true, true_and, and_true, qn_nn, qn_addm, qn_ngT, qn_ngF, qn_ngE, qn_ngE2, qn_ngL, qn_ngM, Nat.add_sub_cancel, qL, qS, qM, qV, qQ, qZ0, qZ1, qE_l, qE_r, qW_some]
          refine ⟨Q2, F2, K2, kb2, le2, qu2, rfl, k2, qKX_t g2 ⟨k4, k5, k6⟩, fun j' hj' a' b' z1 z2 z3 z4 z5 z6 => ?_⟩
          by_cases e : j' = j
          · subst e
            obtain ⟨rfl, rfl⟩ := uq a' b' z1 z2 z3 z4
            exact ⟨k3, k4 _ hxQ'⟩
          · have := g3 j' (by omega) a' b' z1 z2 z3 z4 z5 z6
            exact ⟨k4 _ this.1, k4 _ this.2⟩
        · simp (disch := first | omega | assumption) only [f_X2_gather_b115, f_X2_gather_j153, f_X2_gather_j182, f1, f0, qn_lit, qn_ofNat, qn_neg1, qn_neg2, nI_add, pk_mul, qn_sub, qn_ltT, qn_ltF, qn_leT, qn_leF, qn_eqT, qn_eqF, qn_m1T, qn_m1F, qn_m1F2, qn_m1lt, qn_m1lt2, qn_m1le, qn_m1le2, qn_and1, qn_and3, qn_and7, qn_and15, qn_and31, qn_and255, qn_and2047, qn_shl, qn_shr, qn_or, qn_div, qn_modlt, Nat.reduceMod, Nat.reduceAdd, Nat.reduceMul, Nat.reducePow, Nat.reduceDiv, Nat.reduceSub, ↓reduceIte, qn_us, qn_un, not_true_eq_false, not_false_eq_true, true_and, and_true, qn_nn, qn_addm, qn_ngT, qn_ngF, qn_ngE, qn_ngE2, qn_ngL, qn_ngM, Nat.add_sub_cancel, qL, qS, qM, qV, qQ, qZ0, qZ1, qE_l, qE_r, qW_some]
          refine ⟨Q', F', K', kb', le', qu', rfl, g1, g2, fun j' hj' a' b' z1 z2 z3 z4 z5 z6 => ?_⟩
          by_cases e : j' = j
          · subst e
            obtain ⟨rfl, rfl⟩ := uq a' b' z1 z2 z3 z4
            rcases z6 with z6 | z6
            · exact absurd z6 q1
            · exact absurd z6 q2
          · exact g3 j' (by omega) a' b' z1 z2 z3 z4 z5 z6
    · simp (disch := first | omega | assumption) only [f_X2_gather_b115, f_X2_gather_j153, f_X2_gather_j182, f1, f0, qn_lit, qn_ofNat, qn_neg1, qn_neg2, nI_add, pk_mul, qn_sub, qn_ltT, qn_ltF, qn_leT, qn_leF, qn_eqT, qn_eqF, qn_m1T, qn_m1F, qn_m1F2, qn_m1lt, qn_m1lt2, qn_m1le, qn_m1le2, qn_and1, qn_and3, qn_and7, qn_and15, qn_and31, qn_and255, qn_and2047, qn_shl, qn_shr, qn_or, qn_div, qn_modlt, Nat.reduceMod, Nat.reduceAdd, Nat.reduceMul, Nat.reducePow, Nat.reduceDiv, Nat.reduceSub, ↓reduceIte, qn_us, qn_un, not_true_eq_false, not_false_eq_true, true_and, and_true, qn_nn, qn_addm, qn_ngT, qn_ngF, qn_ngE, qn_ngE2, qn_ngL, qn_ngM, Nat.add_sub_cancel, qL, qS, qM, qV, qQ, qZ0, qZ1, qE_l, qE_r, qW_some]
      refine ⟨Q', F', K', kb', le', qu', rfl, g1, g2, fun j' hj' a' b' z1 z2 z3 z4 z5 z6 => ?_⟩
      by_cases e : j' = j
      · subst e
        exact absurd z5 se
      · exact g3 j' (by omega) a' b' z1 z2 z3 z4 z5 z6
  · rintro z ⟨Q', F', K', kb', le', qu', rfl, g1, g2, g3⟩
    simp (disch := first | omega | assumption) only [f_X2_gather_b115, qn_lit, qn_ofNat, qn_neg1, qn_neg2, nI_add, pk_mul, qn_sub, qn_ltT, qn_ltF, qn_leT, qn_leF, qn_eqT, qn_eqF, qn_m1T, qn_m1F, qn_m1F2, qn_m1lt, qn_m1lt2, qn_m1le, qn_m1le2, qn_and1, qn_and3, qn_and7, qn_and15, qn_and31, qn_and255, qn_and2047, qn_shl, qn_shr, qn_or, qn_div, qn_modlt, Nat.reduceMod, Nat.reduceAdd, Nat.reduceMul, Nat.reducePow, Nat.reduceDiv, Nat.reduceSub, ↓reduceIte, qn_us, qn_un, not_true_eq_false, not_false_eq_true, true_and, and_true, qn_nn, qn_addm, qn_ngT, qn_ngF, qn_ngE, qn_ngE2, qn_ngL, qn_ngM, Nat.add_sub_cancel, qL, qS, qM, qV, qQ, qZ0, qZ1, qE_l, qE_r, qW_some]
    refine ⟨Q', F', K', kb', le', qu', rfl, g1, g2, fun a b hE hab => ?_⟩
    rcases hE with ⟨z, -⟩ | ⟨z, -⟩ | ⟨-, j, j1, j2, j3, j4, j5, j6⟩
    · omega
    · omega
    · exact g3 j j1 a b j5 j6 j3 j4 j2 hab
theorem q_gatherX {xp_seenTo : Int32} {xp_father : Nat → Int32} {xp_man : Nat → Int32} {xp_mother : Nat → Int32} {xp_parentsDay : Nat → Int32} {xp_sex : Nat → Int32} {xp_weddingDay : Nat → Int32} {xp_woman : Nat → Int32} {xw_child : Nat → Int32} {xw_father : Nat → Int32} {xw_husband : Nat → Int32} {xw_wife : Nat → Int32} {ks_kindBy : Nat → Int32} {ks_least : Nat → Int32} {ks_queue : Nat → Int32} {c w d n i0 h : Nat} {W C V U : Nat → Nat} {Q : List Nat} {F : Nat → Nat} {K : Nat → Nat → Nat} (hw : qXw n W C V U xw_wife xw_child xw_husband xw_father) (hP : qPP c w d xp_seenTo xp_sex xp_mother xp_father xp_parentsDay xp_man xp_woman xp_weddingDay) (hB : qKB c n W C V (qE c w xp_seenTo xp_mother xp_father xp_parentsDay xp_man xp_woman xp_weddingDay) i0 i0 h Q F K ks_kindBy ks_least ks_queue) : qW (f_X2_gather_l7 (nI c) xp_seenTo (nI w) (nI n) (nI c) (24, xp_father) (24, xp_man) (24, xp_mother) (24, xp_parentsDay) (24, xp_sex) (24, xp_weddingDay) (24, xp_woman) (8, xw_child) (8, xw_father) (8, xw_husband) (8, xw_wife) (nI Q.length) (192, ks_kindBy) (24, ks_least) (24, ks_queue) (nI i0)) (fun e => ∃ Q' F' K' kb' le' qu', e = (nI Q'.length, (192, kb'), (24, le'), (24, qu')) ∧ qKB c n W C V (qE c w xp_seenTo xp_mother xp_father xp_parentsDay xp_man xp_woman xp_weddingDay) Q'.length i0 h Q' F' K' kb' le' qu' ∧ qKX Q Q') := by
  have hc := hP.1
  have hq0 := qKI_len hB.1
  have hil := hB.2.2.2.2.2
  unfold f_X2_gather_l7
  refine qfor i0 25 (fun i z => ∃ Q' F' K' kb' le' qu', z = (nI Q'.length, (192, kb'), (24, le'), (24, qu'), nI i) ∧ qKB c n W C V (qE c w xp_seenTo xp_mother xp_father xp_parentsDay xp_man xp_woman xp_weddingDay) i i0 h Q' F' K' kb' le' qu' ∧ qKX Q Q') ⟨Q, F, K, _, _, _, rfl, hB, qKX_r Q⟩ (by omega) (by omega) ?_ ?_
  · rintro i z hi0 hi25 ⟨Q1, F1, K1, kb1, le1, qu1, rfl, g1, g2⟩
    have hq1 := qKI_len g1.1
    have hil1 := g1.2.2.2.2.2
    by_cases hlt : i < Q1.length
    · have hx := g1.1.2.1 i hlt
      have hxQ := q_getD_mem hlt
      generalize hxe : Q1.getD i 0 = x at *
      have hF1 : F1 x = h := by rw [← hxe]; exact g1.2.2.1 i hi0 hlt
      have en := q_entry (f := qu1) (show i < 24 by omega) (by decide)
      rw [hx.2] at en
      have hxs := hP.2.2.2.2.1 x hx.1
      obtain ⟨s, hs, hsx⟩ : ∃ s, s < 2 ∧ xp_sex x = nI s := by
        rcases hxs.1 with q | q
        · exact ⟨0, by decide, q⟩
        · exact ⟨1, by decide, q⟩
      -- mother
      obtain ⟨rm, m1, m2⟩ := q_parentSeen hP (p := x) (s := 0) hx.1 (by decide)
      have jm : ∃ Q2 F2 K2 kb2 le2 qu2, f_X2_join (nI c) (nI n) (24, xp_sex) (8, xw_child) (8, xw_father) (8, xw_husband) (8, xw_wife) (nI Q1.length) (192, kb1) (24, le1) (24, qu1) (nI x) rm (nI 1) = some (nI Q2.length, (192, kb2), (24, le2), (24, qu2)) ∧ qKB c n W C V (qE c w xp_seenTo xp_mother xp_father xp_parentsDay xp_man xp_woman xp_weddingDay) i i0 h Q2 F2 K2 kb2 le2 qu2 ∧ qKX Q1 Q2 ∧ ∀ a, qE c w xp_seenTo xp_mother xp_father xp_parentsDay xp_man xp_woman xp_weddingDay a x 1 → a ∈ Q2 := by
        rcases m2 with ⟨a, a1, rfl, a3⟩ | ⟨rfl, a2⟩
        · obtain ⟨ac, -⟩ := qE_lt hP a3
          obtain ⟨Q2, F2, K2, kb2, le2, qu2, k1, k2, k3, k4, k5, k6⟩ := q_join (y := a) (l := 1) hw hc g1 hxQ hF1 ac (qcn_s (qcn_e a3)) (by decide) hs hsx (fun r u hf => qfo_b hw.1 a3 hf)
          refine ⟨Q2, F2, K2, kb2, le2, qu2, k1, k2, ⟨k4, k5, k6⟩, fun a' hE => ?_⟩
          rcases a3 with ⟨-, -, -, z0, z1⟩ | ⟨z, -⟩ | ⟨z, -⟩
          · rcases hE with ⟨-, -, -, z3, z2⟩ | ⟨z, -⟩ | ⟨z, -⟩
            · have : a' = a := by
                rw [z1] at z2
                exact ((nI_eq (by omega) (by omega)).mp z2).symm
              rw [this]; exact k3
            · omega
            · omega
          · omega
          · omega
        · exact ⟨Q1, F1, K1, kb1, le1, qu1, q_join_no hc _ _, g1, qKX_r Q1, fun a' hE => absurd hE (a2 a')⟩
      obtain ⟨Q2, F2, K2, kb2, le2, qu2, jm1, jm2, jm3, jm4⟩ := jm
      have hx2 : Q2.getD i 0 = x := by rw [jm3.2.1 i hlt]; exact hxe
      have hlt2 : i < Q2.length := by have := jm3.2.2; omega
      have hF2 : F2 x = h := by rw [← hx2]; exact jm2.2.2.1 i hi0 hlt2
      -- father
      obtain ⟨rf, f1, f2⟩ := q_parentSeen hP (p := x) (s := 1) hx.1 (by decide)
      have jf : ∃ Q3 F3 K3 kb3 le3 qu3, f_X2_join (nI c) (nI n) (24, xp_sex) (8, xw_child) (8, xw_father) (8, xw_husband) (8, xw_wife) (nI Q2.length) (192, kb2) (24, le2) (24, qu2) (nI x) rf (nI 0) = some (nI Q3.length, (192, kb3), (24, le3), (24, qu3)) ∧ qKB c n W C V (qE c w xp_seenTo xp_mother xp_father xp_parentsDay xp_man xp_woman xp_weddingDay) i i0 h Q3 F3 K3 kb3 le3 qu3 ∧ qKX Q2 Q3 ∧ ∀ a, qE c w xp_seenTo xp_mother xp_father xp_parentsDay xp_man xp_woman xp_weddingDay a x 0 → a ∈ Q3 := by
        rcases f2 with ⟨a, a1, rfl, a3⟩ | ⟨rfl, a2⟩
        · obtain ⟨ac, -⟩ := qE_lt hP a3
          obtain ⟨Q3, F3, K3, kb3, le3, qu3, k1, k2, k3, k4, k5, k6⟩ := q_join (y := a) (l := 0) hw hc jm2 (jm3.1 x hxQ) hF2 ac (qcn_s (qcn_e a3)) (by decide) hs hsx (fun r u hf => qfo_b hw.1 a3 hf)
          refine ⟨Q3, F3, K3, kb3, le3, qu3, k1, k2, ⟨k4, k5, k6⟩, fun a' hE => ?_⟩
          rcases a3 with ⟨z, -⟩ | ⟨-, -, -, z0, z1⟩ | ⟨z, -⟩
          · omega
          · rcases hE with ⟨z, -⟩ | ⟨-, -, -, z3, z2⟩ | ⟨z, -⟩
            · omega
            · have : a' = a := by
                rw [z1] at z2
                exact ((nI_eq (by omega) (by omega)).mp z2).symm
              rw [this]; exact k3
            · omega
          · omega
        · exact ⟨Q2, F2, K2, kb2, le2, qu2, q_join_no hc _ _, jm2, qKX_r Q2, fun a' hE => absurd hE (a2 a')⟩
      obtain ⟨Q3, F3, K3, kb3, le3, qu3, jf1, jf2, jf3, jf4⟩ := jf
      have hlt3 : i < Q3.length := by have := jf3.2.2; omega
      have hx3 : x = Q3.getD i 0 := by rw [jf3.2.1 i hlt2]; exact hx2.symm
      obtain ⟨e4, c1, Q4, F4, K4, kb4, le4, qu4, rfl, c2, c3, c4⟩ := q_gchild (x3 := nI i) hw hP jf2 hlt3 hx3 hs hsx
      have hlt4 : i < Q4.length := by have := c3.2.2; omega
      have hx4 : x = Q4.getD i 0 := by rw [c3.2.1 i hlt3]; exact hx3
      obtain ⟨e5, w1, Q5, F5, K5, kb5, le5, qu5, rfl, w2, w3, w4⟩ := q_gwed (x3 := nI i) hw hP c2 hlt4 hx4 hs hsx
      have hlt5 : i < Q5.length := by have := w3.2.2; omega
      have hx5 : x = Q5.getD i 0 := by rw [w3.2.1 i hlt4]; exact hx4
      simp (disch := first | omega | assumption) only [f_X2_gather_b7, en, m1, jm1, f1, jf1, c1, w1, qn_lit, qn_ofNat, qn_neg1, qn_neg2, nI_add, pk_mul, qn_sub, qn_ltT, qn_ltF, qn_leT, qn_leF, qn_eqT, qn_eqF, qn_m1T, qn_m1F, qn_m1F2, qn_m1lt, qn_m1lt2, qn_m1le, qn_m1le2, qn_and1, qn_and3, qn_and7, qn_and15, qn_and31, qn_and255, qn_and2047, qn_shl, qn_shr, qn_or, qn_div, qn_modlt, Nat.reduceMod, Nat.reduceAdd, Nat.reduceMul, Nat.reducePow, Nat.reduceDiv, Nat.reduceSub, ↓reduceIte, qn_us, qn_un, not_true_eq_false, not_false_eq_true, true_and, and_true, qn_nn, qn_addm, qn_ngT, qn_ngF, qn_ngE, qn_ngE2, qn_ngL, qn_ngM, Nat.add_sub_cancel, qL, qS, qM, qV, qQ, qZ0, qZ1, qE_l, qE_r, qW_some]
      refine ⟨Q5, F5, K5, kb5, le5, qu5, rfl, ?_, qKX_t g2 (qKX_t jm3 (qKX_t jf3 (qKX_t c3 w3)))⟩
      obtain ⟨v1, v2, v3, v4, v5, v6⟩ := w2
      have x5 : x ∈ Q5 := by rw [hx5]; exact q_getD_mem hlt5
      refine ⟨v1, fun j hj hj2 a b k hE hab => ?_, v3, v4, by omega, by omega⟩
      by_cases e : j = i
      · rw [e, ← hx5] at hab
        have mem : a ∈ Q5 ∧ b ∈ Q5 := by
          obtain ⟨ac, bc, ab, k3, s1, s0, s2⟩ := qE_lt hP hE
          have kk : k = 0 ∨ k = 1 ∨ k = 2 := by omega
          rcases kk with rfl | rfl | rfl
          · rcases hab with rfl | rfl
            · have hs1 : s = 1 := by
                have := (s0 rfl).2
                rw [hsx] at this
                exact (nI_eq (by omega) (by omega)).mp this
              subst hs1
              exact ⟨x5, w3.1 b (c4 b bc hE)⟩
            · exact ⟨w3.1 a (c3.1 a (jf4 a hE)), x5⟩
          · rcases hab with rfl | rfl
            · have hs1 : s = 0 := by
                have := (s1 rfl).2
                rw [hsx] at this
                exact (nI_eq (by omega) (by omega)).mp this
              subst hs1
              exact ⟨x5, w3.1 b (c4 b bc hE)⟩
            · exact ⟨w3.1 a (c3.1 a (jf3.1 a (jm4 a hE))), x5⟩
          · exact w4 a b hE (by rcases hab with q | q; exact Or.inl q; exact Or.inr q)
        refine ⟨mem.1, mem.2, ?_⟩
        -- the family is one
        have fam : ∀ y, y ∈ Q5 → (∃ k', qE c w xp_seenTo xp_mother xp_father xp_parentsDay xp_man xp_woman xp_weddingDay x y k' ∨ qE c w xp_seenTo xp_mother xp_father xp_parentsDay xp_man xp_woman xp_weddingDay y x k') → F5 y = F5 x := by
          intro y hy hk
          obtain ⟨jy, jy1, jy2⟩ := q_mem.mp hy
          by_cases ji : jy < i
          · obtain ⟨k', hk | hk⟩ := hk
            · exact (v2 jy ji jy1 x y k' hk (Or.inr jy2.symm)).2.2.symm
            · exact (v2 jy ji jy1 y x k' hk (Or.inl jy2.symm)).2.2
          · have e1 := v3 jy (by omega) jy1
            rw [jy2] at e1
            have e2 := v3 i hi0 hlt5
            rw [← hx5] at e2
            rw [e1, e2]
        rcases hab with rfl | rfl
        · exact (fam b mem.2 ⟨k, Or.inl hE⟩).symm
        · exact fam a mem.1 ⟨k, Or.inr hE⟩
      · exact v2 j (by omega) hj2 a b k hE hab
    · have : i = Q1.length := by omega
      subst this
      simp (disch := first | omega | assumption) only [f_X2_gather_b7, qn_lit, qn_ofNat, qn_neg1, qn_neg2, nI_add, pk_mul, qn_sub, qn_ltT, qn_ltF, qn_leT, qn_leF, qn_eqT, qn_eqF, qn_m1T, qn_m1F, qn_m1F2, qn_m1lt, qn_m1lt2, qn_m1le, qn_m1le2, qn_and1, qn_and3, qn_and7, qn_and15, qn_and31, qn_and255, qn_and2047, qn_shl, qn_shr, qn_or, qn_div, qn_modlt, Nat.reduceMod, Nat.reduceAdd, Nat.reduceMul, Nat.reducePow, Nat.reduceDiv, Nat.reduceSub, ↓reduceIte, qn_us, qn_un, not_true_eq_false, not_false_eq_true, true_and, and_true, qn_nn, qn_addm, qn_ngT, qn_ngF, qn_ngE, qn_ngE2, qn_ngL, qn_ngM, Nat.add_sub_cancel, qL, qS, qM, qV, qQ, qZ0, qZ1, qE_l, qE_r, qW_some]
      exact ⟨Q1, F1, K1, kb1, le1, qu1, rfl, g1, g2⟩
  · rintro z ⟨Q1, F1, K1, kb1, le1, qu1, rfl, g1, g2⟩
    have hq1 := qKI_len g1.1
    have hil1 := g1.2.2.2.2.2
    omega

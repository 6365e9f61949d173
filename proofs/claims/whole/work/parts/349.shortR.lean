/-! the reference's search -/
def qcf (s a : Nat) : Int32 := if a = 0 then mI else if a = 1 then nI s else nI ((a - 2) / 8)
theorem qcf_0 (s : Nat) : qcf s 0 = mI := rfl
theorem qcf_1 (s : Nat) : qcf s 1 = nI s := rfl
theorem qcf_2 {s p l : Nat} (hl : l < 8) : qcf s (2 + (8 * p + l)) = nI p := by
  unfold qcf
  rw [if_neg (by omega), if_neg (by omega)]
  congr 1
  omega
def qrr (M s : Nat) (S : qS3) (qu cf cy : Nat → Int32) : Prop := (∀ i, i < S.1.length → qu i = nI (S.1.getD i 0)) ∧ ∀ x, x < M → cf x = qcf s (S.2.1 x) ∧ (2 ≤ S.2.1 x → cy x = nI ((S.2.1 x - 2) % 8))
theorem q_srcR1 {N n s k : Nat} {de : Nat → Nat → Nat} {S : qS3} {x3 x4 x6 : Int32} {R_shortest : Int32} {R_child : Nat → Int32} {R_childBack : Nat → Int32} {R_path : Nat → Int32} {R_turn : Nat → Int32} {R_weds : Nat → Int32} {R_wedsBack : Nat → Int32} {R_cameBy : Nat → Int32} {R_cameFrom : Nat → Int32} {R_queue : Nat → Int32} (hpl : ∀ p l, p < 2 * N → l < 8 → f_X12_placeBehind (nI n) (nI N) (8, R_child) (8, R_childBack) (502, R_turn) (8, R_weds) (8, R_wedsBack) (nI p) (nI l) = some (nI (de p l))) (hde : ∀ p l, p < 2 * N → l < 8 → de p l < 2 * N) (hN : N ≤ 500) (hs : s < 2) (hI : qbI de (2 * N) s S k 0) (hk : k < S.1.length) (hr : qrr (2 * N) s S R_queue R_cameFrom R_cameBy) : qW (f_X12_findShortest_l153 (nI n) R_shortest (nI N) (8, R_child) (8, R_childBack) (1004, R_path) (502, R_turn) (8, R_weds) (8, R_wedsBack) x3 x4 x6 (nI (S.1.getD k 0)) (1004, R_cameBy) (1004, R_cameFrom) (1004, R_queue) (nI S.1.length) (nI 0)) (fun e => ∃ cy' cf' qu', e = ((1004, cy'), (1004, cf'), (1004, qu'), nI (qb8 de (S.1.getD k 0) S 8).1.length) ∧ qrr (2 * N) s (qb8 de (S.1.getD k 0) S 8) qu' cf' cy') := by
  unfold f_X12_findShortest_l153
  refine qfor 0 8 (fun m z => ∃ cy' cf' qu', z = ((1004, cy'), (1004, cf'), (1004, qu'), nI (qb8 de (S.1.getD k 0) S m).1.length, nI m) ∧ qrr (2 * N) s (qb8 de (S.1.getD k 0) S m) qu' cf' cy') ⟨_, _, _, rfl, hr⟩ (by omega) (by omega) ?_ ?_
  · rintro m z - hm ⟨cy', cf', qu', rfl, r1, r2⟩
    obtain ⟨i1, i2, i3⟩ := qbI_8 hde hI hk m (by omega)
    have j1 := (qbI_1 hde i1 (show k < _ by omega) hm).1
    rw [i3 k hk] at j1
    have lM := qbI_len i1
    have lM' := qbI_len j1
    have hp := hI.2.1 k hk
    have es : qb8 de (S.1.getD k 0) S (m + 1) = qb1 de (S.1.getD k 0) m (qb8 de (S.1.getD k 0) S m) := rfl
    rw [es]
    generalize qb8 de (S.1.getD k 0) S m = S1 at *
    generalize S.1.getD k 0 = p at *
    have ep : p - p / 2 * 2 = p % 2 := by omega
    have ms := q_mayStep (s := p % 2) (l := m) (by omega) hm
    by_cases ha : qal p m
    · rw [if_neg ha] at ms
      have hdM := hde p m hp hm
      have st := hpl p m hp hm
      generalize hy : de p m = y at *
      obtain ⟨bb, -⟩ := r2 y hdM
      by_cases h0 : S1.2.1 y = 0
      · have eb : qb1 de p m S1 = (S1.1 ++ [y], qup S1.2.1 y (2 + (8 * p + m)), qup S1.2.2 y (S1.2.2 p + 1)) := by
          rw [qb1_T ha (by rw [hy]; exact h0), hy]
        rw [eb] at lM' ⊢
        have le : (S1.1 ++ [y]).length = S1.1.length + 1 := by simp
        have le' : S1.1.length + 1 ≤ 2 * N := by rw [← le]; exact lM'
        rw [h0, qcf_0] at bb
        simp (disch := first | omega | assumption) only [f_X12_findShortest_b153, f_X12_findShortest_j226, ep, ms, st, bb, qn_lit, qn_ofNat, qn_neg1, qn_neg2, nI_add, pk_mul, qn_sub, qn_ltT, qn_ltF, qn_leT, qn_leF, qn_eqT, qn_eqF, qn_m1T, qn_m1F, qn_m1F2, qn_m1lt, qn_m1lt2, qn_m1le, qn_m1le2, qn_and1, qn_and3, qn_and7, qn_and15, qn_and31, qn_and255, qn_and2047, qn_shl, qn_shr, qn_or, qn_div, qn_modlt, Nat.reduceMod, Nat.reduceAdd, Nat.reduceMul, Nat.reducePow, Nat.reduceDiv, Nat.reduceSub, ↓reduceIte, qn_us, qn_un, not_true_eq_false, not_false_eq_true, true_and, and_true, qn_nn, qn_addm, qn_ngT, qn_ngF, qn_ngE, qn_ngE2, qn_ngL, qn_ngM, Nat.add_sub_cancel, qL, qS, qM, qV, qQ, qZ0, qZ1, qE_l, qE_r, qW_some, le]
        refine ⟨_, _, _, rfl, fun i hi => ?_, fun x hx => ?_⟩
        · dsimp only at hi ⊢
          rw [le] at hi
          by_cases q : i = S1.1.length
          · rw [q, pk_us, q_getD_new]
          · rw [pk_un q, q_getD_app (by omega)]
            exact r1 i (by omega)
        · dsimp only
          by_cases q : x = y
          · rw [q, pk_us, pk_us, qup_s, qcf_2 hm]
            refine ⟨rfl, fun _ => congrArg nI ?_⟩
            omega
          · rw [pk_un q, pk_un q, qup_n q]
            exact r2 x hx
      · have eb : qb1 de p m S1 = S1 := qb1_F (fun z => h0 (by rw [← hy]; exact z.2))
        rw [eb]
        have bn : ¬ cf' y = mI := by
          rw [bb]
          rcases qbI_par i1 hdM h0 with ⟨e1, e2⟩ | ⟨p', l', p1, p2, p3, p4, p5⟩
          · rw [e2, qcf_1]
            exact of_eq_false (qn_m1F (by omega))
          · rw [p4, qcf_2 p2]
            exact of_eq_false (qn_m1F (by omega))
        simp (disch := first | omega | assumption) only [f_X12_findShortest_b153, f_X12_findShortest_j226, ep, ms, st, bn, qn_lit, qn_ofNat, qn_neg1, qn_neg2, nI_add, pk_mul, qn_sub, qn_ltT, qn_ltF, qn_leT, qn_leF, qn_eqT, qn_eqF, qn_m1T, qn_m1F, qn_m1F2, qn_m1lt, qn_m1lt2, qn_m1le, qn_m1le2, qn_and1, qn_and3, qn_and7, qn_and15, qn_and31, qn_and255, qn_and2047, qn_shl, qn_shr, qn_or, qn_div, qn_modlt, Nat.reduceMod, Nat.reduceAdd, Nat.reduceMul, Nat.reducePow, Nat.reduceDiv, Nat.reduceSub, ↓reduceIte, qn_us, qn_un, not_true_eq_false, not_false_eq_true, true_and, and_true, qn_nn, qn_addm, qn_ngT, qn_ngF, qn_ngE, qn_ngE2, qn_ngL, qn_ngM, Nat.add_sub_cancel, qL, qS, qM, qV, qQ, qZ0, qZ1, qE_l, qE_r, qW_some]
        exact ⟨_, _, _, rfl, r1, r2⟩
    · rw [if_pos (Classical.not_not.mp ha)] at ms
      have eb : qb1 de p m S1 = S1 := qb1_F (fun z => ha z.1)
      rw [eb]
      simp (disch := first | omega | assumption) only [f_X12_findShortest_b153, f_X12_findShortest_j226, ep, ms, qn_lit, qn_ofNat, qn_neg1, qn_neg2, nI_add, pk_mul, qn_sub, qn_ltT, qn_ltF, qn_leT, qn_leF, qn_eqT, qn_eqF, qn_m1T, qn_m1F, qn_m1F2, qn_m1lt, qn_m1lt2, qn_m1le, qn_m1le2, qn_and1, qn_and3, qn_and7, qn_and15, qn_and31, qn_and255, qn_and2047, qn_shl, qn_shr, qn_or, qn_div, qn_modlt, Nat.reduceMod, Nat.reduceAdd, Nat.reduceMul, Nat.reducePow, Nat.reduceDiv, Nat.reduceSub, ↓reduceIte, qn_us, qn_un, not_true_eq_false, not_false_eq_true, true_and, and_true, qn_nn, qn_addm, qn_ngT, qn_ngF, qn_ngE, qn_ngE2, qn_ngL, qn_ngM, Nat.add_sub_cancel, qL, qS, qM, qV, qQ, qZ0, qZ1, qE_l, qE_r, qW_some]
      exact ⟨_, _, _, rfl, r1, r2⟩
  · rintro z ⟨cy', cf', qu', rfl, r1, r2⟩
    simp (disch := first | omega | assumption) only [f_X12_findShortest_b153, qn_lit, qn_ofNat, qn_neg1, qn_neg2, nI_add, pk_mul, qn_sub, qn_ltT, qn_ltF, qn_leT, qn_leF, qn_eqT, qn_eqF, qn_m1T, qn_m1F, qn_m1F2, qn_m1lt, qn_m1lt2, qn_m1le, qn_m1le2, qn_and1, qn_and3, qn_and7, qn_and15, qn_and31, qn_and255, qn_and2047, qn_shl, qn_shr, qn_or, qn_div, qn_modlt, Nat.reduceMod, Nat.reduceAdd, Nat.reduceMul, Nat.reducePow, Nat.reduceDiv, Nat.reduceSub, ↓reduceIte, qn_us, qn_un, not_true_eq_false, not_false_eq_true, true_and, and_true, qn_nn, qn_addm, qn_ngT, qn_ngF, qn_ngE, qn_ngE2, qn_ngL, qn_ngM, Nat.add_sub_cancel, qL, qS, qM, qV, qQ, qZ0, qZ1, qE_l, qE_r, qW_some]
    exact ⟨_, _, _, rfl, r1, r2⟩
theorem q_srcR2 {N n s : Nat} {de : Nat → Nat → Nat} {x3 x4 : Int32} {R_shortest : Int32} {R_child : Nat → Int32} {R_childBack : Nat → Int32} {R_path : Nat → Int32} {R_turn : Nat → Int32} {R_weds : Nat → Int32} {R_wedsBack : Nat → Int32} {R_cameBy : Nat → Int32} {R_cameFrom : Nat → Int32} {R_queue : Nat → Int32} (hpl : ∀ p l, p < 2 * N → l < 8 → f_X12_placeBehind (nI n) (nI N) (8, R_child) (8, R_childBack) (502, R_turn) (8, R_weds) (8, R_wedsBack) (nI p) (nI l) = some (nI (de p l))) (hde : ∀ p l, p < 2 * N → l < 8 → de p l < 2 * N) (hN : N ≤ 500) (hs : s < 2) (hsN : s < 2 * N) (hr : qrr (2 * N) s (qbk de s 0) R_queue R_cameFrom R_cameBy) : qW (f_X12_findShortest_l134 (nI n) R_shortest (nI N) (8, R_child) (8, R_childBack) (1004, R_path) (502, R_turn) (8, R_weds) (8, R_wedsBack) x3 x4 (1004, R_cameBy) (1004, R_cameFrom) (1004, R_queue) (nI 1) (nI 0)) (fun e => ∃ cy' cf' qu' k, e = ((1004, cy'), (1004, cf'), (1004, qu')) ∧ qbf de s k ∧ qrr (2 * N) s (qbk de s k) qu' cf' cy') := by
  unfold f_X12_findShortest_l134
  refine qfor 0 1001 (fun k z => ∃ cy' cf' qu', z = ((1004, cy'), (1004, cf'), (1004, qu'), nI (qbk de s k).1.length, nI k) ∧ qbg de s k ∧ qrr (2 * N) s (qbk de s k) qu' cf' cy') ⟨_, _, _, rfl, fun j hj => absurd hj (by omega), hr⟩ (by omega) (by omega) ?_ ?_
  · rintro k z - hk ⟨cy', cf', qu', rfl, g1, g2⟩
    have hI := qbI_k hde hsN k g1
    have lM := qbI_len hI
    by_cases c1 : (qbk de s k).1.length ≤ k
    · simp (disch := first | omega | assumption) only [f_X12_findShortest_b134, qn_lit, qn_ofNat, qn_neg1, qn_neg2, nI_add, pk_mul, qn_sub, qn_ltT, qn_ltF, qn_leT, qn_leF, qn_eqT, qn_eqF, qn_m1T, qn_m1F, qn_m1F2, qn_m1lt, qn_m1lt2, qn_m1le, qn_m1le2, qn_and1, qn_and3, qn_and7, qn_and15, qn_and31, qn_and255, qn_and2047, qn_shl, qn_shr, qn_or, qn_div, qn_modlt, Nat.reduceMod, Nat.reduceAdd, Nat.reduceMul, Nat.reducePow, Nat.reduceDiv, Nat.reduceSub, ↓reduceIte, qn_us, qn_un, not_true_eq_false, not_false_eq_true, true_and, and_true, qn_nn, qn_addm, qn_ngT, qn_ngF, qn_ngE, qn_ngE2, qn_ngL, qn_ngM, Nat.add_sub_cancel, qL, qS, qM, qV, qQ, qZ0, qZ1, qE_l, qE_r, qW_some]
      exact ⟨_, _, _, k, rfl, ⟨g1, c1⟩, g2⟩
    · obtain ⟨e, q1, cy2, cf2, qu2, rfl, q2⟩ := q_srcR1 (x3 := x3) (x4 := x4) (x6 := nI k) (R_shortest := R_shortest) (R_path := R_path) hpl hde hN hs hI (show k < _ by omega) g2
      have es : qbk de s (k + 1) = qb8 de ((qbk de s k).1.getD k 0) (qbk de s k) 8 := rfl
      rw [← es] at q1 q2
      have hq := g2.1 k (by omega)
      simp (disch := first | omega | assumption) only [f_X12_findShortest_b134, hq, q1, qn_lit, qn_ofNat, qn_neg1, qn_neg2, nI_add, pk_mul, qn_sub, qn_ltT, qn_ltF, qn_leT, qn_leF, qn_eqT, qn_eqF, qn_m1T, qn_m1F, qn_m1F2, qn_m1lt, qn_m1lt2, qn_m1le, qn_m1le2, qn_and1, qn_and3, qn_and7, qn_and15, qn_and31, qn_and255, qn_and2047, qn_shl, qn_shr, qn_or, qn_div, qn_modlt, Nat.reduceMod, Nat.reduceAdd, Nat.reduceMul, Nat.reducePow, Nat.reduceDiv, Nat.reduceSub, ↓reduceIte, qn_us, qn_un, not_true_eq_false, not_false_eq_true, true_and, and_true, qn_nn, qn_addm, qn_ngT, qn_ngF, qn_ngE, qn_ngE2, qn_ngL, qn_ngM, Nat.add_sub_cancel, qL, qS, qM, qV, qQ, qZ0, qZ1, qE_l, qE_r, qW_some]
      refine ⟨_, _, _, rfl, fun j hj => ?_, q2⟩
      by_cases q : j = k
      · rw [q]; omega
      · exact g1 j (by omega)
  · rintro z ⟨cy', cf', qu', rfl, g1, g2⟩
    have hI2 := qbI_k hde hsN 1000 (fun j hj => g1 j (by omega))
    have l2 := g1 1000 (by omega)
    have l3 := qbI_len hI2
    omega
/-- back along the way: how many, and which letters -/
theorem q_backR {M s k x : Nat} {de : Nat → Nat → Nat} {x3 : Int32} {R_n : Int32} {R_turns : Int32} {R_cameBy : Nat → Int32} {R_cameFrom : Nat → Int32} {R_child : Nat → Int32} {R_childBack : Nat → Int32} {R_path : Nat → Int32} {R_queue : Nat → Int32} {R_turn : Nat → Int32} {R_weds : Nat → Int32} {R_wedsBack : Nat → Int32} (hM : M ≤ 1000) (hs : s < 2) (hI : qbI de M s (qbk de s k) k 0) {qu : Nat → Int32} (hr : qrr M s (qbk de s k) qu R_cameFrom R_cameBy) (hx : x ∈ (qbk de s k).1) (hd : (qbk de s k).2.2 x ≤ 8) : f_X12_findShortest_l246 R_n R_turns (1004, R_cameBy) (1004, R_cameFrom) (8, R_child) (8, R_childBack) (1004, R_path) (1004, R_queue) (502, R_turn) (8, R_weds) (8, R_wedsBack) x3 (nI s) (nI 0) (nI x) = some (nI ((qbk de s k).2.2 x)) ∧ ∃ pa', f_X12_findShortest_l284 R_n (nI ((qbk de s k).2.2 x)) R_turns (1004, R_cameBy) (1004, R_cameFrom) (8, R_child) (8, R_childBack) (1004, R_queue) (502, R_turn) (8, R_weds) (8, R_wedsBack) (nI s) (1004, R_path) (nI ((qbk de s k).2.2 x)) (nI x) = some (1004, pa') ∧ ∀ i, i < (qbk de s k).2.2 x → pa' i = nI ((qpt (qbk de s k).2.1 ((qbk de s k).2.2 x) x).getD i 0) := by
  have hmem : ∀ y, y ∈ (qbk de s k).1 → y < M := fun y hy => by
    obtain ⟨i, i1, i2⟩ := q_mem.mp hy
    rw [← i2]; exact hI.2.1 i i1
  have hd0 : ∀ y, y ∈ (qbk de s k).1 → ((y = s ↔ (qbk de s k).2.2 y = 0)) := fun y hy => by
    rcases qbI_dep0 hI hy with ⟨e1, e2, e3⟩ | ⟨p, l, p1, p2, p3, p4, p5⟩
    · exact ⟨fun _ => e3, fun _ => e1⟩
    · constructor
      · intro e
        rw [e, hI.2.2.2.1.2.2.2] at p5
        omega
      · intro e
        omega
  generalize qbk de s k = S at *
  constructor
  · have key : qW (f_X12_findShortest_l246 R_n R_turns (1004, R_cameBy) (1004, R_cameFrom) (8, R_child) (8, R_childBack) (1004, R_path) (1004, R_queue) (502, R_turn) (8, R_weds) (8, R_wedsBack) x3 (nI s) (nI 0) (nI x)) (fun e => e = nI (S.2.2 x)) := by
      unfold f_X12_findShortest_l246
      refine qfor 0 (S.2.2 x) (fun i z => ∃ y, z = (nI i, nI y) ∧ y ∈ S.1 ∧ S.2.2 y + i = S.2.2 x) ⟨x, rfl, hx, rfl⟩ (by omega) (by omega) ?_ ?_
      · rintro i z - hi ⟨y, rfl, y1, y2⟩
        have yM := hmem y y1
        have yn : y ≠ s := fun e => by have := (hd0 y y1).mp e; omega
        rcases qbI_dep0 hI y1 with ⟨e1, e2, e3⟩ | ⟨p, l, p1, p2, p3, p4, p5⟩
        · exact absurd e1 yn
        · have cf := (hr.2 y yM).1
          rw [p4, qcf_2 p2] at cf
          simp (disch := first | omega | assumption) only [f_X12_findShortest_b246, cf, qn_lit, qn_ofNat, qn_neg1, qn_neg2, nI_add, pk_mul, qn_sub, qn_ltT, qn_ltF, qn_leT, qn_leF, qn_eqT, qn_eqF, qn_m1T, qn_m1F, qn_m1F2, qn_m1lt, qn_m1lt2, qn_m1le, qn_m1le2, qn_and1, qn_and3, qn_and7, qn_and15, qn_and31, qn_and255, qn_and2047, qn_shl, qn_shr, qn_or, qn_div, qn_modlt, Nat.reduceMod, Nat.reduceAdd, Nat.reduceMul, Nat.reducePow, Nat.reduceDiv, Nat.reduceSub, ↓reduceIte, qn_us, qn_un, not_true_eq_false, not_false_eq_true, true_and, and_true, qn_nn, qn_addm, qn_ngT, qn_ngF, qn_ngE, qn_ngE2, qn_ngL, qn_ngM, Nat.add_sub_cancel, qL, qS, qM, qV, qQ, qZ0, qZ1, qE_l, qE_r, qW_some]
          exact ⟨p, rfl, p3, by omega⟩
      · rintro z ⟨y, rfl, y1, y2⟩
        have ys := (hd0 y y1).mpr (by omega)
        subst ys
        simp (disch := first | omega | assumption) only [f_X12_findShortest_b246, qn_lit, qn_ofNat, qn_neg1, qn_neg2, nI_add, pk_mul, qn_sub, qn_ltT, qn_ltF, qn_leT, qn_leF, qn_eqT, qn_eqF, qn_m1T, qn_m1F, qn_m1F2, qn_m1lt, qn_m1lt2, qn_m1le, qn_m1le2, qn_and1, qn_and3, qn_and7, qn_and15, qn_and31, qn_and255, qn_and2047, qn_shl, qn_shr, qn_or, qn_div, qn_modlt, Nat.reduceMod, Nat.reduceAdd, Nat.reduceMul, Nat.reducePow, Nat.reduceDiv, Nat.reduceSub, ↓reduceIte, qn_us, qn_un, not_true_eq_false, not_false_eq_true, true_and, and_true, qn_nn, qn_addm, qn_ngT, qn_ngF, qn_ngE, qn_ngE2, qn_ngL, qn_ngM, Nat.add_sub_cancel, qL, qS, qM, qV, qQ, qZ0, qZ1, qE_l, qE_r, qW_some]
    obtain ⟨e, g1, rfl⟩ := key
    exact g1
  · have key : qW (f_X12_findShortest_l284 R_n (nI (S.2.2 x)) R_turns (1004, R_cameBy) (1004, R_cameFrom) (8, R_child) (8, R_childBack) (1004, R_queue) (502, R_turn) (8, R_weds) (8, R_wedsBack) (nI s) (1004, R_path) (nI (S.2.2 x)) (nI x)) (fun e => ∃ pa', e = (1004, pa') ∧ ∀ i, i < S.2.2 x → pa' i = nI ((qpt S.2.1 (S.2.2 x) x).getD i 0)) := by
      unfold f_X12_findShortest_l284
      refine qfor 0 (S.2.2 x) (fun i z => ∃ y pa' T, z = ((1004, pa'), nI (S.2.2 x - i), nI y) ∧ y ∈ S.1 ∧ S.2.2 y + i = S.2.2 x ∧ qpt S.2.1 (S.2.2 x) x = qpt S.2.1 (S.2.2 y) y ++ T ∧ ∀ j, S.2.2 x - i ≤ j → j < S.2.2 x → pa' j = nI ((qpt S.2.1 (S.2.2 x) x).getD j 0)) ⟨x, R_path, [], rfl, hx, rfl, by simp, fun j h1 h2 => by omega⟩ (by omega) (by omega) ?_ ?_
      · rintro i z - hi ⟨y, pa', T, rfl, y1, y2, y3, y4⟩
        have yM := hmem y y1
        have yn : y ≠ s := fun e => by have := (hd0 y y1).mp e; omega
        rcases qbI_dep0 hI y1 with ⟨e1, e2, e3⟩ | ⟨p, l, p1, p2, p3, p4, p5⟩
        · exact absurd e1 yn
        · obtain ⟨cf, cy⟩ := hr.2 y yM
          rw [p4] at cf cy
          rw [qcf_2 p2] at cf
          have cy2 := cy (by omega)
          rw [show (2 + (8 * p + l) - 2) % 8 = l by omega] at cy2
          have ei : S.2.2 x - i - 1 = S.2.2 x - (i + 1) := by omega
          have et : qpt S.2.1 (S.2.2 x) x = qpt S.2.1 (S.2.2 p) p ++ (l :: T) := by
            rw [y3, p5]
            simp only [qpt, p4, List.append_assoc, List.singleton_append]
            rw [show (2 + (8 * p + l) - 2) / 8 = p by omega, show (2 + (8 * p + l) - 2) % 8 = l by omega]
          simp (disch := first | omega | assumption) only [f_X12_findShortest_b284, cf, cy2, qn_lit, qn_ofNat, qn_neg1, qn_neg2, nI_add, pk_mul, qn_sub, qn_ltT, qn_ltF, qn_leT, qn_leF, qn_eqT, qn_eqF, qn_m1T, qn_m1F, qn_m1F2, qn_m1lt, qn_m1lt2, qn_m1le, qn_m1le2, qn_and1, qn_and3, qn_and7, qn_and15, qn_and31, qn_and255, qn_and2047, qn_shl, qn_shr, qn_or, qn_div, qn_modlt, Nat.reduceMod, Nat.reduceAdd, Nat.reduceMul, Nat.reducePow, Nat.reduceDiv, Nat.reduceSub, ↓reduceIte, qn_us, qn_un, not_true_eq_false, not_false_eq_true, true_and, and_true, qn_nn, qn_addm, qn_ngT, qn_ngF, qn_ngE, qn_ngE2, qn_ngL, qn_ngM, Nat.add_sub_cancel, qL, qS, qM, qV, qQ, qZ0, qZ1, qE_l, qE_r, qW_some, ei]
          refine ⟨p, _, l :: T, rfl, p3, by omega, et, fun j h1 h2 => ?_⟩
          by_cases q : j = S.2.2 x - (i + 1)
          · rw [q, pk_us, et]
            have hlen := qpt_len S.2.1 (S.2.2 p) p
            have hj : S.2.2 x - (i + 1) = (qpt S.2.1 (S.2.2 p) p).length := by rw [hlen]; omega
            rw [hj, List.getD_eq_getElem?_getD, List.getElem?_append_right (Nat.le_refl _), Nat.sub_self]
            rfl
          · rw [pk_un q]
            exact y4 j (by omega) h2
      · rintro z ⟨y, pa', T, rfl, y1, y2, y3, y4⟩
        have ys := (hd0 y y1).mpr (by omega)
        subst ys
        simp (disch := first | omega | assumption) only [f_X12_findShortest_b284, qn_lit, qn_ofNat, qn_neg1, qn_neg2, nI_add, pk_mul, qn_sub, qn_ltT, qn_ltF, qn_leT, qn_leF, qn_eqT, qn_eqF, qn_m1T, qn_m1F, qn_m1F2, qn_m1lt, qn_m1lt2, qn_m1le, qn_m1le2, qn_and1, qn_and3, qn_and7, qn_and15, qn_and31, qn_and255, qn_and2047, qn_shl, qn_shr, qn_or, qn_div, qn_modlt, Nat.reduceMod, Nat.reduceAdd, Nat.reduceMul, Nat.reducePow, Nat.reduceDiv, Nat.reduceSub, ↓reduceIte, qn_us, qn_un, not_true_eq_false, not_false_eq_true, true_and, and_true, qn_nn, qn_addm, qn_ngT, qn_ngF, qn_ngE, qn_ngE2, qn_ngL, qn_ngM, Nat.add_sub_cancel, qL, qS, qM, qV, qQ, qZ0, qZ1, qE_l, qE_r, qW_some]
        exact ⟨pa', rfl, fun i hi => y4 i (by omega) hi⟩
    obtain ⟨e, g1, pa', rfl, g2⟩ := key
    exact ⟨pa', g1, g2⟩
/-- where a word leads among the turns -/
theorem q_runL {n : Nat} {W C V U : Nat → Nat} {L : List Nat} (h : qH n W C V U) (hT : qTB n W C L) : ∀ (ls : List Nat) (p : Nat), qA8 ls → p / 2 < L.length → qrun (qde (qtw n W L) (qtw n C L) (qtw n V L) (qtw n U L)) ls p / 2 < L.length ∧ L.getD (qrun (qde (qtw n W L) (qtw n C L) (qtw n V L) (qtw n U L)) ls p / 2) 0 = qcp n (qwk W C V U ls (p % 2)) (L.getD (p / 2) 0) ∧ qrun (qde (qtw n W L) (qtw n C L) (qtw n V L) (qtw n U L)) ls p % 2 = qto (p % 2) ls := by
  obtain ⟨hn, hW, hC, hV, hU⟩ := id h
  obtain ⟨b1, b2, b3, b4, b5⟩ := id hT
  obtain ⟨p1, p2⟩ := qtw_P hn hW b1 (fun i hi => (b5 i hi).1)
  obtain ⟨p3, p4⟩ := qtw_P hn hC b1 (fun i hi => (b5 i hi).2)
  obtain ⟨p5, p6⟩ := qtw_B hn hW hV b1 (fun i hi => (b5 i hi).1)
  obtain ⟨p7, p8⟩ := qtw_B hn hC hU b1 (fun i hi => (b5 i hi).2)
  intro ls
  induction ls with
  | nil =>
    intro p _ hp
    exact ⟨hp, (qcp_id hn (b1.2 _ hp) (fun i hi => rfl)).symm, rfl⟩
  | cons l ls ih =>
    intro p h8 hp
    have hlt := qst_ltN p2 p4 p6 p8 hp l (p % 2)
    have hsx := qsx_lt l
    have d1 : qde (qtw n W L) (qtw n C L) (qtw n V L) (qtw n U L) p l / 2 = qst (qtw n W L) (qtw n C L) (qtw n V L) (qtw n U L) l (p % 2) (p / 2) := by unfold qde; omega
    have d2 : qde (qtw n W L) (qtw n C L) (qtw n V L) (qtw n U L) p l % 2 = qsx l := by unfold qde; omega
    obtain ⟨i1, i2, i3⟩ := ih (qde (qtw n W L) (qtw n C L) (qtw n V L) (qtw n U L) p l) (qA8_cons h8).2 (by rw [d1]; exact hlt)
    refine ⟨i1, ?_, ?_⟩
    · show L.getD (qrun _ ls (qde _ _ _ _ p l) / 2) 0 = _
      rw [i2, d1, d2, q_turnstep h hT hp, qcp_cp hn (fun i hi => qst_lt h hi l (p % 2)) (b1.2 _ hp)]
      rfl
    · show qrun _ ls (qde _ _ _ _ p l) % 2 = _
      rw [i3, d2]
      rfl

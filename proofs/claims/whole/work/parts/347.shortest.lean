/-! the class's shortest word -/
def qBV (N : Nat) (w c v u : Nat → Nat) (s : Nat) (b : Nat → Int32) : Prop := ∃ k, qbf (qde w c v u) s k ∧ ∀ x, x < 2 * N → b x = qpe ((qbk (qde w c v u) s k).2.1 x)
def qFl (N : Nat) (w c v u : Nat → Nat) (s : Nat) (sr b : Nat → Int32) : Prop := sr s = nI 0 ∨ (sr s = nI 1 ∧ qBV N w c v u s b)
theorem q_search0 {N : Nat} {w c v u : Nat → Nat} {bc bf bh bw sr qu b0 b1 : Nat → Int32} (h : qTC N w c v u bc bf bh bw) (hN : 0 < N) (h0 : qFl N w c v u 0 sr b0) : ∃ qu' sr' b0', f_X9_search (500, bc) (500, bf) (500, bh) (500, bw) (1000, qu) (2, sr) (1000, b0) (1000, b1) (nI 0) = some ((1000, qu'), (2, sr'), (1000, b0'), (1000, b1)) ∧ sr' 0 = nI 1 ∧ sr' 1 = sr 1 ∧ qBV N w c v u 0 b0' := by
  have hN5 := h.1
  have isS : f_X11_isSex (nI 0) = some (nI 1) := X11_isSex_yes (Or.inl rfl)
  rcases h0 with h0 | ⟨h0, h1⟩
  · obtain ⟨g, f1, f2⟩ := q_fill (N := 1000) (f := b0) (v := mI) (by decide)
    have hr : qsr (2 * N) (qbk (qde w c v u) 0 0) (upd qu 0 (nI 0)) (upd g 0 mJ) := by
      refine ⟨fun i hi => ?_, fun x hx => ?_⟩
      · have hi2 : i < 1 := hi
        have : i = 0 := by omega
        subst this
        exact pk_us
      · show upd g 0 mJ x = qpe (qup (fun _ => 0) 0 1 x)
        by_cases e : x = 0
        · rw [e, pk_us, qup_s, qpe_1]
        · rw [pk_un e, qup_n e, qpe_0]
          exact f2 x (by omega)
    obtain ⟨e, g1, qu', b0', k, rfl, g2, g3⟩ := q_search2 (sr := upd sr 0 (nI 1)) (b1 := b1) h (s := 0) (by omega) hr
    refine ⟨qu', upd sr 0 (nI 1), b0', ?_, pk_us, pk_un (by decide), k, g2, g3.2⟩
    have s1 := q_set (f := g) (x := mJ) (show 0 < 1000 by decide) (by decide)
    have s2 := q_set (f := qu) (x := nI 0) (show 0 < 1000 by decide) (by decide)
    simp (disch := first | omega | assumption) only [f_X9_search, isS, h0, q_nar1, f1, s1, s2, g1, qn_lit, qn_ofNat, qn_neg1, qn_neg2, nI_add, pk_mul, qn_sub, qn_ltT, qn_ltF, qn_leT, qn_leF, qn_eqT, qn_eqF, qn_m1T, qn_m1F, qn_m1F2, qn_m1lt, qn_m1lt2, qn_m1le, qn_m1le2, qn_and1, qn_and3, qn_and7, qn_and15, qn_and31, qn_and255, qn_and2047, qn_shl, qn_shr, qn_or, qn_div, qn_modlt, Nat.reduceMod, Nat.reduceAdd, Nat.reduceMul, Nat.reducePow, Nat.reduceDiv, Nat.reduceSub, ↓reduceIte, qn_us, qn_un, not_true_eq_false, not_false_eq_true, true_and, and_true, qn_nn, qn_addm, qn_ngT, qn_ngF, qn_ngE, qn_ngE2, qn_ngL, qn_ngM, Nat.add_sub_cancel, qL, qS, qM, qV, qQ, qZ0, qZ1, qE_l, qE_r, qW_some]
  · refine ⟨qu, sr, b0, ?_, h0, rfl, h1⟩
    simp (disch := first | omega | assumption) only [f_X9_search, isS, h0, qn_lit, qn_ofNat, qn_neg1, qn_neg2, nI_add, pk_mul, qn_sub, qn_ltT, qn_ltF, qn_leT, qn_leF, qn_eqT, qn_eqF, qn_m1T, qn_m1F, qn_m1F2, qn_m1lt, qn_m1lt2, qn_m1le, qn_m1le2, qn_and1, qn_and3, qn_and7, qn_and15, qn_and31, qn_and255, qn_and2047, qn_shl, qn_shr, qn_or, qn_div, qn_modlt, Nat.reduceMod, Nat.reduceAdd, Nat.reduceMul, Nat.reducePow, Nat.reduceDiv, Nat.reduceSub, ↓reduceIte, qn_us, qn_un, not_true_eq_false, not_false_eq_true, true_and, and_true, qn_nn, qn_addm, qn_ngT, qn_ngF, qn_ngE, qn_ngE2, qn_ngL, qn_ngM, Nat.add_sub_cancel, qL, qS, qM, qV, qQ, qZ0, qZ1, qE_l, qE_r, qW_some]
theorem q_search1x {N : Nat} {w c v u : Nat → Nat} {bc bf bh bw sr qu b0 b1 : Nat → Int32} (h : qTC N w c v u bc bf bh bw) (hN : 0 < N) (h0 : qFl N w c v u 1 sr b1) : ∃ qu' sr' b1', f_X9_search (500, bc) (500, bf) (500, bh) (500, bw) (1000, qu) (2, sr) (1000, b0) (1000, b1) (nI 1) = some ((1000, qu'), (2, sr'), (1000, b0), (1000, b1')) ∧ sr' 1 = nI 1 ∧ sr' 0 = sr 0 ∧ qBV N w c v u 1 b1' := by
  have hN5 := h.1
  have isS : f_X11_isSex (nI 1) = some (nI 1) := X11_isSex_yes (Or.inr rfl)
  rcases h0 with h0 | ⟨h0, h1⟩
  · obtain ⟨g, f1, f2⟩ := q_fill (N := 1000) (f := b1) (v := mI) (by decide)
    have hr : qsr (2 * N) (qbk (qde w c v u) 1 0) (upd qu 0 (nI 1)) (upd g 1 mJ) := by
      refine ⟨fun i hi => ?_, fun x hx => ?_⟩
      · have hi2 : i < 1 := hi
        have : i = 0 := by omega
        subst this
        exact pk_us
      · show upd g 1 mJ x = qpe (qup (fun _ => 0) 1 1 x)
        by_cases e : x = 1
        · rw [e, pk_us, qup_s, qpe_1]
        · rw [pk_un e, qup_n e, qpe_0]
          exact f2 x (by omega)
    obtain ⟨e, g1, qu', b1', k, rfl, g2, g3⟩ := q_search2b (sr := upd sr 1 (nI 1)) (b0 := b0) h (s := 1) (by omega) hr
    refine ⟨qu', upd sr 1 (nI 1), b1', ?_, pk_us, pk_un (by decide), k, g2, g3.2⟩
    have s1 := q_set (f := g) (x := mJ) (show 1 < 1000 by decide) (by decide)
    have s2 := q_set (f := qu) (x := nI 1) (show 0 < 1000 by decide) (by decide)
    simp (disch := first | omega | assumption) only [f_X9_search, isS, h0, q_nar1, f1, s1, s2, g1, qn_lit, qn_ofNat, qn_neg1, qn_neg2, nI_add, pk_mul, qn_sub, qn_ltT, qn_ltF, qn_leT, qn_leF, qn_eqT, qn_eqF, qn_m1T, qn_m1F, qn_m1F2, qn_m1lt, qn_m1lt2, qn_m1le, qn_m1le2, qn_and1, qn_and3, qn_and7, qn_and15, qn_and31, qn_and255, qn_and2047, qn_shl, qn_shr, qn_or, qn_div, qn_modlt, Nat.reduceMod, Nat.reduceAdd, Nat.reduceMul, Nat.reducePow, Nat.reduceDiv, Nat.reduceSub, ↓reduceIte, qn_us, qn_un, not_true_eq_false, not_false_eq_true, true_and, and_true, qn_nn, qn_addm, qn_ngT, qn_ngF, qn_ngE, qn_ngE2, qn_ngL, qn_ngM, Nat.add_sub_cancel, qL, qS, qM, qV, qQ, qZ0, qZ1, qE_l, qE_r, qW_some]
  · refine ⟨qu, sr, b1, ?_, h0, rfl, h1⟩
    simp (disch := first | omega | assumption) only [f_X9_search, isS, h0, qn_lit, qn_ofNat, qn_neg1, qn_neg2, nI_add, pk_mul, qn_sub, qn_ltT, qn_ltF, qn_leT, qn_leF, qn_eqT, qn_eqF, qn_m1T, qn_m1F, qn_m1F2, qn_m1lt, qn_m1lt2, qn_m1le, qn_m1le2, qn_and1, qn_and3, qn_and7, qn_and15, qn_and31, qn_and255, qn_and2047, qn_shl, qn_shr, qn_or, qn_div, qn_modlt, Nat.reduceMod, Nat.reduceAdd, Nat.reduceMul, Nat.reducePow, Nat.reduceDiv, Nat.reduceSub, ↓reduceIte, qn_us, qn_un, not_true_eq_false, not_false_eq_true, true_and, and_true, qn_nn, qn_addm, qn_ngT, qn_ngF, qn_ngE, qn_ngE2, qn_ngL, qn_ngM, Nat.add_sub_cancel, qL, qS, qM, qV, qQ, qZ0, qZ1, qE_l, qE_r, qW_some]
theorem q_of {s : Nat} {ls : List Nat} (hs : s < 2) (h : qA8 ls) (h8 : ls.length ≤ 8) : f_X1_of (nI s) (nI ls.length) (nI (qen ls)) = some (nI (qkn s ls)) := by
  have h2 := qen_24 h h8
  have e1 : 2 ^ 28 * s ||| 2 ^ 24 * ls.length = 2 ^ 28 * s + 2 ^ 24 * ls.length := (Nat.two_pow_add_eq_or_of_lt (by omega) s).symm
  have e2 : 2 ^ 28 * s + 2 ^ 24 * ls.length = 2 ^ 24 * (16 * s + ls.length) := by omega
  have e3 : 2 ^ 24 * (16 * s + ls.length) ||| qen ls = 2 ^ 24 * (16 * s + ls.length) + qen ls := (Nat.two_pow_add_eq_or_of_lt (by omega) _).symm
  simp only [Nat.reducePow] at e1 e2 e3
  have e4 : qkn s ls = 16777216 * (16 * s + ls.length) + qen ls := by unfold qkn; omega
  simp (disch := first | omega | assumption) only [f_X1_of, qn_lit, qn_ofNat, qn_neg1, qn_neg2, nI_add, pk_mul, qn_sub, qn_ltT, qn_ltF, qn_leT, qn_leF, qn_eqT, qn_eqF, qn_m1T, qn_m1F, qn_m1F2, qn_m1lt, qn_m1lt2, qn_m1le, qn_m1le2, qn_and1, qn_and3, qn_and7, qn_and15, qn_and31, qn_and255, qn_and2047, qn_shl, qn_shr, qn_or, qn_div, qn_modlt, Nat.reduceMod, Nat.reduceAdd, Nat.reduceMul, Nat.reducePow, Nat.reduceDiv, Nat.reduceSub, ↓reduceIte, qn_us, qn_un, not_true_eq_false, not_false_eq_true, true_and, and_true, qn_nn, qn_addm, qn_ngT, qn_ngF, qn_ngE, qn_ngE2, qn_ngL, qn_ngM, Nat.add_sub_cancel, qL, qS, qM, qV, qQ, qZ0, qZ1, qE_l, qE_r, qW_some, e1, e2, e3, e4]
/-- dep 0 is the start alone -/
theorem qbI_dep0 {de : Nat → Nat → Nat} {M s : Nat} {S : qS3} {k m : Nat} (h : qbI de M s S k m) {x : Nat} (hx : x ∈ S.1) : (x = s ∧ S.2.1 x = 1 ∧ S.2.2 x = 0) ∨ ∃ p l, p < M ∧ l < 8 ∧ p ∈ S.1 ∧ S.2.1 x = 2 + (8 * p + l) ∧ S.2.2 x = S.2.2 p + 1 := by
  obtain ⟨i, i1, i2⟩ := q_mem.mp hx
  have hM : x < M := by rw [← i2]; exact h.2.1 i i1
  rcases qbI_par h hM ((h.2.2.1 x hM).mpr hx) with ⟨e1, e2⟩ | e
  · left
    exact ⟨e1, e2, by rw [e1]; exact h.2.2.2.1.2.2.2⟩
  · exact Or.inr e
theorem q_wordL {M s k x : Nat} {de : Nat → Nat → Nat} {b : Nat → Int32} (hM : M ≤ 1000) (hs : s < 2) (hI : qbI de M s (qbk de s k) k 0) (hb : ∀ x, x < M → b x = qpe ((qbk de s k).2.1 x)) (hx : x ∈ (qbk de s k).1) (hd : (qbk de s k).2.2 x ≤ 8) : qW (f_X9_wordTo_l21 (1000, b) (nI s) (nI 0) (nI 0) (nI x) (nI 0)) (fun e => e = Sum.inl (nI (qen (qpt (qbk de s k).2.1 ((qbk de s k).2.2 x) x)), nI ((qbk de s k).2.2 x)) ∨ e = Sum.inr (nI (qen (qpt (qbk de s k).2.1 ((qbk de s k).2.2 x) x)), nI ((qbk de s k).2.2 x))) := by
  have hxM : x < M := by
    obtain ⟨i, i1, i2⟩ := q_mem.mp hx
    rw [← i2]; exact hI.2.1 i i1
  generalize qbk de s k = S at *
  unfold f_X9_wordTo_l21
  refine qfor 0 8 (fun i z => ∃ T y, z = (nI (qen T), nI i, nI y, nI i) ∧ T.length = i ∧ i ≤ S.2.2 x ∧ y ∈ S.1 ∧ y < M ∧ S.2.2 y + i = S.2.2 x ∧ qpt S.2.1 (S.2.2 x) x = qpt S.2.1 (S.2.2 y) y ++ T) ⟨[], x, rfl, rfl, Nat.zero_le _, hx, hxM, rfl, by simp⟩ (by omega) (by omega) ?_ ?_
  · rintro i z - hi ⟨T, y, rfl, t1, t2, t3, t4, t5, t6⟩
    have hT8 : qA8 T := fun l hl => qpt_8 S.2.1 (S.2.2 x) x l (by rw [t6]; exact List.mem_append_right _ hl)
    have hTe := qen_24 hT8 (by omega)
    have hTl : qen T < 8 ^ 7 := Nat.lt_of_lt_of_le (qen_lt hT8) (Nat.pow_le_pow_right (by decide) (by omega))
    have e87 : 8 ^ 7 = 2097152 := by decide
    have hby := hb y t4
    have ent : ∀ g : Nat → Int32, f_X11_entry (1000, g) (nI y) = some (g y) := fun g => q_entry (by omega) (by decide)
    rcases qbI_dep0 hI t3 with ⟨e1, e2, e3⟩ | ⟨p, l, p1, p2, p3, p4, p5⟩
    · rw [e2, qpe_1] at hby
      have nj : ¬ nI 0 ≤ mJ := by decide
      have et : qpt S.2.1 (S.2.2 x) x = T := by rw [t6, e3]; rfl
      have ei : i = S.2.2 x := by omega
      simp (disch := first | omega | assumption) only [f_X9_wordTo_b21, ent, hby, nj, qn_lit, qn_ofNat, qn_neg1, qn_neg2, nI_add, pk_mul, qn_sub, qn_ltT, qn_ltF, qn_leT, qn_leF, qn_eqT, qn_eqF, qn_m1T, qn_m1F, qn_m1F2, qn_m1lt, qn_m1lt2, qn_m1le, qn_m1le2, qn_and1, qn_and3, qn_and7, qn_and15, qn_and31, qn_and255, qn_and2047, qn_shl, qn_shr, qn_or, qn_div, qn_modlt, Nat.reduceMod, Nat.reduceAdd, Nat.reduceMul, Nat.reducePow, Nat.reduceDiv, Nat.reduceSub, ↓reduceIte, qn_us, qn_un, not_true_eq_false, not_false_eq_true, true_and, and_true, qn_nn, qn_addm, qn_ngT, qn_ngF, qn_ngE, qn_ngE2, qn_ngL, qn_ngM, Nat.add_sub_cancel, qL, qS, qM, qV, qQ, qZ0, qZ1, qE_l, qE_r, qW_some]
      left
      rw [et, ← ei]
    · rw [p4, qpe_2] at hby
      have em : (8 * p + l) % 8 = l := by omega
      have ed : (8 * p + l) / 8 = p := by omega
      have eo := q_or8 (p := qen T) p2
      simp (disch := first | omega | assumption) only [f_X9_wordTo_b21, ent, hby, qn_lit, qn_ofNat, qn_neg1, qn_neg2, nI_add, pk_mul, qn_sub, qn_ltT, qn_ltF, qn_leT, qn_leF, qn_eqT, qn_eqF, qn_m1T, qn_m1F, qn_m1F2, qn_m1lt, qn_m1lt2, qn_m1le, qn_m1le2, qn_and1, qn_and3, qn_and7, qn_and15, qn_and31, qn_and255, qn_and2047, qn_shl, qn_shr, qn_or, qn_div, qn_modlt, Nat.reduceMod, Nat.reduceAdd, Nat.reduceMul, Nat.reducePow, Nat.reduceDiv, Nat.reduceSub, ↓reduceIte, qn_us, qn_un, not_true_eq_false, not_false_eq_true, true_and, and_true, qn_nn, qn_addm, qn_ngT, qn_ngF, qn_ngE, qn_ngE2, qn_ngL, qn_ngM, Nat.add_sub_cancel, qL, qS, qM, qV, qQ, qZ0, qZ1, qE_l, qE_r, qW_some, em, ed, eo]
      refine ⟨l :: T, p, ?_, by simp [t1], by omega, p3, p1, by omega, ?_⟩
      · simp only [qen]
        rw [Nat.add_comm]
      · rw [t6, p5]
        simp only [qpt, p4, List.append_assoc, List.singleton_append]
        rw [show (2 + (8 * p + l) - 2) / 8 = p by omega, show (2 + (8 * p + l) - 2) % 8 = l by omega]
  · rintro z ⟨T, y, rfl, t1, t2, t3, t4, t5, t6⟩
    have ei : 8 = S.2.2 x := by omega
    have e0 : S.2.2 y = 0 := by omega
    have et : qpt S.2.1 (S.2.2 x) x = T := by rw [t6, e0]; rfl
    simp (disch := first | omega | assumption) only [f_X9_wordTo_b21, qn_lit, qn_ofNat, qn_neg1, qn_neg2, nI_add, pk_mul, qn_sub, qn_ltT, qn_ltF, qn_leT, qn_leF, qn_eqT, qn_eqF, qn_m1T, qn_m1F, qn_m1F2, qn_m1lt, qn_m1lt2, qn_m1le, qn_m1le2, qn_and1, qn_and3, qn_and7, qn_and15, qn_and31, qn_and255, qn_and2047, qn_shl, qn_shr, qn_or, qn_div, qn_modlt, Nat.reduceMod, Nat.reduceAdd, Nat.reduceMul, Nat.reducePow, Nat.reduceDiv, Nat.reduceSub, ↓reduceIte, qn_us, qn_un, not_true_eq_false, not_false_eq_true, true_and, and_true, qn_nn, qn_addm, qn_ngT, qn_ngF, qn_ngE, qn_ngE2, qn_ngL, qn_ngM, Nat.add_sub_cancel, qL, qS, qM, qV, qQ, qZ0, qZ1, qE_l, qE_r, qW_some]
    right
    rw [et, ← ei]
theorem q_wordLb {M s k x : Nat} {de : Nat → Nat → Nat} {b : Nat → Int32} (hM : M ≤ 1000) (hs : s < 2) (hI : qbI de M s (qbk de s k) k 0) (hb : ∀ x, x < M → b x = qpe ((qbk de s k).2.1 x)) (hx : x ∈ (qbk de s k).1) (hd : (qbk de s k).2.2 x ≤ 8) : qW (f_X9_wordTo_l21b (1000, b) (nI s) (nI 0) (nI 0) (nI x) (nI 0)) (fun e => e = Sum.inl (nI (qen (qpt (qbk de s k).2.1 ((qbk de s k).2.2 x) x)), nI ((qbk de s k).2.2 x)) ∨ e = Sum.inr (nI (qen (qpt (qbk de s k).2.1 ((qbk de s k).2.2 x) x)), nI ((qbk de s k).2.2 x))) := by
  have hxM : x < M := by
    obtain ⟨i, i1, i2⟩ := q_mem.mp hx
    rw [← i2]; exact hI.2.1 i i1
  generalize qbk de s k = S at *
  unfold f_X9_wordTo_l21b
  refine qfor 0 8 (fun i z => ∃ T y, z = (nI (qen T), nI i, nI y, nI i) ∧ T.length = i ∧ i ≤ S.2.2 x ∧ y ∈ S.1 ∧ y < M ∧ S.2.2 y + i = S.2.2 x ∧ qpt S.2.1 (S.2.2 x) x = qpt S.2.1 (S.2.2 y) y ++ T) ⟨[], x, rfl, rfl, Nat.zero_le _, hx, hxM, rfl, by simp⟩ (by omega) (by omega) ?_ ?_
  · rintro i z - hi ⟨T, y, rfl, t1, t2, t3, t4, t5, t6⟩
    have hT8 : qA8 T := fun l hl => qpt_8 S.2.1 (S.2.2 x) x l (by rw [t6]; exact List.mem_append_right _ hl)
    have hTe := qen_24 hT8 (by omega)
    have hTl : qen T < 8 ^ 7 := Nat.lt_of_lt_of_le (qen_lt hT8) (Nat.pow_le_pow_right (by decide) (by omega))
    have e87 : 8 ^ 7 = 2097152 := by decide
    have hby := hb y t4
    have ent : ∀ g : Nat → Int32, f_X11_entry (1000, g) (nI y) = some (g y) := fun g => q_entry (by omega) (by decide)
    rcases qbI_dep0 hI t3 with ⟨e1, e2, e3⟩ | ⟨p, l, p1, p2, p3, p4, p5⟩
    · rw [e2, qpe_1] at hby
      have nj : ¬ nI 0 ≤ mJ := by decide
      have et : qpt S.2.1 (S.2.2 x) x = T := by rw [t6, e3]; rfl
      have ei : i = S.2.2 x := by omega
      simp (disch := first | omega | assumption) only [f_X9_wordTo_b21b, ent, hby, nj, qn_lit, qn_ofNat, qn_neg1, qn_neg2, nI_add, pk_mul, qn_sub, qn_ltT, qn_ltF, qn_leT, qn_leF, qn_eqT, qn_eqF, qn_m1T, qn_m1F, qn_m1F2, qn_m1lt, qn_m1lt2, qn_m1le, qn_m1le2, qn_and1, qn_and3, qn_and7, qn_and15, qn_and31, qn_and255, qn_and2047, qn_shl, qn_shr, qn_or, qn_div, qn_modlt, Nat.reduceMod, Nat.reduceAdd, Nat.reduceMul, Nat.reducePow, Nat.reduceDiv, Nat.reduceSub, ↓reduceIte, qn_us, qn_un, not_true_eq_false, not_false_eq_true, true_and, and_true, qn_nn, qn_addm, qn_ngT, qn_ngF, qn_ngE, qn_ngE2, qn_ngL, qn_ngM, Nat.add_sub_cancel, qL, qS, qM, qV, qQ, qZ0, qZ1, qE_l, qE_r, qW_some]
      left
      rw [et, ← ei]
    · rw [p4, qpe_2] at hby
      have em : (8 * p + l) % 8 = l := by omega
      have ed : (8 * p + l) / 8 = p := by omega
      have eo := q_or8 (p := qen T) p2
      simp (disch := first | omega | assumption) only [f_X9_wordTo_b21b, ent, hby, qn_lit, qn_ofNat, qn_neg1, qn_neg2, nI_add, pk_mul, qn_sub, qn_ltT, qn_ltF, qn_leT, qn_leF, qn_eqT, qn_eqF, qn_m1T, qn_m1F, qn_m1F2, qn_m1lt, qn_m1lt2, qn_m1le, qn_m1le2, qn_and1, qn_and3, qn_and7, qn_and15, qn_and31, qn_and255, qn_and2047, qn_shl, qn_shr, qn_or, qn_div, qn_modlt, Nat.reduceMod, Nat.reduceAdd, Nat.reduceMul, Nat.reducePow, Nat.reduceDiv, Nat.reduceSub, ↓reduceIte, qn_us, qn_un, not_true_eq_false, not_false_eq_true, true_and, and_true, qn_nn, qn_addm, qn_ngT, qn_ngF, qn_ngE, qn_ngE2, qn_ngL, qn_ngM, Nat.add_sub_cancel, qL, qS, qM, qV, qQ, qZ0, qZ1, qE_l, qE_r, qW_some, em, ed, eo]
      refine ⟨l :: T, p, ?_, by simp [t1], by omega, p3, p1, by omega, ?_⟩
      · simp only [qen]
        rw [Nat.add_comm]
      · rw [t6, p5]
        simp only [qpt, p4, List.append_assoc, List.singleton_append]
        rw [show (2 + (8 * p + l) - 2) / 8 = p by omega, show (2 + (8 * p + l) - 2) % 8 = l by omega]
  · rintro z ⟨T, y, rfl, t1, t2, t3, t4, t5, t6⟩
    have ei : 8 = S.2.2 x := by omega
    have e0 : S.2.2 y = 0 := by omega
    have et : qpt S.2.1 (S.2.2 x) x = T := by rw [t6, e0]; rfl
    simp (disch := first | omega | assumption) only [f_X9_wordTo_b21b, qn_lit, qn_ofNat, qn_neg1, qn_neg2, nI_add, pk_mul, qn_sub, qn_ltT, qn_ltF, qn_leT, qn_leF, qn_eqT, qn_eqF, qn_m1T, qn_m1F, qn_m1F2, qn_m1lt, qn_m1lt2, qn_m1le, qn_m1le2, qn_and1, qn_and3, qn_and7, qn_and15, qn_and31, qn_and255, qn_and2047, qn_shl, qn_shr, qn_or, qn_div, qn_modlt, Nat.reduceMod, Nat.reduceAdd, Nat.reduceMul, Nat.reducePow, Nat.reduceDiv, Nat.reduceSub, ↓reduceIte, qn_us, qn_un, not_true_eq_false, not_false_eq_true, true_and, and_true, qn_nn, qn_addm, qn_ngT, qn_ngF, qn_ngE, qn_ngE2, qn_ngL, qn_ngM, Nat.add_sub_cancel, qL, qS, qM, qV, qQ, qZ0, qZ1, qE_l, qE_r, qW_some]
    right
    rw [et, ← ei]
theorem q_wordTo {M s k x : Nat} {de : Nat → Nat → Nat} {b0 b1 b : Nat → Int32} (hM : M ≤ 1000) (hs : s < 2) (hI : qbI de M s (qbk de s k) k 0) (hb : ∀ x, x < M → b x = qpe ((qbk de s k).2.1 x)) (hb0 : s = 0 → b = b0) (hb1 : s = 1 → b = b1) (hx : x ∈ (qbk de s k).1) (hd : (qbk de s k).2.2 x ≤ 8) : f_X9_wordTo (1000, b0) (1000, b1) (nI s) (nI x) = some (nI (qkn s (qpt (qbk de s k).2.1 ((qbk de s k).2.2 x) x))) := by
  have hof := q_of hs (qpt_8 (qbk de s k).2.1 ((qbk de s k).2.2 x) x) (by rw [qpt_len]; exact hd)
  rw [qpt_len] at hof
  have hs2 : s = 0 ∨ s = 1 := by omega
  rcases hs2 with q | q
  · have key := q_wordL hM hs hI hb hx hd
    have hbb := hb0 q
    subst hbb
    generalize qbk de s k = S at *
    subst q
    obtain ⟨e, g1, rfl | rfl⟩ := key
    · simp (disch := first | omega | assumption) only [f_X9_wordTo, f_X9_wordTo_j71, g1, hof, qn_lit, qn_ofNat, qn_neg1, qn_neg2, nI_add, pk_mul, qn_sub, qn_ltT, qn_ltF, qn_leT, qn_leF, qn_eqT, qn_eqF, qn_m1T, qn_m1F, qn_m1F2, qn_m1lt, qn_m1lt2, qn_m1le, qn_m1le2, qn_and1, qn_and3, qn_and7, qn_and15, qn_and31, qn_and255, qn_and2047, qn_shl, qn_shr, qn_or, qn_div, qn_modlt, Nat.reduceMod, Nat.reduceAdd, Nat.reduceMul, Nat.reducePow, Nat.reduceDiv, Nat.reduceSub, ↓reduceIte, qn_us, qn_un, not_true_eq_false, not_false_eq_true, true_and, and_true, qn_nn, qn_addm, qn_ngT, qn_ngF, qn_ngE, qn_ngE2, qn_ngL, qn_ngM, Nat.add_sub_cancel, qL, qS, qM, qV, qQ, qZ0, qZ1, qE_l, qE_r, qW_some]
    · simp (disch := first | omega | assumption) only [f_X9_wordTo, f_X9_wordTo_j71, g1, hof, qn_lit, qn_ofNat, qn_neg1, qn_neg2, nI_add, pk_mul, qn_sub, qn_ltT, qn_ltF, qn_leT, qn_leF, qn_eqT, qn_eqF, qn_m1T, qn_m1F, qn_m1F2, qn_m1lt, qn_m1lt2, qn_m1le, qn_m1le2, qn_and1, qn_and3, qn_and7, qn_and15, qn_and31, qn_and255, qn_and2047, qn_shl, qn_shr, qn_or, qn_div, qn_modlt, Nat.reduceMod, Nat.reduceAdd, Nat.reduceMul, Nat.reducePow, Nat.reduceDiv, Nat.reduceSub, ↓reduceIte, qn_us, qn_un, not_true_eq_false, not_false_eq_true, true_and, and_true, qn_nn, qn_addm, qn_ngT, qn_ngF, qn_ngE, qn_ngE2, qn_ngL, qn_ngM, Nat.add_sub_cancel, qL, qS, qM, qV, qQ, qZ0, qZ1, qE_l, qE_r, qW_some]
  · have key := q_wordLb hM hs hI hb hx hd
    have hbb := hb1 q
    subst hbb
    generalize qbk de s k = S at *
    subst q
    obtain ⟨e, g1, rfl | rfl⟩ := key
    · simp (disch := first | omega | assumption) only [f_X9_wordTo, f_X9_wordTo_j71, g1, hof, qn_lit, qn_ofNat, qn_neg1, qn_neg2, nI_add, pk_mul, qn_sub, qn_ltT, qn_ltF, qn_leT, qn_leF, qn_eqT, qn_eqF, qn_m1T, qn_m1F, qn_m1F2, qn_m1lt, qn_m1lt2, qn_m1le, qn_m1le2, qn_and1, qn_and3, qn_and7, qn_and15, qn_and31, qn_and255, qn_and2047, qn_shl, qn_shr, qn_or, qn_div, qn_modlt, Nat.reduceMod, Nat.reduceAdd, Nat.reduceMul, Nat.reducePow, Nat.reduceDiv, Nat.reduceSub, ↓reduceIte, qn_us, qn_un, not_true_eq_false, not_false_eq_true, true_and, and_true, qn_nn, qn_addm, qn_ngT, qn_ngF, qn_ngE, qn_ngE2, qn_ngL, qn_ngM, Nat.add_sub_cancel, qL, qS, qM, qV, qQ, qZ0, qZ1, qE_l, qE_r, qW_some]
    · simp (disch := first | omega | assumption) only [f_X9_wordTo, f_X9_wordTo_j71, g1, hof, qn_lit, qn_ofNat, qn_neg1, qn_neg2, nI_add, pk_mul, qn_sub, qn_ltT, qn_ltF, qn_leT, qn_leF, qn_eqT, qn_eqF, qn_m1T, qn_m1F, qn_m1F2, qn_m1lt, qn_m1lt2, qn_m1le, qn_m1le2, qn_and1, qn_and3, qn_and7, qn_and15, qn_and31, qn_and255, qn_and2047, qn_shl, qn_shr, qn_or, qn_div, qn_modlt, Nat.reduceMod, Nat.reduceAdd, Nat.reduceMul, Nat.reducePow, Nat.reduceDiv, Nat.reduceSub, ↓reduceIte, qn_us, qn_un, not_true_eq_false, not_false_eq_true, true_and, and_true, qn_nn, qn_addm, qn_ngT, qn_ngF, qn_ngE, qn_ngE2, qn_ngL, qn_ngM, Nat.add_sub_cancel, qL, qS, qM, qV, qQ, qZ0, qZ1, qE_l, qE_r, qW_some]
theorem q_rok {w c v u : Nat → Nat} : ∀ (ls : List Nat) (s p : Nat), p % 2 = s → qok s ls → qrok (qde w c v u) ls p := by
  intro ls
  induction ls with
  | nil => intro s p _ _; trivial
  | cons l ls ih =>
    intro s p hp h
    refine ⟨by unfold qal; rw [hp]; exact h.1, ih (qsx l) _ ?_ h.2⟩
    have := qsx_lt l
    unfold qde
    omega
/-- the state that a word leads to -/
theorem q_runX {N : Nat} {w c v u : Nat → Nat} {bc bf bh bw : Nat → Int32} {ls : List Nat} {s : Nat} {tn_children : Int32} {tn_count : Int32} {tn_many : Int32} {tn_size : Int32} {tn_wives : Int32} {tn_queue : Nat → Int32} {tn_searched : Nat → Int32} {tn_slot : Nat → Int32} {tn_turn : Nat → Int32} {tn_before_0 : Nat → Int32} {tn_before_1 : Nat → Int32} (h : qTC N w c v u bc bf bh bw) (hN : 0 < N) (hs : s < 2) (h8 : qA8 ls) (hl : ls.length ≤ 8) (ho : qok s ls) (x : Int32) : f_X9_shortest_l30 tn_children tn_count tn_many tn_size tn_wives (500, bc) (500, bf) (500, bh) (500, bw) (1000, tn_queue) (2, tn_searched) (2048, tn_slot) (500, tn_turn) (1000, tn_before_0) (1000, tn_before_1) (nI (qkn s ls)) x (nI s) (nI 0) = some (nI (qrun (qde w c v u) ls s)) := by
  obtain ⟨hN5, hw, hc, hv, hu, h1, h2, h3, h4⟩ := h
  have hde := qde_lt hw hc hv hu
  have key : qW (f_X9_shortest_l30 tn_children tn_count tn_many tn_size tn_wives (500, bc) (500, bf) (500, bh) (500, bw) (1000, tn_queue) (2, tn_searched) (2048, tn_slot) (500, tn_turn) (1000, tn_before_0) (1000, tn_before_1) (nI (qkn s ls)) x (nI s) (nI 0)) (fun e => e = nI (qrun (qde w c v u) ls s)) := by
    unfold f_X9_shortest_l30
    refine qfor 0 ls.length (fun i z => ∃ p, z = (nI p, nI i) ∧ p < 2 * N ∧ qrok (qde w c v u) (ls.drop i) p ∧ qrun (qde w c v u) (ls.drop i) p = qrun (qde w c v u) ls s) ⟨s, rfl, by omega, q_rok ls s s (by omega) ho, rfl⟩ (by omega) (by omega) ?_ ?_
    · rintro i z - hi ⟨p, rfl, p1, p2, p3⟩
      rw [q_drop hi] at p2 p3
      have b1 := qA8_get h8 i
      have st := q_stepX hN5 hw hc hv hu h1 h2 h3 h4 b1 p1 p2.1
      simp (disch := first | omega | assumption) only [f_X9_shortest_b30, q_ksize hs h8 hl, q_klet hs h8 hl hi, st, qn_lit, qn_ofNat, qn_neg1, qn_neg2, nI_add, pk_mul, qn_sub, qn_ltT, qn_ltF, qn_leT, qn_leF, qn_eqT, qn_eqF, qn_m1T, qn_m1F, qn_m1F2, qn_m1lt, qn_m1lt2, qn_m1le, qn_m1le2, qn_and1, qn_and3, qn_and7, qn_and15, qn_and31, qn_and255, qn_and2047, qn_shl, qn_shr, qn_or, qn_div, qn_modlt, Nat.reduceMod, Nat.reduceAdd, Nat.reduceMul, Nat.reducePow, Nat.reduceDiv, Nat.reduceSub, ↓reduceIte, qn_us, qn_un, not_true_eq_false, not_false_eq_true, true_and, and_true, qn_nn, qn_addm, qn_ngT, qn_ngF, qn_ngE, qn_ngE2, qn_ngL, qn_ngM, Nat.add_sub_cancel, qL, qS, qM, qV, qQ, qZ0, qZ1, qE_l, qE_r, qW_some]
      exact ⟨_, rfl, hde p _ p1 b1, p2.2, p3⟩
    · rintro z ⟨p, rfl, p1, p2, p3⟩
      simp (disch := first | omega | assumption) only [f_X9_shortest_b30, q_ksize hs h8 hl, qn_lit, qn_ofNat, qn_neg1, qn_neg2, nI_add, pk_mul, qn_sub, qn_ltT, qn_ltF, qn_leT, qn_leF, qn_eqT, qn_eqF, qn_m1T, qn_m1F, qn_m1F2, qn_m1lt, qn_m1lt2, qn_m1le, qn_m1le2, qn_and1, qn_and3, qn_and7, qn_and15, qn_and31, qn_and255, qn_and2047, qn_shl, qn_shr, qn_or, qn_div, qn_modlt, Nat.reduceMod, Nat.reduceAdd, Nat.reduceMul, Nat.reducePow, Nat.reduceDiv, Nat.reduceSub, ↓reduceIte, qn_us, qn_un, not_true_eq_false, not_false_eq_true, true_and, and_true, qn_nn, qn_addm, qn_ngT, qn_ngF, qn_ngE, qn_ngE2, qn_ngL, qn_ngM, Nat.add_sub_cancel, qL, qS, qM, qV, qQ, qZ0, qZ1, qE_l, qE_r, qW_some]
      rw [List.drop_length] at p3
      exact congrArg nI p3
  obtain ⟨e, g1, rfl⟩ := key
  exact g1

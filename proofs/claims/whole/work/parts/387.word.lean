/-! word: both sides take a kin word -/
def qTp (q tl : Nat) (xb R_size R_tape : Nat → Int32) : Prop := tl ≤ 400 ∧ R_size q = nI tl ∧ (∀ i, i < 400 → (xb i).toInt8.toInt32 = xb i) ∧ ∀ i, i < tl → R_tape (400 * q + i) = xb i
theorem upd_o {f : Nat → Int32} {a : Int32} {i : Nat} (hi : 1 ≤ i) : upd f 0 a i = f i := if_neg (by omega)
theorem qTp_0 {q : Nat} {xb R_size R_tape R_size' : Nat → Int32} {tl : Nat} (h : qTp q tl xb R_size R_tape) (h2 : R_size' q = nI 0) : qTp q 0 xb R_size' R_tape := ⟨by omega, h2, h.2.2.1, fun i hi => absurd hi (by omega)⟩
theorem qlt_le (v : Nat) : qlt v ≤ 8 := by
  unfold qlt
  repeat' split
  all_goals omega
theorem tbd_u {T : Nat → Nat} {x s b c : Nat} (h1 : tbd T x s b) (h2 : ∀ j, j < b → ¬ tbd T x s j) (h3 : tbd T x s c) (h4 : ∀ j, j < c → ¬ tbd T x s j) : b = c := by
  have a1 : ¬ b < c := fun z => h4 b z h1
  have a2 : ¬ c < b := fun z => h2 c z h3
  omega
def qFb (T : Nat → Nat) (x s i : Nat) (F P : Int32) : Prop := (tgd T x s i ∧ F = nI 0 ∧ P = mI) ∨ (∃ b, b < i ∧ tbd T x s b ∧ (∀ j, j < b → ¬ tbd T x s j) ∧ F = nI 2 ∧ P = nI b)
theorem q_readKin {tl x : Nat} {xb : Nat → Int32} {T : Nat → Nat} (hL : tl ≤ 400) (hx : x < 2) (hT : ∀ i, i < tl → qby (xb i) = T i) (a b c d e f g h : Int32) : ∃ r F P S, f_X8_readKin (400, xb) a (nI tl) b c d e f g (nI x) = some (r, F, nI 0, P, nI 0, F, nI tl, P, S) ∧ ((∃ i, i < tl ∧ qlt (T i) = 8 ∧ (∀ j, j < i → qlt (T j) < 8) ∧ r = mI ∧ F = nI 1 ∧ P = nI i) ∨ ((∀ j, j < tl → qlt (T j) < 8) ∧ ((tl = 0 ∧ r = mI ∧ F = nI 1 ∧ P = nI 0) ∨ (0 < tl ∧ tgd T x 0 tl ∧ r = nI (qkn x (tls T 0 tl)) ∧ F = nI 0 ∧ P = mI) ∨ (0 < tl ∧ r = mI ∧ ∃ b, b < tl ∧ tbd T x 0 b ∧ (∀ j, j < b → ¬ tbd T x 0 j) ∧ F = nI 2 ∧ P = nI b)))) := by
  obtain ⟨v0, k1, k2⟩ := q_kin0 (T := T) (s := 0) hx
  have op : f_X5_open (nI tl) c d e f = some (nI 0, nI 0, nI tl, mI) := by simp (disch := first | omega | assumption) only [f_X5_open, qn_lit, qn_ofNat, qn_neg1, qn_neg2, nI_add, pk_mul, qn_sub, qn_ltT, qn_ltF, qn_leT, qn_leF, qn_eqT, qn_eqF, qn_m1T, qn_m1F, qn_m1F2, qn_m1lt, qn_m1lt2, qn_m1le, qn_m1le2, qn_and1, qn_and3, qn_and7, qn_and15, qn_and31, qn_and255, qn_and2047, qn_shl, qn_shr, qn_or, qn_div, qn_modlt, Nat.reduceMod, Nat.reduceAdd, Nat.reduceMul, Nat.reducePow, Nat.reduceDiv, Nat.reduceSub, ↓reduceIte, qn_us, qn_un, not_true_eq_false, not_false_eq_true, true_and, and_true, qn_nn, qn_addm, qn_ngT, qn_ngF, qn_ngE, qn_ngE2, qn_ngL, qn_ngM, Nat.add_sub_cancel, qL, qS, qM, qV, qQ, qZ0, qZ1, qE_l, qE_r, qW_some]
  have loop : qW (f_X8_readKin_l18 (400, xb) a (nI tl) b (nI 0) (nI tl) g (nI 0) mI v0 (nI 0)) (fun z => (∃ i F P v, z = Sum.inl (F, P, v, nI i) ∧ i < tl ∧ qlt (T i) = 8 ∧ ∀ j, j < i → qlt (T j) < 8) ∨ (∃ F P v, z = Sum.inr (F, P, v) ∧ (∀ j, j < tl → qlt (T j) < 8) ∧ qKi T x 0 tl v ∧ qFb T x 0 tl F P)) := by
    unfold f_X8_readKin_l18
    refine qfor 0 tl (fun i z => ∃ F P v, z = (F, P, v, nI i) ∧ (∀ j, j < i → qlt (T j) < 8) ∧ qKi T x 0 i v ∧ qFb T x 0 i F P) ⟨nI 0, mI, v0, rfl, fun j hj => absurd hj (by omega), k2, Or.inl ⟨tgd_0, rfl, rfl⟩⟩ (by omega) (by omega) ?_ ?_
    · rintro i z - hi ⟨F, P, v, rfl, h1, h2, h3⟩
      have hb := q_byteAt (xb := xb) hL hi
      rw [hT i hi] at hb
      have tl2 : T i < 256 := by rw [← hT i hi]; exact qby_lt _
      have lo := q_letterOf tl2
      unfold qle at lo
      by_cases q : qlt (T i) < 8
      · rw [if_pos q] at lo
        have h4 : ∀ j, j < i + 1 → qlt (T j) < 8 := by
          intro j hj
          by_cases e1 : j = i
          · rw [e1]; exact q
          · exact h1 j (by omega)
        obtain ⟨y, y1, y2⟩ := q_withK hx h2 (fun j hj => by rw [Nat.zero_add]; exact h4 j hj)
        rw [Nat.zero_add] at y1
        by_cases gd : tgd T x 0 (i + 1)
        · have y3 : y = nI (qkn x (tls T 0 (i + 1))) := y2.elim (fun z => z.2) (fun z => absurd gd z.1)
          have y4 := qkn_lt (s := x) hx (tls_A8 (T := T) (s := 0) (m := i + 1) (fun j hj => by rw [Nat.zero_add]; exact h4 j hj)) (by rw [tls_len]; exact gd.1)
          have g0 := tgd_succ.mp gd
          rcases h3 with ⟨f1, rfl, rfl⟩ | ⟨b', b1, b2, b3, -⟩
          · rw [y3] at y1
            simp (disch := first | omega | assumption) only [f_X8_readKin_b18, f_X8_readKin_j92, hb, lo, y1, qn_lit, qn_ofNat, qn_neg1, qn_neg2, nI_add, pk_mul, qn_sub, qn_ltT, qn_ltF, qn_leT, qn_leF, qn_eqT, qn_eqF, qn_m1T, qn_m1F, qn_m1F2, qn_m1lt, qn_m1lt2, qn_m1le, qn_m1le2, qn_and1, qn_and3, qn_and7, qn_and15, qn_and31, qn_and255, qn_and2047, qn_shl, qn_shr, qn_or, qn_div, qn_modlt, Nat.reduceMod, Nat.reduceAdd, Nat.reduceMul, Nat.reducePow, Nat.reduceDiv, Nat.reduceSub, ↓reduceIte, qn_us, qn_un, not_true_eq_false, not_false_eq_true, true_and, and_true, qn_nn, qn_addm, qn_ngT, qn_ngF, qn_ngE, qn_ngE2, qn_ngL, qn_ngM, Nat.add_sub_cancel, qL, qS, qM, qV, qQ, qZ0, qZ1, qE_l, qE_r, qW_some]
            refine ⟨_, _, _, rfl, h4, by rw [← y3]; exact y2, Or.inl ⟨gd, rfl, rfl⟩⟩
          · exact absurd b2 (tgd_all.mp g0.1 b' b1)
        · have y3 : y = mI := y2.elim (fun z => absurd z.1 gd) (fun z => z.2)
          subst y3
          rcases h3 with ⟨f1, rfl, rfl⟩ | ⟨b', b1, b2, b3, rfl, rfl⟩
          · have bd : tbd T x 0 i := Classical.byContradiction fun z => gd (tgd_succ.mpr ⟨f1, z⟩)
            simp (disch := first | omega | assumption) only [f_X8_readKin_b18, f_X8_readKin_j92, f_X5_blame, hb, lo, y1, qn_lit, qn_ofNat, qn_neg1, qn_neg2, nI_add, pk_mul, qn_sub, qn_ltT, qn_ltF, qn_leT, qn_leF, qn_eqT, qn_eqF, qn_m1T, qn_m1F, qn_m1F2, qn_m1lt, qn_m1lt2, qn_m1le, qn_m1le2, qn_and1, qn_and3, qn_and7, qn_and15, qn_and31, qn_and255, qn_and2047, qn_shl, qn_shr, qn_or, qn_div, qn_modlt, Nat.reduceMod, Nat.reduceAdd, Nat.reduceMul, Nat.reducePow, Nat.reduceDiv, Nat.reduceSub, ↓reduceIte, qn_us, qn_un, not_true_eq_false, not_false_eq_true, true_and, and_true, qn_nn, qn_addm, qn_ngT, qn_ngF, qn_ngE, qn_ngE2, qn_ngL, qn_ngM, Nat.add_sub_cancel, qL, qS, qM, qV, qQ, qZ0, qZ1, qE_l, qE_r, qW_some]
            exact ⟨_, _, _, rfl, h4, y2, Or.inr ⟨i, by omega, bd, tgd_all.mp f1, rfl, rfl⟩⟩
          · simp (disch := first | omega | assumption) only [f_X8_readKin_b18, f_X8_readKin_j92, f_X5_blame, hb, lo, y1, qn_lit, qn_ofNat, qn_neg1, qn_neg2, nI_add, pk_mul, qn_sub, qn_ltT, qn_ltF, qn_leT, qn_leF, qn_eqT, qn_eqF, qn_m1T, qn_m1F, qn_m1F2, qn_m1lt, qn_m1lt2, qn_m1le, qn_m1le2, qn_and1, qn_and3, qn_and7, qn_and15, qn_and31, qn_and255, qn_and2047, qn_shl, qn_shr, qn_or, qn_div, qn_modlt, Nat.reduceMod, Nat.reduceAdd, Nat.reduceMul, Nat.reducePow, Nat.reduceDiv, Nat.reduceSub, ↓reduceIte, qn_us, qn_un, not_true_eq_false, not_false_eq_true, true_and, and_true, qn_nn, qn_addm, qn_ngT, qn_ngF, qn_ngE, qn_ngE2, qn_ngL, qn_ngM, Nat.add_sub_cancel, qL, qS, qM, qV, qQ, qZ0, qZ1, qE_l, qE_r, qW_some]
            exact ⟨_, _, _, rfl, h4, y2, Or.inr ⟨b', by omega, b2, b3, rfl, rfl⟩⟩
      · rw [if_neg q] at lo
        have q8 : qlt (T i) = 8 := by have := qlt_le (T i); omega
        simp (disch := first | omega | assumption) only [f_X8_readKin_b18, hb, lo, qn_lit, qn_ofNat, qn_neg1, qn_neg2, nI_add, pk_mul, qn_sub, qn_ltT, qn_ltF, qn_leT, qn_leF, qn_eqT, qn_eqF, qn_m1T, qn_m1F, qn_m1F2, qn_m1lt, qn_m1lt2, qn_m1le, qn_m1le2, qn_and1, qn_and3, qn_and7, qn_and15, qn_and31, qn_and255, qn_and2047, qn_shl, qn_shr, qn_or, qn_div, qn_modlt, Nat.reduceMod, Nat.reduceAdd, Nat.reduceMul, Nat.reducePow, Nat.reduceDiv, Nat.reduceSub, ↓reduceIte, qn_us, qn_un, not_true_eq_false, not_false_eq_true, true_and, and_true, qn_nn, qn_addm, qn_ngT, qn_ngF, qn_ngE, qn_ngE2, qn_ngL, qn_ngM, Nat.add_sub_cancel, qL, qS, qM, qV, qQ, qZ0, qZ1, qE_l, qE_r, qW_some]
        exact Or.inl ⟨i, F, P, v, rfl, hi, q8, h1⟩
    · rintro z ⟨F, P, v, rfl, h1, h2, h3⟩
      simp (disch := first | omega | assumption) only [f_X8_readKin_b18, qn_lit, qn_ofNat, qn_neg1, qn_neg2, nI_add, pk_mul, qn_sub, qn_ltT, qn_ltF, qn_leT, qn_leF, qn_eqT, qn_eqF, qn_m1T, qn_m1F, qn_m1F2, qn_m1lt, qn_m1lt2, qn_m1le, qn_m1le2, qn_and1, qn_and3, qn_and7, qn_and15, qn_and31, qn_and255, qn_and2047, qn_shl, qn_shr, qn_or, qn_div, qn_modlt, Nat.reduceMod, Nat.reduceAdd, Nat.reduceMul, Nat.reducePow, Nat.reduceDiv, Nat.reduceSub, ↓reduceIte, qn_us, qn_un, not_true_eq_false, not_false_eq_true, true_and, and_true, qn_nn, qn_addm, qn_ngT, qn_ngF, qn_ngE, qn_ngE2, qn_ngL, qn_ngM, Nat.add_sub_cancel, qL, qS, qM, qV, qQ, qZ0, qZ1, qE_l, qE_r, qW_some]
      exact Or.inr ⟨F, P, v, rfl, h1, h2, h3⟩
  obtain ⟨z, g1, ⟨i, F, P, v, rfl, i1, i2, i3⟩ | ⟨F, P, v, rfl, i1, i2, i3⟩⟩ := loop
  · refine ⟨mI, nI 1, nI i, nI i, ?_, Or.inl ⟨i, i1, i2, i3, rfl, rfl, rfl⟩⟩
    simp (disch := first | omega | assumption) only [f_X8_readKin, f_X8_readKin_j98, f_X8_readKin_j117, f_X5_refuse, f_X5_close, f_X5_close_j22, f_X7_take, op, k1, g1, qn_lit, qn_ofNat, qn_neg1, qn_neg2, nI_add, pk_mul, qn_sub, qn_ltT, qn_ltF, qn_leT, qn_leF, qn_eqT, qn_eqF, qn_m1T, qn_m1F, qn_m1F2, qn_m1lt, qn_m1lt2, qn_m1le, qn_m1le2, qn_and1, qn_and3, qn_and7, qn_and15, qn_and31, qn_and255, qn_and2047, qn_shl, qn_shr, qn_or, qn_div, qn_modlt, Nat.reduceMod, Nat.reduceAdd, Nat.reduceMul, Nat.reducePow, Nat.reduceDiv, Nat.reduceSub, ↓reduceIte, qn_us, qn_un, not_true_eq_false, not_false_eq_true, true_and, and_true, qn_nn, qn_addm, qn_ngT, qn_ngF, qn_ngE, qn_ngE2, qn_ngL, qn_ngM, Nat.add_sub_cancel, qL, qS, qM, qV, qQ, qZ0, qZ1, qE_l, qE_r, qW_some]
  · by_cases t0 : tl = 0
    · subst t0
      rcases i3 with ⟨f1, rfl, rfl⟩ | ⟨b', b1, -⟩
      · refine ⟨mI, nI 1, nI 0, g, ?_, Or.inr ⟨i1, Or.inl ⟨rfl, rfl, rfl, rfl⟩⟩⟩
        simp (disch := first | omega | assumption) only [f_X8_readKin, f_X8_readKin_j98, f_X8_readKin_j117, f_X5_blame, f_X5_close, f_X5_close_j22, f_X7_take, op, k1, g1, qn_lit, qn_ofNat, qn_neg1, qn_neg2, nI_add, pk_mul, qn_sub, qn_ltT, qn_ltF, qn_leT, qn_leF, qn_eqT, qn_eqF, qn_m1T, qn_m1F, qn_m1F2, qn_m1lt, qn_m1lt2, qn_m1le, qn_m1le2, qn_and1, qn_and3, qn_and7, qn_and15, qn_and31, qn_and255, qn_and2047, qn_shl, qn_shr, qn_or, qn_div, qn_modlt, Nat.reduceMod, Nat.reduceAdd, Nat.reduceMul, Nat.reducePow, Nat.reduceDiv, Nat.reduceSub, ↓reduceIte, qn_us, qn_un, not_true_eq_false, not_false_eq_true, true_and, and_true, qn_nn, qn_addm, qn_ngT, qn_ngF, qn_ngE, qn_ngE2, qn_ngL, qn_ngM, Nat.add_sub_cancel, qL, qS, qM, qV, qQ, qZ0, qZ1, qE_l, qE_r, qW_some]
      · exact absurd b1 (by omega)
    · rcases i3 with ⟨f1, rfl, rfl⟩ | ⟨b', b1, b2, b3, rfl, rfl⟩
      · rcases i2 with ⟨j1, rfl⟩ | ⟨j1, -⟩
        · refine ⟨_, nI 0, mI, g, ?_, Or.inr ⟨i1, Or.inr (Or.inl ⟨by omega, f1, rfl, rfl, rfl⟩)⟩⟩
          simp (disch := first | omega | assumption) only [f_X8_readKin, f_X8_readKin_j98, f_X8_readKin_j117, f_X5_blame, f_X5_close, f_X5_close_j22, f_X7_take, op, k1, g1, qn_lit, qn_ofNat, qn_neg1, qn_neg2, nI_add, pk_mul, qn_sub, qn_ltT, qn_ltF, qn_leT, qn_leF, qn_eqT, qn_eqF, qn_m1T, qn_m1F, qn_m1F2, qn_m1lt, qn_m1lt2, qn_m1le, qn_m1le2, qn_and1, qn_and3, qn_and7, qn_and15, qn_and31, qn_and255, qn_and2047, qn_shl, qn_shr, qn_or, qn_div, qn_modlt, Nat.reduceMod, Nat.reduceAdd, Nat.reduceMul, Nat.reducePow, Nat.reduceDiv, Nat.reduceSub, ↓reduceIte, qn_us, qn_un, not_true_eq_false, not_false_eq_true, true_and, and_true, qn_nn, qn_addm, qn_ngT, qn_ngF, qn_ngE, qn_ngE2, qn_ngL, qn_ngM, Nat.add_sub_cancel, qL, qS, qM, qV, qQ, qZ0, qZ1, qE_l, qE_r, qW_some]
        · exact absurd f1 j1
      · refine ⟨mI, nI 2, nI b', g, ?_, Or.inr ⟨i1, Or.inr (Or.inr ⟨by omega, rfl, b', b1, b2, b3, rfl, rfl⟩)⟩⟩
        simp (disch := first | omega | assumption) only [f_X8_readKin, f_X8_readKin_j98, f_X8_readKin_j117, f_X5_blame, f_X5_close, f_X5_close_j22, f_X7_take, op, k1, g1, qn_lit, qn_ofNat, qn_neg1, qn_neg2, nI_add, pk_mul, qn_sub, qn_ltT, qn_ltF, qn_leT, qn_leF, qn_eqT, qn_eqF, qn_m1T, qn_m1F, qn_m1F2, qn_m1lt, qn_m1lt2, qn_m1le, qn_m1le2, qn_and1, qn_and3, qn_and7, qn_and15, qn_and31, qn_and255, qn_and2047, qn_shl, qn_shr, qn_or, qn_div, qn_modlt, Nat.reduceMod, Nat.reduceAdd, Nat.reduceMul, Nat.reducePow, Nat.reduceDiv, Nat.reduceSub, ↓reduceIte, qn_us, qn_un, not_true_eq_false, not_false_eq_true, true_and, and_true, qn_nn, qn_addm, qn_ngT, qn_ngF, qn_ngE, qn_ngE2, qn_ngL, qn_ngM, Nat.add_sub_cancel, qL, qS, qM, qV, qQ, qZ0, qZ1, qE_l, qE_r, qW_some]
theorem qn_neg2T : (mJ = mI) = False := eq_false (by decide)
/-- the reference spells the tape -/
theorem q_spell {tl : Nat} {rt sp : Nat → Int32} {T : Nat → Nat} (hL : tl ≤ 400) (hT : ∀ i, i < tl → qby (rt i) = T i) (hB : ∀ i, i < tl → (rt i).toInt8.toInt32 = rt i) (a : Int32) (b c d e f g h : jA) (x : Int32) : qW (f_X12_word_l58 (1600, rt) a b c d e f g h x (nI tl) (400, sp) (nI 0)) (fun z => (∃ i sp', z = Sum.inl ((400, sp'), nI i) ∧ i < tl ∧ qlt (T i) = 8 ∧ ∀ j, j < i → qlt (T j) < 8) ∨ (∃ sp', z = Sum.inr (400, sp') ∧ ∀ j, j < tl → qlt (T j) < 8 ∧ sp' j = nI (qlt (T j)))) := by
  unfold f_X12_word_l58
  refine qfor 0 tl (fun i z => ∃ sp', z = ((400, sp'), nI i) ∧ ∀ j, j < i → qlt (T j) < 8 ∧ sp' j = nI (qlt (T j))) ⟨sp, rfl, fun j hj => absurd hj (by omega)⟩ (by omega) (by omega) ?_ ?_
  · rintro i z - hi ⟨sp', rfl, h1⟩
    have lo := q_letterOfR (hB i hi) (hT i hi)
    unfold qle at lo
    by_cases q : qlt (T i) < 8
    · rw [if_pos q] at lo
      have nr := q_nar (l := qlt (T i)) (by omega)
      simp (disch := first | omega | assumption) only [f_X12_word_b58, lo, nr, qn_lit, qn_ofNat, qn_neg1, qn_neg2, nI_add, pk_mul, qn_sub, qn_ltT, qn_ltF, qn_leT, qn_leF, qn_eqT, qn_eqF, qn_m1T, qn_m1F, qn_m1F2, qn_m1lt, qn_m1lt2, qn_m1le, qn_m1le2, qn_and1, qn_and3, qn_and7, qn_and15, qn_and31, qn_and255, qn_and2047, qn_shl, qn_shr, qn_or, qn_div, qn_modlt, Nat.reduceMod, Nat.reduceAdd, Nat.reduceMul, Nat.reducePow, Nat.reduceDiv, Nat.reduceSub, ↓reduceIte, qn_us, qn_un, not_true_eq_false, not_false_eq_true, true_and, and_true, qn_nn, qn_addm, qn_ngT, qn_ngF, qn_ngE, qn_ngE2, qn_ngL, qn_ngM, Nat.add_sub_cancel, qL, qS, qM, qV, qQ, qZ0, qZ1, qE_l, qE_r, qW_some]
      refine ⟨_, rfl, fun j hj => ?_⟩
      unfold upd
      by_cases e1 : j = i
      · rw [e1, if_pos rfl]; exact ⟨q, rfl⟩
      · rw [if_neg e1]; exact h1 j (by omega)
    · rw [if_neg q] at lo
      have q8 : qlt (T i) = 8 := by have := qlt_le (T i); omega
      simp (disch := first | omega | assumption) only [f_X12_word_b58, lo, qn_lit, qn_ofNat, qn_neg1, qn_neg2, nI_add, pk_mul, qn_sub, qn_ltT, qn_ltF, qn_leT, qn_leF, qn_eqT, qn_eqF, qn_m1T, qn_m1F, qn_m1F2, qn_m1lt, qn_m1lt2, qn_m1le, qn_m1le2, qn_and1, qn_and3, qn_and7, qn_and15, qn_and31, qn_and255, qn_and2047, qn_shl, qn_shr, qn_or, qn_div, qn_modlt, Nat.reduceMod, Nat.reduceAdd, Nat.reduceMul, Nat.reducePow, Nat.reduceDiv, Nat.reduceSub, ↓reduceIte, qn_us, qn_un, not_true_eq_false, not_false_eq_true, true_and, and_true, qn_nn, qn_addm, qn_ngT, qn_ngF, qn_ngE, qn_ngE2, qn_ngL, qn_ngM, Nat.add_sub_cancel, qL, qS, qM, qV, qQ, qZ0, qZ1, qE_l, qE_r, qW_some]
      exact Or.inl ⟨i, sp', rfl, hi, q8, fun j hj => (h1 j hj).1⟩
  · rintro z ⟨sp', rfl, h1⟩
    simp (disch := first | omega | assumption) only [f_X12_word_b58, qn_lit, qn_ofNat, qn_neg1, qn_neg2, nI_add, pk_mul, qn_sub, qn_ltT, qn_ltF, qn_leT, qn_leF, qn_eqT, qn_eqF, qn_m1T, qn_m1F, qn_m1F2, qn_m1lt, qn_m1lt2, qn_m1le, qn_m1le2, qn_and1, qn_and3, qn_and7, qn_and15, qn_and31, qn_and255, qn_and2047, qn_shl, qn_shr, qn_or, qn_div, qn_modlt, Nat.reduceMod, Nat.reduceAdd, Nat.reduceMul, Nat.reducePow, Nat.reduceDiv, Nat.reduceSub, ↓reduceIte, qn_us, qn_un, not_true_eq_false, not_false_eq_true, true_and, and_true, qn_nn, qn_addm, qn_ngT, qn_ngF, qn_ngE, qn_ngE2, qn_ngL, qn_ngM, Nat.add_sub_cancel, qL, qS, qM, qV, qQ, qZ0, qZ1, qE_l, qE_r, qW_some]
    exact Or.inr ⟨sp', rfl, h1⟩
/-- the reference lays the letters -/
theorem q_layW {m k : Nat} {sp wl : Nat → Int32} {T : Nat → Nat} (hm : m ≤ 8) (hk : k < 8) (hs : ∀ j, j < m → qlt (T j) < 8 ∧ sp j = nI (qlt (T j))) (a : Int32) (b c d : jA) (f g h : jA) : ∃ wl', f_X12_word_l173 a b c d (400, sp) f g h (nI m) (nI k) (256, wl) (nI 0) = some (256, wl') ∧ (∀ j, j < m → wl' (8 * k + j) = nI (qlt (T j))) ∧ ∀ i, (i < 8 * k ∨ 8 * k + m ≤ i) → wl' i = wl i := by
  have loop : qW (f_X12_word_l173 a b c d (400, sp) f g h (nI m) (nI k) (256, wl) (nI 0)) (fun z => ∃ wl', z = (256, wl') ∧ (∀ j, j < m → wl' (8 * k + j) = nI (qlt (T j))) ∧ ∀ i, (i < 8 * k ∨ 8 * k + m ≤ i) → wl' i = wl i) := by
    unfold f_X12_word_l173
    refine qfor 0 m (fun i z => ∃ wl', z = ((256, wl'), nI i) ∧ (∀ j, j < i → wl' (8 * k + j) = nI (qlt (T j))) ∧ ∀ j, (j < 8 * k ∨ 8 * k + i ≤ j) → wl' j = wl j) ⟨wl, rfl, fun j hj => absurd hj (by omega), fun j _ => rfl⟩ (by omega) (by omega) ?_ ?_
    · rintro i z - hi ⟨wl', rfl, h1, h2⟩
      obtain ⟨s1, s2⟩ := hs i hi
      have nr := q_nar (l := qlt (T i)) (by omega)
      simp (disch := first | omega | assumption) only [f_X12_word_b173, s2, nr, qn_lit, qn_ofNat, qn_neg1, qn_neg2, nI_add, pk_mul, qn_sub, qn_ltT, qn_ltF, qn_leT, qn_leF, qn_eqT, qn_eqF, qn_m1T, qn_m1F, qn_m1F2, qn_m1lt, qn_m1lt2, qn_m1le, qn_m1le2, qn_and1, qn_and3, qn_and7, qn_and15, qn_and31, qn_and255, qn_and2047, qn_shl, qn_shr, qn_or, qn_div, qn_modlt, Nat.reduceMod, Nat.reduceAdd, Nat.reduceMul, Nat.reducePow, Nat.reduceDiv, Nat.reduceSub, ↓reduceIte, qn_us, qn_un, not_true_eq_false, not_false_eq_true, true_and, and_true, qn_nn, qn_addm, qn_ngT, qn_ngF, qn_ngE, qn_ngE2, qn_ngL, qn_ngM, Nat.add_sub_cancel, qL, qS, qM, qV, qQ, qZ0, qZ1, qE_l, qE_r, qW_some]
      refine ⟨_, rfl, fun j hj => ?_, fun j hj => ?_⟩
      · unfold upd
        by_cases e1 : j = i
        · rw [e1, if_pos rfl]
        · rw [if_neg (by omega)]; exact h1 j (by omega)
      · unfold upd
        rw [if_neg (by omega)]
        exact h2 j (by omega)
    · rintro z ⟨wl', rfl, h1, h2⟩
      simp (disch := first | omega | assumption) only [f_X12_word_b173, qn_lit, qn_ofNat, qn_neg1, qn_neg2, nI_add, pk_mul, qn_sub, qn_ltT, qn_ltF, qn_leT, qn_leF, qn_eqT, qn_eqF, qn_m1T, qn_m1F, qn_m1F2, qn_m1lt, qn_m1lt2, qn_m1le, qn_m1le2, qn_and1, qn_and3, qn_and7, qn_and15, qn_and31, qn_and255, qn_and2047, qn_shl, qn_shr, qn_or, qn_div, qn_modlt, Nat.reduceMod, Nat.reduceAdd, Nat.reduceMul, Nat.reducePow, Nat.reduceDiv, Nat.reduceSub, ↓reduceIte, qn_us, qn_un, not_true_eq_false, not_false_eq_true, true_and, and_true, qn_nn, qn_addm, qn_ngT, qn_ngF, qn_ngE, qn_ngE2, qn_ngL, qn_ngM, Nat.add_sub_cancel, qL, qS, qM, qV, qQ, qZ0, qZ1, qE_l, qE_r, qW_some]
      exact ⟨wl', rfl, h1, h2⟩
  obtain ⟨z, g1, wl', rfl, g2, g3⟩ := loop
  exact ⟨wl', g1, g2, g3⟩
theorem q_isSexT {s : Nat} (h : s < 2) : f_X11_isSex (nI s) = some (nI 1) := by
  have : s = 0 ∨ s = 1 := by omega
  rcases this with rfl | rfl <;> decide +kernel
theorem q_isSexF {x : Int32} (g : qOut 2 x) : f_X11_isSex x = some (nI 0) := X11_isSex_no (by
  rintro rfl
  have := q_has_in (c := 2) (j := 0) (by decide) (by decide)
  rw [show nI 0 = (0 : Int32) from rfl, q_has_out (by decide) g] at this
  exact absurd (Option.some.inj this) (by decide)) (by
  rintro rfl
  have := q_has_in (c := 2) (j := 1) (by decide) (by decide)
  rw [show nI 1 = (1 : Int32) from rfl, q_has_out (by decide) g] at this
  exact absurd (Option.some.inj this) (by decide))
theorem q_word {xt_bytes : Nat → Int32} {wc : Nat} {xt_fault : Int32} {tl : Nat} {xt_place : Int32} {x_words : Nat → Int32} {rd_after : Int32} {rd_fault : Int32} {rd_length : Int32} {rd_place : Int32} {rd_start : Int32} {R_tape : Nat → Int32} {R_code : Int32} {R_fault : Nat → Int32} {R_faultPlace : Nat → Int32} {R_size : Nat → Int32} {R_spelled : Nat → Int32} {R_wordLetter : Nat → Int32} {R_wordLong : Nat → Int32} {R_wordSex : Nat → Int32} {R_words : Nat → Int32} {ws : Nat → Nat} {wl : Nat → List Nat} (ht : qTp 0 tl xt_bytes R_size R_tape) (hw : qWd 0 wc ws wl x_words R_words R_wordSex R_wordLong R_wordLetter) (x : Int32) : ∃ r wc' F P x_words' a1 a2 a3 a4 a5 R_fault' R_faultPlace' R_size' R_spelled' R_wordLetter' R_wordLong' R_wordSex' R_words' ws' wl', (f_X11_worda (400, xt_bytes) (nI wc) xt_fault (nI tl) xt_place (8, x_words) rd_after rd_fault rd_length rd_place rd_start x = some (r, nI wc', F, nI 0, P, (8, x_words'), a1, a2, a3, a4, a5) ∨ f_X11_word (400, xt_bytes) (nI wc) xt_fault (nI tl) xt_place (8, x_words) rd_after rd_fault rd_length rd_place rd_start x = some (r, nI wc', F, nI 0, P, (8, x_words'), a1, a2, a3, a4, a5)) ∧ f_X12_word (1600, R_tape) R_code (4, R_fault) (4, R_faultPlace) (4, R_size) (400, R_spelled) (256, R_wordLetter) (32, R_wordLong) (32, R_wordSex) (4, R_words) x = some (r, nI 0, (4, R_fault'), (4, R_faultPlace'), (4, R_size'), (400, R_spelled'), (256, R_wordLetter'), (32, R_wordLong'), (32, R_wordSex'), (4, R_words')) ∧ R_fault' 0 = F ∧ R_faultPlace' 0 = P ∧ R_size' 0 = nI 0 ∧ qWd 0 wc' ws' wl' x_words' R_words' R_wordSex' R_wordLong' R_wordLetter' ∧ (∀ i, 1 ≤ i → R_fault' i = R_fault i ∧ R_faultPlace' i = R_faultPlace i ∧ R_size' i = R_size i ∧ R_words' i = R_words i) ∧ (∀ i, 8 ≤ i → R_wordLong' i = R_wordLong i ∧ R_wordSex' i = R_wordSex i) ∧ ∀ i, 64 ≤ i → R_wordLetter' i = R_wordLetter i := by
  obtain ⟨t1, t2, t3, t4⟩ := ht
  obtain ⟨w1, w2, w3⟩ := id hw
  simp only [Nat.mul_zero, Nat.zero_add] at t4
  refine Classical.byContradiction fun hne => ?_
  have refd : f_X11_worda (400, xt_bytes) (nI wc) xt_fault (nI tl) xt_place (8, x_words) rd_after rd_fault rd_length rd_place rd_start x = some (mJ, nI wc, nI 0, nI 0, mI, (8, x_words), rd_after, rd_fault, rd_length, rd_place, rd_start) → f_X12_word (1600, R_tape) R_code (4, R_fault) (4, R_faultPlace) (4, R_size) (400, R_spelled) (256, R_wordLetter) (32, R_wordLong) (32, R_wordSex) (4, R_words) x = some (mJ, nI 0, (4, upd R_fault 0 (nI 0)), (4, upd R_faultPlace 0 mI), (4, upd R_size 0 (nI 0)), (400, R_spelled), (256, R_wordLetter), (32, R_wordLong), (32, R_wordSex), (4, R_words)) → False := fun a b => hne ⟨_, wc, nI 0, mI, x_words, _, _, _, _, _, _, _, _, _, _, _, _, _, ws, wl, Or.inl a, b, rfl, rfl, rfl, hw, fun i hi => ⟨upd_o hi, upd_o hi, upd_o hi, rfl⟩, fun i _ => ⟨rfl, rfl⟩, fun i _ => rfl⟩
  have bad : ∀ (F P a1 a2 a3 a4 a5 : Int32) (sp : Nat → Int32), f_X11_word (400, xt_bytes) (nI wc) xt_fault (nI tl) xt_place (8, x_words) rd_after rd_fault rd_length rd_place rd_start x = some (mI, nI wc, F, nI 0, P, (8, x_words), a1, a2, a3, a4, a5) → f_X12_word (1600, R_tape) R_code (4, R_fault) (4, R_faultPlace) (4, R_size) (400, R_spelled) (256, R_wordLetter) (32, R_wordLong) (32, R_wordSex) (4, R_words) x = some (mI, nI 0, (4, upd R_fault 0 F), (4, upd R_faultPlace 0 P), (4, upd R_size 0 (nI 0)), (400, sp), (256, R_wordLetter), (32, R_wordLong), (32, R_wordSex), (4, R_words)) → False := fun F P a1 a2 a3 a4 a5 sp a b => hne ⟨_, wc, F, P, x_words, _, _, _, _, _, _, _, _, _, _, _, _, _, ws, wl, Or.inr a, b, rfl, rfl, rfl, hw, fun i hi => ⟨upd_o hi, upd_o hi, upd_o hi, rfl⟩, fun i _ => ⟨rfl, rfl⟩, fun i _ => rfl⟩
  rcases qn_inout x 2 with ⟨s, s1, s2, rfl⟩ | g
  · have is := q_isSexT s1
    have ir := q_in_T (x := s) (y := 0) (z := 1) (by omega) (by omega) (by decide)
    by_cases c8 : wc = 8
    · subst c8
      refine refd ?_ ?_
      · simp (disch := first | omega | assumption) only [f_X11_worda, f_X11_worda_j19, f_X7_take, is, qn_lit, qn_ofNat, qn_neg1, qn_neg2, nI_add, pk_mul, qn_sub, qn_ltT, qn_ltF, qn_leT, qn_leF, qn_eqT, qn_eqF, qn_m1T, qn_m1F, qn_m1F2, qn_m1lt, qn_m1lt2, qn_m1le, qn_m1le2, qn_and1, qn_and3, qn_and7, qn_and15, qn_and31, qn_and255, qn_and2047, qn_shl, qn_shr, qn_or, qn_div, qn_modlt, Nat.reduceMod, Nat.reduceAdd, Nat.reduceMul, Nat.reducePow, Nat.reduceDiv, Nat.reduceSub, ↓reduceIte, qn_us, qn_un, not_true_eq_false, not_false_eq_true, true_and, and_true, qn_nn, qn_addm, qn_ngT, qn_ngF, qn_ngE, qn_ngE2, qn_ngL, qn_ngM, Nat.add_sub_cancel, qL, qS, qM, qV, qQ, qZ0, qZ1, qE_l, qE_r, qW_some]
      · simp (disch := first | omega | assumption) only [f_X12_word, w2, t2, qn_lit, qn_ofNat, qn_neg1, qn_neg2, nI_add, pk_mul, qn_sub, qn_ltT, qn_ltF, qn_leT, qn_leF, qn_eqT, qn_eqF, qn_m1T, qn_m1F, qn_m1F2, qn_m1lt, qn_m1lt2, qn_m1le, qn_m1le2, qn_and1, qn_and3, qn_and7, qn_and15, qn_and31, qn_and255, qn_and2047, qn_shl, qn_shr, qn_or, qn_div, qn_modlt, Nat.reduceMod, Nat.reduceAdd, Nat.reduceMul, Nat.reducePow, Nat.reduceDiv, Nat.reduceSub, ↓reduceIte, qn_us, qn_un, not_true_eq_false, not_false_eq_true, true_and, and_true, qn_nn, qn_addm, qn_ngT, qn_ngF, qn_ngE, qn_ngE2, qn_ngL, qn_ngM, Nat.add_sub_cancel, qL, qS, qM, qV, qQ, qZ0, qZ1, qE_l, qE_r, qW_some]
    · have wc8 : wc < 8 := by omega
      obtain ⟨T, hT0⟩ : ∃ T : Nat → Nat, ∀ i, qby (xt_bytes i) = T i := ⟨fun i => qby (xt_bytes i), fun i => rfl⟩
      have hT1 : ∀ i, i < tl → qby (xt_bytes i) = T i := fun i _ => hT0 i
      have hT2 : ∀ i, i < tl → qby (R_tape i) = T i := fun i hi => by rw [t4 i hi]; exact hT0 i
      have hB2 : ∀ i, i < tl → (R_tape i).toInt8.toInt32 = R_tape i := fun i hi => by rw [t4 i hi]; exact t3 i (by omega)
      obtain ⟨r, F, P, S, k1, k2⟩ := q_readKin (T := T) t1 s1 hT1 xt_fault xt_place rd_after rd_fault rd_length rd_place rd_start rd_start
      obtain ⟨z, y1, y2⟩ := q_spell (sp := R_spelled) (T := T) t1 hT2 hB2 (nI 0) (4, upd R_fault 0 (nI 0)) (4, upd R_faultPlace 0 mI) (4, upd R_size 0 (nI 0)) (256, R_wordLetter) (32, R_wordLong) (32, R_wordSex) (4, R_words) (nI s)
      have isr : ∀ r : Int32, r = mI → f_X11_word (400, xt_bytes) (nI wc) xt_fault (nI tl) xt_place (8, x_words) rd_after rd_fault rd_length rd_place rd_start (nI s) = some (mI, nI wc, F, nI 0, P, (8, x_words), nI 0, F, nI tl, P, S) ∨ ¬ f_X8_readKin (400, xt_bytes) xt_fault (nI tl) xt_place rd_after rd_fault rd_length rd_place rd_start (nI s) = some (r, F, nI 0, P, nI 0, F, nI tl, P, S) := by
        rintro _ rfl
        refine Classical.or_iff_not_imp_right.mpr fun n => ?_
        have n2 := Classical.not_not.mp n
        simp (disch := first | omega | assumption) only [f_X11_word, is, n2, qn_lit, qn_ofNat, qn_neg1, qn_neg2, nI_add, pk_mul, qn_sub, qn_ltT, qn_ltF, qn_leT, qn_leF, qn_eqT, qn_eqF, qn_m1T, qn_m1F, qn_m1F2, qn_m1lt, qn_m1lt2, qn_m1le, qn_m1le2, qn_and1, qn_and3, qn_and7, qn_and15, qn_and31, qn_and255, qn_and2047, qn_shl, qn_shr, qn_or, qn_div, qn_modlt, Nat.reduceMod, Nat.reduceAdd, Nat.reduceMul, Nat.reducePow, Nat.reduceDiv, Nat.reduceSub, ↓reduceIte, qn_us, qn_un, not_true_eq_false, not_false_eq_true, true_and, and_true, qn_nn, qn_addm, qn_ngT, qn_ngF, qn_ngE, qn_ngE2, qn_ngL, qn_ngM, Nat.add_sub_cancel, qL, qS, qM, qV, qQ, qZ0, qZ1, qE_l, qE_r, qW_some]
      rcases y2 with ⟨i, sp', rfl, i1, i2, i3⟩ | ⟨sp', rfl, i1⟩
      · rcases k2 with ⟨i', j1, j2, j3, rfl, rfl, rfl⟩ | ⟨j1, -⟩
        · have : i = i' := by
            have a1 : ¬ i < i' := fun z => by have := j3 i z; omega
            have a2 : ¬ i' < i := fun z => by have := i3 i' z; omega
            omega
          subst this
          refine bad _ _ _ _ _ _ _ sp' ((isr mI rfl).resolve_right (fun n => n k1)) ?_
          simp (disch := first | omega | assumption) only [f_X12_word, f_X12_fails, w2, t2, ir, y1, upd_upd, qn_lit, qn_ofNat, qn_neg1, qn_neg2, nI_add, pk_mul, qn_sub, qn_ltT, qn_ltF, qn_leT, qn_leF, qn_eqT, qn_eqF, qn_m1T, qn_m1F, qn_m1F2, qn_m1lt, qn_m1lt2, qn_m1le, qn_m1le2, qn_and1, qn_and3, qn_and7, qn_and15, qn_and31, qn_and255, qn_and2047, qn_shl, qn_shr, qn_or, qn_div, qn_modlt, Nat.reduceMod, Nat.reduceAdd, Nat.reduceMul, Nat.reducePow, Nat.reduceDiv, Nat.reduceSub, ↓reduceIte, qn_us, qn_un, not_true_eq_false, not_false_eq_true, true_and, and_true, qn_nn, qn_addm, qn_ngT, qn_ngF, qn_ngE, qn_ngE2, qn_ngL, qn_ngM, Nat.add_sub_cancel, qL, qS, qM, qV, qQ, qZ0, qZ1, qE_l, qE_r, qW_some]
        · exact absurd i2 (by have := j1 i i1; omega)
      · rcases k2 with ⟨i', j1, j2, -⟩ | ⟨j1, k2⟩
        · exact absurd j2 (by have := (i1 i' j1).1; omega)
        · rcases k2 with ⟨rfl, rfl, rfl, rfl⟩ | ⟨p1, p2, rfl, rfl, rfl⟩ | ⟨p1, rfl, b, b1, b2, b3, rfl, rfl⟩
          · refine bad _ _ _ _ _ _ _ sp' ((isr mI rfl).resolve_right (fun n => n k1)) ?_
            simp (disch := first | omega | assumption) only [f_X12_word, f_X12_fails, w2, t2, ir, y1, upd_upd, qn_lit, qn_ofNat, qn_neg1, qn_neg2, nI_add, pk_mul, qn_sub, qn_ltT, qn_ltF, qn_leT, qn_leF, qn_eqT, qn_eqF, qn_m1T, qn_m1F, qn_m1F2, qn_m1lt, qn_m1lt2, qn_m1le, qn_m1le2, qn_and1, qn_and3, qn_and7, qn_and15, qn_and31, qn_and255, qn_and2047, qn_shl, qn_shr, qn_or, qn_div, qn_modlt, Nat.reduceMod, Nat.reduceAdd, Nat.reduceMul, Nat.reducePow, Nat.reduceDiv, Nat.reduceSub, ↓reduceIte, qn_us, qn_un, not_true_eq_false, not_false_eq_true, true_and, and_true, qn_nn, qn_addm, qn_ngT, qn_ngF, qn_ngE, qn_ngE2, qn_ngL, qn_ngM, Nat.add_sub_cancel, qL, qS, qM, qV, qQ, qZ0, qZ1, qE_l, qE_r, qW_some]
          · rcases q_wrongLetter (T := T) (s := 0) (m := tl) (sp := sp') s1 t1 (fun j hj => by rw [Nat.zero_add]; exact (i1 j hj).1) (fun j hj => by rw [Nat.zero_add]; exact (i1 j hj).2) with ⟨b, b1, -, b2, -⟩ | ⟨wl1, -⟩
            · exact absurd b2 (tgd_all.mp p2 b b1)
            · have tl8 : tl ≤ 8 := p2.1
              have A8 := tls_A8 (T := T) (s := 0) (m := tl) (fun j hj => by rw [Nat.zero_add]; exact j1 j hj)
              have kl := qkn_lt (s := s) s1 A8 (by rw [tls_len]; exact tl8)
              obtain ⟨wl', l1, l2, l3⟩ := q_layW (k := wc) (m := tl) (sp := sp') (wl := R_wordLetter) (T := T) tl8 (by omega) i1 (nI 0) (4, upd R_fault 0 (nI 0)) (4, upd R_faultPlace 0 mI) (4, upd R_size 0 (nI 0)) (32, upd R_wordLong wc (nI tl)) (32, upd R_wordSex wc (nI s)) (4, upd R_words 0 (nI (wc + 1)))
              refine hne ⟨nI wc, wc + 1, nI 0, mI, upd x_words wc (nI (qkn s (tls T 0 tl))), nI 0, nI 0, nI tl, mI, S, upd R_fault 0 (nI 0), upd R_faultPlace 0 mI, upd R_size 0 (nI 0), sp', wl', upd R_wordLong wc (nI tl), upd R_wordSex wc (nI s), upd R_words 0 (nI (wc + 1)), fun k => if k = wc then s else ws k, fun k => if k = wc then tls T 0 tl else wl k, Or.inr ?_, ?_, rfl, rfl, rfl, ⟨by omega, rfl, ?_⟩, fun i hi => ⟨upd_o hi, upd_o hi, upd_o hi, upd_o hi⟩, ?_, ?_⟩
              · simp (disch := first | omega | assumption) only [f_X11_word, f_X6_addWord, is, k1, qn_lit, qn_ofNat, qn_neg1, qn_neg2, nI_add, pk_mul, qn_sub, qn_ltT, qn_ltF, qn_leT, qn_leF, qn_eqT, qn_eqF, qn_m1T, qn_m1F, qn_m1F2, qn_m1lt, qn_m1lt2, qn_m1le, qn_m1le2, qn_and1, qn_and3, qn_and7, qn_and15, qn_and31, qn_and255, qn_and2047, qn_shl, qn_shr, qn_or, qn_div, qn_modlt, Nat.reduceMod, Nat.reduceAdd, Nat.reduceMul, Nat.reducePow, Nat.reduceDiv, Nat.reduceSub, ↓reduceIte, qn_us, qn_un, not_true_eq_false, not_false_eq_true, true_and, and_true, qn_nn, qn_addm, qn_ngT, qn_ngF, qn_ngE, qn_ngE2, qn_ngL, qn_ngM, Nat.add_sub_cancel, qL, qS, qM, qV, qQ, qZ0, qZ1, qE_l, qE_r, qW_some, Nat.add_sub_cancel]
              · simp (disch := first | omega | assumption) only [f_X12_word, w2, t2, ir, y1, wl1, l1, qn_lit, qn_ofNat, qn_neg1, qn_neg2, nI_add, pk_mul, qn_sub, qn_ltT, qn_ltF, qn_leT, qn_leF, qn_eqT, qn_eqF, qn_m1T, qn_m1F, qn_m1F2, qn_m1lt, qn_m1lt2, qn_m1le, qn_m1le2, qn_and1, qn_and3, qn_and7, qn_and15, qn_and31, qn_and255, qn_and2047, qn_shl, qn_shr, qn_or, qn_div, qn_modlt, Nat.reduceMod, Nat.reduceAdd, Nat.reduceMul, Nat.reducePow, Nat.reduceDiv, Nat.reduceSub, ↓reduceIte, qn_us, qn_un, not_true_eq_false, not_false_eq_true, true_and, and_true, qn_nn, qn_addm, qn_ngT, qn_ngF, qn_ngE, qn_ngE2, qn_ngL, qn_ngM, Nat.add_sub_cancel, qL, qS, qM, qV, qQ, qZ0, qZ1, qE_l, qE_r, qW_some]
              · intro k hk
                simp only [Nat.mul_zero, Nat.zero_add]
                unfold upd
                by_cases e1 : k = wc
                · subst e1
                  simp only [if_true]
                  refine ⟨s1, A8, by rw [tls_len]; exact p1, by rw [tls_len]; exact tl8, p2.2, trivial, trivial, by rw [tls_len], fun j hj => ?_⟩
                  rw [tls_len] at hj
                  rw [l2 j hj, tls_get hj, Nat.zero_add]
                · simp only [if_neg e1]
                  obtain ⟨g1, g2, g3, g4, g5, g6, g7, g8, g9⟩ := w3 k (by omega)
                  simp only [Nat.mul_zero, Nat.zero_add] at g7 g8 g9
                  refine ⟨g1, g2, g3, g4, g5, g6, g7, g8, fun j hj => ?_⟩
                  rw [l3 _ (by omega)]
                  exact g9 j hj
              · intro i hi
                unfold upd
                rw [if_neg (by omega), if_neg (by omega)]
                exact ⟨rfl, rfl⟩
              · intro i hi
                exact l3 i (by omega)
          · rcases q_wrongLetter (T := T) (s := 0) (m := tl) (sp := sp') s1 t1 (fun j hj => by rw [Nat.zero_add]; exact (i1 j hj).1) (fun j hj => by rw [Nat.zero_add]; exact (i1 j hj).2) with ⟨b', b1', wl1, b2', b3'⟩ | ⟨-, p2⟩
            · have := tbd_u b2 b3 b2' b3'
              subst this
              refine bad _ _ _ _ _ _ _ sp' ((isr mI rfl).resolve_right (fun n => n k1)) ?_
              simp (disch := first | omega | assumption) only [f_X12_word, f_X12_fails, w2, t2, ir, y1, wl1, upd_upd, qn_lit, qn_ofNat, qn_neg1, qn_neg2, nI_add, pk_mul, qn_sub, qn_ltT, qn_ltF, qn_leT, qn_leF, qn_eqT, qn_eqF, qn_m1T, qn_m1F, qn_m1F2, qn_m1lt, qn_m1lt2, qn_m1le, qn_m1le2, qn_and1, qn_and3, qn_and7, qn_and15, qn_and31, qn_and255, qn_and2047, qn_shl, qn_shr, qn_or, qn_div, qn_modlt, Nat.reduceMod, Nat.reduceAdd, Nat.reduceMul, Nat.reducePow, Nat.reduceDiv, Nat.reduceSub, ↓reduceIte, qn_us, qn_un, not_true_eq_false, not_false_eq_true, true_and, and_true, qn_nn, qn_addm, qn_ngT, qn_ngF, qn_ngE, qn_ngE2, qn_ngL, qn_ngM, Nat.add_sub_cancel, qL, qS, qM, qV, qQ, qZ0, qZ1, qE_l, qE_r, qW_some]
            · exact absurd b2 (tgd_all.mp p2 b b1)
  · have is := q_isSexF g
    have ir := q_in1_out (c := 2) (by decide) (by decide) g
    simp only [Nat.reduceSub] at ir
    refine refd ?_ ?_
    · simp (disch := first | omega | assumption) only [f_X11_worda, f_X11_worda_j19, f_X7_take, is, qn_lit, qn_ofNat, qn_neg1, qn_neg2, nI_add, pk_mul, qn_sub, qn_ltT, qn_ltF, qn_leT, qn_leF, qn_eqT, qn_eqF, qn_m1T, qn_m1F, qn_m1F2, qn_m1lt, qn_m1lt2, qn_m1le, qn_m1le2, qn_and1, qn_and3, qn_and7, qn_and15, qn_and31, qn_and255, qn_and2047, qn_shl, qn_shr, qn_or, qn_div, qn_modlt, Nat.reduceMod, Nat.reduceAdd, Nat.reduceMul, Nat.reducePow, Nat.reduceDiv, Nat.reduceSub, ↓reduceIte, qn_us, qn_un, not_true_eq_false, not_false_eq_true, true_and, and_true, qn_nn, qn_addm, qn_ngT, qn_ngF, qn_ngE, qn_ngE2, qn_ngL, qn_ngM, Nat.add_sub_cancel, qL, qS, qM, qV, qQ, qZ0, qZ1, qE_l, qE_r, qW_some]
    · by_cases c8 : wc = 8
      · subst c8
        simp (disch := first | omega | assumption) only [f_X12_word, w2, t2, qn_lit, qn_ofNat, qn_neg1, qn_neg2, nI_add, pk_mul, qn_sub, qn_ltT, qn_ltF, qn_leT, qn_leF, qn_eqT, qn_eqF, qn_m1T, qn_m1F, qn_m1F2, qn_m1lt, qn_m1lt2, qn_m1le, qn_m1le2, qn_and1, qn_and3, qn_and7, qn_and15, qn_and31, qn_and255, qn_and2047, qn_shl, qn_shr, qn_or, qn_div, qn_modlt, Nat.reduceMod, Nat.reduceAdd, Nat.reduceMul, Nat.reducePow, Nat.reduceDiv, Nat.reduceSub, ↓reduceIte, qn_us, qn_un, not_true_eq_false, not_false_eq_true, true_and, and_true, qn_nn, qn_addm, qn_ngT, qn_ngF, qn_ngE, qn_ngE2, qn_ngL, qn_ngM, Nat.add_sub_cancel, qL, qS, qM, qV, qQ, qZ0, qZ1, qE_l, qE_r, qW_some]
      · simp (disch := first | omega | assumption) only [f_X12_word, w2, t2, ir, qn_lit, qn_ofNat, qn_neg1, qn_neg2, nI_add, pk_mul, qn_sub, qn_ltT, qn_ltF, qn_leT, qn_leF, qn_eqT, qn_eqF, qn_m1T, qn_m1F, qn_m1F2, qn_m1lt, qn_m1lt2, qn_m1le, qn_m1le2, qn_and1, qn_and3, qn_and7, qn_and15, qn_and31, qn_and255, qn_and2047, qn_shl, qn_shr, qn_or, qn_div, qn_modlt, Nat.reduceMod, Nat.reduceAdd, Nat.reduceMul, Nat.reducePow, Nat.reduceDiv, Nat.reduceSub, ↓reduceIte, qn_us, qn_un, not_true_eq_false, not_false_eq_true, true_and, and_true, qn_nn, qn_addm, qn_ngT, qn_ngF, qn_ngE, qn_ngE2, qn_ngL, qn_ngM, Nat.add_sub_cancel, qL, qS, qM, qV, qQ, qZ0, qZ1, qE_l, qE_r, qW_some]

/-! faults of a law's line -/
theorem q_lawFault {s0 s1 s2 c j : Nat} {F P LF LP : Int32} {A B C : Prop} (hAC : A → ¬ C) (hBC : ¬ A → (B ↔ C)) (h01 : s0 ≤ s1) (h12 : s1 ≤ s2) (h2 : s2 ≤ 400) (hF : qFz s0 F P LF LP) (hc1 : j ≤ 16 → c = j) (hc2 : 16 ≤ j → c = 16) (hc3 : 17 ≤ j → F ≠ nI 0) : ∃ F1 P1 F' P' LF1 LP1 LF2 LP2 LF3 LP3, (c = 16 → f_X5_blame F P (nI 3) (nI s0) = some (F1, P1)) ∧ (c < 16 → F1 = F ∧ P1 = P) ∧ (A → f_X5_blame F1 P1 (nI 2) (nI s1) = some (F', P')) ∧ (¬ A → B → f_X5_blame F1 P1 (nI 2) (nI s2) = some (F', P')) ∧ (¬ A → ¬ B → F' = F1 ∧ P' = P1) ∧ (j = 16 → f_X12_later LF LP (nI 3) (nI s0) = some (LF1, LP1)) ∧ (j ≠ 16 → LF1 = LF ∧ LP1 = LP) ∧ (A → f_X12_later LF1 LP1 (nI 2) (nI s1) = some (LF2, LP2)) ∧ (¬ A → LF2 = LF1 ∧ LP2 = LP1) ∧ (C → f_X12_later LF2 LP2 (nI 2) (nI s2) = some (LF3, LP3)) ∧ (¬ C → LF3 = LF2 ∧ LP3 = LP2) ∧ qFz s2 F' P' LF3 LP3 ∧ (F' = nI 0 → F = nI 0 ∧ j < 16 ∧ ¬ A ∧ ¬ B) := by
  have nb : ∀ f p x y : Nat, 1 ≤ f → f < 100 → f_X5_blame (nI f) (nI p) (nI x) (nI y) = some (nI f, nI p) := by
    intro f p x y h1 h2
    simp (disch := first | omega | assumption) only [f_X5_blame, qn_lit, qn_ofNat, qn_neg1, qn_neg2, nI_add, pk_mul, qn_sub, qn_ltT, qn_ltF, qn_leT, qn_leF, qn_eqT, qn_eqF, qn_m1T, qn_m1F, qn_m1F2, qn_m1lt, qn_m1lt2, qn_m1le, qn_m1le2, qn_and1, qn_and3, qn_and7, qn_and15, qn_and31, qn_and255, qn_and2047, qn_shl, qn_shr, qn_or, qn_div, qn_modlt, Nat.reduceMod, Nat.reduceAdd, Nat.reduceMul, Nat.reducePow, Nat.reduceDiv, Nat.reduceSub, ↓reduceIte, qn_us, qn_un, not_true_eq_false, not_false_eq_true, true_and, and_true, qn_nn, qn_addm, qn_ngT, qn_ngF, qn_ngE, qn_ngE2, qn_ngL, qn_ngM, Nat.add_sub_cancel, qL, qS, qM, qV, qQ, qZ0, qZ1, qE_l, qE_r, qW_some]
  have b0 : ∀ x y : Nat, f_X5_blame (nI 0) mI (nI x) (nI y) = some (nI x, nI y) := by
    intro x y
    simp (disch := first | omega | assumption) only [f_X5_blame, qn_lit, qn_ofNat, qn_neg1, qn_neg2, nI_add, pk_mul, qn_sub, qn_ltT, qn_ltF, qn_leT, qn_leF, qn_eqT, qn_eqF, qn_m1T, qn_m1F, qn_m1F2, qn_m1lt, qn_m1lt2, qn_m1le, qn_m1le2, qn_and1, qn_and3, qn_and7, qn_and15, qn_and31, qn_and255, qn_and2047, qn_shl, qn_shr, qn_or, qn_div, qn_modlt, Nat.reduceMod, Nat.reduceAdd, Nat.reduceMul, Nat.reducePow, Nat.reduceDiv, Nat.reduceSub, ↓reduceIte, qn_us, qn_un, not_true_eq_false, not_false_eq_true, true_and, and_true, qn_nn, qn_addm, qn_ngT, qn_ngF, qn_ngE, qn_ngE2, qn_ngL, qn_ngM, Nat.add_sub_cancel, qL, qS, qM, qV, qQ, qZ0, qZ1, qE_l, qE_r, qW_some]
  rcases hF with ⟨rfl, rfl, rfl⟩ | ⟨f, p, f1, f2, f3, rfl, rfl, rfl, rfl⟩
  · have j16 : j ≤ 16 := Classical.byContradiction fun z => hc3 (by omega) rfl
    have cj := hc1 j16
    subst cj
    by_cases e : c = 16
    · refine ⟨nI 3, nI s0, nI 3, nI s0, nI 3, nI s0, nI 3, nI s0, nI 3, nI s0, fun _ => b0 _ _, fun z => by omega, fun _ => nb 3 s0 2 s1 (by omega) (by omega), fun _ _ => nb 3 s0 2 s2 (by omega) (by omega), fun _ _ => ⟨rfl, rfl⟩, fun _ => q_later1 rfl, fun z => absurd e z, fun _ => q_later2 (by omega) (by omega) h01 (by omega), fun _ => ⟨rfl, rfl⟩, fun _ => q_later2 (by omega) (by omega) (by omega) (by omega), fun _ => ⟨rfl, rfl⟩, Or.inr ⟨3, s0, by omega, by omega, by omega, rfl, rfl, rfl, rfl⟩, fun z => absurd z (by decide)⟩
    · by_cases a : A
      · have nc := hAC a
        exact ⟨nI 0, mI, nI 2, nI s1, nI 0, LP, nI 2, nI s1, nI 2, nI s1, fun z => absurd z e, fun _ => ⟨rfl, rfl⟩, fun _ => b0 _ _, fun z => absurd a z, fun z => absurd a z, fun z => absurd z e, fun _ => ⟨rfl, rfl⟩, fun _ => q_later1 rfl, fun z => absurd a z, fun z => absurd z nc, fun _ => ⟨rfl, rfl⟩, Or.inr ⟨2, s1, by omega, by omega, by omega, rfl, rfl, rfl, rfl⟩, fun z => absurd z (by decide)⟩
      · by_cases b : B
        · have nc := (hBC a).mp b
          exact ⟨nI 0, mI, nI 2, nI s2, nI 0, LP, nI 0, LP, nI 2, nI s2, fun z => absurd z e, fun _ => ⟨rfl, rfl⟩, fun z => absurd z a, fun _ _ => b0 _ _, fun _ z => absurd b z, fun z => absurd z e, fun _ => ⟨rfl, rfl⟩, fun z => absurd z a, fun _ => ⟨rfl, rfl⟩, fun _ => q_later1 rfl, fun z => absurd nc z, Or.inr ⟨2, s2, by omega, by omega, by omega, rfl, rfl, rfl, rfl⟩, fun z => absurd z (by decide)⟩
        · have nc : ¬ C := fun z => b ((hBC a).mpr z)
          exact ⟨nI 0, mI, nI 0, mI, nI 0, LP, nI 0, LP, nI 0, LP, fun z => absurd z e, fun _ => ⟨rfl, rfl⟩, fun z => absurd z a, fun _ z => absurd z b, fun _ _ => ⟨rfl, rfl⟩, fun z => absurd z e, fun _ => ⟨rfl, rfl⟩, fun z => absurd z a, fun _ => ⟨rfl, rfl⟩, fun z => absurd z nc, fun _ => ⟨rfl, rfl⟩, Or.inl ⟨rfl, rfl, rfl⟩, fun _ => ⟨rfl, by omega, a, b⟩⟩
  · exact ⟨nI f, nI p, nI f, nI p, nI f, nI p, nI f, nI p, nI f, nI p, fun _ => nb f p 3 s0 f1 (by omega), fun _ => ⟨rfl, rfl⟩, fun _ => nb f p 2 s1 f1 (by omega), fun _ _ => nb f p 2 s2 f1 (by omega), fun _ _ => ⟨rfl, rfl⟩, fun _ => q_later2 f1 (by omega) f3 (by omega), fun _ => ⟨rfl, rfl⟩, fun _ => q_later2 f1 (by omega) (by omega) (by omega), fun _ => ⟨rfl, rfl⟩, fun _ => q_later2 f1 (by omega) (by omega) (by omega), fun _ => ⟨rfl, rfl⟩, Or.inr ⟨f, p, f1, f2, by omega, rfl, rfl, rfl, rfl⟩, fun z => absurd ((nI_eq (by omega) (by omega)).mp z) (by omega)⟩
/-- what is wrong with the first word, with the second -/
def lwA (T : Nat → Nat) (q s1 m1 : Nat) : Prop := ¬ tgd T 1 s1 m1 ∨ (q ≠ 2 ∧ qto 1 (tls T s1 m1) = 1)
def lwB (T : Nat → Nat) (q s1 m1 s2 m2 : Nat) : Prop := q = 2 ∧ (¬ tgd T 1 s2 m2 ∨ qto 1 (tls T s2 m2) ≠ qto 1 (tls T s1 m1))
theorem q_j142 {T : Nat → Nat} {q s1 m1 s2 m2 : Nat} {v1 v2 cnt A K S F P : Int32} {tf t2 ts : jA} (hq : q < 3) (hv1 : qKi T 1 s1 m1 v1) (hl1 : ∀ j, j < m1 → qlt (T (s1 + j)) < 8) (hv2 : q = 2 → qKi T 1 s2 m2 v2 ∧ ∀ j, j < m2 → qlt (T (s2 + j)) < 8) : (lwA T q s1 m1 → ∀ F' P', f_X5_blame F P (nI 2) (nI s1) = some (F', P') → f_X8_readLine_j142 cnt A F P K S tf t2 ts (nI q) (nI s1) v1 (nI s2) v2 = some (nI 1, cnt, A, F', P', K, S, tf, t2, ts)) ∧ (¬ lwA T q s1 m1 → lwB T q s1 m1 s2 m2 → ∀ F' P', f_X5_blame F P (nI 2) (nI s2) = some (F', P') → f_X8_readLine_j142 cnt A F P K S tf t2 ts (nI q) (nI s1) v1 (nI s2) v2 = some (nI 1, cnt, A, F', P', K, S, tf, t2, ts)) ∧ (¬ lwA T q s1 m1 → ¬ lwB T q s1 m1 s2 m2 → f_X8_readLine_j142 cnt A F P K S tf t2 ts (nI q) (nI s1) v1 (nI s2) v2 = some (nI 1, cnt, A, F, P, K, S, tf, t2, ts)) := by
  have A8 := tls_A8 (T := T) (s := s1) (m := m1) hl1
  have to2 := qto_lt (s := 1) (by decide) (tls T s1 m1)
  rcases hv1 with ⟨g1, rfl⟩ | ⟨g1, rfl⟩
  · have l8 : (tls T s1 m1).length ≤ 8 := by rw [tls_len]; exact g1.1
    have kl := qkn_lt (s := 1) (by decide) A8 l8
    have kt := q_kto (s := 1) (by decide) A8 l8
    by_cases q2 : q = 2
    · subst q2
      have na : ¬ lwA T 2 s1 m1 := fun z => z.elim (fun y => y g1) (fun y => y.1 rfl)
      obtain ⟨hv, hl2⟩ := hv2 rfl
      have A82 := tls_A8 (T := T) (s := s2) (m := m2) hl2
      have to3 := qto_lt (s := 1) (by decide) (tls T s2 m2)
      refine ⟨fun z => absurd z na, fun _ b F' P' bl => ?_, fun _ b => ?_⟩
      · rcases hv with ⟨g2, rfl⟩ | ⟨g2, rfl⟩
        · have l82 : (tls T s2 m2).length ≤ 8 := by rw [tls_len]; exact g2.1
          have kl2 := qkn_lt (s := 1) (by decide) A82 l82
          have kt2 := q_kto (s := 1) (by decide) A82 l82
          have ne := b.2.resolve_left (fun z => z g2)
          simp (disch := first | omega | assumption) only [f_X8_readLine_j142, f_X8_readLine_j173, f_X8_readLine_j197, kt, kt2, bl, qn_lit, qn_ofNat, qn_neg1, qn_neg2, nI_add, pk_mul, qn_sub, qn_ltT, qn_ltF, qn_leT, qn_leF, qn_eqT, qn_eqF, qn_m1T, qn_m1F, qn_m1F2, qn_m1lt, qn_m1lt2, qn_m1le, qn_m1le2, qn_and1, qn_and3, qn_and7, qn_and15, qn_and31, qn_and255, qn_and2047, qn_shl, qn_shr, qn_or, qn_div, qn_modlt, Nat.reduceMod, Nat.reduceAdd, Nat.reduceMul, Nat.reducePow, Nat.reduceDiv, Nat.reduceSub, ↓reduceIte, qn_us, qn_un, not_true_eq_false, not_false_eq_true, true_and, and_true, qn_nn, qn_addm, qn_ngT, qn_ngF, qn_ngE, qn_ngE2, qn_ngL, qn_ngM, Nat.add_sub_cancel, qL, qS, qM, qV, qQ, qZ0, qZ1, qE_l, qE_r, qW_some]
        · simp (disch := first | omega | assumption) only [f_X8_readLine_j142, f_X8_readLine_j173, f_X8_readLine_j197, bl, qn_lit, qn_ofNat, qn_neg1, qn_neg2, nI_add, pk_mul, qn_sub, qn_ltT, qn_ltF, qn_leT, qn_leF, qn_eqT, qn_eqF, qn_m1T, qn_m1F, qn_m1F2, qn_m1lt, qn_m1lt2, qn_m1le, qn_m1le2, qn_and1, qn_and3, qn_and7, qn_and15, qn_and31, qn_and255, qn_and2047, qn_shl, qn_shr, qn_or, qn_div, qn_modlt, Nat.reduceMod, Nat.reduceAdd, Nat.reduceMul, Nat.reducePow, Nat.reduceDiv, Nat.reduceSub, ↓reduceIte, qn_us, qn_un, not_true_eq_false, not_false_eq_true, true_and, and_true, qn_nn, qn_addm, qn_ngT, qn_ngF, qn_ngE, qn_ngE2, qn_ngL, qn_ngM, Nat.add_sub_cancel, qL, qS, qM, qV, qQ, qZ0, qZ1, qE_l, qE_r, qW_some]
      · rcases hv with ⟨g2, rfl⟩ | ⟨g2, rfl⟩
        · have l82 : (tls T s2 m2).length ≤ 8 := by rw [tls_len]; exact g2.1
          have kl2 := qkn_lt (s := 1) (by decide) A82 l82
          have kt2 := q_kto (s := 1) (by decide) A82 l82
          have eq : qto 1 (tls T s2 m2) = qto 1 (tls T s1 m1) := Classical.byContradiction fun z => b ⟨rfl, Or.inr z⟩
          rw [eq] at kt2
          simp (disch := first | omega | assumption) only [f_X8_readLine_j142, f_X8_readLine_j173, kt, kt2, qn_lit, qn_ofNat, qn_neg1, qn_neg2, nI_add, pk_mul, qn_sub, qn_ltT, qn_ltF, qn_leT, qn_leF, qn_eqT, qn_eqF, qn_m1T, qn_m1F, qn_m1F2, qn_m1lt, qn_m1lt2, qn_m1le, qn_m1le2, qn_and1, qn_and3, qn_and7, qn_and15, qn_and31, qn_and255, qn_and2047, qn_shl, qn_shr, qn_or, qn_div, qn_modlt, Nat.reduceMod, Nat.reduceAdd, Nat.reduceMul, Nat.reducePow, Nat.reduceDiv, Nat.reduceSub, ↓reduceIte, qn_us, qn_un, not_true_eq_false, not_false_eq_true, true_and, and_true, qn_nn, qn_addm, qn_ngT, qn_ngF, qn_ngE, qn_ngE2, qn_ngL, qn_ngM, Nat.add_sub_cancel, qL, qS, qM, qV, qQ, qZ0, qZ1, qE_l, qE_r, qW_some]
        · exact absurd ⟨rfl, Or.inl g2⟩ b
    · have nb : ¬ lwB T q s1 m1 s2 m2 := fun z => q2 z.1
      refine ⟨fun a F' P' bl => ?_, fun _ b => absurd b nb, fun a _ => ?_⟩
      · have t1 := (a.resolve_left (fun z => z g1)).2
        rw [t1] at kt
        simp (disch := first | omega | assumption) only [f_X8_readLine_j142, f_X8_readLine_j161, kt, bl, qn_lit, qn_ofNat, qn_neg1, qn_neg2, nI_add, pk_mul, qn_sub, qn_ltT, qn_ltF, qn_leT, qn_leF, qn_eqT, qn_eqF, qn_m1T, qn_m1F, qn_m1F2, qn_m1lt, qn_m1lt2, qn_m1le, qn_m1le2, qn_and1, qn_and3, qn_and7, qn_and15, qn_and31, qn_and255, qn_and2047, qn_shl, qn_shr, qn_or, qn_div, qn_modlt, Nat.reduceMod, Nat.reduceAdd, Nat.reduceMul, Nat.reducePow, Nat.reduceDiv, Nat.reduceSub, ↓reduceIte, qn_us, qn_un, not_true_eq_false, not_false_eq_true, true_and, and_true, qn_nn, qn_addm, qn_ngT, qn_ngF, qn_ngE, qn_ngE2, qn_ngL, qn_ngM, Nat.add_sub_cancel, qL, qS, qM, qV, qQ, qZ0, qZ1, qE_l, qE_r, qW_some]
      · have t0 : qto 1 (tls T s1 m1) = 0 := by
          have : ¬ qto 1 (tls T s1 m1) = 1 := fun z => a (Or.inr ⟨q2, z⟩)
          omega
        rw [t0] at kt
        simp (disch := first | omega | assumption) only [f_X8_readLine_j142, f_X8_readLine_j173, kt, qn_lit, qn_ofNat, qn_neg1, qn_neg2, nI_add, pk_mul, qn_sub, qn_ltT, qn_ltF, qn_leT, qn_leF, qn_eqT, qn_eqF, qn_m1T, qn_m1F, qn_m1F2, qn_m1lt, qn_m1lt2, qn_m1le, qn_m1le2, qn_and1, qn_and3, qn_and7, qn_and15, qn_and31, qn_and255, qn_and2047, qn_shl, qn_shr, qn_or, qn_div, qn_modlt, Nat.reduceMod, Nat.reduceAdd, Nat.reduceMul, Nat.reducePow, Nat.reduceDiv, Nat.reduceSub, ↓reduceIte, qn_us, qn_un, not_true_eq_false, not_false_eq_true, true_and, and_true, qn_nn, qn_addm, qn_ngT, qn_ngF, qn_ngE, qn_ngE2, qn_ngL, qn_ngM, Nat.add_sub_cancel, qL, qS, qM, qV, qQ, qZ0, qZ1, qE_l, qE_r, qW_some]
  · have a : lwA T q s1 m1 := Or.inl g1
    refine ⟨fun _ F' P' bl => ?_, fun z => absurd a z, fun z => absurd a z⟩
    simp (disch := first | omega | assumption) only [f_X8_readLine_j142, f_X8_readLine_j161, bl, qn_lit, qn_ofNat, qn_neg1, qn_neg2, nI_add, pk_mul, qn_sub, qn_ltT, qn_ltF, qn_leT, qn_leF, qn_eqT, qn_eqF, qn_m1T, qn_m1F, qn_m1F2, qn_m1lt, qn_m1lt2, qn_m1le, qn_m1le2, qn_and1, qn_and3, qn_and7, qn_and15, qn_and31, qn_and255, qn_and2047, qn_shl, qn_shr, qn_or, qn_div, qn_modlt, Nat.reduceMod, Nat.reduceAdd, Nat.reduceMul, Nat.reducePow, Nat.reduceDiv, Nat.reduceSub, ↓reduceIte, qn_us, qn_un, not_true_eq_false, not_false_eq_true, true_and, and_true, qn_nn, qn_addm, qn_ngT, qn_ngF, qn_ngE, qn_ngE2, qn_ngL, qn_ngM, Nat.add_sub_cancel, qL, qS, qM, qV, qQ, qZ0, qZ1, qE_l, qE_r, qW_some]
/-- one line more, without a fault -/
theorem qLw_ext {j q : Nat} {lt : Nat → Nat} {la lb : Nat → List Nat} {l1 l2 : List Nat} {ts tf t2 R R' nk nl nwd nk' nl' nwd' : Nat → Int32} {x : Int32} (h : qLw 0 j lt la lb ts tf t2 R nk nl nwd) (hj : j < 16) (hq : q < 3) (h1 : qA8 l1) (h1l : l1.length ≤ 8) (h2 : qA8 l2) (h2l : l2.length ≤ 8) (hx : x = if q = 2 then nI (qkn 1 l2) else mI) (hR : R' 0 = nI (j + 1)) (k1 : nk' j = nI q) (k2 : ∀ i, i < j → nk' i = nk i) (n1 : nl' (2 * j) = nI l1.length) (n2 : nl' (2 * j + 1) = nI l2.length) (n3 : ∀ i, i < 2 * j → nl' i = nl i) (w1 : qLt (16 * j) nwd' l1) (w2 : qLt (16 * j + 8) nwd' l2) (w3 : ∀ i, i < 16 * j → nwd' i = nwd i) : ∃ lt' la' lb', qLw 0 (j + 1) lt' la' lb' (upd ts j (nI q)) (upd tf j (nI (qkn 1 l1))) (upd t2 j x) R' nk' nl' nwd' := by
  obtain ⟨g1, g2, g3⟩ := h
  refine ⟨fun i => if i = j then q else lt i, fun i => if i = j then l1 else la i, fun i => if i = j then l2 else lb i, by omega, hR, fun i hi => ?_⟩
  simp only [Nat.mul_zero, Nat.zero_add]
  unfold upd
  by_cases e : i = j
  · subst e
    simp only [if_true]
    exact ⟨hq, h1, h1l, h2, h2l, trivial, k1, trivial, n1, w1, hx, n2, w2⟩
  · simp only [if_neg e]
    obtain ⟨c1, c2, c3, c4, c5, c6, c7, c8, c9, c10, c11, c12, c13⟩ := g3 i (by omega)
    simp only [Nat.mul_zero, Nat.zero_add] at c7 c9 c10 c12 c13
    refine ⟨c1, c2, c3, c4, c5, c6, by rw [k2 i (by omega)]; exact c7, c8, by rw [n3 _ (by omega)]; exact c9, fun y hy => ?_, c11, by rw [n3 _ (by omega)]; exact c12, fun y hy => ?_⟩
    · rw [w3 _ (by omega)]; exact c10 y hy
    · rw [w3 _ (by omega)]; exact c13 y hy

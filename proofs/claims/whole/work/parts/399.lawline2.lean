/-! a law's line on both sides, whole -/
set_option maxHeartbeats 20000000 in
theorem q_lawLineQ {L s e k c j q lx : Nat} {T : Nat → Nat} {xb rt tf t2 ts nk nl nwd sp : Nat → Int32} {F P LF LP l v wr : Int32} {w : Int64} (hL : L ≤ 400) (hT : ∀ i, i < L → qby (xb i) = T i) (hR : ∀ i, i < L → qby (rt i) = T i) (hB : ∀ i, i < L → (rt i).toInt8.toInt32 = rt i) (hk : qTk T L s e k) (hse : s < e) (hI : qLI s c j F P LF LP tf t2 ts nk nl nwd) (hq : q < 3) (hlx : lx ≤ 16) (hlj : j < 16 → lx = j) (sx : f_X8_sortOfLine (nI e) (nI L) (nI k) (nI s) (400, xb) = some (nI q)) (sr : ∀ LF LP : Int32, f_X12_lawLine_j37 (nI L) (1600, rt) (nI e) (nI s) LF LP l (nI j) (nI (tk2 k)) v w wr (17, nk) (34, nl) (272, nwd) (400, sp) (nI lx) = f_X12_lawLine_j85 (nI L) (1600, rt) (nI e) (nI s) LF LP l (nI j) (nI (tk2 k)) v w wr (17, nk) (34, nl) (272, nwd) (400, sp) (nI lx) (nI lx) (nI q)) (sl : f_X12_lawLine (nI L) (1600, rt) (nI e) (nI s) LF LP l (nI j) (nI (tk2 k)) v w wr (17, nk) (34, nl) (272, nwd) (400, sp) = f_X12_lawLine_j18 (nI L) (1600, rt) (nI e) (nI s) LF LP l (nI j) (nI (tk2 k)) v w wr (17, nk) (34, nl) (272, nwd) (400, sp) (nI lx)) : qLBad (f_X8_readLine (nI L) (400, xb) (nI c) (nI e) F P (nI k) (nI s) (16, tf) (16, t2) (16, ts)) (f_X12_lawLine (nI L) (1600, rt) (nI e) (nI s) LF LP l (nI j) (nI (tk2 k)) v w wr (17, nk) (34, nl) (272, nwd) (400, sp)) ∨ qLGood T L s j wr (f_X8_readLine (nI L) (400, xb) (nI c) (nI e) F P (nI k) (nI s) (16, tf) (16, t2) (16, ts)) (f_X12_lawLine (nI L) (1600, rt) (nI e) (nI s) LF LP l (nI j) (nI (tk2 k)) v w wr (17, nk) (34, nl) (272, nwd) (400, sp)) := by
  obtain ⟨i1, i2, i3, i4, i5, i6, i7⟩ := hI
  have nx1 := q_next hL hk.2.1 hT (nI k) (nI s)
  have x1 := tk_tok (T := T) hk.2.1
  have n1 := tkS_le (T := T) hk.2.1
  obtain ⟨a1, b1, l1, o1, v1, w1, g1, rfl, rfl, q1, rfl, -, q2⟩ := q_token hL hk.2.1 hR (nI s) l (nI (tk2 k)) v w
  generalize tkS T L e = s1 at *
  generalize tkE T L e = e1 at *
  generalize tkK T L e = k1 at *
  have x2 := tk_tok (T := T) x1.2.1
  have n2 := tkS_le (T := T) x1.2.1
  have x1a := x1.1
  have x1b := x1.2.1
  have x2a := x2.1
  have x2b := x2.2.1
  obtain ⟨a2, b2, l2, o2, v2, w2, g2, rfl, rfl, q3, rfl, -, q4⟩ := q_token hL x1.2.1 hR (nI s1) l1 (nI (tk2 k1)) v1 w1
  have qe := hk.2.1
  obtain ⟨F1, P1, F', P', LF1, LP1, LF2, LP2, LF3, LP3, f1, f2, f3, f4, f5, r1, r2, r3, r4, r5, r6, f6, f7⟩ := q_lawFault (A := lwA T q s1 (e1 - s1)) (B := lwB T q s1 (e1 - s1) (tkS T L e1) (tkE T L e1 - tkS T L e1)) (C := tgd T 1 s1 (e1 - s1) ∧ lwB T q s1 (e1 - s1) (tkS T L e1) (tkE T L e1 - tkS T L e1)) (s0 := s) (s1 := s1) (s2 := tkS T L e1) (c := c) (j := j) (F := F) (P := P) (LF := LF) (LP := LP) (fun a z => a.elim (fun y => y z.1) (fun y => y.1 z.2.1)) (fun a => ⟨fun z => ⟨Classical.byContradiction fun y => a (Or.inl y), z⟩, fun z => z.2⟩) (by omega) (by omega) (by omega) i1 i4 i5 i6
  have R0 : f_X12_lawLine (nI L) (1600, rt) (nI e) (nI s) LF LP l (nI j) (nI (tk2 k)) v w wr (17, nk) (34, nl) (272, nwd) (400, sp) = f_X12_lawLine_j85 (nI L) (1600, rt) (nI e) (nI s) LF1 LP1 l (nI j) (nI (tk2 k)) v w wr (17, nk) (34, nl) (272, nwd) (400, sp) (nI lx) (nI lx) (nI q) := by
    rw [sl, ← sr]
    by_cases j16 : j = 16
    · have := r1 j16
      simp (disch := first | omega | assumption) only [f_X12_lawLine_j18, this, qn_lit, qn_ofNat, qn_neg1, qn_neg2, nI_add, pk_mul, qn_sub, qn_ltT, qn_ltF, qn_leT, qn_leF, qn_eqT, qn_eqF, qn_m1T, qn_m1F, qn_m1F2, qn_m1lt, qn_m1lt2, qn_m1le, qn_m1le2, qn_and1, qn_and3, qn_and7, qn_and15, qn_and31, qn_and255, qn_and2047, qn_shl, qn_shr, qn_or, qn_div, qn_modlt, Nat.reduceMod, Nat.reduceAdd, Nat.reduceMul, Nat.reducePow, Nat.reduceDiv, Nat.reduceSub, ↓reduceIte, qn_us, qn_un, not_true_eq_false, not_false_eq_true, true_and, and_true, qn_nn, qn_addm, qn_ngT, qn_ngF, qn_ngE, qn_ngE2, qn_ngL, qn_ngM, Nat.add_sub_cancel, qL, qS, qM, qV, qQ, qZ0, qZ1, qE_l, qE_r, qW_some]
    · obtain ⟨rfl, rfl⟩ := r2 j16
      simp (disch := first | omega | assumption) only [f_X12_lawLine_j18, qn_lit, qn_ofNat, qn_neg1, qn_neg2, nI_add, pk_mul, qn_sub, qn_ltT, qn_ltF, qn_leT, qn_leF, qn_eqT, qn_eqF, qn_m1T, qn_m1F, qn_m1F2, qn_m1lt, qn_m1lt2, qn_m1le, qn_m1le2, qn_and1, qn_and3, qn_and7, qn_and15, qn_and31, qn_and255, qn_and2047, qn_shl, qn_shr, qn_or, qn_div, qn_modlt, Nat.reduceMod, Nat.reduceAdd, Nat.reduceMul, Nat.reducePow, Nat.reduceDiv, Nat.reduceSub, ↓reduceIte, qn_us, qn_un, not_true_eq_false, not_false_eq_true, true_and, and_true, qn_nn, qn_addm, qn_ngT, qn_ngF, qn_ngE, qn_ngE2, qn_ngL, qn_ngM, Nat.add_sub_cancel, qL, qS, qM, qV, qQ, qZ0, qZ1, qE_l, qE_r, qW_some]
  generalize hs2 : tkS T L e1 = s2 at *
  generalize he2 : tkE T L e1 = e2 at *
  generalize hk2 : tkK T L e1 = k2 at *
  have nq : ¬ nI q = mI := by rw [qn_m1F (by omega)]; exact not_false
  have kr := q_isKinRow hL hT x1
  have rw1 := q_readWord hL hR hB x1 wr sp q1
  by_cases t1 : tKR T s1 e1 k1
  · obtain ⟨y1, ky1, ky2⟩ := q_kinOfToken hL hT x1 t1
    rw [hs2, he2, hk2] at ky1
    obtain ⟨sp1, ra1, ra2⟩ := rw1.1 t1
    have h8 : ∀ j, j < e1 - s1 → qlt (T (s1 + j)) < 8 := fun j hj => t1.2 (s1 + j) (by omega) (by omega)
    have l1v : l1 = nI (e1 - s1) := by rw [q1, if_pos t1.1]
    have se1 : s1 < e1 := (x1.2.2.2.2.1 t1.1).1
    obtain ⟨kg, kb⟩ := q_keepWord (T := T) (s := s1) (m := e1 - s1) (l := lx) (w := 0) (sp := sp1) (nl := nl) (nw := nwd) (by omega) hlx (by decide) h8 ra2
    have A8 := tls_A8 (T := T) (s := s1) (m := e1 - s1) h8
    have to1 := qto_lt (s := 1) (by decide) (tls T s1 (e1 - s1))
    have R1 : ∃ nl1 nwd1 x2 k0, f_X12_lawLine_j85 (nI L) (1600, rt) (nI e) (nI s) LF1 LP1 l (nI j) (nI (tk2 k)) v w wr (17, nk) (34, nl) (272, nwd) (400, sp) (nI lx) (nI lx) (nI q) = f_X12_lawLine_j171 (nI L) (1600, rt) (nI e1) (nI s1) LF2 LP2 l1 (nI j) (nI (tk2 k1)) v1 w1 wr (17, upd nk lx (nI q)) (34, nl1) (272, nwd1) (400, sp1) (nI lx) (nI x2) k0 ∧ (tgd T 1 s1 (e1 - s1) → x2 = 1 ∧ k0 = nI (qto 1 (tls T s1 (e1 - s1))) ∧ nl1 = upd nl (2 * lx + 0) (nI (e1 - s1)) ∧ (∀ j, j < e1 - s1 → nwd1 (8 * (2 * lx + 0) + j) = nI (qlt (T (s1 + j)))) ∧ ∀ i, (i < 8 * (2 * lx + 0) ∨ 8 * (2 * lx + 0) + (e1 - s1) ≤ i) → nwd1 i = nwd i) ∧ (¬ tgd T 1 s1 (e1 - s1) → x2 = 0) := by
      subst l1v
      by_cases g : tgd T 1 s1 (e1 - s1)
      · obtain ⟨nwd1, kg1, kg2, kg3⟩ := kg g
        have lt := q_leadsTo (N := 400) (o := 0) (f := sp1) (ls := tls T s1 (e1 - s1)) (by decide) (by rw [tls_len]; omega) (fun i hi => by rw [tls_len] at hi; rw [Nat.zero_add, ra2 i hi, tls_get hi]) A8 (s := 1) (by decide)
        rw [tls_len] at lt
        refine ⟨upd nl (2 * lx + 0) (nI (e1 - s1)), nwd1, 1, nI (qto 1 (tls T s1 (e1 - s1))), ?_, fun _ => ⟨rfl, rfl, rfl, kg2, kg3⟩, fun z => absurd g z⟩
        by_cases q2 : q = 2
        · have na : ¬ lwA T q s1 (e1 - s1) := fun z => z.elim (fun y => y g) (fun y => y.1 q2)
          obtain ⟨rfl, rfl⟩ := r4 na
          subst q2
          simp (disch := first | omega | assumption) only [f_X12_lawLine_j85, f_X12_lawLine_j142, g1, ra1, kg1, lt, qn_lit, qn_ofNat, qn_neg1, qn_neg2, nI_add, pk_mul, qn_sub, qn_ltT, qn_ltF, qn_leT, qn_leF, qn_eqT, qn_eqF, qn_m1T, qn_m1F, qn_m1F2, qn_m1lt, qn_m1lt2, qn_m1le, qn_m1le2, qn_and1, qn_and3, qn_and7, qn_and15, qn_and31, qn_and255, qn_and2047, qn_shl, qn_shr, qn_or, qn_div, qn_modlt, Nat.reduceMod, Nat.reduceAdd, Nat.reduceMul, Nat.reducePow, Nat.reduceDiv, Nat.reduceSub, ↓reduceIte, qn_us, qn_un, not_true_eq_false, not_false_eq_true, true_and, and_true, qn_nn, qn_addm, qn_ngT, qn_ngF, qn_ngE, qn_ngE2, qn_ngL, qn_ngM, Nat.add_sub_cancel, qL, qS, qM, qV, qQ, qZ0, qZ1, qE_l, qE_r, qW_some]
        · by_cases o : qto 1 (tls T s1 (e1 - s1)) = 1
          · have la := r3 (Or.inr ⟨q2, o⟩)
            simp (disch := first | omega | assumption) only [f_X12_lawLine_j85, f_X12_lawLine_j142, f_X12_lawLine_j162, g1, ra1, kg1, lt, la, qn_lit, qn_ofNat, qn_neg1, qn_neg2, nI_add, pk_mul, qn_sub, qn_ltT, qn_ltF, qn_leT, qn_leF, qn_eqT, qn_eqF, qn_m1T, qn_m1F, qn_m1F2, qn_m1lt, qn_m1lt2, qn_m1le, qn_m1le2, qn_and1, qn_and3, qn_and7, qn_and15, qn_and31, qn_and255, qn_and2047, qn_shl, qn_shr, qn_or, qn_div, qn_modlt, Nat.reduceMod, Nat.reduceAdd, Nat.reduceMul, Nat.reducePow, Nat.reduceDiv, Nat.reduceSub, ↓reduceIte, qn_us, qn_un, not_true_eq_false, not_false_eq_true, true_and, and_true, qn_nn, qn_addm, qn_ngT, qn_ngF, qn_ngE, qn_ngE2, qn_ngL, qn_ngM, Nat.add_sub_cancel, qL, qS, qM, qV, qQ, qZ0, qZ1, qE_l, qE_r, qW_some]
          · have na : ¬ lwA T q s1 (e1 - s1) := fun z => z.elim (fun y => y g) (fun y => o y.2)
            obtain ⟨rfl, rfl⟩ := r4 na
            simp (disch := first | omega | assumption) only [f_X12_lawLine_j85, f_X12_lawLine_j142, g1, ra1, kg1, lt, qn_lit, qn_ofNat, qn_neg1, qn_neg2, nI_add, pk_mul, qn_sub, qn_ltT, qn_ltF, qn_leT, qn_leF, qn_eqT, qn_eqF, qn_m1T, qn_m1F, qn_m1F2, qn_m1lt, qn_m1lt2, qn_m1le, qn_m1le2, qn_and1, qn_and3, qn_and7, qn_and15, qn_and31, qn_and255, qn_and2047, qn_shl, qn_shr, qn_or, qn_div, qn_modlt, Nat.reduceMod, Nat.reduceAdd, Nat.reduceMul, Nat.reducePow, Nat.reduceDiv, Nat.reduceSub, ↓reduceIte, qn_us, qn_un, not_true_eq_false, not_false_eq_true, true_and, and_true, qn_nn, qn_addm, qn_ngT, qn_ngF, qn_ngE, qn_ngE2, qn_ngL, qn_ngM, Nat.add_sub_cancel, qL, qS, qM, qV, qQ, qZ0, qZ1, qE_l, qE_r, qW_some]
      · have la := r3 (Or.inl g)
        have kb1 := kb g
        refine ⟨nl, nwd, 0, mI, ?_, fun z => absurd z g, fun _ => rfl⟩
        simp (disch := first | omega | assumption) only [f_X12_lawLine_j85, f_X12_lawLine_j142, f_X12_lawLine_j162, g1, ra1, kb1, la, qn_lit, qn_ofNat, qn_neg1, qn_neg2, nI_add, pk_mul, qn_sub, qn_ltT, qn_ltF, qn_leT, qn_leF, qn_eqT, qn_eqF, qn_m1T, qn_m1F, qn_m1F2, qn_m1lt, qn_m1lt2, qn_m1le, qn_m1le2, qn_and1, qn_and3, qn_and7, qn_and15, qn_and31, qn_and255, qn_and2047, qn_shl, qn_shr, qn_or, qn_div, qn_modlt, Nat.reduceMod, Nat.reduceAdd, Nat.reduceMul, Nat.reducePow, Nat.reduceDiv, Nat.reduceSub, ↓reduceIte, qn_us, qn_un, not_true_eq_false, not_false_eq_true, true_and, and_true, qn_nn, qn_addm, qn_ngT, qn_ngF, qn_ngE, qn_ngE2, qn_ngL, qn_ngM, Nat.add_sub_cancel, qL, qS, qM, qV, qQ, qZ0, qZ1, qE_l, qE_r, qW_some]
    obtain ⟨nl1, nwd1, z2, k0, R1a, R1b, R1c⟩ := R1
    by_cases q2 : q = 2
    · subst q2
      have kr2 := q_isKinRow hL hT x2
      have rw2 := q_readWord hL hR hB x2 wr sp1 q3
      by_cases t2' : tKR T s2 e2 k2
      · obtain ⟨y2, ky3, ky4⟩ := q_kinOfToken hL hT x2 t2'
        obtain ⟨sp2, rb1, rb2⟩ := rw2.1 t2'
        have x3 := tk_tok (T := T) x2.2.1
        have n3 := tkS_le (T := T) x2.2.1
        have h82 : ∀ j, j < e2 - s2 → qlt (T (s2 + j)) < 8 := fun j hj => t2'.2 (s2 + j) (by omega) (by omega)
        have l2v : l2 = nI (e2 - s2) := by rw [q3, if_pos t2'.1]
        have se2 : s2 < e2 := (x2.2.2.2.2.1 t2'.1).1
        obtain ⟨kg', kb'⟩ := q_keepWord (T := T) (s := s2) (m := e2 - s2) (l := lx) (w := 1) (sp := sp2) (nl := upd nl1 (2 * lx + 1) (nI 0)) (nw := nwd1) (by omega) hlx (by decide) h82 rb2
        have A82 := tls_A8 (T := T) (s := s2) (m := e2 - s2) h82
        have to2 := qto_lt (s := 1) (by decide) (tls T s2 (e2 - s2))
        obtain ⟨a3, b3, l3, o3, v3, w3, g3, rfl, rfl, q5, rfl, -, q6⟩ := q_token hL x2.2.1 hR (nI s2) l2 (nI (tk2 k2)) v2 w2
        generalize hs3 : tkS T L e2 = s3 at *
        generalize he3 : tkE T L e2 = e3 at *
        generalize hk3 : tkK T L e2 = k3 at *
        have lt2 := q_leadsTo (N := 400) (o := 0) (f := sp2) (ls := tls T s2 (e2 - s2)) (by decide) (by rw [tls_len]; omega) (fun i hi => by rw [tls_len] at hi; rw [Nat.zero_add, rb2 i hi, tls_get hi]) A82 (s := 1) (by decide)
        rw [tls_len] at lt2
        have R2 : ∃ nl2 nwd2, f_X12_lawLine_j171 (nI L) (1600, rt) (nI e1) (nI s1) LF2 LP2 l1 (nI j) (nI (tk2 k1)) v1 w1 wr (17, upd nk lx (nI 2)) (34, nl1) (272, nwd1) (400, sp1) (nI lx) (nI z2) k0 = f_X12_lawLine_j248 (nI L) (1600, rt) (nI e2) (nI s2) LF3 LP3 l2 (nI j) (nI (tk2 k2)) v2 w2 wr (17, upd nk lx (nI 2)) (34, nl2) (272, nwd2) (400, sp2) ∧ (tgd T 1 s2 (e2 - s2) → nl2 = upd (upd nl1 (2 * lx + 1) (nI 0)) (2 * lx + 1) (nI (e2 - s2)) ∧ (∀ j, j < e2 - s2 → nwd2 (8 * (2 * lx + 1) + j) = nI (qlt (T (s2 + j)))) ∧ ∀ i, (i < 8 * (2 * lx + 1) ∨ 8 * (2 * lx + 1) + (e2 - s2) ≤ i) → nwd2 i = nwd1 i) := by
          subst l2v
          by_cases g2' : tgd T 1 s2 (e2 - s2)
          · obtain ⟨nwd2, kg1, kg2, kg3⟩ := kg' g2'
            refine ⟨_, nwd2, ?_, fun _ => ⟨rfl, kg2, kg3⟩⟩
            by_cases g : tgd T 1 s1 (e1 - s1)
            · obtain ⟨rfl, rfl, -⟩ := R1b g
              by_cases o : qto 1 (tls T s2 (e2 - s2)) = qto 1 (tls T s1 (e1 - s1))
              · obtain ⟨rfl, rfl⟩ := r6 (fun z => z.2.2.elim (fun y => y g2') (fun y => y o))
                simp (disch := first | omega | assumption) only [f_X12_lawLine_j171, g2, rb1, kg1, lt2, qn_lit, qn_ofNat, qn_neg1, qn_neg2, nI_add, pk_mul, qn_sub, qn_ltT, qn_ltF, qn_leT, qn_leF, qn_eqT, qn_eqF, qn_m1T, qn_m1F, qn_m1F2, qn_m1lt, qn_m1lt2, qn_m1le, qn_m1le2, qn_and1, qn_and3, qn_and7, qn_and15, qn_and31, qn_and255, qn_and2047, qn_shl, qn_shr, qn_or, qn_div, qn_modlt, Nat.reduceMod, Nat.reduceAdd, Nat.reduceMul, Nat.reducePow, Nat.reduceDiv, Nat.reduceSub, ↓reduceIte, qn_us, qn_un, not_true_eq_false, not_false_eq_true, true_and, and_true, qn_nn, qn_addm, qn_ngT, qn_ngF, qn_ngE, qn_ngE2, qn_ngL, qn_ngM, Nat.add_sub_cancel, qL, qS, qM, qV, qQ, qZ0, qZ1, qE_l, qE_r, qW_some]
              · have la := r5 ⟨g, rfl, Or.inr o⟩
                simp (disch := first | omega | assumption) only [f_X12_lawLine_j171, f_X12_lawLine_j239, g2, rb1, kg1, lt2, la, qn_lit, qn_ofNat, qn_neg1, qn_neg2, nI_add, pk_mul, qn_sub, qn_ltT, qn_ltF, qn_leT, qn_leF, qn_eqT, qn_eqF, qn_m1T, qn_m1F, qn_m1F2, qn_m1lt, qn_m1lt2, qn_m1le, qn_m1le2, qn_and1, qn_and3, qn_and7, qn_and15, qn_and31, qn_and255, qn_and2047, qn_shl, qn_shr, qn_or, qn_div, qn_modlt, Nat.reduceMod, Nat.reduceAdd, Nat.reduceMul, Nat.reducePow, Nat.reduceDiv, Nat.reduceSub, ↓reduceIte, qn_us, qn_un, not_true_eq_false, not_false_eq_true, true_and, and_true, qn_nn, qn_addm, qn_ngT, qn_ngF, qn_ngE, qn_ngE2, qn_ngL, qn_ngM, Nat.add_sub_cancel, qL, qS, qM, qV, qQ, qZ0, qZ1, qE_l, qE_r, qW_some]
            · have := R1c g
              subst this
              obtain ⟨rfl, rfl⟩ := r6 (fun z => g z.1)
              simp (disch := first | omega | assumption) only [f_X12_lawLine_j171, g2, rb1, kg1, qn_lit, qn_ofNat, qn_neg1, qn_neg2, nI_add, pk_mul, qn_sub, qn_ltT, qn_ltF, qn_leT, qn_leF, qn_eqT, qn_eqF, qn_m1T, qn_m1F, qn_m1F2, qn_m1lt, qn_m1lt2, qn_m1le, qn_m1le2, qn_and1, qn_and3, qn_and7, qn_and15, qn_and31, qn_and255, qn_and2047, qn_shl, qn_shr, qn_or, qn_div, qn_modlt, Nat.reduceMod, Nat.reduceAdd, Nat.reduceMul, Nat.reducePow, Nat.reduceDiv, Nat.reduceSub, ↓reduceIte, qn_us, qn_un, not_true_eq_false, not_false_eq_true, true_and, and_true, qn_nn, qn_addm, qn_ngT, qn_ngF, qn_ngE, qn_ngE2, qn_ngL, qn_ngM, Nat.add_sub_cancel, qL, qS, qM, qV, qQ, qZ0, qZ1, qE_l, qE_r, qW_some]
          · have kb1 := kb' g2'
            refine ⟨upd nl1 (2 * lx + 1) (nI 0), nwd1, ?_, fun z => absurd z g2'⟩
            by_cases g : tgd T 1 s1 (e1 - s1)
            · obtain ⟨rfl, rfl, -⟩ := R1b g
              have la := r5 ⟨g, rfl, Or.inl g2'⟩
              simp (disch := first | omega | assumption) only [f_X12_lawLine_j171, f_X12_lawLine_j239, g2, rb1, kb1, la, qn_lit, qn_ofNat, qn_neg1, qn_neg2, nI_add, pk_mul, qn_sub, qn_ltT, qn_ltF, qn_leT, qn_leF, qn_eqT, qn_eqF, qn_m1T, qn_m1F, qn_m1F2, qn_m1lt, qn_m1lt2, qn_m1le, qn_m1le2, qn_and1, qn_and3, qn_and7, qn_and15, qn_and31, qn_and255, qn_and2047, qn_shl, qn_shr, qn_or, qn_div, qn_modlt, Nat.reduceMod, Nat.reduceAdd, Nat.reduceMul, Nat.reducePow, Nat.reduceDiv, Nat.reduceSub, ↓reduceIte, qn_us, qn_un, not_true_eq_false, not_false_eq_true, true_and, and_true, qn_nn, qn_addm, qn_ngT, qn_ngF, qn_ngE, qn_ngE2, qn_ngL, qn_ngM, Nat.add_sub_cancel, qL, qS, qM, qV, qQ, qZ0, qZ1, qE_l, qE_r, qW_some]
            · have := R1c g
              subst this
              obtain ⟨rfl, rfl⟩ := r6 (fun z => g z.1)
              simp (disch := first | omega | assumption) only [f_X12_lawLine_j171, g2, rb1, kb1, qn_lit, qn_ofNat, qn_neg1, qn_neg2, nI_add, pk_mul, qn_sub, qn_ltT, qn_ltF, qn_leT, qn_leF, qn_eqT, qn_eqF, qn_m1T, qn_m1F, qn_m1F2, qn_m1lt, qn_m1lt2, qn_m1le, qn_m1le2, qn_and1, qn_and3, qn_and7, qn_and15, qn_and31, qn_and255, qn_and2047, qn_shl, qn_shr, qn_or, qn_div, qn_modlt, Nat.reduceMod, Nat.reduceAdd, Nat.reduceMul, Nat.reducePow, Nat.reduceDiv, Nat.reduceSub, ↓reduceIte, qn_us, qn_un, not_true_eq_false, not_false_eq_true, true_and, and_true, qn_nn, qn_addm, qn_ngT, qn_ngF, qn_ngE, qn_ngE2, qn_ngL, qn_ngM, Nat.add_sub_cancel, qL, qS, qM, qV, qQ, qZ0, qZ1, qE_l, qE_r, qW_some]
        obtain ⟨nl2, nwd2, R2a, R2b⟩ := R2
        have R3 : f_X12_lawLine (nI L) (1600, rt) (nI e) (nI s) LF LP l (nI j) (nI (tk2 k)) v w wr (17, nk) (34, nl) (272, nwd) (400, sp) = f_X12_lawLine_j252 (nI L) (1600, rt) (nI e3) (nI s3) LF3 LP3 l3 (nI j) (nI (tk2 k3)) v3 w3 wr (17, upd nk lx (nI 2)) (34, nl2) (272, nwd2) (400, sp2) := by
          rw [R0, R1a, R2a]
          simp (disch := first | omega | assumption) only [f_X12_lawLine_j248, g3, qn_lit, qn_ofNat, qn_neg1, qn_neg2, nI_add, pk_mul, qn_sub, qn_ltT, qn_ltF, qn_leT, qn_leF, qn_eqT, qn_eqF, qn_m1T, qn_m1F, qn_m1F2, qn_m1lt, qn_m1lt2, qn_m1le, qn_m1le2, qn_and1, qn_and3, qn_and7, qn_and15, qn_and31, qn_and255, qn_and2047, qn_shl, qn_shr, qn_or, qn_div, qn_modlt, Nat.reduceMod, Nat.reduceAdd, Nat.reduceMul, Nat.reducePow, Nat.reduceDiv, Nat.reduceSub, ↓reduceIte, qn_us, qn_un, not_true_eq_false, not_false_eq_true, true_and, and_true, qn_nn, qn_addm, qn_ngT, qn_ngF, qn_ngE, qn_ngE2, qn_ngL, qn_ngM, Nat.add_sub_cancel, qL, qS, qM, qV, qQ, qZ0, qZ1, qE_l, qE_r, qW_some]
        have X3 : f_X8_readLine (nI L) (400, xb) (nI c) (nI e) F P (nI k) (nI s) (16, tf) (16, t2) (16, ts) = f_X8_readLine_j106 (nI L) (400, xb) (nI c) (nI e3) F P (nI k3) (nI s3) (16, tf) (16, t2) (16, ts) (nI s) (nI 2) (nI s1) y1 (nI s2) y2 := by
          simp (disch := first | omega | assumption) only [f_X8_readLine, sx, nx1, kr.1 t1, ky1, kr2.1 t2', ky3, qn_lit, qn_ofNat, qn_neg1, qn_neg2, nI_add, pk_mul, qn_sub, qn_ltT, qn_ltF, qn_leT, qn_leF, qn_eqT, qn_eqF, qn_m1T, qn_m1F, qn_m1F2, qn_m1lt, qn_m1lt2, qn_m1le, qn_m1le2, qn_and1, qn_and3, qn_and7, qn_and15, qn_and31, qn_and255, qn_and2047, qn_shl, qn_shr, qn_or, qn_div, qn_modlt, Nat.reduceMod, Nat.reduceAdd, Nat.reduceMul, Nat.reducePow, Nat.reduceDiv, Nat.reduceSub, ↓reduceIte, qn_us, qn_un, not_true_eq_false, not_false_eq_true, true_and, and_true, qn_nn, qn_addm, qn_ngT, qn_ngF, qn_ngE, qn_ngE2, qn_ngL, qn_ngM, Nat.add_sub_cancel, qL, qS, qM, qV, qQ, qZ0, qZ1, qE_l, qE_r, qW_some]
        rw [R3, X3]
        refine q_lawTail hL hT hR x3 (by omega) (by omega) (by decide) i2 i3 i4 i5 ky2 h8 (fun _ => ⟨ky4, h82⟩) f1 f2 f3 f4 f5 f6 (fun z => (f7 z).2.1) (fun z => ?_)
        obtain ⟨z1, z3, z4, z5⟩ := f7 z
        have lj := hlj z3
        subst lj
        obtain ⟨lt', la', lb', hw'⟩ := i7 z1
        have g : tgd T 1 s1 (e1 - s1) := Classical.byContradiction fun y => z4 (Or.inl y)
        have g' : tgd T 1 s2 (e2 - s2) := Classical.byContradiction fun y => z5 ⟨rfl, Or.inl y⟩
        obtain ⟨-, -, rfl, c4, c5⟩ := R1b g
        obtain ⟨rfl, c7, c8⟩ := R2b g'
        have v1e : y1 = nI (qkn 1 (tls T s1 (e1 - s1))) := ky2.elim (fun y => y.2) (fun y => absurd g y.1)
        have v2e : y2 = nI (qkn 1 (tls T s2 (e2 - s2))) := ky4.elim (fun y => y.2) (fun y => absurd g' y.1)
        have m18 := g.1
        have m28 := g'.1
        rw [v1e]
        refine qLw_ext (l2 := tls T s2 (e2 - s2)) hw' z3 (by decide) A8 (by rw [tls_len]; exact m18) A82 (by rw [tls_len]; exact m28) (by rw [if_pos rfl]; exact v2e) rfl pk_us (fun i hi => pk_un (by omega)) ?_ ?_ ?_ ?_ ?_ ?_
        · rw [pk_un (by omega), pk_un (by omega), Nat.add_zero, pk_us, tls_len]
        · rw [pk_us, tls_len]
        · intro i hi
          rw [pk_un (by omega), pk_un (by omega), pk_un (by omega)]
        · intro i hi
          rw [tls_len] at hi
          rw [c8 _ (by omega), show 16 * lx + i = 8 * (2 * lx + 0) + i by omega, c4 i hi, tls_get hi]
        · intro i hi
          rw [tls_len] at hi
          rw [show 16 * lx + 8 + i = 8 * (2 * lx + 1) + i by omega, c7 i hi, tls_get hi]
        · intro i hi
          rw [c8 _ (by omega), c5 _ (by omega)]
      · left
        obtain ⟨sp2, rb⟩ := rw2.2 t2'
        refine ⟨s2, c, nI e2, nI k2, nI s2, tf, t2, ts, nI e2, nI s2, LF2, LP2, l2, nI j, nI (tk2 k2), v2, w2, upd nk lx (nI 2), upd nl1 (2 * lx + 1) (nI 0), nwd1, sp2, by omega, i3, ?_, ?_⟩
        · simp (disch := first | omega | assumption) only [f_X8_readLine, f_X5_refuse, sx, nx1, kr.1 t1, ky1, kr2.2 t2', qn_lit, qn_ofNat, qn_neg1, qn_neg2, nI_add, pk_mul, qn_sub, qn_ltT, qn_ltF, qn_leT, qn_leF, qn_eqT, qn_eqF, qn_m1T, qn_m1F, qn_m1F2, qn_m1lt, qn_m1lt2, qn_m1le, qn_m1le2, qn_and1, qn_and3, qn_and7, qn_and15, qn_and31, qn_and255, qn_and2047, qn_shl, qn_shr, qn_or, qn_div, qn_modlt, Nat.reduceMod, Nat.reduceAdd, Nat.reduceMul, Nat.reducePow, Nat.reduceDiv, Nat.reduceSub, ↓reduceIte, qn_us, qn_un, not_true_eq_false, not_false_eq_true, true_and, and_true, qn_nn, qn_addm, qn_ngT, qn_ngF, qn_ngE, qn_ngE2, qn_ngL, qn_ngM, Nat.add_sub_cancel, qL, qS, qM, qV, qQ, qZ0, qZ1, qE_l, qE_r, qW_some]
        · rw [R0, R1a]
          simp (disch := first | omega | assumption) only [f_X12_lawLine_j171, g2, rb, qn_lit, qn_ofNat, qn_neg1, qn_neg2, nI_add, pk_mul, qn_sub, qn_ltT, qn_ltF, qn_leT, qn_leF, qn_eqT, qn_eqF, qn_m1T, qn_m1F, qn_m1F2, qn_m1lt, qn_m1lt2, qn_m1le, qn_m1le2, qn_and1, qn_and3, qn_and7, qn_and15, qn_and31, qn_and255, qn_and2047, qn_shl, qn_shr, qn_or, qn_div, qn_modlt, Nat.reduceMod, Nat.reduceAdd, Nat.reduceMul, Nat.reducePow, Nat.reduceDiv, Nat.reduceSub, ↓reduceIte, qn_us, qn_un, not_true_eq_false, not_false_eq_true, true_and, and_true, qn_nn, qn_addm, qn_ngT, qn_ngF, qn_ngE, qn_ngE2, qn_ngL, qn_ngM, Nat.add_sub_cancel, qL, qS, qM, qV, qQ, qZ0, qZ1, qE_l, qE_r, qW_some]
    · have nC : ¬ (tgd T 1 s1 (e1 - s1) ∧ lwB T q s1 (e1 - s1) s2 (e2 - s2)) := fun z => q2 z.2.1
      obtain ⟨rfl, rfl⟩ := r6 nC
      have R3 : f_X12_lawLine (nI L) (1600, rt) (nI e) (nI s) LF LP l (nI j) (nI (tk2 k)) v w wr (17, nk) (34, nl) (272, nwd) (400, sp) = f_X12_lawLine_j252 (nI L) (1600, rt) (nI e2) (nI s2) LF3 LP3 l2 (nI j) (nI (tk2 k2)) v2 w2 wr (17, upd nk lx (nI q)) (34, upd nl1 (2 * lx + 1) (nI 0)) (272, nwd1) (400, sp1) := by
        rw [R0, R1a]
        simp (disch := first | omega | assumption) only [f_X12_lawLine_j171, g2, qn_lit, qn_ofNat, qn_neg1, qn_neg2, nI_add, pk_mul, qn_sub, qn_ltT, qn_ltF, qn_leT, qn_leF, qn_eqT, qn_eqF, qn_m1T, qn_m1F, qn_m1F2, qn_m1lt, qn_m1lt2, qn_m1le, qn_m1le2, qn_and1, qn_and3, qn_and7, qn_and15, qn_and31, qn_and255, qn_and2047, qn_shl, qn_shr, qn_or, qn_div, qn_modlt, Nat.reduceMod, Nat.reduceAdd, Nat.reduceMul, Nat.reducePow, Nat.reduceDiv, Nat.reduceSub, ↓reduceIte, qn_us, qn_un, not_true_eq_false, not_false_eq_true, true_and, and_true, qn_nn, qn_addm, qn_ngT, qn_ngF, qn_ngE, qn_ngE2, qn_ngL, qn_ngM, Nat.add_sub_cancel, qL, qS, qM, qV, qQ, qZ0, qZ1, qE_l, qE_r, qW_some]
      have X3 : f_X8_readLine (nI L) (400, xb) (nI c) (nI e) F P (nI k) (nI s) (16, tf) (16, t2) (16, ts) = f_X8_readLine_j106 (nI L) (400, xb) (nI c) (nI e2) F P (nI k2) (nI s2) (16, tf) (16, t2) (16, ts) (nI s) (nI q) (nI s1) y1 (nI s2) mI := by
        simp (disch := first | omega | assumption) only [f_X8_readLine, sx, nx1, kr.1 t1, ky1, qn_lit, qn_ofNat, qn_neg1, qn_neg2, nI_add, pk_mul, qn_sub, qn_ltT, qn_ltF, qn_leT, qn_leF, qn_eqT, qn_eqF, qn_m1T, qn_m1F, qn_m1F2, qn_m1lt, qn_m1lt2, qn_m1le, qn_m1le2, qn_and1, qn_and3, qn_and7, qn_and15, qn_and31, qn_and255, qn_and2047, qn_shl, qn_shr, qn_or, qn_div, qn_modlt, Nat.reduceMod, Nat.reduceAdd, Nat.reduceMul, Nat.reducePow, Nat.reduceDiv, Nat.reduceSub, ↓reduceIte, qn_us, qn_un, not_true_eq_false, not_false_eq_true, true_and, and_true, qn_nn, qn_addm, qn_ngT, qn_ngF, qn_ngE, qn_ngE2, qn_ngL, qn_ngM, Nat.add_sub_cancel, qL, qS, qM, qV, qQ, qZ0, qZ1, qE_l, qE_r, qW_some]
      rw [R3, X3]
      refine q_lawTail (m2 := e2 - s2) hL hT hR x2 (by omega) (by omega) hq i2 i3 i4 i5 ky2 h8 (fun z => absurd z q2) f1 f2 f3 f4 f5 f6 (fun z => (f7 z).2.1) (fun z => ?_)
      obtain ⟨z1, z3, z4, z5⟩ := f7 z
      have lj := hlj z3
      subst lj
      obtain ⟨lt', la', lb', hw'⟩ := i7 z1
      have g : tgd T 1 s1 (e1 - s1) := Classical.byContradiction fun y => z4 (Or.inl y)
      obtain ⟨-, -, rfl, c4, c5⟩ := R1b g
      have v1e : y1 = nI (qkn 1 (tls T s1 (e1 - s1))) := ky2.elim (fun y => y.2) (fun y => absurd g y.1)
      have m18 := g.1
      rw [v1e]
      refine qLw_ext (l2 := []) hw' z3 hq A8 (by rw [tls_len]; exact m18) (fun l hl => absurd hl (by simp)) (by simp) (by rw [if_neg q2]) rfl pk_us (fun i hi => pk_un (by omega)) ?_ ?_ ?_ ?_ ?_ ?_
      · rw [pk_un (by omega), Nat.add_zero, pk_us, tls_len]
      · rw [pk_us]; rfl
      · intro i hi
        rw [pk_un (by omega), pk_un (by omega)]
      · intro i hi
        rw [tls_len] at hi
        rw [show 16 * lx + i = 8 * (2 * lx + 0) + i by omega, c4 i hi, tls_get hi]
      · intro i hi
        exact absurd hi (by simp)
      · intro i hi
        rw [c5 _ (by omega)]
  · left
    obtain ⟨sp1, rb⟩ := rw1.2 t1
    refine ⟨s1, c, nI e1, nI k1, nI s1, tf, t2, ts, nI e1, nI s1, LF1, LP1, l1, nI j, nI (tk2 k1), v1, w1, upd nk lx (nI q), nl, nwd, sp1, by omega, i3, ?_, ?_⟩
    · simp (disch := first | omega | assumption) only [f_X8_readLine, f_X5_refuse, sx, nx1, kr.2 t1, qn_lit, qn_ofNat, qn_neg1, qn_neg2, nI_add, pk_mul, qn_sub, qn_ltT, qn_ltF, qn_leT, qn_leF, qn_eqT, qn_eqF, qn_m1T, qn_m1F, qn_m1F2, qn_m1lt, qn_m1lt2, qn_m1le, qn_m1le2, qn_and1, qn_and3, qn_and7, qn_and15, qn_and31, qn_and255, qn_and2047, qn_shl, qn_shr, qn_or, qn_div, qn_modlt, Nat.reduceMod, Nat.reduceAdd, Nat.reduceMul, Nat.reducePow, Nat.reduceDiv, Nat.reduceSub, ↓reduceIte, qn_us, qn_un, not_true_eq_false, not_false_eq_true, true_and, and_true, qn_nn, qn_addm, qn_ngT, qn_ngF, qn_ngE, qn_ngE2, qn_ngL, qn_ngM, Nat.add_sub_cancel, qL, qS, qM, qV, qQ, qZ0, qZ1, qE_l, qE_r, qW_some]
    · rw [R0]
      simp (disch := first | omega | assumption) only [f_X12_lawLine_j85, g1, rb, qn_lit, qn_ofNat, qn_neg1, qn_neg2, nI_add, pk_mul, qn_sub, qn_ltT, qn_ltF, qn_leT, qn_leF, qn_eqT, qn_eqF, qn_m1T, qn_m1F, qn_m1F2, qn_m1lt, qn_m1lt2, qn_m1le, qn_m1le2, qn_and1, qn_and3, qn_and7, qn_and15, qn_and31, qn_and255, qn_and2047, qn_shl, qn_shr, qn_or, qn_div, qn_modlt, Nat.reduceMod, Nat.reduceAdd, Nat.reduceMul, Nat.reducePow, Nat.reduceDiv, Nat.reduceSub, ↓reduceIte, qn_us, qn_un, not_true_eq_false, not_false_eq_true, true_and, and_true, qn_nn, qn_addm, qn_ngT, qn_ngF, qn_ngE, qn_ngE2, qn_ngL, qn_ngM, Nat.add_sub_cancel, qL, qS, qM, qV, qQ, qZ0, qZ1, qE_l, qE_r, qW_some]

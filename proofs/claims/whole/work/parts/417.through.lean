/-! the reference goes through all pairs -/
theorem q_isLawfulR {n lc w c : Nat} {lt : Nat → Nat} {la lb : Nat → List Nat} {ts tf t2 R_lines R_lineKind R_lineLong R_lineWord we ch wb cb : Nat → Int32} {V U : Nat → Nat} (h0 : 0 < n) (hx : qXw n (cO n w) (cO n c) V U we ch wb cb) (hl : qLw 0 lc lt la lb ts tf t2 R_lines R_lineKind R_lineLong R_lineWord) : ∃ b, b < 2 ∧ f_X12_isLawful (nI n) (8, ch) (8, cb) (64, R_lineKind) (128, R_lineLong) (1024, R_lineWord) (4, R_lines) (8, we) (8, wb) = some (nI b) ∧ (b = 1 ↔ qLa n (cO n) lc lt la lb w c) := by
  have lc16 := hl.1
  obtain ⟨e, e1, ⟨rfl, e2⟩ | ⟨rfl, e2⟩⟩ := q_isProperR hx h0
  · obtain ⟨r, r1, r2⟩ := q_firstBrokenR hx hl
    rcases r2 with ⟨l, l1, rfl, l2, l3⟩ | ⟨rfl, l2⟩
    · refine ⟨0, by decide, by simp (disch := first | omega | assumption) only [f_X12_isLawful, e1, r1, qn_lit, qn_ofNat, qn_neg1, qn_neg2, nI_add, pk_mul, qn_sub, qn_ltT, qn_ltF, qn_leT, qn_leF, qn_eqT, qn_eqF, qn_m1T, qn_m1F, qn_m1F2, qn_m1lt, qn_m1lt2, qn_m1le, qn_m1le2, qn_and1, qn_and3, qn_and7, qn_and15, qn_and31, qn_and255, qn_and2047, qn_shl, qn_shr, qn_or, qn_div, qn_modlt, Nat.reduceMod, Nat.reduceAdd, Nat.reduceMul, Nat.reducePow, Nat.reduceDiv, Nat.reduceSub, ↓reduceIte, qn_us, qn_un, not_true_eq_false, not_false_eq_true, true_and, and_true, qn_nn, qn_addm, qn_ngT, qn_ngF, qn_ngE, qn_ngE2, qn_ngL, qn_ngM, Nat.add_sub_cancel, qL, qS, qM, qV, qQ, qZ0, qZ1, qE_l, qE_r, qW_some], ⟨fun z => absurd z (by decide), fun z => absurd ((qkp_vi hx.1).mpr (z.2 l l1)) l2⟩⟩
    · exact ⟨1, by decide, by simp (disch := first | omega | assumption) only [f_X12_isLawful, e1, r1, qn_lit, qn_ofNat, qn_neg1, qn_neg2, nI_add, pk_mul, qn_sub, qn_ltT, qn_ltF, qn_leT, qn_leF, qn_eqT, qn_eqF, qn_m1T, qn_m1F, qn_m1F2, qn_m1lt, qn_m1lt2, qn_m1le, qn_m1le2, qn_and1, qn_and3, qn_and7, qn_and15, qn_and31, qn_and255, qn_and2047, qn_shl, qn_shr, qn_or, qn_div, qn_modlt, Nat.reduceMod, Nat.reduceAdd, Nat.reduceMul, Nat.reducePow, Nat.reduceDiv, Nat.reduceSub, ↓reduceIte, qn_us, qn_un, not_true_eq_false, not_false_eq_true, true_and, and_true, qn_nn, qn_addm, qn_ngT, qn_ngF, qn_ngE, qn_ngE2, qn_ngL, qn_ngM, Nat.add_sub_cancel, qL, qS, qM, qV, qQ, qZ0, qZ1, qE_l, qE_r, qW_some], ⟨fun _ => ⟨e2, fun l hl2 => (qkp_vi hx.1).mp (l2 l hl2)⟩, fun _ => rfl⟩⟩
  · exact ⟨0, by decide, by simp (disch := first | omega | assumption) only [f_X12_isLawful, e1, qn_lit, qn_ofNat, qn_neg1, qn_neg2, nI_add, pk_mul, qn_sub, qn_ltT, qn_ltF, qn_leT, qn_leF, qn_eqT, qn_eqF, qn_m1T, qn_m1F, qn_m1F2, qn_m1lt, qn_m1lt2, qn_m1le, qn_m1le2, qn_and1, qn_and3, qn_and7, qn_and15, qn_and31, qn_and255, qn_and2047, qn_shl, qn_shr, qn_or, qn_div, qn_modlt, Nat.reduceMod, Nat.reduceAdd, Nat.reduceMul, Nat.reducePow, Nat.reduceDiv, Nat.reduceSub, ↓reduceIte, qn_us, qn_un, not_true_eq_false, not_false_eq_true, true_and, and_true, qn_nn, qn_addm, qn_ngT, qn_ngF, qn_ngE, qn_ngE2, qn_ngL, qn_ngM, Nat.add_sub_cancel, qL, qS, qM, qV, qQ, qZ0, qZ1, qE_l, qE_r, qW_some], ⟨fun z => absurd z (by decide), fun z => absurd z.1 e2⟩⟩
/-- what is counted: lawful pairs, or lawful and least ones -/
def qPc (n lc : Nat) (lt : Nat → Nat) (la lb : Nat → List Nat) (t : Nat) (m : Nat) : Prop := qLa n (cO n) lc lt la lb (m / qfa n) (m % qfa n) ∧ (t = 1 → qMi (qfa n) (qac n (qfa n) (cO n)) m)
def qRn (n : Nat) (P : Nat → Prop) (k : Int32) (i x : Nat) (rn : Int32) : Prop := ∀ m, m < x → P m → nI (qct P m) = k → rn = nI (qrw n (cO n (m / qfa n)) (cO n (m % qfa n)) i)
theorem q_inner {n lc w t i : Nat} {k : Int32} {lt : Nat → Nat} {la lb : Nat → List Nat} {ts tf t2 R_lines R_lineKind R_lineLong R_lineWord od ch cb we wb : Nat → Int32} {rn mn : Int32} (h2 : 2 ≤ n) (h5 : n ≤ 5) (ho : qRO n (qfa n) od) (hl : qLw 0 lc lt la lb ts tf t2 R_lines R_lineKind R_lineLong R_lineWord) (hw : w < qfa n) (ht : t < 2) (hi : i < 2 * n) (hr : qRn n (qPc n lc lt la lb t) k i (w * qfa n) rn) : ∃ mn' rn' ch' cb' we' wb', f_X12_goThrough_l28 (64, R_lineKind) (128, R_lineLong) (1024, R_lineWord) (4, R_lines) (nI (qfa n)) (600, od) (nI n) (nI t) k (nI i) (nI w) mn rn (8, ch) (8, cb) (8, we) (8, wb) (nI (qct (qPc n lc lt la lb t) (w * qfa n))) (nI 0) = some (mn', rn', (8, ch'), (8, cb'), (8, we'), (8, wb'), nI (qct (qPc n lc lt la lb t) (w * qfa n + qfa n))) ∧ qRn n (qPc n lc lt la lb t) k i (w * qfa n + qfa n) rn' := by
  have h := q_orders h2 h5
  have N120 := h.2.2.1
  have loop : qW (f_X12_goThrough_l28 (64, R_lineKind) (128, R_lineLong) (1024, R_lineWord) (4, R_lines) (nI (qfa n)) (600, od) (nI n) (nI t) k (nI i) (nI w) mn rn (8, ch) (8, cb) (8, we) (8, wb) (nI (qct (qPc n lc lt la lb t) (w * qfa n))) (nI 0)) (fun e => ∃ mn' rn' ch' cb' we' wb', e = (mn', rn', (8, ch'), (8, cb'), (8, we'), (8, wb'), nI (qct (qPc n lc lt la lb t) (w * qfa n + qfa n))) ∧ qRn n (qPc n lc lt la lb t) k i (w * qfa n + qfa n) rn') := by
    unfold f_X12_goThrough_l28
    refine qfor 0 (qfa n) (fun c z => ∃ mn' rn' ch' cb' we' wb', z = (mn', rn', (8, ch'), (8, cb'), (8, we'), (8, wb'), nI (qct (qPc n lc lt la lb t) (w * qfa n + c)), nI c) ∧ qRn n (qPc n lc lt la lb t) k i (w * qfa n + c) rn') ⟨mn, rn, ch, cb, we, wb, rfl, hr⟩ (by omega) (by omega) ?_ ?_
    · rintro c z - hc ⟨mn', rn', ch', cb', we', wb', rfl, hr'⟩
      obtain ⟨ch2, cb2, we2, wb2, l1, l2⟩ := q_lay (rn := mn') (ch := ch') (cb := cb') (we := we') (wb := wb') h2 h5 ho hw hc
      obtain ⟨b, b1, b2, b3⟩ := q_isLawfulR (by omega) l2 hl
      have dm := qdm (x := w) hc
      have mM := qdm_lt hw hc
      have NN : qfa n * qfa n ≤ 14400 := Nat.mul_le_mul N120 N120
      have cm := qct_le (qPc n lc lt la lb t) (w * qfa n + c)
      have Pm : qPc n lc lt la lb t (w * qfa n + c) ↔ qLa n (cO n) lc lt la lb w c ∧ (t = 1 → qMi (qfa n) (qac n (qfa n) (cO n)) (w * qfa n + c)) := by
        unfold qPc
        rw [dm.1, dm.2]
      have skip : ¬ qPc n lc lt la lb t (w * qfa n + c) → ∃ mn3 rn3 ch3 cb3 we3 wb3, (nI n, rn', (8, ch2), (8, cb2), (8, we2), (8, wb2), nI (qct (qPc n lc lt la lb t) (w * qfa n + c)), nI (c + 1)) = (mn3, rn3, (8, ch3), (8, cb3), (8, we3), (8, wb3), nI (qct (qPc n lc lt la lb t) (w * qfa n + (c + 1))), nI (c + 1)) ∧ qRn n (qPc n lc lt la lb t) k i (w * qfa n + (c + 1)) rn3 := by
        intro no
        have e := qct_F (P := qPc n lc lt la lb t) (m := w * qfa n + c) no
        refine ⟨_, rn', _, _, _, _, by rw [show w * qfa n + (c + 1) = w * qfa n + c + 1 from rfl, e], fun m hm hp hq => ?_⟩
        by_cases d : m = w * qfa n + c
        · subst d; exact absurd hp no
        · exact hr' m (by omega) hp hq
      have take : ∀ rn3 : Int32, qPc n lc lt la lb t (w * qfa n + c) → (nI (qct (qPc n lc lt la lb t) (w * qfa n + c)) = k → rn3 = nI (qrw n (cO n w) (cO n c) i)) → (¬ nI (qct (qPc n lc lt la lb t) (w * qfa n + c)) = k → rn3 = rn') → ∃ mn3 rn4 ch3 cb3 we3 wb3, (nI n, rn3, (8, ch2), (8, cb2), (8, we2), (8, wb2), nI (qct (qPc n lc lt la lb t) (w * qfa n + c) + 1), nI (c + 1)) = (mn3, rn4, (8, ch3), (8, cb3), (8, we3), (8, wb3), nI (qct (qPc n lc lt la lb t) (w * qfa n + (c + 1))), nI (c + 1)) ∧ qRn n (qPc n lc lt la lb t) k i (w * qfa n + (c + 1)) rn4 := by
        intro rn3 yes e1 e2
        have e := qct_T (P := qPc n lc lt la lb t) (m := w * qfa n + c) yes
        refine ⟨_, rn3, _, _, _, _, by rw [show w * qfa n + (c + 1) = w * qfa n + c + 1 from rfl, e], fun m hm hp hq => ?_⟩
        by_cases d : m = w * qfa n + c
        · subst d
          rw [dm.1, dm.2]
          exact e1 hq
        · by_cases q : nI (qct (qPc n lc lt la lb t) (w * qfa n + c)) = k
          · have lt1 := qct_ltN (K := qPc n lc lt la lb t) (show m < w * qfa n + c by omega) hp
            rw [← q] at hq
            have := (nI_eq (by omega) (by omega)).mp hq
            omega
          · rw [e2 q]
            exact hr' m (by omega) hp hq
      have j64 : qPc n lc lt la lb t (w * qfa n + c) → qW (f_X12_goThrough_j64 (nI n) (nI (qfa n)) rn' (8, ch2) (8, cb2) (600, od) (8, we2) (8, wb2) (nI n) (nI t) k (nI i) (nI (qct (qPc n lc lt la lb t) (w * qfa n + c))) (nI w) (nI c)) (Sum.elim (fun z => ∃ mn3 rn4 ch3 cb3 we3 wb3, z = (mn3, rn4, (8, ch3), (8, cb3), (8, we3), (8, wb3), nI (qct (qPc n lc lt la lb t) (w * qfa n + (c + 1))), nI (c + 1)) ∧ qRn n (qPc n lc lt la lb t) k i (w * qfa n + (c + 1)) rn4) (fun e => ∃ mn' rn' ch' cb' we' wb', e = (mn', rn', (8, ch'), (8, cb'), (8, we'), (8, wb'), nI (qct (qPc n lc lt la lb t) (w * qfa n + qfa n))) ∧ qRn n (qPc n lc lt la lb t) k i (w * qfa n + qfa n) rn')) := by
        intro yes
        by_cases q : nI (qct (qPc n lc lt la lb t) (w * qfa n + c)) = k
        · by_cases d : i < n
          · have v := qR_0 l2.2.1 d
            have tk := take (nI (cO n w i)) yes (fun _ => by unfold qrw; rw [if_pos d]) (fun z => absurd q z)
            generalize qct (qPc n lc lt la lb t) (w * qfa n + c) = cc at *
            simp (disch := first | omega | assumption) only [f_X12_goThrough_j64, f_X12_goThrough_j96, f_X12_goThrough_j99, f_X12_goThrough_j102, eq_true q, v, qn_lit, qn_ofNat, qn_neg1, qn_neg2, nI_add, pk_mul, qn_sub, qn_ltT, qn_ltF, qn_leT, qn_leF, qn_eqT, qn_eqF, qn_m1T, qn_m1F, qn_m1F2, qn_m1lt, qn_m1lt2, qn_m1le, qn_m1le2, qn_and1, qn_and3, qn_and7, qn_and15, qn_and31, qn_and255, qn_and2047, qn_shl, qn_shr, qn_or, qn_div, qn_modlt, Nat.reduceMod, Nat.reduceAdd, Nat.reduceMul, Nat.reducePow, Nat.reduceDiv, Nat.reduceSub, ↓reduceIte, qn_us, qn_un, not_true_eq_false, not_false_eq_true, true_and, and_true, qn_nn, qn_addm, qn_ngT, qn_ngF, qn_ngE, qn_ngE2, qn_ngL, qn_ngM, Nat.add_sub_cancel, qL, qS, qM, qV, qQ, qZ0, qZ1, qE_l, qE_r, qW_some]
            exact tk
          · have v := qR_0 l2.2.2.1 (show i - n < n by omega)
            have tk := take (nI (cO n c (i - n))) yes (fun _ => by unfold qrw; rw [if_neg d]) (fun z => absurd q z)
            generalize qct (qPc n lc lt la lb t) (w * qfa n + c) = cc at *
            simp (disch := first | omega | assumption) only [f_X12_goThrough_j64, f_X12_goThrough_j96, f_X12_goThrough_j99, f_X12_goThrough_j102, eq_true q, v, qn_lit, qn_ofNat, qn_neg1, qn_neg2, nI_add, pk_mul, qn_sub, qn_ltT, qn_ltF, qn_leT, qn_leF, qn_eqT, qn_eqF, qn_m1T, qn_m1F, qn_m1F2, qn_m1lt, qn_m1lt2, qn_m1le, qn_m1le2, qn_and1, qn_and3, qn_and7, qn_and15, qn_and31, qn_and255, qn_and2047, qn_shl, qn_shr, qn_or, qn_div, qn_modlt, Nat.reduceMod, Nat.reduceAdd, Nat.reduceMul, Nat.reducePow, Nat.reduceDiv, Nat.reduceSub, ↓reduceIte, qn_us, qn_un, not_true_eq_false, not_false_eq_true, true_and, and_true, qn_nn, qn_addm, qn_ngT, qn_ngF, qn_ngE, qn_ngE2, qn_ngL, qn_ngM, Nat.add_sub_cancel, qL, qS, qM, qV, qQ, qZ0, qZ1, qE_l, qE_r, qW_some]
            exact tk
        · have tk := take rn' yes (fun z => absurd z q) (fun _ => rfl)
          generalize qct (qPc n lc lt la lb t) (w * qfa n + c) = cc at *
          simp (disch := first | omega | assumption) only [f_X12_goThrough_j64, f_X12_goThrough_j99, f_X12_goThrough_j102, q, qn_lit, qn_ofNat, qn_neg1, qn_neg2, nI_add, pk_mul, qn_sub, qn_ltT, qn_ltF, qn_leT, qn_leF, qn_eqT, qn_eqF, qn_m1T, qn_m1F, qn_m1F2, qn_m1lt, qn_m1lt2, qn_m1le, qn_m1le2, qn_and1, qn_and3, qn_and7, qn_and15, qn_and31, qn_and255, qn_and2047, qn_shl, qn_shr, qn_or, qn_div, qn_modlt, Nat.reduceMod, Nat.reduceAdd, Nat.reduceMul, Nat.reducePow, Nat.reduceDiv, Nat.reduceSub, ↓reduceIte, qn_us, qn_un, not_true_eq_false, not_false_eq_true, true_and, and_true, qn_nn, qn_addm, qn_ngT, qn_ngF, qn_ngE, qn_ngE2, qn_ngL, qn_ngM, Nat.add_sub_cancel, qL, qS, qM, qV, qQ, qZ0, qZ1, qE_l, qE_r, qW_some]
          exact tk
      have b01 : b = 0 ∨ b = 1 := by omega
      rcases b01 with rfl | rfl
      · have sk := skip (fun z => absurd (b3.mpr (Pm.mp z).1) (by decide))
        simp (disch := first | omega | assumption) only [f_X12_goThrough_b28, f_X12_goThrough_j102, l1, b2, qn_lit, qn_ofNat, qn_neg1, qn_neg2, nI_add, pk_mul, qn_sub, qn_ltT, qn_ltF, qn_leT, qn_leF, qn_eqT, qn_eqF, qn_m1T, qn_m1F, qn_m1F2, qn_m1lt, qn_m1lt2, qn_m1le, qn_m1le2, qn_and1, qn_and3, qn_and7, qn_and15, qn_and31, qn_and255, qn_and2047, qn_shl, qn_shr, qn_or, qn_div, qn_modlt, Nat.reduceMod, Nat.reduceAdd, Nat.reduceMul, Nat.reducePow, Nat.reduceDiv, Nat.reduceSub, ↓reduceIte, qn_us, qn_un, not_true_eq_false, not_false_eq_true, true_and, and_true, qn_nn, qn_addm, qn_ngT, qn_ngF, qn_ngE, qn_ngE2, qn_ngL, qn_ngM, Nat.add_sub_cancel, qL, qS, qM, qV, qQ, qZ0, qZ1, qE_l, qE_r, qW_some]
        exact sk
      · have t01 : t = 0 ∨ t = 1 := by omega
        rcases t01 with rfl | rfl
        · have yes := Pm.mpr ⟨b3.mp rfl, fun z => absurd z (by decide)⟩
          have := j64 yes
          simp (disch := first | omega | assumption) only [f_X12_goThrough_b28, l1, b2, qn_lit, qn_ofNat, qn_neg1, qn_neg2, nI_add, pk_mul, qn_sub, qn_ltT, qn_ltF, qn_leT, qn_leF, qn_eqT, qn_eqF, qn_m1T, qn_m1F, qn_m1F2, qn_m1lt, qn_m1lt2, qn_m1le, qn_m1le2, qn_and1, qn_and3, qn_and7, qn_and15, qn_and31, qn_and255, qn_and2047, qn_shl, qn_shr, qn_or, qn_div, qn_modlt, Nat.reduceMod, Nat.reduceAdd, Nat.reduceMul, Nat.reducePow, Nat.reduceDiv, Nat.reduceSub, ↓reduceIte, qn_us, qn_un, not_true_eq_false, not_false_eq_true, true_and, and_true, qn_nn, qn_addm, qn_ngT, qn_ngF, qn_ngE, qn_ngE2, qn_ngL, qn_ngM, Nat.add_sub_cancel, qL, qS, qM, qV, qQ, qZ0, qZ1, qE_l, qE_r, qW_some]
          exact this
        · obtain ⟨d, d1, d2, d3⟩ := q_isLeast h2 h5 ho hw hc l2.2.1 l2.2.2.1
          have d01 : d = 0 ∨ d = 1 := by omega
          rcases d01 with rfl | rfl
          · have sk := skip (fun z => absurd (d3.mpr ((Pm.mp z).2 rfl)) (by decide))
            simp (disch := first | omega | assumption) only [f_X12_goThrough_b28, f_X12_goThrough_j102, l1, b2, d2, qn_lit, qn_ofNat, qn_neg1, qn_neg2, nI_add, pk_mul, qn_sub, qn_ltT, qn_ltF, qn_leT, qn_leF, qn_eqT, qn_eqF, qn_m1T, qn_m1F, qn_m1F2, qn_m1lt, qn_m1lt2, qn_m1le, qn_m1le2, qn_and1, qn_and3, qn_and7, qn_and15, qn_and31, qn_and255, qn_and2047, qn_shl, qn_shr, qn_or, qn_div, qn_modlt, Nat.reduceMod, Nat.reduceAdd, Nat.reduceMul, Nat.reducePow, Nat.reduceDiv, Nat.reduceSub, ↓reduceIte, qn_us, qn_un, not_true_eq_false, not_false_eq_true, true_and, and_true, qn_nn, qn_addm, qn_ngT, qn_ngF, qn_ngE, qn_ngE2, qn_ngL, qn_ngM, Nat.add_sub_cancel, qL, qS, qM, qV, qQ, qZ0, qZ1, qE_l, qE_r, qW_some]
            exact sk
          · have yes := Pm.mpr ⟨b3.mp rfl, fun _ => d3.mp rfl⟩
            have := j64 yes
            simp (disch := first | omega | assumption) only [f_X12_goThrough_b28, l1, b2, d2, qn_lit, qn_ofNat, qn_neg1, qn_neg2, nI_add, pk_mul, qn_sub, qn_ltT, qn_ltF, qn_leT, qn_leF, qn_eqT, qn_eqF, qn_m1T, qn_m1F, qn_m1F2, qn_m1lt, qn_m1lt2, qn_m1le, qn_m1le2, qn_and1, qn_and3, qn_and7, qn_and15, qn_and31, qn_and255, qn_and2047, qn_shl, qn_shr, qn_or, qn_div, qn_modlt, Nat.reduceMod, Nat.reduceAdd, Nat.reduceMul, Nat.reducePow, Nat.reduceDiv, Nat.reduceSub, ↓reduceIte, qn_us, qn_un, not_true_eq_false, not_false_eq_true, true_and, and_true, qn_nn, qn_addm, qn_ngT, qn_ngF, qn_ngE, qn_ngE2, qn_ngL, qn_ngM, Nat.add_sub_cancel, qL, qS, qM, qV, qQ, qZ0, qZ1, qE_l, qE_r, qW_some]
            exact this
    · rintro z ⟨mn', rn', ch', cb', we', wb', rfl, hr'⟩
      simp (disch := first | omega | assumption) only [f_X12_goThrough_b28, qn_lit, qn_ofNat, qn_neg1, qn_neg2, nI_add, pk_mul, qn_sub, qn_ltT, qn_ltF, qn_leT, qn_leF, qn_eqT, qn_eqF, qn_m1T, qn_m1F, qn_m1F2, qn_m1lt, qn_m1lt2, qn_m1le, qn_m1le2, qn_and1, qn_and3, qn_and7, qn_and15, qn_and31, qn_and255, qn_and2047, qn_shl, qn_shr, qn_or, qn_div, qn_modlt, Nat.reduceMod, Nat.reduceAdd, Nat.reduceMul, Nat.reducePow, Nat.reduceDiv, Nat.reduceSub, ↓reduceIte, qn_us, qn_un, not_true_eq_false, not_false_eq_true, true_and, and_true, qn_nn, qn_addm, qn_ngT, qn_ngF, qn_ngE, qn_ngE2, qn_ngL, qn_ngM, Nat.add_sub_cancel, qL, qS, qM, qV, qQ, qZ0, qZ1, qE_l, qE_r, qW_some]
      exact ⟨mn', rn', ch', cb', we', wb', rfl, hr'⟩
  obtain ⟨e, g1, mn', rn', ch', cb', we', wb', rfl, g2⟩ := loop
  exact ⟨mn', rn', ch', cb', we', wb', g1, g2⟩
theorem q_through {n lc t i : Nat} {k : Int32} {lt : Nat → Nat} {la lb : Nat → List Nat} {ts tf t2 R_lines R_lineKind R_lineLong R_lineWord od ch cb we wb : Nat → Int32} {rn mn on : Int32} (h2 : 2 ≤ n) (h5 : n ≤ 5) (hl : qLw 0 lc lt la lb ts tf t2 R_lines R_lineKind R_lineLong R_lineWord) (ht : t < 2) (hi : i < 2 * n) : ∃ mn' on' rn' ch' cb' od' we' wb', f_X12_goThrough (64, R_lineKind) (128, R_lineLong) (1024, R_lineWord) (4, R_lines) mn on rn (8, ch) (8, cb) (600, od) (8, we) (8, wb) (nI n) (nI t) k (nI i) = some (nI (qct (qPc n lc lt la lb t) (qfa n * qfa n)), mn', on', rn', (8, ch'), (8, cb'), (600, od'), (8, we'), (8, wb')) ∧ qRn n (qPc n lc lt la lb t) k i (qfa n * qfa n) rn' := by
  have h := q_orders h2 h5
  have N120 := h.2.2.1
  obtain ⟨od', o1, o2⟩ := q_findOrders (f := od) (x := on) h2 h5
  have loop : qW (f_X12_goThrough_l16 (64, R_lineKind) (128, R_lineLong) (1024, R_lineWord) (4, R_lines) (nI (qfa n)) (600, od') (nI n) (nI t) k (nI i) mn mI (8, ch) (8, cb) (8, we) (8, wb) (nI 0) (nI 0)) (fun e => ∃ mn' rn' ch' cb' we' wb', e = (mn', rn', (8, ch'), (8, cb'), (8, we'), (8, wb'), nI (qct (qPc n lc lt la lb t) (qfa n * qfa n))) ∧ qRn n (qPc n lc lt la lb t) k i (qfa n * qfa n) rn') := by
    unfold f_X12_goThrough_l16
    refine qfor 0 (qfa n) (fun w z => ∃ mn' rn' ch' cb' we' wb', z = (mn', rn', (8, ch'), (8, cb'), (8, we'), (8, wb'), nI (qct (qPc n lc lt la lb t) (w * qfa n)), nI w) ∧ qRn n (qPc n lc lt la lb t) k i (w * qfa n) rn') ⟨mn, mI, ch, cb, we, wb, by rw [Nat.zero_mul]; rfl, fun m hm => absurd hm (by omega)⟩ (by omega) (by omega) ?_ ?_
    · rintro w z - hw ⟨mn', rn', ch', cb', we', wb', rfl, hr⟩
      obtain ⟨a1, a2, a3, a4, a5, a6, g1, g2⟩ := q_inner (mn := mn') (ch := ch') (cb := cb') (we := we') (wb := wb') h2 h5 o2 hl hw ht hi hr
      simp (disch := first | omega | assumption) only [f_X12_goThrough_b16, g1, qn_lit, qn_ofNat, qn_neg1, qn_neg2, nI_add, pk_mul, qn_sub, qn_ltT, qn_ltF, qn_leT, qn_leF, qn_eqT, qn_eqF, qn_m1T, qn_m1F, qn_m1F2, qn_m1lt, qn_m1lt2, qn_m1le, qn_m1le2, qn_and1, qn_and3, qn_and7, qn_and15, qn_and31, qn_and255, qn_and2047, qn_shl, qn_shr, qn_or, qn_div, qn_modlt, Nat.reduceMod, Nat.reduceAdd, Nat.reduceMul, Nat.reducePow, Nat.reduceDiv, Nat.reduceSub, ↓reduceIte, qn_us, qn_un, not_true_eq_false, not_false_eq_true, true_and, and_true, qn_nn, qn_addm, qn_ngT, qn_ngF, qn_ngE, qn_ngE2, qn_ngL, qn_ngM, Nat.add_sub_cancel, qL, qS, qM, qV, qQ, qZ0, qZ1, qE_l, qE_r, qW_some]
      rw [show (w + 1) * qfa n = w * qfa n + qfa n by rw [Nat.add_mul, Nat.one_mul]]
      exact ⟨a1, a2, a3, a4, a5, a6, rfl, g2⟩
    · rintro z ⟨mn', rn', ch', cb', we', wb', rfl, hr⟩
      simp (disch := first | omega | assumption) only [f_X12_goThrough_b16, qn_lit, qn_ofNat, qn_neg1, qn_neg2, nI_add, pk_mul, qn_sub, qn_ltT, qn_ltF, qn_leT, qn_leF, qn_eqT, qn_eqF, qn_m1T, qn_m1F, qn_m1F2, qn_m1lt, qn_m1lt2, qn_m1le, qn_m1le2, qn_and1, qn_and3, qn_and7, qn_and15, qn_and31, qn_and255, qn_and2047, qn_shl, qn_shr, qn_or, qn_div, qn_modlt, Nat.reduceMod, Nat.reduceAdd, Nat.reduceMul, Nat.reducePow, Nat.reduceDiv, Nat.reduceSub, ↓reduceIte, qn_us, qn_un, not_true_eq_false, not_false_eq_true, true_and, and_true, qn_nn, qn_addm, qn_ngT, qn_ngF, qn_ngE, qn_ngE2, qn_ngL, qn_ngM, Nat.add_sub_cancel, qL, qS, qM, qV, qQ, qZ0, qZ1, qE_l, qE_r, qW_some]
      exact ⟨mn', rn', ch', cb', we', wb', rfl, hr⟩
  obtain ⟨e, g1, mn', rn', ch', cb', we', wb', rfl, g2⟩ := loop
  exact ⟨mn', nI (qfa n), rn', ch', cb', od', we', wb', by simp (disch := first | omega | assumption) only [f_X12_goThrough, o1, g1, qn_lit, qn_ofNat, qn_neg1, qn_neg2, nI_add, pk_mul, qn_sub, qn_ltT, qn_ltF, qn_leT, qn_leF, qn_eqT, qn_eqF, qn_m1T, qn_m1F, qn_m1F2, qn_m1lt, qn_m1lt2, qn_m1le, qn_m1le2, qn_and1, qn_and3, qn_and7, qn_and15, qn_and31, qn_and255, qn_and2047, qn_shl, qn_shr, qn_or, qn_div, qn_modlt, Nat.reduceMod, Nat.reduceAdd, Nat.reduceMul, Nat.reducePow, Nat.reduceDiv, Nat.reduceSub, ↓reduceIte, qn_us, qn_un, not_true_eq_false, not_false_eq_true, true_and, and_true, qn_nn, qn_addm, qn_ngT, qn_ngF, qn_ngE, qn_ngE2, qn_ngL, qn_ngM, Nat.add_sub_cancel, qL, qS, qM, qV, qQ, qZ0, qZ1, qE_l, qE_r, qW_some], g2⟩

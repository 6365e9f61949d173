/-! tellings that disagree; the best; all that the class finds -/
/-- the tellings as numbers; ts: seen -/
def qTl (c t d : Nat) (sn : Int32) (te tk td : Nat → Int32) (tp tq : Nat → Nat) (ts : Nat → Prop) : Prop := t ≤ 60 ∧ d ≤ 999 ∧ qvw sn d ∧ ∀ k, k < t → te k = nI (tp k) ∧ tp k < c ∧ tk k = nI (tq k) ∧ tq k < 8 ∧ ∃ e, e ≤ d ∧ td k = nI e ∧ (ts k ↔ qsn sn e)
theorem q_tellSeen {c t d : Nat} {sn : Int32} {te tk td : Nat → Int32} {tp tq : Nat → Nat} {ts : Nat → Prop} (h : qTl c t d sn te tk td tp tq ts) {k : Nat} (hk : k < t) : (ts k ∧ f_X4_tellingSeen sn (nI t) (60, td) (nI k) = some (nI 1)) ∨ (¬ ts k ∧ f_X4_tellingSeen sn (nI t) (60, td) (nI k) = some (nI 0)) := by
  obtain ⟨h1, h2, h3, h4⟩ := h
  obtain ⟨-, -, -, -, e, e1, e2, e3⟩ := h4 k hk
  have en := q_entry (f := td) (show k < 60 by omega) (by decide)
  rw [e2] at en
  by_cases q : qsn sn e
  · have is := q_isSeen_T (show e < 2147483648 by omega) q
    exact Or.inl ⟨e3.mpr q, by simp (disch := first | omega | assumption) only [f_X4_tellingSeen, en, is, qn_lit, qn_ofNat, qn_neg1, qn_neg2, nI_add, pk_mul, qn_sub, qn_ltT, qn_ltF, qn_leT, qn_leF, qn_eqT, qn_eqF, qn_m1T, qn_m1F, qn_m1F2, qn_m1lt, qn_m1lt2, qn_m1le, qn_m1le2, qn_and1, qn_and3, qn_and7, qn_and15, qn_and31, qn_and255, qn_and2047, qn_shl, qn_shr, qn_or, qn_div, qn_modlt, Nat.reduceMod, Nat.reduceAdd, Nat.reduceMul, Nat.reducePow, Nat.reduceDiv, Nat.reduceSub, ↓reduceIte, qn_us, qn_un, not_true_eq_false, not_false_eq_true, true_and, and_true, qn_nn, qn_addm, qn_ngT, qn_ngF, qn_ngE, qn_ngE2, qn_ngL, qn_ngM, Nat.add_sub_cancel, qL, qS, qM, qV, qQ, qZ0, qZ1, qE_l, qE_r, qW_some]⟩
  · have is := q_isSeen_F h2 (show e < 2147483648 by omega) h3 q
    exact Or.inr ⟨fun z => q (e3.mp z), by simp (disch := first | omega | assumption) only [f_X4_tellingSeen, en, is, qn_lit, qn_ofNat, qn_neg1, qn_neg2, nI_add, pk_mul, qn_sub, qn_ltT, qn_ltF, qn_leT, qn_leF, qn_eqT, qn_eqF, qn_m1T, qn_m1F, qn_m1F2, qn_m1lt, qn_m1lt2, qn_m1le, qn_m1le2, qn_and1, qn_and3, qn_and7, qn_and15, qn_and31, qn_and255, qn_and2047, qn_shl, qn_shr, qn_or, qn_div, qn_modlt, Nat.reduceMod, Nat.reduceAdd, Nat.reduceMul, Nat.reducePow, Nat.reduceDiv, Nat.reduceSub, ↓reduceIte, qn_us, qn_un, not_true_eq_false, not_false_eq_true, true_and, and_true, qn_nn, qn_addm, qn_ngT, qn_ngF, qn_ngE, qn_ngE2, qn_ngL, qn_ngM, Nat.add_sub_cancel, qL, qS, qM, qV, qQ, qZ0, qZ1, qE_l, qE_r, qW_some]⟩
theorem q_tellPart {c t d : Nat} {sn : Int32} {te tk td : Nat → Int32} {tp tq : Nat → Nat} {ts : Nat → Prop} (h : qTl c t d sn te tk td tp tq ts) {k : Nat} (hk : k < t) : f_X4_tellingPart (nI t) (60, te) (60, td) (60, tk) (nI k) (nI 0) = some (nI (tp k)) ∧ f_X4_tellingPart (nI t) (60, te) (60, td) (60, tk) (nI k) (nI 1) = some (nI (tq k)) := by
  obtain ⟨h1, h2, h3, h4⟩ := h
  obtain ⟨e1, -, e2, -, -⟩ := h4 k hk
  have en := q_entry (f := te) (show k < 60 by omega) (by decide)
  have en2 := q_entry (f := tk) (show k < 60 by omega) (by decide)
  rw [e1] at en
  rw [e2] at en2
  exact ⟨by simp (disch := first | omega | assumption) only [f_X4_tellingPart, en, qn_lit, qn_ofNat, qn_neg1, qn_neg2, nI_add, pk_mul, qn_sub, qn_ltT, qn_ltF, qn_leT, qn_leF, qn_eqT, qn_eqF, qn_m1T, qn_m1F, qn_m1F2, qn_m1lt, qn_m1lt2, qn_m1le, qn_m1le2, qn_and1, qn_and3, qn_and7, qn_and15, qn_and31, qn_and255, qn_and2047, qn_shl, qn_shr, qn_or, qn_div, qn_modlt, Nat.reduceMod, Nat.reduceAdd, Nat.reduceMul, Nat.reducePow, Nat.reduceDiv, Nat.reduceSub, ↓reduceIte, qn_us, qn_un, not_true_eq_false, not_false_eq_true, true_and, and_true, qn_nn, qn_addm, qn_ngT, qn_ngF, qn_ngE, qn_ngE2, qn_ngL, qn_ngM, Nat.add_sub_cancel, qL, qS, qM, qV, qQ, qZ0, qZ1, qE_l, qE_r, qW_some], by simp (disch := first | omega | assumption) only [f_X4_tellingPart, en2, qn_lit, qn_ofNat, qn_neg1, qn_neg2, nI_add, pk_mul, qn_sub, qn_ltT, qn_ltF, qn_leT, qn_leF, qn_eqT, qn_eqF, qn_m1T, qn_m1F, qn_m1F2, qn_m1lt, qn_m1lt2, qn_m1le, qn_m1le2, qn_and1, qn_and3, qn_and7, qn_and15, qn_and31, qn_and255, qn_and2047, qn_shl, qn_shr, qn_or, qn_div, qn_modlt, Nat.reduceMod, Nat.reduceAdd, Nat.reduceMul, Nat.reducePow, Nat.reduceDiv, Nat.reduceSub, ↓reduceIte, qn_us, qn_un, not_true_eq_false, not_false_eq_true, true_and, and_true, qn_nn, qn_addm, qn_ngT, qn_ngF, qn_ngE, qn_ngE2, qn_ngL, qn_ngM, Nat.add_sub_cancel, qL, qS, qM, qV, qQ, qZ0, qZ1, qE_l, qE_r, qW_some]⟩
/-- how many tellings of h's family disagree, with r at h -/
noncomputable def qag (F : Nat → Nat) (K : Nat → Nat → Nat) (tp tq : Nat → Nat) (ts : Nat → Prop) (t h r : Nat) : Nat := qct (fun k => ts k ∧ F (tp k) = h ∧ K (tp k) r ≠ tq k) t
theorem q_against {xp_seenTo : Int32} {xp_teller : Nat → Int32} {xp_tellingDay : Nat → Int32} {xp_tellingKind : Nat → Int32} {ks_kindBy : Nat → Int32} {ks_least : Nat → Int32} {ks_against : Nat → Int32} {c d n t : Nat} {F tp tq : Nat → Nat} {K : Nat → Nat → Nat} {ts : Nat → Prop} (hn : n ≤ 8) (hc : c ≤ 24) (hK : qKR c n F K ks_kindBy ks_least) (hT : qTl c t d xp_seenTo xp_teller xp_tellingKind xp_tellingDay tp tq ts) (h0 : ∀ i, i < 192 → ks_against i = nI 0) : ∃ ag', f_X2_countDisagreeing xp_seenTo (nI t) (nI n) (60, xp_teller) (60, xp_tellingDay) (60, xp_tellingKind) (192, ks_kindBy) (24, ks_least) (192, ks_against) = some (192, ag') ∧ ∀ h r, h < c → r < n → ag' (8 * h + r) = nI (qag F K tp tq ts t h r) := by
  have t60 := hT.1
  have loop : qW (f_X2_countDisagreeing_l2 xp_seenTo (nI t) (nI n) (60, xp_teller) (60, xp_tellingDay) (60, xp_tellingKind) (192, ks_kindBy) (24, ks_least) (192, ks_against) (nI 0)) (fun e => ∃ ag', e = (192, ag') ∧ ∀ h r, h < c → r < n → ag' (8 * h + r) = nI (qag F K tp tq ts t h r)) := by
    unfold f_X2_countDisagreeing_l2
    refine qfor 0 t (fun k z => ∃ ag', z = ((192, ag'), nI k) ∧ ∀ h r, h < c → r < n → ag' (8 * h + r) = nI (qag F K tp tq ts k h r)) ⟨_, rfl, fun h r hh hr => h0 _ (by omega)⟩ (by omega) (by omega) ?_ ?_
    · rintro k z - hk ⟨ag', rfl, g⟩
      obtain ⟨tp0, tp1⟩ := q_tellPart hT hk
      obtain ⟨-, pc, -, q8, -⟩ := hT.2.2.2 k hk
      rcases q_tellSeen hT hk with ⟨s1, s2⟩ | ⟨s1, s2⟩
      · obtain ⟨l1, l2, l3⟩ := hK.1 (tp k) pc
        have en := q_entry (f := ks_least) (show tp k < 24 by omega) (by decide)
        rw [l1] at en
        have inner : qW (f_X2_countDisagreeing_l43 (nI t) (nI n) (60, xp_teller) (60, xp_tellingDay) (60, xp_tellingKind) (192, ks_kindBy) (nI k) (nI (tp k)) (nI (F (tp k))) (192, ag') (nI 0)) (fun e => ∃ ag2, e = (192, ag2) ∧ ∀ h r, h < c → r < n → ag2 (8 * h + r) = nI (qag F K tp tq ts (k + 1) h r)) := by
          unfold f_X2_countDisagreeing_l43
          refine qfor 0 n (fun r z => ∃ ag2, z = ((192, ag2), nI r) ∧ ∀ h r', h < c → r' < n → ag2 (8 * h + r') = nI (if h = F (tp k) ∧ r' < r then qag F K tp tq ts (k + 1) h r' else qag F K tp tq ts k h r')) ⟨_, rfl, fun h r' hh hr => by rw [if_neg (by omega)]; exact g h r' hh hr⟩ (by omega) (by omega) ?_ ?_
          · rintro r z - hr ⟨ag2, rfl, g2⟩
            have ko := q_kindOf (x := tp k) (r := r) (kb := ks_kindBy) (by omega) (by omega)
            rw [(hK.2 (tp k) r pc hr).1] at ko
            have kn := (hK.2 (tp k) r pc hr).2
            have cl := qct_le (fun k => ts k ∧ F (tp k) = F (tp k) ∧ K (tp k) r ≠ tq k) k
            have gl := qct_le (fun j => ts j ∧ F (tp j) = F (tp k) ∧ K (tp j) r ≠ tq j) k
            by_cases q : K (tp k) r = tq k
            · have ec : qag F K tp tq ts (k + 1) (F (tp k)) r = qag F K tp tq ts k (F (tp k)) r := qct_F (fun z => z.2.2 q)
              simp (disch := first | omega | assumption) only [f_X2_countDisagreeing_b43, f_X2_countDisagreeing_j99, ko, tp1, qn_lit, qn_ofNat, qn_neg1, qn_neg2, nI_add, pk_mul, qn_sub, qn_ltT, qn_ltF, qn_leT, qn_leF, qn_eqT, qn_eqF, qn_m1T, qn_m1F, qn_m1F2, qn_m1lt, qn_m1lt2, qn_m1le, qn_m1le2, qn_and1, qn_and3, qn_and7, qn_and15, qn_and31, qn_and255, qn_and2047, qn_shl, qn_shr, qn_or, qn_div, qn_modlt, Nat.reduceMod, Nat.reduceAdd, Nat.reduceMul, Nat.reducePow, Nat.reduceDiv, Nat.reduceSub, ↓reduceIte, qn_us, qn_un, not_true_eq_false, not_false_eq_true, true_and, and_true, qn_nn, qn_addm, qn_ngT, qn_ngF, qn_ngE, qn_ngE2, qn_ngL, qn_ngM, Nat.add_sub_cancel, qL, qS, qM, qV, qQ, qZ0, qZ1, qE_l, qE_r, qW_some]
              refine ⟨ag2, rfl, fun h r' hh hr' => ?_⟩
              rw [g2 h r' hh hr']
              congr 1
              by_cases e : h = F (tp k)
              · by_cases e2 : r' = r
                · rw [if_neg (by omega), if_pos ⟨e, by omega⟩, e, e2, ec]
                · by_cases e3 : r' < r
                  · rw [if_pos ⟨e, e3⟩, if_pos ⟨e, by omega⟩]
                  · rw [if_neg (by omega), if_neg (by omega)]
              · rw [if_neg (fun z => e z.1), if_neg (fun z => e z.1)]
            · have ec : qag F K tp tq ts (k + 1) (F (tp k)) r = qag F K tp tq ts k (F (tp k)) r + 1 := qct_T ⟨s1, rfl, q⟩
              have va := g2 (F (tp k)) r l2 hr
              rw [if_neg (by omega)] at va
              have e1 := q_entry (f := ag2) (show 8 * F (tp k) + r < 192 by omega) (by decide)
              rw [va] at e1
              have s1' := q_set (f := ag2) (x := nI (qag F K tp tq ts k (F (tp k)) r + 1)) (show 8 * F (tp k) + r < 192 by omega) (by decide)
              simp (disch := first | omega | assumption) only [f_X2_countDisagreeing_b43, f_X2_countDisagreeing_j99, ko, tp1, qn_lit, qn_ofNat, qn_neg1, qn_neg2, nI_add, pk_mul, qn_sub, qn_ltT, qn_ltF, qn_leT, qn_leF, qn_eqT, qn_eqF, qn_m1T, qn_m1F, qn_m1F2, qn_m1lt, qn_m1lt2, qn_m1le, qn_m1le2, qn_and1, qn_and3, qn_and7, qn_and15, qn_and31, qn_and255, qn_and2047, qn_shl, qn_shr, qn_or, qn_div, qn_modlt, Nat.reduceMod, Nat.reduceAdd, Nat.reduceMul, Nat.reducePow, Nat.reduceDiv, Nat.reduceSub, ↓reduceIte, qn_us, qn_un, not_true_eq_false, not_false_eq_true, true_and, and_true, qn_nn, qn_addm, qn_ngT, qn_ngF, qn_ngE, qn_ngE2, qn_ngL, qn_ngM, Nat.add_sub_cancel, qL, qS, qM, qV, qQ, qZ0, qZ1, qE_l, qE_r, qW_some, Nat.mul_comm (F (tp k)) 8, e1, s1']
              refine ⟨_, rfl, fun h r' hh hr' => ?_⟩
              by_cases e : h = F (tp k)
              · by_cases e2 : r' = r
                · rw [e, e2, pk_us, if_pos ⟨rfl, by omega⟩, ec]
                · rw [pk_un (by omega), g2 h r' hh hr']
                  congr 1
                  by_cases e3 : r' < r
                  · rw [if_pos ⟨e, e3⟩, if_pos ⟨e, by omega⟩]
                  · rw [if_neg (by omega), if_neg (by omega)]
              · rw [pk_un (by omega), g2 h r' hh hr', if_neg (fun z => e z.1), if_neg (fun z => e z.1)]
          · rintro z ⟨ag2, rfl, g2⟩
            simp (disch := first | omega | assumption) only [f_X2_countDisagreeing_b43, qn_lit, qn_ofNat, qn_neg1, qn_neg2, nI_add, pk_mul, qn_sub, qn_ltT, qn_ltF, qn_leT, qn_leF, qn_eqT, qn_eqF, qn_m1T, qn_m1F, qn_m1F2, qn_m1lt, qn_m1lt2, qn_m1le, qn_m1le2, qn_and1, qn_and3, qn_and7, qn_and15, qn_and31, qn_and255, qn_and2047, qn_shl, qn_shr, qn_or, qn_div, qn_modlt, Nat.reduceMod, Nat.reduceAdd, Nat.reduceMul, Nat.reducePow, Nat.reduceDiv, Nat.reduceSub, ↓reduceIte, qn_us, qn_un, not_true_eq_false, not_false_eq_true, true_and, and_true, qn_nn, qn_addm, qn_ngT, qn_ngF, qn_ngE, qn_ngE2, qn_ngL, qn_ngM, Nat.add_sub_cancel, qL, qS, qM, qV, qQ, qZ0, qZ1, qE_l, qE_r, qW_some]
            refine ⟨ag2, rfl, fun h r' hh hr' => ?_⟩
            rw [g2 h r' hh hr']
            congr 1
            by_cases e : h = F (tp k)
            · rw [if_pos ⟨e, hr'⟩]
            · rw [if_neg (fun z => e z.1)]
              exact (qct_F (fun z => e z.2.1.symm)).symm
        obtain ⟨e, g1, ag2, rfl, g2⟩ := inner
        simp (disch := first | omega | assumption) only [f_X2_countDisagreeing_b2, f_X2_countDisagreeing_j105, s2, tp0, en, g1, qn_lit, qn_ofNat, qn_neg1, qn_neg2, nI_add, pk_mul, qn_sub, qn_ltT, qn_ltF, qn_leT, qn_leF, qn_eqT, qn_eqF, qn_m1T, qn_m1F, qn_m1F2, qn_m1lt, qn_m1lt2, qn_m1le, qn_m1le2, qn_and1, qn_and3, qn_and7, qn_and15, qn_and31, qn_and255, qn_and2047, qn_shl, qn_shr, qn_or, qn_div, qn_modlt, Nat.reduceMod, Nat.reduceAdd, Nat.reduceMul, Nat.reducePow, Nat.reduceDiv, Nat.reduceSub, ↓reduceIte, qn_us, qn_un, not_true_eq_false, not_false_eq_true, true_and, and_true, qn_nn, qn_addm, qn_ngT, qn_ngF, qn_ngE, qn_ngE2, qn_ngL, qn_ngM, Nat.add_sub_cancel, qL, qS, qM, qV, qQ, qZ0, qZ1, qE_l, qE_r, qW_some]
        exact ⟨ag2, rfl, g2⟩
      · simp (disch := first | omega | assumption) only [f_X2_countDisagreeing_b2, f_X2_countDisagreeing_j105, s2, qn_lit, qn_ofNat, qn_neg1, qn_neg2, nI_add, pk_mul, qn_sub, qn_ltT, qn_ltF, qn_leT, qn_leF, qn_eqT, qn_eqF, qn_m1T, qn_m1F, qn_m1F2, qn_m1lt, qn_m1lt2, qn_m1le, qn_m1le2, qn_and1, qn_and3, qn_and7, qn_and15, qn_and31, qn_and255, qn_and2047, qn_shl, qn_shr, qn_or, qn_div, qn_modlt, Nat.reduceMod, Nat.reduceAdd, Nat.reduceMul, Nat.reducePow, Nat.reduceDiv, Nat.reduceSub, ↓reduceIte, qn_us, qn_un, not_true_eq_false, not_false_eq_true, true_and, and_true, qn_nn, qn_addm, qn_ngT, qn_ngF, qn_ngE, qn_ngE2, qn_ngL, qn_ngM, Nat.add_sub_cancel, qL, qS, qM, qV, qQ, qZ0, qZ1, qE_l, qE_r, qW_some]
        refine ⟨ag', rfl, fun h r hh hr => ?_⟩
        rw [g h r hh hr]
        exact congrArg nI (qct_F (fun z => s1 z.1)).symm
    · rintro z ⟨ag', rfl, g⟩
      simp (disch := first | omega | assumption) only [f_X2_countDisagreeing_b2, qn_lit, qn_ofNat, qn_neg1, qn_neg2, nI_add, pk_mul, qn_sub, qn_ltT, qn_ltF, qn_leT, qn_leF, qn_eqT, qn_eqF, qn_m1T, qn_m1F, qn_m1F2, qn_m1lt, qn_m1lt2, qn_m1le, qn_m1le2, qn_and1, qn_and3, qn_and7, qn_and15, qn_and31, qn_and255, qn_and2047, qn_shl, qn_shr, qn_or, qn_div, qn_modlt, Nat.reduceMod, Nat.reduceAdd, Nat.reduceMul, Nat.reducePow, Nat.reduceDiv, Nat.reduceSub, ↓reduceIte, qn_us, qn_un, not_true_eq_false, not_false_eq_true, true_and, and_true, qn_nn, qn_addm, qn_ngT, qn_ngF, qn_ngE, qn_ngE2, qn_ngL, qn_ngM, Nat.add_sub_cancel, qL, qS, qM, qV, qQ, qZ0, qZ1, qE_l, qE_r, qW_some]
      exact ⟨ag', rfl, g⟩
  obtain ⟨e, g1, ag', rfl, g2⟩ := loop
  exact ⟨ag', by simp (disch := first | omega | assumption) only [f_X2_countDisagreeing, g1, qn_lit, qn_ofNat, qn_neg1, qn_neg2, nI_add, pk_mul, qn_sub, qn_ltT, qn_ltF, qn_leT, qn_leF, qn_eqT, qn_eqF, qn_m1T, qn_m1F, qn_m1F2, qn_m1lt, qn_m1lt2, qn_m1le, qn_m1le2, qn_and1, qn_and3, qn_and7, qn_and15, qn_and31, qn_and255, qn_and2047, qn_shl, qn_shr, qn_or, qn_div, qn_modlt, Nat.reduceMod, Nat.reduceAdd, Nat.reduceMul, Nat.reducePow, Nat.reduceDiv, Nat.reduceSub, ↓reduceIte, qn_us, qn_un, not_true_eq_false, not_false_eq_true, true_and, and_true, qn_nn, qn_addm, qn_ngT, qn_ngF, qn_ngE, qn_ngE2, qn_ngL, qn_ngM, Nat.add_sub_cancel, qL, qS, qM, qV, qQ, qZ0, qZ1, qE_l, qE_r, qW_some], g2⟩
/-- the best class: the fewest that disagree, of several the least -/
def qbs (P : Nat → Prop) (ag : Nat → Nat) (n : Nat) (b : Int32) : Prop := (b = mI ∧ ∀ r, r < n → ¬ P r) ∨ ∃ r, r < n ∧ b = nI r ∧ P r ∧ ∀ s, s < n → P s → ag r < ag s ∨ (ag r = ag s ∧ r ≤ s)
theorem qbs_u {P : Nat → Prop} {ag : Nat → Nat} {n : Nat} {a b : Int32} (h : qbs P ag n a) (g : qbs P ag n b) : a = b := by
  rcases h with ⟨rfl, h⟩ | ⟨r, r1, rfl, r2, r3⟩
  · rcases g with ⟨rfl, g⟩ | ⟨s, s1, rfl, s2, s3⟩
    · rfl
    · exact absurd s2 (h s s1)
  · rcases g with ⟨rfl, g⟩ | ⟨s, s1, rfl, s2, s3⟩
    · exact absurd r2 (g r r1)
    · have h1 := r3 s s1 s2
      have h2 := s3 r r1 r2
      have : r = s := by omega
      rw [this]
theorem q_bitset {m r : Nat} (hm : m < 256) (hr : r < 8) (h0 : qbt m r = 0) : m ||| 2 ^ r < 256 ∧ ∀ i, i < 8 → (qbt (m ||| 2 ^ r) i = 1 ↔ qbt m i = 1 ∨ i = r) := by
  have key : ∀ a : Fin 256, ∀ b : Fin 8, (a.val ||| 2 ^ b.val) < 256 ∧ ∀ i : Fin 8, (qbt (a.val ||| 2 ^ b.val) i.val = 1 ↔ qbt a.val i.val = 1 ∨ i.val = b.val) := by decide +kernel
  obtain ⟨k1, k2⟩ := key ⟨m, hm⟩ ⟨r, hr⟩
  exact ⟨k1, fun i hi => k2 ⟨i, hi⟩⟩
theorem q_chooseBest {ks_against : Nat → Int32} {ks_fitting : Nat → Int32} {ks_least : Nat → Int32} {ks_agreeing : Nat → Int32} {ks_best : Nat → Int32} {c n : Nat} {F : Nat → Nat} {P : Nat → Nat → Prop} {ag : Nat → Nat → Nat} (hn : n ≤ 8) (hc : c ≤ 24) (hF : ∀ p, p < c → ks_least p = nI (F p) ∧ F p < c) (hag : ∀ h r, h < c → r < n → ks_against (8 * h + r) = nI (ag h r) ∧ ag h r < 1000) (hfi : ∀ h, h < c → F h = h → ∃ m, m < 256 ∧ ks_fitting h = nI m ∧ ∀ r, r < n → (qbt m r = 1 ↔ P h r)) : ∃ agr' bst', f_X2_chooseBest (nI n) (nI c) (192, ks_against) (24, ks_fitting) (24, ks_least) (24, ks_agreeing) (24, ks_best) = some ((24, agr'), (24, bst')) ∧ ∀ h, h < c → F h = h → (∃ m, m < 256 ∧ agr' h = nI m ∧ ∀ r, r < 8 → (qbt m r = 1 ↔ r < n ∧ P h r ∧ ag h r = 0)) ∧ qbs (P h) (ag h) n (bst' h) := by
  have loop : qW (f_X2_chooseBest_l2 (nI n) (nI c) (192, ks_against) (24, ks_fitting) (24, ks_least) (24, ks_agreeing) (24, ks_best) (nI 0)) (fun e => ∃ agr' bst', e = ((24, agr'), (24, bst')) ∧ ∀ h, h < c → F h = h → (∃ m, m < 256 ∧ agr' h = nI m ∧ ∀ r, r < 8 → (qbt m r = 1 ↔ r < n ∧ P h r ∧ ag h r = 0)) ∧ qbs (P h) (ag h) n (bst' h)) := by
    unfold f_X2_chooseBest_l2
    refine qfor 0 c (fun p z => ∃ agr' bst', z = ((24, agr'), (24, bst'), nI p) ∧ ∀ h, h < p → F h = h → (∃ m, m < 256 ∧ agr' h = nI m ∧ ∀ r, r < 8 → (qbt m r = 1 ↔ r < n ∧ P h r ∧ ag h r = 0)) ∧ qbs (P h) (ag h) n (bst' h)) ⟨_, _, rfl, fun h hh => absurd hh (by omega)⟩ (by omega) (by omega) ?_ ?_
    · rintro p z - hp ⟨agr, bst, rfl, g⟩
      obtain ⟨l1, l2⟩ := hF p hp
      have en := q_entry (f := ks_least) (show p < 24 by omega) (by decide)
      rw [l1] at en
      have fin : ∀ x y : Int32, (F p = p → (∃ m, m < 256 ∧ y = nI m ∧ ∀ r, r < 8 → (qbt m r = 1 ↔ r < n ∧ P p r ∧ ag p r = 0)) ∧ qbs (P p) (ag p) n x) → f_X2_chooseBest_l18 (nI n) (192, ks_against) (24, ks_fitting) (24, ks_least) (24, agr) (24, bst) (nI p) mI (nI 0) (nI 0) = some (x, y) → qW (f_X2_chooseBest_b2 (nI n) (nI c) (192, ks_against) (24, ks_fitting) (24, ks_least) (24, agr) (24, bst) (nI p)) (Sum.elim (fun z => ∃ agr' bst', z = ((24, agr'), (24, bst'), nI (p + 1)) ∧ ∀ h, h < p + 1 → F h = h → (∃ m, m < 256 ∧ agr' h = nI m ∧ ∀ r, r < 8 → (qbt m r = 1 ↔ r < n ∧ P h r ∧ ag h r = 0)) ∧ qbs (P h) (ag h) n (bst' h)) (fun e => ∃ agr' bst', e = ((24, agr'), (24, bst')) ∧ ∀ h, h < c → F h = h → (∃ m, m < 256 ∧ agr' h = nI m ∧ ∀ r, r < 8 → (qbt m r = 1 ↔ r < n ∧ P h r ∧ ag h r = 0)) ∧ qbs (P h) (ag h) n (bst' h))) := by
        intro x y hxy hl
        have s1 := q_set (f := bst) (x := x) (show p < 24 by omega) (by decide)
        have s2 := q_set (f := agr) (x := y) (show p < 24 by omega) (by decide)
        simp (disch := first | omega | assumption) only [f_X2_chooseBest_b2, hl, s1, s2, qn_lit, qn_ofNat, qn_neg1, qn_neg2, nI_add, pk_mul, qn_sub, qn_ltT, qn_ltF, qn_leT, qn_leF, qn_eqT, qn_eqF, qn_m1T, qn_m1F, qn_m1F2, qn_m1lt, qn_m1lt2, qn_m1le, qn_m1le2, qn_and1, qn_and3, qn_and7, qn_and15, qn_and31, qn_and255, qn_and2047, qn_shl, qn_shr, qn_or, qn_div, qn_modlt, Nat.reduceMod, Nat.reduceAdd, Nat.reduceMul, Nat.reducePow, Nat.reduceDiv, Nat.reduceSub, ↓reduceIte, qn_us, qn_un, not_true_eq_false, not_false_eq_true, true_and, and_true, qn_nn, qn_addm, qn_ngT, qn_ngF, qn_ngE, qn_ngE2, qn_ngL, qn_ngM, Nat.add_sub_cancel, qL, qS, qM, qV, qQ, qZ0, qZ1, qE_l, qE_r, qW_some]
        refine ⟨_, _, rfl, fun h hh hFh => ?_⟩
        by_cases e : h = p
        · rw [e, pk_us, pk_us]
          rw [e] at hFh
          exact hxy hFh
        · rw [pk_un e, pk_un e]
          exact g h (by omega) hFh
      by_cases hFp : F p = p
      · obtain ⟨m, m1, m2, m3⟩ := hfi p hp hFp
        have ef := q_entry (f := ks_fitting) (show p < 24 by omega) (by decide)
        rw [m2] at ef
        rw [hFp] at en
        have inner : qW (f_X2_chooseBest_l18 (nI n) (192, ks_against) (24, ks_fitting) (24, ks_least) (24, agr) (24, bst) (nI p) mI (nI 0) (nI 0)) (fun e => ∃ x ma, e = (x, nI ma) ∧ ma < 256 ∧ (∀ r, r < 8 → (qbt ma r = 1 ↔ r < n ∧ P p r ∧ ag p r = 0)) ∧ qbs (P p) (ag p) n x) := by
          unfold f_X2_chooseBest_l18
          refine qfor 0 n (fun r z => ∃ x ma, z = (x, nI ma, nI r) ∧ ma < 256 ∧ (∀ i, i < 8 → (qbt ma i = 1 ↔ i < r ∧ P p i ∧ ag p i = 0)) ∧ qbs (P p) (ag p) r x) ⟨mI, 0, rfl, by decide, fun i hi => ⟨fun z => absurd z (by unfold qbt; simp), fun z => absurd z.1 (by omega)⟩, Or.inl ⟨rfl, fun i hi => absurd hi (by omega)⟩⟩ (by omega) (by omega) ?_ ?_
          · rintro r z - hr ⟨x, ma, rfl, a1, a2, a3⟩
            obtain ⟨ga, gb⟩ := hag p r hp hr
            have b0 : m / 2 ^ r % 2 = qbt m r := rfl
            by_cases hPr : P p r
            · have hb := (m3 r hr).mpr hPr
              rw [hb] at b0
              have ea := q_entry (f := ks_against) (show 8 * p + r < 192 by omega) (by decide)
              rw [ga] at ea
              have z0 : qbt ma r = 0 := by
                have h1 : qbt ma r < 2 := Nat.mod_lt _ (by decide)
                have h2 : ¬ qbt ma r = 1 := fun z => by have := ((a2 r (by omega)).mp z).1; omega
                omega
              obtain ⟨o1, o2⟩ := q_bitset a1 (show r < 8 by omega) z0
              -- the bits
              have bits : ∀ x', qbs (P p) (ag p) (r + 1) x' → (ag p r = 0 → ∃ x'' ma', (x', nI (ma ||| 2 ^ r), nI (r + 1)) = (x'', nI ma', nI (r + 1)) ∧ ma' < 256 ∧ (∀ i, i < 8 → (qbt ma' i = 1 ↔ i < r + 1 ∧ P p i ∧ ag p i = 0)) ∧ qbs (P p) (ag p) (r + 1) x'') ∧ (ag p r ≠ 0 → ∃ x'' ma', (x', nI ma, nI (r + 1)) = (x'', nI ma', nI (r + 1)) ∧ ma' < 256 ∧ (∀ i, i < 8 → (qbt ma' i = 1 ↔ i < r + 1 ∧ P p i ∧ ag p i = 0)) ∧ qbs (P p) (ag p) (r + 1) x'') := by
                intro x' hx'
                refine ⟨fun hz => ⟨x', _, rfl, o1, fun i hi => (o2 i hi).trans ?_, hx'⟩, fun hz => ⟨x', ma, rfl, a1, fun i hi => (a2 i hi).trans ?_, hx'⟩⟩
                · rw [a2 i hi]
                  constructor
                  · rintro (q | rfl)
                    · exact ⟨by omega, q.2⟩
                    · exact ⟨by omega, hPr, hz⟩
                  · rintro ⟨q1, q2⟩
                    by_cases e : i = r
                    · exact Or.inr e
                    · exact Or.inl ⟨by omega, q2⟩
                · constructor
                  · rintro ⟨q1, q2⟩
                    exact ⟨by omega, q2⟩
                  · rintro ⟨q1, q2, q3⟩
                    have : i ≠ r := fun e => hz (by rw [← e]; exact q3)
                    exact ⟨by omega, q2, q3⟩
              rcases a3 with ⟨rfl, a3⟩ | ⟨s, s1, rfl, s2, s3⟩
              · have hb2 : qbs (P p) (ag p) (r + 1) (nI r) := Or.inr ⟨r, by omega, rfl, hPr, fun i hi hPi => by
                  have : i = r := Classical.byContradiction fun e => a3 i (by omega) hPi
                  subst this
                  exact Or.inr ⟨rfl, Nat.le_refl _⟩⟩
                by_cases hz : ag p r = 0
                · rw [hz] at ea
                  simp (disch := first | omega | assumption) only [f_X2_chooseBest_b18, f_X2_chooseBest_j97, f_X2_chooseBest_j100, f_X2_chooseBest_j114, en, ef, qn_lit, qn_ofNat, qn_neg1, qn_neg2, nI_add, pk_mul, qn_sub, qn_ltT, qn_ltF, qn_leT, qn_leF, qn_eqT, qn_eqF, qn_m1T, qn_m1F, qn_m1F2, qn_m1lt, qn_m1lt2, qn_m1le, qn_m1le2, qn_and1, qn_and3, qn_and7, qn_and15, qn_and31, qn_and255, qn_and2047, qn_shl, qn_shr, qn_or, qn_div, qn_modlt, Nat.reduceMod, Nat.reduceAdd, Nat.reduceMul, Nat.reducePow, Nat.reduceDiv, Nat.reduceSub, ↓reduceIte, qn_us, qn_un, not_true_eq_false, not_false_eq_true, true_and, and_true, qn_nn, qn_addm, qn_ngT, qn_ngF, qn_ngE, qn_ngE2, qn_ngL, qn_ngM, Nat.add_sub_cancel, qL, qS, qM, qV, qQ, qZ0, qZ1, qE_l, qE_r, qW_some, b0, Nat.mul_comm p 8, ea, Nat.mul_one]
                  exact (bits _ hb2).1 hz
                · simp (disch := first | omega | assumption) only [f_X2_chooseBest_b18, f_X2_chooseBest_j97, f_X2_chooseBest_j100, f_X2_chooseBest_j114, en, ef, qn_lit, qn_ofNat, qn_neg1, qn_neg2, nI_add, pk_mul, qn_sub, qn_ltT, qn_ltF, qn_leT, qn_leF, qn_eqT, qn_eqF, qn_m1T, qn_m1F, qn_m1F2, qn_m1lt, qn_m1lt2, qn_m1le, qn_m1le2, qn_and1, qn_and3, qn_and7, qn_and15, qn_and31, qn_and255, qn_and2047, qn_shl, qn_shr, qn_or, qn_div, qn_modlt, Nat.reduceMod, Nat.reduceAdd, Nat.reduceMul, Nat.reducePow, Nat.reduceDiv, Nat.reduceSub, ↓reduceIte, qn_us, qn_un, not_true_eq_false, not_false_eq_true, true_and, and_true, qn_nn, qn_addm, qn_ngT, qn_ngF, qn_ngE, qn_ngE2, qn_ngL, qn_ngM, Nat.add_sub_cancel, qL, qS, qM, qV, qQ, qZ0, qZ1, qE_l, qE_r, qW_some, b0, Nat.mul_comm p 8, ea, Nat.mul_one]
                  exact (bits _ hb2).2 hz
              · obtain ⟨gs, gs2⟩ := hag p s hp (by omega)
                have es := q_entry (f := ks_against) (show 8 * p + s < 192 by omega) (by decide)
                rw [gs] at es
                by_cases hle : ag p s ≤ ag p r
                · have hb2 : qbs (P p) (ag p) (r + 1) (nI s) := Or.inr ⟨s, by omega, rfl, s2, fun i hi hPi => by
                    by_cases e : i = r
                    · subst e; omega
                    · exact s3 i (by omega) hPi⟩
                  by_cases hz : ag p r = 0
                  · simp (disch := first | omega | assumption) only [f_X2_chooseBest_b18, f_X2_chooseBest_j97, f_X2_chooseBest_j100, f_X2_chooseBest_j114, en, ef, qn_lit, qn_ofNat, qn_neg1, qn_neg2, nI_add, pk_mul, qn_sub, qn_ltT, qn_ltF, qn_leT, qn_leF, qn_eqT, qn_eqF, qn_m1T, qn_m1F, qn_m1F2, qn_m1lt, qn_m1lt2, qn_m1le, qn_m1le2, qn_and1, qn_and3, qn_and7, qn_and15, qn_and31, qn_and255, qn_and2047, qn_shl, qn_shr, qn_or, qn_div, qn_modlt, Nat.reduceMod, Nat.reduceAdd, Nat.reduceMul, Nat.reducePow, Nat.reduceDiv, Nat.reduceSub, ↓reduceIte, qn_us, qn_un, not_true_eq_false, not_false_eq_true, true_and, and_true, qn_nn, qn_addm, qn_ngT, qn_ngF, qn_ngE, qn_ngE2, qn_ngL, qn_ngM, Nat.add_sub_cancel, qL, qS, qM, qV, qQ, qZ0, qZ1, qE_l, qE_r, qW_some, b0, Nat.mul_comm p 8, ea, es, Nat.mul_one]
                    exact (bits _ hb2).1 hz
                  · simp (disch := first | omega | assumption) only [f_X2_chooseBest_b18, f_X2_chooseBest_j97, f_X2_chooseBest_j100, f_X2_chooseBest_j114, en, ef, qn_lit, qn_ofNat, qn_neg1, qn_neg2, nI_add, pk_mul, qn_sub, qn_ltT, qn_ltF, qn_leT, qn_leF, qn_eqT, qn_eqF, qn_m1T, qn_m1F, qn_m1F2, qn_m1lt, qn_m1lt2, qn_m1le, qn_m1le2, qn_and1, qn_and3, qn_and7, qn_and15, qn_and31, qn_and255, qn_and2047, qn_shl, qn_shr, qn_or, qn_div, qn_modlt, Nat.reduceMod, Nat.reduceAdd, Nat.reduceMul, Nat.reducePow, Nat.reduceDiv, Nat.reduceSub, ↓reduceIte, qn_us, qn_un, not_true_eq_false, not_false_eq_true, true_and, and_true, qn_nn, qn_addm, qn_ngT, qn_ngF, qn_ngE, qn_ngE2, qn_ngL, qn_ngM, Nat.add_sub_cancel, qL, qS, qM, qV, qQ, qZ0, qZ1, qE_l, qE_r, qW_some, b0, Nat.mul_comm p 8, ea, es, Nat.mul_one]
                    exact (bits _ hb2).2 hz
                · have hb2 : qbs (P p) (ag p) (r + 1) (nI r) := Or.inr ⟨r, by omega, rfl, hPr, fun i hi hPi => by
                    by_cases e : i = r
                    · subst e; exact Or.inr ⟨rfl, Nat.le_refl _⟩
                    · have := s3 i (by omega) hPi
                      omega⟩
                  by_cases hz : ag p r = 0
                  · simp (disch := first | omega | assumption) only [f_X2_chooseBest_b18, f_X2_chooseBest_j97, f_X2_chooseBest_j100, f_X2_chooseBest_j114, en, ef, qn_lit, qn_ofNat, qn_neg1, qn_neg2, nI_add, pk_mul, qn_sub, qn_ltT, qn_ltF, qn_leT, qn_leF, qn_eqT, qn_eqF, qn_m1T, qn_m1F, qn_m1F2, qn_m1lt, qn_m1lt2, qn_m1le, qn_m1le2, qn_and1, qn_and3, qn_and7, qn_and15, qn_and31, qn_and255, qn_and2047, qn_shl, qn_shr, qn_or, qn_div, qn_modlt, Nat.reduceMod, Nat.reduceAdd, Nat.reduceMul, Nat.reducePow, Nat.reduceDiv, Nat.reduceSub, ↓reduceIte, qn_us, qn_un, not_true_eq_false, not_false_eq_true, true_and, and_true, qn_nn, qn_addm, qn_ngT, qn_ngF, qn_ngE, qn_ngE2, qn_ngL, qn_ngM, Nat.add_sub_cancel, qL, qS, qM, qV, qQ, qZ0, qZ1, qE_l, qE_r, qW_some, b0, Nat.mul_comm p 8, ea, es, Nat.mul_one]
                    exact (bits _ hb2).1 hz
                  · simp (disch := first | omega | assumption) only [f_X2_chooseBest_b18, f_X2_chooseBest_j97, f_X2_chooseBest_j100, f_X2_chooseBest_j114, en, ef, qn_lit, qn_ofNat, qn_neg1, qn_neg2, nI_add, pk_mul, qn_sub, qn_ltT, qn_ltF, qn_leT, qn_leF, qn_eqT, qn_eqF, qn_m1T, qn_m1F, qn_m1F2, qn_m1lt, qn_m1lt2, qn_m1le, qn_m1le2, qn_and1, qn_and3, qn_and7, qn_and15, qn_and31, qn_and255, qn_and2047, qn_shl, qn_shr, qn_or, qn_div, qn_modlt, Nat.reduceMod, Nat.reduceAdd, Nat.reduceMul, Nat.reducePow, Nat.reduceDiv, Nat.reduceSub, ↓reduceIte, qn_us, qn_un, not_true_eq_false, not_false_eq_true, true_and, and_true, qn_nn, qn_addm, qn_ngT, qn_ngF, qn_ngE, qn_ngE2, qn_ngL, qn_ngM, Nat.add_sub_cancel, qL, qS, qM, qV, qQ, qZ0, qZ1, qE_l, qE_r, qW_some, b0, Nat.mul_comm p 8, ea, es, Nat.mul_one]
                    exact (bits _ hb2).2 hz
            · have hb : qbt m r = 0 := by
                have h1 : qbt m r < 2 := Nat.mod_lt _ (by decide)
                have h2 : ¬ qbt m r = 1 := fun z => hPr ((m3 r hr).mp z)
                omega
              rw [hb] at b0
              simp (disch := first | omega | assumption) only [f_X2_chooseBest_b18, f_X2_chooseBest_j114, en, ef, qn_lit, qn_ofNat, qn_neg1, qn_neg2, nI_add, pk_mul, qn_sub, qn_ltT, qn_ltF, qn_leT, qn_leF, qn_eqT, qn_eqF, qn_m1T, qn_m1F, qn_m1F2, qn_m1lt, qn_m1lt2, qn_m1le, qn_m1le2, qn_and1, qn_and3, qn_and7, qn_and15, qn_and31, qn_and255, qn_and2047, qn_shl, qn_shr, qn_or, qn_div, qn_modlt, Nat.reduceMod, Nat.reduceAdd, Nat.reduceMul, Nat.reducePow, Nat.reduceDiv, Nat.reduceSub, ↓reduceIte, qn_us, qn_un, not_true_eq_false, not_false_eq_true, true_and, and_true, qn_nn, qn_addm, qn_ngT, qn_ngF, qn_ngE, qn_ngE2, qn_ngL, qn_ngM, Nat.add_sub_cancel, qL, qS, qM, qV, qQ, qZ0, qZ1, qE_l, qE_r, qW_some, b0]
              refine ⟨x, ma, rfl, a1, fun i hi => (a2 i hi).trans ⟨fun q => ⟨by omega, q.2⟩, fun q => ?_⟩, ?_⟩
              · have : i ≠ r := fun e => hPr (by rw [← e]; exact q.2.1)
                exact ⟨by omega, q.2⟩
              · rcases a3 with ⟨rfl, a3⟩ | ⟨s, s1, rfl, s2, s3⟩
                · refine Or.inl ⟨rfl, fun i hi => ?_⟩
                  by_cases e : i = r
                  · rw [e]; exact hPr
                  · exact a3 i (by omega)
                · refine Or.inr ⟨s, by omega, rfl, s2, fun i hi hPi => ?_⟩
                  by_cases e : i = r
                  · rw [e] at hPi; exact absurd hPi hPr
                  · exact s3 i (by omega) hPi
          · rintro z ⟨x, ma, rfl, a1, a2, a3⟩
            simp (disch := first | omega | assumption) only [f_X2_chooseBest_b18, qn_lit, qn_ofNat, qn_neg1, qn_neg2, nI_add, pk_mul, qn_sub, qn_ltT, qn_ltF, qn_leT, qn_leF, qn_eqT, qn_eqF, qn_m1T, qn_m1F, qn_m1F2, qn_m1lt, qn_m1lt2, qn_m1le, qn_m1le2, qn_and1, qn_and3, qn_and7, qn_and15, qn_and31, qn_and255, qn_and2047, qn_shl, qn_shr, qn_or, qn_div, qn_modlt, Nat.reduceMod, Nat.reduceAdd, Nat.reduceMul, Nat.reducePow, Nat.reduceDiv, Nat.reduceSub, ↓reduceIte, qn_us, qn_un, not_true_eq_false, not_false_eq_true, true_and, and_true, qn_nn, qn_addm, qn_ngT, qn_ngF, qn_ngE, qn_ngE2, qn_ngL, qn_ngM, Nat.add_sub_cancel, qL, qS, qM, qV, qQ, qZ0, qZ1, qE_l, qE_r, qW_some]
            exact ⟨x, ma, rfl, a1, a2, a3⟩
        obtain ⟨e, g1, x, ma, rfl, g2, g3, g4⟩ := inner
        exact fin x (nI ma) (fun _ => ⟨⟨ma, g2, rfl, g3⟩, g4⟩) g1
      · have inner : qW (f_X2_chooseBest_l18 (nI n) (192, ks_against) (24, ks_fitting) (24, ks_least) (24, agr) (24, bst) (nI p) mI (nI 0) (nI 0)) (fun e => e = (mI, nI 0)) := by
          unfold f_X2_chooseBest_l18
          refine qfor 0 n (fun r z => z = (mI, nI 0, nI r)) rfl (by omega) (by omega) ?_ ?_
          · rintro r z - hr rfl
            simp (disch := first | omega | assumption) only [f_X2_chooseBest_b18, f_X2_chooseBest_j114, en, qn_lit, qn_ofNat, qn_neg1, qn_neg2, nI_add, pk_mul, qn_sub, qn_ltT, qn_ltF, qn_leT, qn_leF, qn_eqT, qn_eqF, qn_m1T, qn_m1F, qn_m1F2, qn_m1lt, qn_m1lt2, qn_m1le, qn_m1le2, qn_and1, qn_and3, qn_and7, qn_and15, qn_and31, qn_and255, qn_and2047, qn_shl, qn_shr, qn_or, qn_div, qn_modlt, Nat.reduceMod, Nat.reduceAdd, Nat.reduceMul, Nat.reducePow, Nat.reduceDiv, Nat.reduceSub, ↓reduceIte, qn_us, qn_un, not_true_eq_false, not_false_eq_true, true_and, and_true, qn_nn, qn_addm, qn_ngT, qn_ngF, qn_ngE, qn_ngE2, qn_ngL, qn_ngM, Nat.add_sub_cancel, qL, qS, qM, qV, qQ, qZ0, qZ1, qE_l, qE_r, qW_some]
          · rintro z rfl
            simp (disch := first | omega | assumption) only [f_X2_chooseBest_b18, qn_lit, qn_ofNat, qn_neg1, qn_neg2, nI_add, pk_mul, qn_sub, qn_ltT, qn_ltF, qn_leT, qn_leF, qn_eqT, qn_eqF, qn_m1T, qn_m1F, qn_m1F2, qn_m1lt, qn_m1lt2, qn_m1le, qn_m1le2, qn_and1, qn_and3, qn_and7, qn_and15, qn_and31, qn_and255, qn_and2047, qn_shl, qn_shr, qn_or, qn_div, qn_modlt, Nat.reduceMod, Nat.reduceAdd, Nat.reduceMul, Nat.reducePow, Nat.reduceDiv, Nat.reduceSub, ↓reduceIte, qn_us, qn_un, not_true_eq_false, not_false_eq_true, true_and, and_true, qn_nn, qn_addm, qn_ngT, qn_ngF, qn_ngE, qn_ngE2, qn_ngL, qn_ngM, Nat.add_sub_cancel, qL, qS, qM, qV, qQ, qZ0, qZ1, qE_l, qE_r, qW_some]
        obtain ⟨e, g1, rfl⟩ := inner
        exact fin mI (nI 0) (fun z => absurd z hFp) g1
    · rintro z ⟨agr, bst, rfl, g⟩
      simp (disch := first | omega | assumption) only [f_X2_chooseBest_b2, qn_lit, qn_ofNat, qn_neg1, qn_neg2, nI_add, pk_mul, qn_sub, qn_ltT, qn_ltF, qn_leT, qn_leF, qn_eqT, qn_eqF, qn_m1T, qn_m1F, qn_m1F2, qn_m1lt, qn_m1lt2, qn_m1le, qn_m1le2, qn_and1, qn_and3, qn_and7, qn_and15, qn_and31, qn_and255, qn_and2047, qn_shl, qn_shr, qn_or, qn_div, qn_modlt, Nat.reduceMod, Nat.reduceAdd, Nat.reduceMul, Nat.reducePow, Nat.reduceDiv, Nat.reduceSub, ↓reduceIte, qn_us, qn_un, not_true_eq_false, not_false_eq_true, true_and, and_true, qn_nn, qn_addm, qn_ngT, qn_ngF, qn_ngE, qn_ngE2, qn_ngL, qn_ngM, Nat.add_sub_cancel, qL, qS, qM, qV, qQ, qZ0, qZ1, qE_l, qE_r, qW_some]
      exact ⟨agr, bst, rfl, g⟩
  obtain ⟨e, g1, agr', bst', rfl, g2⟩ := loop
  exact ⟨agr', bst', by simp (disch := first | omega | assumption) only [f_X2_chooseBest, g1, qn_lit, qn_ofNat, qn_neg1, qn_neg2, nI_add, pk_mul, qn_sub, qn_ltT, qn_ltF, qn_leT, qn_leF, qn_eqT, qn_eqF, qn_m1T, qn_m1F, qn_m1F2, qn_m1lt, qn_m1lt2, qn_m1le, qn_m1le2, qn_and1, qn_and3, qn_and7, qn_and15, qn_and31, qn_and255, qn_and2047, qn_shl, qn_shr, qn_or, qn_div, qn_modlt, Nat.reduceMod, Nat.reduceAdd, Nat.reduceMul, Nat.reducePow, Nat.reduceDiv, Nat.reduceSub, ↓reduceIte, qn_us, qn_un, not_true_eq_false, not_false_eq_true, true_and, and_true, qn_nn, qn_addm, qn_ngT, qn_ngF, qn_ngE, qn_ngE2, qn_ngL, qn_ngM, Nat.add_sub_cancel, qL, qS, qM, qV, qQ, qZ0, qZ1, qE_l, qE_r, qW_some], g2⟩

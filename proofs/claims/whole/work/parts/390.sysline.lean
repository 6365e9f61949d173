/-! a line of a system's text: both sides together -/
theorem q_laterT (a b c d : Int32) : ∃ x y, f_X12_later a b c d = some (x, y) := by
  unfold f_X12_later f_X12_later_j15
  split
  · exact ⟨_, _, rfl⟩
  · split
    · exact ⟨_, _, rfl⟩
    · exact ⟨_, _, rfl⟩
theorem q_one {m' c s : Nat} (LF LP : Int32) : ∃ LF1 LP1, (c < m' ∧ LF1 = LF ∧ LP1 = LP) ∨ (m' ≤ c ∧ f_X12_later LF LP (nI 2) (nI s) = some (LF1, LP1)) := by
  by_cases h : c < m'
  · exact ⟨LF, LP, Or.inl ⟨h, rfl, rfl⟩⟩
  · obtain ⟨x, y, h2⟩ := q_laterT LF LP (nI 2) (nI s)
    exact ⟨x, y, Or.inr ⟨by omega, h2⟩⟩
def qTieBad (L m m' s e k b id : Nat) (xb rt ch wi nc nw : Nat → Int32) (F P LF LP l v wr : Int32) (w : Int64) : Prop := ∃ f a1 a2 a3 b1 b2 b3 b4 b5 b6 b7 b8 nc' nw', f ≤ 400 ∧ f_X8_readTie_j33 (nI L) (nI m) (400, xb) (nI e) F P (nI k) (nI s) (8, ch) (8, wi) (nI s) (nI b) id = some (nI 0, a1, nI 1, nI f, a2, a3, (8, ch), (8, wi)) ∧ f_X12_systemLine_j27 (nI L) (nI m') (1600, rt) (nI e) (nI s) LF LP l (nI (tk2 k)) v w wr (8, nc) (8, nw) (nI b) = some (nI 0, b1, b2, b3, b4, b5, b6, b7, b8, nI f, (8, nc'), (8, nw'))
def qTieGood (L m m' s e k b id : Nat) (T : Nat → Nat) (xb rt ch wi nc nw : Nat → Int32) (F P LF LP l v wr : Int32) (w : Int64) : Prop := ∃ s' e' k' F' P' LF' LP' a' b' l' o' v' w' ch' wi' nc' nw', s < s' ∧ qTk T L s' e' k' ∧ qRk T s' e' k' a' b' l' o' v' w' ∧ qFz s' F' P' LF' LP' ∧ (F' = nI 0 → F = nI 0 ∧ m' = m) ∧ qTi ch' wi' nc' nw' ∧ f_X8_readTie_j33 (nI L) (nI m) (400, xb) (nI e) F P (nI k) (nI s) (8, ch) (8, wi) (nI s) (nI b) id = some (nI 1, nI e', F', P', nI k', nI s', (8, ch'), (8, wi')) ∧ f_X12_systemLine_j27 (nI L) (nI m') (1600, rt) (nI e) (nI s) LF LP l (nI (tk2 k)) v w wr (8, nc) (8, nw) (nI b) = some (nI 1, a', b', LF', LP', l', o', v', w', wr, (8, nc'), (8, nw'))
theorem q_tieAll {L m m' s e k b id : Nat} {T : Nat → Nat} {xb rt ch wi nc nw : Nat → Int32} {F P LF LP l v wr : Int32} {w : Int64} (hL : L ≤ 400) (hT : ∀ i, i < L → qby (xb i) = T i) (hR : ∀ i, i < L → qby (rt i) = T i) (hk : qTk T L s e k) (hk1 : k = 1) (hm : m ≤ 8) (hm' : m' < 10000) (hF : qFz s F P LF LP) (hmm : F = nI 0 → m' = m) (hti : qTi ch wi nc nw) (hb : b < 2) (hid : f_X5_isWord (nI e) (nI L) (nI k) (nI s) (400, xb) id = some (nI 1)) : qTieBad L m m' s e k b id xb rt ch wi nc nw F P LF LP l v wr w ∨ qTieGood L m m' s e k b id T xb rt ch wi nc nw F P LF LP l v wr w := by
  have tw := q_takeWord1 hL hT hk hid F P
  have hse : s < e := (hk.2.2.2.2.1 hk1).1
  have x1 := tk_tok (T := T) hk.2.1
  have n1 := tkS_le (T := T) hk.2.1
  obtain ⟨a1, b1, l1, o1, v1, w1, g1, rfl, rfl, q1, rfl, -, q2⟩ := q_token hL hk.2.1 hR (nI s) l (nI (tk2 k)) v w
  generalize hs1 : tkS T L e = s1 at *
  generalize he1 : tkE T L e = e1 at *
  generalize hk1' : tkK T L e = k1 at *
  have x1b := x1.2.1
  by_cases t1 : tcl T s1 e1 k1
  · have tc1 := q_takeClass1 hL hT x1 t1 F P
    have x2 := tk_tok (T := T) x1.2.1
    have n2 := tkS_le (T := T) x1.2.1
    have lt1 := (x1.2.2.2.2.1 t1.1).2 s1 (Nat.le_refl _) (x1.2.2.2.2.1 t1.1).1
    have c18 : T s1 - 97 < 8 := by have := t1.2.2; omega
    have e1s : s1 < e1 := (x1.2.2.2.2.1 t1.1).1
    generalize hs2 : tkS T L e1 = s2 at *
    generalize he2 : tkE T L e1 = e2 at *
    generalize hk2' : tkK T L e1 = k2 at *
    by_cases t2 : tcl T s2 e2 k2
    · have tc2 := q_takeClass1 hL hT x2 t2 F P
      have x3 := tk_tok (T := T) x2.2.1
      have n3 := tkS_le (T := T) x2.2.1
      have lt2 := (x2.2.2.2.2.1 t2.1).2 s2 (Nat.le_refl _) (x2.2.2.2.2.1 t2.1).1
      have c28 : T s2 - 97 < 8 := by have := t2.2.2; omega
      have e2s : s2 < e2 := (x2.2.2.2.2.1 t2.1).1
      obtain ⟨hc1, hc2, hc3, hc4⟩ := hti (T s1 - 97) c18
      have hold : ∃ old, old = (if b = 0 then ch (T s1 - 97) else wi (T s1 - 97)) := ⟨_, rfl⟩
      obtain ⟨old, ho⟩ := hold
      have ho2 : old = mI ∨ ∃ v, v < 8 ∧ old = nI v := by
        rw [ho]
        split
        · exact hc3
        · exact hc4
      obtain ⟨F', P', LF1, LP1, LF2, LP2, LF3, LP3, r1, r2, r3, r4, r5, r6, r7⟩ := q_blame3 (m := m) (s0 := s) (s1 := s1) (s2 := s2) (c1 := T s1 - 97) (c2 := T s2 - 97) (old := old) hm hm' c18 c28 (by omega) (by omega) (by omega) hF hmm ho2 (nI (tkE T L (tkE T L e2))) (nI (tkK T L (tkE T L e2))) (nI (tkS T L (tkE T L e2))) (8, ch) (8, wi) (nI b)
      obtain ⟨a2, b2, l2, o2, v2, w2, g2, rfl, rfl, q3, rfl, -, q4⟩ := q_oneClass1 hL hR x1 t1 hm' LF LP LF1 LP1 l1 v1 wr w1 q1 q2 r1
      rw [hs2, he2, hk2'] at g2 q3 q4
      obtain ⟨a3, b3, l3, o3, v3, w3, g3, rfl, rfl, q5, rfl, -, q6⟩ := q_oneClass1 hL hR x2 t2 hm' LF1 LP1 LF2 LP2 l2 v2 wr w2 q3 q4 r2
      generalize hs3 : tkS T L e2 = s3 at *
      generalize he3 : tkE T L e2 = e3 at *
      generalize hk3' : tkK T L e2 = k3 at *
      have x3b := x3.2.1
      have x3a := x3.1
      have ic : ¬ nI (T s1 - 97) = mI := by rw [qn_m1F (by omega)]; exact not_false
      have ic2 : ¬ nI (T s2 - 97) = mI := by rw [qn_m1F (by omega)]; exact not_false
      have tf1 := q_entry (f := ch) (j := T s1 - 97) (N := 8) c18 (by decide)
      have tf2 := q_entry (f := wi) (j := T s1 - 97) (N := 8) c18 (by decide)
      have ts1 := q_set (f := ch) (j := T s1 - 97) (N := 8) (x := nI (T s2 - 97)) c18 (by decide)
      have ts2 := q_set (f := wi) (j := T s1 - 97) (N := 8) (x := nI (T s2 - 97)) c18 (by decide)
      by_cases k33 : k3 = 3
      · right
        have tm := q_takeMark1 hL hT x3 k33 F P
        obtain ⟨a4, b4, l4, o4, v4, w4, g4, g5⟩ := q_semi1 hL hR x3 k33 l3 v3 w3 wr
        have x4 := tk_tok (T := T) x3.2.1
        have n4 := tkS_le (T := T) x3.2.1
        have b01 : b = 0 ∨ b = 1 := by omega
        rcases b01 with rfl | rfl
        · rw [if_pos rfl] at ho
          subst ho
          refine ⟨tkS T L e3, tkE T L e3, tkK T L e3, F', P', LF3, LP3, a4, b4, l4, o4, v4, w4, upd ch (T s1 - 97) (nI (T s2 - 97)), wi, upd nc (T s1 - 97) (nI (T s2 - 97)), nw, by omega, x4, g5, qFz_mono r4 (by omega), r5, qTi_c hti c28, ?_, ?_⟩
          · by_cases o : ch (T s1 - 97) = mI
            · simp (disch := first | omega | assumption) only [f_X8_readTie_j33, f_X8_readTie_j168, f_X10_tieOf, f_X10_tieOf_j15, f_X10_tie, f_X10_tie_j15, tw, tc1, tc2, tm, tf1, o, r6 o, ts1, qn_lit, qn_ofNat, qn_neg1, qn_neg2, nI_add, pk_mul, qn_sub, qn_ltT, qn_ltF, qn_leT, qn_leF, qn_eqT, qn_eqF, qn_m1T, qn_m1F, qn_m1F2, qn_m1lt, qn_m1lt2, qn_m1le, qn_m1le2, qn_and1, qn_and3, qn_and7, qn_and15, qn_and31, qn_and255, qn_and2047, qn_shl, qn_shr, qn_or, qn_div, qn_modlt, Nat.reduceMod, Nat.reduceAdd, Nat.reduceMul, Nat.reducePow, Nat.reduceDiv, Nat.reduceSub, ↓reduceIte, qn_us, qn_un, not_true_eq_false, not_false_eq_true, true_and, and_true, qn_nn, qn_addm, qn_ngT, qn_ngF, qn_ngE, qn_ngE2, qn_ngL, qn_ngM, Nat.add_sub_cancel, qL, qS, qM, qV, qQ, qZ0, qZ1, qE_l, qE_r, qW_some]
            · obtain ⟨F1, P1, y1, y2⟩ := r7 o
              simp (disch := first | omega | assumption) only [f_X8_readTie_j33, f_X8_readTie_j168, f_X10_tieOf, f_X10_tieOf_j15, f_X10_tie, f_X10_tie_j15, tw, tc1, tc2, tm, tf1, o, y1, y2, ts1, qn_lit, qn_ofNat, qn_neg1, qn_neg2, nI_add, pk_mul, qn_sub, qn_ltT, qn_ltF, qn_leT, qn_leF, qn_eqT, qn_eqF, qn_m1T, qn_m1F, qn_m1F2, qn_m1lt, qn_m1lt2, qn_m1le, qn_m1le2, qn_and1, qn_and3, qn_and7, qn_and15, qn_and31, qn_and255, qn_and2047, qn_shl, qn_shr, qn_or, qn_div, qn_modlt, Nat.reduceMod, Nat.reduceAdd, Nat.reduceMul, Nat.reducePow, Nat.reduceDiv, Nat.reduceSub, ↓reduceIte, qn_us, qn_un, not_true_eq_false, not_false_eq_true, true_and, and_true, qn_nn, qn_addm, qn_ngT, qn_ngF, qn_ngE, qn_ngE2, qn_ngL, qn_ngM, Nat.add_sub_cancel, qL, qS, qM, qV, qQ, qZ0, qZ1, qE_l, qE_r, qW_some]
          · rcases r3 with ⟨o, rfl, rfl⟩ | ⟨o, y1⟩
            · simp (disch := first | omega | assumption) only [f_X12_systemLine_j27, f_X12_systemLine_j54, f_X12_systemLine_j83, f_X12_systemLine_j97, f_X12_systemLine_j120, g1, g2, g3, g4, hc1, o, qn_lit, qn_ofNat, qn_neg1, qn_neg2, nI_add, pk_mul, qn_sub, qn_ltT, qn_ltF, qn_leT, qn_leF, qn_eqT, qn_eqF, qn_m1T, qn_m1F, qn_m1F2, qn_m1lt, qn_m1lt2, qn_m1le, qn_m1le2, qn_and1, qn_and3, qn_and7, qn_and15, qn_and31, qn_and255, qn_and2047, qn_shl, qn_shr, qn_or, qn_div, qn_modlt, Nat.reduceMod, Nat.reduceAdd, Nat.reduceMul, Nat.reducePow, Nat.reduceDiv, Nat.reduceSub, ↓reduceIte, qn_us, qn_un, not_true_eq_false, not_false_eq_true, true_and, and_true, qn_nn, qn_addm, qn_ngT, qn_ngF, qn_ngE, qn_ngE2, qn_ngL, qn_ngM, Nat.add_sub_cancel, qL, qS, qM, qV, qQ, qZ0, qZ1, qE_l, qE_r, qW_some]
            · simp (disch := first | omega | assumption) only [f_X12_systemLine_j27, f_X12_systemLine_j54, f_X12_systemLine_j83, f_X12_systemLine_j97, f_X12_systemLine_j120, g1, g2, g3, g4, hc1, o, y1, qn_lit, qn_ofNat, qn_neg1, qn_neg2, nI_add, pk_mul, qn_sub, qn_ltT, qn_ltF, qn_leT, qn_leF, qn_eqT, qn_eqF, qn_m1T, qn_m1F, qn_m1F2, qn_m1lt, qn_m1lt2, qn_m1le, qn_m1le2, qn_and1, qn_and3, qn_and7, qn_and15, qn_and31, qn_and255, qn_and2047, qn_shl, qn_shr, qn_or, qn_div, qn_modlt, Nat.reduceMod, Nat.reduceAdd, Nat.reduceMul, Nat.reducePow, Nat.reduceDiv, Nat.reduceSub, ↓reduceIte, qn_us, qn_un, not_true_eq_false, not_false_eq_true, true_and, and_true, qn_nn, qn_addm, qn_ngT, qn_ngF, qn_ngE, qn_ngE2, qn_ngL, qn_ngM, Nat.add_sub_cancel, qL, qS, qM, qV, qQ, qZ0, qZ1, qE_l, qE_r, qW_some]
        · rw [if_neg (by decide)] at ho
          subst ho
          refine ⟨tkS T L e3, tkE T L e3, tkK T L e3, F', P', LF3, LP3, a4, b4, l4, o4, v4, w4, ch, upd wi (T s1 - 97) (nI (T s2 - 97)), nc, upd nw (T s1 - 97) (nI (T s2 - 97)), by omega, x4, g5, qFz_mono r4 (by omega), r5, qTi_w hti c28, ?_, ?_⟩
          · by_cases o : wi (T s1 - 97) = mI
            · simp (disch := first | omega | assumption) only [f_X8_readTie_j33, f_X8_readTie_j168, f_X10_tieOf, f_X10_tieOf_j15b, f_X10_tie, f_X10_tie_j15b, tw, tc1, tc2, tm, tf2, o, r6 o, ts2, qn_lit, qn_ofNat, qn_neg1, qn_neg2, nI_add, pk_mul, qn_sub, qn_ltT, qn_ltF, qn_leT, qn_leF, qn_eqT, qn_eqF, qn_m1T, qn_m1F, qn_m1F2, qn_m1lt, qn_m1lt2, qn_m1le, qn_m1le2, qn_and1, qn_and3, qn_and7, qn_and15, qn_and31, qn_and255, qn_and2047, qn_shl, qn_shr, qn_or, qn_div, qn_modlt, Nat.reduceMod, Nat.reduceAdd, Nat.reduceMul, Nat.reducePow, Nat.reduceDiv, Nat.reduceSub, ↓reduceIte, qn_us, qn_un, not_true_eq_false, not_false_eq_true, true_and, and_true, qn_nn, qn_addm, qn_ngT, qn_ngF, qn_ngE, qn_ngE2, qn_ngL, qn_ngM, Nat.add_sub_cancel, qL, qS, qM, qV, qQ, qZ0, qZ1, qE_l, qE_r, qW_some]
            · obtain ⟨F1, P1, y1, y2⟩ := r7 o
              simp (disch := first | omega | assumption) only [f_X8_readTie_j33, f_X8_readTie_j168, f_X10_tieOf, f_X10_tieOf_j15b, f_X10_tie, f_X10_tie_j15b, tw, tc1, tc2, tm, tf2, o, y1, y2, ts2, qn_lit, qn_ofNat, qn_neg1, qn_neg2, nI_add, pk_mul, qn_sub, qn_ltT, qn_ltF, qn_leT, qn_leF, qn_eqT, qn_eqF, qn_m1T, qn_m1F, qn_m1F2, qn_m1lt, qn_m1lt2, qn_m1le, qn_m1le2, qn_and1, qn_and3, qn_and7, qn_and15, qn_and31, qn_and255, qn_and2047, qn_shl, qn_shr, qn_or, qn_div, qn_modlt, Nat.reduceMod, Nat.reduceAdd, Nat.reduceMul, Nat.reducePow, Nat.reduceDiv, Nat.reduceSub, ↓reduceIte, qn_us, qn_un, not_true_eq_false, not_false_eq_true, true_and, and_true, qn_nn, qn_addm, qn_ngT, qn_ngF, qn_ngE, qn_ngE2, qn_ngL, qn_ngM, Nat.add_sub_cancel, qL, qS, qM, qV, qQ, qZ0, qZ1, qE_l, qE_r, qW_some]
          · rcases r3 with ⟨o, rfl, rfl⟩ | ⟨o, y1⟩
            · simp (disch := first | omega | assumption) only [f_X12_systemLine_j27, f_X12_systemLine_j54, f_X12_systemLine_j83, f_X12_systemLine_j97, f_X12_systemLine_j120, g1, g2, g3, g4, hc2, o, qn_lit, qn_ofNat, qn_neg1, qn_neg2, nI_add, pk_mul, qn_sub, qn_ltT, qn_ltF, qn_leT, qn_leF, qn_eqT, qn_eqF, qn_m1T, qn_m1F, qn_m1F2, qn_m1lt, qn_m1lt2, qn_m1le, qn_m1le2, qn_and1, qn_and3, qn_and7, qn_and15, qn_and31, qn_and255, qn_and2047, qn_shl, qn_shr, qn_or, qn_div, qn_modlt, Nat.reduceMod, Nat.reduceAdd, Nat.reduceMul, Nat.reducePow, Nat.reduceDiv, Nat.reduceSub, ↓reduceIte, qn_us, qn_un, not_true_eq_false, not_false_eq_true, true_and, and_true, qn_nn, qn_addm, qn_ngT, qn_ngF, qn_ngE, qn_ngE2, qn_ngL, qn_ngM, Nat.add_sub_cancel, qL, qS, qM, qV, qQ, qZ0, qZ1, qE_l, qE_r, qW_some]
            · simp (disch := first | omega | assumption) only [f_X12_systemLine_j27, f_X12_systemLine_j54, f_X12_systemLine_j83, f_X12_systemLine_j97, f_X12_systemLine_j120, g1, g2, g3, g4, hc2, o, y1, qn_lit, qn_ofNat, qn_neg1, qn_neg2, nI_add, pk_mul, qn_sub, qn_ltT, qn_ltF, qn_leT, qn_leF, qn_eqT, qn_eqF, qn_m1T, qn_m1F, qn_m1F2, qn_m1lt, qn_m1lt2, qn_m1le, qn_m1le2, qn_and1, qn_and3, qn_and7, qn_and15, qn_and31, qn_and255, qn_and2047, qn_shl, qn_shr, qn_or, qn_div, qn_modlt, Nat.reduceMod, Nat.reduceAdd, Nat.reduceMul, Nat.reducePow, Nat.reduceDiv, Nat.reduceSub, ↓reduceIte, qn_us, qn_un, not_true_eq_false, not_false_eq_true, true_and, and_true, qn_nn, qn_addm, qn_ngT, qn_ngF, qn_ngE, qn_ngE2, qn_ngL, qn_ngM, Nat.add_sub_cancel, qL, qS, qM, qV, qQ, qZ0, qZ1, qE_l, qE_r, qW_some]
      · left
        have tm := q_takeMark0 (xb := xb) x3 k33 F P
        have g4 := q_semi0 (rt := rt) x3 k33 l3 v3 w3 wr
        have b01 : b = 0 ∨ b = 1 := by omega
        rcases b01 with rfl | rfl
        · rw [if_pos rfl] at ho
          subst ho
          refine ⟨s3, nI e3, nI k3, nI s3, nI e3, nI s3, LF3, LP3, l3, nI (tk2 k3), v3, w3, upd nc (T s1 - 97) (nI (T s2 - 97)), nw, by omega, by simp (disch := first | omega | assumption) only [f_X8_readTie_j33, tw, tc1, tc2, tm, qn_lit, qn_ofNat, qn_neg1, qn_neg2, nI_add, pk_mul, qn_sub, qn_ltT, qn_ltF, qn_leT, qn_leF, qn_eqT, qn_eqF, qn_m1T, qn_m1F, qn_m1F2, qn_m1lt, qn_m1lt2, qn_m1le, qn_m1le2, qn_and1, qn_and3, qn_and7, qn_and15, qn_and31, qn_and255, qn_and2047, qn_shl, qn_shr, qn_or, qn_div, qn_modlt, Nat.reduceMod, Nat.reduceAdd, Nat.reduceMul, Nat.reducePow, Nat.reduceDiv, Nat.reduceSub, ↓reduceIte, qn_us, qn_un, not_true_eq_false, not_false_eq_true, true_and, and_true, qn_nn, qn_addm, qn_ngT, qn_ngF, qn_ngE, qn_ngE2, qn_ngL, qn_ngM, Nat.add_sub_cancel, qL, qS, qM, qV, qQ, qZ0, qZ1, qE_l, qE_r, qW_some], ?_⟩
          rcases r3 with ⟨o, rfl, rfl⟩ | ⟨o, y1⟩
          · simp (disch := first | omega | assumption) only [f_X12_systemLine_j27, f_X12_systemLine_j54, f_X12_systemLine_j83, f_X12_systemLine_j97, f_X12_systemLine_j120, g1, g2, g3, g4, hc1, o, qn_lit, qn_ofNat, qn_neg1, qn_neg2, nI_add, pk_mul, qn_sub, qn_ltT, qn_ltF, qn_leT, qn_leF, qn_eqT, qn_eqF, qn_m1T, qn_m1F, qn_m1F2, qn_m1lt, qn_m1lt2, qn_m1le, qn_m1le2, qn_and1, qn_and3, qn_and7, qn_and15, qn_and31, qn_and255, qn_and2047, qn_shl, qn_shr, qn_or, qn_div, qn_modlt, Nat.reduceMod, Nat.reduceAdd, Nat.reduceMul, Nat.reducePow, Nat.reduceDiv, Nat.reduceSub, ↓reduceIte, qn_us, qn_un, not_true_eq_false, not_false_eq_true, true_and, and_true, qn_nn, qn_addm, qn_ngT, qn_ngF, qn_ngE, qn_ngE2, qn_ngL, qn_ngM, Nat.add_sub_cancel, qL, qS, qM, qV, qQ, qZ0, qZ1, qE_l, qE_r, qW_some]
          · simp (disch := first | omega | assumption) only [f_X12_systemLine_j27, f_X12_systemLine_j54, f_X12_systemLine_j83, f_X12_systemLine_j97, f_X12_systemLine_j120, g1, g2, g3, g4, hc1, o, y1, qn_lit, qn_ofNat, qn_neg1, qn_neg2, nI_add, pk_mul, qn_sub, qn_ltT, qn_ltF, qn_leT, qn_leF, qn_eqT, qn_eqF, qn_m1T, qn_m1F, qn_m1F2, qn_m1lt, qn_m1lt2, qn_m1le, qn_m1le2, qn_and1, qn_and3, qn_and7, qn_and15, qn_and31, qn_and255, qn_and2047, qn_shl, qn_shr, qn_or, qn_div, qn_modlt, Nat.reduceMod, Nat.reduceAdd, Nat.reduceMul, Nat.reducePow, Nat.reduceDiv, Nat.reduceSub, ↓reduceIte, qn_us, qn_un, not_true_eq_false, not_false_eq_true, true_and, and_true, qn_nn, qn_addm, qn_ngT, qn_ngF, qn_ngE, qn_ngE2, qn_ngL, qn_ngM, Nat.add_sub_cancel, qL, qS, qM, qV, qQ, qZ0, qZ1, qE_l, qE_r, qW_some]
        · rw [if_neg (by decide)] at ho
          subst ho
          refine ⟨s3, nI e3, nI k3, nI s3, nI e3, nI s3, LF3, LP3, l3, nI (tk2 k3), v3, w3, nc, upd nw (T s1 - 97) (nI (T s2 - 97)), by omega, by simp (disch := first | omega | assumption) only [f_X8_readTie_j33, tw, tc1, tc2, tm, qn_lit, qn_ofNat, qn_neg1, qn_neg2, nI_add, pk_mul, qn_sub, qn_ltT, qn_ltF, qn_leT, qn_leF, qn_eqT, qn_eqF, qn_m1T, qn_m1F, qn_m1F2, qn_m1lt, qn_m1lt2, qn_m1le, qn_m1le2, qn_and1, qn_and3, qn_and7, qn_and15, qn_and31, qn_and255, qn_and2047, qn_shl, qn_shr, qn_or, qn_div, qn_modlt, Nat.reduceMod, Nat.reduceAdd, Nat.reduceMul, Nat.reducePow, Nat.reduceDiv, Nat.reduceSub, ↓reduceIte, qn_us, qn_un, not_true_eq_false, not_false_eq_true, true_and, and_true, qn_nn, qn_addm, qn_ngT, qn_ngF, qn_ngE, qn_ngE2, qn_ngL, qn_ngM, Nat.add_sub_cancel, qL, qS, qM, qV, qQ, qZ0, qZ1, qE_l, qE_r, qW_some], ?_⟩
          rcases r3 with ⟨o, rfl, rfl⟩ | ⟨o, y1⟩
          · simp (disch := first | omega | assumption) only [f_X12_systemLine_j27, f_X12_systemLine_j54, f_X12_systemLine_j83, f_X12_systemLine_j97, f_X12_systemLine_j120, g1, g2, g3, g4, hc2, o, qn_lit, qn_ofNat, qn_neg1, qn_neg2, nI_add, pk_mul, qn_sub, qn_ltT, qn_ltF, qn_leT, qn_leF, qn_eqT, qn_eqF, qn_m1T, qn_m1F, qn_m1F2, qn_m1lt, qn_m1lt2, qn_m1le, qn_m1le2, qn_and1, qn_and3, qn_and7, qn_and15, qn_and31, qn_and255, qn_and2047, qn_shl, qn_shr, qn_or, qn_div, qn_modlt, Nat.reduceMod, Nat.reduceAdd, Nat.reduceMul, Nat.reducePow, Nat.reduceDiv, Nat.reduceSub, ↓reduceIte, qn_us, qn_un, not_true_eq_false, not_false_eq_true, true_and, and_true, qn_nn, qn_addm, qn_ngT, qn_ngF, qn_ngE, qn_ngE2, qn_ngL, qn_ngM, Nat.add_sub_cancel, qL, qS, qM, qV, qQ, qZ0, qZ1, qE_l, qE_r, qW_some]
          · simp (disch := first | omega | assumption) only [f_X12_systemLine_j27, f_X12_systemLine_j54, f_X12_systemLine_j83, f_X12_systemLine_j97, f_X12_systemLine_j120, g1, g2, g3, g4, hc2, o, y1, qn_lit, qn_ofNat, qn_neg1, qn_neg2, nI_add, pk_mul, qn_sub, qn_ltT, qn_ltF, qn_leT, qn_leF, qn_eqT, qn_eqF, qn_m1T, qn_m1F, qn_m1F2, qn_m1lt, qn_m1lt2, qn_m1le, qn_m1le2, qn_and1, qn_and3, qn_and7, qn_and15, qn_and31, qn_and255, qn_and2047, qn_shl, qn_shr, qn_or, qn_div, qn_modlt, Nat.reduceMod, Nat.reduceAdd, Nat.reduceMul, Nat.reducePow, Nat.reduceDiv, Nat.reduceSub, ↓reduceIte, qn_us, qn_un, not_true_eq_false, not_false_eq_true, true_and, and_true, qn_nn, qn_addm, qn_ngT, qn_ngF, qn_ngE, qn_ngE2, qn_ngL, qn_ngM, Nat.add_sub_cancel, qL, qS, qM, qV, qQ, qZ0, qZ1, qE_l, qE_r, qW_some]
    · left
      have tc2 := q_takeClass0 hL hT x2 t2 F P
      obtain ⟨LF1, LP1, r1⟩ := q_one (m' := m') (c := T s1 - 97) (s := s1) LF LP
      obtain ⟨a2, b2, l2, o2, v2, w2, g2, rfl, rfl, q3, rfl, -, q4⟩ := q_oneClass1 hL hR x1 t1 hm' LF LP LF1 LP1 l1 v1 wr w1 q1 q2 r1
      rw [hs2, he2, hk2'] at g2 q3 q4
      have g3 := q_oneClass0 (NC := nI m') hL hR x2 t2 LF1 LP1 l2 v2 wr w2 q3 q4
      have x2b := x2.2.1
      refine ⟨s2, nI e2, nI k2, nI s2, nI e2, nI s2, LF1, LP1, l2, nI (tk2 k2), v2, w2, nc, nw, by omega, by simp (disch := first | omega | assumption) only [f_X8_readTie_j33, tw, tc1, tc2, qn_lit, qn_ofNat, qn_neg1, qn_neg2, nI_add, pk_mul, qn_sub, qn_ltT, qn_ltF, qn_leT, qn_leF, qn_eqT, qn_eqF, qn_m1T, qn_m1F, qn_m1F2, qn_m1lt, qn_m1lt2, qn_m1le, qn_m1le2, qn_and1, qn_and3, qn_and7, qn_and15, qn_and31, qn_and255, qn_and2047, qn_shl, qn_shr, qn_or, qn_div, qn_modlt, Nat.reduceMod, Nat.reduceAdd, Nat.reduceMul, Nat.reducePow, Nat.reduceDiv, Nat.reduceSub, ↓reduceIte, qn_us, qn_un, not_true_eq_false, not_false_eq_true, true_and, and_true, qn_nn, qn_addm, qn_ngT, qn_ngF, qn_ngE, qn_ngE2, qn_ngL, qn_ngM, Nat.add_sub_cancel, qL, qS, qM, qV, qQ, qZ0, qZ1, qE_l, qE_r, qW_some], ?_⟩
      simp (disch := first | omega | assumption) only [f_X12_systemLine_j27, f_X12_systemLine_j54, g1, g2, g3, qn_lit, qn_ofNat, qn_neg1, qn_neg2, nI_add, pk_mul, qn_sub, qn_ltT, qn_ltF, qn_leT, qn_leF, qn_eqT, qn_eqF, qn_m1T, qn_m1F, qn_m1F2, qn_m1lt, qn_m1lt2, qn_m1le, qn_m1le2, qn_and1, qn_and3, qn_and7, qn_and15, qn_and31, qn_and255, qn_and2047, qn_shl, qn_shr, qn_or, qn_div, qn_modlt, Nat.reduceMod, Nat.reduceAdd, Nat.reduceMul, Nat.reducePow, Nat.reduceDiv, Nat.reduceSub, ↓reduceIte, qn_us, qn_un, not_true_eq_false, not_false_eq_true, true_and, and_true, qn_nn, qn_addm, qn_ngT, qn_ngF, qn_ngE, qn_ngE2, qn_ngL, qn_ngM, Nat.add_sub_cancel, qL, qS, qM, qV, qQ, qZ0, qZ1, qE_l, qE_r, qW_some]
  · left
    have tc1 := q_takeClass0 hL hT x1 t1 F P
    have g2 := q_oneClass0 (NC := nI m') hL hR x1 t1 LF LP l1 v1 wr w1 q1 q2
    refine ⟨s1, nI e1, nI k1, nI s1, nI e1, nI s1, LF, LP, l1, nI (tk2 k1), v1, w1, nc, nw, by omega, by simp (disch := first | omega | assumption) only [f_X8_readTie_j33, tw, tc1, qn_lit, qn_ofNat, qn_neg1, qn_neg2, nI_add, pk_mul, qn_sub, qn_ltT, qn_ltF, qn_leT, qn_leF, qn_eqT, qn_eqF, qn_m1T, qn_m1F, qn_m1F2, qn_m1lt, qn_m1lt2, qn_m1le, qn_m1le2, qn_and1, qn_and3, qn_and7, qn_and15, qn_and31, qn_and255, qn_and2047, qn_shl, qn_shr, qn_or, qn_div, qn_modlt, Nat.reduceMod, Nat.reduceAdd, Nat.reduceMul, Nat.reducePow, Nat.reduceDiv, Nat.reduceSub, ↓reduceIte, qn_us, qn_un, not_true_eq_false, not_false_eq_true, true_and, and_true, qn_nn, qn_addm, qn_ngT, qn_ngF, qn_ngE, qn_ngE2, qn_ngL, qn_ngM, Nat.add_sub_cancel, qL, qS, qM, qV, qQ, qZ0, qZ1, qE_l, qE_r, qW_some], ?_⟩
    simp (disch := first | omega | assumption) only [f_X12_systemLine_j27, f_X12_systemLine_j54, g1, g2, qn_lit, qn_ofNat, qn_neg1, qn_neg2, nI_add, pk_mul, qn_sub, qn_ltT, qn_ltF, qn_leT, qn_leF, qn_eqT, qn_eqF, qn_m1T, qn_m1F, qn_m1F2, qn_m1lt, qn_m1lt2, qn_m1le, qn_m1le2, qn_and1, qn_and3, qn_and7, qn_and15, qn_and31, qn_and255, qn_and2047, qn_shl, qn_shr, qn_or, qn_div, qn_modlt, Nat.reduceMod, Nat.reduceAdd, Nat.reduceMul, Nat.reducePow, Nat.reduceDiv, Nat.reduceSub, ↓reduceIte, qn_us, qn_un, not_true_eq_false, not_false_eq_true, true_and, and_true, qn_nn, qn_addm, qn_ngT, qn_ngF, qn_ngE, qn_ngE2, qn_ngL, qn_ngM, Nat.add_sub_cancel, qL, qS, qM, qV, qQ, qZ0, qZ1, qE_l, qE_r, qW_some]

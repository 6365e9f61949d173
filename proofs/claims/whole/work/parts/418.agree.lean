/-! systems, kinds, kind: both sides answer alike -/
/-- the census of the class for n classes -/
def qCs (n : Nat) (cs_judged cs_kindCount cs_lawfulCount cs_lawfulSystems cs_size cj_count : Int32) (cs_children cs_lawful cs_shares cs_wives cj_first cj_second cj_sort : Nat → Int32) : Prop := cs_size = nI n ∧ cs_kindCount = nI (qJJ n) ∧ qKs n (qfa n) (cO n) (qfa n * qfa n) cs_wives cs_children cs_shares ∧ qJd n cs_judged cs_lawfulCount cs_lawfulSystems cj_count cs_lawful cj_first cj_second cj_sort
section
variable {n lc : Nat} {lt : Nat → Nat} {la lb : Nat → List Nat}
theorem qLj_kd {m : Nat} (hm : m < qfa n * qfa n) : qPc n lc lt la lb 1 m ↔ qKd n (qfa n) (cO n) m ∧ qLa n (cO n) lc lt la lb (m / qfa n) (m % qfa n) := by
  unfold qPc qKd
  exact ⟨fun z => ⟨⟨z.2 rfl, z.1.1⟩, z.1⟩, fun z => ⟨z.2, fun _ => z.1.1⟩⟩
theorem q_kinds_e : qct (qPc n lc lt la lb 1) (qfa n * qfa n) = qct (qLj n lc lt la lb) (qJJ n) := by
  have e := qct_kj (K := qKd n (qfa n) (cO n)) (E := fun m => qLa n (cO n) lc lt la lb (m / qfa n) (m % qfa n)) (N := qfa n * qfa n) (qfa n * qfa n) (Nat.le_refl _)
  rw [qct_ext (fun m hm => qLj_kd hm)]
  exact e
theorem q_kinds_m {m : Nat} (hm : m ≤ qfa n * qfa n) : qct (qPc n lc lt la lb 1) m = qct (qLj n lc lt la lb) (qct (qKd n (qfa n) (cO n)) m) := by
  have e := qct_kj (K := qKd n (qfa n) (cO n)) (E := fun m => qLa n (cO n) lc lt la lb (m / qfa n) (m % qfa n)) (N := qfa n * qfa n) m hm
  rw [qct_ext (fun x hx => qLj_kd (show x < qfa n * qfa n by omega))]
  exact e
theorem q_systems_e (h2 : 2 ≤ n) (h5 : n ≤ 5) : qct (qPc n lc lt la lb 0) (qfa n * qfa n) = qSs n lc lt la lb (qJJ n) := by
  have h := q_orders h2 h5
  have e1 : qct (qPc n lc lt la lb 0) (qfa n * qfa n) = qct (fun m => qLa n (cO n) lc lt la lb (m / qfa n) (m % qfa n)) (qfa n * qfa n) := qct_ext (fun m _ => ⟨fun z => z.1, fun z => ⟨z, fun y => absurd y (by decide)⟩⟩)
  rw [e1, q_countK h]
  unfold qSs
  have e2 := qsu_kj (K := qKd n (qfa n) (cO n)) (N := qfa n * qfa n) (fun m => qin (qLa n (cO n) lc lt la lb (m / qfa n) (m % qfa n)) * (qfa n / qSt (qfa n) (qac n (qfa n) (cO n)) m)) (qfa n * qfa n) (Nat.le_refl _)
  refine Eq.trans (qsu_ext _ (fun m _ => ?_)) e2
  by_cases c : qLa n (cO n) lc lt la lb (m / qfa n) (m % qfa n)
  · rw [qin_T c, Nat.one_mul]
    by_cases d : qMi (qfa n) (qac n (qfa n) (cO n)) m
    · rw [qin_T ⟨d, c⟩, qin_T ⟨d, c.1⟩]
    · rw [qin_F (fun z => d z.1), qin_F (fun z => d z.1)]
  · rw [qin_F (fun z => c z.2), qin_F c, Nat.zero_mul, Nat.mul_zero]
end
theorem q_rowEntry {n lc k i : Nat} {lt : Nat → Nat} {la lb : Nat → List Nat} {wv cd sh lf : Nat → Int32} {lfc lfs : Int32} (h2 : 2 ≤ n) (h5 : n ≤ 5) (hk : qKs n (qfa n) (cO n) (qfa n * qfa n) wv cd sh) (hr : qRs n lc lt la lb lfc lfs lf) (hkl : k < qct (qLj n lc lt la lb) (qJJ n)) (hi : i < 2 * n) : f_X0_rowEntry lfc (nI n) (64, cd) (64, lf) (64, wv) (nI k) (nI i) = some (nI (qrw n (cO n (qKm n (qkj (qLj n lc lt la lb) (qJJ n) k) / qfa n)) (cO n (qKm n (qkj (qLj n lc lt la lb) (qJJ n) k) % qfa n)) i)) := by
  have h := q_orders h2 h5
  have J64 : qJJ n ≤ 64 := q_bound h2 h5
  obtain ⟨r1, r2, r3⟩ := hr
  obtain ⟨a1, a2, a3⟩ := qkj_s hkl
  have v := r3 k hkl
  obtain ⟨m1, m2, m3⟩ := qKm_s a1
  obtain ⟨d1, d2, -⟩ := qdm_of m1
  obtain ⟨v1, v2, -⟩ := hk _ m1 m2
  rw [m3] at v1 v2
  have cl := qct_le (qLj n lc lt la lb) (qJJ n)
  subst r1
  generalize qkj (qLj n lc lt la lb) (qJJ n) k = j at *
  generalize qct (qLj n lc lt la lb) (qJJ n) = cc at *
  have e1 := q_entry (f := lf) (N := 64) (j := k) (by omega) (by decide)
  rw [v] at e1
  have e2 := q_entry (f := wv) (N := 64) (j := j) (by omega) (by decide)
  rw [v1] at e2
  have e3 := q_entry (f := cd) (N := 64) (j := j) (by omega) (by decide)
  rw [v2] at e3
  unfold qrw
  by_cases c : i < n
  · rw [if_pos c]
    have nm := q_numberAt h5 (qO8 h d1) c
    simp (disch := first | omega | assumption) only [f_X0_rowEntry, e1, e2, nm, qn_lit, qn_ofNat, qn_neg1, qn_neg2, nI_add, pk_mul, qn_sub, qn_ltT, qn_ltF, qn_leT, qn_leF, qn_eqT, qn_eqF, qn_m1T, qn_m1F, qn_m1F2, qn_m1lt, qn_m1lt2, qn_m1le, qn_m1le2, qn_and1, qn_and3, qn_and7, qn_and15, qn_and31, qn_and255, qn_and2047, qn_shl, qn_shr, qn_or, qn_div, qn_modlt, Nat.reduceMod, Nat.reduceAdd, Nat.reduceMul, Nat.reducePow, Nat.reduceDiv, Nat.reduceSub, ↓reduceIte, qn_us, qn_un, not_true_eq_false, not_false_eq_true, true_and, and_true, qn_nn, qn_addm, qn_ngT, qn_ngF, qn_ngE, qn_ngE2, qn_ngL, qn_ngM, Nat.add_sub_cancel, qL, qS, qM, qV, qQ, qZ0, qZ1, qE_l, qE_r, qW_some]
  · rw [if_neg c]
    have nm := q_numberAt h5 (qO8 h d2) (show i - n < n by omega)
    simp (disch := first | omega | assumption) only [f_X0_rowEntry, e1, e3, nm, qn_lit, qn_ofNat, qn_neg1, qn_neg2, nI_add, pk_mul, qn_sub, qn_ltT, qn_ltF, qn_leT, qn_leF, qn_eqT, qn_eqF, qn_m1T, qn_m1F, qn_m1F2, qn_m1lt, qn_m1lt2, qn_m1le, qn_m1le2, qn_and1, qn_and3, qn_and7, qn_and15, qn_and31, qn_and255, qn_and2047, qn_shl, qn_shr, qn_or, qn_div, qn_modlt, Nat.reduceMod, Nat.reduceAdd, Nat.reduceMul, Nat.reducePow, Nat.reduceDiv, Nat.reduceSub, ↓reduceIte, qn_us, qn_un, not_true_eq_false, not_false_eq_true, true_and, and_true, qn_nn, qn_addm, qn_ngT, qn_ngF, qn_ngE, qn_ngE2, qn_ngL, qn_ngM, Nat.add_sub_cancel, qL, qS, qM, qV, qQ, qZ0, qZ1, qE_l, qE_r, qW_some]
theorem q_rowEntry_out {n cc : Nat} {cd wv lf : Nat → Int32} {x y : Int32} (h2 : 2 ≤ n) (h5 : n ≤ 5) (hc : cc < 1000000) (h : qOut cc x ∨ qOut (2 * n) y) : f_X0_rowEntry (nI cc) (nI n) (64, cd) (64, lf) (64, wv) x y = some mI := by
  rcases qn_inout x cc with ⟨j, j1, j2, rfl⟩ | g
  · rcases h with h | h
    · rcases h with h | ⟨k, k1, k2, e⟩
      · exact absurd h (by rw [qn_ltF (by omega) (by omega)]; exact not_false)
      · have := (nI_eq (by omega) (by omega)).mp e
        omega
    · rcases h with h | ⟨k, k1, k2, rfl⟩
      · simp (disch := first | omega | assumption) only [f_X0_rowEntry, qn_lit, qn_ofNat, qn_neg1, qn_neg2, nI_add, pk_mul, qn_sub, qn_ltT, qn_ltF, qn_leT, qn_leF, qn_eqT, qn_eqF, qn_m1T, qn_m1F, qn_m1F2, qn_m1lt, qn_m1lt2, qn_m1le, qn_m1le2, qn_and1, qn_and3, qn_and7, qn_and15, qn_and31, qn_and255, qn_and2047, qn_shl, qn_shr, qn_or, qn_div, qn_modlt, Nat.reduceMod, Nat.reduceAdd, Nat.reduceMul, Nat.reducePow, Nat.reduceDiv, Nat.reduceSub, ↓reduceIte, qn_us, qn_un, not_true_eq_false, not_false_eq_true, true_and, and_true, qn_nn, qn_addm, qn_ngT, qn_ngF, qn_ngE, qn_ngE2, qn_ngL, qn_ngM, Nat.add_sub_cancel, qL, qS, qM, qV, qQ, qZ0, qZ1, qE_l, qE_r, qW_some]
      · simp (disch := first | omega | assumption) only [f_X0_rowEntry, qn_lit, qn_ofNat, qn_neg1, qn_neg2, nI_add, pk_mul, qn_sub, qn_ltT, qn_ltF, qn_leT, qn_leF, qn_eqT, qn_eqF, qn_m1T, qn_m1F, qn_m1F2, qn_m1lt, qn_m1lt2, qn_m1le, qn_m1le2, qn_and1, qn_and3, qn_and7, qn_and15, qn_and31, qn_and255, qn_and2047, qn_shl, qn_shr, qn_or, qn_div, qn_modlt, Nat.reduceMod, Nat.reduceAdd, Nat.reduceMul, Nat.reducePow, Nat.reduceDiv, Nat.reduceSub, ↓reduceIte, qn_us, qn_un, not_true_eq_false, not_false_eq_true, true_and, and_true, qn_nn, qn_addm, qn_ngT, qn_ngF, qn_ngE, qn_ngE2, qn_ngL, qn_ngM, Nat.add_sub_cancel, qL, qS, qM, qV, qQ, qZ0, qZ1, qE_l, qE_r, qW_some]
  · rcases g with g | ⟨k, k1, k2, rfl⟩
    · simp (disch := first | omega | assumption) only [f_X0_rowEntry, qn_lit, qn_ofNat, qn_neg1, qn_neg2, nI_add, pk_mul, qn_sub, qn_ltT, qn_ltF, qn_leT, qn_leF, qn_eqT, qn_eqF, qn_m1T, qn_m1F, qn_m1F2, qn_m1lt, qn_m1lt2, qn_m1le, qn_m1le2, qn_and1, qn_and3, qn_and7, qn_and15, qn_and31, qn_and255, qn_and2047, qn_shl, qn_shr, qn_or, qn_div, qn_modlt, Nat.reduceMod, Nat.reduceAdd, Nat.reduceMul, Nat.reducePow, Nat.reduceDiv, Nat.reduceSub, ↓reduceIte, qn_us, qn_un, not_true_eq_false, not_false_eq_true, true_and, and_true, qn_nn, qn_addm, qn_ngT, qn_ngF, qn_ngE, qn_ngE2, qn_ngL, qn_ngM, Nat.add_sub_cancel, qL, qS, qM, qV, qQ, qZ0, qZ1, qE_l, qE_r, qW_some]
    · simp (disch := first | omega | assumption) only [f_X0_rowEntry, qn_lit, qn_ofNat, qn_neg1, qn_neg2, nI_add, pk_mul, qn_sub, qn_ltT, qn_ltF, qn_leT, qn_leF, qn_eqT, qn_eqF, qn_m1T, qn_m1F, qn_m1F2, qn_m1lt, qn_m1lt2, qn_m1le, qn_m1le2, qn_and1, qn_and3, qn_and7, qn_and15, qn_and31, qn_and255, qn_and2047, qn_shl, qn_shr, qn_or, qn_div, qn_modlt, Nat.reduceMod, Nat.reduceAdd, Nat.reduceMul, Nat.reducePow, Nat.reduceDiv, Nat.reduceSub, ↓reduceIte, qn_us, qn_un, not_true_eq_false, not_false_eq_true, true_and, and_true, qn_nn, qn_addm, qn_ngT, qn_ngF, qn_ngE, qn_ngE2, qn_ngL, qn_ngM, Nat.add_sub_cancel, qL, qS, qM, qV, qQ, qZ0, qZ1, qE_l, qE_r, qW_some]
theorem q_in25 {n : Nat} (h2 : 2 ≤ n) (h5 : n ≤ 5) : f_X12_in (nI n) (nI 2) (nI 5) = some (nI 1) := q_in_T h2 h5 (by decide)
theorem q_in25_out {x : Int32} (h : ∀ n, 2 ≤ n → n ≤ 5 → x ≠ nI n) : f_X12_in x (nI 2) (nI 5) = some (nI 0) := by
  rcases qn_split x with g | ⟨j, j1, rfl⟩
  · simp (disch := first | omega | assumption) only [f_X12_in, qn_lit, qn_ofNat, qn_neg1, qn_neg2, nI_add, pk_mul, qn_sub, qn_ltT, qn_ltF, qn_leT, qn_leF, qn_eqT, qn_eqF, qn_m1T, qn_m1F, qn_m1F2, qn_m1lt, qn_m1lt2, qn_m1le, qn_m1le2, qn_and1, qn_and3, qn_and7, qn_and15, qn_and31, qn_and255, qn_and2047, qn_shl, qn_shr, qn_or, qn_div, qn_modlt, Nat.reduceMod, Nat.reduceAdd, Nat.reduceMul, Nat.reducePow, Nat.reduceDiv, Nat.reduceSub, ↓reduceIte, qn_us, qn_un, not_true_eq_false, not_false_eq_true, true_and, and_true, qn_nn, qn_addm, qn_ngT, qn_ngF, qn_ngE, qn_ngE2, qn_ngL, qn_ngM, Nat.add_sub_cancel, qL, qS, qM, qV, qQ, qZ0, qZ1, qE_l, qE_r, qW_some]
  · refine q_in_F ?_ j1 (by decide) (by decide)
    refine Classical.byContradiction fun z => h j (by omega) (by omega) rfl
/-- the reference's three answers -/
theorem q_systemsR {n lc : Nat} {lt : Nat → Nat} {la lb : Nat → List Nat} {ts tf t2 : Nat → Int32} {R_lineKind : Nat → Int32} {R_lineLong : Nat → Int32} {R_lineWord : Nat → Int32} {R_lines : Nat → Int32} {R_code : Int32} {R_n : Int32} {R_orders : Int32} {R_rowNumber : Int32} {R_child : Nat → Int32} {R_childBack : Nat → Int32} {R_order : Nat → Int32} {R_weds : Nat → Int32} {R_wedsBack : Nat → Int32} (h2 : 2 ≤ n) (h5 : n ≤ 5) (hl : qLw 0 lc lt la lb ts tf t2 R_lines R_lineKind R_lineLong R_lineWord) : ∃ R_n' R_orders' R_rowNumber' R_child' R_childBack' R_order' R_weds' R_wedsBack', f_X12_systems (64, R_lineKind) (128, R_lineLong) (1024, R_lineWord) (4, R_lines) R_code R_n R_orders R_rowNumber (8, R_child) (8, R_childBack) (600, R_order) (8, R_weds) (8, R_wedsBack) (nI n) = some (nI (qSs n lc lt la lb (qJJ n)), nI 0, R_n', R_orders', R_rowNumber', (8, R_child'), (8, R_childBack'), (600, R_order'), (8, R_weds'), (8, R_wedsBack')) := by
  obtain ⟨a1, a2, a3, a4, a5, a6, a7, a8, g1, -⟩ := q_through (k := mI) (t := 0) (i := 0) (od := R_order) (ch := R_child) (cb := R_childBack) (we := R_weds) (wb := R_wedsBack) (rn := R_rowNumber) (mn := R_n) (on := R_orders) h2 h5 hl (by decide) (by omega)
  rw [q_systems_e h2 h5] at g1
  have i1 := q_in25 h2 h5
  exact ⟨a1, a2, a3, a4, a5, a6, a7, a8, by simp (disch := first | omega | assumption) only [f_X12_systems, i1, g1, qn_lit, qn_ofNat, qn_neg1, qn_neg2, nI_add, pk_mul, qn_sub, qn_ltT, qn_ltF, qn_leT, qn_leF, qn_eqT, qn_eqF, qn_m1T, qn_m1F, qn_m1F2, qn_m1lt, qn_m1lt2, qn_m1le, qn_m1le2, qn_and1, qn_and3, qn_and7, qn_and15, qn_and31, qn_and255, qn_and2047, qn_shl, qn_shr, qn_or, qn_div, qn_modlt, Nat.reduceMod, Nat.reduceAdd, Nat.reduceMul, Nat.reducePow, Nat.reduceDiv, Nat.reduceSub, ↓reduceIte, qn_us, qn_un, not_true_eq_false, not_false_eq_true, true_and, and_true, qn_nn, qn_addm, qn_ngT, qn_ngF, qn_ngE, qn_ngE2, qn_ngL, qn_ngM, Nat.add_sub_cancel, qL, qS, qM, qV, qQ, qZ0, qZ1, qE_l, qE_r, qW_some]⟩
theorem q_kindsR {n lc : Nat} {lt : Nat → Nat} {la lb : Nat → List Nat} {ts tf t2 : Nat → Int32} {R_lineKind : Nat → Int32} {R_lineLong : Nat → Int32} {R_lineWord : Nat → Int32} {R_lines : Nat → Int32} {R_code : Int32} {R_n : Int32} {R_orders : Int32} {R_rowNumber : Int32} {R_child : Nat → Int32} {R_childBack : Nat → Int32} {R_order : Nat → Int32} {R_weds : Nat → Int32} {R_wedsBack : Nat → Int32} (h2 : 2 ≤ n) (h5 : n ≤ 5) (hl : qLw 0 lc lt la lb ts tf t2 R_lines R_lineKind R_lineLong R_lineWord) : ∃ R_n' R_orders' R_rowNumber' R_child' R_childBack' R_order' R_weds' R_wedsBack', f_X12_kinds (64, R_lineKind) (128, R_lineLong) (1024, R_lineWord) (4, R_lines) R_code R_n R_orders R_rowNumber (8, R_child) (8, R_childBack) (600, R_order) (8, R_weds) (8, R_wedsBack) (nI n) = some (nI (qct (qLj n lc lt la lb) (qJJ n)), nI 0, R_n', R_orders', R_rowNumber', (8, R_child'), (8, R_childBack'), (600, R_order'), (8, R_weds'), (8, R_wedsBack')) := by
  obtain ⟨a1, a2, a3, a4, a5, a6, a7, a8, g1, -⟩ := q_through (k := mI) (t := 1) (i := 0) (od := R_order) (ch := R_child) (cb := R_childBack) (we := R_weds) (wb := R_wedsBack) (rn := R_rowNumber) (mn := R_n) (on := R_orders) h2 h5 hl (by decide) (by omega)
  rw [q_kinds_e] at g1
  have i1 := q_in25 h2 h5
  exact ⟨a1, a2, a3, a4, a5, a6, a7, a8, by simp (disch := first | omega | assumption) only [f_X12_kinds, i1, g1, qn_lit, qn_ofNat, qn_neg1, qn_neg2, nI_add, pk_mul, qn_sub, qn_ltT, qn_ltF, qn_leT, qn_leF, qn_eqT, qn_eqF, qn_m1T, qn_m1F, qn_m1F2, qn_m1lt, qn_m1lt2, qn_m1le, qn_m1le2, qn_and1, qn_and3, qn_and7, qn_and15, qn_and31, qn_and255, qn_and2047, qn_shl, qn_shr, qn_or, qn_div, qn_modlt, Nat.reduceMod, Nat.reduceAdd, Nat.reduceMul, Nat.reducePow, Nat.reduceDiv, Nat.reduceSub, ↓reduceIte, qn_us, qn_un, not_true_eq_false, not_false_eq_true, true_and, and_true, qn_nn, qn_addm, qn_ngT, qn_ngF, qn_ngE, qn_ngE2, qn_ngL, qn_ngM, Nat.add_sub_cancel, qL, qS, qM, qV, qQ, qZ0, qZ1, qE_l, qE_r, qW_some]⟩
theorem q_kindR {n lc : Nat} {lt : Nat → Nat} {la lb : Nat → List Nat} {ts tf t2 wv cd sh lf : Nat → Int32} {lfc lfs : Int32} {R_lineKind : Nat → Int32} {R_lineLong : Nat → Int32} {R_lineWord : Nat → Int32} {R_lines : Nat → Int32} {R_code : Int32} {R_n : Int32} {R_orders : Int32} {R_rowNumber : Int32} {R_child : Nat → Int32} {R_childBack : Nat → Int32} {R_order : Nat → Int32} {R_weds : Nat → Int32} {R_wedsBack : Nat → Int32} (h2 : 2 ≤ n) (h5 : n ≤ 5) (hl : qLw 0 lc lt la lb ts tf t2 R_lines R_lineKind R_lineLong R_lineWord) (hk : qKs n (qfa n) (cO n) (qfa n * qfa n) wv cd sh) (hr : qRs n lc lt la lb lfc lfs lf) (x y : Int32) : ∃ r R_n' R_orders' R_rowNumber' R_child' R_childBack' R_order' R_weds' R_wedsBack', f_X0_rowEntry lfc (nI n) (64, cd) (64, lf) (64, wv) x y = some r ∧ f_X12_kind (64, R_lineKind) (128, R_lineLong) (1024, R_lineWord) (4, R_lines) R_code R_n R_orders R_rowNumber (8, R_child) (8, R_childBack) (600, R_order) (8, R_weds) (8, R_wedsBack) (nI n) x y = some (r, nI 0, R_n', R_orders', R_rowNumber', (8, R_child'), (8, R_childBack'), (600, R_order'), (8, R_weds'), (8, R_wedsBack')) := by
  have h := q_orders h2 h5
  have J64 : qJJ n ≤ 64 := q_bound h2 h5
  have i1 := q_in25 h2 h5
  have cl := qct_le (qLj n lc lt la lb) (qJJ n)
  have r1 := hr.1
  rcases qn_split x with gx | ⟨k, k1, rfl⟩
  · refine ⟨mI, R_n, R_orders, R_rowNumber, R_child, R_childBack, R_order, R_weds, R_wedsBack, ?_, ?_⟩
    · rw [r1]
      exact q_rowEntry_out h2 h5 (by omega) (Or.inl (Or.inl gx))
    · simp (disch := first | omega | assumption) only [f_X12_kind, i1, qn_lit, qn_ofNat, qn_neg1, qn_neg2, nI_add, pk_mul, qn_sub, qn_ltT, qn_ltF, qn_leT, qn_leF, qn_eqT, qn_eqF, qn_m1T, qn_m1F, qn_m1F2, qn_m1lt, qn_m1lt2, qn_m1le, qn_m1le2, qn_and1, qn_and3, qn_and7, qn_and15, qn_and31, qn_and255, qn_and2047, qn_shl, qn_shr, qn_or, qn_div, qn_modlt, Nat.reduceMod, Nat.reduceAdd, Nat.reduceMul, Nat.reducePow, Nat.reduceDiv, Nat.reduceSub, ↓reduceIte, qn_us, qn_un, not_true_eq_false, not_false_eq_true, true_and, and_true, qn_nn, qn_addm, qn_ngT, qn_ngF, qn_ngE, qn_ngE2, qn_ngL, qn_ngM, Nat.add_sub_cancel, qL, qS, qM, qV, qQ, qZ0, qZ1, qE_l, qE_r, qW_some]
  · rcases qn_inout y (2 * n) with ⟨i, hi, hi2, rfl⟩ | gy
    · have i2 := q_in_T (x := i) (y := 0) (z := 2 * n - 1) (by omega) (by omega) (by omega)
      obtain ⟨a1, a2, a3, a4, a5, a6, a7, a8, g1, g2⟩ := q_through (k := nI k) (t := 1) (i := i) (od := R_order) (ch := R_child) (cb := R_childBack) (we := R_weds) (wb := R_wedsBack) (rn := R_rowNumber) (mn := R_n) (on := R_orders) h2 h5 hl (by decide) hi
      rw [q_kinds_e] at g1
      by_cases c : k < qct (qLj n lc lt la lb) (qJJ n)
      · have re := q_rowEntry h2 h5 hk hr c hi
        obtain ⟨b1, b2, b3⟩ := qkj_s c
        obtain ⟨m1, m2, m3⟩ := qKm_s b1
        have pm : qPc n lc lt la lb 1 (qKm n (qkj (qLj n lc lt la lb) (qJJ n) k)) := (qLj_kd m1).mpr ⟨m2, b2⟩
        have cm : qct (qPc n lc lt la lb 1) (qKm n (qkj (qLj n lc lt la lb) (qJJ n) k)) = k := by
          rw [q_kinds_m (by omega), m3, b3]
        have e := g2 _ m1 pm (by rw [cm])
        refine ⟨_, a1, a2, a3, a4, a5, a6, a7, a8, re, ?_⟩
        rw [← e]
        generalize qct (qLj n lc lt la lb) (qJJ n) = cc at *
        simp (disch := first | omega | assumption) only [f_X12_kind, i1, i2, g1, qn_lit, qn_ofNat, qn_neg1, qn_neg2, nI_add, pk_mul, qn_sub, qn_ltT, qn_ltF, qn_leT, qn_leF, qn_eqT, qn_eqF, qn_m1T, qn_m1F, qn_m1F2, qn_m1lt, qn_m1lt2, qn_m1le, qn_m1le2, qn_and1, qn_and3, qn_and7, qn_and15, qn_and31, qn_and255, qn_and2047, qn_shl, qn_shr, qn_or, qn_div, qn_modlt, Nat.reduceMod, Nat.reduceAdd, Nat.reduceMul, Nat.reducePow, Nat.reduceDiv, Nat.reduceSub, ↓reduceIte, qn_us, qn_un, not_true_eq_false, not_false_eq_true, true_and, and_true, qn_nn, qn_addm, qn_ngT, qn_ngF, qn_ngE, qn_ngE2, qn_ngL, qn_ngM, Nat.add_sub_cancel, qL, qS, qM, qV, qQ, qZ0, qZ1, qE_l, qE_r, qW_some]
      · refine ⟨mI, a1, a2, a3, a4, a5, a6, a7, a8, ?_, ?_⟩
        · rw [r1]
          exact q_rowEntry_out h2 h5 (by omega) (Or.inl (Or.inr ⟨k, by omega, k1, rfl⟩))
        · generalize qct (qLj n lc lt la lb) (qJJ n) = cc at *
          simp (disch := first | omega | assumption) only [f_X12_kind, i1, i2, g1, qn_lit, qn_ofNat, qn_neg1, qn_neg2, nI_add, pk_mul, qn_sub, qn_ltT, qn_ltF, qn_leT, qn_leF, qn_eqT, qn_eqF, qn_m1T, qn_m1F, qn_m1F2, qn_m1lt, qn_m1lt2, qn_m1le, qn_m1le2, qn_and1, qn_and3, qn_and7, qn_and15, qn_and31, qn_and255, qn_and2047, qn_shl, qn_shr, qn_or, qn_div, qn_modlt, Nat.reduceMod, Nat.reduceAdd, Nat.reduceMul, Nat.reducePow, Nat.reduceDiv, Nat.reduceSub, ↓reduceIte, qn_us, qn_un, not_true_eq_false, not_false_eq_true, true_and, and_true, qn_nn, qn_addm, qn_ngT, qn_ngF, qn_ngE, qn_ngE2, qn_ngL, qn_ngM, Nat.add_sub_cancel, qL, qS, qM, qV, qQ, qZ0, qZ1, qE_l, qE_r, qW_some]
    · have i2 := q_in1_out (c := 2 * n) (by omega) (by omega) gy
      refine ⟨mI, R_n, R_orders, R_rowNumber, R_child, R_childBack, R_order, R_weds, R_wedsBack, ?_, ?_⟩
      · rw [r1]
        exact q_rowEntry_out h2 h5 (by omega) (Or.inr gy)
      · simp (disch := first | omega | assumption) only [f_X12_kind, i1, i2, qn_lit, qn_ofNat, qn_neg1, qn_neg2, nI_add, pk_mul, qn_sub, qn_ltT, qn_ltF, qn_leT, qn_leF, qn_eqT, qn_eqF, qn_m1T, qn_m1F, qn_m1F2, qn_m1lt, qn_m1lt2, qn_m1le, qn_m1le2, qn_and1, qn_and3, qn_and7, qn_and15, qn_and31, qn_and255, qn_and2047, qn_shl, qn_shr, qn_or, qn_div, qn_modlt, Nat.reduceMod, Nat.reduceAdd, Nat.reduceMul, Nat.reducePow, Nat.reduceDiv, Nat.reduceSub, ↓reduceIte, qn_us, qn_un, not_true_eq_false, not_false_eq_true, true_and, and_true, qn_nn, qn_addm, qn_ngT, qn_ngF, qn_ngE, qn_ngE2, qn_ngL, qn_ngM, Nat.add_sub_cancel, qL, qS, qM, qV, qQ, qZ0, qZ1, qE_l, qE_r, qW_some]
theorem q_censusR_out {R_lineKind : Nat → Int32} {R_lineLong : Nat → Int32} {R_lineWord : Nat → Int32} {R_lines : Nat → Int32} {R_code : Int32} {R_n : Int32} {R_orders : Int32} {R_rowNumber : Int32} {R_child : Nat → Int32} {R_childBack : Nat → Int32} {R_order : Nat → Int32} {R_weds : Nat → Int32} {R_wedsBack : Nat → Int32} {x : Int32} (h : ∀ n, 2 ≤ n → n ≤ 5 → x ≠ nI n) (y z : Int32) : f_X12_kind (64, R_lineKind) (128, R_lineLong) (1024, R_lineWord) (4, R_lines) R_code R_n R_orders R_rowNumber (8, R_child) (8, R_childBack) (600, R_order) (8, R_weds) (8, R_wedsBack) x y z = some (mI, nI 0, R_n, R_orders, R_rowNumber, (8, R_child), (8, R_childBack), (600, R_order), (8, R_weds), (8, R_wedsBack)) ∧ f_X12_systems (64, R_lineKind) (128, R_lineLong) (1024, R_lineWord) (4, R_lines) R_code R_n R_orders R_rowNumber (8, R_child) (8, R_childBack) (600, R_order) (8, R_weds) (8, R_wedsBack) x = some (mI, nI 0, R_n, R_orders, R_rowNumber, (8, R_child), (8, R_childBack), (600, R_order), (8, R_weds), (8, R_wedsBack)) ∧ f_X12_kinds (64, R_lineKind) (128, R_lineLong) (1024, R_lineWord) (4, R_lines) R_code R_n R_orders R_rowNumber (8, R_child) (8, R_childBack) (600, R_order) (8, R_weds) (8, R_wedsBack) x = some (mI, nI 0, R_n, R_orders, R_rowNumber, (8, R_child), (8, R_childBack), (600, R_order), (8, R_weds), (8, R_wedsBack)) := by
  have i1 := q_in25_out h
  exact ⟨by simp (disch := first | omega | assumption) only [f_X12_kind, i1, qn_lit, qn_ofNat, qn_neg1, qn_neg2, nI_add, pk_mul, qn_sub, qn_ltT, qn_ltF, qn_leT, qn_leF, qn_eqT, qn_eqF, qn_m1T, qn_m1F, qn_m1F2, qn_m1lt, qn_m1lt2, qn_m1le, qn_m1le2, qn_and1, qn_and3, qn_and7, qn_and15, qn_and31, qn_and255, qn_and2047, qn_shl, qn_shr, qn_or, qn_div, qn_modlt, Nat.reduceMod, Nat.reduceAdd, Nat.reduceMul, Nat.reducePow, Nat.reduceDiv, Nat.reduceSub, ↓reduceIte, qn_us, qn_un, not_true_eq_false, not_false_eq_true, true_and, and_true, qn_nn, qn_addm, qn_ngT, qn_ngF, qn_ngE, qn_ngE2, qn_ngL, qn_ngM, Nat.add_sub_cancel, qL, qS, qM, qV, qQ, qZ0, qZ1, qE_l, qE_r, qW_some], by simp (disch := first | omega | assumption) only [f_X12_systems, i1, qn_lit, qn_ofNat, qn_neg1, qn_neg2, nI_add, pk_mul, qn_sub, qn_ltT, qn_ltF, qn_leT, qn_leF, qn_eqT, qn_eqF, qn_m1T, qn_m1F, qn_m1F2, qn_m1lt, qn_m1lt2, qn_m1le, qn_m1le2, qn_and1, qn_and3, qn_and7, qn_and15, qn_and31, qn_and255, qn_and2047, qn_shl, qn_shr, qn_or, qn_div, qn_modlt, Nat.reduceMod, Nat.reduceAdd, Nat.reduceMul, Nat.reducePow, Nat.reduceDiv, Nat.reduceSub, ↓reduceIte, qn_us, qn_un, not_true_eq_false, not_false_eq_true, true_and, and_true, qn_nn, qn_addm, qn_ngT, qn_ngF, qn_ngE, qn_ngE2, qn_ngL, qn_ngM, Nat.add_sub_cancel, qL, qS, qM, qV, qQ, qZ0, qZ1, qE_l, qE_r, qW_some], by simp (disch := first | omega | assumption) only [f_X12_kinds, i1, qn_lit, qn_ofNat, qn_neg1, qn_neg2, nI_add, pk_mul, qn_sub, qn_ltT, qn_ltF, qn_leT, qn_leF, qn_eqT, qn_eqF, qn_m1T, qn_m1F, qn_m1F2, qn_m1lt, qn_m1lt2, qn_m1le, qn_m1le2, qn_and1, qn_and3, qn_and7, qn_and15, qn_and31, qn_and255, qn_and2047, qn_shl, qn_shr, qn_or, qn_div, qn_modlt, Nat.reduceMod, Nat.reduceAdd, Nat.reduceMul, Nat.reducePow, Nat.reduceDiv, Nat.reduceSub, ↓reduceIte, qn_us, qn_un, not_true_eq_false, not_false_eq_true, true_and, and_true, qn_nn, qn_addm, qn_ngT, qn_ngF, qn_ngE, qn_ngE2, qn_ngL, qn_ngM, Nat.add_sub_cancel, qL, qS, qM, qV, qQ, qZ0, qZ1, qE_l, qE_r, qW_some]⟩

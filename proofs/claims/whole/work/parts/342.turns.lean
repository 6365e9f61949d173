/-! all turns, gathered in the same order by both programs -/
def qs1 (n : Nat) (F : Nat → Nat) (L : List Nat) (k : Nat) : List Nat := if qcp n F (L.getD k 0) ∈ L then L else L ++ [qcp n F (L.getD k 0)]
def qBF (n : Nat) (W C : Nat → Nat) : Nat → List Nat
  | 0 => [qpk (fun i => i) n]
  | k + 1 => qs1 n C (qs1 n W (qBF n W C k) k) k
def qgd (n : Nat) (L : List Nat) : Prop := qNd L ∧ ∀ i, i < L.length → qvc n (L.getD i 0)
theorem qs1_len {n k : Nat} {F : Nat → Nat} {L : List Nat} : L.length ≤ (qs1 n F L k).length ∧ (qs1 n F L k).length ≤ L.length + 1 := by
  unfold qs1
  split
  · omega
  · simp
theorem qs1_get {n k i : Nat} {F : Nat → Nat} {L : List Nat} (hi : i < L.length) : (qs1 n F L k).getD i 0 = L.getD i 0 := by
  unfold qs1
  split
  · rfl
  · exact q_getD_app hi
theorem qs1_mem {n k : Nat} {F : Nat → Nat} {L : List Nat} : ∃ j, j < (qs1 n F L k).length ∧ (qs1 n F L k).getD j 0 = qcp n F (L.getD k 0) := by
  unfold qs1
  split
  · rename_i h
    exact q_mem.mp h
  · exact ⟨L.length, by simp, q_getD_new⟩
theorem qs1_gd {n k : Nat} {F : Nat → Nat} {L : List Nat} (hn : n ≤ 8) (hF : qP n F) (h : qgd n L) (hk : k < L.length) : qgd n (qs1 n F L k) := by
  unfold qs1
  split
  · exact h
  · rename_i hx
    refine ⟨qNd_app h.1 hx, fun i hi => ?_⟩
    simp only [List.length_append, List.length_singleton] at hi
    by_cases q : i = L.length
    · rw [q, q_getD_new]
      exact qcp_vc hn hF (h.2 k hk)
    · rw [q_getD_app (by omega)]
      exact h.2 i (by omega)
def qgo (n : Nat) (W C : Nat → Nat) (k : Nat) : Prop := ∀ j, j < k → j < (qBF n W C j).length ∧ (qBF n W C j).length ≤ 500
def qfin (n : Nat) (W C : Nat → Nat) (k : Nat) : Prop := qgo n W C k ∧ ((qBF n W C k).length ≤ k ∨ 500 < (qBF n W C k).length)
theorem qfin_u {n : Nat} {W C : Nat → Nat} {a b : Nat} (h : qfin n W C a) (g : qfin n W C b) : a = b := by
  rcases Nat.lt_trichotomy a b with e | e | e
  · have := g.1 a e
    rcases h.2 with q | q <;> omega
  · exact e
  · have := h.1 b e
    rcases g.2 with q | q <;> omega
theorem qBF_ok {n : Nat} {W C : Nat → Nat} (hn : n ≤ 8) (hW : qP n W) (hC : qP n C) : ∀ k, qgo n W C k → qgd n (qBF n W C k) ∧ k ≤ (qBF n W C k).length ∧ (qBF n W C k).length ≤ 502 ∧ (0 < (qBF n W C k).length ∧ (qBF n W C k).getD 0 0 = qpk (fun i => i) n) ∧ ∀ i, i < k → (∃ j, j < (qBF n W C k).length ∧ (qBF n W C k).getD j 0 = qcp n W ((qBF n W C k).getD i 0)) ∧ ∃ j, j < (qBF n W C k).length ∧ (qBF n W C k).getD j 0 = qcp n C ((qBF n W C k).getD i 0) := by
  intro k
  induction k with
  | zero =>
    intro _
    refine ⟨⟨fun i j hi hj _ => ?_, fun i hi => ?_⟩, Nat.zero_le _, by simp [qBF], ⟨by simp [qBF], rfl⟩, fun i hi => absurd hi (by omega)⟩
    · simp only [qBF, List.length_singleton] at hi hj
      omega
    · simp only [qBF, List.length_singleton] at hi
      have : i = 0 := by omega
      subst this
      exact qvc_id
  | succ k ih =>
    intro hg
    obtain ⟨i1, i2, i3, i4, i5⟩ := ih (fun j hj => hg j (by omega))
    obtain ⟨h1, h2⟩ := hg k (by omega)
    have l1 := qs1_len (n := n) (F := W) (L := qBF n W C k) (k := k)
    have l2 := qs1_len (n := n) (F := C) (L := qs1 n W (qBF n W C k) k) (k := k)
    have a1 := qs1_gd hn hW i1 h1
    have a2 := qs1_gd hn hC a1 (show k < _ by omega)
    have pre : ∀ i, i < (qBF n W C k).length → (qBF n W C (k + 1)).getD i 0 = (qBF n W C k).getD i 0 := fun i hi => by
      show (qs1 n C (qs1 n W (qBF n W C k) k) k).getD i 0 = _
      rw [qs1_get (by omega), qs1_get hi]
    have up : ∀ x, (∃ j, j < (qBF n W C k).length ∧ (qBF n W C k).getD j 0 = x) → ∃ j, j < (qBF n W C (k + 1)).length ∧ (qBF n W C (k + 1)).getD j 0 = x := fun x ⟨j, j1, j2⟩ => ⟨j, by show j < (qs1 n C (qs1 n W (qBF n W C k) k) k).length; omega, by rw [pre j j1]; exact j2⟩
    refine ⟨a2, by show k + 1 ≤ (qs1 n C (qs1 n W (qBF n W C k) k) k).length; omega, by show (qs1 n C (qs1 n W (qBF n W C k) k) k).length ≤ 502; omega, ⟨by show 0 < (qs1 n C (qs1 n W (qBF n W C k) k) k).length; omega, by rw [pre 0 i4.1]; exact i4.2⟩, fun i hi => ?_⟩
    by_cases q : i = k
    · subst q
      rw [pre i h1]
      refine ⟨?_, ?_⟩
      · obtain ⟨j, j1, j2⟩ := qs1_mem (n := n) (F := W) (L := qBF n W C i) (k := i)
        refine ⟨j, by show j < (qs1 n C (qs1 n W (qBF n W C i) i) i).length; omega, ?_⟩
        show (qs1 n C (qs1 n W (qBF n W C i) i) i).getD j 0 = _
        rw [qs1_get j1]
        exact j2
      · obtain ⟨j, j1, j2⟩ := qs1_mem (n := n) (F := C) (L := qs1 n W (qBF n W C i) i) (k := i)
        refine ⟨j, j1, ?_⟩
        show (qs1 n C (qs1 n W (qBF n W C i) i) i).getD j 0 = _
        rw [j2, qs1_get h1]
    · have := i5 i (by omega)
      rw [pre i (by omega)]
      exact ⟨up _ this.1, up _ this.2⟩
theorem qgo_len {n : Nat} {W C : Nat → Nat} {k : Nat} (h : qgo n W C k) : k ≤ 500 := by
  refine Nat.le_of_not_lt fun hlt => ?_
  have := h 500 hlt
  omega
/-! the reference -/
theorem q_indexOf {L : List Nat} {tu : Nat → Int32} (ht : ∀ i, i < L.length → tu i = nI (L.getD i 0)) (hl : L.length ≤ 502) (hL : ∀ i, i < L.length → L.getD i 0 < 16777216) (hN : qNd L) {x : Nat} (hx : x < 16777216) : qW (f_X12_indexOf (nI L.length) (502, tu) (nI x)) (fun e => (∃ j, e = nI j ∧ j < L.length ∧ L.getD j 0 = x) ∨ (e = mI ∧ ¬ x ∈ L)) := by
  have key : qW (f_X12_indexOf_l2 (nI L.length) (502, tu) (nI x) (nI 0)) (fun e => (∃ j, e = Sum.inl (nI j) ∧ j < L.length ∧ L.getD j 0 = x) ∨ (e = Sum.inr () ∧ ¬ x ∈ L)) := by
    unfold f_X12_indexOf_l2
    refine qfor 0 L.length (fun i z => z = nI i ∧ ∀ j, j < i → L.getD j 0 ≠ x) ⟨rfl, by simp⟩ (by omega) (by omega) ?_ ?_
    · rintro i z - hi ⟨rfl, hI⟩
      have b := hL i hi
      by_cases e : L.getD i 0 = x
      · simp (disch := first | omega | assumption) only [f_X12_indexOf_b2, ht i hi, qn_lit, qn_ofNat, qn_neg1, qn_neg2, nI_add, pk_mul, qn_sub, qn_ltT, qn_ltF, qn_leT, qn_leF, qn_eqT, qn_eqF, qn_m1T, qn_m1F, qn_m1F2, qn_m1lt, qn_m1lt2, qn_m1le, qn_m1le2, qn_and1, qn_and3, qn_and7, qn_and15, qn_and31, qn_and255, qn_and2047, qn_shl, qn_shr, qn_or, qn_div, qn_modlt, Nat.reduceMod, Nat.reduceAdd, Nat.reduceMul, Nat.reducePow, Nat.reduceDiv, Nat.reduceSub, ↓reduceIte, qn_us, qn_un, not_true_eq_false, not_false_eq_true, true_and, and_true, qn_nn, qn_addm, qn_ngT, qn_ngF, qn_ngE, qn_ngE2, qn_ngL, qn_ngM, Nat.add_sub_cancel, qL, qS, qM, qV, qQ, qZ0, qZ1, qE_l, qE_r, qW_some]
        exact Or.inl ⟨i, rfl, hi, e⟩
      · simp (disch := first | omega | assumption) only [f_X12_indexOf_b2, ht i hi, qn_lit, qn_ofNat, qn_neg1, qn_neg2, nI_add, pk_mul, qn_sub, qn_ltT, qn_ltF, qn_leT, qn_leF, qn_eqT, qn_eqF, qn_m1T, qn_m1F, qn_m1F2, qn_m1lt, qn_m1lt2, qn_m1le, qn_m1le2, qn_and1, qn_and3, qn_and7, qn_and15, qn_and31, qn_and255, qn_and2047, qn_shl, qn_shr, qn_or, qn_div, qn_modlt, Nat.reduceMod, Nat.reduceAdd, Nat.reduceMul, Nat.reducePow, Nat.reduceDiv, Nat.reduceSub, ↓reduceIte, qn_us, qn_un, not_true_eq_false, not_false_eq_true, true_and, and_true, qn_nn, qn_addm, qn_ngT, qn_ngF, qn_ngE, qn_ngE2, qn_ngL, qn_ngM, Nat.add_sub_cancel, qL, qS, qM, qV, qQ, qZ0, qZ1, qE_l, qE_r, qW_some]
        intro j hj
        by_cases q : j = i
        · rw [q]; exact e
        · exact hI j (by omega)
    · rintro z ⟨rfl, hI⟩
      simp (disch := first | omega | assumption) only [f_X12_indexOf_b2, qn_lit, qn_ofNat, qn_neg1, qn_neg2, nI_add, pk_mul, qn_sub, qn_ltT, qn_ltF, qn_leT, qn_leF, qn_eqT, qn_eqF, qn_m1T, qn_m1F, qn_m1F2, qn_m1lt, qn_m1lt2, qn_m1le, qn_m1le2, qn_and1, qn_and3, qn_and7, qn_and15, qn_and31, qn_and255, qn_and2047, qn_shl, qn_shr, qn_or, qn_div, qn_modlt, Nat.reduceMod, Nat.reduceAdd, Nat.reduceMul, Nat.reducePow, Nat.reduceDiv, Nat.reduceSub, ↓reduceIte, qn_us, qn_un, not_true_eq_false, not_false_eq_true, true_and, and_true, qn_nn, qn_addm, qn_ngT, qn_ngF, qn_ngE, qn_ngE2, qn_ngL, qn_ngM, Nat.add_sub_cancel, qL, qS, qM, qV, qQ, qZ0, qZ1, qE_l, qE_r, qW_some]
      refine Or.inr (fun hm => ?_)
      obtain ⟨j, j1, j2⟩ := q_mem.mp hm
      exact hI j j1 j2
  obtain ⟨e, g1, g2⟩ := key
  rcases g2 with ⟨j, rfl, j1, j2⟩ | ⟨rfl, g2⟩
  · exact ⟨nI j, by simp (disch := first | omega | assumption) only [f_X12_indexOf, g1, qn_lit, qn_ofNat, qn_neg1, qn_neg2, nI_add, pk_mul, qn_sub, qn_ltT, qn_ltF, qn_leT, qn_leF, qn_eqT, qn_eqF, qn_m1T, qn_m1F, qn_m1F2, qn_m1lt, qn_m1lt2, qn_m1le, qn_m1le2, qn_and1, qn_and3, qn_and7, qn_and15, qn_and31, qn_and255, qn_and2047, qn_shl, qn_shr, qn_or, qn_div, qn_modlt, Nat.reduceMod, Nat.reduceAdd, Nat.reduceMul, Nat.reducePow, Nat.reduceDiv, Nat.reduceSub, ↓reduceIte, qn_us, qn_un, not_true_eq_false, not_false_eq_true, true_and, and_true, qn_nn, qn_addm, qn_ngT, qn_ngF, qn_ngE, qn_ngE2, qn_ngL, qn_ngM, Nat.add_sub_cancel, qL, qS, qM, qV, qQ, qZ0, qZ1, qE_l, qE_r, qW_some], Or.inl ⟨j, rfl, j1, j2⟩⟩
  · exact ⟨mI, by simp (disch := first | omega | assumption) only [f_X12_indexOf, g1, qn_lit, qn_ofNat, qn_neg1, qn_neg2, nI_add, pk_mul, qn_sub, qn_ltT, qn_ltF, qn_leT, qn_leF, qn_eqT, qn_eqF, qn_m1T, qn_m1F, qn_m1F2, qn_m1lt, qn_m1lt2, qn_m1le, qn_m1le2, qn_and1, qn_and3, qn_and7, qn_and15, qn_and31, qn_and255, qn_and2047, qn_shl, qn_shr, qn_or, qn_div, qn_modlt, Nat.reduceMod, Nat.reduceAdd, Nat.reduceMul, Nat.reducePow, Nat.reduceDiv, Nat.reduceSub, ↓reduceIte, qn_us, qn_un, not_true_eq_false, not_false_eq_true, true_and, and_true, qn_nn, qn_addm, qn_ngT, qn_ngF, qn_ngE, qn_ngE2, qn_ngL, qn_ngM, Nat.add_sub_cancel, qL, qS, qM, qV, qQ, qZ0, qZ1, qE_l, qE_r, qW_some], Or.inr ⟨rfl, g2⟩⟩
theorem qgd_lt {n : Nat} {L : List Nat} (hn : n ≤ 8) (h : qgd n L) : ∀ i, i < L.length → L.getD i 0 < 16777216 := fun i hi => qvc_lt hn (h.2 i hi)
theorem q_add1R {n k : Nat} {F : Nat → Nat} {L : List Nat} {tu row : Nat → Int32} (hn : n ≤ 8) (hF : qP n F) (hr : qR 0 n row F) (ht : ∀ i, i < L.length → tu i = nI (L.getD i 0)) (hl : L.length ≤ 501) (hg : qgd n L) (hk : k < L.length) : ∃ tu', tu k = nI (L.getD k 0) ∧ f_X12_behind (8, row) (nI n) (nI (L.getD k 0)) = some (nI (qcp n F (L.getD k 0))) ∧ ((∃ j, f_X12_indexOf (nI L.length) (502, tu) (nI (qcp n F (L.getD k 0))) = some (nI j) ∧ j < 502 ∧ qs1 n F L k = L ∧ tu' = tu) ∨ (f_X12_indexOf (nI L.length) (502, tu) (nI (qcp n F (L.getD k 0))) = some mI ∧ (qs1 n F L k).length = L.length + 1 ∧ tu' = upd tu L.length (nI (qcp n F (L.getD k 0))))) ∧ ∀ i, i < (qs1 n F L k).length → tu' i = nI ((qs1 n F L k).getD i 0) := by
  have hb := q_behindR hn hF hr (hg.2 k hk)
  have hv := qvc_lt hn (qcp_vc hn hF (hg.2 k hk))
  obtain ⟨e, g1, g2⟩ := q_indexOf ht (by omega) (qgd_lt hn hg) hg.1 hv
  rcases g2 with ⟨j, rfl, j1, j2⟩ | ⟨rfl, g2⟩
  · have hm : qcp n F (L.getD k 0) ∈ L := q_mem.mpr ⟨j, j1, j2⟩
    have he : qs1 n F L k = L := if_pos hm
    exact ⟨tu, ht k hk, hb, Or.inl ⟨j, g1, by omega, he, rfl⟩, by rw [he]; exact ht⟩
  · have he : qs1 n F L k = L ++ [qcp n F (L.getD k 0)] := if_neg g2
    refine ⟨upd tu L.length (nI (qcp n F (L.getD k 0))), ht k hk, hb, Or.inr ⟨g1, by rw [he]; simp, rfl⟩, fun i hi => ?_⟩
    rw [he] at hi ⊢
    simp only [List.length_append, List.length_singleton] at hi
    by_cases q : i = L.length
    · rw [q, pk_us, q_getD_new]
    · rw [pk_un q, q_getD_app (by omega)]
      exact ht i (by omega)
theorem q_findTurns {n : Nat} {W C V U : Nat → Nat} {we ch wb cb tu : Nat → Int32} {tn : Int32} (hx : qXw n W C V U we ch wb cb) : ∃ k tu', qfin n W C k ∧ f_X12_findTurns (nI n) (8, ch) (8, we) tn (502, tu) = some (nI (qBF n W C k).length, (502, tu')) ∧ ∀ i, i < (qBF n W C k).length → tu' i = nI ((qBF n W C k).getD i 0) := by
  obtain ⟨⟨hn, hW, hC, hV, hU⟩, h1, h2, h3, h4⟩ := hx
  have key : qW (f_X12_findTurns_l17 (nI n) (8, ch) (8, we) (nI 1) (502, upd tu 0 (nI (qpk (fun i => i) n))) (nI 0)) (fun e => ∃ k tu', qfin n W C k ∧ e = (nI (qBF n W C k).length, (502, tu')) ∧ ∀ i, i < (qBF n W C k).length → tu' i = nI ((qBF n W C k).getD i 0)) := by
    unfold f_X12_findTurns_l17
    refine qfor 0 501 (fun k z => ∃ tu', z = (nI (qBF n W C k).length, (502, tu'), nI k) ∧ qgo n W C k ∧ ∀ i, i < (qBF n W C k).length → tu' i = nI ((qBF n W C k).getD i 0)) ?_ (by omega) (by omega) ?_ ?_
    · refine ⟨_, rfl, fun j hj => absurd hj (by omega), fun i hi => ?_⟩
      simp only [qBF, List.length_singleton] at hi
      have : i = 0 := by omega
      subst this
      exact pk_us
    · rintro k z - hk ⟨tu', rfl, hg, ht⟩
      obtain ⟨b1, b2, b3, b4, b5⟩ := qBF_ok hn hW hC k hg
      by_cases c1 : (qBF n W C k).length ≤ k
      · simp (disch := first | omega | assumption) only [f_X12_findTurns_b17, qn_lit, qn_ofNat, qn_neg1, qn_neg2, nI_add, pk_mul, qn_sub, qn_ltT, qn_ltF, qn_leT, qn_leF, qn_eqT, qn_eqF, qn_m1T, qn_m1F, qn_m1F2, qn_m1lt, qn_m1lt2, qn_m1le, qn_m1le2, qn_and1, qn_and3, qn_and7, qn_and15, qn_and31, qn_and255, qn_and2047, qn_shl, qn_shr, qn_or, qn_div, qn_modlt, Nat.reduceMod, Nat.reduceAdd, Nat.reduceMul, Nat.reducePow, Nat.reduceDiv, Nat.reduceSub, ↓reduceIte, qn_us, qn_un, not_true_eq_false, not_false_eq_true, true_and, and_true, qn_nn, qn_addm, qn_ngT, qn_ngF, qn_ngE, qn_ngE2, qn_ngL, qn_ngM, Nat.add_sub_cancel, qL, qS, qM, qV, qQ, qZ0, qZ1, qE_l, qE_r, qW_some]
        exact ⟨k, tu', ⟨hg, Or.inl c1⟩, rfl, ht⟩
      · by_cases c2 : 500 < (qBF n W C k).length
        · simp (disch := first | omega | assumption) only [f_X12_findTurns_b17, qn_lit, qn_ofNat, qn_neg1, qn_neg2, nI_add, pk_mul, qn_sub, qn_ltT, qn_ltF, qn_leT, qn_leF, qn_eqT, qn_eqF, qn_m1T, qn_m1F, qn_m1F2, qn_m1lt, qn_m1lt2, qn_m1le, qn_m1le2, qn_and1, qn_and3, qn_and7, qn_and15, qn_and31, qn_and255, qn_and2047, qn_shl, qn_shr, qn_or, qn_div, qn_modlt, Nat.reduceMod, Nat.reduceAdd, Nat.reduceMul, Nat.reducePow, Nat.reduceDiv, Nat.reduceSub, ↓reduceIte, qn_us, qn_un, not_true_eq_false, not_false_eq_true, true_and, and_true, qn_nn, qn_addm, qn_ngT, qn_ngF, qn_ngE, qn_ngE2, qn_ngL, qn_ngM, Nat.add_sub_cancel, qL, qS, qM, qV, qQ, qZ0, qZ1, qE_l, qE_r, qW_some]
          exact ⟨k, tu', ⟨hg, Or.inr c2⟩, rfl, ht⟩
        · have l1 := qs1_len (n := n) (F := W) (L := qBF n W C k) (k := k)
          obtain ⟨t1, x1, x2, x3, x4⟩ := q_add1R hn hW h1 ht (by omega) b1 (show k < _ by omega)
          have a1 := qs1_gd hn hW b1 (show k < _ by omega)
          obtain ⟨t2, y1, y2, y3, y4⟩ := q_add1R hn hC h2 x4 (by omega) a1 (show k < _ by omega)
          rw [qs1_get (show k < _ by omega)] at y1 y2 y3
          have fin : ∃ tu', (nI (qs1 n C (qs1 n W (qBF n W C k) k) k).length, ((502, t2) : jA), nI (k + 1)) = (nI (qBF n W C (k + 1)).length, ((502, tu') : jA), nI (k + 1)) ∧ qgo n W C (k + 1) ∧ ∀ i, i < (qBF n W C (k + 1)).length → tu' i = nI ((qBF n W C (k + 1)).getD i 0) := by
            refine ⟨t2, rfl, fun j hj => ?_, y4⟩
            by_cases q : j = k
            · rw [q]; omega
            · exact hg j (by omega)
          rcases x3 with ⟨j, j1, j2, j3, rfl⟩ | ⟨j1, j2, rfl⟩
          · rw [j3] at y3 fin l1
            rcases y3 with ⟨i, i1, i2, i3, rfl⟩ | ⟨i1, i2, rfl⟩
            · rw [i3] at fin
              simp (disch := first | omega | assumption) only [f_X12_findTurns_b17, f_X12_findTurns_j79, f_X12_findTurns_j123, x1, x2, j1, y1, y2, i1, qn_lit, qn_ofNat, qn_neg1, qn_neg2, nI_add, pk_mul, qn_sub, qn_ltT, qn_ltF, qn_leT, qn_leF, qn_eqT, qn_eqF, qn_m1T, qn_m1F, qn_m1F2, qn_m1lt, qn_m1lt2, qn_m1le, qn_m1le2, qn_and1, qn_and3, qn_and7, qn_and15, qn_and31, qn_and255, qn_and2047, qn_shl, qn_shr, qn_or, qn_div, qn_modlt, Nat.reduceMod, Nat.reduceAdd, Nat.reduceMul, Nat.reducePow, Nat.reduceDiv, Nat.reduceSub, ↓reduceIte, qn_us, qn_un, not_true_eq_false, not_false_eq_true, true_and, and_true, qn_nn, qn_addm, qn_ngT, qn_ngF, qn_ngE, qn_ngE2, qn_ngL, qn_ngM, Nat.add_sub_cancel, qL, qS, qM, qV, qQ, qZ0, qZ1, qE_l, qE_r, qW_some]
              exact fin
            · rw [i2] at fin
              simp (disch := first | omega | assumption) only [f_X12_findTurns_b17, f_X12_findTurns_j79, f_X12_findTurns_j123, x1, x2, j1, y1, y2, i1, qn_lit, qn_ofNat, qn_neg1, qn_neg2, nI_add, pk_mul, qn_sub, qn_ltT, qn_ltF, qn_leT, qn_leF, qn_eqT, qn_eqF, qn_m1T, qn_m1F, qn_m1F2, qn_m1lt, qn_m1lt2, qn_m1le, qn_m1le2, qn_and1, qn_and3, qn_and7, qn_and15, qn_and31, qn_and255, qn_and2047, qn_shl, qn_shr, qn_or, qn_div, qn_modlt, Nat.reduceMod, Nat.reduceAdd, Nat.reduceMul, Nat.reducePow, Nat.reduceDiv, Nat.reduceSub, ↓reduceIte, qn_us, qn_un, not_true_eq_false, not_false_eq_true, true_and, and_true, qn_nn, qn_addm, qn_ngT, qn_ngF, qn_ngE, qn_ngE2, qn_ngL, qn_ngM, Nat.add_sub_cancel, qL, qS, qM, qV, qQ, qZ0, qZ1, qE_l, qE_r, qW_some]
              exact fin
          · rw [j2] at y3
            rcases y3 with ⟨i, i1, i2, i3, rfl⟩ | ⟨i1, i2, rfl⟩
            · rw [i3, j2] at fin
              simp (disch := first | omega | assumption) only [f_X12_findTurns_b17, f_X12_findTurns_j79, f_X12_findTurns_j123, x1, x2, j1, y1, y2, i1, qn_lit, qn_ofNat, qn_neg1, qn_neg2, nI_add, pk_mul, qn_sub, qn_ltT, qn_ltF, qn_leT, qn_leF, qn_eqT, qn_eqF, qn_m1T, qn_m1F, qn_m1F2, qn_m1lt, qn_m1lt2, qn_m1le, qn_m1le2, qn_and1, qn_and3, qn_and7, qn_and15, qn_and31, qn_and255, qn_and2047, qn_shl, qn_shr, qn_or, qn_div, qn_modlt, Nat.reduceMod, Nat.reduceAdd, Nat.reduceMul, Nat.reducePow, Nat.reduceDiv, Nat.reduceSub, ↓reduceIte, qn_us, qn_un, not_true_eq_false, not_false_eq_true, true_and, and_true, qn_nn, qn_addm, qn_ngT, qn_ngF, qn_ngE, qn_ngE2, qn_ngL, qn_ngM, Nat.add_sub_cancel, qL, qS, qM, qV, qQ, qZ0, qZ1, qE_l, qE_r, qW_some]
              exact fin
            · rw [i2] at fin
              simp (disch := first | omega | assumption) only [f_X12_findTurns_b17, f_X12_findTurns_j79, f_X12_findTurns_j123, x1, x2, j1, y1, y2, i1, j2, qn_lit, qn_ofNat, qn_neg1, qn_neg2, nI_add, pk_mul, qn_sub, qn_ltT, qn_ltF, qn_leT, qn_leF, qn_eqT, qn_eqF, qn_m1T, qn_m1F, qn_m1F2, qn_m1lt, qn_m1lt2, qn_m1le, qn_m1le2, qn_and1, qn_and3, qn_and7, qn_and15, qn_and31, qn_and255, qn_and2047, qn_shl, qn_shr, qn_or, qn_div, qn_modlt, Nat.reduceMod, Nat.reduceAdd, Nat.reduceMul, Nat.reducePow, Nat.reduceDiv, Nat.reduceSub, ↓reduceIte, qn_us, qn_un, not_true_eq_false, not_false_eq_true, true_and, and_true, qn_nn, qn_addm, qn_ngT, qn_ngF, qn_ngE, qn_ngE2, qn_ngL, qn_ngM, Nat.add_sub_cancel, qL, qS, qM, qV, qQ, qZ0, qZ1, qE_l, qE_r, qW_some]
              exact fin
    · rintro z ⟨tu', rfl, hg, ht⟩
      have := qgo_len hg
      omega
  obtain ⟨e, g1, k, tu', g2, rfl, g3⟩ := key
  refine ⟨k, tu', g2, ?_, g3⟩
  simp (disch := first | omega | assumption) only [f_X12_findTurns, q_self hn, g1, qn_lit, qn_ofNat, qn_neg1, qn_neg2, nI_add, pk_mul, qn_sub, qn_ltT, qn_ltF, qn_leT, qn_leF, qn_eqT, qn_eqF, qn_m1T, qn_m1F, qn_m1F2, qn_m1lt, qn_m1lt2, qn_m1le, qn_m1le2, qn_and1, qn_and3, qn_and7, qn_and15, qn_and31, qn_and255, qn_and2047, qn_shl, qn_shr, qn_or, qn_div, qn_modlt, Nat.reduceMod, Nat.reduceAdd, Nat.reduceMul, Nat.reducePow, Nat.reduceDiv, Nat.reduceSub, ↓reduceIte, qn_us, qn_un, not_true_eq_false, not_false_eq_true, true_and, and_true, qn_nn, qn_addm, qn_ngT, qn_ngF, qn_ngE, qn_ngE2, qn_ngL, qn_ngM, Nat.add_sub_cancel, qL, qS, qM, qV, qQ, qZ0, qZ1, qE_l, qE_r, qW_some]

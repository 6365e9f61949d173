/-! gather of the class; the turns as a table of numbers -/
theorem q_nar0 : vp_nar .boolean (nI 0) = nI 0 := by decide
theorem q_nar1 : vp_nar .boolean (nI 1) = nI 1 := by decide
def qix : List Nat → Nat → Nat
  | [], _ => 0
  | a :: L, x => if a = x then 0 else qix L x + 1
theorem qix_ok {L : List Nat} {x : Nat} (h : x ∈ L) : qix L x < L.length ∧ L.getD (qix L x) 0 = x := by
  induction L with
  | nil => cases h
  | cons a L ih =>
    simp only [qix]
    by_cases e : a = x
    · rw [if_pos e]
      exact ⟨by simp, by simpa using e⟩
    · rw [if_neg e]
      have h2 : x ∈ L := by
        rcases List.mem_cons.mp h with q | q
        · exact absurd q.symm e
        · exact q
      have := ih h2
      refine ⟨by simp; omega, ?_⟩
      rw [List.getD_cons_succ]
      exact this.2
theorem qix_nd {L : List Nat} {x j : Nat} (hN : qNd L) (hj : j < L.length) (h : L.getD j 0 = x) : qix L x = j := by
  have := qix_ok (q_mem.mpr ⟨j, hj, h⟩)
  exact hN _ _ this.1 hj (by rw [this.2, h])
/-- a whole table of turns -/
def qTB (n : Nat) (W C : Nat → Nat) (L : List Nat) : Prop := qgd n L ∧ 0 < L.length ∧ L.length ≤ 500 ∧ L.getD 0 0 = qpk (fun i => i) n ∧ ∀ i, i < L.length → (∃ j, j < L.length ∧ L.getD j 0 = qcp n W (L.getD i 0)) ∧ ∃ j, j < L.length ∧ L.getD j 0 = qcp n C (L.getD i 0)
def qtw (n : Nat) (F : Nat → Nat) (L : List Nat) (i : Nat) : Nat := qix L (qcp n F (L.getD i 0))
theorem qfin_TB {n k : Nat} {W C : Nat → Nat} (hn : n ≤ 8) (hW : qP n W) (hC : qP n C) (h : qfin n W C k) (hl : (qBF n W C k).length ≤ 500) : qTB n W C (qBF n W C k) := by
  obtain ⟨b1, b2, b3, b4, b5⟩ := qBF_ok hn hW hC k h.1
  refine ⟨b1, b4.1, hl, b4.2, fun i hi => b5 i ?_⟩
  rcases h.2 with q | q <;> omega
theorem qtw_P {n : Nat} {F : Nat → Nat} {L : List Nat} (hn : n ≤ 8) (hF : qP n F) (hg : qgd n L) (hc : ∀ i, i < L.length → ∃ j, j < L.length ∧ L.getD j 0 = qcp n F (L.getD i 0)) : (∀ i, i < L.length → qtw n F L i < L.length ∧ L.getD (qtw n F L i) 0 = qcp n F (L.getD i 0)) ∧ qP L.length (qtw n F L) := by
  have h1 : ∀ i, i < L.length → qtw n F L i < L.length ∧ L.getD (qtw n F L i) 0 = qcp n F (L.getD i 0) := fun i hi => qix_ok (q_mem.mpr (hc i hi))
  refine ⟨h1, fun i hi => (h1 i hi).1, fun i j hi hj e => ?_⟩
  have e1 := (h1 i hi).2
  rw [e, (h1 j hj).2] at e1
  obtain ⟨f, f1, f2⟩ := hg.2 i hi
  obtain ⟨g, g1, g2⟩ := hg.2 j hj
  refine hg.1 i j hi hj ?_
  rw [f1, g1] at e1 ⊢
  rw [qcp_pk hn g2.1, qcp_pk hn f2.1] at e1
  have e2 := qpk_inj (fun i hi => by have := hF.1 _ (g2.1 i hi); omega) (fun i hi => by have := hF.1 _ (f2.1 i hi); omega) e1
  exact qpk_ext (fun i hi => (hF.2 _ _ (g2.1 i hi) (f2.1 i hi) (e2 i hi)).symm)
theorem qtw_B {n : Nat} {F G : Nat → Nat} {L : List Nat} (hn : n ≤ 8) (hF : qP n F) (hB : qB n F G) (hg : qgd n L) (hc : ∀ i, i < L.length → ∃ j, j < L.length ∧ L.getD j 0 = qcp n F (L.getD i 0)) : (∀ i, i < L.length → qtw n G L i < L.length ∧ L.getD (qtw n G L i) 0 = qcp n G (L.getD i 0)) ∧ qB L.length (qtw n F L) (qtw n G L) := by
  obtain ⟨h1, h2⟩ := qtw_P hn hF hg hc
  have h3 : ∀ i, i < L.length → ∃ j, j < L.length ∧ L.getD j 0 = qcp n G (L.getD i 0) := by
    intro i hi
    obtain ⟨j, j1, j2⟩ := qP_surj h2 hi
    refine ⟨j, j1, ?_⟩
    rw [← j2, (h1 j j1).2, qcp_cp hn hF.1 (hg.2 j j1)]
    exact (qcp_id hn (hg.2 j j1) (fun x hx => (hB x hx).2.2)).symm
  have h4 : ∀ i, i < L.length → qtw n G L i < L.length ∧ L.getD (qtw n G L i) 0 = qcp n G (L.getD i 0) := fun i hi => qix_ok (q_mem.mpr (h3 i hi))
  refine ⟨h4, qB_of h2 (fun i hi => ?_)⟩
  have h5 := h1 i hi
  refine qix_nd hg.1 hi ?_
  rw [h5.2, qcp_cp hn hF.1 (hg.2 i hi)]
  exact (qcp_id hn (hg.2 i hi) (fun x hx => (hB x hx).2.2)).symm
/-- the rows of the class that belong to a table -/
def qTA (n : Nat) (W C V U : Nat → Nat) (L : List Nat) (bc bf bh bw : Nat → Int32) : Prop := qR 0 L.length bw (qtw n W L) ∧ qR 0 L.length bc (qtw n C L) ∧ qR 0 L.length bh (qtw n V L) ∧ qR 0 L.length bf (qtw n U L)
theorem q_num1 {n k : Nat} {F : Nat → Nat} {L : List Nat} {sl tu : Nat → Int32} {s : Nat → Nat} (hn : n ≤ 8) (hF : qP n F) (hT : qHT L sl tu s) (hg : qgd n L) (hl : L.length ≤ 500) (hk : k < L.length) : (∃ sl' tu' s' j, f_X9_numberOf (nI L.length) (nI 0) (2048, sl) (500, tu) (nI (qcp n F (L.getD k 0))) = some (nI j, nI (qs1 n F L k).length, nI 0, (2048, sl'), (500, tu')) ∧ (qs1 n F L k).length ≤ 500 ∧ qHT (qs1 n F L k) sl' tu' s' ∧ j < (qs1 n F L k).length ∧ (qs1 n F L k).getD j 0 = qcp n F (L.getD k 0)) ∨ (L.length = 500 ∧ (qs1 n F L k).length = 501 ∧ f_X9_numberOf (nI L.length) (nI 0) (2048, sl) (500, tu) (nI (qcp n F (L.getD k 0))) = some (mI, nI 500, nI 1, (2048, sl), (500, tu))) := by
  have hlt := qgd_lt hn hg
  have hxl := qvc_lt hn (qcp_vc hn hF (hg.2 k hk))
  by_cases hm : qcp n F (L.getD k 0) ∈ L
  · have he : qs1 n F L k = L := if_pos hm
    obtain ⟨j, j1, j2⟩ := q_mem.mp hm
    left
    rw [he]
    exact ⟨sl, tu, s, j, q_number_in hT hl hlt hg.1 j1 j2, hl, hT, j1, j2⟩
  · have he : qs1 n F L k = L ++ [qcp n F (L.getD k 0)] := if_neg hm
    by_cases q : L.length = 500
    · right
      refine ⟨q, by rw [he]; simp [q], ?_⟩
      have := q_number_full (many := nI 0) hT q hlt hxl hm
      rw [← q] at this ⊢
      exact this
    · left
      obtain ⟨sl', s', g1, g2⟩ := q_number_new (many := nI 0) hT (by omega) hlt hxl hm
      rw [he]
      refine ⟨sl', _, s', L.length, ?_, ?_, g2, ?_, q_getD_new⟩
      · rw [g1]; simp
      · simp; omega
      · simp
theorem q_numM {n k : Nat} {F : Nat → Nat} {L : List Nat} {sl tu : Nat → Int32} {s : Nat → Nat} (hn : n ≤ 8) (hF : qP n F) (hT : qHT L sl tu s) (hg : qgd n L) (hl : L.length = 500) (hk : k < L.length) : ∃ r, f_X9_numberOf (nI 500) (nI 1) (2048, sl) (500, tu) (nI (qcp n F (L.getD k 0))) = some (r, nI 500, nI 1, (2048, sl), (500, tu)) := by
  have hlt := qgd_lt hn hg
  have hxl := qvc_lt hn (qcp_vc hn hF (hg.2 k hk))
  by_cases hm : qcp n F (L.getD k 0) ∈ L
  · obtain ⟨j, j1, j2⟩ := q_mem.mp hm
    exact ⟨nI j, q_number_in hT (by omega) hlt hg.1 j1 j2⟩
  · exact ⟨mI, q_number_full hT hl hlt hxl hm⟩
theorem qBF_s (n : Nat) (W C : Nat → Nat) (k : Nat) : qBF n W C (k + 1) = qs1 n C (qs1 n W (qBF n W C k) k) k := rfl
theorem qBF_z (n : Nat) (W C : Nat → Nat) : (qBF n W C 0).length = 1 := rfl
theorem q_gstep {n k : Nat} {W C : Nat → Nat} {L L1 L2 : List Nat} {bc bw sl tu bf bh sr : Nat → Int32} {s : Nat → Nat} (hn : n ≤ 8) (hW : qP n W) (hC : qP n C) (h3 : qHT L sl tu s) (b1 : qgd n L) (h2 : L.length ≤ 500) (hkl : k < L.length) (e1 : L1 = qs1 n W L k) (e2 : L2 = qs1 n C L1 k) : qW (f_X9_gather_b102 (nI (qpk C n)) (nI L.length) (nI 0) (nI n) (nI (qpk W n)) (500, bc) (500, bf) (500, bh) (500, bw) (2, sr) (2048, sl) (500, tu) (nI k)) (fun r => (500 < L2.length ∧ ∃ bc' bw' sl' tu', r = Sum.inl (nI 500, nI 1, (500, bc'), (500, bw'), (2048, sl'), (500, tu'), nI (k + 1))) ∨ ∃ s2 sl' tu' i j, r = Sum.inl (nI L2.length, nI 0, (500, upd bc k (nI i)), (500, upd bw k (nI j)), (2048, sl'), (500, tu'), nI (k + 1)) ∧ L2.length ≤ 500 ∧ qHT L2 sl' tu' s2 ∧ j < L1.length ∧ L1.getD j 0 = qcp n W (L.getD k 0) ∧ i < L2.length ∧ L2.getD i 0 = qcp n C (L.getD k 0)) := by
  have t0 := h3.1 k hkl
  have bx := q_behindX hn hW (b1.2 k hkl)
  have by' := q_behindX hn hC (b1.2 k hkl)
  have l1 := qs1_len (n := n) (F := W) (L := L) (k := k)
  have a1 := qs1_gd hn hW b1 hkl
  have n1 := q_num1 hn hW h3 b1 h2 hkl
  have p1 := qs1_get (n := n) (F := W) (k := k) hkl
  rw [← e1] at l1 a1 n1 p1
  clear e1
  have l2 := qs1_len (n := n) (F := C) (L := L1) (k := k)
  rw [← e2] at l2
  rcases n1 with ⟨sl1, tu1, s1, j, g1, g2, g3, g4, g5⟩ | ⟨g1, g2, g3⟩
  · have t1 := g3.1 k (by omega)
    rw [p1] at t1
    have n2 := q_num1 hn hC g3 a1 g2 (show k < _ by omega)
    rw [← e2, p1] at n2
    clear e2
    rcases n2 with ⟨sl2, tu2, s2, i, e1, e2, e3, e4, e5⟩ | ⟨e1, e2, e3⟩
    · refine ⟨_, ?_, Or.inr ⟨s2, sl2, tu2, i, j, rfl, e2, e3, g4, g5, e4, e5⟩⟩
      simp (disch := first | omega | assumption) only [f_X9_gather_b102, t0, bx, g1, t1, by', e1, qn_lit, qn_ofNat, qn_neg1, qn_neg2, nI_add, pk_mul, qn_sub, qn_ltT, qn_ltF, qn_leT, qn_leF, qn_eqT, qn_eqF, qn_m1T, qn_m1F, qn_m1F2, qn_m1lt, qn_m1lt2, qn_m1le, qn_m1le2, qn_and1, qn_and3, qn_and7, qn_and15, qn_and31, qn_and255, qn_and2047, qn_shl, qn_shr, qn_or, qn_div, qn_modlt, Nat.reduceMod, Nat.reduceAdd, Nat.reduceMul, Nat.reducePow, Nat.reduceDiv, Nat.reduceSub, ↓reduceIte, qn_us, qn_un, not_true_eq_false, not_false_eq_true, true_and, and_true, qn_nn, qn_addm, qn_ngT, qn_ngF, qn_ngE, qn_ngE2, qn_ngL, qn_ngM, Nat.add_sub_cancel, qL, qS, qM, qV, qQ, qZ0, qZ1, qE_l, qE_r, qW_some]
    · refine ⟨_, ?_, Or.inl ⟨by omega, upd bc k mI, upd bw k (nI j), sl1, tu1, rfl⟩⟩
      simp (disch := first | omega | assumption) only [f_X9_gather_b102, t0, bx, g1, t1, by', e3, qn_lit, qn_ofNat, qn_neg1, qn_neg2, nI_add, pk_mul, qn_sub, qn_ltT, qn_ltF, qn_leT, qn_leF, qn_eqT, qn_eqF, qn_m1T, qn_m1F, qn_m1F2, qn_m1lt, qn_m1lt2, qn_m1le, qn_m1le2, qn_and1, qn_and3, qn_and7, qn_and15, qn_and31, qn_and255, qn_and2047, qn_shl, qn_shr, qn_or, qn_div, qn_modlt, Nat.reduceMod, Nat.reduceAdd, Nat.reduceMul, Nat.reducePow, Nat.reduceDiv, Nat.reduceSub, ↓reduceIte, qn_us, qn_un, not_true_eq_false, not_false_eq_true, true_and, and_true, qn_nn, qn_addm, qn_ngT, qn_ngF, qn_ngE, qn_ngE2, qn_ngL, qn_ngM, Nat.add_sub_cancel, qL, qS, qM, qV, qQ, qZ0, qZ1, qE_l, qE_r, qW_some]
  · obtain ⟨r, e1⟩ := q_numM hn hC h3 b1 g1 hkl
    refine ⟨_, ?_, Or.inl ⟨by omega, upd bc k r, upd bw k mI, sl, tu, rfl⟩⟩
    simp (disch := first | omega | assumption) only [f_X9_gather_b102, t0, bx, g3, by', e1, qn_lit, qn_ofNat, qn_neg1, qn_neg2, nI_add, pk_mul, qn_sub, qn_ltT, qn_ltF, qn_leT, qn_leF, qn_eqT, qn_eqF, qn_m1T, qn_m1F, qn_m1F2, qn_m1lt, qn_m1lt2, qn_m1le, qn_m1le2, qn_and1, qn_and3, qn_and7, qn_and15, qn_and31, qn_and255, qn_and2047, qn_shl, qn_shr, qn_or, qn_div, qn_modlt, Nat.reduceMod, Nat.reduceAdd, Nat.reduceMul, Nat.reducePow, Nat.reduceDiv, Nat.reduceSub, ↓reduceIte, qn_us, qn_un, not_true_eq_false, not_false_eq_true, true_and, and_true, qn_nn, qn_addm, qn_ngT, qn_ngF, qn_ngE, qn_ngE2, qn_ngL, qn_ngM, Nat.add_sub_cancel, qL, qS, qM, qV, qQ, qZ0, qZ1, qE_l, qE_r, qW_some]
/-- the first loop of gather -/
theorem q_gather1 {n : Nat} {W C : Nat → Nat} {bc bw sl tu bf bh sr : Nat → Int32} {s : Nat → Nat} (hn : n ≤ 8) (hW : qP n W) (hC : qP n C) (hT : qHT [qpk (fun i => i) n] sl tu s) : qW (f_X9_gather_l102 (nI (qpk C n)) (nI n) (nI (qpk W n)) (500, bf) (500, bh) (2, sr) (nI 1) (nI 0) (500, bc) (500, bw) (2048, sl) (500, tu) (nI 0)) (fun e => ∃ k bc' bw' sl' tu', qfin n W C k ∧ ((∃ c, e = (c, nI 1, (500, bc'), (500, bw'), (2048, sl'), (500, tu')) ∧ 500 < (qBF n W C k).length) ∨ (e = (nI (qBF n W C k).length, nI 0, (500, bc'), (500, bw'), (2048, sl'), (500, tu')) ∧ (qBF n W C k).length ≤ 500 ∧ ∀ i, i < (qBF n W C k).length → (∃ j, j < (qBF n W C k).length ∧ bw' i = nI j ∧ (qBF n W C k).getD j 0 = qcp n W ((qBF n W C k).getD i 0)) ∧ ∃ j, j < (qBF n W C k).length ∧ bc' i = nI j ∧ (qBF n W C k).getD j 0 = qcp n C ((qBF n W C k).getD i 0)))) := by
  unfold f_X9_gather_l102
  refine qfor 0 501 (fun k z => ∃ bc' bw' sl' tu', (qfin n W C k ∧ z = (nI 500, nI 1, (500, bc'), (500, bw'), (2048, sl'), (500, tu'), nI k) ∧ 500 < (qBF n W C k).length) ∨ (∃ s', z = (nI (qBF n W C k).length, nI 0, (500, bc'), (500, bw'), (2048, sl'), (500, tu'), nI k) ∧ qgo n W C k ∧ (qBF n W C k).length ≤ 500 ∧ qHT (qBF n W C k) sl' tu' s' ∧ ∀ i, i < k → (∃ j, j < (qBF n W C k).length ∧ bw' i = nI j ∧ (qBF n W C k).getD j 0 = qcp n W ((qBF n W C k).getD i 0)) ∧ ∃ j, j < (qBF n W C k).length ∧ bc' i = nI j ∧ (qBF n W C k).getD j 0 = qcp n C ((qBF n W C k).getD i 0))) ?_ (by omega) (by omega) ?_ ?_
  · refine ⟨bc, bw, sl, tu, Or.inr ⟨s, ?_, fun j hj => absurd hj (by omega), by rw [qBF_z]; decide, hT, fun i hi => absurd hi (by omega)⟩⟩
    rw [qBF_z]
  · rintro k z - hk ⟨bc', bw', sl', tu', h⟩
    rcases h with ⟨h1, rfl, h2⟩ | ⟨s', rfl, h1, h2, h3, h4⟩
    · have := qgo_len h1.1
      by_cases c1 : 500 ≤ k
      · simp (disch := first | omega | assumption) only [f_X9_gather_b102, qn_lit, qn_ofNat, qn_neg1, qn_neg2, nI_add, pk_mul, qn_sub, qn_ltT, qn_ltF, qn_leT, qn_leF, qn_eqT, qn_eqF, qn_m1T, qn_m1F, qn_m1F2, qn_m1lt, qn_m1lt2, qn_m1le, qn_m1le2, qn_and1, qn_and3, qn_and7, qn_and15, qn_and31, qn_and255, qn_and2047, qn_shl, qn_shr, qn_or, qn_div, qn_modlt, Nat.reduceMod, Nat.reduceAdd, Nat.reduceMul, Nat.reducePow, Nat.reduceDiv, Nat.reduceSub, ↓reduceIte, qn_us, qn_un, not_true_eq_false, not_false_eq_true, true_and, and_true, qn_nn, qn_addm, qn_ngT, qn_ngF, qn_ngE, qn_ngE2, qn_ngL, qn_ngM, Nat.add_sub_cancel, qL, qS, qM, qV, qQ, qZ0, qZ1, qE_l, qE_r, qW_some]
        exact ⟨k, bc', bw', sl', tu', h1, Or.inl ⟨_, rfl, h2⟩⟩
      · simp (disch := first | omega | assumption) only [f_X9_gather_b102, qn_lit, qn_ofNat, qn_neg1, qn_neg2, nI_add, pk_mul, qn_sub, qn_ltT, qn_ltF, qn_leT, qn_leF, qn_eqT, qn_eqF, qn_m1T, qn_m1F, qn_m1F2, qn_m1lt, qn_m1lt2, qn_m1le, qn_m1le2, qn_and1, qn_and3, qn_and7, qn_and15, qn_and31, qn_and255, qn_and2047, qn_shl, qn_shr, qn_or, qn_div, qn_modlt, Nat.reduceMod, Nat.reduceAdd, Nat.reduceMul, Nat.reducePow, Nat.reduceDiv, Nat.reduceSub, ↓reduceIte, qn_us, qn_un, not_true_eq_false, not_false_eq_true, true_and, and_true, qn_nn, qn_addm, qn_ngT, qn_ngF, qn_ngE, qn_ngE2, qn_ngL, qn_ngM, Nat.add_sub_cancel, qL, qS, qM, qV, qQ, qZ0, qZ1, qE_l, qE_r, qW_some]
        exact ⟨k, bc', bw', sl', tu', h1, Or.inl ⟨_, rfl, h2⟩⟩
    · obtain ⟨b1, b2, b3, b4, b5⟩ := qBF_ok hn hW hC k h1
      by_cases c1 : (qBF n W C k).length ≤ k
      · simp (disch := first | omega | assumption) only [f_X9_gather_b102, qn_lit, qn_ofNat, qn_neg1, qn_neg2, nI_add, pk_mul, qn_sub, qn_ltT, qn_ltF, qn_leT, qn_leF, qn_eqT, qn_eqF, qn_m1T, qn_m1F, qn_m1F2, qn_m1lt, qn_m1lt2, qn_m1le, qn_m1le2, qn_and1, qn_and3, qn_and7, qn_and15, qn_and31, qn_and255, qn_and2047, qn_shl, qn_shr, qn_or, qn_div, qn_modlt, Nat.reduceMod, Nat.reduceAdd, Nat.reduceMul, Nat.reducePow, Nat.reduceDiv, Nat.reduceSub, ↓reduceIte, qn_us, qn_un, not_true_eq_false, not_false_eq_true, true_and, and_true, qn_nn, qn_addm, qn_ngT, qn_ngF, qn_ngE, qn_ngE2, qn_ngL, qn_ngM, Nat.add_sub_cancel, qL, qS, qM, qV, qQ, qZ0, qZ1, qE_l, qE_r, qW_some]
        refine ⟨k, bc', bw', sl', tu', ⟨h1, Or.inl c1⟩, Or.inr ⟨rfl, h2, fun i hi => h4 i (by omega)⟩⟩
      · have hkl : k < (qBF n W C k).length := by omega
        have hgo : qgo n W C (k + 1) := fun j hj => by
          by_cases q : j = k
          · rw [q]; omega
          · exact h1 j (by omega)
        obtain ⟨r, w1, w2⟩ := q_gstep (bc := bc') (bw := bw') (bf := bf) (bh := bh) (sr := sr) hn hW hC h3 b1 h2 hkl rfl rfl
        refine ⟨r, w1, ?_⟩
        have l1 := qs1_len (n := n) (F := W) (L := qBF n W C k) (k := k)
        have l2 := qs1_len (n := n) (F := C) (L := qs1 n W (qBF n W C k) k) (k := k)
        have pre : ∀ i, i < (qBF n W C k).length → (qs1 n C (qs1 n W (qBF n W C k) k) k).getD i 0 = (qBF n W C k).getD i 0 := fun i hi => by
          rw [qs1_get (by omega), qs1_get hi]
        have pre2 : ∀ i, i < (qs1 n W (qBF n W C k) k).length → (qs1 n C (qs1 n W (qBF n W C k) k) k).getD i 0 = (qs1 n W (qBF n W C k) k).getD i 0 := fun i hi => qs1_get hi
        rw [← qBF_s] at pre pre2 l2 w2
        rcases w2 with ⟨l3, bc2, bw2, sl2, tu2, rfl⟩ | ⟨s2, sl2, tu2, i, j, rfl, e2, e3, g4, g5, e4, e5⟩
        · exact ⟨bc2, bw2, sl2, tu2, Or.inl ⟨⟨hgo, Or.inr l3⟩, rfl, l3⟩⟩
        · refine ⟨_, _, sl2, tu2, Or.inr ⟨s2, rfl, hgo, e2, e3, fun m hm => ?_⟩⟩
          by_cases q : m = k
          · subst q
            rw [pre m hkl, pk_us, pk_us]
            exact ⟨⟨j, by omega, rfl, by rw [pre2 j g4]; exact g5⟩, ⟨i, e4, rfl, e5⟩⟩
          · rw [pre m (by omega), pk_un q, pk_un q]
            obtain ⟨⟨x, x1, x2, x3⟩, ⟨y, y1, y2, y3⟩⟩ := h4 m (by omega)
            exact ⟨⟨x, by omega, x2, by rw [pre x x1]; exact x3⟩, ⟨y, by omega, y2, by rw [pre y y1]; exact y3⟩⟩
  · rintro z ⟨bc', bw', sl', tu', h⟩
    rcases h with ⟨h1, rfl, h2⟩ | ⟨s', rfl, h1, h2, h3, h4⟩
    · have := qgo_len h1.1
      omega
    · have := qgo_len h1
      omega

/-! the class's families: begin, and all persons -/
def qKC (E : Nat → Nat → Nat → Prop) (Q : List Nat) (F : Nat → Nat) : Prop := ∀ a b k, E a b k → (a ∈ Q ∨ b ∈ Q) → a ∈ Q ∧ b ∈ Q ∧ F a = F b
theorem qKC_c {E : Nat → Nat → Nat → Prop} {Q : List Nat} {F : Nat → Nat} (h : qKC E Q F) {q y : Nat} (hq : q ∈ Q) (hc : qcn E q y) : y ∈ Q ∧ F y = F q := hc (fun y => y ∈ Q ∧ F y = F q) (fun a b k hE => ⟨fun z => by have := h a b k hE (Or.inl z.1); exact ⟨this.2.1, by rw [← this.2.2]; exact z.2⟩, fun z => by have := h a b k hE (Or.inr z.1); exact ⟨this.1, by rw [this.2.2]; exact z.2⟩⟩) ⟨hq, rfl⟩
theorem qKC_u {c n : Nat} {W C V : Nat → Nat} {E : Nat → Nat → Nat → Prop} {Q Q' : List Nat} {F F' : Nat → Nat} {K K' : Nat → Nat → Nat} {kb le qu kb' le' qu' : Nat → Int32} (h : qKI c n W C V E Q F K kb le qu) (h' : qKI c n W C V E Q' F' K' kb' le' qu') (g : qKC E Q F) (g' : qKC E Q' F') {q : Nat} (hq : q ∈ Q) (hq' : q ∈ Q') : F' q = F q := by
  have a1 := h.2.2.2 q hq
  have a2 := h'.2.2.2 q hq'
  have b1 := qKC_c g hq (qcn_s a2.2.1)
  have b2 := qKC_c g' hq' (qcn_s a1.2.1)
  have c1 := (h.2.2.2 _ b1.1).1
  have c2 := (h'.2.2.2 _ b2.1).1
  have e1 := b1.2
  have e2 := b2.2
  omega
theorem qKB_C {c n i0 h : Nat} {W C V : Nat → Nat} {E : Nat → Nat → Nat → Prop} {Q : List Nat} {F : Nat → Nat} {K : Nat → Nat → Nat} {kb le qu : Nat → Int32} (hB : qKB c n W C V E Q.length i0 h Q F K kb le qu) : qKC E Q F := by
  intro a b k hE hab
  rcases hab with q | q
  · obtain ⟨j, j1, j2⟩ := q_mem.mp q
    exact hB.2.1 j j1 j1 a b k hE (Or.inl j2.symm)
  · obtain ⟨j, j1, j2⟩ := q_mem.mp q
    exact hB.2.1 j j1 j1 a b k hE (Or.inr j2.symm)
theorem q_beginX {ks_fitting : Nat → Int32} {ks_kindBy : Nat → Int32} {ks_least : Nat → Int32} {ks_queue : Nat → Int32} {c n p f : Nat} {W C V U : Nat → Nat} {E : Nat → Nat → Nat → Prop} {Q : List Nat} {F : Nat → Nat} {K : Nat → Nat → Nat} (hn : n ≤ 8) (hc : c ≤ 24) (hI : qKI c n W C V E Q F K ks_kindBy ks_least ks_queue) (hC : qKC E Q F) (hp : p < c) (hpQ : ¬ p ∈ Q) (hlow : ∀ q, q < p → q ∈ Q) : ∃ F' K' kb' le' qu', f_X2_begin (nI n) (nI f) (nI Q.length) (24, ks_fitting) (192, ks_kindBy) (24, ks_least) (24, ks_queue) (nI p) = some (nI (f + 1), nI (Q.length + 1), (24, upd ks_fitting p (nI (2 ^ n - 1))), (192, kb'), (24, le'), (24, qu')) ∧ qKB c n W C V E Q.length Q.length p (Q ++ [p]) F' K' kb' le' qu' := by
  have fm := q_fullM hn
  have lq := qKI_len hI
  have lq2 : Q.length < c := by
    have := qpig c (Q.length + 1) (fun i => (Q ++ [p]).getD i 0) (fun i hi => by
      by_cases e : i = Q.length
      · show (Q ++ [p]).getD i 0 < c
        rw [e, q_getD_new]; exact hp
      · show (Q ++ [p]).getD i 0 < c
        rw [q_getD_app (by omega)]; exact (hI.2.1 i (by omega)).1) (fun i j hi hj e => qNd_app hI.1 hpQ i j (by simpa using hi) (by simpa using hj) e)
    omega
  have s1 := q_set (f := ks_least) (x := nI p) (show p < 24 by omega) (by decide)
  have s2 := q_set (f := ks_fitting) (x := nI (2 ^ n - 1)) (show p < 24 by omega) (by decide)
  have s3 := q_set (f := ks_queue) (x := nI p) (show Q.length < 24 by omega) (by decide)
  have loop : qW (f_X2_begin_l37 (nI n) (nI (f + 1)) (nI Q.length) ((24, upd ks_fitting p (nI (2 ^ n - 1)))) ((24, upd ks_least p (nI p))) (24, ks_queue) (nI p) (192, ks_kindBy) (nI 0)) (fun e => ∃ kb', e = (192, kb') ∧ (∀ r, r < n → kb' (8 * p + r) = nI r) ∧ ∀ j, j < 8 * p ∨ 8 * p + n ≤ j → kb' j = ks_kindBy j) := by
    unfold f_X2_begin_l37
    refine qfor 0 n (fun r z => ∃ kb', z = ((192, kb'), nI r) ∧ (∀ r', r' < r → kb' (8 * p + r') = nI r') ∧ ∀ j, j < 8 * p ∨ 8 * p + r ≤ j → kb' j = ks_kindBy j) ⟨_, rfl, fun r' hr => absurd hr (by omega), fun _ _ => rfl⟩ (by omega) (by omega) ?_ ?_
    · rintro r z - hr ⟨kb', rfl, k1, k2⟩
      have se := q_set (f := kb') (x := nI r) (show 8 * p + r < 192 by omega) (by decide)
      simp (disch := first | omega | assumption) only [f_X2_begin_b37, qn_lit, qn_ofNat, qn_neg1, qn_neg2, nI_add, pk_mul, qn_sub, qn_ltT, qn_ltF, qn_leT, qn_leF, qn_eqT, qn_eqF, qn_m1T, qn_m1F, qn_m1F2, qn_m1lt, qn_m1lt2, qn_m1le, qn_m1le2, qn_and1, qn_and3, qn_and7, qn_and15, qn_and31, qn_and255, qn_and2047, qn_shl, qn_shr, qn_or, qn_div, qn_modlt, Nat.reduceMod, Nat.reduceAdd, Nat.reduceMul, Nat.reducePow, Nat.reduceDiv, Nat.reduceSub, ↓reduceIte, qn_us, qn_un, not_true_eq_false, not_false_eq_true, true_and, and_true, qn_nn, qn_addm, qn_ngT, qn_ngF, qn_ngE, qn_ngE2, qn_ngL, qn_ngM, Nat.add_sub_cancel, qL, qS, qM, qV, qQ, qZ0, qZ1, qE_l, qE_r, qW_some, Nat.mul_comm p 8, se]
      refine ⟨_, rfl, fun r' hr' => ?_, fun j hj => ?_⟩
      · by_cases q : r' = r
        · rw [q, pk_us]
        · rw [pk_un (by omega)]; exact k1 r' (by omega)
      · rw [pk_un (by omega)]; exact k2 j (by omega)
    · rintro z ⟨kb', rfl, k1, k2⟩
      simp (disch := first | omega | assumption) only [f_X2_begin_b37, qn_lit, qn_ofNat, qn_neg1, qn_neg2, nI_add, pk_mul, qn_sub, qn_ltT, qn_ltF, qn_leT, qn_leF, qn_eqT, qn_eqF, qn_m1T, qn_m1F, qn_m1F2, qn_m1lt, qn_m1lt2, qn_m1le, qn_m1le2, qn_and1, qn_and3, qn_and7, qn_and15, qn_and31, qn_and255, qn_and2047, qn_shl, qn_shr, qn_or, qn_div, qn_modlt, Nat.reduceMod, Nat.reduceAdd, Nat.reduceMul, Nat.reducePow, Nat.reduceDiv, Nat.reduceSub, ↓reduceIte, qn_us, qn_un, not_true_eq_false, not_false_eq_true, true_and, and_true, qn_nn, qn_addm, qn_ngT, qn_ngF, qn_ngE, qn_ngE2, qn_ngL, qn_ngM, Nat.add_sub_cancel, qL, qS, qM, qV, qQ, qZ0, qZ1, qE_l, qE_r, qW_some]
      exact ⟨kb', rfl, k1, k2⟩
  obtain ⟨e, g1, kb', rfl, g2, g3⟩ := loop
  refine ⟨qup F p p, fun q => if q = p then (fun r => r) else K q, kb', upd ks_least p (nI p), upd ks_queue Q.length (nI p), ?_, ?_⟩
  · simp only [qn_lit, f_X2_begin, fm]
    simp (disch := first | omega | assumption) only [s1, s2, s3, g1, qn_lit, qn_ofNat, qn_neg1, qn_neg2, nI_add, pk_mul, qn_sub, qn_ltT, qn_ltF, qn_leT, qn_leF, qn_eqT, qn_eqF, qn_m1T, qn_m1F, qn_m1F2, qn_m1lt, qn_m1lt2, qn_m1le, qn_m1le2, qn_and1, qn_and3, qn_and7, qn_and15, qn_and31, qn_and255, qn_and2047, qn_shl, qn_shr, qn_or, qn_div, qn_modlt, Nat.reduceMod, Nat.reduceAdd, Nat.reduceMul, Nat.reducePow, Nat.reduceDiv, Nat.reduceSub, ↓reduceIte, qn_us, qn_un, not_true_eq_false, not_false_eq_true, true_and, and_true, qn_nn, qn_addm, qn_ngT, qn_ngF, qn_ngE, qn_ngE2, qn_ngL, qn_ngM, Nat.add_sub_cancel, qL, qS, qM, qV, qQ, qZ0, qZ1, qE_l, qE_r, qW_some]
  · have ne : ∀ q, q ∈ Q → q ≠ p := fun q hq e => hpQ (by rw [← e]; exact hq)
    have le' : (Q ++ [p]).length = Q.length + 1 := by simp
    obtain ⟨n1, n2, n3, n4⟩ := hI
    refine ⟨⟨qNd_app n1 hpQ, fun j hj => ?_, fun q hq => ⟨fun hm => ?_, fun hm => ?_⟩, fun q hq => ?_⟩, fun j hj hj2 a b k hE hab => ?_, fun j hj hj2 => ?_, fun q hq => ?_, Nat.le_refl _, by omega⟩
    · rw [le'] at hj
      by_cases e : j = Q.length
      · rw [e, q_getD_new, pk_us]; exact ⟨hp, rfl⟩
      · rw [q_getD_app (by omega), pk_un e]; exact n2 j (by omega)
    · by_cases e : q = p
      · rw [e, pk_us, qup_s]
      · rw [pk_un e, qup_n e]
        refine (n3 q hq).1 ?_
        rcases List.mem_append.mp hm with z | z
        · exact z
        · exact absurd (List.mem_singleton.mp z) e
    · have e : q ≠ p := fun e => hm (by rw [e]; simp)
      rw [pk_un e]
      exact (n3 q hq).2 (fun z => hm (List.mem_append_left _ z))
    · rcases List.mem_append.mp hq with z | z
      · have e := ne q z
        rw [qup_n e]
        simp only [if_neg e]
        obtain ⟨m1, m2, m3⟩ := n4 q z
        refine ⟨m1, m2, fun r hr => ⟨?_, (m3 r hr).2⟩⟩
        rw [g3 _ (by omega)]
        exact (m3 r hr).1
      · have e := List.mem_singleton.mp z
        subst e
        rw [qup_s]
        simp only [if_true]
        exact ⟨Nat.le_refl _, qcn_r _, fun r hr => ⟨g2 r hr, ⟨hr, qcn_r _, fun X _ q => q⟩, fun _ => trivial⟩⟩
    · have hmem : a ∈ Q ∨ b ∈ Q := by
        rw [q_getD_app hj] at hab
        rcases hab with q | q
        · exact Or.inl (by rw [q]; exact q_getD_mem hj)
        · exact Or.inr (by rw [q]; exact q_getD_mem hj)
      obtain ⟨a1, a2, a3⟩ := hC a b k hE hmem
      exact ⟨List.mem_append_left _ a1, List.mem_append_left _ a2, by rw [qup_n (ne a a1), qup_n (ne b a2)]; exact a3⟩
    · rw [le'] at hj2
      have : j = Q.length := by omega
      rw [this, q_getD_new, qup_s]
    · by_cases e : q = p
      · rw [e]; simp
      · exact List.mem_append_left _ (hlow q (by omega))
/-- all persons are parted in families -/
theorem q_findFam {xp_seenTo : Int32} {xp_father : Nat → Int32} {xp_man : Nat → Int32} {xp_mother : Nat → Int32} {xp_parentsDay : Nat → Int32} {xp_sex : Nat → Int32} {xp_weddingDay : Nat → Int32} {xp_woman : Nat → Int32} {xw_child : Nat → Int32} {xw_father : Nat → Int32} {xw_husband : Nat → Int32} {xw_wife : Nat → Int32} {ks_known : Int32} {ks_against : Nat → Int32} {ks_agreeing : Nat → Int32} {ks_best : Nat → Int32} {ks_fitting : Nat → Int32} {ks_kindBy : Nat → Int32} {ks_least : Nat → Int32} {ks_queue : Nat → Int32} {c w d n : Nat} {W C V U : Nat → Nat} (hw : qXw n W C V U xw_wife xw_child xw_husband xw_father) (hP : qPP c w d xp_seenTo xp_sex xp_mother xp_father xp_parentsDay xp_man xp_woman xp_weddingDay) (hle : ∀ p, p < 24 → ks_least p = mI) : qW (f_X2_find_l49 (nI c) xp_seenTo (nI w) (nI n) (24, xp_father) (24, xp_man) (24, xp_mother) (24, xp_parentsDay) (24, xp_sex) (24, xp_weddingDay) (24, xp_woman) (8, xw_child) (8, xw_father) (8, xw_husband) (8, xw_wife) (nI c) ks_known (192, ks_against) (24, ks_agreeing) (24, ks_best) (nI 0) (nI 0) (24, ks_fitting) (192, ks_kindBy) (24, ks_least) (24, ks_queue) (nI 0)) (fun e => ∃ Q F K qn fi kb le qu, e = (nI (qct (fun q => F q = q) c), nI qn, (24, fi), (192, kb), (24, le), (24, qu)) ∧ qKI c n W C V (qE c w xp_seenTo xp_mother xp_father xp_parentsDay xp_man xp_woman xp_weddingDay) Q F K kb le qu ∧ qKC (qE c w xp_seenTo xp_mother xp_father xp_parentsDay xp_man xp_woman xp_weddingDay) Q F ∧ (∀ q, q < c → q ∈ Q) ∧ ∀ q, q < c → F q = q → fi q = nI (2 ^ n - 1)) := by
  have hc := hP.1
  have hn := hw.1.1
  unfold f_X2_find_l49
  refine qfor 0 c (fun p z => ∃ Q F K fi kb le qu, z = (nI (qct (fun q => F q = q) p), nI Q.length, (24, fi), (192, kb), (24, le), (24, qu), nI p) ∧ qKI c n W C V (qE c w xp_seenTo xp_mother xp_father xp_parentsDay xp_man xp_woman xp_weddingDay) Q F K kb le qu ∧ qKC (qE c w xp_seenTo xp_mother xp_father xp_parentsDay xp_man xp_woman xp_weddingDay) Q F ∧ (∀ q, q < p → q ∈ Q) ∧ (∀ q, q ∈ Q → F q < p) ∧ ∀ q, q ∈ Q → F q = q → fi q = nI (2 ^ n - 1)) ?_ (by omega) (by omega) ?_ ?_
  · refine ⟨[], fun _ => 0, fun _ _ => 0, _, _, _, _, rfl, ⟨fun i j hi => absurd hi (by simp), fun i hi => absurd hi (by simp), fun q hq => ⟨fun z => absurd z (by simp), fun _ => hle q (by omega)⟩, fun q hq => absurd hq (by simp)⟩, fun a b k _ hab => ?_, fun q hq => absurd hq (by omega), fun q hq => absurd hq (by simp), fun q hq => absurd hq (by simp)⟩
    rcases hab with q | q <;> exact absurd q (by simp)
  · rintro p z - hp ⟨Q, F, K, fi, kb, le, qu, rfl, g1, g2, g3, g4, g5⟩
    have lq := qKI_len g1
    have cl := qct_le (fun q => F q = q) p
    by_cases hm : p ∈ Q
    · have lp := (g1.2.2.1 p hp).1 hm
      have fp := g4 p hm
      have cc : qct (fun q => F q = q) (p + 1) = qct (fun q => F q = q) p := qct_F (fun z => by have : F p = p := z; omega)
      simp (disch := first | omega | assumption) only [f_X2_find_b49, f_X2_find_j85, lp, qn_lit, qn_ofNat, qn_neg1, qn_neg2, nI_add, pk_mul, qn_sub, qn_ltT, qn_ltF, qn_leT, qn_leF, qn_eqT, qn_eqF, qn_m1T, qn_m1F, qn_m1F2, qn_m1lt, qn_m1lt2, qn_m1le, qn_m1le2, qn_and1, qn_and3, qn_and7, qn_and15, qn_and31, qn_and255, qn_and2047, qn_shl, qn_shr, qn_or, qn_div, qn_modlt, Nat.reduceMod, Nat.reduceAdd, Nat.reduceMul, Nat.reducePow, Nat.reduceDiv, Nat.reduceSub, ↓reduceIte, qn_us, qn_un, not_true_eq_false, not_false_eq_true, true_and, and_true, qn_nn, qn_addm, qn_ngT, qn_ngF, qn_ngE, qn_ngE2, qn_ngL, qn_ngM, Nat.add_sub_cancel, qL, qS, qM, qV, qQ, qZ0, qZ1, qE_l, qE_r, qW_some]
      refine ⟨Q, F, K, fi, kb, le, qu, by rw [cc], g1, g2, fun q hq => ?_, fun q hq => by have := g4 q hq; omega, g5⟩
      by_cases e : q = p
      · rw [e]; exact hm
      · exact g3 q (by omega)
    · have lp := (g1.2.2.1 p hp).2 hm
      obtain ⟨F1, K1, kb1, le1, qu1, b1, b2⟩ := q_beginX (f := qct (fun q => F q = q) p) (U := U) (ks_fitting := fi) hn hc g1 g2 hp hm g3
      obtain ⟨e, c1, Q2, F2, K2, kb2, le2, qu2, rfl, c2, c3⟩ := q_gatherX hw hP b2
      have lenE : (Q ++ [p]).length = Q.length + 1 := by simp
      rw [lenE] at c1
      have lq2 := qKI_len c2.1
      have gx : f_X2_gather (nI c) xp_seenTo (nI w) (nI n) (nI c) (24, xp_father) (24, xp_man) (24, xp_mother) (24, xp_parentsDay) (24, xp_sex) (24, xp_weddingDay) (24, xp_woman) (8, xw_child) (8, xw_father) (8, xw_husband) (8, xw_wife) (nI (Q.length + 1)) (192, kb1) (24, le1) (24, qu1) = some (nI Q2.length, (192, kb2), (24, le2), (24, qu2)) := by
        simp (disch := first | omega | assumption) only [f_X2_gather, c1, qn_lit, qn_ofNat, qn_neg1, qn_neg2, nI_add, pk_mul, qn_sub, qn_ltT, qn_ltF, qn_leT, qn_leF, qn_eqT, qn_eqF, qn_m1T, qn_m1F, qn_m1F2, qn_m1lt, qn_m1lt2, qn_m1le, qn_m1le2, qn_and1, qn_and3, qn_and7, qn_and15, qn_and31, qn_and255, qn_and2047, qn_shl, qn_shr, qn_or, qn_div, qn_modlt, Nat.reduceMod, Nat.reduceAdd, Nat.reduceMul, Nat.reducePow, Nat.reduceDiv, Nat.reduceSub, ↓reduceIte, qn_us, qn_un, not_true_eq_false, not_false_eq_true, true_and, and_true, qn_nn, qn_addm, qn_ngT, qn_ngF, qn_ngE, qn_ngE2, qn_ngL, qn_ngM, Nat.add_sub_cancel, qL, qS, qM, qV, qQ, qZ0, qZ1, qE_l, qE_r, qW_some]
      have hC2 := qKB_C c2
      have old : ∀ q, q ∈ Q → F2 q = F q := fun q hq => qKC_u g1 c2.1 g2 hC2 hq (c3.1 q (List.mem_append_left _ hq))
      have hp2 : p ∈ Q2 := c3.1 p (by simp)
      have hFp : F2 p = p := by
        have e1 := c3.2.1 Q.length (by omega)
        rw [q_getD_new] at e1
        have e2 := c2.2.2.1 Q.length (Nat.le_refl _) (by have := c3.2.2; omega)
        rw [e1] at e2
        exact e2
      have cc : qct (fun q => F2 q = q) (p + 1) = qct (fun q => F q = q) p + 1 := by
        rw [qct_T (P := fun q => F2 q = q) hFp]
        congr 1
        exact qct_ext (fun q hq => by rw [old q (g3 q hq)])
      simp (disch := first | omega | assumption) only [f_X2_find_b49, f_X2_find_j85, lp, b1, gx, qn_lit, qn_ofNat, qn_neg1, qn_neg2, nI_add, pk_mul, qn_sub, qn_ltT, qn_ltF, qn_leT, qn_leF, qn_eqT, qn_eqF, qn_m1T, qn_m1F, qn_m1F2, qn_m1lt, qn_m1lt2, qn_m1le, qn_m1le2, qn_and1, qn_and3, qn_and7, qn_and15, qn_and31, qn_and255, qn_and2047, qn_shl, qn_shr, qn_or, qn_div, qn_modlt, Nat.reduceMod, Nat.reduceAdd, Nat.reduceMul, Nat.reducePow, Nat.reduceDiv, Nat.reduceSub, ↓reduceIte, qn_us, qn_un, not_true_eq_false, not_false_eq_true, true_and, and_true, qn_nn, qn_addm, qn_ngT, qn_ngF, qn_ngE, qn_ngE2, qn_ngL, qn_ngM, Nat.add_sub_cancel, qL, qS, qM, qV, qQ, qZ0, qZ1, qE_l, qE_r, qW_some]
      have inQ : ∀ q, q ∈ Q2 → q ∈ Q ∨ F2 q = p := by
        intro q hq
        obtain ⟨j, j1, j2⟩ := q_mem.mp hq
        by_cases ji : j < Q.length
        · left
          rw [← j2, c3.2.1 j (by omega), q_getD_app ji]
          exact q_getD_mem ji
        · right
          rw [← j2]
          exact c2.2.2.1 j (by omega) j1
      refine ⟨Q2, F2, K2, _, kb2, le2, qu2, by rw [cc], c2.1, hC2, fun q hq => ?_, fun q hq => ?_, fun q hq hFq => ?_⟩
      · by_cases e : q = p
        · rw [e]; exact hp2
        · exact c3.1 q (List.mem_append_left _ (g3 q (by omega)))
      · rcases inQ q hq with z | z
        · rw [old q z]
          have := g4 q z
          omega
        · omega
      · by_cases e : q = p
        · rw [e, pk_us]
        · rw [pk_un e]
          rcases inQ q hq with z | z
          · exact g5 q z (by rw [← old q z]; exact hFq)
          · exact absurd (hFq.symm.trans z) e
  · rintro z ⟨Q, F, K, fi, kb, le, qu, rfl, g1, g2, g3, g4, g5⟩
    have cl := qct_le (fun q => F q = q) c
    simp (disch := first | omega | assumption) only [f_X2_find_b49, qn_lit, qn_ofNat, qn_neg1, qn_neg2, nI_add, pk_mul, qn_sub, qn_ltT, qn_ltF, qn_leT, qn_leF, qn_eqT, qn_eqF, qn_m1T, qn_m1F, qn_m1F2, qn_m1lt, qn_m1lt2, qn_m1le, qn_m1le2, qn_and1, qn_and3, qn_and7, qn_and15, qn_and31, qn_and255, qn_and2047, qn_shl, qn_shr, qn_or, qn_div, qn_modlt, Nat.reduceMod, Nat.reduceAdd, Nat.reduceMul, Nat.reducePow, Nat.reduceDiv, Nat.reduceSub, ↓reduceIte, qn_us, qn_un, not_true_eq_false, not_false_eq_true, true_and, and_true, qn_nn, qn_addm, qn_ngT, qn_ngF, qn_ngE, qn_ngE2, qn_ngL, qn_ngM, Nat.add_sub_cancel, qL, qS, qM, qV, qQ, qZ0, qZ1, qE_l, qE_r, qW_some]
    exact ⟨Q, F, K, _, fi, kb, le, qu, rfl, g1, g2, g3, fun q hq => g5 q (g3 q hq)⟩
theorem qK_Fm {c n : Nat} {W C V : Nat → Nat} {E : Nat → Nat → Nat → Prop} {Q : List Nat} {F : Nat → Nat} {K : Nat → Nat → Nat} {kb le qu : Nat → Int32} (h : qKI c n W C V E Q F K kb le qu) (g : qKC E Q F) (hE : ∀ a b k, E a b k → a < c ∧ b < c) (hall : ∀ q, q < c → q ∈ Q) : qFm c E F := ⟨fun p hp => ⟨qcn_s (h.2.2.2 p (hall p hp)).2.1, (h.2.2.2 p (hall p hp)).1⟩, fun a b k hab => (g a b k hab (Or.inl (hall a (hE a b k hab).1))).2.2⟩

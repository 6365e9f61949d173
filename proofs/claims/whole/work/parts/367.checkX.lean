/-! what fits, in the class -/
def qclr (m r : Nat) : Nat := m / 2 ^ (r + 1) * 2 ^ (r + 1) + m % 2 ^ r
theorem q_clr {m r : Nat} (hm : m < 256) (hr : r < 8) : nI m &&& (nI (2 ^ r) ^^^ mI) = nI (qclr m r) ∧ qclr m r < 256 ∧ ∀ i, i < 8 → (qbt (qclr m r) i = 1 ↔ qbt m i = 1 ∧ i ≠ r) := by
  have key : ∀ a : Fin 256, ∀ b : Fin 8, (nI a.val &&& (nI (2 ^ b.val) ^^^ mI) = nI (qclr a.val b.val)) ∧ qclr a.val b.val < 256 ∧ ∀ i : Fin 8, (qbt (qclr a.val b.val) i.val = 1 ↔ qbt a.val i.val = 1 ∧ i.val ≠ b.val) := by decide +kernel
  obtain ⟨k1, k2, k3⟩ := key ⟨m, hm⟩ ⟨r, hr⟩
  exact ⟨k1, k2, fun i hi => k3 ⟨i, hi⟩⟩
def qFT (c n : Nat) (W C V : Nat → Nat) (F : Nat → Nat) (K : Nat → Nat → Nat) (T : Nat → Nat → Nat → Prop) (fi : Nat → Int32) : Prop := ∀ h, h < c → F h = h → ∃ m, m < 256 ∧ fi h = nI m ∧ ∀ r, r < n → (qbt m r = 1 ↔ ∀ a b k, T a b k → F a = h → K b r = qcw W C V k (K a r))
theorem qFT_ext {c n : Nat} {W C V F : Nat → Nat} {K : Nat → Nat → Nat} {T T' : Nat → Nat → Nat → Prop} {fi : Nat → Int32} (h : qFT c n W C V F K T fi) (e : ∀ a b k, T a b k ↔ T' a b k) : qFT c n W C V F K T' fi := by
  intro x hx hF
  obtain ⟨m, m1, m2, m3⟩ := h x hx hF
  exact ⟨m, m1, m2, fun r hr => (m3 r hr).trans ⟨fun q a b k hT => q a b k ((e a b k).mpr hT), fun q a b k hT => q a b k ((e a b k).mp hT)⟩⟩
/-- rows of families and classes -/
def qKR (c n : Nat) (F : Nat → Nat) (K : Nat → Nat → Nat) (kb le : Nat → Int32) : Prop := (∀ p, p < c → le p = nI (F p) ∧ F p < c ∧ F (F p) = F p) ∧ ∀ p r, p < c → r < n → kb (8 * p + r) = nI (K p r) ∧ K p r < n
theorem q_checkX {xw_child : Nat → Int32} {xw_father : Nat → Int32} {xw_husband : Nat → Int32} {xw_wife : Nat → Int32} {ks_kindBy : Nat → Int32} {ks_least : Nat → Int32} {ks_fitting : Nat → Int32} {c n a b k l s : Nat} {W C V U F : Nat → Nat} {K : Nat → Nat → Nat} {T : Nat → Nat → Nat → Prop} (hw : qXw n W C V U xw_wife xw_child xw_husband xw_father) (hc : c ≤ 24) (hK : qKR c n F K ks_kindBy ks_least) (hT : qFT c n W C V F K T ks_fitting) (ha : a < c) (hb : b < c) (hl : l < 8) (hs : s < 2) (hk : ∀ u, qst W C V U l s u = qcw W C V k u) : ∃ fi', f_X2_check (nI n) (8, xw_child) (8, xw_father) (8, xw_husband) (8, xw_wife) (192, ks_kindBy) (24, ks_least) (24, ks_fitting) (nI a) (nI b) (nI l) (nI s) = some (24, fi') ∧ qFT c n W C V F K (fun x y z => T x y z ∨ (x = a ∧ y = b ∧ z = k)) fi' := by
  have hn := hw.1.1
  obtain ⟨la, fc, ff⟩ := hK.1 a ha
  have en := q_entry (f := ks_least) (show a < 24 by omega) (by decide)
  rw [la] at en
  have loop : qW (f_X2_check_l20 (nI n) (8, xw_child) (8, xw_father) (8, xw_husband) (8, xw_wife) (192, ks_kindBy) (nI a) (nI b) (nI l) (nI s) (nI (F a)) (24, ks_fitting) (nI 0)) (fun e => ∃ fi', e = (24, fi') ∧ (∀ h, h ≠ F a → fi' h = ks_fitting h) ∧ ∃ m m', m < 256 ∧ ks_fitting (F a) = nI m ∧ m' < 256 ∧ fi' (F a) = nI m' ∧ ∀ r, r < n → (qbt m' r = 1 ↔ qbt m r = 1 ∧ K b r = qcw W C V k (K a r))) := by
    obtain ⟨m, m1, m2, m3⟩ := hT (F a) fc ff
    unfold f_X2_check_l20
    refine qfor 0 n (fun r z => ∃ fi', z = ((24, fi'), nI r) ∧ (∀ h, h ≠ F a → fi' h = ks_fitting h) ∧ ∃ m', m' < 256 ∧ fi' (F a) = nI m' ∧ ∀ i, i < 8 → (qbt m' i = 1 ↔ qbt m i = 1 ∧ (i < r → K b i = qcw W C V k (K a i)))) ⟨_, rfl, fun _ _ => rfl, m, m1, m2, fun i hi => ⟨fun q => ⟨q, fun z => absurd z (by omega)⟩, fun q => q.1⟩⟩ (by omega) (by omega) ?_ ?_
    · rintro r z - hr ⟨fi', rfl, g1, m', g2, g3, g4⟩
      have ko := q_kindOf (x := a) (r := r) (kb := ks_kindBy) (by omega) (by omega)
      have ko2 := q_kindOf (x := b) (r := r) (kb := ks_kindBy) (by omega) (by omega)
      rw [(hK.2 a r ha hr).1] at ko
      rw [(hK.2 b r hb hr).1] at ko2
      have ka := (hK.2 a r ha hr).2
      have kb := (hK.2 b r hb hr).2
      have st := q_step hw.1 hw.2.1 hw.2.2.1 hw.2.2.2.1 hw.2.2.2.2 hl hs ka
      rw [hk] at st
      have kq := (qcw_P hw.1 k).1 _ ka
      by_cases q : qcw W C V k (K a r) = K b r
      · simp (disch := first | omega | assumption) only [f_X2_check_b20, f_X2_check_j80, ko, ko2, st, qn_lit, qn_ofNat, qn_neg1, qn_neg2, nI_add, pk_mul, qn_sub, qn_ltT, qn_ltF, qn_leT, qn_leF, qn_eqT, qn_eqF, qn_m1T, qn_m1F, qn_m1F2, qn_m1lt, qn_m1lt2, qn_m1le, qn_m1le2, qn_and1, qn_and3, qn_and7, qn_and15, qn_and31, qn_and255, qn_and2047, qn_shl, qn_shr, qn_or, qn_div, qn_modlt, Nat.reduceMod, Nat.reduceAdd, Nat.reduceMul, Nat.reducePow, Nat.reduceDiv, Nat.reduceSub, ↓reduceIte, qn_us, qn_un, not_true_eq_false, not_false_eq_true, true_and, and_true, qn_nn, qn_addm, qn_ngT, qn_ngF, qn_ngE, qn_ngE2, qn_ngL, qn_ngM, Nat.add_sub_cancel, qL, qS, qM, qV, qQ, qZ0, qZ1, qE_l, qE_r, qW_some]
        refine ⟨fi', rfl, g1, m', g2, g3, fun i hi => (g4 i hi).trans ⟨fun z => ⟨z.1, fun ir => ?_⟩, fun z => ⟨z.1, fun ir => z.2 (by omega)⟩⟩⟩
        by_cases e : i = r
        · rw [e]; exact q.symm
        · exact z.2 (by omega)
      · obtain ⟨c1, c2, c3⟩ := q_clr g2 (show r < 8 by omega)
        have e1 := q_entry (f := fi') (show F a < 24 by omega) (by decide)
        rw [g3] at e1
        have s1 := q_set (f := fi') (x := nI (qclr m' r)) (show F a < 24 by omega) (by decide)
        simp (disch := first | omega | assumption) only [f_X2_check_b20, f_X2_check_j80, ko, ko2, st, e1, qn_lit, qn_ofNat, qn_neg1, qn_neg2, nI_add, pk_mul, qn_sub, qn_ltT, qn_ltF, qn_leT, qn_leF, qn_eqT, qn_eqF, qn_m1T, qn_m1F, qn_m1F2, qn_m1lt, qn_m1lt2, qn_m1le, qn_m1le2, qn_and1, qn_and3, qn_and7, qn_and15, qn_and31, qn_and255, qn_and2047, qn_shl, qn_shr, qn_or, qn_div, qn_modlt, Nat.reduceMod, Nat.reduceAdd, Nat.reduceMul, Nat.reducePow, Nat.reduceDiv, Nat.reduceSub, ↓reduceIte, qn_us, qn_un, not_true_eq_false, not_false_eq_true, true_and, and_true, qn_nn, qn_addm, qn_ngT, qn_ngF, qn_ngE, qn_ngE2, qn_ngL, qn_ngM, Nat.add_sub_cancel, qL, qS, qM, qV, qQ, qZ0, qZ1, qE_l, qE_r, qW_some, Nat.mul_one, c1, s1]
        refine ⟨_, rfl, fun h hh => by rw [pk_un hh]; exact g1 h hh, _, c2, pk_us, fun i hi => (c3 i hi).trans ?_⟩
        rw [g4 i hi]
        constructor
        · rintro ⟨⟨z1, z2⟩, z3⟩
          exact ⟨z1, fun ir => z2 (by omega)⟩
        · rintro ⟨z1, z2⟩
          refine ⟨⟨z1, fun ir => z2 (by omega)⟩, fun e => ?_⟩
          subst e
          exact q (z2 (by omega)).symm
    · rintro z ⟨fi', rfl, g1, m', g2, g3, g4⟩
      simp (disch := first | omega | assumption) only [f_X2_check_b20, qn_lit, qn_ofNat, qn_neg1, qn_neg2, nI_add, pk_mul, qn_sub, qn_ltT, qn_ltF, qn_leT, qn_leF, qn_eqT, qn_eqF, qn_m1T, qn_m1F, qn_m1F2, qn_m1lt, qn_m1lt2, qn_m1le, qn_m1le2, qn_and1, qn_and3, qn_and7, qn_and15, qn_and31, qn_and255, qn_and2047, qn_shl, qn_shr, qn_or, qn_div, qn_modlt, Nat.reduceMod, Nat.reduceAdd, Nat.reduceMul, Nat.reducePow, Nat.reduceDiv, Nat.reduceSub, ↓reduceIte, qn_us, qn_un, not_true_eq_false, not_false_eq_true, true_and, and_true, qn_nn, qn_addm, qn_ngT, qn_ngF, qn_ngE, qn_ngE2, qn_ngL, qn_ngM, Nat.add_sub_cancel, qL, qS, qM, qV, qQ, qZ0, qZ1, qE_l, qE_r, qW_some]
      exact ⟨fi', rfl, g1, m, m', m1, m2, g2, g3, fun r hr => (g4 r (by omega)).trans ⟨fun z => ⟨z.1, z.2 hr⟩, fun z => ⟨z.1, fun _ => z.2⟩⟩⟩
  obtain ⟨e, g1, fi', rfl, g2, m, m', g3, g4, g5, g6, g7⟩ := loop
  refine ⟨fi', by simp (disch := first | omega | assumption) only [f_X2_check, en, g1, qn_lit, qn_ofNat, qn_neg1, qn_neg2, nI_add, pk_mul, qn_sub, qn_ltT, qn_ltF, qn_leT, qn_leF, qn_eqT, qn_eqF, qn_m1T, qn_m1F, qn_m1F2, qn_m1lt, qn_m1lt2, qn_m1le, qn_m1le2, qn_and1, qn_and3, qn_and7, qn_and15, qn_and31, qn_and255, qn_and2047, qn_shl, qn_shr, qn_or, qn_div, qn_modlt, Nat.reduceMod, Nat.reduceAdd, Nat.reduceMul, Nat.reducePow, Nat.reduceDiv, Nat.reduceSub, ↓reduceIte, qn_us, qn_un, not_true_eq_false, not_false_eq_true, true_and, and_true, qn_nn, qn_addm, qn_ngT, qn_ngF, qn_ngE, qn_ngE2, qn_ngL, qn_ngM, Nat.add_sub_cancel, qL, qS, qM, qV, qQ, qZ0, qZ1, qE_l, qE_r, qW_some], fun h hh hF => ?_⟩
  by_cases eh : h = F a
  · subst eh
    obtain ⟨m0, n1, n2, n3⟩ := hT (F a) fc ff
    rw [g4] at n2
    have : m = m0 := (nI_eq (by omega) (by omega)).mp n2
    subst this
    refine ⟨m', g5, g6, fun r hr => (g7 r hr).trans ?_⟩
    rw [n3 r hr]
    constructor
    · rintro ⟨z1, z2⟩ x y z (q | ⟨rfl, rfl, rfl⟩) hx
      · exact z1 x y z q hx
      · exact z2
    · intro z
      exact ⟨fun x y w q hx => z x y w (Or.inl q) hx, z a b k (Or.inr ⟨rfl, rfl, rfl⟩) rfl⟩
  · obtain ⟨m0, n1, n2, n3⟩ := hT h hh hF
    refine ⟨m0, n1, by rw [g2 h eh]; exact n2, fun r hr => (n3 r hr).trans ⟨?_, ?_⟩⟩
    · rintro z1 x y z (q | ⟨rfl, rfl, rfl⟩) hx
      · exact z1 x y z q hx
      · exact absurd hx.symm eh
    · intro z x y w q hx
      exact z x y w (Or.inl q) hx
theorem q_check_no {n : Nat} {xw_child : Nat → Int32} {xw_father : Nat → Int32} {xw_husband : Nat → Int32} {xw_wife : Nat → Int32} {ks_kindBy : Nat → Int32} {ks_least : Nat → Int32} {ks_fitting : Nat → Int32} (x y z : Int32) : f_X2_check (nI n) (8, xw_child) (8, xw_father) (8, xw_husband) (8, xw_wife) (192, ks_kindBy) (24, ks_least) (24, ks_fitting) mI x y z = some (24, ks_fitting) := by
  have en := q_entry_out (N := 24) (f := ks_least) (x := mI) (by decide) (Or.inl (by decide))
  simp (disch := first | omega | assumption) only [f_X2_check, en, qn_lit, qn_ofNat, qn_neg1, qn_neg2, nI_add, pk_mul, qn_sub, qn_ltT, qn_ltF, qn_leT, qn_leF, qn_eqT, qn_eqF, qn_m1T, qn_m1F, qn_m1F2, qn_m1lt, qn_m1lt2, qn_m1le, qn_m1le2, qn_and1, qn_and3, qn_and7, qn_and15, qn_and31, qn_and255, qn_and2047, qn_shl, qn_shr, qn_or, qn_div, qn_modlt, Nat.reduceMod, Nat.reduceAdd, Nat.reduceMul, Nat.reducePow, Nat.reduceDiv, Nat.reduceSub, ↓reduceIte, qn_us, qn_un, not_true_eq_false, not_false_eq_true, true_and, and_true, qn_nn, qn_addm, qn_ngT, qn_ngF, qn_ngE, qn_ngE2, qn_ngL, qn_ngM, Nat.add_sub_cancel, qL, qS, qM, qV, qQ, qZ0, qZ1, qE_l, qE_r, qW_some]
/-- all parents -/
theorem q_checkPar {xp_seenTo : Int32} {xp_father : Nat → Int32} {xp_mother : Nat → Int32} {xp_parentsDay : Nat → Int32} {xw_child : Nat → Int32} {xw_father : Nat → Int32} {xw_husband : Nat → Int32} {xw_wife : Nat → Int32} {ks_kindBy : Nat → Int32} {ks_least : Nat → Int32} {ks_fitting : Nat → Int32} {c w d n : Nat} {xp_sex xp_man xp_woman xp_weddingDay : Nat → Int32} {W C V U F : Nat → Nat} {K : Nat → Nat → Nat} (hw : qXw n W C V U xw_wife xw_child xw_husband xw_father) (hP : qPP c w d xp_seenTo xp_sex xp_mother xp_father xp_parentsDay xp_man xp_woman xp_weddingDay) (hK : qKR c n F K ks_kindBy ks_least) (hT : qFT c n W C V F K (fun _ _ _ => False) ks_fitting) : ∃ fi', f_X2_checkParents (nI c) xp_seenTo (nI n) (nI c) (24, xp_father) (24, xp_mother) (24, xp_parentsDay) (8, xw_child) (8, xw_father) (8, xw_husband) (8, xw_wife) (192, ks_kindBy) (24, ks_least) (24, ks_fitting) = some (24, fi') ∧ qFT c n W C V F K (fun a b k => k < 2 ∧ qE c w xp_seenTo xp_mother xp_father xp_parentsDay xp_man xp_woman xp_weddingDay a b k) fi' := by
  have hc := hP.1
  have hn := hw.1.1
  have loop : qW (f_X2_checkParents_l2 (nI c) xp_seenTo (nI n) (nI c) (24, xp_father) (24, xp_mother) (24, xp_parentsDay) (8, xw_child) (8, xw_father) (8, xw_husband) (8, xw_wife) (192, ks_kindBy) (24, ks_least) (24, ks_fitting) (nI 0)) (fun e => ∃ fi', e = (24, fi') ∧ qFT c n W C V F K (fun a b k => b < c ∧ k < 2 ∧ qE c w xp_seenTo xp_mother xp_father xp_parentsDay xp_man xp_woman xp_weddingDay a b k) fi') := by
    unfold f_X2_checkParents_l2
    refine qfor 0 c (fun i z => ∃ fi', z = ((24, fi'), nI i) ∧ qFT c n W C V F K (fun a b k => b < i ∧ k < 2 ∧ qE c w xp_seenTo xp_mother xp_father xp_parentsDay xp_man xp_woman xp_weddingDay a b k) fi') ⟨_, rfl, qFT_ext hT (fun a b k => ⟨False.elim, fun z => absurd z.1 (by omega)⟩)⟩ (by omega) (by omega) ?_ ?_
    · rintro i z - hi ⟨fi', rfl, g1⟩
      obtain ⟨rm, m1, m2⟩ := q_parentSeen hP (p := i) (s := 0) hi (by decide)
      obtain ⟨rf, f1, f2⟩ := q_parentSeen hP (p := i) (s := 1) hi (by decide)
      have uq : ∀ {a a' k : Nat}, k < 2 → qE c w xp_seenTo xp_mother xp_father xp_parentsDay xp_man xp_woman xp_weddingDay a i k → qE c w xp_seenTo xp_mother xp_father xp_parentsDay xp_man xp_woman xp_weddingDay a' i k → a' = a := by
        intro a a' k hk h1 h2
        rcases h1 with ⟨k1, -, -, a1, e1⟩ | ⟨k1, -, -, a1, e1⟩ | ⟨k1, -⟩
        · rcases h2 with ⟨k2, -, -, a2, e2⟩ | ⟨k2, -⟩ | ⟨k2, -⟩
          · rw [e1] at e2
            exact ((nI_eq (by omega) (by omega)).mp e2).symm
          · omega
          · omega
        · rcases h2 with ⟨k2, -⟩ | ⟨k2, -, -, a2, e2⟩ | ⟨k2, -⟩
          · omega
          · rw [e1] at e2
            exact ((nI_eq (by omega) (by omega)).mp e2).symm
          · omega
        · omega
      have s1 : ∃ fi1, f_X2_check (nI n) (8, xw_child) (8, xw_father) (8, xw_husband) (8, xw_wife) (192, ks_kindBy) (24, ks_least) (24, fi') rm (nI i) (nI 2) (nI 0) = some (24, fi1) ∧ qFT c n W C V F K (fun a b k => (b < i ∧ k < 2 ∧ qE c w xp_seenTo xp_mother xp_father xp_parentsDay xp_man xp_woman xp_weddingDay a b k) ∨ (b = i ∧ k = 1 ∧ qE c w xp_seenTo xp_mother xp_father xp_parentsDay xp_man xp_woman xp_weddingDay a b k)) fi1 := by
        rcases m2 with ⟨a, a1, rfl, a3⟩ | ⟨rfl, a2⟩
        · obtain ⟨fi1, k1, k2⟩ := q_checkX (k := 1) (l := 2) (s := 0) hw hc hK g1 (show a < c by omega) hi (by decide) (by decide) (fun u => rfl)
          refine ⟨fi1, k1, qFT_ext k2 (fun x y z => ⟨?_, ?_⟩)⟩
          · rintro (q | ⟨rfl, rfl, rfl⟩)
            · exact Or.inl q
            · exact Or.inr ⟨rfl, rfl, a3⟩
          · rintro (q | ⟨rfl, rfl, q⟩)
            · exact Or.inl q
            · exact Or.inr ⟨uq (by decide) a3 q, rfl, rfl⟩
        · refine ⟨fi', q_check_no _ _ _, qFT_ext g1 (fun x y z => ⟨Or.inl, ?_⟩)⟩
          rintro (q | ⟨rfl, rfl, q⟩)
          · exact q
          · exact absurd q (a2 x)
      obtain ⟨fi1, c1, c2⟩ := s1
      have s2 : ∃ fi2, f_X2_check (nI n) (8, xw_child) (8, xw_father) (8, xw_husband) (8, xw_wife) (192, ks_kindBy) (24, ks_least) (24, fi1) rf (nI i) (nI 2) (nI 1) = some (24, fi2) ∧ qFT c n W C V F K (fun a b k => b < i + 1 ∧ k < 2 ∧ qE c w xp_seenTo xp_mother xp_father xp_parentsDay xp_man xp_woman xp_weddingDay a b k) fi2 := by
        rcases f2 with ⟨a, a1, rfl, a3⟩ | ⟨rfl, a2⟩
        · obtain ⟨fi2, k1, k2⟩ := q_checkX (k := 0) (l := 2) (s := 1) hw hc hK c2 (show a < c by omega) hi (by decide) (by decide) (fun u => rfl)
          refine ⟨fi2, k1, qFT_ext k2 (fun x y z => ⟨?_, ?_⟩)⟩
          · rintro ((q | ⟨rfl, rfl, q⟩) | ⟨rfl, rfl, rfl⟩)
            · exact ⟨by omega, q.2⟩
            · exact ⟨by omega, by decide, q⟩
            · exact ⟨by omega, by decide, a3⟩
          · rintro ⟨q1, q2, q3⟩
            by_cases e : y = i
            · subst e
              have : z = 0 ∨ z = 1 := by omega
              rcases this with rfl | rfl
              · exact Or.inr ⟨uq (by decide) a3 q3, rfl, rfl⟩
              · exact Or.inl (Or.inr ⟨rfl, rfl, q3⟩)
            · exact Or.inl (Or.inl ⟨by omega, q2, q3⟩)
        · refine ⟨fi1, q_check_no _ _ _, qFT_ext c2 (fun x y z => ⟨?_, ?_⟩)⟩
          · rintro (q | ⟨rfl, rfl, q⟩)
            · exact ⟨by omega, q.2⟩
            · exact ⟨by omega, by decide, q⟩
          · rintro ⟨q1, q2, q3⟩
            by_cases e : y = i
            · subst e
              have : z = 0 ∨ z = 1 := by omega
              rcases this with rfl | rfl
              · exact absurd q3 (a2 x)
              · exact Or.inr ⟨rfl, rfl, q3⟩
            · exact Or.inl ⟨by omega, q2, q3⟩
      obtain ⟨fi2, d1, d2⟩ := s2
      simp (disch := first | omega | assumption) only [f_X2_checkParents_b2, m1, f1, c1, d1, qn_lit, qn_ofNat, qn_neg1, qn_neg2, nI_add, pk_mul, qn_sub, qn_ltT, qn_ltF, qn_leT, qn_leF, qn_eqT, qn_eqF, qn_m1T, qn_m1F, qn_m1F2, qn_m1lt, qn_m1lt2, qn_m1le, qn_m1le2, qn_and1, qn_and3, qn_and7, qn_and15, qn_and31, qn_and255, qn_and2047, qn_shl, qn_shr, qn_or, qn_div, qn_modlt, Nat.reduceMod, Nat.reduceAdd, Nat.reduceMul, Nat.reducePow, Nat.reduceDiv, Nat.reduceSub, ↓reduceIte, qn_us, qn_un, not_true_eq_false, not_false_eq_true, true_and, and_true, qn_nn, qn_addm, qn_ngT, qn_ngF, qn_ngE, qn_ngE2, qn_ngL, qn_ngM, Nat.add_sub_cancel, qL, qS, qM, qV, qQ, qZ0, qZ1, qE_l, qE_r, qW_some]
      exact ⟨fi2, rfl, d2⟩
    · rintro z ⟨fi', rfl, g1⟩
      simp (disch := first | omega | assumption) only [f_X2_checkParents_b2, qn_lit, qn_ofNat, qn_neg1, qn_neg2, nI_add, pk_mul, qn_sub, qn_ltT, qn_ltF, qn_leT, qn_leF, qn_eqT, qn_eqF, qn_m1T, qn_m1F, qn_m1F2, qn_m1lt, qn_m1lt2, qn_m1le, qn_m1le2, qn_and1, qn_and3, qn_and7, qn_and15, qn_and31, qn_and255, qn_and2047, qn_shl, qn_shr, qn_or, qn_div, qn_modlt, Nat.reduceMod, Nat.reduceAdd, Nat.reduceMul, Nat.reducePow, Nat.reduceDiv, Nat.reduceSub, ↓reduceIte, qn_us, qn_un, not_true_eq_false, not_false_eq_true, true_and, and_true, qn_nn, qn_addm, qn_ngT, qn_ngF, qn_ngE, qn_ngE2, qn_ngL, qn_ngM, Nat.add_sub_cancel, qL, qS, qM, qV, qQ, qZ0, qZ1, qE_l, qE_r, qW_some]
      exact ⟨fi', rfl, g1⟩
  obtain ⟨e, g1, fi', rfl, g2⟩ := loop
  refine ⟨fi', by simp (disch := first | omega | assumption) only [f_X2_checkParents, g1, qn_lit, qn_ofNat, qn_neg1, qn_neg2, nI_add, pk_mul, qn_sub, qn_ltT, qn_ltF, qn_leT, qn_leF, qn_eqT, qn_eqF, qn_m1T, qn_m1F, qn_m1F2, qn_m1lt, qn_m1lt2, qn_m1le, qn_m1le2, qn_and1, qn_and3, qn_and7, qn_and15, qn_and31, qn_and255, qn_and2047, qn_shl, qn_shr, qn_or, qn_div, qn_modlt, Nat.reduceMod, Nat.reduceAdd, Nat.reduceMul, Nat.reducePow, Nat.reduceDiv, Nat.reduceSub, ↓reduceIte, qn_us, qn_un, not_true_eq_false, not_false_eq_true, true_and, and_true, qn_nn, qn_addm, qn_ngT, qn_ngF, qn_ngE, qn_ngE2, qn_ngL, qn_ngM, Nat.add_sub_cancel, qL, qS, qM, qV, qQ, qZ0, qZ1, qE_l, qE_r, qW_some], qFT_ext g2 (fun a b k => ⟨fun z => z.2, fun z => ⟨(qE_lt hP z.2).2.1, z⟩⟩)⟩
theorem q_checkWed {xp_seenTo : Int32} {xp_man : Nat → Int32} {xp_weddingDay : Nat → Int32} {xp_woman : Nat → Int32} {xw_child : Nat → Int32} {xw_father : Nat → Int32} {xw_husband : Nat → Int32} {xw_wife : Nat → Int32} {ks_kindBy : Nat → Int32} {ks_least : Nat → Int32} {ks_fitting : Nat → Int32} {c w d n : Nat} {xp_sex xp_mother xp_father xp_parentsDay : Nat → Int32} {W C V U F : Nat → Nat} {K : Nat → Nat → Nat} (hw : qXw n W C V U xw_wife xw_child xw_husband xw_father) (hP : qPP c w d xp_seenTo xp_sex xp_mother xp_father xp_parentsDay xp_man xp_woman xp_weddingDay) (hK : qKR c n F K ks_kindBy ks_least) (hT : qFT c n W C V F K (fun a b k => k < 2 ∧ qE c w xp_seenTo xp_mother xp_father xp_parentsDay xp_man xp_woman xp_weddingDay a b k) ks_fitting) : ∃ fi', f_X2_checkWeddings xp_seenTo (nI w) (nI n) (24, xp_man) (24, xp_weddingDay) (24, xp_woman) (8, xw_child) (8, xw_father) (8, xw_husband) (8, xw_wife) (192, ks_kindBy) (24, ks_least) (24, ks_fitting) = some (24, fi') ∧ qFT c n W C V F K (qE c w xp_seenTo xp_mother xp_father xp_parentsDay xp_man xp_woman xp_weddingDay) fi' := by
  have hc := hP.1
  have hw24 := hP.2.1
  have loop : qW (f_X2_checkWeddings_l2 xp_seenTo (nI w) (nI n) (24, xp_man) (24, xp_weddingDay) (24, xp_woman) (8, xw_child) (8, xw_father) (8, xw_husband) (8, xw_wife) (192, ks_kindBy) (24, ks_least) (24, ks_fitting) (nI 0)) (fun e => ∃ fi', e = (24, fi') ∧ qFT c n W C V F K (fun a b k => (k < 2 ∧ qE c w xp_seenTo xp_mother xp_father xp_parentsDay xp_man xp_woman xp_weddingDay a b k) ∨ (k = 2 ∧ ∃ j, j < w ∧ (∃ e, e ≤ 999 ∧ xp_weddingDay j = nI e ∧ qsn xp_seenTo e) ∧ a < 24 ∧ b < 24 ∧ xp_man j = nI a ∧ xp_woman j = nI b)) fi') := by
    unfold f_X2_checkWeddings_l2
    refine qfor 0 w (fun i z => ∃ fi', z = ((24, fi'), nI i) ∧ qFT c n W C V F K (fun a b k => (k < 2 ∧ qE c w xp_seenTo xp_mother xp_father xp_parentsDay xp_man xp_woman xp_weddingDay a b k) ∨ (k = 2 ∧ ∃ j, j < i ∧ (∃ e, e ≤ 999 ∧ xp_weddingDay j = nI e ∧ qsn xp_seenTo e) ∧ a < 24 ∧ b < 24 ∧ xp_man j = nI a ∧ xp_woman j = nI b)) fi') ⟨_, rfl, qFT_ext hT (fun a b k => ⟨Or.inl, fun z => z.resolve_right (fun ⟨_, j, j1, _⟩ => by omega)⟩)⟩ (by omega) (by omega) ?_ ?_
    · rintro i z - hi ⟨fi', rfl, g1⟩
      rcases q_spouseSeen hP hi with ⟨se, a, b, ma, wb, hE, f1, f0⟩ | ⟨se, f1, f0⟩
      · obtain ⟨ac, bc, -⟩ := qE_lt hP hE
        obtain ⟨fi1, k1, k2⟩ := q_checkX (k := 2) (l := 7) (s := 1) hw hc hK g1 ac bc (by decide) (by decide) (fun u => rfl)
        simp (disch := first | omega | assumption) only [f_X2_checkWeddings_b2, f1, f0, k1, qn_lit, qn_ofNat, qn_neg1, qn_neg2, nI_add, pk_mul, qn_sub, qn_ltT, qn_ltF, qn_leT, qn_leF, qn_eqT, qn_eqF, qn_m1T, qn_m1F, qn_m1F2, qn_m1lt, qn_m1lt2, qn_m1le, qn_m1le2, qn_and1, qn_and3, qn_and7, qn_and15, qn_and31, qn_and255, qn_and2047, qn_shl, qn_shr, qn_or, qn_div, qn_modlt, Nat.reduceMod, Nat.reduceAdd, Nat.reduceMul, Nat.reducePow, Nat.reduceDiv, Nat.reduceSub, ↓reduceIte, qn_us, qn_un, not_true_eq_false, not_false_eq_true, true_and, and_true, qn_nn, qn_addm, qn_ngT, qn_ngF, qn_ngE, qn_ngE2, qn_ngL, qn_ngM, Nat.add_sub_cancel, qL, qS, qM, qV, qQ, qZ0, qZ1, qE_l, qE_r, qW_some]
        refine ⟨fi1, rfl, qFT_ext k2 (fun x y z => ⟨?_, ?_⟩)⟩
        · rintro ((q | ⟨rfl, j, j1, j2⟩) | ⟨rfl, rfl, rfl⟩)
          · exact Or.inl q
          · exact Or.inr ⟨rfl, j, by omega, j2⟩
          · exact Or.inr ⟨rfl, i, by omega, se, by omega, by omega, ma, wb⟩
        · rintro (q | ⟨rfl, j, j1, j2, j3, j4, j5, j6⟩)
          · exact Or.inl (Or.inl q)
          · by_cases e : j = i
            · subst e
              rw [ma] at j5
              rw [wb] at j6
              exact Or.inr ⟨((nI_eq (by omega) (by omega)).mp j5).symm, ((nI_eq (by omega) (by omega)).mp j6).symm, rfl⟩
            · exact Or.inl (Or.inr ⟨rfl, j, by omega, j2, j3, j4, j5, j6⟩)
      · have cn := q_check_no (n := n) (xw_child := xw_child) (xw_father := xw_father) (xw_husband := xw_husband) (xw_wife := xw_wife) (ks_kindBy := ks_kindBy) (ks_least := ks_least) (ks_fitting := fi') mI (nI 7) (nI 1)
        simp (disch := first | omega | assumption) only [f_X2_checkWeddings_b2, f1, f0, cn, qn_lit, qn_ofNat, qn_neg1, qn_neg2, nI_add, pk_mul, qn_sub, qn_ltT, qn_ltF, qn_leT, qn_leF, qn_eqT, qn_eqF, qn_m1T, qn_m1F, qn_m1F2, qn_m1lt, qn_m1lt2, qn_m1le, qn_m1le2, qn_and1, qn_and3, qn_and7, qn_and15, qn_and31, qn_and255, qn_and2047, qn_shl, qn_shr, qn_or, qn_div, qn_modlt, Nat.reduceMod, Nat.reduceAdd, Nat.reduceMul, Nat.reducePow, Nat.reduceDiv, Nat.reduceSub, ↓reduceIte, qn_us, qn_un, not_true_eq_false, not_false_eq_true, true_and, and_true, qn_nn, qn_addm, qn_ngT, qn_ngF, qn_ngE, qn_ngE2, qn_ngL, qn_ngM, Nat.add_sub_cancel, qL, qS, qM, qV, qQ, qZ0, qZ1, qE_l, qE_r, qW_some]
        refine ⟨fi', rfl, qFT_ext g1 (fun x y z => ⟨?_, ?_⟩)⟩
        · rintro (q | ⟨rfl, j, j1, j2⟩)
          · exact Or.inl q
          · exact Or.inr ⟨rfl, j, by omega, j2⟩
        · rintro (q | ⟨rfl, j, j1, j2⟩)
          · exact Or.inl q
          · by_cases e : j = i
            · subst e
              exact absurd j2.1 se
            · exact Or.inr ⟨rfl, j, by omega, j2⟩
    · rintro z ⟨fi', rfl, g1⟩
      simp (disch := first | omega | assumption) only [f_X2_checkWeddings_b2, qn_lit, qn_ofNat, qn_neg1, qn_neg2, nI_add, pk_mul, qn_sub, qn_ltT, qn_ltF, qn_leT, qn_leF, qn_eqT, qn_eqF, qn_m1T, qn_m1F, qn_m1F2, qn_m1lt, qn_m1lt2, qn_m1le, qn_m1le2, qn_and1, qn_and3, qn_and7, qn_and15, qn_and31, qn_and255, qn_and2047, qn_shl, qn_shr, qn_or, qn_div, qn_modlt, Nat.reduceMod, Nat.reduceAdd, Nat.reduceMul, Nat.reducePow, Nat.reduceDiv, Nat.reduceSub, ↓reduceIte, qn_us, qn_un, not_true_eq_false, not_false_eq_true, true_and, and_true, qn_nn, qn_addm, qn_ngT, qn_ngF, qn_ngE, qn_ngE2, qn_ngL, qn_ngM, Nat.add_sub_cancel, qL, qS, qM, qV, qQ, qZ0, qZ1, qE_l, qE_r, qW_some]
      exact ⟨fi', rfl, g1⟩
  obtain ⟨e, g1, fi', rfl, g2⟩ := loop
  refine ⟨fi', by simp (disch := first | omega | assumption) only [f_X2_checkWeddings, g1, qn_lit, qn_ofNat, qn_neg1, qn_neg2, nI_add, pk_mul, qn_sub, qn_ltT, qn_ltF, qn_leT, qn_leF, qn_eqT, qn_eqF, qn_m1T, qn_m1F, qn_m1F2, qn_m1lt, qn_m1lt2, qn_m1le, qn_m1le2, qn_and1, qn_and3, qn_and7, qn_and15, qn_and31, qn_and255, qn_and2047, qn_shl, qn_shr, qn_or, qn_div, qn_modlt, Nat.reduceMod, Nat.reduceAdd, Nat.reduceMul, Nat.reducePow, Nat.reduceDiv, Nat.reduceSub, ↓reduceIte, qn_us, qn_un, not_true_eq_false, not_false_eq_true, true_and, and_true, qn_nn, qn_addm, qn_ngT, qn_ngF, qn_ngE, qn_ngE2, qn_ngL, qn_ngM, Nat.add_sub_cancel, qL, qS, qM, qV, qQ, qZ0, qZ1, qE_l, qE_r, qW_some], qFT_ext g2 (fun a b k => ⟨?_, fun z => ?_⟩)⟩
  · rintro (q | ⟨rfl, q⟩)
    · exact q.2
    · exact Or.inr (Or.inr ⟨rfl, q⟩)
  · rcases id z with ⟨rfl, -⟩ | ⟨rfl, -⟩ | q
    · exact Or.inl ⟨by decide, z⟩
    · exact Or.inl ⟨by decide, z⟩
    · exact Or.inr q

/-! the reference's families -/
def qTI (m : Nat) (t1 t2 t3 : Nat → Nat) (one two kind : Nat → Int32) : Prop := ∀ i, i < m → one i = nI (t1 i) ∧ two i = nI (t2 i) ∧ kind i = nI (t3 i)
def qTE (m : Nat) (t1 t2 t3 : Nat → Nat) (E : Nat → Nat → Nat → Prop) : Prop := (∀ i, i < m → E (t1 i) (t2 i) (t3 i)) ∧ ∀ a b k, E a b k → ∃ i, i < m ∧ t1 i = a ∧ t2 i = b ∧ t3 i = k
theorem q_tie {m a b k : Nat} {t1 t2 t3 : Nat → Nat} {one two kind : Nat → Int32} (hm : m < 72) (h : qTI m t1 t2 t3 one two kind) : f_X12_tie (nI m) (72, kind) (72, one) (72, two) (nI a) (nI b) (nI k) = some (nI (m + 1), (72, upd kind m (nI k)), (72, upd one m (nI a)), (72, upd two m (nI b))) ∧ qTI (m + 1) (qup t1 m a) (qup t2 m b) (qup t3 m k) (upd one m (nI a)) (upd two m (nI b)) (upd kind m (nI k)) := by
  refine ⟨by simp (disch := first | omega | assumption) only [f_X12_tie, qn_lit, qn_ofNat, qn_neg1, qn_neg2, nI_add, pk_mul, qn_sub, qn_ltT, qn_ltF, qn_leT, qn_leF, qn_eqT, qn_eqF, qn_m1T, qn_m1F, qn_m1F2, qn_m1lt, qn_m1lt2, qn_m1le, qn_m1le2, qn_and1, qn_and3, qn_and7, qn_and15, qn_and31, qn_and255, qn_and2047, qn_shl, qn_shr, qn_or, qn_div, qn_modlt, Nat.reduceMod, Nat.reduceAdd, Nat.reduceMul, Nat.reducePow, Nat.reduceDiv, Nat.reduceSub, ↓reduceIte, qn_us, qn_un, not_true_eq_false, not_false_eq_true, true_and, and_true, qn_nn, qn_addm, qn_ngT, qn_ngF, qn_ngE, qn_ngE2, qn_ngL, qn_ngM, Nat.add_sub_cancel, qL, qS, qM, qV, qQ, qZ0, qZ1, qE_l, qE_r, qW_some], fun i hi => ?_⟩
  by_cases e : i = m
  · rw [e, pk_us, pk_us, pk_us, qup_s, qup_s, qup_s]
    exact ⟨rfl, rfl, rfl⟩
  · rw [pk_un e, pk_un e, pk_un e, qup_n e, qup_n e, qup_n e]
    exact h i (by omega)
theorem qTE_add {m a b k : Nat} {t1 t2 t3 : Nat → Nat} {E E' : Nat → Nat → Nat → Prop} (h : qTE m t1 t2 t3 E) (h1 : ∀ x y z, E x y z → E' x y z) (h2 : E' a b k) (h3 : ∀ x y z, E' x y z → E x y z ∨ (x = a ∧ y = b ∧ z = k)) : qTE (m + 1) (qup t1 m a) (qup t2 m b) (qup t3 m k) E' := by
  refine ⟨fun i hi => ?_, fun x y z hE => ?_⟩
  · by_cases e : i = m
    · rw [e, qup_s, qup_s, qup_s]; exact h2
    · rw [qup_n e, qup_n e, qup_n e]
      exact h1 _ _ _ (h.1 i (by omega))
  · rcases h3 x y z hE with q | ⟨q1, q2, q3⟩
    · obtain ⟨i, i1, i2, i3, i4⟩ := h.2 x y z q
      exact ⟨i, by omega, by rw [qup_n (by omega)]; exact i2, by rw [qup_n (by omega)]; exact i3, by rw [qup_n (by omega)]; exact i4⟩
    · exact ⟨m, by omega, by rw [qup_s]; exact q1.symm, by rw [qup_s]; exact q2.symm, by rw [qup_s]; exact q3.symm⟩
theorem qTE_same {m : Nat} {t1 t2 t3 : Nat → Nat} {E E' : Nat → Nat → Nat → Prop} (h : qTE m t1 t2 t3 E) (h1 : ∀ x y z, E x y z ↔ E' x y z) : qTE m t1 t2 t3 E' := ⟨fun i hi => (h1 _ _ _).mp (h.1 i hi), fun x y z hE => h.2 x y z ((h1 _ _ _).mpr hE)⟩
/-- the ties are laid -/
theorem q_tiesR {R_days : Nat → Int32} {R_fatherOf : Nat → Int32} {R_motherOf : Nat → Int32} {R_parentsDay : Nat → Int32} {R_persons : Nat → Int32} {R_viewed : Nat → Int32} {R_family : Nat → Int32} {R_tieKind : Nat → Int32} {R_tieOne : Nat → Int32} {R_tieTwo : Nat → Int32} {c w d : Nat} {sn : Int32} {sx mo fa pd man wom wd Rsx : Nat → Int32} (h : qPP c w d sn sx mo fa pd man wom wd) (hp : qPp 0 c d sx mo fa pd Rsx R_motherOf R_fatherOf R_parentsDay) (h1 : R_days 0 = nI d) (h2 : R_viewed 0 = sn) (h3 : R_persons 0 = nI c) : qW (f_X12_findFamilies_l7 (4, R_days) (96, R_fatherOf) (96, R_motherOf) (96, R_parentsDay) (4, R_persons) (4, R_viewed) (nI 0) (24, R_family) (72, R_tieKind) (72, R_tieOne) (72, R_tieTwo) (nI 0)) (fun e => ∃ m t1 t2 t3 fm kd on tw, e = (nI m, (24, fm), (72, kd), (72, on), (72, tw)) ∧ m ≤ 48 ∧ qTI m t1 t2 t3 on tw kd ∧ qTE m t1 t2 t3 (qE c 0 sn mo fa pd man wom wd) ∧ ∀ p, p < c → fm p = nI p) := by
  obtain ⟨hc, hw, hd, hv, hP, hm⟩ := id h
  obtain ⟨vd, v1, v2, v3⟩ := q_viewDay hd hv h1 h2
  unfold f_X12_findFamilies_l7
  refine qfor 0 c (fun i z => ∃ m t1 t2 t3 fm kd on tw, z = (nI m, (24, fm), (72, kd), (72, on), (72, tw), nI i) ∧ m ≤ 2 * i ∧ qTI m t1 t2 t3 on tw kd ∧ qTE m t1 t2 t3 (qE i 0 sn mo fa pd man wom wd) ∧ ∀ p, p < i → fm p = nI p) ?_ (by omega) (by omega) ?_ ?_
  · refine ⟨0, fun _ => 0, fun _ => 0, fun _ => 0, R_family, R_tieKind, R_tieOne, R_tieTwo, rfl, by omega, fun i hi => absurd hi (by omega), ⟨fun i hi => absurd hi (by omega), fun a b k hE => ?_⟩, fun p hp => absurd hp (by omega)⟩
    rcases hE with ⟨-, q, -⟩ | ⟨-, q, -⟩ | ⟨-, j, q, -⟩ <;> omega
  · rintro i z - hi ⟨m, t1, t2, t3, fm, kd, on, tw, rfl, m1, m2, m3, m4⟩
    obtain ⟨p1, p2, p3, p4⟩ := hP i hi
    have hR := hp i hi
    simp only [Nat.zero_add] at hR
    obtain ⟨-, -, -, -, -, r2, r3, r4⟩ := hR
    have fm' : ∀ p, p < i + 1 → upd fm i (nI i) p = nI p := fun p hp2 => by
      by_cases e : p = i
      · rw [e]; exact pk_us
      · rw [pk_un e]; exact m4 p (by omega)
    -- what is new
    have old : ∀ a b k, qE i 0 sn mo fa pd man wom wd a b k → qE (i + 1) 0 sn mo fa pd man wom wd a b k := by
      intro a b k hE
      rcases hE with ⟨q0, q1, q2⟩ | ⟨q0, q1, q2⟩ | ⟨-, j, q, -⟩
      · exact Or.inl ⟨q0, by omega, q2⟩
      · exact Or.inr (Or.inl ⟨q0, by omega, q2⟩)
      · omega
    have spl : ∀ a b k, qE (i + 1) 0 sn mo fa pd man wom wd a b k → qE i 0 sn mo fa pd man wom wd a b k ∨ (b = i ∧ (∃ e, e ≤ 999 ∧ pd i = nI e ∧ qsn sn e) ∧ a < 24 ∧ ((k = 1 ∧ mo i = nI a) ∨ (k = 0 ∧ fa i = nI a))) := by
      intro a b k hE
      rcases hE with ⟨q0, q1, q2, q3, q4⟩ | ⟨q0, q1, q2, q3, q4⟩ | ⟨-, j, q, -⟩
      · by_cases e : b = i
        · subst e; exact Or.inr ⟨rfl, q2, q3, Or.inl ⟨q0, q4⟩⟩
        · exact Or.inl (Or.inl ⟨q0, by omega, q2, q3, q4⟩)
      · by_cases e : b = i
        · subst e; exact Or.inr ⟨rfl, q2, q3, Or.inr ⟨q0, q4⟩⟩
        · exact Or.inl (Or.inr (Or.inl ⟨q0, by omega, q2, q3, q4⟩))
      · omega
    have skip : (¬ ∃ e, e ≤ 999 ∧ pd i = nI e ∧ qsn sn e) → qTE m t1 t2 t3 (qE (i + 1) 0 sn mo fa pd man wom wd) := fun hno => qTE_same m3 (fun a b k => ⟨old a b k, fun q => (spl a b k q).resolve_right (fun z => hno z.2.1)⟩)
    rcases p4 with q | ⟨e, e1, e2⟩
    · rw [q] at r4
      simp (disch := first | omega | assumption) only [f_X12_findFamilies_b7, f_X12_findFamilies_j91, h3, r4, qn_lit, qn_ofNat, qn_neg1, qn_neg2, nI_add, pk_mul, qn_sub, qn_ltT, qn_ltF, qn_leT, qn_leF, qn_eqT, qn_eqF, qn_m1T, qn_m1F, qn_m1F2, qn_m1lt, qn_m1lt2, qn_m1le, qn_m1le2, qn_and1, qn_and3, qn_and7, qn_and15, qn_and31, qn_and255, qn_and2047, qn_shl, qn_shr, qn_or, qn_div, qn_modlt, Nat.reduceMod, Nat.reduceAdd, Nat.reduceMul, Nat.reducePow, Nat.reduceDiv, Nat.reduceSub, ↓reduceIte, qn_us, qn_un, not_true_eq_false, not_false_eq_true, true_and, and_true, qn_nn, qn_addm, qn_ngT, qn_ngF, qn_ngE, qn_ngE2, qn_ngL, qn_ngM, Nat.add_sub_cancel, qL, qS, qM, qV, qQ, qZ0, qZ1, qE_l, qE_r, qW_some]
      exact ⟨m, t1, t2, t3, _, kd, on, tw, rfl, by omega, m2, skip (fun ⟨e, z1, z2, z3⟩ => by rw [q] at z2; exact absurd z2.symm (of_eq_false (qn_m1F (by omega)))), fm'⟩
    · rw [e2] at r4
      by_cases se : e ≤ vd
      · have se2 : ∃ e, e ≤ 999 ∧ pd i = nI e ∧ qsn sn e := ⟨e, by omega, e2, (v3 e e1).mpr se⟩
        rcases p2 with q | ⟨a, a1, a2, a3⟩
        · rw [q] at r2
          rcases p3 with q' | ⟨b, b1, b2, b3⟩
          · rw [q'] at r3
            simp (disch := first | omega | assumption) only [f_X12_findFamilies_b7, f_X12_findFamilies_j69, f_X12_findFamilies_j91, h3, r4, v2, r2, r3, qn_lit, qn_ofNat, qn_neg1, qn_neg2, nI_add, pk_mul, qn_sub, qn_ltT, qn_ltF, qn_leT, qn_leF, qn_eqT, qn_eqF, qn_m1T, qn_m1F, qn_m1F2, qn_m1lt, qn_m1lt2, qn_m1le, qn_m1le2, qn_and1, qn_and3, qn_and7, qn_and15, qn_and31, qn_and255, qn_and2047, qn_shl, qn_shr, qn_or, qn_div, qn_modlt, Nat.reduceMod, Nat.reduceAdd, Nat.reduceMul, Nat.reducePow, Nat.reduceDiv, Nat.reduceSub, ↓reduceIte, qn_us, qn_un, not_true_eq_false, not_false_eq_true, true_and, and_true, qn_nn, qn_addm, qn_ngT, qn_ngF, qn_ngE, qn_ngE2, qn_ngL, qn_ngM, Nat.add_sub_cancel, qL, qS, qM, qV, qQ, qZ0, qZ1, qE_l, qE_r, qW_some]
            refine ⟨m, t1, t2, t3, _, kd, on, tw, rfl, by omega, m2, qTE_same m3 (fun x y z => ⟨old x y z, fun hE => (spl x y z hE).resolve_right (fun zz => ?_)⟩), fm'⟩
            rcases zz with ⟨-, -, z1, ⟨-, z2⟩ | ⟨-, z2⟩⟩
            · rw [q] at z2; exact absurd z2.symm (of_eq_false (qn_m1F (by omega)))
            · rw [q'] at z2; exact absurd z2.symm (of_eq_false (qn_m1F (by omega)))
          · rw [b2] at r3
            obtain ⟨y1, y2⟩ := q_tie (a := b) (b := i) (k := 0) (show m < 72 by omega) m2
            simp (disch := first | omega | assumption) only [f_X12_findFamilies_b7, f_X12_findFamilies_j69, f_X12_findFamilies_j91, h3, r4, v2, r2, r3, y1, qn_lit, qn_ofNat, qn_neg1, qn_neg2, nI_add, pk_mul, qn_sub, qn_ltT, qn_ltF, qn_leT, qn_leF, qn_eqT, qn_eqF, qn_m1T, qn_m1F, qn_m1F2, qn_m1lt, qn_m1lt2, qn_m1le, qn_m1le2, qn_and1, qn_and3, qn_and7, qn_and15, qn_and31, qn_and255, qn_and2047, qn_shl, qn_shr, qn_or, qn_div, qn_modlt, Nat.reduceMod, Nat.reduceAdd, Nat.reduceMul, Nat.reducePow, Nat.reduceDiv, Nat.reduceSub, ↓reduceIte, qn_us, qn_un, not_true_eq_false, not_false_eq_true, true_and, and_true, qn_nn, qn_addm, qn_ngT, qn_ngF, qn_ngE, qn_ngE2, qn_ngL, qn_ngM, Nat.add_sub_cancel, qL, qS, qM, qV, qQ, qZ0, qZ1, qE_l, qE_r, qW_some]
            refine ⟨m + 1, _, _, _, _, _, _, _, rfl, by omega, y2, qTE_add m3 old (Or.inr (Or.inl ⟨rfl, by omega, se2, by omega, b2⟩)) (fun x y z hE => ?_), fm'⟩
            rcases spl x y z hE with zz | ⟨z0, -, z1, ⟨-, z2⟩ | ⟨zk, z2⟩⟩
            · exact Or.inl zz
            · rw [q] at z2; exact absurd z2.symm (of_eq_false (qn_m1F (by omega)))
            · rw [b2] at z2
              exact Or.inr ⟨((nI_eq (by omega) (by omega)).mp z2).symm, z0, zk⟩
        · rw [a2] at r2
          obtain ⟨y1, y2⟩ := q_tie (a := a) (b := i) (k := 1) (show m < 72 by omega) m2
          rcases p3 with q' | ⟨b, b1, b2, b3⟩
          · rw [q'] at r3
            simp (disch := first | omega | assumption) only [f_X12_findFamilies_b7, f_X12_findFamilies_j69, f_X12_findFamilies_j91, h3, r4, v2, r2, r3, y1, qn_lit, qn_ofNat, qn_neg1, qn_neg2, nI_add, pk_mul, qn_sub, qn_ltT, qn_ltF, qn_leT, qn_leF, qn_eqT, qn_eqF, qn_m1T, qn_m1F, qn_m1F2, qn_m1lt, qn_m1lt2, qn_m1le, qn_m1le2, qn_and1, qn_and3, qn_and7, qn_and15, qn_and31, qn_and255, qn_and2047, qn_shl, qn_shr, qn_or, qn_div, qn_modlt, Nat.reduceMod, Nat.reduceAdd, Nat.reduceMul, Nat.reducePow, Nat.reduceDiv, Nat.reduceSub, ↓reduceIte, qn_us, qn_un, not_true_eq_false, not_false_eq_true, true_and, and_true, qn_nn, qn_addm, qn_ngT, qn_ngF, qn_ngE, qn_ngE2, qn_ngL, qn_ngM, Nat.add_sub_cancel, qL, qS, qM, qV, qQ, qZ0, qZ1, qE_l, qE_r, qW_some]
            refine ⟨m + 1, _, _, _, _, _, _, _, rfl, by omega, y2, qTE_add m3 old (Or.inl ⟨rfl, by omega, se2, by omega, a2⟩) (fun x y z hE => ?_), fm'⟩
            rcases spl x y z hE with zz | ⟨z0, -, z1, ⟨zk, z2⟩ | ⟨zk, z2⟩⟩
            · exact Or.inl zz
            · rw [a2] at z2
              exact Or.inr ⟨((nI_eq (by omega) (by omega)).mp z2).symm, z0, zk⟩
            · rw [q'] at z2; exact absurd z2.symm (of_eq_false (qn_m1F (by omega)))
          · rw [b2] at r3
            obtain ⟨x1, x2⟩ := q_tie (a := b) (b := i) (k := 0) (show m + 1 < 72 by omega) y2
            simp (disch := first | omega | assumption) only [f_X12_findFamilies_b7, f_X12_findFamilies_j69, f_X12_findFamilies_j91, h3, r4, v2, r2, r3, y1, x1, qn_lit, qn_ofNat, qn_neg1, qn_neg2, nI_add, pk_mul, qn_sub, qn_ltT, qn_ltF, qn_leT, qn_leF, qn_eqT, qn_eqF, qn_m1T, qn_m1F, qn_m1F2, qn_m1lt, qn_m1lt2, qn_m1le, qn_m1le2, qn_and1, qn_and3, qn_and7, qn_and15, qn_and31, qn_and255, qn_and2047, qn_shl, qn_shr, qn_or, qn_div, qn_modlt, Nat.reduceMod, Nat.reduceAdd, Nat.reduceMul, Nat.reducePow, Nat.reduceDiv, Nat.reduceSub, ↓reduceIte, qn_us, qn_un, not_true_eq_false, not_false_eq_true, true_and, and_true, qn_nn, qn_addm, qn_ngT, qn_ngF, qn_ngE, qn_ngE2, qn_ngL, qn_ngM, Nat.add_sub_cancel, qL, qS, qM, qV, qQ, qZ0, qZ1, qE_l, qE_r, qW_some]
            refine ⟨m + 1 + 1, _, _, _, _, _, _, _, rfl, by omega, x2, ?_, fm'⟩
            refine qTE_add (E := fun x y z => qE i 0 sn mo fa pd man wom wd x y z ∨ (x = a ∧ y = i ∧ z = 1)) (qTE_add m3 (fun x y z q => Or.inl q) (Or.inr ⟨rfl, rfl, rfl⟩) (fun x y z q => q)) ?_ (Or.inr (Or.inl ⟨rfl, by omega, se2, by omega, b2⟩)) ?_
            · rintro x y z (q | ⟨rfl, rfl, rfl⟩)
              · exact old x y z q
              · exact Or.inl ⟨rfl, by omega, se2, by omega, a2⟩
            · intro x y z hE
              rcases spl x y z hE with zz | ⟨z0, -, z1, ⟨zk, z2⟩ | ⟨zk, z2⟩⟩
              · exact Or.inl (Or.inl zz)
              · rw [a2] at z2
                exact Or.inl (Or.inr ⟨((nI_eq (by omega) (by omega)).mp z2).symm, z0, zk⟩)
              · rw [b2] at z2
                exact Or.inr ⟨((nI_eq (by omega) (by omega)).mp z2).symm, z0, zk⟩
      · simp (disch := first | omega | assumption) only [f_X12_findFamilies_b7, f_X12_findFamilies_j91, h3, r4, v2, qn_lit, qn_ofNat, qn_neg1, qn_neg2, nI_add, pk_mul, qn_sub, qn_ltT, qn_ltF, qn_leT, qn_leF, qn_eqT, qn_eqF, qn_m1T, qn_m1F, qn_m1F2, qn_m1lt, qn_m1lt2, qn_m1le, qn_m1le2, qn_and1, qn_and3, qn_and7, qn_and15, qn_and31, qn_and255, qn_and2047, qn_shl, qn_shr, qn_or, qn_div, qn_modlt, Nat.reduceMod, Nat.reduceAdd, Nat.reduceMul, Nat.reducePow, Nat.reduceDiv, Nat.reduceSub, ↓reduceIte, qn_us, qn_un, not_true_eq_false, not_false_eq_true, true_and, and_true, qn_nn, qn_addm, qn_ngT, qn_ngF, qn_ngE, qn_ngE2, qn_ngL, qn_ngM, Nat.add_sub_cancel, qL, qS, qM, qV, qQ, qZ0, qZ1, qE_l, qE_r, qW_some]
        refine ⟨m, t1, t2, t3, _, kd, on, tw, rfl, by omega, m2, skip (fun ⟨e', z1, z2, z3⟩ => ?_), fm'⟩
        rw [e2] at z2
        have := (nI_eq (by omega) (by omega)).mp z2
        subst this
        exact se ((v3 e e1).mp z3)
  · rintro z ⟨m, t1, t2, t3, fm, kd, on, tw, rfl, m1, m2, m3, m4⟩
    simp (disch := first | omega | assumption) only [f_X12_findFamilies_b7, h3, qn_lit, qn_ofNat, qn_neg1, qn_neg2, nI_add, pk_mul, qn_sub, qn_ltT, qn_ltF, qn_leT, qn_leF, qn_eqT, qn_eqF, qn_m1T, qn_m1F, qn_m1F2, qn_m1lt, qn_m1lt2, qn_m1le, qn_m1le2, qn_and1, qn_and3, qn_and7, qn_and15, qn_and31, qn_and255, qn_and2047, qn_shl, qn_shr, qn_or, qn_div, qn_modlt, Nat.reduceMod, Nat.reduceAdd, Nat.reduceMul, Nat.reducePow, Nat.reduceDiv, Nat.reduceSub, ↓reduceIte, qn_us, qn_un, not_true_eq_false, not_false_eq_true, true_and, and_true, qn_nn, qn_addm, qn_ngT, qn_ngF, qn_ngE, qn_ngE2, qn_ngL, qn_ngM, Nat.add_sub_cancel, qL, qS, qM, qV, qQ, qZ0, qZ1, qE_l, qE_r, qW_some]
    exact ⟨m, t1, t2, t3, fm, kd, on, tw, rfl, by omega, m2, m3, m4⟩
theorem q_tiesR2 {R_days : Nat → Int32} {R_husband : Nat → Int32} {R_viewed : Nat → Int32} {R_wedDay : Nat → Int32} {R_weddings : Nat → Int32} {R_wife : Nat → Int32} {R_family : Nat → Int32} {R_tieKind : Nat → Int32} {R_tieOne : Nat → Int32} {R_tieTwo : Nat → Int32} {c w d m0 : Nat} {sn : Int32} {sx mo fa pd man wom wd : Nat → Int32} {s1 s2 s3 : Nat → Nat} (h : qPP c w d sn sx mo fa pd man wom wd) (hp : qPw 0 c w d sx man wom wd R_husband R_wife R_wedDay) (h1 : R_days 0 = nI d) (h2 : R_viewed 0 = sn) (h3 : R_weddings 0 = nI w) (n1 : m0 ≤ 48) (n2 : qTI m0 s1 s2 s3 R_tieOne R_tieTwo R_tieKind) (n3 : qTE m0 s1 s2 s3 (qE c 0 sn mo fa pd man wom wd)) : qW (f_X12_findFamilies_l99 (4, R_days) (96, R_husband) (4, R_viewed) (96, R_wedDay) (4, R_weddings) (96, R_wife) (24, R_family) (nI m0) (72, R_tieKind) (72, R_tieOne) (72, R_tieTwo) (nI 0)) (fun e => ∃ m t1 t2 t3 kd on tw, e = (nI m, (72, kd), (72, on), (72, tw)) ∧ m ≤ 72 ∧ qTI m t1 t2 t3 on tw kd ∧ qTE m t1 t2 t3 (qE c w sn mo fa pd man wom wd)) := by
  obtain ⟨hc, hw, hd, hv, hP, hm⟩ := id h
  obtain ⟨vd, v1, v2, v3⟩ := q_viewDay hd hv h1 h2
  unfold f_X12_findFamilies_l99
  refine qfor 0 w (fun i z => ∃ m t1 t2 t3 kd on tw, z = (nI m, (72, kd), (72, on), (72, tw), nI i) ∧ m ≤ 48 + i ∧ qTI m t1 t2 t3 on tw kd ∧ qTE m t1 t2 t3 (qE c i sn mo fa pd man wom wd)) ⟨m0, s1, s2, s3, _, _, _, rfl, by omega, n2, n3⟩ (by omega) (by omega) ?_ ?_
  · rintro i z - hi ⟨m, t1, t2, t3, kd, on, tw, rfl, m1, m2, m3⟩
    obtain ⟨⟨a, a1, a2, a3⟩, ⟨b, b1, b2, b3⟩, ⟨e, e1, e2⟩⟩ := hm i hi
    have hR := hp i hi
    simp only [Nat.zero_add] at hR
    obtain ⟨-, -, -, r2, r3, r4⟩ := hR
    rw [a2] at r2
    rw [b2] at r3
    rw [e2] at r4
    have old : ∀ a b k, qE c i sn mo fa pd man wom wd a b k → qE c (i + 1) sn mo fa pd man wom wd a b k := by
      intro a b k hE
      rcases hE with q | q | ⟨q0, j, q1, q2⟩
      · exact Or.inl q
      · exact Or.inr (Or.inl q)
      · exact Or.inr (Or.inr ⟨q0, j, by omega, q2⟩)
    have spl : ∀ a b k, qE c (i + 1) sn mo fa pd man wom wd a b k → qE c i sn mo fa pd man wom wd a b k ∨ (k = 2 ∧ (∃ e, e ≤ 999 ∧ wd i = nI e ∧ qsn sn e) ∧ a < 24 ∧ b < 24 ∧ man i = nI a ∧ wom i = nI b) := by
      intro a b k hE
      rcases hE with q | q | ⟨q0, j, q1, q2⟩
      · exact Or.inl (Or.inl q)
      · exact Or.inl (Or.inr (Or.inl q))
      · by_cases e : j = i
        · subst e; exact Or.inr ⟨q0, q2⟩
        · exact Or.inl (Or.inr (Or.inr ⟨q0, j, by omega, q2⟩))
    by_cases se : e ≤ vd
    · have se2 : ∃ e, e ≤ 999 ∧ wd i = nI e ∧ qsn sn e := ⟨e, by omega, e2, (v3 e e1).mpr se⟩
      obtain ⟨y1, y2⟩ := q_tie (a := a) (b := b) (k := 2) (show m < 72 by omega) m2
      simp (disch := first | omega | assumption) only [f_X12_findFamilies_b99, f_X12_findFamilies_j139, h3, r4, v2, r2, r3, y1, qn_lit, qn_ofNat, qn_neg1, qn_neg2, nI_add, pk_mul, qn_sub, qn_ltT, qn_ltF, qn_leT, qn_leF, qn_eqT, qn_eqF, qn_m1T, qn_m1F, qn_m1F2, qn_m1lt, qn_m1lt2, qn_m1le, qn_m1le2, qn_and1, qn_and3, qn_and7, qn_and15, qn_and31, qn_and255, qn_and2047, qn_shl, qn_shr, qn_or, qn_div, qn_modlt, Nat.reduceMod, Nat.reduceAdd, Nat.reduceMul, Nat.reducePow, Nat.reduceDiv, Nat.reduceSub, ↓reduceIte, qn_us, qn_un, not_true_eq_false, not_false_eq_true, true_and, and_true, qn_nn, qn_addm, qn_ngT, qn_ngF, qn_ngE, qn_ngE2, qn_ngL, qn_ngM, Nat.add_sub_cancel, qL, qS, qM, qV, qQ, qZ0, qZ1, qE_l, qE_r, qW_some]
      refine ⟨m + 1, _, _, _, _, _, _, rfl, by omega, y2, qTE_add m3 old (Or.inr (Or.inr ⟨rfl, i, by omega, se2, by omega, by omega, a2, b2⟩)) (fun x y z hE => ?_)⟩
      rcases spl x y z hE with zz | ⟨z0, -, z1, z2, z3, z4⟩
      · exact Or.inl zz
      · rw [a2] at z3
        rw [b2] at z4
        exact Or.inr ⟨((nI_eq (by omega) (by omega)).mp z3).symm, ((nI_eq (by omega) (by omega)).mp z4).symm, z0⟩
    · simp (disch := first | omega | assumption) only [f_X12_findFamilies_b99, f_X12_findFamilies_j139, h3, r4, v2, qn_lit, qn_ofNat, qn_neg1, qn_neg2, nI_add, pk_mul, qn_sub, qn_ltT, qn_ltF, qn_leT, qn_leF, qn_eqT, qn_eqF, qn_m1T, qn_m1F, qn_m1F2, qn_m1lt, qn_m1lt2, qn_m1le, qn_m1le2, qn_and1, qn_and3, qn_and7, qn_and15, qn_and31, qn_and255, qn_and2047, qn_shl, qn_shr, qn_or, qn_div, qn_modlt, Nat.reduceMod, Nat.reduceAdd, Nat.reduceMul, Nat.reducePow, Nat.reduceDiv, Nat.reduceSub, ↓reduceIte, qn_us, qn_un, not_true_eq_false, not_false_eq_true, true_and, and_true, qn_nn, qn_addm, qn_ngT, qn_ngF, qn_ngE, qn_ngE2, qn_ngL, qn_ngM, Nat.add_sub_cancel, qL, qS, qM, qV, qQ, qZ0, qZ1, qE_l, qE_r, qW_some]
      refine ⟨m, t1, t2, t3, kd, on, tw, rfl, by omega, m2, qTE_same m3 (fun x y z => ⟨old x y z, fun hE => (spl x y z hE).resolve_right (fun zz => ?_)⟩)⟩
      obtain ⟨-, ⟨e', z1, z2, z3⟩, -⟩ := zz
      rw [e2] at z2
      have := (nI_eq (by omega) (by omega)).mp z2
      subst this
      exact se ((v3 e e1).mp z3)
  · rintro z ⟨m, t1, t2, t3, kd, on, tw, rfl, m1, m2, m3⟩
    simp (disch := first | omega | assumption) only [f_X12_findFamilies_b99, h3, qn_lit, qn_ofNat, qn_neg1, qn_neg2, nI_add, pk_mul, qn_sub, qn_ltT, qn_ltF, qn_leT, qn_leF, qn_eqT, qn_eqF, qn_m1T, qn_m1F, qn_m1F2, qn_m1lt, qn_m1lt2, qn_m1le, qn_m1le2, qn_and1, qn_and3, qn_and7, qn_and15, qn_and31, qn_and255, qn_and2047, qn_shl, qn_shr, qn_or, qn_div, qn_modlt, Nat.reduceMod, Nat.reduceAdd, Nat.reduceMul, Nat.reducePow, Nat.reduceDiv, Nat.reduceSub, ↓reduceIte, qn_us, qn_un, not_true_eq_false, not_false_eq_true, true_and, and_true, qn_nn, qn_addm, qn_ngT, qn_ngF, qn_ngE, qn_ngE2, qn_ngL, qn_ngM, Nat.add_sub_cancel, qL, qS, qM, qV, qQ, qZ0, qZ1, qE_l, qE_r, qW_some]
    exact ⟨m, t1, t2, t3, kd, on, tw, rfl, by omega, m2, m3⟩

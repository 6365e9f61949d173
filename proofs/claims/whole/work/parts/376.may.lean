/-! may -/
/-- counts: of T all, of R can -/
def qmy (can all : Nat) (T R : Nat → Nat → Prop) : Prop := can ≤ all ∧ (all = 0 ↔ ∀ c x, ¬ T c x) ∧ (can = 0 ↔ ∀ c x, ¬ R c x) ∧ (can = all ↔ ∀ c x, T c x → R c x)
theorem qmy_ext {can all : Nat} {T R T' R' : Nat → Nat → Prop} (h : qmy can all T R) (e1 : ∀ c x, T c x ↔ T' c x) (e2 : ∀ c x, R c x ↔ R' c x) : qmy can all T' R' := by
  obtain ⟨h1, h2, h3, h4⟩ := h
  exact ⟨h1, h2.trans ⟨fun z c x q => z c x ((e1 c x).mpr q), fun z c x q => z c x ((e1 c x).mp q)⟩, h3.trans ⟨fun z c x q => z c x ((e2 c x).mpr q), fun z c x q => z c x ((e2 c x).mp q)⟩, h4.trans ⟨fun z c x q => (e2 c x).mp (z c x ((e1 c x).mpr q)), fun z c x q => (e2 c x).mpr (z c x ((e1 c x).mp q))⟩⟩
theorem qmy_T {can all a b : Nat} {T R : Nat → Nat → Prop} (h : qmy can all T R) (hRT : ∀ c x, R c x → T c x) (hn : ¬ T a b) : qmy can (all + 1) (fun c x => T c x ∨ (c = a ∧ x = b)) R := by
  obtain ⟨h1, h2, h3, h4⟩ := h
  refine ⟨by omega, ⟨fun z => absurd z (by omega), fun z => absurd (Or.inr ⟨rfl, rfl⟩) (z a b)⟩, h3, ⟨fun z => absurd z (by omega), fun z => absurd (hRT a b (z a b (Or.inr ⟨rfl, rfl⟩))) hn⟩⟩
theorem qmy_R {can all a b : Nat} {T R : Nat → Nat → Prop} (h : qmy can all T R) (hRT : ∀ c x, R c x → T c x) (hn : ¬ T a b) : qmy (can + 1) (all + 1) (fun c x => T c x ∨ (c = a ∧ x = b)) (fun c x => R c x ∨ (c = a ∧ x = b)) := by
  obtain ⟨h1, h2, h3, h4⟩ := h
  refine ⟨by omega, ⟨fun z => absurd z (by omega), fun z => absurd (Or.inr ⟨rfl, rfl⟩) (z a b)⟩, ⟨fun z => absurd z (by omega), fun z => absurd (Or.inr ⟨rfl, rfl⟩) (z a b)⟩, ?_⟩
  rw [show (can + 1 = all + 1) ↔ can = all by omega, h4]
  constructor
  · rintro z c x (q | q)
    · exact Or.inl (z c x q)
    · exact Or.inr q
  · intro z c x q
    rcases z c x (Or.inl q) with y | ⟨rfl, rfl⟩
    · exact y
    · exact absurd q hn
/-- the reference's inner loop -/
theorem q_mayR1 {R_code : Int32} {R_ties : Int32} {R_child : Nat → Int32} {R_childBack : Nat → Int32} {R_family : Nat → Int32} {R_has : Nat → Int32} {R_tieKind : Nat → Int32} {R_tieOne : Nat → Int32} {R_tieTwo : Nat → Int32} {R_weds : Nat → Int32} {R_wedsBack : Nat → Int32} {n c hm mh can all : Nat} {x1 x2 x3 x4 : Int32} {W C V U : Nat → Nat} {T R : Nat → Nat → Prop} (hx : qXw n W C V U R_weds R_child R_wedsBack R_childBack) (hh : hm < n) (hmm : mh < 256) (hc : c < 8) (hq : qmy can all T R) (hal : all ≤ 8 * c) (hT : ∀ a x, T a x → a < c) (hRT : ∀ a x, R a x → T a x) : qW (f_X12_may_l142 R_code (nI n) R_ties (8, R_child) (8, R_childBack) (24, R_family) (24, R_has) (72, R_tieKind) (72, R_tieOne) (72, R_tieTwo) (8, R_weds) (8, R_wedsBack) x1 x2 x3 x4 (nI c) (nI hm) (nI mh) (nI can) (nI all) (nI 0)) (fun e => ∃ can' all', e = (nI can', nI all') ∧ all' ≤ 8 * (c + 1) ∧ qmy can' all' (fun a x => T a x ∨ (a = c ∧ x < n ∧ qbt mh x = 1)) (fun a x => R a x ∨ (a = c ∧ x < n ∧ qbt mh x = 1 ∧ x = W hm))) := by
  have hn := hx.1.1
  unfold f_X12_may_l142
  refine qfor 0 n (fun x z => ∃ can' all', z = (nI can', nI all', nI x) ∧ all' ≤ 8 * c + x ∧ qmy can' all' (fun a y => T a y ∨ (a = c ∧ y < x ∧ qbt mh y = 1)) (fun a y => R a y ∨ (a = c ∧ y < x ∧ qbt mh y = 1 ∧ y = W hm))) ⟨can, all, rfl, by omega, qmy_ext hq (fun a y => ⟨Or.inl, fun z => z.resolve_right (fun q => absurd q.2.1 (by omega))⟩) (fun a y => ⟨Or.inl, fun z => z.resolve_right (fun q => absurd q.2.1 (by omega))⟩)⟩ (by omega) (by omega) ?_ ?_
  · rintro x z - hxn ⟨can', all', rfl, g1, g2⟩
    have ww := qR_0 hx.2.1 hh
    have wb := hx.1.2.1.1 hm hh
    have b0 : mh / 2 ^ x % 2 = qbt mh x := rfl
    have cl := g2.1
    have hRT' : ∀ a y, (R a y ∨ (a = c ∧ y < x ∧ qbt mh y = 1 ∧ y = W hm)) → (T a y ∨ (a = c ∧ y < x ∧ qbt mh y = 1)) := fun a y z => by
      rcases z with z | z
      · exact Or.inl (hRT a y z)
      · exact Or.inr ⟨z.1, z.2.1, z.2.2.1⟩
    have notT : ¬ (T c x ∨ (c = c ∧ x < x ∧ qbt mh x = 1)) := fun z => by
      rcases z with z | z
      · have := hT c x z; omega
      · omega
    by_cases q : qbt mh x = 1
    · rw [q] at b0
      have eT : ∀ a y, ((T a y ∨ (a = c ∧ y < x ∧ qbt mh y = 1)) ∨ (a = c ∧ y = x)) ↔ (T a y ∨ (a = c ∧ y < x + 1 ∧ qbt mh y = 1)) := fun a y => by
        constructor
        · rintro ((z | z) | ⟨rfl, rfl⟩)
          · exact Or.inl z
          · exact Or.inr ⟨z.1, by omega, z.2.2⟩
          · exact Or.inr ⟨rfl, by omega, q⟩
        · rintro (z | ⟨z1, z2, z3⟩)
          · exact Or.inl (Or.inl z)
          · by_cases e : y = x
            · exact Or.inr ⟨z1, e⟩
            · exact Or.inl (Or.inr ⟨z1, by omega, z3⟩)
      by_cases qw : x = W hm
      · simp (disch := first | omega | assumption) only [f_X12_may_b142, f_X12_may_j166, f_X12_may_j180, f_X12_may_j206, f_X12_may_j207, qn_lit, qn_ofNat, qn_neg1, qn_neg2, nI_add, pk_mul, qn_sub, qn_ltT, qn_ltF, qn_leT, qn_leF, qn_eqT, qn_eqF, qn_m1T, qn_m1F, qn_m1F2, qn_m1lt, qn_m1lt2, qn_m1le, qn_m1le2, qn_and1, qn_and3, qn_and7, qn_and15, qn_and31, qn_and255, qn_and2047, qn_shl, qn_shr, qn_or, qn_div, qn_modlt, Nat.reduceMod, Nat.reduceAdd, Nat.reduceMul, Nat.reducePow, Nat.reduceDiv, Nat.reduceSub, ↓reduceIte, qn_us, qn_un, not_true_eq_false, not_false_eq_true, true_and, and_true, qn_nn, qn_addm, qn_ngT, qn_ngF, qn_ngE, qn_ngE2, qn_ngL, qn_ngM, Nat.add_sub_cancel, qL, qS, qM, qV, qQ, qZ0, qZ1, qE_l, qE_r, qW_some, b0, ww]
        refine ⟨_, _, rfl, by omega, qmy_ext (qmy_R (a := c) (b := x) g2 hRT' notT) eT (fun a y => ?_)⟩
        constructor
        · rintro ((z | z) | ⟨rfl, rfl⟩)
          · exact Or.inl z
          · exact Or.inr ⟨z.1, by omega, z.2.2⟩
          · exact Or.inr ⟨rfl, by omega, q, qw⟩
        · rintro (z | ⟨z1, z2, z3⟩)
          · exact Or.inl (Or.inl z)
          · by_cases e : y = x
            · exact Or.inr ⟨z1, e⟩
            · exact Or.inl (Or.inr ⟨z1, by omega, z3⟩)
      · simp (disch := first | omega | assumption) only [f_X12_may_b142, f_X12_may_j166, f_X12_may_j180, f_X12_may_j206, f_X12_may_j207, qn_lit, qn_ofNat, qn_neg1, qn_neg2, nI_add, pk_mul, qn_sub, qn_ltT, qn_ltF, qn_leT, qn_leF, qn_eqT, qn_eqF, qn_m1T, qn_m1F, qn_m1F2, qn_m1lt, qn_m1lt2, qn_m1le, qn_m1le2, qn_and1, qn_and3, qn_and7, qn_and15, qn_and31, qn_and255, qn_and2047, qn_shl, qn_shr, qn_or, qn_div, qn_modlt, Nat.reduceMod, Nat.reduceAdd, Nat.reduceMul, Nat.reducePow, Nat.reduceDiv, Nat.reduceSub, ↓reduceIte, qn_us, qn_un, not_true_eq_false, not_false_eq_true, true_and, and_true, qn_nn, qn_addm, qn_ngT, qn_ngF, qn_ngE, qn_ngE2, qn_ngL, qn_ngM, Nat.add_sub_cancel, qL, qS, qM, qV, qQ, qZ0, qZ1, qE_l, qE_r, qW_some, b0, ww, Nat.add_zero]
        refine ⟨_, _, rfl, by omega, qmy_ext (qmy_T (a := c) (b := x) g2 hRT' notT) eT (fun a y => ?_)⟩
        constructor
        · rintro (z | z)
          · exact Or.inl z
          · exact Or.inr ⟨z.1, by omega, z.2.2⟩
        · rintro (z | ⟨z1, z2, z3, z4⟩)
          · exact Or.inl z
          · have : y ≠ x := fun e => qw (by rw [← e]; exact z4)
            exact Or.inr ⟨z1, by omega, z3, z4⟩
    · have q0 : qbt mh x = 0 := by
        have : qbt mh x < 2 := Nat.mod_lt _ (by decide)
        omega
      rw [q0] at b0
      simp (disch := first | omega | assumption) only [f_X12_may_b142, f_X12_may_j166, f_X12_may_j180, f_X12_may_j206, f_X12_may_j207, qn_lit, qn_ofNat, qn_neg1, qn_neg2, nI_add, pk_mul, qn_sub, qn_ltT, qn_ltF, qn_leT, qn_leF, qn_eqT, qn_eqF, qn_m1T, qn_m1F, qn_m1F2, qn_m1lt, qn_m1lt2, qn_m1le, qn_m1le2, qn_and1, qn_and3, qn_and7, qn_and15, qn_and31, qn_and255, qn_and2047, qn_shl, qn_shr, qn_or, qn_div, qn_modlt, Nat.reduceMod, Nat.reduceAdd, Nat.reduceMul, Nat.reducePow, Nat.reduceDiv, Nat.reduceSub, ↓reduceIte, qn_us, qn_un, not_true_eq_false, not_false_eq_true, true_and, and_true, qn_nn, qn_addm, qn_ngT, qn_ngF, qn_ngE, qn_ngE2, qn_ngL, qn_ngM, Nat.add_sub_cancel, qL, qS, qM, qV, qQ, qZ0, qZ1, qE_l, qE_r, qW_some, b0, Nat.add_zero]
      refine ⟨_, _, rfl, by omega, qmy_ext g2 (fun a y => ?_) (fun a y => ?_)⟩
      · constructor
        · rintro (z | z)
          · exact Or.inl z
          · exact Or.inr ⟨z.1, by omega, z.2.2⟩
        · rintro (z | ⟨z1, z2, z3⟩)
          · exact Or.inl z
          · have : y ≠ x := fun e => q (by rw [← e]; exact z3)
            exact Or.inr ⟨z1, by omega, z3⟩
      · constructor
        · rintro (z | z)
          · exact Or.inl z
          · exact Or.inr ⟨z.1, by omega, z.2.2⟩
        · rintro (z | ⟨z1, z2, z3, z4⟩)
          · exact Or.inl z
          · have : y ≠ x := fun e => q (by rw [← e]; exact z3)
            exact Or.inr ⟨z1, by omega, z3, z4⟩
  · rintro z ⟨can', all', rfl, g1, g2⟩
    simp (disch := first | omega | assumption) only [f_X12_may_b142, qn_lit, qn_ofNat, qn_neg1, qn_neg2, nI_add, pk_mul, qn_sub, qn_ltT, qn_ltF, qn_leT, qn_leF, qn_eqT, qn_eqF, qn_m1T, qn_m1F, qn_m1F2, qn_m1lt, qn_m1lt2, qn_m1le, qn_m1le2, qn_and1, qn_and3, qn_and7, qn_and15, qn_and31, qn_and255, qn_and2047, qn_shl, qn_shr, qn_or, qn_div, qn_modlt, Nat.reduceMod, Nat.reduceAdd, Nat.reduceMul, Nat.reducePow, Nat.reduceDiv, Nat.reduceSub, ↓reduceIte, qn_us, qn_un, not_true_eq_false, not_false_eq_true, true_and, and_true, qn_nn, qn_addm, qn_ngT, qn_ngF, qn_ngE, qn_ngE2, qn_ngL, qn_ngM, Nat.add_sub_cancel, qL, qS, qM, qV, qQ, qZ0, qZ1, qE_l, qE_r, qW_some]
    exact ⟨can', all', rfl, by omega, g2⟩
/-- the reference's outer loop; T: what can be, R: what is right -/
theorem q_mayR2 {R_days : Nat → Int32} {R_persons : Nat → Int32} {R_tellings : Nat → Int32} {R_toldClass : Nat → Int32} {R_toldDay : Nat → Int32} {R_toldPerson : Nat → Int32} {R_viewed : Nat → Int32} {R_code : Int32} {R_child : Nat → Int32} {R_childBack : Nat → Int32} {R_family : Nat → Int32} {R_tieKind : Nat → Int32} {R_tieOne : Nat → Int32} {R_tieTwo : Nat → Int32} {R_weds : Nat → Int32} {R_wedsBack : Nat → Int32} {R_has : Nat → Int32} {c n m t d man woman : Nat} {sn : Int32} {W C V U t1 t2 t3 F tp tq : Nat → Nat} {K : Nat → Nat → Nat} {ts : Nat → Prop} {E : Nat → Nat → Nat → Prop} (hR : qRF c n m W C V U E t1 t2 t3 F R_weds R_child R_wedsBack R_childBack R_family R_tieOne R_tieTwo R_tieKind) (hT : qRT c t d sn tp tq ts R_days R_viewed R_tellings R_toldPerson R_toldClass R_toldDay) (hfo : ∀ p r, p < c → r < n → qfo n W C V E (F p) r p (K p r)) (hp : R_persons 0 = nI c) (h1 : man < c) (h2 : woman < c) : qW (f_X12_may_l77 (4, R_days) (4, R_persons) (4, R_tellings) (240, R_toldClass) (240, R_toldDay) (240, R_toldPerson) (4, R_viewed) R_code (nI n) (nI m) (8, R_child) (8, R_childBack) (24, R_family) (72, R_tieKind) (72, R_tieOne) (72, R_tieTwo) (8, R_weds) (8, R_wedsBack) (nI man) (nI woman) (nI (F man)) (nI (F woman)) (24, R_has) (nI 0) (nI 0) (nI 0)) (fun e => ∃ hs can all, e = ((24, hs), nI can, nI all) ∧ all ≤ 64 ∧ qmy can all (fun a x => a < n ∧ (qft n W C V E (F man) a ∧ qag F K tp tq ts t (F man) a = 0) ∧ x < n ∧ (if F man = F woman then x = K woman a else ∃ s, s < n ∧ qft n W C V E (F woman) s ∧ qag F K tp tq ts t (F woman) s = 0 ∧ K woman s = x)) (fun a x => (a < n ∧ (qft n W C V E (F man) a ∧ qag F K tp tq ts t (F man) a = 0) ∧ x < n ∧ (if F man = F woman then x = K woman a else ∃ s, s < n ∧ qft n W C V E (F woman) s ∧ qag F K tp tq ts t (F woman) s = 0 ∧ K woman s = x)) ∧ x = W (K man a))) := by
  have hn := hR.1.1.1
  have c24 := hR.2.1
  have t60 := hT.1
  have hfm : ∀ p, p < c → R_family p = nI (F p) ∧ F p < c := fun p hp2 => ⟨hR.2.2.2.2.2.2.1 p hp2, by have := (hR.2.2.2.2.2.2.2.1 p hp2).2; omega⟩
  have fi1 := qFm_i hR.2.2.2.2.2.2.2 h1
  obtain ⟨-, f2⟩ := hfm man h1
  obtain ⟨-, f3⟩ := hfm woman h2
  unfold f_X12_may_l77
  refine qfor 0 n (fun r z => ∃ hs can all, z = ((24, hs), nI can, nI all, nI r) ∧ all ≤ 8 * r ∧ qmy can all (fun a x => a < r ∧ (qft n W C V E (F man) a ∧ qag F K tp tq ts t (F man) a = 0) ∧ x < n ∧ (if F man = F woman then x = K woman a else ∃ s, s < n ∧ qft n W C V E (F woman) s ∧ qag F K tp tq ts t (F woman) s = 0 ∧ K woman s = x)) (fun a x => (a < r ∧ (qft n W C V E (F man) a ∧ qag F K tp tq ts t (F man) a = 0) ∧ x < n ∧ (if F man = F woman then x = K woman a else ∃ s, s < n ∧ qft n W C V E (F woman) s ∧ qag F K tp tq ts t (F woman) s = 0 ∧ K woman s = x)) ∧ x = W (K man a))) ⟨_, 0, 0, rfl, by omega, Nat.le_refl _, ⟨fun _ a x z => absurd z.1 (by omega), fun _ => rfl⟩, ⟨fun _ a x z => absurd z.1.1 (by omega), fun _ => rfl⟩, ⟨fun _ a x z => absurd z.1 (by omega), fun _ => rfl⟩⟩ (by omega) (by omega) ?_ ?_
  · rintro r z - hr ⟨hs, can, all, rfl, g1, g2⟩
    obtain ⟨f, hs2, k1, k2⟩ := q_fitsK (R_has := hs) hR hfo hp f2 fi1 hr
    have cl := g2.1
    have skip : ¬ (qft n W C V E (F man) r ∧ qag F K tp tq ts t (F man) r = 0) → qmy can all (fun a x => a < r + 1 ∧ (qft n W C V E (F man) a ∧ qag F K tp tq ts t (F man) a = 0) ∧ x < n ∧ (if F man = F woman then x = K woman a else ∃ s, s < n ∧ qft n W C V E (F woman) s ∧ qag F K tp tq ts t (F woman) s = 0 ∧ K woman s = x)) (fun a x => (a < r + 1 ∧ (qft n W C V E (F man) a ∧ qag F K tp tq ts t (F man) a = 0) ∧ x < n ∧ (if F man = F woman then x = K woman a else ∃ s, s < n ∧ qft n W C V E (F woman) s ∧ qag F K tp tq ts t (F woman) s = 0 ∧ K woman s = x)) ∧ x = W (K man a)) := by
      intro q
      have aux : ∀ a, (a < r ∧ (qft n W C V E (F man) a ∧ qag F K tp tq ts t (F man) a = 0)) ↔ (a < r + 1 ∧ (qft n W C V E (F man) a ∧ qag F K tp tq ts t (F man) a = 0)) := by
        intro a
        constructor
        · intro z
          exact ⟨by omega, z.2⟩
        · intro z
          have ne : a ≠ r := fun e => q (by rw [← e]; exact z.2)
          exact ⟨by omega, z.2⟩
      refine qmy_ext g2 (fun a x => ?_) (fun a x => ?_)
      · exact ⟨fun z => ⟨((aux a).mp ⟨z.1, z.2.1⟩).1, z.2⟩, fun z => ⟨((aux a).mpr ⟨z.1, z.2.1⟩).1, z.2⟩⟩
      · exact ⟨fun z => ⟨⟨((aux a).mp ⟨z.1.1, z.1.2.1⟩).1, z.1.2⟩, z.2⟩, fun z => ⟨⟨((aux a).mpr ⟨z.1.1, z.1.2.1⟩).1, z.1.2⟩, z.2⟩⟩
    rcases k2 with ⟨rfl, k2, k3⟩ | ⟨rfl, k2⟩
    · have dg := q_disagree (R_has := hs2) (r := r) hT hR.2.1 hfm k3 (fun p hp2 => by have := (hfo p r hp2 hr).1; omega) f2
      have ag0 : qag F K tp tq ts t (F man) r ≤ t := qct_le _ _
      by_cases q : qag F K tp tq ts t (F man) r = 0
      · rw [q] at dg
        have hm := k3 man h1 rfl
        have km := (hfo man r h1 hr).1
        have fin : ∀ (mh : Nat), mh < 256 → (∀ x, x < n → (qbt mh x = 1 ↔ (if F man = F woman then x = K woman r else ∃ s, s < n ∧ qft n W C V E (F woman) s ∧ qag F K tp tq ts t (F woman) s = 0 ∧ K woman s = x))) → ∀ can' all' : Nat, qmy can' all' (fun a x => (a < r ∧ (qft n W C V E (F man) a ∧ qag F K tp tq ts t (F man) a = 0) ∧ x < n ∧ (if F man = F woman then x = K woman a else ∃ s, s < n ∧ qft n W C V E (F woman) s ∧ qag F K tp tq ts t (F woman) s = 0 ∧ K woman s = x)) ∨ (a = r ∧ x < n ∧ qbt mh x = 1)) (fun a x => ((a < r ∧ (qft n W C V E (F man) a ∧ qag F K tp tq ts t (F man) a = 0) ∧ x < n ∧ (if F man = F woman then x = K woman a else ∃ s, s < n ∧ qft n W C V E (F woman) s ∧ qag F K tp tq ts t (F woman) s = 0 ∧ K woman s = x)) ∧ x = W (K man a)) ∨ (a = r ∧ x < n ∧ qbt mh x = 1 ∧ x = W (K man r))) → qmy can' all' (fun a x => a < r + 1 ∧ (qft n W C V E (F man) a ∧ qag F K tp tq ts t (F man) a = 0) ∧ x < n ∧ (if F man = F woman then x = K woman a else ∃ s, s < n ∧ qft n W C V E (F woman) s ∧ qag F K tp tq ts t (F woman) s = 0 ∧ K woman s = x)) (fun a x => (a < r + 1 ∧ (qft n W C V E (F man) a ∧ qag F K tp tq ts t (F man) a = 0) ∧ x < n ∧ (if F man = F woman then x = K woman a else ∃ s, s < n ∧ qft n W C V E (F woman) s ∧ qag F K tp tq ts t (F woman) s = 0 ∧ K woman s = x)) ∧ x = W (K man a)) := by
          intro mh hmh hbit can' all' hq
          refine qmy_ext hq (fun a x => ?_) (fun a x => ?_)
          · constructor
            · rintro (z | ⟨rfl, z2, z3⟩)
              · exact ⟨by omega, z.2⟩
              · exact ⟨by omega, ⟨k2, q⟩, z2, (hbit x z2).mp z3⟩
            · rintro ⟨z1, z2, z3, z4⟩
              by_cases e : a = r
              · subst e
                exact Or.inr ⟨rfl, z3, (hbit x z3).mpr z4⟩
              · exact Or.inl ⟨by omega, z2, z3, z4⟩
          · constructor
            · rintro (z | ⟨rfl, z2, z3, z4⟩)
              · exact ⟨⟨by omega, z.1.2⟩, z.2⟩
              · exact ⟨⟨by omega, ⟨k2, q⟩, z2, (hbit x z2).mp z3⟩, z4⟩
            · rintro ⟨⟨z1, z2, z3, z4⟩, z5⟩
              by_cases e : a = r
              · subst e
                exact Or.inr ⟨rfl, z3, (hbit x z3).mpr z4, z5⟩
              · exact Or.inl ⟨⟨by omega, z2, z3, z4⟩, z5⟩
        by_cases hfe : F man = F woman
        · have hw3 := k3 woman h2 hfe.symm
          have kw : K woman r < n := (hfo woman r h2 hr).1
          have b2 : 2 ^ K woman r < 256 := Nat.lt_of_lt_of_le (Nat.pow_lt_pow_right (a := 2) (by decide) (show K woman r < 8 by omega)) (by decide)
          have bb := (q_bitor (m := 0) (r := K woman r) (by decide) (by omega)).2
          rw [Nat.zero_or] at bb
          obtain ⟨e, q1, can', all', rfl, q2, q3⟩ := q_mayR1 (R_code := R_code) (R_ties := nI m) (R_family := R_family) (R_has := hs2) (R_tieKind := R_tieKind) (R_tieOne := R_tieOne) (R_tieTwo := R_tieTwo) (x1 := nI man) (x2 := nI woman) (x3 := nI (F man)) (x4 := nI (F woman)) hR.1 km b2 (show r < 8 by omega) g2 (by omega) (fun a x z => z.1) (fun a x z => z.1)
          simp (disch := first | omega | assumption) only [f_X12_may_b77, f_X12_may_j137, f_X12_may_j216, k1, dg, hm, hw3, qn_lit, qn_ofNat, qn_neg1, qn_neg2, nI_add, pk_mul, qn_sub, qn_ltT, qn_ltF, qn_leT, qn_leF, qn_eqT, qn_eqF, qn_m1T, qn_m1F, qn_m1F2, qn_m1lt, qn_m1lt2, qn_m1le, qn_m1le2, qn_and1, qn_and3, qn_and7, qn_and15, qn_and31, qn_and255, qn_and2047, qn_shl, qn_shr, qn_or, qn_div, qn_modlt, Nat.reduceMod, Nat.reduceAdd, Nat.reduceMul, Nat.reducePow, Nat.reduceDiv, Nat.reduceSub, ↓reduceIte, qn_us, qn_un, not_true_eq_false, not_false_eq_true, true_and, and_true, qn_nn, qn_addm, qn_ngT, qn_ngF, qn_ngE, qn_ngE2, qn_ngL, qn_ngM, Nat.add_sub_cancel, qL, qS, qM, qV, qQ, qZ0, qZ1, qE_l, qE_r, qW_some, Nat.mul_one, q1]
          refine ⟨_, _, _, rfl, q2, fin _ b2 (fun x hx => ?_) _ _ q3⟩
          rw [bb x (by omega), if_pos hfe]
          exact ⟨fun z => z.resolve_left (fun y => absurd y (by unfold qbt; simp)), Or.inr⟩
        · obtain ⟨mp, hs3, p1, p2, p3⟩ := q_possible (R_has := hs2) hR hT hfo hp h2
          obtain ⟨e, q1, can', all', rfl, q2, q3⟩ := q_mayR1 (R_code := R_code) (R_ties := nI m) (R_family := R_family) (R_has := hs3) (R_tieKind := R_tieKind) (R_tieOne := R_tieOne) (R_tieTwo := R_tieTwo) (x1 := nI man) (x2 := nI woman) (x3 := nI (F man)) (x4 := nI (F woman)) hR.1 km p2 (show r < 8 by omega) g2 (by omega) (fun a x z => z.1) (fun a x z => z.1)
          simp (disch := first | omega | assumption) only [f_X12_may_b77, f_X12_may_j137, f_X12_may_j216, k1, dg, hm, p1, qn_lit, qn_ofNat, qn_neg1, qn_neg2, nI_add, pk_mul, qn_sub, qn_ltT, qn_ltF, qn_leT, qn_leF, qn_eqT, qn_eqF, qn_m1T, qn_m1F, qn_m1F2, qn_m1lt, qn_m1lt2, qn_m1le, qn_m1le2, qn_and1, qn_and3, qn_and7, qn_and15, qn_and31, qn_and255, qn_and2047, qn_shl, qn_shr, qn_or, qn_div, qn_modlt, Nat.reduceMod, Nat.reduceAdd, Nat.reduceMul, Nat.reducePow, Nat.reduceDiv, Nat.reduceSub, ↓reduceIte, qn_us, qn_un, not_true_eq_false, not_false_eq_true, true_and, and_true, qn_nn, qn_addm, qn_ngT, qn_ngF, qn_ngE, qn_ngE2, qn_ngL, qn_ngM, Nat.add_sub_cancel, qL, qS, qM, qV, qQ, qZ0, qZ1, qE_l, qE_r, qW_some, q1]
          refine ⟨_, _, _, rfl, q2, fin _ p2 (fun x hx => ?_) _ _ q3⟩
          rw [if_neg hfe]
          exact p3 x (by omega)
      · simp (disch := first | omega | assumption) only [f_X12_may_b77, f_X12_may_j216, k1, dg, qn_lit, qn_ofNat, qn_neg1, qn_neg2, nI_add, pk_mul, qn_sub, qn_ltT, qn_ltF, qn_leT, qn_leF, qn_eqT, qn_eqF, qn_m1T, qn_m1F, qn_m1F2, qn_m1lt, qn_m1lt2, qn_m1le, qn_m1le2, qn_and1, qn_and3, qn_and7, qn_and15, qn_and31, qn_and255, qn_and2047, qn_shl, qn_shr, qn_or, qn_div, qn_modlt, Nat.reduceMod, Nat.reduceAdd, Nat.reduceMul, Nat.reducePow, Nat.reduceDiv, Nat.reduceSub, ↓reduceIte, qn_us, qn_un, not_true_eq_false, not_false_eq_true, true_and, and_true, qn_nn, qn_addm, qn_ngT, qn_ngF, qn_ngE, qn_ngE2, qn_ngL, qn_ngM, Nat.add_sub_cancel, qL, qS, qM, qV, qQ, qZ0, qZ1, qE_l, qE_r, qW_some]
        exact ⟨_, _, _, rfl, by omega, skip (fun z => q z.2)⟩
    · simp (disch := first | omega | assumption) only [f_X12_may_b77, f_X12_may_j216, k1, qn_lit, qn_ofNat, qn_neg1, qn_neg2, nI_add, pk_mul, qn_sub, qn_ltT, qn_ltF, qn_leT, qn_leF, qn_eqT, qn_eqF, qn_m1T, qn_m1F, qn_m1F2, qn_m1lt, qn_m1lt2, qn_m1le, qn_m1le2, qn_and1, qn_and3, qn_and7, qn_and15, qn_and31, qn_and255, qn_and2047, qn_shl, qn_shr, qn_or, qn_div, qn_modlt, Nat.reduceMod, Nat.reduceAdd, Nat.reduceMul, Nat.reducePow, Nat.reduceDiv, Nat.reduceSub, ↓reduceIte, qn_us, qn_un, not_true_eq_false, not_false_eq_true, true_and, and_true, qn_nn, qn_addm, qn_ngT, qn_ngF, qn_ngE, qn_ngE2, qn_ngL, qn_ngM, Nat.add_sub_cancel, qL, qS, qM, qV, qQ, qZ0, qZ1, qE_l, qE_r, qW_some]
      exact ⟨_, _, _, rfl, by omega, skip (fun z => k2 z.1)⟩
  · rintro z ⟨hs, can, all, rfl, g1, g2⟩
    simp (disch := first | omega | assumption) only [f_X12_may_b77, qn_lit, qn_ofNat, qn_neg1, qn_neg2, nI_add, pk_mul, qn_sub, qn_ltT, qn_ltF, qn_leT, qn_leF, qn_eqT, qn_eqF, qn_m1T, qn_m1F, qn_m1F2, qn_m1lt, qn_m1lt2, qn_m1le, qn_m1le2, qn_and1, qn_and3, qn_and7, qn_and15, qn_and31, qn_and255, qn_and2047, qn_shl, qn_shr, qn_or, qn_div, qn_modlt, Nat.reduceMod, Nat.reduceAdd, Nat.reduceMul, Nat.reducePow, Nat.reduceDiv, Nat.reduceSub, ↓reduceIte, qn_us, qn_un, not_true_eq_false, not_false_eq_true, true_and, and_true, qn_nn, qn_addm, qn_ngT, qn_ngF, qn_ngE, qn_ngE2, qn_ngL, qn_ngM, Nat.add_sub_cancel, qL, qS, qM, qV, qQ, qZ0, qZ1, qE_l, qE_r, qW_some]
    exact ⟨hs, can, all, rfl, by omega, g2⟩

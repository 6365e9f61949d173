/-! all that the class finds of persons, and keeps -/
def qft (n : Nat) (W C V : Nat → Nat) (E : Nat → Nat → Nat → Prop) (h r : Nat) : Prop := ∃ X, qCo n W C V E h X ∧ X h = r
theorem qft_iff {c n h r : Nat} {W C V F : Nat → Nat} {K : Nat → Nat → Nat} {E : Nat → Nat → Nat → Prop} (hF : qFm c E F) (hE : ∀ a b k, E a b k → a < c ∧ b < c) (hfo : ∀ p r, p < c → r < n → qfo n W C V E (F p) r p (K p r)) (hh : h < c) (hFh : F h = h) (hr : r < n) (hK : K h r = r) : (∀ a b k, E a b k → F a = h → K b r = qcw W C V k (K a r)) ↔ qft n W C V E h r := by
  have inc : ∀ p, qcn E h p → p < c ∧ F p = h := fun p hq => hq (fun p => p < c ∧ F p = h) (fun a b k hab => by have := hE a b k hab; have e := hF.2 a b k hab; exact ⟨fun z => ⟨this.2, by rw [← e]; exact z.2⟩, fun z => ⟨this.1, by rw [e]; exact z.2⟩⟩) ⟨hh, hFh⟩
  constructor
  · intro g
    refine ⟨fun p => K p r, ⟨fun a ha => ?_, fun a b k hab ha => g a b k hab (inc a ha).2⟩, hK⟩
    exact (hfo a r (inc a ha).1 hr).1
  · rintro ⟨X, X1, X2⟩ a b k hab hFa
    obtain ⟨ac, bc⟩ := hE a b k hab
    have f1 := hfo a r ac hr
    have f2 := hfo b r bc hr
    rw [hFa] at f1
    rw [← hF.2 a b k hab, hFa] at f2
    rw [← f1.2.2 X X1 X2, ← f2.2.2 X X1 X2]
    exact X1.2 a b k hab f1.2.1
def qKV (c n w t : Nat) (sn : Int32) (W C V : Nat → Nat) (mo fa pd man wom wd : Nat → Int32) (tp tq : Nat → Nat) (ts : Nat → Prop) (F : Nat → Nat) (K : Nat → Nat → Nat) (cnt fam : Int32) (agr bst kb le : Nat → Int32) : Prop := qFm c (qE c w sn mo fa pd man wom wd) F ∧ qKR c n F K kb le ∧ (∀ p r, p < c → r < n → qfo n W C V (qE c w sn mo fa pd man wom wd) (F p) r p (K p r)) ∧ cnt = nI c ∧ fam = nI (qct (fun q => F q = q) c) ∧ ∀ h, h < c → F h = h → (∃ m, m < 256 ∧ agr h = nI m ∧ ∀ r, r < 8 → (qbt m r = 1 ↔ r < n ∧ qft n W C V (qE c w sn mo fa pd man wom wd) h r ∧ qag F K tp tq ts t h r = 0)) ∧ qbs (qft n W C V (qE c w sn mo fa pd man wom wd) h) (qag F K tp tq ts t h) n (bst h)
theorem q_find {xp_seenTo : Int32} {xp_father : Nat → Int32} {xp_man : Nat → Int32} {xp_mother : Nat → Int32} {xp_parentsDay : Nat → Int32} {xp_sex : Nat → Int32} {xp_teller : Nat → Int32} {xp_tellingDay : Nat → Int32} {xp_tellingKind : Nat → Int32} {xp_weddingDay : Nat → Int32} {xp_woman : Nat → Int32} {xw_child : Nat → Int32} {xw_father : Nat → Int32} {xw_husband : Nat → Int32} {xw_wife : Nat → Int32} {ks_count : Int32} {ks_families : Int32} {ks_known : Int32} {ks_queued : Int32} {ks_against : Nat → Int32} {ks_agreeing : Nat → Int32} {ks_best : Nat → Int32} {ks_fitting : Nat → Int32} {ks_kindBy : Nat → Int32} {ks_least : Nat → Int32} {ks_queue : Nat → Int32} {c w t d n : Nat} {W C V U tp tq : Nat → Nat} {ts : Nat → Prop} (hw : qXw n W C V U xw_wife xw_child xw_husband xw_father) (hP : qPP c w d xp_seenTo xp_sex xp_mother xp_father xp_parentsDay xp_man xp_woman xp_weddingDay) (hT : qTl c t d xp_seenTo xp_teller xp_tellingKind xp_tellingDay tp tq ts) (hk : ks_known = nI 0 ∨ (ks_known = nI 1 ∧ ∃ F K, qKV c n w t xp_seenTo W C V xp_mother xp_father xp_parentsDay xp_man xp_woman xp_weddingDay tp tq ts F K ks_count ks_families ks_agreeing ks_best ks_kindBy ks_least)) : ∃ ks_count' ks_families' ks_queued' ks_against' ks_agreeing' ks_best' ks_fitting' ks_kindBy' ks_least' ks_queue', f_X2_find (nI c) xp_seenTo (nI t) (nI w) (nI n) (24, xp_father) (24, xp_man) (24, xp_mother) (24, xp_parentsDay) (24, xp_sex) (60, xp_teller) (60, xp_tellingDay) (60, xp_tellingKind) (24, xp_weddingDay) (24, xp_woman) (8, xw_child) (8, xw_father) (8, xw_husband) (8, xw_wife) ks_count ks_families ks_known ks_queued (192, ks_against) (24, ks_agreeing) (24, ks_best) (24, ks_fitting) (192, ks_kindBy) (24, ks_least) (24, ks_queue) = some (ks_count', ks_families', nI 1, ks_queued', (192, ks_against'), (24, ks_agreeing'), (24, ks_best'), (24, ks_fitting'), (192, ks_kindBy'), (24, ks_least'), (24, ks_queue')) ∧ ∃ F K, qKV c n w t xp_seenTo W C V xp_mother xp_father xp_parentsDay xp_man xp_woman xp_weddingDay tp tq ts F K ks_count' ks_families' ks_agreeing' ks_best' ks_kindBy' ks_least' := by
  have hn := hw.1.1
  have hc := hP.1
  rcases hk with rfl | ⟨rfl, hV⟩
  · obtain ⟨le0, f1, f2⟩ := q_fill (N := 24) (f := ks_least) (v := mI) (by decide)
    obtain ⟨ag0, f3, f4⟩ := q_fill (N := 192) (f := ks_against) (v := nI 0) (by decide)
    obtain ⟨e, g1, Q, F, K, qn, fi, kb, le, qu, rfl, g2, g3, g4, g5⟩ := q_findFam (ks_known := nI 1) (ks_against := ag0) (ks_agreeing := ks_agreeing) (ks_best := ks_best) (ks_fitting := ks_fitting) (ks_kindBy := ks_kindBy) (ks_queue := ks_queue) hw hP f2
    have hE := fun a b k hab => (fun z => And.intro z.1 z.2.1) (qE_lt hP (a := a) (b := b) (k := k) hab)
    have hF := qK_Fm g2 g3 hE g4
    have hK : qKR c n F K kb le := ⟨fun p hp => ⟨(g2.2.2.1 p hp).1 (g4 p hp), by have := (hF.1 p hp).2; omega, qFm_i hF hp⟩, fun p r hp hr => ⟨((g2.2.2.2 p (g4 p hp)).2.2 r hr).1, ((g2.2.2.2 p (g4 p hp)).2.2 r hr).2.1.1⟩⟩
    have hfo : ∀ p r, p < c → r < n → qfo n W C V (qE c w xp_seenTo xp_mother xp_father xp_parentsDay xp_man xp_woman xp_weddingDay) (F p) r p (K p r) := fun p r hp hr => ((g2.2.2.2 p (g4 p hp)).2.2 r hr).2.1
    have hKh : ∀ h r, h < c → F h = h → r < n → K h r = r := fun h r hh hFh hr => ((g2.2.2.2 h (g4 h hh)).2.2 r hr).2.2 hFh
    have full : ∀ r, r < n → qbt (2 ^ n - 1) r = 1 := by
      intro r hr
      exact qtb.mpr (by rw [Nat.testBit_two_pow_sub_one]; exact decide_eq_true hr)
    have p2 := q_2n hn
    have hT0 : qFT c n W C V F K (fun _ _ _ => False) fi := fun h hh hFh => ⟨2 ^ n - 1, by omega, g5 h hh hFh, fun r hr => ⟨fun _ a b k z => z.elim, fun _ => full r hr⟩⟩
    obtain ⟨fi1, c1, c2⟩ := q_checkPar hw hP hK hT0
    obtain ⟨fi2, c3, c4⟩ := q_checkWed hw hP hK c2
    obtain ⟨ag', a1, a2⟩ := q_against (n := n) hn hc hK hT f4
    have t60 := hT.1
    obtain ⟨agr', bst', b1, b2⟩ := q_chooseBest (F := F) (P := qft n W C V (qE c w xp_seenTo xp_mother xp_father xp_parentsDay xp_man xp_woman xp_weddingDay)) (ag := fun h r => qag F K tp tq ts t h r) (ks_agreeing := ks_agreeing) (ks_best := ks_best) hn hc (fun p hp => ⟨(hK.1 p hp).1, (hK.1 p hp).2.1⟩) (fun h r hh hr => ⟨a2 h r hh hr, by have := qct_le (fun k => ts k ∧ F (tp k) = h ∧ K (tp k) r ≠ tq k) t; show qct _ t < 1000; omega⟩) (fun h hh hFh => by
      obtain ⟨m, m1, m2, m3⟩ := c4 h hh hFh
      exact ⟨m, m1, m2, fun r hr => (m3 r hr).trans (qft_iff hF hE hfo hh hFh hr (hKh h r hh hFh hr))⟩)
    refine ⟨nI c, nI (qct (fun q => F q = q) c), nI qn, ag', agr', bst', fi2, kb, le, qu, ?_, F, K, hF, hK, hfo, rfl, rfl, b2⟩
    simp (disch := first | omega | assumption) only [f_X2_find, f_X2_find_j91, f1, f3, g1, c1, c3, a1, b1, qn_lit, qn_ofNat, qn_neg1, qn_neg2, nI_add, pk_mul, qn_sub, qn_ltT, qn_ltF, qn_leT, qn_leF, qn_eqT, qn_eqF, qn_m1T, qn_m1F, qn_m1F2, qn_m1lt, qn_m1lt2, qn_m1le, qn_m1le2, qn_and1, qn_and3, qn_and7, qn_and15, qn_and31, qn_and255, qn_and2047, qn_shl, qn_shr, qn_or, qn_div, qn_modlt, Nat.reduceMod, Nat.reduceAdd, Nat.reduceMul, Nat.reducePow, Nat.reduceDiv, Nat.reduceSub, ↓reduceIte, qn_us, qn_un, not_true_eq_false, not_false_eq_true, true_and, and_true, qn_nn, qn_addm, qn_ngT, qn_ngF, qn_ngE, qn_ngE2, qn_ngL, qn_ngM, Nat.add_sub_cancel, qL, qS, qM, qV, qQ, qZ0, qZ1, qE_l, qE_r, qW_some]
  · refine ⟨ks_count, ks_families, ks_queued, ks_against, ks_agreeing, ks_best, ks_fitting, ks_kindBy, ks_least, ks_queue, ?_, hV⟩
    simp (disch := first | omega | assumption) only [f_X2_find, qn_lit, qn_ofNat, qn_neg1, qn_neg2, nI_add, pk_mul, qn_sub, qn_ltT, qn_ltF, qn_leT, qn_leF, qn_eqT, qn_eqF, qn_m1T, qn_m1F, qn_m1F2, qn_m1lt, qn_m1lt2, qn_m1le, qn_m1le2, qn_and1, qn_and3, qn_and7, qn_and15, qn_and31, qn_and255, qn_and2047, qn_shl, qn_shr, qn_or, qn_div, qn_modlt, Nat.reduceMod, Nat.reduceAdd, Nat.reduceMul, Nat.reducePow, Nat.reduceDiv, Nat.reduceSub, ↓reduceIte, qn_us, qn_un, not_true_eq_false, not_false_eq_true, true_and, and_true, qn_nn, qn_addm, qn_ngT, qn_ngF, qn_ngE, qn_ngE2, qn_ngL, qn_ngM, Nat.add_sub_cancel, qL, qS, qM, qV, qQ, qZ0, qZ1, qE_l, qE_r, qW_some]

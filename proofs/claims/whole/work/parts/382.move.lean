/-! person, wed, tell, day, view: the people of both sides stay the same -/
theorem q_person {c w t d : Nat} {sn kn code : Int32} {sx mo fa pd man wom wd te tk td R_persons R_weddings R_tellings R_days R_viewed Rsx Rmo Rfa Rpd Rhu Rwi Rwd Rtp Rtc Rtd : Nat → Int32} (hp : qPL 0 c w t d sn sx mo fa pd man wom wd te tk td R_persons R_weddings R_tellings R_days R_viewed Rsx Rmo Rfa Rpd Rhu Rwi Rwd Rtp Rtc Rtd) (x : Int32) : ∃ r c' sx' mo' fa' pd' Rps' Rsx' Rmo' Rfa' Rpd', f_X11_person kn (nI c) (24, fa) (24, mo) (24, pd) (24, sx) x = some (r, nI 0, nI c', (24, fa'), (24, mo'), (24, pd'), (24, sx')) ∧ f_X12_person code (96, Rfa) (96, Rmo) (96, Rpd) (4, R_persons) (96, Rsx) x = some (r, nI 0, (96, Rfa'), (96, Rmo'), (96, Rpd'), (4, Rps'), (96, Rsx')) ∧ qPL 0 c' w t d sn sx' mo' fa' pd' man wom wd te tk td Rps' R_weddings R_tellings R_days R_viewed Rsx' Rmo' Rfa' Rpd' Rhu Rwi Rwd Rtp Rtc Rtd ∧ (∀ i, 24 ≤ i → Rmo' i = Rmo i ∧ Rfa' i = Rfa i ∧ Rpd' i = Rpd i ∧ Rsx' i = Rsx i) ∧ ∀ i, 1 ≤ i → Rps' i = R_persons i := by
  obtain ⟨h1, h2, h3, h4, h5, h6, h7, h8, h9, h10, h11, h12, h13⟩ := id hp
  have hfg : f_X2_forget kn = some (nI 0) := rfl
  have no : f_X11_person kn (nI c) (24, fa) (24, mo) (24, pd) (24, sx) x = some (mI, nI 0, nI c, (24, fa), (24, mo), (24, pd), (24, sx)) → f_X12_person code (96, Rfa) (96, Rmo) (96, Rpd) (4, R_persons) (96, Rsx) x = some (mI, nI 0, (96, Rfa), (96, Rmo), (96, Rpd), (4, R_persons), (96, Rsx)) → ∃ r c' sx' mo' fa' pd' Rps' Rsx' Rmo' Rfa' Rpd', f_X11_person kn (nI c) (24, fa) (24, mo) (24, pd) (24, sx) x = some (r, nI 0, nI c', (24, fa'), (24, mo'), (24, pd'), (24, sx')) ∧ f_X12_person code (96, Rfa) (96, Rmo) (96, Rpd) (4, R_persons) (96, Rsx) x = some (r, nI 0, (96, Rfa'), (96, Rmo'), (96, Rpd'), (4, Rps'), (96, Rsx')) ∧ qPL 0 c' w t d sn sx' mo' fa' pd' man wom wd te tk td Rps' R_weddings R_tellings R_days R_viewed Rsx' Rmo' Rfa' Rpd' Rhu Rwi Rwd Rtp Rtc Rtd ∧ (∀ i, 24 ≤ i → Rmo' i = Rmo i ∧ Rfa' i = Rfa i ∧ Rpd' i = Rpd i ∧ Rsx' i = Rsx i) ∧ ∀ i, 1 ≤ i → Rps' i = R_persons i := fun a b => ⟨mI, c, sx, mo, fa, pd, R_persons, Rsx, Rmo, Rfa, Rpd, a, b, hp, fun i _ => ⟨rfl, rfl, rfl, rfl⟩, fun i _ => rfl⟩
  rcases qn_inout x 2 with ⟨s, s1, s2, rfl⟩ | g
  · have is : f_X11_isSex (nI s) = some (nI 1) := X11_isSex_yes (by
      have : s = 0 ∨ s = 1 := by omega
      rcases this with rfl | rfl
      · exact Or.inl rfl
      · exact Or.inr rfl)
    have ir := q_in_T (x := s) (y := 0) (z := 1) (by omega) (by omega) (by decide)
    by_cases c24 : c = 24
    · subst c24
      refine no ?_ ?_
      · simp (disch := first | omega | assumption) only [f_X11_person, f_X4_addPerson, hfg, is, qn_lit, qn_ofNat, qn_neg1, qn_neg2, nI_add, pk_mul, qn_sub, qn_ltT, qn_ltF, qn_leT, qn_leF, qn_eqT, qn_eqF, qn_m1T, qn_m1F, qn_m1F2, qn_m1lt, qn_m1lt2, qn_m1le, qn_m1le2, qn_and1, qn_and3, qn_and7, qn_and15, qn_and31, qn_and255, qn_and2047, qn_shl, qn_shr, qn_or, qn_div, qn_modlt, Nat.reduceMod, Nat.reduceAdd, Nat.reduceMul, Nat.reducePow, Nat.reduceDiv, Nat.reduceSub, ↓reduceIte, qn_us, qn_un, not_true_eq_false, not_false_eq_true, true_and, and_true, qn_nn, qn_addm, qn_ngT, qn_ngF, qn_ngE, qn_ngE2, qn_ngL, qn_ngM, Nat.add_sub_cancel, qL, qS, qM, qV, qQ, qZ0, qZ1, qE_l, qE_r, qW_some]
      · simp (disch := first | omega | assumption) only [f_X12_person, h6, qn_lit, qn_ofNat, qn_neg1, qn_neg2, nI_add, pk_mul, qn_sub, qn_ltT, qn_ltF, qn_leT, qn_leF, qn_eqT, qn_eqF, qn_m1T, qn_m1F, qn_m1F2, qn_m1lt, qn_m1lt2, qn_m1le, qn_m1le2, qn_and1, qn_and3, qn_and7, qn_and15, qn_and31, qn_and255, qn_and2047, qn_shl, qn_shr, qn_or, qn_div, qn_modlt, Nat.reduceMod, Nat.reduceAdd, Nat.reduceMul, Nat.reducePow, Nat.reduceDiv, Nat.reduceSub, ↓reduceIte, qn_us, qn_un, not_true_eq_false, not_false_eq_true, true_and, and_true, qn_nn, qn_addm, qn_ngT, qn_ngF, qn_ngE, qn_ngE2, qn_ngL, qn_ngM, Nat.add_sub_cancel, qL, qS, qM, qV, qQ, qZ0, qZ1, qE_l, qE_r, qW_some]
    · refine ⟨nI c, c + 1, upd sx c (nI s), upd mo c mI, upd fa c mI, upd pd c mI, upd R_persons 0 (nI (c + 1)), upd Rsx c (nI s), upd Rmo c mI, upd Rfa c mI, upd Rpd c mI, ?_, ?_, ⟨by omega, h2, h3, h4, h5, by simp [upd], h7, h8, h9, h10, ?_, ?_, ?_⟩, ?_, ?_⟩
      · simp (disch := first | omega | assumption) only [f_X11_person, f_X4_addPerson, hfg, is, qn_lit, qn_ofNat, qn_neg1, qn_neg2, nI_add, pk_mul, qn_sub, qn_ltT, qn_ltF, qn_leT, qn_leF, qn_eqT, qn_eqF, qn_m1T, qn_m1F, qn_m1F2, qn_m1lt, qn_m1lt2, qn_m1le, qn_m1le2, qn_and1, qn_and3, qn_and7, qn_and15, qn_and31, qn_and255, qn_and2047, qn_shl, qn_shr, qn_or, qn_div, qn_modlt, Nat.reduceMod, Nat.reduceAdd, Nat.reduceMul, Nat.reducePow, Nat.reduceDiv, Nat.reduceSub, ↓reduceIte, qn_us, qn_un, not_true_eq_false, not_false_eq_true, true_and, and_true, qn_nn, qn_addm, qn_ngT, qn_ngF, qn_ngE, qn_ngE2, qn_ngL, qn_ngM, Nat.add_sub_cancel, qL, qS, qM, qV, qQ, qZ0, qZ1, qE_l, qE_r, qW_some, Nat.add_sub_cancel]
      · simp (disch := first | omega | assumption) only [f_X12_person, h6, ir, qn_lit, qn_ofNat, qn_neg1, qn_neg2, nI_add, pk_mul, qn_sub, qn_ltT, qn_ltF, qn_leT, qn_leF, qn_eqT, qn_eqF, qn_m1T, qn_m1F, qn_m1F2, qn_m1lt, qn_m1lt2, qn_m1le, qn_m1le2, qn_and1, qn_and3, qn_and7, qn_and15, qn_and31, qn_and255, qn_and2047, qn_shl, qn_shr, qn_or, qn_div, qn_modlt, Nat.reduceMod, Nat.reduceAdd, Nat.reduceMul, Nat.reducePow, Nat.reduceDiv, Nat.reduceSub, ↓reduceIte, qn_us, qn_un, not_true_eq_false, not_false_eq_true, true_and, and_true, qn_nn, qn_addm, qn_ngT, qn_ngF, qn_ngE, qn_ngE2, qn_ngL, qn_ngM, Nat.add_sub_cancel, qL, qS, qM, qV, qQ, qZ0, qZ1, qE_l, qE_r, qW_some]
      · intro i hi
        unfold upd
        simp only [Nat.mul_zero, Nat.zero_add]
        by_cases e : i = c
        · subst e
          simp only [if_true]
          refine ⟨?_, Or.inl trivial, Or.inl trivial, Or.inl trivial, trivial, trivial, trivial, trivial⟩
          have : s = 0 ∨ s = 1 := by omega
          rcases this with rfl | rfl
          · exact Or.inl rfl
          · exact Or.inr rfl
        · obtain ⟨s1, s2, s3, s4, s5, s6, s7, s8⟩ := h11 i (by omega)
          simp only [Nat.mul_zero, Nat.zero_add] at s5 s6 s7 s8
          simp only [if_neg e]
          refine ⟨s1, ?_, ?_, s4, s5, s6, s7, s8⟩
          · rcases s2 with q | ⟨m, m1, m2, m3⟩
            · exact Or.inl q
            · exact Or.inr ⟨m, m1, m2, by rw [if_neg (by omega)]; exact m3⟩
          · rcases s3 with q | ⟨m, m1, m2, m3⟩
            · exact Or.inl q
            · exact Or.inr ⟨m, m1, m2, by rw [if_neg (by omega)]; exact m3⟩
      · intro k hk
        obtain ⟨⟨a, a1, a2, a3⟩, ⟨b, b1, b2, b3⟩, k3⟩ := h12 k hk
        unfold upd
        exact ⟨⟨a, by omega, a2, by rw [if_neg (by omega)]; exact a3⟩, ⟨b, by omega, b2, by rw [if_neg (by omega)]; exact b3⟩, k3⟩
      · intro k hk
        obtain ⟨⟨a, a1, a2⟩, k3⟩ := h13 k hk
        exact ⟨⟨a, by omega, a2⟩, k3⟩
      · intro i hi
        unfold upd
        have : ¬ i = c := by omega
        simp only [if_neg this, and_self]
      · intro i hi
        unfold upd
        rw [if_neg (by omega)]
  · have is : f_X11_isSex x = some (nI 0) := X11_isSex_no (by
      rintro rfl
      have := q_has_in (c := 2) (j := 0) (by decide) (by decide)
      rw [show nI 0 = (0 : Int32) from rfl, q_has_out (by decide) g] at this
      exact absurd (Option.some.inj this) (by decide)) (by
      rintro rfl
      have := q_has_in (c := 2) (j := 1) (by decide) (by decide)
      rw [show nI 1 = (1 : Int32) from rfl, q_has_out (by decide) g] at this
      exact absurd (Option.some.inj this) (by decide))
    have ir := q_in1_out (c := 2) (by decide) (by decide) g
    simp only [Nat.reduceSub] at ir
    refine no ?_ ?_
    · simp (disch := first | omega | assumption) only [f_X11_person, hfg, is, qn_lit, qn_ofNat, qn_neg1, qn_neg2, nI_add, pk_mul, qn_sub, qn_ltT, qn_ltF, qn_leT, qn_leF, qn_eqT, qn_eqF, qn_m1T, qn_m1F, qn_m1F2, qn_m1lt, qn_m1lt2, qn_m1le, qn_m1le2, qn_and1, qn_and3, qn_and7, qn_and15, qn_and31, qn_and255, qn_and2047, qn_shl, qn_shr, qn_or, qn_div, qn_modlt, Nat.reduceMod, Nat.reduceAdd, Nat.reduceMul, Nat.reducePow, Nat.reduceDiv, Nat.reduceSub, ↓reduceIte, qn_us, qn_un, not_true_eq_false, not_false_eq_true, true_and, and_true, qn_nn, qn_addm, qn_ngT, qn_ngF, qn_ngE, qn_ngE2, qn_ngL, qn_ngM, Nat.add_sub_cancel, qL, qS, qM, qV, qQ, qZ0, qZ1, qE_l, qE_r, qW_some]
    · by_cases c24 : c = 24
      · subst c24
        simp (disch := first | omega | assumption) only [f_X12_person, h6, qn_lit, qn_ofNat, qn_neg1, qn_neg2, nI_add, pk_mul, qn_sub, qn_ltT, qn_ltF, qn_leT, qn_leF, qn_eqT, qn_eqF, qn_m1T, qn_m1F, qn_m1F2, qn_m1lt, qn_m1lt2, qn_m1le, qn_m1le2, qn_and1, qn_and3, qn_and7, qn_and15, qn_and31, qn_and255, qn_and2047, qn_shl, qn_shr, qn_or, qn_div, qn_modlt, Nat.reduceMod, Nat.reduceAdd, Nat.reduceMul, Nat.reducePow, Nat.reduceDiv, Nat.reduceSub, ↓reduceIte, qn_us, qn_un, not_true_eq_false, not_false_eq_true, true_and, and_true, qn_nn, qn_addm, qn_ngT, qn_ngF, qn_ngE, qn_ngE2, qn_ngL, qn_ngM, Nat.add_sub_cancel, qL, qS, qM, qV, qQ, qZ0, qZ1, qE_l, qE_r, qW_some]
      · simp (disch := first | omega | assumption) only [f_X12_person, h6, ir, qn_lit, qn_ofNat, qn_neg1, qn_neg2, nI_add, pk_mul, qn_sub, qn_ltT, qn_ltF, qn_leT, qn_leF, qn_eqT, qn_eqF, qn_m1T, qn_m1F, qn_m1F2, qn_m1lt, qn_m1lt2, qn_m1le, qn_m1le2, qn_and1, qn_and3, qn_and7, qn_and15, qn_and31, qn_and255, qn_and2047, qn_shl, qn_shr, qn_or, qn_div, qn_modlt, Nat.reduceMod, Nat.reduceAdd, Nat.reduceMul, Nat.reducePow, Nat.reduceDiv, Nat.reduceSub, ↓reduceIte, qn_us, qn_un, not_true_eq_false, not_false_eq_true, true_and, and_true, qn_nn, qn_addm, qn_ngT, qn_ngF, qn_ngE, qn_ngE2, qn_ngL, qn_ngM, Nat.add_sub_cancel, qL, qS, qM, qV, qQ, qZ0, qZ1, qE_l, qE_r, qW_some]

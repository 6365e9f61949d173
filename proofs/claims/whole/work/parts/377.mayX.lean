/-! may in the class, and of both sides -/
theorem q_wifeOf {n x : Nat} {W C V U : Nat → Nat} {wi ch hu fa : Nat → Int32} (hw : qXw n W C V U wi ch hu fa) (hx : x < n) : f_X10_wifeOf (nI n) (8, wi) (nI x) = some (nI (W x)) := by
  have hn := hw.1.1
  have e := q_entry (f := wi) (show x < 8 by omega) (by decide)
  rw [qR_0 hw.2.1 hx] at e
  simp (disch := first | omega | assumption) only [f_X10_wifeOf, f_X10_has, e, qn_lit, qn_ofNat, qn_neg1, qn_neg2, nI_add, pk_mul, qn_sub, qn_ltT, qn_ltF, qn_leT, qn_leF, qn_eqT, qn_eqF, qn_m1T, qn_m1F, qn_m1F2, qn_m1lt, qn_m1lt2, qn_m1le, qn_m1le2, qn_and1, qn_and3, qn_and7, qn_and15, qn_and31, qn_and255, qn_and2047, qn_shl, qn_shr, qn_or, qn_div, qn_modlt, Nat.reduceMod, Nat.reduceAdd, Nat.reduceMul, Nat.reducePow, Nat.reduceDiv, Nat.reduceSub, ↓reduceIte, qn_us, qn_un, not_true_eq_false, not_false_eq_true, true_and, and_true, qn_nn, qn_addm, qn_ngT, qn_ngF, qn_ngE, qn_ngE2, qn_ngL, qn_ngM, Nat.add_sub_cancel, qL, qS, qM, qV, qQ, qZ0, qZ1, qE_l, qE_r, qW_some]
theorem q_mayWed {c n man woman ma mb : Nat} {W C V U F : Nat → Nat} {K : Nat → Nat → Nat} {wi ch hu fa kb le agr : Nat → Int32} (hw : qXw n W C V U wi ch hu fa) (hc : c ≤ 24) (hK : qKR c n F K kb le) (h1 : man < c) (h2 : woman < c) (ha : agr (F man) = nI ma) (hb : agr (F woman) = nI mb) (ha2 : ma < 256) (hb2 : mb < 256) (han : ∀ r, r < 8 → qbt ma r = 1 → r < n) (hbn : ∀ r, r < 8 → qbt mb r = 1 → r < n) : ∃ r, f_X2_mayWed (nI n) (8, wi) (24, agr) (192, kb) (24, le) (nI man) (nI woman) = some r ∧ (((ma = 0 ∨ mb = 0) ∧ r = mI) ∨ (¬ (ma = 0 ∨ mb = 0) ∧ ((r = nI 2 ∧ ∀ a s, a < n → s < n → qbt ma a = 1 → qbt mb s = 1 → (F man = F woman → a = s) → W (K man a) = K woman s) ∨ (¬ (∀ a s, a < n → s < n → qbt ma a = 1 → qbt mb s = 1 → (F man = F woman → a = s) → W (K man a) = K woman s) ∧ ((r = nI 1 ∧ ∃ a s, a < n ∧ s < n ∧ qbt ma a = 1 ∧ qbt mb s = 1 ∧ (F man = F woman → a = s) ∧ W (K man a) = K woman s) ∨ (r = nI 0 ∧ ¬ ∃ a s, a < n ∧ s < n ∧ qbt ma a = 1 ∧ qbt mb s = 1 ∧ (F man = F woman → a = s) ∧ W (K man a) = K woman s)))))) := by
  have hn := hw.1.1
  have lo1 := q_leastOf hK hc h1
  have lo2 := q_leastOf hK hc h2
  have fc1 := (hK.1 man h1).2.1
  have fc2 := (hK.1 woman h2).2.1
  have e1 := q_entry (f := agr) (show F man < 24 by omega) (by decide)
  have e2 := q_entry (f := agr) (show F woman < 24 by omega) (by decide)
  rw [ha] at e1
  rw [hb] at e2
  by_cases m0 : ma = 0
  · subst m0
    exact ⟨mI, by simp (disch := first | omega | assumption) only [f_X2_mayWed, lo1, lo2, e1, e2, qn_lit, qn_ofNat, qn_neg1, qn_neg2, nI_add, pk_mul, qn_sub, qn_ltT, qn_ltF, qn_leT, qn_leF, qn_eqT, qn_eqF, qn_m1T, qn_m1F, qn_m1F2, qn_m1lt, qn_m1lt2, qn_m1le, qn_m1le2, qn_and1, qn_and3, qn_and7, qn_and15, qn_and31, qn_and255, qn_and2047, qn_shl, qn_shr, qn_or, qn_div, qn_modlt, Nat.reduceMod, Nat.reduceAdd, Nat.reduceMul, Nat.reducePow, Nat.reduceDiv, Nat.reduceSub, ↓reduceIte, qn_us, qn_un, not_true_eq_false, not_false_eq_true, true_and, and_true, qn_nn, qn_addm, qn_ngT, qn_ngF, qn_ngE, qn_ngE2, qn_ngL, qn_ngM, Nat.add_sub_cancel, qL, qS, qM, qV, qQ, qZ0, qZ1, qE_l, qE_r, qW_some], Or.inl ⟨Or.inl rfl, rfl⟩⟩
  by_cases b0 : mb = 0
  · subst b0
    exact ⟨mI, by simp (disch := first | omega | assumption) only [f_X2_mayWed, lo1, lo2, e1, e2, qn_lit, qn_ofNat, qn_neg1, qn_neg2, nI_add, pk_mul, qn_sub, qn_ltT, qn_ltF, qn_leT, qn_leF, qn_eqT, qn_eqF, qn_m1T, qn_m1F, qn_m1F2, qn_m1lt, qn_m1lt2, qn_m1le, qn_m1le2, qn_and1, qn_and3, qn_and7, qn_and15, qn_and31, qn_and255, qn_and2047, qn_shl, qn_shr, qn_or, qn_div, qn_modlt, Nat.reduceMod, Nat.reduceAdd, Nat.reduceMul, Nat.reducePow, Nat.reduceDiv, Nat.reduceSub, ↓reduceIte, qn_us, qn_un, not_true_eq_false, not_false_eq_true, true_and, and_true, qn_nn, qn_addm, qn_ngT, qn_ngF, qn_ngE, qn_ngE2, qn_ngL, qn_ngM, Nat.add_sub_cancel, qL, qS, qM, qV, qQ, qZ0, qZ1, qE_l, qE_r, qW_some], Or.inl ⟨Or.inr rfl, rfl⟩⟩
  have o00 : nI 0 ||| nI 0 = nI 0 := by decide
  have o01 : nI 0 ||| nI 1 = nI 1 := by decide
  have o10 : nI 1 ||| nI 0 = nI 1 := by decide
  have o11 : nI 1 ||| nI 1 = nI 1 := by decide
  have a00 : nI 0 &&& nI 0 = nI 0 := by decide
  have a01 : nI 0 &&& nI 1 = nI 0 := by decide
  have a10 : nI 1 &&& nI 0 = nI 0 := by decide
  have a11 : nI 1 &&& nI 1 = nI 1 := by decide
  -- tg: whether both are of one family
  have main : ∀ tg, tg < 2 → (tg = 1 ↔ F man = F woman) → qW (f_X2_mayWed_l69 (nI n) (8, wi) (192, kb) (nI man) (nI woman) (nI ma) (nI mb) (nI tg) (nI 0) (nI 1) (nI 0)) (fun e => ∃ so al, e = (nI so, nI al) ∧ so < 2 ∧ al < 2 ∧ (so = 1 ↔ ∃ a s, a < n ∧ s < n ∧ qbt ma a = 1 ∧ qbt mb s = 1 ∧ (F man = F woman → a = s) ∧ W (K man a) = K woman s) ∧ (al = 1 ↔ ∀ a s, a < n → s < n → qbt ma a = 1 → qbt mb s = 1 → (F man = F woman → a = s) → W (K man a) = K woman s)) := by
    intro tg htg htg2
    have inner : ∀ r, r < n → ∀ so al, so < 2 → al < 2 → (so = 1 ↔ ∃ a s, a < r ∧ s < n ∧ qbt ma a = 1 ∧ qbt mb s = 1 ∧ (F man = F woman → a = s) ∧ W (K man a) = K woman s) → (al = 1 ↔ ∀ a s, a < r → s < n → qbt ma a = 1 → qbt mb s = 1 → (F man = F woman → a = s) → W (K man a) = K woman s) → qW (f_X2_mayWed_l81 (nI n) (8, wi) (192, kb) (nI man) (nI woman) (nI ma) (nI mb) (nI tg) (nI r) (nI so) (nI al) (nI 0)) (fun e => ∃ so' al', e = (nI so', nI al') ∧ so' < 2 ∧ al' < 2 ∧ (so' = 1 ↔ ∃ a s, a < r + 1 ∧ s < n ∧ qbt ma a = 1 ∧ qbt mb s = 1 ∧ (F man = F woman → a = s) ∧ W (K man a) = K woman s) ∧ (al' = 1 ↔ ∀ a s, a < r + 1 → s < n → qbt ma a = 1 → qbt mb s = 1 → (F man = F woman → a = s) → W (K man a) = K woman s)) := by
      intro r hr so al hso hal hs1 hs2
      unfold f_X2_mayWed_l81
      refine qfor 0 n (fun s z => ∃ so' al', z = (nI so', nI al', nI s) ∧ so' < 2 ∧ al' < 2 ∧ (so' = 1 ↔ ∃ a s', (a < r ∧ s' < n ∨ a = r ∧ s' < s) ∧ qbt ma a = 1 ∧ qbt mb s' = 1 ∧ (F man = F woman → a = s') ∧ W (K man a) = K woman s') ∧ (al' = 1 ↔ ∀ a s', (a < r ∧ s' < n ∨ a = r ∧ s' < s) → qbt ma a = 1 → qbt mb s' = 1 → (F man = F woman → a = s') → W (K man a) = K woman s')) ⟨so, al, rfl, hso, hal, hs1.trans ⟨fun ⟨a, s, z1, z2, z3⟩ => ⟨a, s, Or.inl ⟨z1, z2⟩, z3⟩, fun ⟨a, s, z1, z2⟩ => ?_⟩, hs2.trans ⟨fun z a s hz => ?_, fun z a s z1 z2 => z a s (Or.inl ⟨z1, z2⟩)⟩⟩ (by omega) (by omega) ?_ ?_
      · rcases z1 with z1 | z1
        · exact ⟨a, s, z1.1, z1.2, z2⟩
        · omega
      · rcases hz with hz | hz
        · exact z a s hz.1 hz.2
        · omega
      · rintro s z - hs ⟨so', al', rfl, g1, g2, g3, g4⟩
        have br : ma / 2 ^ r % 2 = qbt ma r := rfl
        have bs : mb / 2 ^ s % 2 = qbt mb s := rfl
        have qr2 : qbt ma r < 2 := Nat.mod_lt _ (by decide)
        have qs2 : qbt mb s < 2 := Nat.mod_lt _ (by decide)
        -- nothing new
        have skip : ¬ (qbt ma r = 1 ∧ qbt mb s = 1 ∧ (F man = F woman → r = s)) → ∃ so'' al'', (nI so', nI al', nI (s + 1)) = (nI so'', nI al'', nI (s + 1)) ∧ so'' < 2 ∧ al'' < 2 ∧ (so'' = 1 ↔ ∃ a s', (a < r ∧ s' < n ∨ a = r ∧ s' < s + 1) ∧ qbt ma a = 1 ∧ qbt mb s' = 1 ∧ (F man = F woman → a = s') ∧ W (K man a) = K woman s') ∧ (al'' = 1 ↔ ∀ a s', (a < r ∧ s' < n ∨ a = r ∧ s' < s + 1) → qbt ma a = 1 → qbt mb s' = 1 → (F man = F woman → a = s') → W (K man a) = K woman s') := by
          intro q
          refine ⟨so', al', rfl, g1, g2, g3.trans ⟨fun ⟨a, s', z1, z2⟩ => ⟨a, s', by omega, z2⟩, fun ⟨a, s', z1, z2, z3, z4, z5⟩ => ?_⟩, g4.trans ⟨fun z a s' hz z2 z3 z4 => ?_, fun z a s' hz => z a s' (by omega)⟩⟩
          · refine ⟨a, s', ?_, z2, z3, z4, z5⟩
            rcases z1 with z1 | ⟨rfl, z1⟩
            · exact Or.inl z1
            · have : s' ≠ s := fun e => q (by rw [← e]; exact ⟨z2, z3, z4⟩)
              exact Or.inr ⟨rfl, by omega⟩
          · refine z a s' ?_ z2 z3 z4
            rcases hz with z1 | ⟨rfl, z1⟩
            · exact Or.inl z1
            · have : s' ≠ s := fun e => q (by rw [← e]; exact ⟨z2, z3, z4⟩)
              exact Or.inr ⟨rfl, by omega⟩
        by_cases q1 : qbt ma r = 1
        · rw [q1] at br
          by_cases q2 : qbt mb s = 1
          · rw [q2] at bs
            have ko1 := q_kindOf (x := man) (r := r) (kb := kb) (by omega) (by omega)
            have ko2 := q_kindOf (x := woman) (r := s) (kb := kb) (by omega) (by omega)
            rw [(hK.2 man r h1 hr).1] at ko1
            rw [(hK.2 woman s h2 hs).1] at ko2
            have km := (hK.2 man r h1 hr).2
            have kw := (hK.2 woman s h2 hs).2
            have wo := q_wifeOf hw km
            have wb := hw.1.2.1.1 _ km
            have hit : (F man = F woman → r = s) → ∀ so'' al'', so'' < 2 → al'' < 2 → (so'' = 1 ↔ so' = 1 ∨ W (K man r) = K woman s) → (al'' = 1 ↔ al' = 1 ∧ W (K man r) = K woman s) → ∃ so3 al3, (nI so'', nI al'', nI (s + 1)) = (nI so3, nI al3, nI (s + 1)) ∧ so3 < 2 ∧ al3 < 2 ∧ (so3 = 1 ↔ ∃ a s', (a < r ∧ s' < n ∨ a = r ∧ s' < s + 1) ∧ qbt ma a = 1 ∧ qbt mb s' = 1 ∧ (F man = F woman → a = s') ∧ W (K man a) = K woman s') ∧ (al3 = 1 ↔ ∀ a s', (a < r ∧ s' < n ∨ a = r ∧ s' < s + 1) → qbt ma a = 1 → qbt mb s' = 1 → (F man = F woman → a = s') → W (K man a) = K woman s') := by
              intro htt so'' al'' s1 s2 s3 s4
              refine ⟨so'', al'', rfl, s1, s2, s3.trans ⟨?_, ?_⟩, s4.trans ⟨?_, ?_⟩⟩
              · rintro (z | z)
                · obtain ⟨a, s', z1, z2⟩ := g3.mp z
                  exact ⟨a, s', by omega, z2⟩
                · exact ⟨r, s, Or.inr ⟨rfl, by omega⟩, q1, q2, htt, z⟩
              · rintro ⟨a, s', z1, z2, z3, z4, z5⟩
                by_cases e : a = r ∧ s' = s
                · obtain ⟨rfl, rfl⟩ := e
                  exact Or.inr z5
                · exact Or.inl (g3.mpr ⟨a, s', by omega, z2, z3, z4, z5⟩)
              · rintro ⟨z1, z2⟩ a s' hz y2 y3 y4
                by_cases e : a = r ∧ s' = s
                · obtain ⟨rfl, rfl⟩ := e
                  exact z2
                · exact g4.mp z1 a s' (by omega) y2 y3 y4
              · intro z
                exact ⟨g4.mpr (fun a s' hz => z a s' (by omega)), z r s (Or.inr ⟨rfl, by omega⟩) q1 q2 htt⟩
            have so2 : so' = 0 ∨ so' = 1 := by omega
            have al2 : al' = 0 ∨ al' = 1 := by omega
            have tg2 : tg = 0 ∨ tg = 1 := by omega
            have close : ∀ right, right < 2 → (right = 1 ↔ W (K man r) = K woman s) → (F man = F woman → r = s) → ∃ so3 al3, (nI so' ||| nI right, nI al' &&& nI right, nI (s + 1)) = (nI so3, nI al3, nI (s + 1)) ∧ so3 < 2 ∧ al3 < 2 ∧ (so3 = 1 ↔ ∃ a s', (a < r ∧ s' < n ∨ a = r ∧ s' < s + 1) ∧ qbt ma a = 1 ∧ qbt mb s' = 1 ∧ (F man = F woman → a = s') ∧ W (K man a) = K woman s') ∧ (al3 = 1 ↔ ∀ a s', (a < r ∧ s' < n ∨ a = r ∧ s' < s + 1) → qbt ma a = 1 → qbt mb s' = 1 → (F man = F woman → a = s') → W (K man a) = K woman s') := by
              intro right hr2 hri htt
              have : right = 0 ∨ right = 1 := by omega
              rcases this with rfl | rfl
              · have hne : ¬ W (K man r) = K woman s := fun z => absurd (hri.mpr z) (by decide)
                rcases so2 with rfl | rfl <;> rcases al2 with rfl | rfl
                · rw [o00, a00]; exact hit htt 0 0 (by decide) (by decide) ⟨fun z => absurd z (by decide), fun z => by rcases z with z | z; exact z; exact absurd z hne⟩ ⟨fun z => absurd z (by decide), fun z => absurd z.2 hne⟩
                · rw [o00, a10]; exact hit htt 0 0 (by decide) (by decide) ⟨fun z => absurd z (by decide), fun z => by rcases z with z | z; exact z; exact absurd z hne⟩ ⟨fun z => absurd z (by decide), fun z => absurd z.2 hne⟩
                · rw [o10, a00]; exact hit htt 1 0 (by decide) (by decide) ⟨fun z => Or.inl rfl, fun z => rfl⟩ ⟨fun z => absurd z (by decide), fun z => absurd z.2 hne⟩
                · rw [o10, a10]; exact hit htt 1 0 (by decide) (by decide) ⟨fun z => Or.inl rfl, fun z => rfl⟩ ⟨fun z => absurd z (by decide), fun z => absurd z.2 hne⟩
              · have hy := hri.mp rfl
                rcases so2 with rfl | rfl <;> rcases al2 with rfl | rfl
                · rw [o01, a01]; exact hit htt 1 0 (by decide) (by decide) ⟨fun z => Or.inr hy, fun z => rfl⟩ ⟨fun z => absurd z (by decide), fun z => z.1⟩
                · rw [o01, a11]; exact hit htt 1 1 (by decide) (by decide) ⟨fun z => Or.inr hy, fun z => rfl⟩ ⟨fun z => ⟨rfl, hy⟩, fun z => rfl⟩
                · rw [o11, a01]; exact hit htt 1 0 (by decide) (by decide) ⟨fun z => Or.inr hy, fun z => rfl⟩ ⟨fun z => absurd z (by decide), fun z => z.1⟩
                · rw [o11, a11]; exact hit htt 1 1 (by decide) (by decide) ⟨fun z => Or.inr hy, fun z => rfl⟩ ⟨fun z => ⟨rfl, hy⟩, fun z => rfl⟩
            have go : (F man = F woman → r = s) → qW (f_X2_mayWed_j125 (nI n) (8, wi) (192, kb) (nI man) (nI woman) (nI ma) (nI mb) (nI tg) (nI so') (nI al') (nI r) (nI s)) (Sum.elim (fun z => ∃ so' al', z = (nI so', nI al', nI (s + 1)) ∧ so' < 2 ∧ al' < 2 ∧ (so' = 1 ↔ ∃ a s', (a < r ∧ s' < n ∨ a = r ∧ s' < s + 1) ∧ qbt ma a = 1 ∧ qbt mb s' = 1 ∧ (F man = F woman → a = s') ∧ W (K man a) = K woman s') ∧ (al' = 1 ↔ ∀ a s', (a < r ∧ s' < n ∨ a = r ∧ s' < s + 1) → qbt ma a = 1 → qbt mb s' = 1 → (F man = F woman → a = s') → W (K man a) = K woman s')) (fun e => ∃ so' al', e = (nI so', nI al') ∧ so' < 2 ∧ al' < 2 ∧ (so' = 1 ↔ ∃ a s, a < r + 1 ∧ s < n ∧ qbt ma a = 1 ∧ qbt mb s = 1 ∧ (F man = F woman → a = s) ∧ W (K man a) = K woman s) ∧ (al' = 1 ↔ ∀ a s, a < r + 1 → s < n → qbt ma a = 1 → qbt mb s = 1 → (F man = F woman → a = s) → W (K man a) = K woman s))) := by
              intro htt
              by_cases qe : W (K man r) = K woman s
              · have cq : nI (W (K man r)) = nI (K woman s) := congrArg nI qe
                simp only [f_X2_mayWed_j125, f_X2_mayWed_j151, f_X2_mayWed_j167, ko1, wo, ko2, qM, qV, qn_lit, nI_add]
                rw [if_pos cq]
                exact ⟨_, rfl, close 1 (by decide) ⟨fun _ => qe, fun _ => rfl⟩ htt⟩
              · have cq : ¬ nI (W (K man r)) = nI (K woman s) := fun z => qe ((nI_eq (by omega) (by omega)).mp z)
                simp only [f_X2_mayWed_j125, f_X2_mayWed_j151, f_X2_mayWed_j167, ko1, wo, ko2, qM, qV, qn_lit, nI_add]
                rw [if_neg cq]
                exact ⟨_, rfl, close 0 (by decide) ⟨fun z => absurd z (by decide), fun z => absurd z qe⟩ htt⟩
            rcases tg2 with rfl | rfl
            · have hne : ¬ F man = F woman := fun z => absurd (htg2.mpr z) (by decide)
              simp (disch := first | omega | assumption) only [f_X2_mayWed_b81, qn_lit, qn_ofNat, qn_neg1, qn_neg2, nI_add, pk_mul, qn_sub, qn_ltT, qn_ltF, qn_leT, qn_leF, qn_eqT, qn_eqF, qn_m1T, qn_m1F, qn_m1F2, qn_m1lt, qn_m1lt2, qn_m1le, qn_m1le2, qn_and1, qn_and3, qn_and7, qn_and15, qn_and31, qn_and255, qn_and2047, qn_shl, qn_shr, qn_or, qn_div, qn_modlt, Nat.reduceMod, Nat.reduceAdd, Nat.reduceMul, Nat.reducePow, Nat.reduceDiv, Nat.reduceSub, ↓reduceIte, qn_us, qn_un, not_true_eq_false, not_false_eq_true, true_and, and_true, qn_nn, qn_addm, qn_ngT, qn_ngF, qn_ngE, qn_ngE2, qn_ngL, qn_ngM, Nat.add_sub_cancel, qL, qS, qM, qV, qQ, qZ0, qZ1, qE_l, qE_r, qW_some, br, bs]
              exact go (fun z => absurd z hne)
            · by_cases qe : r = s
              · simp (disch := first | omega | assumption) only [f_X2_mayWed_b81, qn_lit, qn_ofNat, qn_neg1, qn_neg2, nI_add, pk_mul, qn_sub, qn_ltT, qn_ltF, qn_leT, qn_leF, qn_eqT, qn_eqF, qn_m1T, qn_m1F, qn_m1F2, qn_m1lt, qn_m1lt2, qn_m1le, qn_m1le2, qn_and1, qn_and3, qn_and7, qn_and15, qn_and31, qn_and255, qn_and2047, qn_shl, qn_shr, qn_or, qn_div, qn_modlt, Nat.reduceMod, Nat.reduceAdd, Nat.reduceMul, Nat.reducePow, Nat.reduceDiv, Nat.reduceSub, ↓reduceIte, qn_us, qn_un, not_true_eq_false, not_false_eq_true, true_and, and_true, qn_nn, qn_addm, qn_ngT, qn_ngF, qn_ngE, qn_ngE2, qn_ngL, qn_ngM, Nat.add_sub_cancel, qL, qS, qM, qV, qQ, qZ0, qZ1, qE_l, qE_r, qW_some, br, bs]
                exact go (fun _ => qe)
              · simp (disch := first | omega | assumption) only [f_X2_mayWed_b81, f_X2_mayWed_j167, qn_lit, qn_ofNat, qn_neg1, qn_neg2, nI_add, pk_mul, qn_sub, qn_ltT, qn_ltF, qn_leT, qn_leF, qn_eqT, qn_eqF, qn_m1T, qn_m1F, qn_m1F2, qn_m1lt, qn_m1lt2, qn_m1le, qn_m1le2, qn_and1, qn_and3, qn_and7, qn_and15, qn_and31, qn_and255, qn_and2047, qn_shl, qn_shr, qn_or, qn_div, qn_modlt, Nat.reduceMod, Nat.reduceAdd, Nat.reduceMul, Nat.reducePow, Nat.reduceDiv, Nat.reduceSub, ↓reduceIte, qn_us, qn_un, not_true_eq_false, not_false_eq_true, true_and, and_true, qn_nn, qn_addm, qn_ngT, qn_ngF, qn_ngE, qn_ngE2, qn_ngL, qn_ngM, Nat.add_sub_cancel, qL, qS, qM, qV, qQ, qZ0, qZ1, qE_l, qE_r, qW_some, br, bs]
                exact skip (fun z => qe (z.2.2 (htg2.mp rfl)))
          · have z0 : qbt mb s = 0 := by omega
            rw [z0] at bs
            simp (disch := first | omega | assumption) only [f_X2_mayWed_b81, f_X2_mayWed_j167, qn_lit, qn_ofNat, qn_neg1, qn_neg2, nI_add, pk_mul, qn_sub, qn_ltT, qn_ltF, qn_leT, qn_leF, qn_eqT, qn_eqF, qn_m1T, qn_m1F, qn_m1F2, qn_m1lt, qn_m1lt2, qn_m1le, qn_m1le2, qn_and1, qn_and3, qn_and7, qn_and15, qn_and31, qn_and255, qn_and2047, qn_shl, qn_shr, qn_or, qn_div, qn_modlt, Nat.reduceMod, Nat.reduceAdd, Nat.reduceMul, Nat.reducePow, Nat.reduceDiv, Nat.reduceSub, ↓reduceIte, qn_us, qn_un, not_true_eq_false, not_false_eq_true, true_and, and_true, qn_nn, qn_addm, qn_ngT, qn_ngF, qn_ngE, qn_ngE2, qn_ngL, qn_ngM, Nat.add_sub_cancel, qL, qS, qM, qV, qQ, qZ0, qZ1, qE_l, qE_r, qW_some, br, bs]
            exact skip (fun z => q2 z.2.1)
        · have z0 : qbt ma r = 0 := by omega
          rw [z0] at br
          simp (disch := first | omega | assumption) only [f_X2_mayWed_b81, f_X2_mayWed_j167, qn_lit, qn_ofNat, qn_neg1, qn_neg2, nI_add, pk_mul, qn_sub, qn_ltT, qn_ltF, qn_leT, qn_leF, qn_eqT, qn_eqF, qn_m1T, qn_m1F, qn_m1F2, qn_m1lt, qn_m1lt2, qn_m1le, qn_m1le2, qn_and1, qn_and3, qn_and7, qn_and15, qn_and31, qn_and255, qn_and2047, qn_shl, qn_shr, qn_or, qn_div, qn_modlt, Nat.reduceMod, Nat.reduceAdd, Nat.reduceMul, Nat.reducePow, Nat.reduceDiv, Nat.reduceSub, ↓reduceIte, qn_us, qn_un, not_true_eq_false, not_false_eq_true, true_and, and_true, qn_nn, qn_addm, qn_ngT, qn_ngF, qn_ngE, qn_ngE2, qn_ngL, qn_ngM, Nat.add_sub_cancel, qL, qS, qM, qV, qQ, qZ0, qZ1, qE_l, qE_r, qW_some, br]
          exact skip (fun z => q1 z.1)
      · rintro z ⟨so', al', rfl, g1, g2, g3, g4⟩
        simp (disch := first | omega | assumption) only [f_X2_mayWed_b81, qn_lit, qn_ofNat, qn_neg1, qn_neg2, nI_add, pk_mul, qn_sub, qn_ltT, qn_ltF, qn_leT, qn_leF, qn_eqT, qn_eqF, qn_m1T, qn_m1F, qn_m1F2, qn_m1lt, qn_m1lt2, qn_m1le, qn_m1le2, qn_and1, qn_and3, qn_and7, qn_and15, qn_and31, qn_and255, qn_and2047, qn_shl, qn_shr, qn_or, qn_div, qn_modlt, Nat.reduceMod, Nat.reduceAdd, Nat.reduceMul, Nat.reducePow, Nat.reduceDiv, Nat.reduceSub, ↓reduceIte, qn_us, qn_un, not_true_eq_false, not_false_eq_true, true_and, and_true, qn_nn, qn_addm, qn_ngT, qn_ngF, qn_ngE, qn_ngE2, qn_ngL, qn_ngM, Nat.add_sub_cancel, qL, qS, qM, qV, qQ, qZ0, qZ1, qE_l, qE_r, qW_some]
        refine ⟨so', al', rfl, g1, g2, g3.trans ⟨fun ⟨a, s', z1, z2⟩ => ⟨a, s', by omega, by omega, z2⟩, fun ⟨a, s', z1, z2, z3⟩ => ⟨a, s', by omega, z3⟩⟩, g4.trans ⟨fun z a s' z1 z2 => z a s' (by omega), fun z a s' hz => z a s' (by omega) (by omega)⟩⟩
    unfold f_X2_mayWed_l69
    refine qfor 0 n (fun r z => ∃ so al, z = (nI so, nI al, nI r) ∧ so < 2 ∧ al < 2 ∧ (so = 1 ↔ ∃ a s, a < r ∧ s < n ∧ qbt ma a = 1 ∧ qbt mb s = 1 ∧ (F man = F woman → a = s) ∧ W (K man a) = K woman s) ∧ (al = 1 ↔ ∀ a s, a < r → s < n → qbt ma a = 1 → qbt mb s = 1 → (F man = F woman → a = s) → W (K man a) = K woman s)) ⟨0, 1, rfl, by decide, by decide, ⟨fun z => absurd z (by decide), fun ⟨a, s, z, _⟩ => absurd z (by omega)⟩, ⟨fun _ a s z => absurd z (by omega), fun _ => rfl⟩⟩ (by omega) (by omega) ?_ ?_
    · rintro r z - hr ⟨so, al, rfl, g1, g2, g3, g4⟩
      obtain ⟨e, k1, so', al', rfl, k2, k3, k4, k5⟩ := inner r hr so al g1 g2 g3 g4
      simp (disch := first | omega | assumption) only [f_X2_mayWed_b69, k1, qn_lit, qn_ofNat, qn_neg1, qn_neg2, nI_add, pk_mul, qn_sub, qn_ltT, qn_ltF, qn_leT, qn_leF, qn_eqT, qn_eqF, qn_m1T, qn_m1F, qn_m1F2, qn_m1lt, qn_m1lt2, qn_m1le, qn_m1le2, qn_and1, qn_and3, qn_and7, qn_and15, qn_and31, qn_and255, qn_and2047, qn_shl, qn_shr, qn_or, qn_div, qn_modlt, Nat.reduceMod, Nat.reduceAdd, Nat.reduceMul, Nat.reducePow, Nat.reduceDiv, Nat.reduceSub, ↓reduceIte, qn_us, qn_un, not_true_eq_false, not_false_eq_true, true_and, and_true, qn_nn, qn_addm, qn_ngT, qn_ngF, qn_ngE, qn_ngE2, qn_ngL, qn_ngM, Nat.add_sub_cancel, qL, qS, qM, qV, qQ, qZ0, qZ1, qE_l, qE_r, qW_some]
      exact ⟨so', al', rfl, k2, k3, k4, k5⟩
    · rintro z ⟨so, al, rfl, g1, g2, g3, g4⟩
      simp (disch := first | omega | assumption) only [f_X2_mayWed_b69, qn_lit, qn_ofNat, qn_neg1, qn_neg2, nI_add, pk_mul, qn_sub, qn_ltT, qn_ltF, qn_leT, qn_leF, qn_eqT, qn_eqF, qn_m1T, qn_m1F, qn_m1F2, qn_m1lt, qn_m1lt2, qn_m1le, qn_m1le2, qn_and1, qn_and3, qn_and7, qn_and15, qn_and31, qn_and255, qn_and2047, qn_shl, qn_shr, qn_or, qn_div, qn_modlt, Nat.reduceMod, Nat.reduceAdd, Nat.reduceMul, Nat.reducePow, Nat.reduceDiv, Nat.reduceSub, ↓reduceIte, qn_us, qn_un, not_true_eq_false, not_false_eq_true, true_and, and_true, qn_nn, qn_addm, qn_ngT, qn_ngF, qn_ngE, qn_ngE2, qn_ngL, qn_ngM, Nat.add_sub_cancel, qL, qS, qM, qV, qQ, qZ0, qZ1, qE_l, qE_r, qW_some]
      exact ⟨so, al, rfl, g1, g2, g3, g4⟩
  have fin : ∀ tg, tg < 2 → (tg = 1 ↔ F man = F woman) → f_X2_mayWed (nI n) (8, wi) (24, agr) (192, kb) (24, le) (nI man) (nI woman) = f_X2_mayWed_j58 (nI n) (8, wi) (192, kb) (nI man) (nI woman) (nI ma) (nI mb) (nI tg) → ∃ r, f_X2_mayWed (nI n) (8, wi) (24, agr) (192, kb) (24, le) (nI man) (nI woman) = some r ∧ (((ma = 0 ∨ mb = 0) ∧ r = mI) ∨ (¬ (ma = 0 ∨ mb = 0) ∧ ((r = nI 2 ∧ ∀ a s, a < n → s < n → qbt ma a = 1 → qbt mb s = 1 → (F man = F woman → a = s) → W (K man a) = K woman s) ∨ (¬ (∀ a s, a < n → s < n → qbt ma a = 1 → qbt mb s = 1 → (F man = F woman → a = s) → W (K man a) = K woman s) ∧ ((r = nI 1 ∧ ∃ a s, a < n ∧ s < n ∧ qbt ma a = 1 ∧ qbt mb s = 1 ∧ (F man = F woman → a = s) ∧ W (K man a) = K woman s) ∨ (r = nI 0 ∧ ¬ ∃ a s, a < n ∧ s < n ∧ qbt ma a = 1 ∧ qbt mb s = 1 ∧ (F man = F woman → a = s) ∧ W (K man a) = K woman s)))))) := by
    intro tg h3 h4 h5
    obtain ⟨e, g1, so, al, rfl, g2, g3, g4, g5⟩ := main tg h3 h4
    rw [h5]
    have nz : ¬ (ma = 0 ∨ mb = 0) := fun z => by rcases z with z | z; exact m0 z; exact b0 z
    have so2 : so = 0 ∨ so = 1 := by omega
    have al2 : al = 0 ∨ al = 1 := by omega
    rcases al2 with rfl | rfl
    · have na : ¬ (∀ a s, a < n → s < n → qbt ma a = 1 → qbt mb s = 1 → (F man = F woman → a = s) → W (K man a) = K woman s) := fun z => absurd (g5.mpr z) (by decide)
      rcases so2 with rfl | rfl
      · exact ⟨nI 0, by simp (disch := first | omega | assumption) only [f_X2_mayWed_j58, g1, qn_lit, qn_ofNat, qn_neg1, qn_neg2, nI_add, pk_mul, qn_sub, qn_ltT, qn_ltF, qn_leT, qn_leF, qn_eqT, qn_eqF, qn_m1T, qn_m1F, qn_m1F2, qn_m1lt, qn_m1lt2, qn_m1le, qn_m1le2, qn_and1, qn_and3, qn_and7, qn_and15, qn_and31, qn_and255, qn_and2047, qn_shl, qn_shr, qn_or, qn_div, qn_modlt, Nat.reduceMod, Nat.reduceAdd, Nat.reduceMul, Nat.reducePow, Nat.reduceDiv, Nat.reduceSub, ↓reduceIte, qn_us, qn_un, not_true_eq_false, not_false_eq_true, true_and, and_true, qn_nn, qn_addm, qn_ngT, qn_ngF, qn_ngE, qn_ngE2, qn_ngL, qn_ngM, Nat.add_sub_cancel, qL, qS, qM, qV, qQ, qZ0, qZ1, qE_l, qE_r, qW_some], Or.inr ⟨nz, Or.inr ⟨na, Or.inr ⟨rfl, fun z => absurd (g4.mpr z) (by decide)⟩⟩⟩⟩
      · exact ⟨nI 1, by simp (disch := first | omega | assumption) only [f_X2_mayWed_j58, g1, qn_lit, qn_ofNat, qn_neg1, qn_neg2, nI_add, pk_mul, qn_sub, qn_ltT, qn_ltF, qn_leT, qn_leF, qn_eqT, qn_eqF, qn_m1T, qn_m1F, qn_m1F2, qn_m1lt, qn_m1lt2, qn_m1le, qn_m1le2, qn_and1, qn_and3, qn_and7, qn_and15, qn_and31, qn_and255, qn_and2047, qn_shl, qn_shr, qn_or, qn_div, qn_modlt, Nat.reduceMod, Nat.reduceAdd, Nat.reduceMul, Nat.reducePow, Nat.reduceDiv, Nat.reduceSub, ↓reduceIte, qn_us, qn_un, not_true_eq_false, not_false_eq_true, true_and, and_true, qn_nn, qn_addm, qn_ngT, qn_ngF, qn_ngE, qn_ngE2, qn_ngL, qn_ngM, Nat.add_sub_cancel, qL, qS, qM, qV, qQ, qZ0, qZ1, qE_l, qE_r, qW_some], Or.inr ⟨nz, Or.inr ⟨na, Or.inl ⟨rfl, g4.mp rfl⟩⟩⟩⟩
    · exact ⟨nI 2, by simp (disch := first | omega | assumption) only [f_X2_mayWed_j58, g1, qn_lit, qn_ofNat, qn_neg1, qn_neg2, nI_add, pk_mul, qn_sub, qn_ltT, qn_ltF, qn_leT, qn_leF, qn_eqT, qn_eqF, qn_m1T, qn_m1F, qn_m1F2, qn_m1lt, qn_m1lt2, qn_m1le, qn_m1le2, qn_and1, qn_and3, qn_and7, qn_and15, qn_and31, qn_and255, qn_and2047, qn_shl, qn_shr, qn_or, qn_div, qn_modlt, Nat.reduceMod, Nat.reduceAdd, Nat.reduceMul, Nat.reducePow, Nat.reduceDiv, Nat.reduceSub, ↓reduceIte, qn_us, qn_un, not_true_eq_false, not_false_eq_true, true_and, and_true, qn_nn, qn_addm, qn_ngT, qn_ngF, qn_ngE, qn_ngE2, qn_ngL, qn_ngM, Nat.add_sub_cancel, qL, qS, qM, qV, qQ, qZ0, qZ1, qE_l, qE_r, qW_some], Or.inr ⟨nz, Or.inl ⟨rfl, g5.mp rfl⟩⟩⟩
  by_cases fe : F man = F woman
  · refine fin 1 (by decide) ⟨fun _ => fe, fun _ => rfl⟩ ?_
    simp (disch := first | omega | assumption) only [f_X2_mayWed, lo1, lo2, e1, e2, qn_lit, qn_ofNat, qn_neg1, qn_neg2, nI_add, pk_mul, qn_sub, qn_ltT, qn_ltF, qn_leT, qn_leF, qn_eqT, qn_eqF, qn_m1T, qn_m1F, qn_m1F2, qn_m1lt, qn_m1lt2, qn_m1le, qn_m1le2, qn_and1, qn_and3, qn_and7, qn_and15, qn_and31, qn_and255, qn_and2047, qn_shl, qn_shr, qn_or, qn_div, qn_modlt, Nat.reduceMod, Nat.reduceAdd, Nat.reduceMul, Nat.reducePow, Nat.reduceDiv, Nat.reduceSub, ↓reduceIte, qn_us, qn_un, not_true_eq_false, not_false_eq_true, true_and, and_true, qn_nn, qn_addm, qn_ngT, qn_ngF, qn_ngE, qn_ngE2, qn_ngL, qn_ngM, Nat.add_sub_cancel, qL, qS, qM, qV, qQ, qZ0, qZ1, qE_l, qE_r, qW_some]
  · refine fin 0 (by decide) ⟨fun z => absurd z (by decide), fun z => absurd z fe⟩ ?_
    simp (disch := first | omega | assumption) only [f_X2_mayWed, lo1, lo2, e1, e2, qn_lit, qn_ofNat, qn_neg1, qn_neg2, nI_add, pk_mul, qn_sub, qn_ltT, qn_ltF, qn_leT, qn_leF, qn_eqT, qn_eqF, qn_m1T, qn_m1F, qn_m1F2, qn_m1lt, qn_m1lt2, qn_m1le, qn_m1le2, qn_and1, qn_and3, qn_and7, qn_and15, qn_and31, qn_and255, qn_and2047, qn_shl, qn_shr, qn_or, qn_div, qn_modlt, Nat.reduceMod, Nat.reduceAdd, Nat.reduceMul, Nat.reducePow, Nat.reduceDiv, Nat.reduceSub, ↓reduceIte, qn_us, qn_un, not_true_eq_false, not_false_eq_true, true_and, and_true, qn_nn, qn_addm, qn_ngT, qn_ngF, qn_ngE, qn_ngE2, qn_ngL, qn_ngM, Nat.add_sub_cancel, qL, qS, qM, qV, qQ, qZ0, qZ1, qE_l, qE_r, qW_some]

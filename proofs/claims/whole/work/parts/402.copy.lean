/-! images: rows of one slot moved to another -/
def qcI (N a b : Nat) (f g : Nat → Int32) : Prop := ∀ k, k < N → g (N * b + k) = f (N * a + k)
def qcB (N a b : Nat) (f g : Nat → Int32) : Prop := ∀ k, k < N → g (N * b + k) = f (N * a + k) ∨ g (N * b + k) = (f (N * a + k)).toInt8.toInt32
def qcE (N : Nat) (f g : Nat → Int32) : Prop := ∀ k, k < N → g k = f k
theorem qcI_1 {a b : Nat} {f g : Nat → Int32} (h : qcI 1 a b f g) : g b = f a := by
  have := h 0 (by decide)
  simpa using this
theorem qTp_cp {a b tl : Nat} {xb xb' Rs Rs' Rt Rt' : Nat → Int32} (h : qTp a tl xb Rs Rt) (h1 : qcE 400 xb xb') (h2 : qcI 1 a b Rs Rs') (h3 : qcB 400 a b Rt Rt') : qTp b tl xb' Rs' Rt' := by
  obtain ⟨g1, g2, g3, g4⟩ := h
  refine ⟨g1, by rw [qcI_1 h2]; exact g2, fun i hi => by rw [h1 i hi]; exact g3 i hi, fun i hi => ?_⟩
  rw [h1 i (by omega), ← g4 i hi]
  rcases h3 i (by omega) with e | e
  · exact e
  · rw [e, g4 i hi]; exact g3 i (by omega)
theorem qXw_cp {n : Nat} {W C V U : Nat → Nat} {wi ch hu fa wi' ch' hu' fa' : Nat → Int32} (h : qXw n W C V U wi ch hu fa) (h1 : qcE 8 wi wi') (h2 : qcE 8 ch ch') (h3 : qcE 8 hu hu') (h4 : qcE 8 fa fa') : qXw n W C V U wi' ch' hu' fa' := by
  obtain ⟨g, g1, g2, g3, g4⟩ := h
  have hn := g.1
  have mv : ∀ (f f' : Nat → Int32) (W : Nat → Nat), qcE 8 f f' → qR 0 n f W → qR 0 n f' W := fun f f' W he hf i hi => by rw [Nat.zero_add, he i (by omega)]; exact qR_0 hf hi
  exact ⟨g, mv _ _ _ h1 g1, mv _ _ _ h2 g2, mv _ _ _ h3 g3, mv _ _ _ h4 g4⟩
theorem qRw_cp {a b n : Nat} {W C : Nat → Nat} {cl wr cr cl' wr' cr' : Nat → Int32} (hn : n ≤ 8) (h : qRw a n W C cl wr cr) (h1 : qcI 1 a b cl cl') (h2 : qcI 8 a b wr wr') (h3 : qcI 8 a b cr cr') : qRw b n W C cl' wr' cr' := by
  obtain ⟨g1, g2, g3⟩ := h
  exact ⟨by rw [qcI_1 h1]; exact g1, fun i hi => by rw [h2 i (by omega)]; exact g2 i hi, fun i hi => by rw [h3 i (by omega)]; exact g3 i hi⟩
theorem qLt_cp {N a b o : Nat} {f g : Nat → Int32} {ls : List Nat} (h8 : qA8 ls) (h : qLt (N * a + o) f ls) (hc : qcB N a b f g) (ho : o + ls.length ≤ N) : qLt (N * b + o) g ls := by
  intro i hi
  have h1 := h i hi
  rw [Nat.add_assoc] at h1 ⊢
  rcases hc (o + i) (by omega) with e | e
  · rw [e]; exact h1
  · rw [e, h1]; exact q_nar (by have := qA8_get h8 i; omega)
theorem qLw_cp {a b lc : Nat} {lt : Nat → Nat} {la lb : Nat → List Nat} {ts tf t2 R nk nl nwd ts' tf' t2' R' nk' nl' nwd' : Nat → Int32} (h : qLw a lc lt la lb ts tf t2 R nk nl nwd) (h1 : qcE 16 ts ts') (h2 : qcE 16 tf tf') (h3 : qcE 16 t2 t2') (h4 : qcI 1 a b R R') (h5 : qcI 16 a b nk nk') (h6 : qcI 32 a b nl nl') (h7 : qcB 256 a b nwd nwd') : qLw b lc lt la lb ts' tf' t2' R' nk' nl' nwd' := by
  obtain ⟨g1, g2, g3⟩ := h
  refine ⟨g1, by rw [qcI_1 h4]; exact g2, fun i hi => ?_⟩
  obtain ⟨c1, c2, c3, c4, c5, c6, c7, c8, c9, c10, c11, c12, c13⟩ := g3 i hi
  refine ⟨c1, c2, c3, c4, c5, by rw [h1 i (by omega)]; exact c6, by rw [h5 i (by omega)]; exact c7, by rw [h2 i (by omega)]; exact c8, by rw [h6 (2 * i) (by omega)]; exact c9, qLt_cp c2 c10 h7 (by omega), by rw [h3 i (by omega)]; exact c11, ?_, ?_⟩
  · rw [Nat.add_assoc] at c12 ⊢
    rw [h6 (2 * i + 1) (by omega)]; exact c12
  · rw [Nat.add_assoc] at c13 ⊢
    exact qLt_cp c4 c13 h7 (by omega)
theorem qWd_cp {a b wc : Nat} {ws : Nat → Nat} {wl : Nat → List Nat} {xw R sx lo le xw' R' sx' lo' le' : Nat → Int32} (h : qWd a wc ws wl xw R sx lo le) (h1 : qcE 8 xw xw') (h2 : qcI 1 a b R R') (h3 : qcI 8 a b sx sx') (h4 : qcI 8 a b lo lo') (h5 : qcB 64 a b le le') : qWd b wc ws wl xw' R' sx' lo' le' := by
  obtain ⟨g1, g2, g3⟩ := h
  refine ⟨g1, by rw [qcI_1 h2]; exact g2, fun i hi => ?_⟩
  obtain ⟨c1, c2, c3, c4, c5, c6, c7, c8, c9⟩ := g3 i hi
  exact ⟨c1, c2, c3, c4, c5, by rw [h1 i (by omega)]; exact c6, by rw [h3 i (by omega)]; exact c7, by rw [h4 i (by omega)]; exact c8, qLt_cp c2 c9 h5 (by omega)⟩
theorem qPL_cp {a b c w t d : Nat} {sn : Int32} {sx mo fa pd man wom wd te tk td R_persons R_weddings R_tellings R_days R_viewed Rsx Rmo Rfa Rpd Rhu Rwi Rwd Rtp Rtc Rtd sx' mo' fa' pd' man' wom' wd' te' tk' td' R_persons' R_weddings' R_tellings' R_days' R_viewed' Rsx' Rmo' Rfa' Rpd' Rhu' Rwi' Rwd' Rtp' Rtc' Rtd' : Nat → Int32} (hp : qPL a c w t d sn sx mo fa pd man wom wd te tk td R_persons R_weddings R_tellings R_days R_viewed Rsx Rmo Rfa Rpd Rhu Rwi Rwd Rtp Rtc Rtd) (e1 : qcE 24 sx sx') (e2 : qcE 24 mo mo') (e3 : qcE 24 fa fa') (e4 : qcE 24 pd pd') (e5 : qcE 24 man man') (e6 : qcE 24 wom wom') (e7 : qcE 24 wd wd') (e8 : qcE 60 te te') (e9 : qcE 60 tk tk') (e10 : qcE 60 td td') (r1 : qcI 1 a b R_persons R_persons') (r2 : qcI 1 a b R_weddings R_weddings') (r3 : qcI 1 a b R_tellings R_tellings') (r4 : qcI 1 a b R_days R_days') (r5 : qcI 1 a b R_viewed R_viewed') (r6 : qcI 24 a b Rsx Rsx') (r7 : qcI 24 a b Rmo Rmo') (r8 : qcI 24 a b Rfa Rfa') (r9 : qcI 24 a b Rpd Rpd') (r10 : qcI 24 a b Rhu Rhu') (r11 : qcI 24 a b Rwi Rwi') (r12 : qcI 24 a b Rwd Rwd') (r13 : qcI 60 a b Rtp Rtp') (r14 : qcI 60 a b Rtc Rtc') (r15 : qcI 60 a b Rtd Rtd') : qPL b c w t d sn sx' mo' fa' pd' man' wom' wd' te' tk' td' R_persons' R_weddings' R_tellings' R_days' R_viewed' Rsx' Rmo' Rfa' Rpd' Rhu' Rwi' Rwd' Rtp' Rtc' Rtd' := by
  obtain ⟨h1, h2, h3, h4, h5, h6, h7, h8, h9, h10, h11, h12, h13⟩ := hp
  refine ⟨h1, h2, h3, h4, h5, by rw [qcI_1 r1]; exact h6, by rw [qcI_1 r2]; exact h7, by rw [qcI_1 r3]; exact h8, by rw [qcI_1 r4]; exact h9, by rw [qcI_1 r5]; exact h10, fun i hi => ?_, fun i hi => ?_, fun i hi => ?_⟩
  · obtain ⟨s1, s2, s3, s4, s5, s6, s7, s8⟩ := h11 i hi
    have hi2 : i < 24 := by omega
    rw [e1 i hi2, e2 i hi2, e3 i hi2, e4 i hi2, r6 i hi2, r7 i hi2, r8 i hi2, r9 i hi2]
    refine ⟨s1, ?_, ?_, s4, s5, s6, s7, s8⟩
    · rcases s2 with q | ⟨m, m1, m2, m3⟩
      · exact Or.inl q
      · exact Or.inr ⟨m, m1, m2, by rw [e1 m (by omega)]; exact m3⟩
    · rcases s3 with q | ⟨m, m1, m2, m3⟩
      · exact Or.inl q
      · exact Or.inr ⟨m, m1, m2, by rw [e1 m (by omega)]; exact m3⟩
  · obtain ⟨⟨x, x1, x2, x3⟩, ⟨y, y1, y2, y3⟩, s3, s4, s5, s6⟩ := h12 i hi
    have hi2 : i < 24 := by omega
    rw [e5 i hi2, e6 i hi2, e7 i hi2, r10 i hi2, r11 i hi2, r12 i hi2]
    exact ⟨⟨x, x1, x2, by rw [e1 x (by omega)]; exact x3⟩, ⟨y, y1, y2, by rw [e1 y (by omega)]; exact y3⟩, s3, s4, s5, s6⟩
  · obtain ⟨s1, s2, s3, s4, s5, s6⟩ := h13 i hi
    have hi2 : i < 60 := by omega
    rw [e8 i hi2, e9 i hi2, e10 i hi2, r13 i hi2, r14 i hi2, r15 i hi2]
    exact ⟨s1, s2, s3, s4, s5, s6⟩
/-- outside of the slot b nothing changes -/
def qcO (N b : Nat) (f g : Nat → Int32) : Prop := ∀ i, (i < N * b ∨ N * b + N ≤ i) → g i = f i
theorem qcO_I {N q b : Nat} {f g : Nat → Int32} (h : qcO N b f g) (hq : q ≠ b) : qcI N q q f g := by
  intro k hk
  refine h _ ?_
  rcases Nat.lt_or_gt_of_ne hq with l | l
  · have := Nat.mul_le_mul_left N (show q + 1 ≤ b from l)
    rw [Nat.mul_add, Nat.mul_one] at this
    omega
  · have := Nat.mul_le_mul_left N (show b + 1 ≤ q from l)
    rw [Nat.mul_add, Nat.mul_one] at this
    omega
theorem qcO_B {N q b : Nat} {f g : Nat → Int32} (h : qcO N b f g) (hq : q ≠ b) : qcB N q q f g := fun k hk => Or.inl (qcO_I h hq k hk)
theorem qcE_r (N : Nat) (f : Nat → Int32) : qcE N f f := fun _ _ => rfl
theorem q_move {M N a b : Nat} {f : Nat → Int32} (hab : a ≠ b) (ha : N * a + N ≤ M) (hb : N * b + N ≤ M) (hM : M < 10000) : ∃ g, f_X12_move (M, f) (nI N) (nI a) (nI b) = some (M, g) ∧ qcI N a b f g ∧ qcO N b f g := by
  have dj : ∀ k i, k < N → i < N → N * a + k ≠ N * b + i := by
    intro k i hk hi e
    rcases Nat.lt_or_gt_of_ne hab with l | l
    · have := Nat.mul_le_mul_left N (show a + 1 ≤ b from l)
      rw [Nat.mul_add, Nat.mul_one] at this
      omega
    · have := Nat.mul_le_mul_left N (show b + 1 ≤ a from l)
      rw [Nat.mul_add, Nat.mul_one] at this
      omega
  have loop : qW (f_X12_move_l3 (nI N) (nI a) (nI b) (M, f) (nI 0)) (fun z => ∃ g, z = (M, g) ∧ qcI N a b f g ∧ qcO N b f g) := by
    unfold f_X12_move_l3
    refine qfor 0 N (fun i z => ∃ g, z = ((M, g), nI i) ∧ (∀ k, k < i → g (N * b + k) = f (N * a + k)) ∧ ∀ j, (j < N * b ∨ N * b + i ≤ j) → g j = f j) ⟨f, rfl, fun k hk => absurd hk (by omega), fun j _ => rfl⟩ (by omega) (by omega) ?_ ?_
    · rintro i z - hi ⟨g, rfl, h1, h2⟩
      have e := h2 (N * a + i) (by
        rcases Nat.lt_or_gt_of_ne hab with l | l
        · have := Nat.mul_le_mul_left N (show a + 1 ≤ b from l)
          rw [Nat.mul_add, Nat.mul_one] at this
          omega
        · have := Nat.mul_le_mul_left N (show b + 1 ≤ a from l)
          rw [Nat.mul_add, Nat.mul_one] at this
          omega)
      have p1 : N * a + i < M := by omega
      have p2 : N * b + i < M := by omega
      simp (disch := first | omega | assumption) only [f_X12_move_b3, qn_lit, qn_ofNat, qn_neg1, qn_neg2, nI_add, pk_mul, qn_sub, qn_ltT, qn_ltF, qn_leT, qn_leF, qn_eqT, qn_eqF, qn_m1T, qn_m1F, qn_m1F2, qn_m1lt, qn_m1lt2, qn_m1le, qn_m1le2, qn_and1, qn_and3, qn_and7, qn_and15, qn_and31, qn_and255, qn_and2047, qn_shl, qn_shr, qn_or, qn_div, qn_modlt, Nat.reduceMod, Nat.reduceAdd, Nat.reduceMul, Nat.reducePow, Nat.reduceDiv, Nat.reduceSub, ↓reduceIte, qn_us, qn_un, not_true_eq_false, not_false_eq_true, true_and, and_true, qn_nn, qn_addm, qn_ngT, qn_ngF, qn_ngE, qn_ngE2, qn_ngL, qn_ngM, Nat.add_sub_cancel, qL, qS, qM, qV, qQ, qZ0, qZ1, qE_l, qE_r, qW_some]
      refine ⟨_, rfl, fun k hk => ?_, fun j hj => ?_⟩
      · unfold upd
        by_cases q : k = i
        · rw [q, if_pos rfl]; exact e
        · rw [if_neg (by omega)]; exact h1 k (by omega)
      · unfold upd
        rw [if_neg (by omega)]; exact h2 j (by omega)
    · rintro z ⟨g, rfl, h1, h2⟩
      simp (disch := first | omega | assumption) only [f_X12_move_b3, qn_lit, qn_ofNat, qn_neg1, qn_neg2, nI_add, pk_mul, qn_sub, qn_ltT, qn_ltF, qn_leT, qn_leF, qn_eqT, qn_eqF, qn_m1T, qn_m1F, qn_m1F2, qn_m1lt, qn_m1lt2, qn_m1le, qn_m1le2, qn_and1, qn_and3, qn_and7, qn_and15, qn_and31, qn_and255, qn_and2047, qn_shl, qn_shr, qn_or, qn_div, qn_modlt, Nat.reduceMod, Nat.reduceAdd, Nat.reduceMul, Nat.reducePow, Nat.reduceDiv, Nat.reduceSub, ↓reduceIte, qn_us, qn_un, not_true_eq_false, not_false_eq_true, true_and, and_true, qn_nn, qn_addm, qn_ngT, qn_ngF, qn_ngE, qn_ngE2, qn_ngL, qn_ngM, Nat.add_sub_cancel, qL, qS, qM, qV, qQ, qZ0, qZ1, qE_l, qE_r, qW_some]
      exact ⟨_, rfl, h1, h2⟩
  obtain ⟨z, g1, g, rfl, g2, g3⟩ := loop
  exact ⟨g, by simp (disch := first | omega | assumption) only [f_X12_move, g1, qn_lit, qn_ofNat, qn_neg1, qn_neg2, nI_add, pk_mul, qn_sub, qn_ltT, qn_ltF, qn_leT, qn_leF, qn_eqT, qn_eqF, qn_m1T, qn_m1F, qn_m1F2, qn_m1lt, qn_m1lt2, qn_m1le, qn_m1le2, qn_and1, qn_and3, qn_and7, qn_and15, qn_and31, qn_and255, qn_and2047, qn_shl, qn_shr, qn_or, qn_div, qn_modlt, Nat.reduceMod, Nat.reduceAdd, Nat.reduceMul, Nat.reducePow, Nat.reduceDiv, Nat.reduceSub, ↓reduceIte, qn_us, qn_un, not_true_eq_false, not_false_eq_true, true_and, and_true, qn_nn, qn_addm, qn_ngT, qn_ngF, qn_ngE, qn_ngE2, qn_ngL, qn_ngM, Nat.add_sub_cancel, qL, qS, qM, qV, qQ, qZ0, qZ1, qE_l, qE_r, qW_some], g2, g3⟩
theorem q_moveB {M N a b : Nat} {f : Nat → Int32} (hab : a ≠ b) (ha : N * a + N ≤ M) (hb : N * b + N ≤ M) (hM : M < 10000) : ∃ g, f_X12_moveBytes (M, f) (nI N) (nI a) (nI b) = some (M, g) ∧ qcB N a b f g ∧ qcO N b f g := by
  have loop : qW (f_X12_moveBytes_l3 (nI N) (nI a) (nI b) (M, f) (nI 0)) (fun z => ∃ g, z = (M, g) ∧ qcB N a b f g ∧ qcO N b f g) := by
    unfold f_X12_moveBytes_l3
    refine qfor 0 N (fun i z => ∃ g, z = ((M, g), nI i) ∧ (∀ k, k < i → g (N * b + k) = (f (N * a + k)).toInt8.toInt32) ∧ ∀ j, (j < N * b ∨ N * b + i ≤ j) → g j = f j) ⟨f, rfl, fun k hk => absurd hk (by omega), fun j _ => rfl⟩ (by omega) (by omega) ?_ ?_
    · rintro i z - hi ⟨g, rfl, h1, h2⟩
      have e := h2 (N * a + i) (by
        rcases Nat.lt_or_gt_of_ne hab with l | l
        · have := Nat.mul_le_mul_left N (show a + 1 ≤ b from l)
          rw [Nat.mul_add, Nat.mul_one] at this
          omega
        · have := Nat.mul_le_mul_left N (show b + 1 ≤ a from l)
          rw [Nat.mul_add, Nat.mul_one] at this
          omega)
      have p1 : N * a + i < M := by omega
      have p2 : N * b + i < M := by omega
      simp (disch := first | omega | assumption) only [f_X12_moveBytes_b3, qn_lit, qn_ofNat, qn_neg1, qn_neg2, nI_add, pk_mul, qn_sub, qn_ltT, qn_ltF, qn_leT, qn_leF, qn_eqT, qn_eqF, qn_m1T, qn_m1F, qn_m1F2, qn_m1lt, qn_m1lt2, qn_m1le, qn_m1le2, qn_and1, qn_and3, qn_and7, qn_and15, qn_and31, qn_and255, qn_and2047, qn_shl, qn_shr, qn_or, qn_div, qn_modlt, Nat.reduceMod, Nat.reduceAdd, Nat.reduceMul, Nat.reducePow, Nat.reduceDiv, Nat.reduceSub, ↓reduceIte, qn_us, qn_un, not_true_eq_false, not_false_eq_true, true_and, and_true, qn_nn, qn_addm, qn_ngT, qn_ngF, qn_ngE, qn_ngE2, qn_ngL, qn_ngM, Nat.add_sub_cancel, qL, qS, qM, qV, qQ, qZ0, qZ1, qE_l, qE_r, qW_some]
      refine ⟨_, rfl, fun k hk => ?_, fun j hj => ?_⟩
      · unfold upd
        by_cases q : k = i
        · rw [q, if_pos rfl, e]
        · rw [if_neg (by omega)]; exact h1 k (by omega)
      · unfold upd
        rw [if_neg (by omega)]; exact h2 j (by omega)
    · rintro z ⟨g, rfl, h1, h2⟩
      simp (disch := first | omega | assumption) only [f_X12_moveBytes_b3, qn_lit, qn_ofNat, qn_neg1, qn_neg2, nI_add, pk_mul, qn_sub, qn_ltT, qn_ltF, qn_leT, qn_leF, qn_eqT, qn_eqF, qn_m1T, qn_m1F, qn_m1F2, qn_m1lt, qn_m1lt2, qn_m1le, qn_m1le2, qn_and1, qn_and3, qn_and7, qn_and15, qn_and31, qn_and255, qn_and2047, qn_shl, qn_shr, qn_or, qn_div, qn_modlt, Nat.reduceMod, Nat.reduceAdd, Nat.reduceMul, Nat.reducePow, Nat.reduceDiv, Nat.reduceSub, ↓reduceIte, qn_us, qn_un, not_true_eq_false, not_false_eq_true, true_and, and_true, qn_nn, qn_addm, qn_ngT, qn_ngF, qn_ngE, qn_ngE2, qn_ngL, qn_ngM, Nat.add_sub_cancel, qL, qS, qM, qV, qQ, qZ0, qZ1, qE_l, qE_r, qW_some]
      exact ⟨_, rfl, fun k hk => Or.inr (h1 k hk), h2⟩
  obtain ⟨z, g1, g, rfl, g2, g3⟩ := loop
  exact ⟨g, by simp (disch := first | omega | assumption) only [f_X12_moveBytes, g1, qn_lit, qn_ofNat, qn_neg1, qn_neg2, nI_add, pk_mul, qn_sub, qn_ltT, qn_ltF, qn_leT, qn_leF, qn_eqT, qn_eqF, qn_m1T, qn_m1F, qn_m1F2, qn_m1lt, qn_m1lt2, qn_m1le, qn_m1le2, qn_and1, qn_and3, qn_and7, qn_and15, qn_and31, qn_and255, qn_and2047, qn_shl, qn_shr, qn_or, qn_div, qn_modlt, Nat.reduceMod, Nat.reduceAdd, Nat.reduceMul, Nat.reducePow, Nat.reduceDiv, Nat.reduceSub, ↓reduceIte, qn_us, qn_un, not_true_eq_false, not_false_eq_true, true_and, and_true, qn_nn, qn_addm, qn_ngT, qn_ngF, qn_ngE, qn_ngE2, qn_ngL, qn_ngM, Nat.add_sub_cancel, qL, qS, qM, qV, qQ, qZ0, qZ1, qE_l, qE_r, qW_some], g2, g3⟩

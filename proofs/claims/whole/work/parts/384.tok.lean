/-! the tape's bytes and its tokens -/
def tsc (P : Nat → Bool) : Nat → Nat → Nat
  | 0, p => p
  | m + 1, p => if P p = true then tsc P m (p + 1) else p
theorem tsc_T {P : Nat → Bool} {m p : Nat} (h : P p = true) : tsc P (m + 1) p = tsc P m (p + 1) := if_pos h
theorem tsc_F {P : Nat → Bool} {m p : Nat} (h : P p = false) : tsc P m p = p := by
  cases m with
  | zero => rfl
  | succ m => exact if_neg (by rw [h]; decide)
theorem tsc_ge {P : Nat → Bool} : ∀ (m p : Nat), p ≤ tsc P m p := by
  intro m
  induction m with
  | zero => intro p; exact Nat.le_refl _
  | succ m ih =>
    intro p
    cases h : P p with
    | true => rw [tsc_T h]; have := ih (p + 1); omega
    | false => rw [tsc_F h]; exact Nat.le_refl _
theorem tsc_le {P : Nat → Bool} : ∀ (m p : Nat), tsc P m p ≤ p + m := by
  intro m
  induction m with
  | zero => intro p; exact Nat.le_refl _
  | succ m ih =>
    intro p
    cases h : P p with
    | true => rw [tsc_T h]; have := ih (p + 1); omega
    | false => rw [tsc_F h]; omega
theorem tsc_in {P : Nat → Bool} : ∀ (m p i : Nat), p ≤ i → i < tsc P m p → P i = true := by
  intro m
  induction m with
  | zero => intro p i h1 h2; exact absurd h2 (by show ¬ i < p; omega)
  | succ m ih =>
    intro p i h1 h2
    cases h : P p with
    | true =>
      rw [tsc_T h] at h2
      by_cases e : i = p
      · rw [e]; exact h
      · exact ih (p + 1) i (by omega) h2
    | false => rw [tsc_F h] at h2; omega
def qby (x : Int32) : Nat := x.toBitVec.toNat % 256
theorem qby_nI (x : Int32) : x = nI x.toBitVec.toNat := by
  apply Int32.toBitVec_inj.mp
  rw [qn_bv]
  apply BitVec.eq_of_toNat_eq
  rw [BitVec.toNat_ofNat]
  exact (Nat.mod_eq_of_lt x.toBitVec.isLt).symm
theorem qby_and (x : Int32) : x &&& nI 255 = nI (qby x) := by
  have e := qby_nI x
  unfold qby
  generalize x.toBitVec.toNat = k at e ⊢
  rw [e, qn_and255]
theorem qby_lt (x : Int32) : qby x < 256 := Nat.mod_lt _ (by decide)
theorem q_byteAt {L i : Nat} {xb : Nat → Int32} (hL : L ≤ 400) (hi : i < L) : f_X5_byteAt (nI L) (400, xb) (nI i) = some (nI (qby (xb i))) := by
  simp (disch := first | omega | assumption) only [f_X5_byteAt, qn_lit, qn_ofNat, qn_neg1, qn_neg2, nI_add, pk_mul, qn_sub, qn_ltT, qn_ltF, qn_leT, qn_leF, qn_eqT, qn_eqF, qn_m1T, qn_m1F, qn_m1F2, qn_m1lt, qn_m1lt2, qn_m1le, qn_m1le2, qn_and1, qn_and3, qn_and7, qn_and15, qn_and31, qn_and255, qn_and2047, qn_shl, qn_shr, qn_or, qn_div, qn_modlt, Nat.reduceMod, Nat.reduceAdd, Nat.reduceMul, Nat.reducePow, Nat.reduceDiv, Nat.reduceSub, ↓reduceIte, qn_us, qn_un, not_true_eq_false, not_false_eq_true, true_and, and_true, qn_nn, qn_addm, qn_ngT, qn_ngF, qn_ngE, qn_ngE2, qn_ngL, qn_ngM, Nat.add_sub_cancel, qL, qS, qM, qV, qQ, qZ0, qZ1, qE_l, qE_r, qW_some, qby_and]
theorem q_byteAt_out {L i : Nat} {xb : Nat → Int32} (hL : L ≤ 400) (hi : L ≤ i) (h2 : i < 2147483648) : f_X5_byteAt (nI L) (400, xb) (nI i) = some mI := by
  simp (disch := first | omega | assumption) only [f_X5_byteAt, qn_lit, qn_ofNat, qn_neg1, qn_neg2, nI_add, pk_mul, qn_sub, qn_ltT, qn_ltF, qn_leT, qn_leF, qn_eqT, qn_eqF, qn_m1T, qn_m1F, qn_m1F2, qn_m1lt, qn_m1lt2, qn_m1le, qn_m1le2, qn_and1, qn_and3, qn_and7, qn_and15, qn_and31, qn_and255, qn_and2047, qn_shl, qn_shr, qn_or, qn_div, qn_modlt, Nat.reduceMod, Nat.reduceAdd, Nat.reduceMul, Nat.reducePow, Nat.reduceDiv, Nat.reduceSub, ↓reduceIte, qn_us, qn_un, not_true_eq_false, not_false_eq_true, true_and, and_true, qn_nn, qn_addm, qn_ngT, qn_ngF, qn_ngE, qn_ngE2, qn_ngL, qn_ngM, Nat.add_sub_cancel, qL, qS, qM, qV, qQ, qZ0, qZ1, qE_l, qE_r, qW_some]
theorem q_see {L i : Nat} {rt : Nat → Int32} (hL : L ≤ 400) (hi : i < L) : f_X12_see (nI i) (nI L) (1600, rt) = some (nI (qby (rt i))) := by
  simp (disch := first | omega | assumption) only [f_X12_see, qn_lit, qn_ofNat, qn_neg1, qn_neg2, nI_add, pk_mul, qn_sub, qn_ltT, qn_ltF, qn_leT, qn_leF, qn_eqT, qn_eqF, qn_m1T, qn_m1F, qn_m1F2, qn_m1lt, qn_m1lt2, qn_m1le, qn_m1le2, qn_and1, qn_and3, qn_and7, qn_and15, qn_and31, qn_and255, qn_and2047, qn_shl, qn_shr, qn_or, qn_div, qn_modlt, Nat.reduceMod, Nat.reduceAdd, Nat.reduceMul, Nat.reducePow, Nat.reduceDiv, Nat.reduceSub, ↓reduceIte, qn_us, qn_un, not_true_eq_false, not_false_eq_true, true_and, and_true, qn_nn, qn_addm, qn_ngT, qn_ngF, qn_ngE, qn_ngE2, qn_ngL, qn_ngM, Nat.add_sub_cancel, qL, qS, qM, qV, qQ, qZ0, qZ1, qE_l, qE_r, qW_some, qby_and]
theorem q_see_out {L i : Nat} {rt : Nat → Int32} (hL : L ≤ 400) (hi : L ≤ i) (h2 : i < 2147483648) : f_X12_see (nI i) (nI L) (1600, rt) = some mI := by
  simp (disch := first | omega | assumption) only [f_X12_see, qn_lit, qn_ofNat, qn_neg1, qn_neg2, nI_add, pk_mul, qn_sub, qn_ltT, qn_ltF, qn_leT, qn_leF, qn_eqT, qn_eqF, qn_m1T, qn_m1F, qn_m1F2, qn_m1lt, qn_m1lt2, qn_m1le, qn_m1le2, qn_and1, qn_and3, qn_and7, qn_and15, qn_and31, qn_and255, qn_and2047, qn_shl, qn_shr, qn_or, qn_div, qn_modlt, Nat.reduceMod, Nat.reduceAdd, Nat.reduceMul, Nat.reducePow, Nat.reduceDiv, Nat.reduceSub, ↓reduceIte, qn_us, qn_un, not_true_eq_false, not_false_eq_true, true_and, and_true, qn_nn, qn_addm, qn_ngT, qn_ngF, qn_ngE, qn_ngE2, qn_ngL, qn_ngM, Nat.add_sub_cancel, qL, qS, qM, qV, qQ, qZ0, qZ1, qE_l, qE_r, qW_some]
def tbl (T : Nat → Nat) (i : Nat) : Bool := T i == 10 || T i == 32
def tin (lo hi : Nat) (T : Nat → Nat) (i : Nat) : Bool := decide (lo ≤ T i) && decide (T i ≤ hi)
theorem tin_iff {lo hi i : Nat} {T : Nat → Nat} : tin lo hi T i = true ↔ lo ≤ T i ∧ T i ≤ hi := by
  unfold tin
  simp
theorem tin_F {lo hi i : Nat} {T : Nat → Nat} (h : ¬ (lo ≤ T i ∧ T i ≤ hi)) : tin lo hi T i = false := by
  cases h2 : tin lo hi T i with
  | true => exact absurd (tin_iff.mp h2) h
  | false => rfl
theorem tbl_T {i : Nat} {T : Nat → Nat} (h : T i = 10 ∨ T i = 32) : tbl T i = true := by
  unfold tbl
  simp [h]
theorem tbl_F {i : Nat} {T : Nat → Nat} (h1 : T i ≠ 10) (h2 : T i ≠ 32) : tbl T i = false := by
  unfold tbl
  simp [h1, h2]
/-- where a token begins, from p on -/
def tkS (T : Nat → Nat) (L p : Nat) : Nat := tsc (tbl T) (L - p) p
/-- where it ends -/
def tkE (T : Nat → Nat) (L p : Nat) : Nat := if tkS T L p < L then (if tin 97 122 T (tkS T L p) = true then tsc (tin 97 122 T) (L - tkS T L p) (tkS T L p) else if tin 48 57 T (tkS T L p) = true then tsc (tin 48 57 T) (L - tkS T L p) (tkS T L p) else tkS T L p + 1) else tkS T L p
/-- what it is: 1 a word, 2 a number, 3 the mark, 4 the end, 5 none -/
def tkK (T : Nat → Nat) (L p : Nat) : Nat := if tkS T L p < L then (if tin 97 122 T (tkS T L p) = true then 1 else if tin 48 57 T (tkS T L p) = true then (if tkE T L p - tkS T L p ≤ 4 then 2 else 5) else if T (tkS T L p) = 59 then 3 else 5) else 4
theorem tkS_le {T : Nat → Nat} {L p : Nat} (h : p ≤ L) : p ≤ tkS T L p ∧ tkS T L p ≤ L := by
  unfold tkS
  have h1 := tsc_ge (P := tbl T) (L - p) p
  have h2 := tsc_le (P := tbl T) (L - p) p
  omega
theorem tsc_step {P : Nat → Bool} {L i : Nat} (hi : i < L) (h : P i = true) : tsc P (L - i) i = tsc P (L - (i + 1)) (i + 1) := by
  obtain ⟨m, hm⟩ : ∃ m, L - i = m + 1 := ⟨L - i - 1, by omega⟩
  rw [hm, tsc_T h, show L - (i + 1) = m by omega]
/-- a token that stands: from s to e, what it is -/
def qTk (T : Nat → Nat) (L s e k : Nat) : Prop := s ≤ e ∧ e ≤ L ∧ 1 ≤ k ∧ k ≤ 5 ∧ (k = 1 → s < e ∧ ∀ i, s ≤ i → i < e → 97 ≤ T i ∧ T i ≤ 122) ∧ (k = 2 → s < e ∧ e - s ≤ 4 ∧ ∀ i, s ≤ i → i < e → 48 ≤ T i ∧ T i ≤ 57) ∧ (k = 4 ↔ s = L) ∧ (k ≠ 4 → s < e)
theorem tk_tok {T : Nat → Nat} {L p : Nat} (h : p ≤ L) : qTk T L (tkS T L p) (tkE T L p) (tkK T L p) := by
  have hs := tkS_le (T := T) h
  by_cases c : tkS T L p < L
  · by_cases a : tin 97 122 T (tkS T L p) = true
    · have hE : tkE T L p = tsc (tin 97 122 T) (L - tkS T L p) (tkS T L p) := by unfold tkE; rw [if_pos c, if_pos a]
      have hK : tkK T L p = 1 := by unfold tkK; rw [if_pos c, if_pos a]
      have h1 := tsc_le (P := tin 97 122 T) (L - tkS T L p) (tkS T L p)
      have h2 := tsc_step c a
      have h3 := tsc_ge (P := tin 97 122 T) (L - (tkS T L p + 1)) (tkS T L p + 1)
      rw [← h2] at h3
      have h4 := tsc_in (P := tin 97 122 T) (L - tkS T L p) (tkS T L p)
      rw [← hE] at h1 h3 h4
      rw [hK]
      exact ⟨by omega, by omega, by omega, by omega, fun _ => ⟨by omega, fun i i1 i2 => tin_iff.mp (h4 i i1 i2)⟩, fun z => absurd z (by decide), ⟨fun z => absurd z (by decide), fun z => by omega⟩, fun _ => by omega⟩
    · by_cases d : tin 48 57 T (tkS T L p) = true
      · have hE : tkE T L p = tsc (tin 48 57 T) (L - tkS T L p) (tkS T L p) := by unfold tkE; rw [if_pos c, if_neg a, if_pos d]
        have hK : tkK T L p = if tkE T L p - tkS T L p ≤ 4 then 2 else 5 := by unfold tkK; rw [if_pos c, if_neg a, if_pos d]
        have h1 := tsc_le (P := tin 48 57 T) (L - tkS T L p) (tkS T L p)
        have h2 := tsc_step c d
        have h3 := tsc_ge (P := tin 48 57 T) (L - (tkS T L p + 1)) (tkS T L p + 1)
        rw [← h2] at h3
        have h4 := tsc_in (P := tin 48 57 T) (L - tkS T L p) (tkS T L p)
        rw [← hE] at h1 h3 h4
        rw [hK]
        by_cases q : tkE T L p - tkS T L p ≤ 4
        · rw [if_pos q]
          exact ⟨by omega, by omega, by omega, by omega, fun z => absurd z (by decide), fun _ => ⟨by omega, q, fun i i1 i2 => tin_iff.mp (h4 i i1 i2)⟩, ⟨fun z => absurd z (by decide), fun z => by omega⟩, fun _ => by omega⟩
        · rw [if_neg q]
          exact ⟨by omega, by omega, by omega, by omega, fun z => absurd z (by decide), fun z => absurd z (by decide), ⟨fun z => absurd z (by decide), fun z => by omega⟩, fun _ => by omega⟩
      · have hE : tkE T L p = tkS T L p + 1 := by unfold tkE; rw [if_pos c, if_neg a, if_neg d]
        have hK : tkK T L p = if T (tkS T L p) = 59 then 3 else 5 := by unfold tkK; rw [if_pos c, if_neg a, if_neg d]
        rw [hK, hE]
        by_cases q : T (tkS T L p) = 59
        · rw [if_pos q]
          exact ⟨by omega, by omega, by omega, by omega, fun z => absurd z (by decide), fun z => absurd z (by decide), ⟨fun z => absurd z (by decide), fun z => by omega⟩, fun _ => by omega⟩
        · rw [if_neg q]
          exact ⟨by omega, by omega, by omega, by omega, fun z => absurd z (by decide), fun z => absurd z (by decide), ⟨fun z => absurd z (by decide), fun z => by omega⟩, fun _ => by omega⟩
  · have hE : tkE T L p = tkS T L p := by unfold tkE; rw [if_neg c]
    have hK : tkK T L p = 4 := by unfold tkK; rw [if_neg c]
    rw [hK, hE]
    exact ⟨by omega, by omega, by omega, by omega, fun z => absurd z (by decide), fun z => absurd z (by decide), ⟨fun _ => by omega, fun _ => rfl⟩, fun z => absurd rfl z⟩
/-! the class's reader -/
theorem q_skip {L p : Nat} {xb : Nat → Int32} {T : Nat → Nat} (hL : L ≤ 400) (hp : p ≤ L) (hT : ∀ i, i < L → qby (xb i) = T i) : f_X5_skipBlanks (nI p) (nI L) (400, xb) = some (nI (tkS T L p)) := by
  have key : qW (f_X5_skipBlanks_l5 (nI L) (400, xb) (nI p)) (fun e => e = Sum.inl (nI (tkS T L p)) ∨ (e = Sum.inr () ∧ tkS T L p = L)) := by
    unfold f_X5_skipBlanks_l5
    refine qfor p L (fun i z => z = nI i ∧ tkS T L p = tsc (tbl T) (L - i) i) ⟨rfl, rfl⟩ hp (by omega) ?_ ?_
    · rintro i z - hi ⟨rfl, h⟩
      have hb := q_byteAt (xb := xb) hL hi
      rw [hT i hi] at hb
      have tl : T i < 256 := by rw [← hT i hi]; exact qby_lt _
      by_cases c : T i = 32
      · have g := h.trans (tsc_step hi (tbl_T (Or.inr c)))
        simp (disch := first | omega | assumption) only [f_X5_skipBlanks_b5, f_X5_skipBlanks_j35, hb, c, qn_lit, qn_ofNat, qn_neg1, qn_neg2, nI_add, pk_mul, qn_sub, qn_ltT, qn_ltF, qn_leT, qn_leF, qn_eqT, qn_eqF, qn_m1T, qn_m1F, qn_m1F2, qn_m1lt, qn_m1lt2, qn_m1le, qn_m1le2, qn_and1, qn_and3, qn_and7, qn_and15, qn_and31, qn_and255, qn_and2047, qn_shl, qn_shr, qn_or, qn_div, qn_modlt, Nat.reduceMod, Nat.reduceAdd, Nat.reduceMul, Nat.reducePow, Nat.reduceDiv, Nat.reduceSub, ↓reduceIte, qn_us, qn_un, not_true_eq_false, not_false_eq_true, true_and, and_true, qn_nn, qn_addm, qn_ngT, qn_ngF, qn_ngE, qn_ngE2, qn_ngL, qn_ngM, Nat.add_sub_cancel, qL, qS, qM, qV, qQ, qZ0, qZ1, qE_l, qE_r, qW_some]
        exact g
      · by_cases c2 : T i = 10
        · have g := h.trans (tsc_step hi (tbl_T (Or.inl c2)))
          simp (disch := first | omega | assumption) only [f_X5_skipBlanks_b5, f_X5_skipBlanks_j35, hb, c2, qn_lit, qn_ofNat, qn_neg1, qn_neg2, nI_add, pk_mul, qn_sub, qn_ltT, qn_ltF, qn_leT, qn_leF, qn_eqT, qn_eqF, qn_m1T, qn_m1F, qn_m1F2, qn_m1lt, qn_m1lt2, qn_m1le, qn_m1le2, qn_and1, qn_and3, qn_and7, qn_and15, qn_and31, qn_and255, qn_and2047, qn_shl, qn_shr, qn_or, qn_div, qn_modlt, Nat.reduceMod, Nat.reduceAdd, Nat.reduceMul, Nat.reducePow, Nat.reduceDiv, Nat.reduceSub, ↓reduceIte, qn_us, qn_un, not_true_eq_false, not_false_eq_true, true_and, and_true, qn_nn, qn_addm, qn_ngT, qn_ngF, qn_ngE, qn_ngE2, qn_ngL, qn_ngM, Nat.add_sub_cancel, qL, qS, qM, qV, qQ, qZ0, qZ1, qE_l, qE_r, qW_some]
          exact g
        · have g := h.trans (tsc_F (tbl_F c2 c))
          simp (disch := first | omega | assumption) only [f_X5_skipBlanks_b5, f_X5_skipBlanks_j35, hb, qn_lit, qn_ofNat, qn_neg1, qn_neg2, nI_add, pk_mul, qn_sub, qn_ltT, qn_ltF, qn_leT, qn_leF, qn_eqT, qn_eqF, qn_m1T, qn_m1F, qn_m1F2, qn_m1lt, qn_m1lt2, qn_m1le, qn_m1le2, qn_and1, qn_and3, qn_and7, qn_and15, qn_and31, qn_and255, qn_and2047, qn_shl, qn_shr, qn_or, qn_div, qn_modlt, Nat.reduceMod, Nat.reduceAdd, Nat.reduceMul, Nat.reducePow, Nat.reduceDiv, Nat.reduceSub, ↓reduceIte, qn_us, qn_un, not_true_eq_false, not_false_eq_true, true_and, and_true, qn_nn, qn_addm, qn_ngT, qn_ngF, qn_ngE, qn_ngE2, qn_ngL, qn_ngM, Nat.add_sub_cancel, qL, qS, qM, qV, qQ, qZ0, qZ1, qE_l, qE_r, qW_some]
          left
          rw [g]
    · rintro z ⟨rfl, h⟩
      rw [Nat.sub_self] at h
      simp (disch := first | omega | assumption) only [f_X5_skipBlanks_b5, qn_lit, qn_ofNat, qn_neg1, qn_neg2, nI_add, pk_mul, qn_sub, qn_ltT, qn_ltF, qn_leT, qn_leF, qn_eqT, qn_eqF, qn_m1T, qn_m1F, qn_m1F2, qn_m1lt, qn_m1lt2, qn_m1le, qn_m1le2, qn_and1, qn_and3, qn_and7, qn_and15, qn_and31, qn_and255, qn_and2047, qn_shl, qn_shr, qn_or, qn_div, qn_modlt, Nat.reduceMod, Nat.reduceAdd, Nat.reduceMul, Nat.reducePow, Nat.reduceDiv, Nat.reduceSub, ↓reduceIte, qn_us, qn_un, not_true_eq_false, not_false_eq_true, true_and, and_true, qn_nn, qn_addm, qn_ngT, qn_ngF, qn_ngE, qn_ngE2, qn_ngL, qn_ngM, Nat.add_sub_cancel, qL, qS, qM, qV, qQ, qZ0, qZ1, qE_l, qE_r, qW_some]
      exact Or.inr h
  obtain ⟨e, g1, g2 | ⟨g2, g3⟩⟩ := key
  · subst g2
    simp (disch := first | omega | assumption) only [f_X5_skipBlanks, g1, qn_lit, qn_ofNat, qn_neg1, qn_neg2, nI_add, pk_mul, qn_sub, qn_ltT, qn_ltF, qn_leT, qn_leF, qn_eqT, qn_eqF, qn_m1T, qn_m1F, qn_m1F2, qn_m1lt, qn_m1lt2, qn_m1le, qn_m1le2, qn_and1, qn_and3, qn_and7, qn_and15, qn_and31, qn_and255, qn_and2047, qn_shl, qn_shr, qn_or, qn_div, qn_modlt, Nat.reduceMod, Nat.reduceAdd, Nat.reduceMul, Nat.reducePow, Nat.reduceDiv, Nat.reduceSub, ↓reduceIte, qn_us, qn_un, not_true_eq_false, not_false_eq_true, true_and, and_true, qn_nn, qn_addm, qn_ngT, qn_ngF, qn_ngE, qn_ngE2, qn_ngL, qn_ngM, Nat.add_sub_cancel, qL, qS, qM, qV, qQ, qZ0, qZ1, qE_l, qE_r, qW_some]
  · subst g2
    simp (disch := first | omega | assumption) only [f_X5_skipBlanks, g1, g3, qn_lit, qn_ofNat, qn_neg1, qn_neg2, nI_add, pk_mul, qn_sub, qn_ltT, qn_ltF, qn_leT, qn_leF, qn_eqT, qn_eqF, qn_m1T, qn_m1F, qn_m1F2, qn_m1lt, qn_m1lt2, qn_m1le, qn_m1le2, qn_and1, qn_and3, qn_and7, qn_and15, qn_and31, qn_and255, qn_and2047, qn_shl, qn_shr, qn_or, qn_div, qn_modlt, Nat.reduceMod, Nat.reduceAdd, Nat.reduceMul, Nat.reducePow, Nat.reduceDiv, Nat.reduceSub, ↓reduceIte, qn_us, qn_un, not_true_eq_false, not_false_eq_true, true_and, and_true, qn_nn, qn_addm, qn_ngT, qn_ngF, qn_ngE, qn_ngE2, qn_ngL, qn_ngM, Nat.add_sub_cancel, qL, qS, qM, qV, qQ, qZ0, qZ1, qE_l, qE_r, qW_some]
theorem q_endOfRow {L s lo hi : Nat} {xb : Nat → Int32} {T : Nat → Nat} (hL : L ≤ 400) (hs : s ≤ L) (hT : ∀ i, i < L → qby (xb i) = T i) (hlo : lo < 1000) (hhi : hi < 1000) : f_X5_endOfRow (nI L) (nI s) (400, xb) (nI lo) (nI hi) = some (nI (tsc (tin lo hi T) (L - s) s)) := by
  have key : qW (f_X5_endOfRow_l5 (nI L) (400, xb) (nI lo) (nI hi) (nI s)) (fun e => e = Sum.inl (nI (tsc (tin lo hi T) (L - s) s)) ∨ (e = Sum.inr () ∧ tsc (tin lo hi T) (L - s) s = L)) := by
    unfold f_X5_endOfRow_l5
    refine qfor s L (fun i z => z = nI i ∧ tsc (tin lo hi T) (L - s) s = tsc (tin lo hi T) (L - i) i) ⟨rfl, rfl⟩ hs (by omega) ?_ ?_
    · rintro i z - hi2 ⟨rfl, h⟩
      have hb := q_byteAt (xb := xb) hL hi2
      rw [hT i hi2] at hb
      have tl : T i < 256 := by rw [← hT i hi2]; exact qby_lt _
      by_cases c : lo ≤ T i
      · by_cases c2 : T i ≤ hi
        · have g := h.trans (tsc_step hi2 (tin_iff.mpr ⟨c, c2⟩))
          simp (disch := first | omega | assumption) only [f_X5_endOfRow_b5, hb, qn_lit, qn_ofNat, qn_neg1, qn_neg2, nI_add, pk_mul, qn_sub, qn_ltT, qn_ltF, qn_leT, qn_leF, qn_eqT, qn_eqF, qn_m1T, qn_m1F, qn_m1F2, qn_m1lt, qn_m1lt2, qn_m1le, qn_m1le2, qn_and1, qn_and3, qn_and7, qn_and15, qn_and31, qn_and255, qn_and2047, qn_shl, qn_shr, qn_or, qn_div, qn_modlt, Nat.reduceMod, Nat.reduceAdd, Nat.reduceMul, Nat.reducePow, Nat.reduceDiv, Nat.reduceSub, ↓reduceIte, qn_us, qn_un, not_true_eq_false, not_false_eq_true, true_and, and_true, qn_nn, qn_addm, qn_ngT, qn_ngF, qn_ngE, qn_ngE2, qn_ngL, qn_ngM, Nat.add_sub_cancel, qL, qS, qM, qV, qQ, qZ0, qZ1, qE_l, qE_r, qW_some]
          exact g
        · have g := h.trans (tsc_F (tin_F (fun z => c2 z.2)))
          simp (disch := first | omega | assumption) only [f_X5_endOfRow_b5, hb, qn_lit, qn_ofNat, qn_neg1, qn_neg2, nI_add, pk_mul, qn_sub, qn_ltT, qn_ltF, qn_leT, qn_leF, qn_eqT, qn_eqF, qn_m1T, qn_m1F, qn_m1F2, qn_m1lt, qn_m1lt2, qn_m1le, qn_m1le2, qn_and1, qn_and3, qn_and7, qn_and15, qn_and31, qn_and255, qn_and2047, qn_shl, qn_shr, qn_or, qn_div, qn_modlt, Nat.reduceMod, Nat.reduceAdd, Nat.reduceMul, Nat.reducePow, Nat.reduceDiv, Nat.reduceSub, ↓reduceIte, qn_us, qn_un, not_true_eq_false, not_false_eq_true, true_and, and_true, qn_nn, qn_addm, qn_ngT, qn_ngF, qn_ngE, qn_ngE2, qn_ngL, qn_ngM, Nat.add_sub_cancel, qL, qS, qM, qV, qQ, qZ0, qZ1, qE_l, qE_r, qW_some]
          left
          rw [g]
      · have g := h.trans (tsc_F (tin_F (fun z => c z.1)))
        simp (disch := first | omega | assumption) only [f_X5_endOfRow_b5, hb, qn_lit, qn_ofNat, qn_neg1, qn_neg2, nI_add, pk_mul, qn_sub, qn_ltT, qn_ltF, qn_leT, qn_leF, qn_eqT, qn_eqF, qn_m1T, qn_m1F, qn_m1F2, qn_m1lt, qn_m1lt2, qn_m1le, qn_m1le2, qn_and1, qn_and3, qn_and7, qn_and15, qn_and31, qn_and255, qn_and2047, qn_shl, qn_shr, qn_or, qn_div, qn_modlt, Nat.reduceMod, Nat.reduceAdd, Nat.reduceMul, Nat.reducePow, Nat.reduceDiv, Nat.reduceSub, ↓reduceIte, qn_us, qn_un, not_true_eq_false, not_false_eq_true, true_and, and_true, qn_nn, qn_addm, qn_ngT, qn_ngF, qn_ngE, qn_ngE2, qn_ngL, qn_ngM, Nat.add_sub_cancel, qL, qS, qM, qV, qQ, qZ0, qZ1, qE_l, qE_r, qW_some]
        left
        rw [g]
    · rintro z ⟨rfl, h⟩
      rw [Nat.sub_self] at h
      simp (disch := first | omega | assumption) only [f_X5_endOfRow_b5, qn_lit, qn_ofNat, qn_neg1, qn_neg2, nI_add, pk_mul, qn_sub, qn_ltT, qn_ltF, qn_leT, qn_leF, qn_eqT, qn_eqF, qn_m1T, qn_m1F, qn_m1F2, qn_m1lt, qn_m1lt2, qn_m1le, qn_m1le2, qn_and1, qn_and3, qn_and7, qn_and15, qn_and31, qn_and255, qn_and2047, qn_shl, qn_shr, qn_or, qn_div, qn_modlt, Nat.reduceMod, Nat.reduceAdd, Nat.reduceMul, Nat.reducePow, Nat.reduceDiv, Nat.reduceSub, ↓reduceIte, qn_us, qn_un, not_true_eq_false, not_false_eq_true, true_and, and_true, qn_nn, qn_addm, qn_ngT, qn_ngF, qn_ngE, qn_ngE2, qn_ngL, qn_ngM, Nat.add_sub_cancel, qL, qS, qM, qV, qQ, qZ0, qZ1, qE_l, qE_r, qW_some]
      exact Or.inr h
  obtain ⟨e, g1, g2 | ⟨g2, g3⟩⟩ := key
  · subst g2
    simp (disch := first | omega | assumption) only [f_X5_endOfRow, g1, qn_lit, qn_ofNat, qn_neg1, qn_neg2, nI_add, pk_mul, qn_sub, qn_ltT, qn_ltF, qn_leT, qn_leF, qn_eqT, qn_eqF, qn_m1T, qn_m1F, qn_m1F2, qn_m1lt, qn_m1lt2, qn_m1le, qn_m1le2, qn_and1, qn_and3, qn_and7, qn_and15, qn_and31, qn_and255, qn_and2047, qn_shl, qn_shr, qn_or, qn_div, qn_modlt, Nat.reduceMod, Nat.reduceAdd, Nat.reduceMul, Nat.reducePow, Nat.reduceDiv, Nat.reduceSub, ↓reduceIte, qn_us, qn_un, not_true_eq_false, not_false_eq_true, true_and, and_true, qn_nn, qn_addm, qn_ngT, qn_ngF, qn_ngE, qn_ngE2, qn_ngL, qn_ngM, Nat.add_sub_cancel, qL, qS, qM, qV, qQ, qZ0, qZ1, qE_l, qE_r, qW_some]
  · subst g2
    simp (disch := first | omega | assumption) only [f_X5_endOfRow, g1, g3, qn_lit, qn_ofNat, qn_neg1, qn_neg2, nI_add, pk_mul, qn_sub, qn_ltT, qn_ltF, qn_leT, qn_leF, qn_eqT, qn_eqF, qn_m1T, qn_m1F, qn_m1F2, qn_m1lt, qn_m1lt2, qn_m1le, qn_m1le2, qn_and1, qn_and3, qn_and7, qn_and15, qn_and31, qn_and255, qn_and2047, qn_shl, qn_shr, qn_or, qn_div, qn_modlt, Nat.reduceMod, Nat.reduceAdd, Nat.reduceMul, Nat.reducePow, Nat.reduceDiv, Nat.reduceSub, ↓reduceIte, qn_us, qn_un, not_true_eq_false, not_false_eq_true, true_and, and_true, qn_nn, qn_addm, qn_ngT, qn_ngF, qn_ngE, qn_ngE2, qn_ngL, qn_ngM, Nat.add_sub_cancel, qL, qS, qM, qV, qQ, qZ0, qZ1, qE_l, qE_r, qW_some]
theorem q_next {L p : Nat} {xb : Nat → Int32} {T : Nat → Nat} (hL : L ≤ 400) (hp : p ≤ L) (hT : ∀ i, i < L → qby (xb i) = T i) (x y : Int32) : f_X5_next (nI L) (400, xb) (nI p) x y = some (nI (tkE T L p), nI (tkK T L p), nI (tkS T L p)) := by
  have sk := q_skip (xb := xb) hL hp hT
  have hs := tkS_le (T := T) hp
  have tk := tk_tok (T := T) hp
  have hE : tkE T L p = tkE T L p := rfl
  have hK : tkK T L p = tkK T L p := rfl
  conv at hE => rhs; unfold tkE
  conv at hK => rhs; unfold tkK
  rw [hE] at hK tk ⊢
  rw [hK] at tk ⊢
  generalize tkS T L p = s at *
  by_cases c : s < L
  · have hb := q_byteAt (xb := xb) hL c
    rw [hT s c] at hb
    have tl : T s < 256 := by rw [← hT s c]; exact qby_lt _
    have il : f_X5_isLetter (nI (T s)) = some (nI (if tin 97 122 T s = true then 1 else 0)) := by
      by_cases a : tin 97 122 T s = true
      · have a2 := tin_iff.mp a
        rw [if_pos a]
        simp (disch := first | omega | assumption) only [f_X5_isLetter, qn_lit, qn_ofNat, qn_neg1, qn_neg2, nI_add, pk_mul, qn_sub, qn_ltT, qn_ltF, qn_leT, qn_leF, qn_eqT, qn_eqF, qn_m1T, qn_m1F, qn_m1F2, qn_m1lt, qn_m1lt2, qn_m1le, qn_m1le2, qn_and1, qn_and3, qn_and7, qn_and15, qn_and31, qn_and255, qn_and2047, qn_shl, qn_shr, qn_or, qn_div, qn_modlt, Nat.reduceMod, Nat.reduceAdd, Nat.reduceMul, Nat.reducePow, Nat.reduceDiv, Nat.reduceSub, ↓reduceIte, qn_us, qn_un, not_true_eq_false, not_false_eq_true, true_and, and_true, qn_nn, qn_addm, qn_ngT, qn_ngF, qn_ngE, qn_ngE2, qn_ngL, qn_ngM, Nat.add_sub_cancel, qL, qS, qM, qV, qQ, qZ0, qZ1, qE_l, qE_r, qW_some]
      · rw [if_neg a]
        by_cases a3 : T s < 97
        · simp (disch := first | omega | assumption) only [f_X5_isLetter, qn_lit, qn_ofNat, qn_neg1, qn_neg2, nI_add, pk_mul, qn_sub, qn_ltT, qn_ltF, qn_leT, qn_leF, qn_eqT, qn_eqF, qn_m1T, qn_m1F, qn_m1F2, qn_m1lt, qn_m1lt2, qn_m1le, qn_m1le2, qn_and1, qn_and3, qn_and7, qn_and15, qn_and31, qn_and255, qn_and2047, qn_shl, qn_shr, qn_or, qn_div, qn_modlt, Nat.reduceMod, Nat.reduceAdd, Nat.reduceMul, Nat.reducePow, Nat.reduceDiv, Nat.reduceSub, ↓reduceIte, qn_us, qn_un, not_true_eq_false, not_false_eq_true, true_and, and_true, qn_nn, qn_addm, qn_ngT, qn_ngF, qn_ngE, qn_ngE2, qn_ngL, qn_ngM, Nat.add_sub_cancel, qL, qS, qM, qV, qQ, qZ0, qZ1, qE_l, qE_r, qW_some]
        · have a4 : 122 < T s := by
            refine Classical.byContradiction fun z => a (tin_iff.mpr ⟨by omega, by omega⟩)
          simp (disch := first | omega | assumption) only [f_X5_isLetter, qn_lit, qn_ofNat, qn_neg1, qn_neg2, nI_add, pk_mul, qn_sub, qn_ltT, qn_ltF, qn_leT, qn_leF, qn_eqT, qn_eqF, qn_m1T, qn_m1F, qn_m1F2, qn_m1lt, qn_m1lt2, qn_m1le, qn_m1le2, qn_and1, qn_and3, qn_and7, qn_and15, qn_and31, qn_and255, qn_and2047, qn_shl, qn_shr, qn_or, qn_div, qn_modlt, Nat.reduceMod, Nat.reduceAdd, Nat.reduceMul, Nat.reducePow, Nat.reduceDiv, Nat.reduceSub, ↓reduceIte, qn_us, qn_un, not_true_eq_false, not_false_eq_true, true_and, and_true, qn_nn, qn_addm, qn_ngT, qn_ngF, qn_ngE, qn_ngE2, qn_ngL, qn_ngM, Nat.add_sub_cancel, qL, qS, qM, qV, qQ, qZ0, qZ1, qE_l, qE_r, qW_some]
    rw [if_pos c, if_pos c]
    rw [if_pos c, if_pos c] at tk
    by_cases a : tin 97 122 T s = true
    · have er := q_endOfRow (xb := xb) (lo := 97) (hi := 122) hL hs.2 hT (by decide) (by decide)
      rw [if_pos a] at il
      rw [if_pos a, if_pos a]
      simp (disch := first | omega | assumption) only [f_X5_next, sk, hb, il, er, qn_lit, qn_ofNat, qn_neg1, qn_neg2, nI_add, pk_mul, qn_sub, qn_ltT, qn_ltF, qn_leT, qn_leF, qn_eqT, qn_eqF, qn_m1T, qn_m1F, qn_m1F2, qn_m1lt, qn_m1lt2, qn_m1le, qn_m1le2, qn_and1, qn_and3, qn_and7, qn_and15, qn_and31, qn_and255, qn_and2047, qn_shl, qn_shr, qn_or, qn_div, qn_modlt, Nat.reduceMod, Nat.reduceAdd, Nat.reduceMul, Nat.reducePow, Nat.reduceDiv, Nat.reduceSub, ↓reduceIte, qn_us, qn_un, not_true_eq_false, not_false_eq_true, true_and, and_true, qn_nn, qn_addm, qn_ngT, qn_ngF, qn_ngE, qn_ngE2, qn_ngL, qn_ngM, Nat.add_sub_cancel, qL, qS, qM, qV, qQ, qZ0, qZ1, qE_l, qE_r, qW_some]
    · rw [if_neg a] at il
      rw [if_neg a, if_neg a]
      by_cases d : tin 48 57 T s = true
      · have d2 := tin_iff.mp d
        have er := q_endOfRow (xb := xb) (lo := 48) (hi := 57) hL hs.2 hT (by decide) (by decide)
        have g1 := tsc_ge (P := tin 48 57 T) (L - s) s
        have g2 := tsc_le (P := tin 48 57 T) (L - s) s
        rw [if_pos d, if_pos d]
        generalize tsc (tin 48 57 T) (L - s) s = e at *
        by_cases q : e - s ≤ 4
        · rw [if_pos q]
          simp (disch := first | omega | assumption) only [f_X5_next, f_X5_next_j92, f_X5_size, sk, hb, il, er, qn_lit, qn_ofNat, qn_neg1, qn_neg2, nI_add, pk_mul, qn_sub, qn_ltT, qn_ltF, qn_leT, qn_leF, qn_eqT, qn_eqF, qn_m1T, qn_m1F, qn_m1F2, qn_m1lt, qn_m1lt2, qn_m1le, qn_m1le2, qn_and1, qn_and3, qn_and7, qn_and15, qn_and31, qn_and255, qn_and2047, qn_shl, qn_shr, qn_or, qn_div, qn_modlt, Nat.reduceMod, Nat.reduceAdd, Nat.reduceMul, Nat.reducePow, Nat.reduceDiv, Nat.reduceSub, ↓reduceIte, qn_us, qn_un, not_true_eq_false, not_false_eq_true, true_and, and_true, qn_nn, qn_addm, qn_ngT, qn_ngF, qn_ngE, qn_ngE2, qn_ngL, qn_ngM, Nat.add_sub_cancel, qL, qS, qM, qV, qQ, qZ0, qZ1, qE_l, qE_r, qW_some]
        · rw [if_neg q]
          simp (disch := first | omega | assumption) only [f_X5_next, f_X5_next_j92, f_X5_size, sk, hb, il, er, qn_lit, qn_ofNat, qn_neg1, qn_neg2, nI_add, pk_mul, qn_sub, qn_ltT, qn_ltF, qn_leT, qn_leF, qn_eqT, qn_eqF, qn_m1T, qn_m1F, qn_m1F2, qn_m1lt, qn_m1lt2, qn_m1le, qn_m1le2, qn_and1, qn_and3, qn_and7, qn_and15, qn_and31, qn_and255, qn_and2047, qn_shl, qn_shr, qn_or, qn_div, qn_modlt, Nat.reduceMod, Nat.reduceAdd, Nat.reduceMul, Nat.reducePow, Nat.reduceDiv, Nat.reduceSub, ↓reduceIte, qn_us, qn_un, not_true_eq_false, not_false_eq_true, true_and, and_true, qn_nn, qn_addm, qn_ngT, qn_ngF, qn_ngE, qn_ngE2, qn_ngL, qn_ngM, Nat.add_sub_cancel, qL, qS, qM, qV, qQ, qZ0, qZ1, qE_l, qE_r, qW_some]
      · rw [if_neg d, if_neg d]
        have go : f_X5_next (nI L) (400, xb) (nI p) x y = f_X5_next_j98 (nI (s + 1)) x (nI s) (nI (T s)) := by
          by_cases d3 : T s < 48
          · simp (disch := first | omega | assumption) only [f_X5_next, sk, hb, il, qn_lit, qn_ofNat, qn_neg1, qn_neg2, nI_add, pk_mul, qn_sub, qn_ltT, qn_ltF, qn_leT, qn_leF, qn_eqT, qn_eqF, qn_m1T, qn_m1F, qn_m1F2, qn_m1lt, qn_m1lt2, qn_m1le, qn_m1le2, qn_and1, qn_and3, qn_and7, qn_and15, qn_and31, qn_and255, qn_and2047, qn_shl, qn_shr, qn_or, qn_div, qn_modlt, Nat.reduceMod, Nat.reduceAdd, Nat.reduceMul, Nat.reducePow, Nat.reduceDiv, Nat.reduceSub, ↓reduceIte, qn_us, qn_un, not_true_eq_false, not_false_eq_true, true_and, and_true, qn_nn, qn_addm, qn_ngT, qn_ngF, qn_ngE, qn_ngE2, qn_ngL, qn_ngM, Nat.add_sub_cancel, qL, qS, qM, qV, qQ, qZ0, qZ1, qE_l, qE_r, qW_some]
          · have d4 : 57 < T s := by
              refine Classical.byContradiction fun z => d (tin_iff.mpr ⟨by omega, by omega⟩)
            simp (disch := first | omega | assumption) only [f_X5_next, sk, hb, il, qn_lit, qn_ofNat, qn_neg1, qn_neg2, nI_add, pk_mul, qn_sub, qn_ltT, qn_ltF, qn_leT, qn_leF, qn_eqT, qn_eqF, qn_m1T, qn_m1F, qn_m1F2, qn_m1lt, qn_m1lt2, qn_m1le, qn_m1le2, qn_and1, qn_and3, qn_and7, qn_and15, qn_and31, qn_and255, qn_and2047, qn_shl, qn_shr, qn_or, qn_div, qn_modlt, Nat.reduceMod, Nat.reduceAdd, Nat.reduceMul, Nat.reducePow, Nat.reduceDiv, Nat.reduceSub, ↓reduceIte, qn_us, qn_un, not_true_eq_false, not_false_eq_true, true_and, and_true, qn_nn, qn_addm, qn_ngT, qn_ngF, qn_ngE, qn_ngE2, qn_ngL, qn_ngM, Nat.add_sub_cancel, qL, qS, qM, qV, qQ, qZ0, qZ1, qE_l, qE_r, qW_some]
        rw [go]
        by_cases q : T s = 59
        · rw [if_pos q]
          simp (disch := first | omega | assumption) only [f_X5_next_j98, q, qn_lit, qn_ofNat, qn_neg1, qn_neg2, nI_add, pk_mul, qn_sub, qn_ltT, qn_ltF, qn_leT, qn_leF, qn_eqT, qn_eqF, qn_m1T, qn_m1F, qn_m1F2, qn_m1lt, qn_m1lt2, qn_m1le, qn_m1le2, qn_and1, qn_and3, qn_and7, qn_and15, qn_and31, qn_and255, qn_and2047, qn_shl, qn_shr, qn_or, qn_div, qn_modlt, Nat.reduceMod, Nat.reduceAdd, Nat.reduceMul, Nat.reducePow, Nat.reduceDiv, Nat.reduceSub, ↓reduceIte, qn_us, qn_un, not_true_eq_false, not_false_eq_true, true_and, and_true, qn_nn, qn_addm, qn_ngT, qn_ngF, qn_ngE, qn_ngE2, qn_ngL, qn_ngM, Nat.add_sub_cancel, qL, qS, qM, qV, qQ, qZ0, qZ1, qE_l, qE_r, qW_some]
        · rw [if_neg q]
          simp (disch := first | omega | assumption) only [f_X5_next_j98, qn_lit, qn_ofNat, qn_neg1, qn_neg2, nI_add, pk_mul, qn_sub, qn_ltT, qn_ltF, qn_leT, qn_leF, qn_eqT, qn_eqF, qn_m1T, qn_m1F, qn_m1F2, qn_m1lt, qn_m1lt2, qn_m1le, qn_m1le2, qn_and1, qn_and3, qn_and7, qn_and15, qn_and31, qn_and255, qn_and2047, qn_shl, qn_shr, qn_or, qn_div, qn_modlt, Nat.reduceMod, Nat.reduceAdd, Nat.reduceMul, Nat.reducePow, Nat.reduceDiv, Nat.reduceSub, ↓reduceIte, qn_us, qn_un, not_true_eq_false, not_false_eq_true, true_and, and_true, qn_nn, qn_addm, qn_ngT, qn_ngF, qn_ngE, qn_ngE2, qn_ngL, qn_ngM, Nat.add_sub_cancel, qL, qS, qM, qV, qQ, qZ0, qZ1, qE_l, qE_r, qW_some]
  · have hb := q_byteAt_out (xb := xb) (i := s) hL (by omega) (by omega)
    have il : f_X5_isLetter mI = some (nI 0) := by simp (disch := first | omega | assumption) only [f_X5_isLetter, qn_lit, qn_ofNat, qn_neg1, qn_neg2, nI_add, pk_mul, qn_sub, qn_ltT, qn_ltF, qn_leT, qn_leF, qn_eqT, qn_eqF, qn_m1T, qn_m1F, qn_m1F2, qn_m1lt, qn_m1lt2, qn_m1le, qn_m1le2, qn_and1, qn_and3, qn_and7, qn_and15, qn_and31, qn_and255, qn_and2047, qn_shl, qn_shr, qn_or, qn_div, qn_modlt, Nat.reduceMod, Nat.reduceAdd, Nat.reduceMul, Nat.reducePow, Nat.reduceDiv, Nat.reduceSub, ↓reduceIte, qn_us, qn_un, not_true_eq_false, not_false_eq_true, true_and, and_true, qn_nn, qn_addm, qn_ngT, qn_ngF, qn_ngE, qn_ngE2, qn_ngL, qn_ngM, Nat.add_sub_cancel, qL, qS, qM, qV, qQ, qZ0, qZ1, qE_l, qE_r, qW_some]
    rw [if_neg c, if_neg c]
    simp (disch := first | omega | assumption) only [f_X5_next, f_X5_next_j98, sk, hb, il, qn_lit, qn_ofNat, qn_neg1, qn_neg2, nI_add, pk_mul, qn_sub, qn_ltT, qn_ltF, qn_leT, qn_leF, qn_eqT, qn_eqF, qn_m1T, qn_m1F, qn_m1F2, qn_m1lt, qn_m1lt2, qn_m1le, qn_m1le2, qn_and1, qn_and3, qn_and7, qn_and15, qn_and31, qn_and255, qn_and2047, qn_shl, qn_shr, qn_or, qn_div, qn_modlt, Nat.reduceMod, Nat.reduceAdd, Nat.reduceMul, Nat.reducePow, Nat.reduceDiv, Nat.reduceSub, ↓reduceIte, qn_us, qn_un, not_true_eq_false, not_false_eq_true, true_and, and_true, qn_nn, qn_addm, qn_ngT, qn_ngF, qn_ngE, qn_ngE2, qn_ngL, qn_ngM, Nat.add_sub_cancel, qL, qS, qM, qV, qQ, qZ0, qZ1, qE_l, qE_r, qW_some]

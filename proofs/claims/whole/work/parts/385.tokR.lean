/-! the reference's tokens -/
def twv (f : Nat → Nat) : Nat → Nat
  | 0 => 0
  | m + 1 => twv f m * 256 + f m
def tnv (T : Nat → Nat) (s : Nat) : Nat → Nat
  | 0 => 0
  | m + 1 => if m < 4 then 10 * tnv T s m + (T (s + m) - 48) else tnv T s m
theorem twv_inj {f g : Nat → Nat} : ∀ (m m' : Nat), (∀ j, j < m → 1 ≤ f j ∧ f j < 256) → (∀ j, j < m' → 1 ≤ g j ∧ g j < 256) → twv f m = twv g m' → m = m' ∧ ∀ j, j < m → f j = g j := by
  intro m
  induction m with
  | zero =>
    intro m' _ hg h
    cases m' with
    | zero => exact ⟨rfl, fun j hj => absurd hj (by omega)⟩
    | succ k =>
      have := hg k (by omega)
      simp only [twv] at h
      omega
  | succ m ih =>
    intro m' hf hg h
    cases m' with
    | zero =>
      have := hf m (by omega)
      simp only [twv] at h
      omega
    | succ k =>
      have h1 := hf m (by omega)
      have h2 := hg k (by omega)
      simp only [twv] at h
      obtain ⟨e1, e2⟩ := ih k (fun j hj => hf j (by omega)) (fun j hj => hg j (by omega)) (by omega)
      subst e1
      refine ⟨rfl, fun j hj => ?_⟩
      by_cases e : j = m
      · subst e; omega
      · exact e2 j (by omega)
theorem twv_ext {f g : Nat → Nat} : ∀ m : Nat, (∀ j, j < m → f j = g j) → twv f m = twv g m := by
  intro m
  induction m with
  | zero => intro _; rfl
  | succ m ih =>
    intro h
    simp only [twv]
    rw [ih (fun j hj => h j (by omega)), h m (by omega)]
theorem twv_lt {f : Nat → Nat} : ∀ m : Nat, (∀ j, j < m → f j ≤ 122) → 255 * twv f m + 122 ≤ 122 * 256 ^ m := by
  intro m
  induction m with
  | zero => intro _; simp [twv]
  | succ m ih =>
    intro h
    have h1 := ih (fun j hj => h j (by omega))
    have h2 := h m (by omega)
    simp only [twv, Nat.pow_succ]
    omega
theorem twv_63 {f : Nat → Nat} {m : Nat} (hm : m ≤ 8) (h : ∀ j, j < m → f j ≤ 122) : twv f m < 9223372036854775808 := by
  have h1 := twv_lt m h
  have h2 : 256 ^ m ≤ 256 ^ 8 := Nat.pow_le_pow_right (by decide) hm
  have h3 : 256 ^ 8 = 18446744073709551616 := by decide
  omega
theorem tnv_lt {T : Nat → Nat} {s : Nat} : ∀ m : Nat, (∀ j, j < m → 48 ≤ T (s + j) ∧ T (s + j) ≤ 57) → (m = 0 → tnv T s m = 0) ∧ (m = 1 → tnv T s m ≤ 9) ∧ (m = 2 → tnv T s m ≤ 99) ∧ (m = 3 → tnv T s m ≤ 999) ∧ tnv T s m ≤ 9999 := by
  intro m
  induction m with
  | zero => intro _; simp [tnv]
  | succ m ih =>
    intro h
    obtain ⟨h0, h1, h2, h3, h4⟩ := ih (fun j hj => h j (by omega))
    have h5 := h m (by omega)
    simp only [tnv]
    by_cases c : m < 4
    · rw [if_pos c]
      refine ⟨fun z => by omega, fun z => ?_, fun z => ?_, fun z => ?_, ?_⟩
      · have := h0 (by omega); omega
      · have := h1 (by omega); omega
      · have := h2 (by omega); omega
      · have : m = 0 ∨ m = 1 ∨ m = 2 ∨ m = 3 := by omega
        rcases this with e | e | e | e
        · have := h0 e; omega
        · have := h1 e; omega
        · have := h2 e; omega
        · have := h3 e; omega
    · rw [if_neg c]
      exact ⟨fun z => by omega, fun z => by omega, fun z => by omega, fun z => by omega, h4⟩
theorem q_wsh {a b : Nat} (hb : b < 256) : (lN a <<< ((nI 8).toInt64 &&& (63 : Int64))) ||| (nI b).toInt64 = lN (a * 256 + b) := by
  have e1 : (nI 8).toInt64 &&& (63 : Int64) = (8 : Int64) := by decide +kernel
  rw [e1, nI_l (by omega)]
  apply Int64.toBitVec_inj.mp
  apply BitVec.eq_of_toNat_eq
  show ((lN a).toBitVec <<< ((8 : Int64).toBitVec.smod 64).toNat ||| (lN b).toBitVec).toNat = _
  have e2 : ((8 : Int64).toBitVec.smod 64).toNat = 8 := by decide +kernel
  have bv : ∀ n : Nat, (lN n).toBitVec.toNat = n % 18446744073709551616 := fun n => BitVec.toNat_ofNat n 64
  rw [e2, BitVec.toNat_or, BitVec.toNat_shiftLeft, Nat.shiftLeft_eq, bv, bv, bv]
  have h1 : a % 18446744073709551616 * 2 ^ 8 % 2 ^ 64 = 2 ^ 8 * (a % 72057594037927936) := by omega
  rw [h1, Nat.mod_eq_of_lt (show b < 18446744073709551616 by omega), ← Nat.two_pow_add_eq_or_of_lt (show b < 2 ^ 8 by omega)]
  omega
theorem q_skipR {L p : Nat} {rt : Nat → Int32} {T : Nat → Nat} {b l s v : Int32} {w : Int64} (hL : L ≤ 400) (hp : p ≤ L) (hT : ∀ i, i < L → qby (rt i) = T i) : f_X12_token_l0 (nI L) (1600, rt) b l s v w (nI p) = some (nI (tkS T L p)) := by
  have key : qW (f_X12_token_l0 (nI L) (1600, rt) b l s v w (nI p)) (fun e => e = nI (tkS T L p)) := by
    unfold f_X12_token_l0
    refine qfor p L (fun i z => z = nI i ∧ tkS T L p = tsc (tbl T) (L - i) i) ⟨rfl, rfl⟩ hp (by omega) ?_ ?_
    · rintro i z - hi ⟨rfl, h⟩
      have hb := q_see (rt := rt) hL hi
      rw [hT i hi] at hb
      have tl : T i < 256 := by rw [← hT i hi]; exact qby_lt _
      by_cases c : T i = 32
      · have g := h.trans (tsc_step hi (tbl_T (Or.inr c)))
        simp (disch := first | omega | assumption) only [f_X12_token_b0, f_X12_token_j18, hb, c, qn_lit, qn_ofNat, qn_neg1, qn_neg2, nI_add, pk_mul, qn_sub, qn_ltT, qn_ltF, qn_leT, qn_leF, qn_eqT, qn_eqF, qn_m1T, qn_m1F, qn_m1F2, qn_m1lt, qn_m1lt2, qn_m1le, qn_m1le2, qn_and1, qn_and3, qn_and7, qn_and15, qn_and31, qn_and255, qn_and2047, qn_shl, qn_shr, qn_or, qn_div, qn_modlt, Nat.reduceMod, Nat.reduceAdd, Nat.reduceMul, Nat.reducePow, Nat.reduceDiv, Nat.reduceSub, ↓reduceIte, qn_us, qn_un, not_true_eq_false, not_false_eq_true, true_and, and_true, qn_nn, qn_addm, qn_ngT, qn_ngF, qn_ngE, qn_ngE2, qn_ngL, qn_ngM, Nat.add_sub_cancel, qL, qS, qM, qV, qQ, qZ0, qZ1, qE_l, qE_r, qW_some]
        exact g
      · by_cases c2 : T i = 10
        · have g := h.trans (tsc_step hi (tbl_T (Or.inl c2)))
          simp (disch := first | omega | assumption) only [f_X12_token_b0, f_X12_token_j18, hb, c2, qn_lit, qn_ofNat, qn_neg1, qn_neg2, nI_add, pk_mul, qn_sub, qn_ltT, qn_ltF, qn_leT, qn_leF, qn_eqT, qn_eqF, qn_m1T, qn_m1F, qn_m1F2, qn_m1lt, qn_m1lt2, qn_m1le, qn_m1le2, qn_and1, qn_and3, qn_and7, qn_and15, qn_and31, qn_and255, qn_and2047, qn_shl, qn_shr, qn_or, qn_div, qn_modlt, Nat.reduceMod, Nat.reduceAdd, Nat.reduceMul, Nat.reducePow, Nat.reduceDiv, Nat.reduceSub, ↓reduceIte, qn_us, qn_un, not_true_eq_false, not_false_eq_true, true_and, and_true, qn_nn, qn_addm, qn_ngT, qn_ngF, qn_ngE, qn_ngE2, qn_ngL, qn_ngM, Nat.add_sub_cancel, qL, qS, qM, qV, qQ, qZ0, qZ1, qE_l, qE_r, qW_some]
          exact g
        · have g := h.trans (tsc_F (tbl_F c2 c))
          simp (disch := first | omega | assumption) only [f_X12_token_b0, f_X12_token_j18, hb, qn_lit, qn_ofNat, qn_neg1, qn_neg2, nI_add, pk_mul, qn_sub, qn_ltT, qn_ltF, qn_leT, qn_leF, qn_eqT, qn_eqF, qn_m1T, qn_m1F, qn_m1F2, qn_m1lt, qn_m1lt2, qn_m1le, qn_m1le2, qn_and1, qn_and3, qn_and7, qn_and15, qn_and31, qn_and255, qn_and2047, qn_shl, qn_shr, qn_or, qn_div, qn_modlt, Nat.reduceMod, Nat.reduceAdd, Nat.reduceMul, Nat.reducePow, Nat.reduceDiv, Nat.reduceSub, ↓reduceIte, qn_us, qn_un, not_true_eq_false, not_false_eq_true, true_and, and_true, qn_nn, qn_addm, qn_ngT, qn_ngF, qn_ngE, qn_ngE2, qn_ngL, qn_ngM, Nat.add_sub_cancel, qL, qS, qM, qV, qQ, qZ0, qZ1, qE_l, qE_r, qW_some]
    · rintro z ⟨rfl, h⟩
      rw [Nat.sub_self] at h
      have hb := q_see_out (rt := rt) (i := L) hL (Nat.le_refl _) (by omega)
      simp (disch := first | omega | assumption) only [f_X12_token_b0, hb, qn_lit, qn_ofNat, qn_neg1, qn_neg2, nI_add, pk_mul, qn_sub, qn_ltT, qn_ltF, qn_leT, qn_leF, qn_eqT, qn_eqF, qn_m1T, qn_m1F, qn_m1F2, qn_m1lt, qn_m1lt2, qn_m1le, qn_m1le2, qn_and1, qn_and3, qn_and7, qn_and15, qn_and31, qn_and255, qn_and2047, qn_shl, qn_shr, qn_or, qn_div, qn_modlt, Nat.reduceMod, Nat.reduceAdd, Nat.reduceMul, Nat.reducePow, Nat.reduceDiv, Nat.reduceSub, ↓reduceIte, qn_us, qn_un, not_true_eq_false, not_false_eq_true, true_and, and_true, qn_nn, qn_addm, qn_ngT, qn_ngF, qn_ngE, qn_ngE2, qn_ngL, qn_ngM, Nat.add_sub_cancel, qL, qS, qM, qV, qQ, qZ0, qZ1, qE_l, qE_r, qW_some]
      rw [h]; rfl
  obtain ⟨e, g1, rfl⟩ := key
  exact g1
theorem q_in97 {v : Nat} (h : v < 256) {lo hi : Nat} (hlo : lo < 1000) (hhi : hi < 1000) : f_X12_in (nI v) (nI lo) (nI hi) = some (nI (if lo ≤ v ∧ v ≤ hi then 1 else 0)) := by
  by_cases c : lo ≤ v ∧ v ≤ hi
  · rw [if_pos c]
    exact q_in_T c.1 c.2 (by omega)
  · rw [if_neg c]
    exact q_in_F (by omega) (by omega) (by omega) (by omega)
theorem q_in97m {lo hi : Nat} (hlo : lo < 1000) : f_X12_in mI (nI lo) (nI hi) = some (nI 0) := by
  simp (disch := first | omega | assumption) only [f_X12_in, qn_lit, qn_ofNat, qn_neg1, qn_neg2, nI_add, pk_mul, qn_sub, qn_ltT, qn_ltF, qn_leT, qn_leF, qn_eqT, qn_eqF, qn_m1T, qn_m1F, qn_m1F2, qn_m1lt, qn_m1lt2, qn_m1le, qn_m1le2, qn_and1, qn_and3, qn_and7, qn_and15, qn_and31, qn_and255, qn_and2047, qn_shl, qn_shr, qn_or, qn_div, qn_modlt, Nat.reduceMod, Nat.reduceAdd, Nat.reduceMul, Nat.reducePow, Nat.reduceDiv, Nat.reduceSub, ↓reduceIte, qn_us, qn_un, not_true_eq_false, not_false_eq_true, true_and, and_true, qn_nn, qn_addm, qn_ngT, qn_ngF, qn_ngE, qn_ngE2, qn_ngL, qn_ngM, Nat.add_sub_cancel, qL, qS, qM, qV, qQ, qZ0, qZ1, qE_l, qE_r, qW_some]
/-- letters -/
theorem q_rowR {L s : Nat} {rt : Nat → Int32} {T : Nat → Nat} {b k v : Int32} (hL : L ≤ 400) (hs : s ≤ L) (hT : ∀ i, i < L → qby (rt i) = T i) {E : Nat} (hE : tsc (tin 97 122 T) (L - s) s = E) : f_X12_token_l84 (nI L) (1600, rt) b k v (nI s) (nI 0) (lN 0) = some (nI E, nI (E - s), lN (twv (fun j => T (s + j)) (E - s))) := by
  have key : qW (f_X12_token_l84 (nI L) (1600, rt) b k v (nI s) (nI 0) (lN 0)) (fun e => e = (nI E, nI (E - s), lN (twv (fun j => T (s + j)) (E - s)))) := by
    unfold f_X12_token_l84
    refine qfor s L (fun i z => z = (nI i, nI (i - s), lN (twv (fun j => T (s + j)) (i - s))) ∧ E = tsc (tin 97 122 T) (L - i) i) ⟨by rw [Nat.sub_self]; rfl, hE.symm⟩ hs (by omega) ?_ ?_
    · rintro i z hi1 hi ⟨rfl, h⟩
      have hb := q_see (rt := rt) hL hi
      rw [hT i hi] at hb
      have tl : T i < 256 := by rw [← hT i hi]; exact qby_lt _
      have hin := q_in97 tl (lo := 97) (hi := 122) (by decide) (by decide)
      by_cases c : 97 ≤ T i ∧ T i ≤ 122
      · have g := h.trans (tsc_step hi (tin_iff.mpr c))
        rw [if_pos c] at hin
        have e1 : i + 1 - s = (i - s) + 1 := by omega
        have e2 : twv (fun j => T (s + j)) (i - s) * 256 + T i = twv (fun j => T (s + j)) (i + 1 - s) := by
          rw [e1]
          simp only [twv]
          rw [show s + (i - s) = i by omega]
        have ws := q_wsh (a := twv (fun j => T (s + j)) (i - s)) tl
        rw [e2] at ws
        simp (disch := first | omega | assumption) only [f_X12_token_b84, hb, hin, ws, qn_lit, qn_ofNat, qn_neg1, qn_neg2, nI_add, pk_mul, qn_sub, qn_ltT, qn_ltF, qn_leT, qn_leF, qn_eqT, qn_eqF, qn_m1T, qn_m1F, qn_m1F2, qn_m1lt, qn_m1lt2, qn_m1le, qn_m1le2, qn_and1, qn_and3, qn_and7, qn_and15, qn_and31, qn_and255, qn_and2047, qn_shl, qn_shr, qn_or, qn_div, qn_modlt, Nat.reduceMod, Nat.reduceAdd, Nat.reduceMul, Nat.reducePow, Nat.reduceDiv, Nat.reduceSub, ↓reduceIte, qn_us, qn_un, not_true_eq_false, not_false_eq_true, true_and, and_true, qn_nn, qn_addm, qn_ngT, qn_ngF, qn_ngE, qn_ngE2, qn_ngL, qn_ngM, Nat.add_sub_cancel, qL, qS, qM, qV, qQ, qZ0, qZ1, qE_l, qE_r, qW_some]
        rw [e1]
        exact ⟨rfl, g⟩
      · have g := h.trans (tsc_F (tin_F c))
        rw [if_neg c] at hin
        simp (disch := first | omega | assumption) only [f_X12_token_b84, hb, hin, qn_lit, qn_ofNat, qn_neg1, qn_neg2, nI_add, pk_mul, qn_sub, qn_ltT, qn_ltF, qn_leT, qn_leF, qn_eqT, qn_eqF, qn_m1T, qn_m1F, qn_m1F2, qn_m1lt, qn_m1lt2, qn_m1le, qn_m1le2, qn_and1, qn_and3, qn_and7, qn_and15, qn_and31, qn_and255, qn_and2047, qn_shl, qn_shr, qn_or, qn_div, qn_modlt, Nat.reduceMod, Nat.reduceAdd, Nat.reduceMul, Nat.reducePow, Nat.reduceDiv, Nat.reduceSub, ↓reduceIte, qn_us, qn_un, not_true_eq_false, not_false_eq_true, true_and, and_true, qn_nn, qn_addm, qn_ngT, qn_ngF, qn_ngE, qn_ngE2, qn_ngL, qn_ngM, Nat.add_sub_cancel, qL, qS, qM, qV, qQ, qZ0, qZ1, qE_l, qE_r, qW_some]
        rw [g]
    · rintro z ⟨rfl, h⟩
      rw [Nat.sub_self] at h
      have h2 : E = L := h
      have hb := q_see_out (rt := rt) (i := L) hL (Nat.le_refl _) (by omega)
      have hin := q_in97m (lo := 97) (hi := 122) (by decide)
      simp (disch := first | omega | assumption) only [f_X12_token_b84, hb, hin, qn_lit, qn_ofNat, qn_neg1, qn_neg2, nI_add, pk_mul, qn_sub, qn_ltT, qn_ltF, qn_leT, qn_leF, qn_eqT, qn_eqF, qn_m1T, qn_m1F, qn_m1F2, qn_m1lt, qn_m1lt2, qn_m1le, qn_m1le2, qn_and1, qn_and3, qn_and7, qn_and15, qn_and31, qn_and255, qn_and2047, qn_shl, qn_shr, qn_or, qn_div, qn_modlt, Nat.reduceMod, Nat.reduceAdd, Nat.reduceMul, Nat.reducePow, Nat.reduceDiv, Nat.reduceSub, ↓reduceIte, qn_us, qn_un, not_true_eq_false, not_false_eq_true, true_and, and_true, qn_nn, qn_addm, qn_ngT, qn_ngF, qn_ngE, qn_ngE2, qn_ngL, qn_ngM, Nat.add_sub_cancel, qL, qS, qM, qV, qQ, qZ0, qZ1, qE_l, qE_r, qW_some]
      rw [h2]
  obtain ⟨e, g1, rfl⟩ := key
  exact g1
/-- digits -/
theorem q_digR {L s : Nat} {rt : Nat → Int32} {T : Nat → Nat} {b l k : Int32} {w : Int64} (hL : L ≤ 400) (hs : s ≤ L) (hT : ∀ i, i < L → qby (rt i) = T i) {E : Nat} (hE : tsc (tin 48 57 T) (L - s) s = E) : f_X12_token_l183 (nI L) (1600, rt) b l k w (nI s) (nI 0) (nI 0) = some (nI E, nI (tnv T s (E - s)), nI (E - s)) := by
  have key : qW (f_X12_token_l183 (nI L) (1600, rt) b l k w (nI s) (nI 0) (nI 0)) (fun e => e = (nI E, nI (tnv T s (E - s)), nI (E - s))) := by
    unfold f_X12_token_l183
    refine qfor s L (fun i z => z = (nI i, nI (tnv T s (i - s)), nI (i - s)) ∧ (∀ j, j < i - s → 48 ≤ T (s + j) ∧ T (s + j) ≤ 57) ∧ E = tsc (tin 48 57 T) (L - i) i) ⟨by rw [Nat.sub_self]; rfl, fun j hj => absurd hj (by omega), hE.symm⟩ hs (by omega) ?_ ?_
    · rintro i z hi1 hi ⟨rfl, hd, h⟩
      have hb := q_see (rt := rt) hL hi
      rw [hT i hi] at hb
      have tl : T i < 256 := by rw [← hT i hi]; exact qby_lt _
      have hin := q_in97 tl (lo := 48) (hi := 57) (by decide) (by decide)
      by_cases c : 48 ≤ T i ∧ T i ≤ 57
      · have g := h.trans (tsc_step hi (tin_iff.mpr c))
        rw [if_pos c] at hin
        have e1 : i + 1 - s = (i - s) + 1 := by omega
        have b4 := (tnv_lt (T := T) (s := s) (i - s) hd).2.2.2.2
        have hd2 : ∀ j, j < i + 1 - s → 48 ≤ T (s + j) ∧ T (s + j) ≤ 57 := by
          intro j hj
          by_cases e : j = i - s
          · rw [e, show s + (i - s) = i by omega]; exact c
          · exact hd j (by omega)
        have e3 : s + (i - s) = i := by omega
        by_cases m4 : i - s < 4
        · have e2 : tnv T s (i + 1 - s) = 10 * tnv T s (i - s) + T i - 48 := by
            rw [e1]
            simp only [tnv]
            rw [if_pos m4, e3]
            omega
          generalize tnv T s (i - s) = v0 at *
          simp (disch := first | omega | assumption) only [f_X12_token_b183, f_X12_token_j225, hb, hin, qn_lit, qn_ofNat, qn_neg1, qn_neg2, nI_add, pk_mul, qn_sub, qn_ltT, qn_ltF, qn_leT, qn_leF, qn_eqT, qn_eqF, qn_m1T, qn_m1F, qn_m1F2, qn_m1lt, qn_m1lt2, qn_m1le, qn_m1le2, qn_and1, qn_and3, qn_and7, qn_and15, qn_and31, qn_and255, qn_and2047, qn_shl, qn_shr, qn_or, qn_div, qn_modlt, Nat.reduceMod, Nat.reduceAdd, Nat.reduceMul, Nat.reducePow, Nat.reduceDiv, Nat.reduceSub, ↓reduceIte, qn_us, qn_un, not_true_eq_false, not_false_eq_true, true_and, and_true, qn_nn, qn_addm, qn_ngT, qn_ngF, qn_ngE, qn_ngE2, qn_ngL, qn_ngM, Nat.add_sub_cancel, qL, qS, qM, qV, qQ, qZ0, qZ1, qE_l, qE_r, qW_some]
          rw [e2, e1]
          exact ⟨rfl, by rw [e1] at hd2; exact hd2, g⟩
        · have e2 : tnv T s (i + 1 - s) = tnv T s (i - s) := by
            rw [e1]
            simp only [tnv]
            rw [if_neg m4]
          generalize tnv T s (i - s) = v0 at *
          simp (disch := first | omega | assumption) only [f_X12_token_b183, f_X12_token_j225, hb, hin, qn_lit, qn_ofNat, qn_neg1, qn_neg2, nI_add, pk_mul, qn_sub, qn_ltT, qn_ltF, qn_leT, qn_leF, qn_eqT, qn_eqF, qn_m1T, qn_m1F, qn_m1F2, qn_m1lt, qn_m1lt2, qn_m1le, qn_m1le2, qn_and1, qn_and3, qn_and7, qn_and15, qn_and31, qn_and255, qn_and2047, qn_shl, qn_shr, qn_or, qn_div, qn_modlt, Nat.reduceMod, Nat.reduceAdd, Nat.reduceMul, Nat.reducePow, Nat.reduceDiv, Nat.reduceSub, ↓reduceIte, qn_us, qn_un, not_true_eq_false, not_false_eq_true, true_and, and_true, qn_nn, qn_addm, qn_ngT, qn_ngF, qn_ngE, qn_ngE2, qn_ngL, qn_ngM, Nat.add_sub_cancel, qL, qS, qM, qV, qQ, qZ0, qZ1, qE_l, qE_r, qW_some]
          rw [e2, e1]
          exact ⟨rfl, by rw [e1] at hd2; exact hd2, g⟩
      · have g := h.trans (tsc_F (tin_F c))
        rw [if_neg c] at hin
        simp (disch := first | omega | assumption) only [f_X12_token_b183, hb, hin, qn_lit, qn_ofNat, qn_neg1, qn_neg2, nI_add, pk_mul, qn_sub, qn_ltT, qn_ltF, qn_leT, qn_leF, qn_eqT, qn_eqF, qn_m1T, qn_m1F, qn_m1F2, qn_m1lt, qn_m1lt2, qn_m1le, qn_m1le2, qn_and1, qn_and3, qn_and7, qn_and15, qn_and31, qn_and255, qn_and2047, qn_shl, qn_shr, qn_or, qn_div, qn_modlt, Nat.reduceMod, Nat.reduceAdd, Nat.reduceMul, Nat.reducePow, Nat.reduceDiv, Nat.reduceSub, ↓reduceIte, qn_us, qn_un, not_true_eq_false, not_false_eq_true, true_and, and_true, qn_nn, qn_addm, qn_ngT, qn_ngF, qn_ngE, qn_ngE2, qn_ngL, qn_ngM, Nat.add_sub_cancel, qL, qS, qM, qV, qQ, qZ0, qZ1, qE_l, qE_r, qW_some]
        rw [g]
    · rintro z ⟨rfl, hd, h⟩
      rw [Nat.sub_self] at h
      have h2 : E = L := h
      have hb := q_see_out (rt := rt) (i := L) hL (Nat.le_refl _) (by omega)
      have hin := q_in97m (lo := 48) (hi := 57) (by decide)
      simp (disch := first | omega | assumption) only [f_X12_token_b183, hb, hin, qn_lit, qn_ofNat, qn_neg1, qn_neg2, nI_add, pk_mul, qn_sub, qn_ltT, qn_ltF, qn_leT, qn_leF, qn_eqT, qn_eqF, qn_m1T, qn_m1F, qn_m1F2, qn_m1lt, qn_m1lt2, qn_m1le, qn_m1le2, qn_and1, qn_and3, qn_and7, qn_and15, qn_and31, qn_and255, qn_and2047, qn_shl, qn_shr, qn_or, qn_div, qn_modlt, Nat.reduceMod, Nat.reduceAdd, Nat.reduceMul, Nat.reducePow, Nat.reduceDiv, Nat.reduceSub, ↓reduceIte, qn_us, qn_un, not_true_eq_false, not_false_eq_true, true_and, and_true, qn_nn, qn_addm, qn_ngT, qn_ngF, qn_ngE, qn_ngE2, qn_ngL, qn_ngM, Nat.add_sub_cancel, qL, qS, qM, qV, qQ, qZ0, qZ1, qE_l, qE_r, qW_some]
      rw [h2]
  obtain ⟨e, g1, rfl⟩ := key
  exact g1
def tk2 (k : Nat) : Nat := if k = 1 then 2 else if k = 2 then 3 else if k = 3 then 4 else if k = 4 then 0 else 1
theorem tk2_c {k : Nat} (h1 : 1 ≤ k) (h5 : k ≤ 5) : (k = 1 ∧ tk2 k = 2) ∨ (k = 2 ∧ tk2 k = 3) ∨ (k = 3 ∧ tk2 k = 4) ∨ (k = 4 ∧ tk2 k = 0) ∨ (k = 5 ∧ tk2 k = 1) := by
  have : k = 1 ∨ k = 2 ∨ k = 3 ∨ k = 4 ∨ k = 5 := by omega
  rcases this with rfl | rfl | rfl | rfl | rfl
  · exact Or.inl ⟨rfl, rfl⟩
  · exact Or.inr (Or.inl ⟨rfl, rfl⟩)
  · exact Or.inr (Or.inr (Or.inl ⟨rfl, rfl⟩))
  · exact Or.inr (Or.inr (Or.inr (Or.inl ⟨rfl, rfl⟩)))
  · exact Or.inr (Or.inr (Or.inr (Or.inr ⟨rfl, rfl⟩)))
def tkW (T : Nat → Nat) (s e k : Nat) : Nat := if k = 1 ∧ e - s ≤ 8 then twv (fun j => T (s + j)) (e - s) else 0
/-- the reference's state of a token -/
def qRk (T : Nat → Nat) (s e k : Nat) (a b l o v : Int32) (w : Int64) : Prop := a = nI e ∧ b = nI s ∧ l = nI (if k = 1 then e - s else 0) ∧ o = nI (tk2 k) ∧ (k = 2 → v = nI (tnv T s (e - s))) ∧ w = lN (tkW T s e k)
theorem q_token {L p : Nat} {rt : Nat → Int32} {T : Nat → Nat} (hL : L ≤ 400) (hp : p ≤ L) (hT : ∀ i, i < L → qby (rt i) = T i) (b l o v : Int32) (w : Int64) : ∃ a' b' l' o' v' w', f_X12_token (nI L) (1600, rt) (nI p) b l o v w = some (a', b', l', o', v', w') ∧ qRk T (tkS T L p) (tkE T L p) (tkK T L p) a' b' l' o' v' w' := by
  have sk := q_skipR (rt := rt) (b := b) (l := l) (s := o) (v := v) (w := w) hL hp hT
  have hs := tkS_le (T := T) hp
  have hE : tkE T L p = tkE T L p := rfl
  have hK : tkK T L p = tkK T L p := rfl
  conv at hE => rhs; unfold tkE
  conv at hK => rhs; unfold tkK
  rw [hE] at hK ⊢
  rw [hK]
  generalize tkS T L p = s at *
  have z0 : (0 : Int64) = lN 0 := rfl
  by_cases c : s < L
  · have hb := q_see (rt := rt) hL c
    rw [hT s c] at hb
    have tl : T s < 256 := by rw [← hT s c]; exact qby_lt _
    have i1 := q_in97 tl (lo := 97) (hi := 122) (by decide) (by decide)
    have i2 := q_in97 tl (lo := 48) (hi := 57) (by decide) (by decide)
    rw [if_pos c, if_pos c]
    by_cases a : tin 97 122 T s = true
    · have a2 := tin_iff.mp a
      rw [if_pos a2] at i1
      have r1 := q_rowR (rt := rt) (b := nI s) (k := o) (v := nI (T s)) hL hs.2 hT rfl
      have g1 := tsc_ge (P := tin 97 122 T) (L - s) s
      have g2 := tsc_le (P := tin 97 122 T) (L - s) s
      rw [if_pos a, if_pos a]
      generalize tsc (tin 97 122 T) (L - s) s = e at *
      by_cases q : e - s ≤ 8
      · refine ⟨nI e, nI s, nI (e - s), nI 2, nI (T s), lN (twv (fun j => T (s + j)) (e - s)), ?_, rfl, rfl, rfl, rfl, fun z => absurd z (by decide), ?_⟩
        · simp (disch := first | omega | assumption) only [f_X12_token, f_X12_token_j156, sk, hb, i1, z0, r1, qn_lit, qn_ofNat, qn_neg1, qn_neg2, nI_add, pk_mul, qn_sub, qn_ltT, qn_ltF, qn_leT, qn_leF, qn_eqT, qn_eqF, qn_m1T, qn_m1F, qn_m1F2, qn_m1lt, qn_m1lt2, qn_m1le, qn_m1le2, qn_and1, qn_and3, qn_and7, qn_and15, qn_and31, qn_and255, qn_and2047, qn_shl, qn_shr, qn_or, qn_div, qn_modlt, Nat.reduceMod, Nat.reduceAdd, Nat.reduceMul, Nat.reducePow, Nat.reduceDiv, Nat.reduceSub, ↓reduceIte, qn_us, qn_un, not_true_eq_false, not_false_eq_true, true_and, and_true, qn_nn, qn_addm, qn_ngT, qn_ngF, qn_ngE, qn_ngE2, qn_ngL, qn_ngM, Nat.add_sub_cancel, qL, qS, qM, qV, qQ, qZ0, qZ1, qE_l, qE_r, qW_some]
        · unfold tkW
          rw [if_pos ⟨rfl, q⟩]
      · refine ⟨nI e, nI s, nI (e - s), nI 2, nI (T s), lN 0, ?_, rfl, rfl, rfl, rfl, fun z => absurd z (by decide), ?_⟩
        · simp (disch := first | omega | assumption) only [f_X12_token, f_X12_token_j156, sk, hb, i1, z0, r1, qn_lit, qn_ofNat, qn_neg1, qn_neg2, nI_add, pk_mul, qn_sub, qn_ltT, qn_ltF, qn_leT, qn_leF, qn_eqT, qn_eqF, qn_m1T, qn_m1F, qn_m1F2, qn_m1lt, qn_m1lt2, qn_m1le, qn_m1le2, qn_and1, qn_and3, qn_and7, qn_and15, qn_and31, qn_and255, qn_and2047, qn_shl, qn_shr, qn_or, qn_div, qn_modlt, Nat.reduceMod, Nat.reduceAdd, Nat.reduceMul, Nat.reducePow, Nat.reduceDiv, Nat.reduceSub, ↓reduceIte, qn_us, qn_un, not_true_eq_false, not_false_eq_true, true_and, and_true, qn_nn, qn_addm, qn_ngT, qn_ngF, qn_ngE, qn_ngE2, qn_ngL, qn_ngM, Nat.add_sub_cancel, qL, qS, qM, qV, qQ, qZ0, qZ1, qE_l, qE_r, qW_some]
        · unfold tkW
          rw [if_neg (fun z => q z.2)]
    · have a2 : ¬ (97 ≤ T s ∧ T s ≤ 122) := fun z => a (tin_iff.mpr z)
      rw [if_neg a2] at i1
      rw [if_neg a, if_neg a]
      by_cases d : tin 48 57 T s = true
      · have d2 := tin_iff.mp d
        rw [if_pos d2] at i2
        have r1 := q_digR (rt := rt) (b := nI s) (l := nI 0) (k := o) (w := lN 0) hL hs.2 hT rfl
        have g1 := tsc_ge (P := tin 48 57 T) (L - s) s
        have g2 := tsc_le (P := tin 48 57 T) (L - s) s
        rw [if_pos d, if_pos d]
        generalize tsc (tin 48 57 T) (L - s) s = e at *
        by_cases q : e - s ≤ 4
        · rw [if_pos q]
          refine ⟨nI e, nI s, nI 0, nI 3, nI (tnv T s (e - s)), lN 0, ?_, rfl, rfl, rfl, rfl, fun _ => rfl, rfl⟩
          simp (disch := first | omega | assumption) only [f_X12_token, f_X12_token_j255, sk, hb, i1, i2, z0, r1, qn_lit, qn_ofNat, qn_neg1, qn_neg2, nI_add, pk_mul, qn_sub, qn_ltT, qn_ltF, qn_leT, qn_leF, qn_eqT, qn_eqF, qn_m1T, qn_m1F, qn_m1F2, qn_m1lt, qn_m1lt2, qn_m1le, qn_m1le2, qn_and1, qn_and3, qn_and7, qn_and15, qn_and31, qn_and255, qn_and2047, qn_shl, qn_shr, qn_or, qn_div, qn_modlt, Nat.reduceMod, Nat.reduceAdd, Nat.reduceMul, Nat.reducePow, Nat.reduceDiv, Nat.reduceSub, ↓reduceIte, qn_us, qn_un, not_true_eq_false, not_false_eq_true, true_and, and_true, qn_nn, qn_addm, qn_ngT, qn_ngF, qn_ngE, qn_ngE2, qn_ngL, qn_ngM, Nat.add_sub_cancel, qL, qS, qM, qV, qQ, qZ0, qZ1, qE_l, qE_r, qW_some]
        · rw [if_neg q]
          refine ⟨nI e, nI s, nI 0, nI 1, nI (tnv T s (e - s)), lN 0, ?_, rfl, rfl, rfl, rfl, fun z => absurd z (by decide), rfl⟩
          simp (disch := first | omega | assumption) only [f_X12_token, f_X12_token_j255, sk, hb, i1, i2, z0, r1, qn_lit, qn_ofNat, qn_neg1, qn_neg2, nI_add, pk_mul, qn_sub, qn_ltT, qn_ltF, qn_leT, qn_leF, qn_eqT, qn_eqF, qn_m1T, qn_m1F, qn_m1F2, qn_m1lt, qn_m1lt2, qn_m1le, qn_m1le2, qn_and1, qn_and3, qn_and7, qn_and15, qn_and31, qn_and255, qn_and2047, qn_shl, qn_shr, qn_or, qn_div, qn_modlt, Nat.reduceMod, Nat.reduceAdd, Nat.reduceMul, Nat.reducePow, Nat.reduceDiv, Nat.reduceSub, ↓reduceIte, qn_us, qn_un, not_true_eq_false, not_false_eq_true, true_and, and_true, qn_nn, qn_addm, qn_ngT, qn_ngF, qn_ngE, qn_ngE2, qn_ngL, qn_ngM, Nat.add_sub_cancel, qL, qS, qM, qV, qQ, qZ0, qZ1, qE_l, qE_r, qW_some]
      · have d2 : ¬ (48 ≤ T s ∧ T s ≤ 57) := fun z => d (tin_iff.mpr z)
        rw [if_neg d2] at i2
        rw [if_neg d, if_neg d]
        by_cases q : T s = 59
        · rw [if_pos q]
          refine ⟨nI (s + 1), nI s, nI 0, nI 4, nI (T s), lN 0, ?_, rfl, rfl, rfl, rfl, fun z => absurd z (by decide), rfl⟩
          simp (disch := first | omega | assumption) only [f_X12_token, f_X12_token_j283, sk, hb, i1, i2, z0, qn_lit, qn_ofNat, qn_neg1, qn_neg2, nI_add, pk_mul, qn_sub, qn_ltT, qn_ltF, qn_leT, qn_leF, qn_eqT, qn_eqF, qn_m1T, qn_m1F, qn_m1F2, qn_m1lt, qn_m1lt2, qn_m1le, qn_m1le2, qn_and1, qn_and3, qn_and7, qn_and15, qn_and31, qn_and255, qn_and2047, qn_shl, qn_shr, qn_or, qn_div, qn_modlt, Nat.reduceMod, Nat.reduceAdd, Nat.reduceMul, Nat.reducePow, Nat.reduceDiv, Nat.reduceSub, ↓reduceIte, qn_us, qn_un, not_true_eq_false, not_false_eq_true, true_and, and_true, qn_nn, qn_addm, qn_ngT, qn_ngF, qn_ngE, qn_ngE2, qn_ngL, qn_ngM, Nat.add_sub_cancel, qL, qS, qM, qV, qQ, qZ0, qZ1, qE_l, qE_r, qW_some]
        · rw [if_neg q]
          refine ⟨nI (s + 1), nI s, nI 0, nI 1, nI (T s), lN 0, ?_, rfl, rfl, rfl, rfl, fun z => absurd z (by decide), rfl⟩
          simp (disch := first | omega | assumption) only [f_X12_token, f_X12_token_j283, sk, hb, i1, i2, z0, qn_lit, qn_ofNat, qn_neg1, qn_neg2, nI_add, pk_mul, qn_sub, qn_ltT, qn_ltF, qn_leT, qn_leF, qn_eqT, qn_eqF, qn_m1T, qn_m1F, qn_m1F2, qn_m1lt, qn_m1lt2, qn_m1le, qn_m1le2, qn_and1, qn_and3, qn_and7, qn_and15, qn_and31, qn_and255, qn_and2047, qn_shl, qn_shr, qn_or, qn_div, qn_modlt, Nat.reduceMod, Nat.reduceAdd, Nat.reduceMul, Nat.reducePow, Nat.reduceDiv, Nat.reduceSub, ↓reduceIte, qn_us, qn_un, not_true_eq_false, not_false_eq_true, true_and, and_true, qn_nn, qn_addm, qn_ngT, qn_ngF, qn_ngE, qn_ngE2, qn_ngL, qn_ngM, Nat.add_sub_cancel, qL, qS, qM, qV, qQ, qZ0, qZ1, qE_l, qE_r, qW_some]
  · have hb := q_see_out (rt := rt) (i := s) hL (by omega) (by omega)
    rw [if_neg c, if_neg c]
    refine ⟨nI s, nI s, nI 0, nI 0, mI, lN 0, ?_, rfl, rfl, rfl, rfl, fun z => absurd z (by decide), rfl⟩
    have lm : (nI 0 ≤ mI) = False := eq_false (by decide)
    simp (disch := first | omega | assumption) only [f_X12_token, sk, hb, z0, lm, qn_lit, qn_ofNat, qn_neg1, qn_neg2, nI_add, pk_mul, qn_sub, qn_ltT, qn_ltF, qn_leT, qn_leF, qn_eqT, qn_eqF, qn_m1T, qn_m1F, qn_m1F2, qn_m1lt, qn_m1lt2, qn_m1le, qn_m1le2, qn_and1, qn_and3, qn_and7, qn_and15, qn_and31, qn_and255, qn_and2047, qn_shl, qn_shr, qn_or, qn_div, qn_modlt, Nat.reduceMod, Nat.reduceAdd, Nat.reduceMul, Nat.reducePow, Nat.reduceDiv, Nat.reduceSub, ↓reduceIte, qn_us, qn_un, not_true_eq_false, not_false_eq_true, true_and, and_true, qn_nn, qn_addm, qn_ngT, qn_ngF, qn_ngE, qn_ngE2, qn_ngL, qn_ngM, Nat.add_sub_cancel, qL, qS, qM, qV, qQ, qZ0, qZ1, qE_l, qE_r, qW_some]

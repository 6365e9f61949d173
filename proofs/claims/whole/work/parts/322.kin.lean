/-! kin words: a list of letters, as one number in the class, as a row in the reference -/
def qen : List Nat → Nat
  | [] => 0
  | l :: ls => l + 8 * qen ls
theorem q_getD {ls : List Nat} {i : Nat} (h : i < ls.length) : ls.getD i 0 = ls[i] := by
  rw [List.getD_eq_getElem?_getD, List.getElem?_eq_getElem h]
  rfl
theorem q_getD_out {ls : List Nat} {i : Nat} (h : ls.length ≤ i) : ls.getD i 0 = 0 := by
  rw [List.getD_eq_getElem?_getD, List.getElem?_eq_none h]
  rfl
def qA8 (ls : List Nat) : Prop := ∀ l, l ∈ ls → l < 8
theorem qA8_cons {l : Nat} {ls : List Nat} (h : qA8 (l :: ls)) : l < 8 ∧ qA8 ls := ⟨h l (List.mem_cons_self), fun k hk => h k (List.mem_cons_of_mem _ hk)⟩
theorem qA8_get {ls : List Nat} (h : qA8 ls) (i : Nat) : ls.getD i 0 < 8 := by
  by_cases hi : i < ls.length
  · rw [q_getD hi]
    exact h _ (List.getElem_mem hi)
  · rw [q_getD_out (by omega)]
    decide
theorem qen_lt {ls : List Nat} : qA8 ls → qen ls < 8 ^ ls.length := by
  induction ls with
  | nil => intro _; exact Nat.one_pos
  | cons l ls ih =>
    intro h
    obtain ⟨h1, h2⟩ := qA8_cons h
    have := ih h2
    simp only [qen, List.length_cons, Nat.pow_succ]
    omega
theorem qen_get {ls : List Nat} : qA8 ls → ∀ i, qen ls / 8 ^ i % 8 = ls.getD i 0 := by
  induction ls with
  | nil => intro _ i; simp [qen]
  | cons l ls ih =>
    intro h i
    obtain ⟨h1, h2⟩ := qA8_cons h
    cases i with
    | zero =>
      simp only [qen, Nat.pow_zero, Nat.div_one, List.getD_cons_zero]
      omega
    | succ i =>
      rw [List.getD_cons_succ, ← ih h2 i, Nat.pow_succ, Nat.mul_comm (8 ^ i) 8, ← Nat.div_div_eq_div_mul]
      simp only [qen]
      congr 2
      omega
theorem qen_app {ls : List Nat} (l : Nat) : qen (ls ++ [l]) = qen ls + 8 ^ ls.length * l := by
  induction ls with
  | nil => simp [qen]
  | cons k ls ih =>
    simp only [List.cons_append, qen, ih, List.length_cons, Nat.pow_succ]
    rw [Nat.mul_add, Nat.mul_comm (8 ^ ls.length) 8, Nat.mul_assoc]
    omega
def qkn (s : Nat) (ls : List Nat) : Nat := 268435456 * s + 16777216 * ls.length + qen ls
theorem qen_24 {ls : List Nat} (h : qA8 ls) (h8 : ls.length ≤ 8) : qen ls < 16777216 := by
  have h1 := qen_lt h
  have h2 : 8 ^ ls.length ≤ 8 ^ 8 := Nat.pow_le_pow_right (by decide) h8
  have h3 : 8 ^ 8 = 16777216 := by decide
  omega
theorem qkn_lt {s : Nat} {ls : List Nat} (hs : s < 2) (h : qA8 ls) (h8 : ls.length ≤ 8) : qkn s ls < 2147483648 := by
  have := qen_24 h h8
  unfold qkn
  omega
theorem q_kfrom {s : Nat} {ls : List Nat} (hs : s < 2) (h : qA8 ls) (h8 : ls.length ≤ 8) : f_X1_from (nI (qkn s ls)) = some (nI s) := by
  have h1 := qkn_lt hs h h8
  have h2 := qen_24 h h8
  have h3 : qkn s ls / 268435456 % 2 = s := by unfold qkn; omega
  simp (disch := first | omega | assumption) only [f_X1_from, qn_lit, qn_ofNat, qn_neg1, qn_neg2, nI_add, pk_mul, qn_sub, qn_ltT, qn_ltF, qn_leT, qn_leF, qn_eqT, qn_eqF, qn_m1T, qn_m1F, qn_m1F2, qn_m1lt, qn_m1lt2, qn_m1le, qn_m1le2, qn_and1, qn_and3, qn_and7, qn_and15, qn_and31, qn_and255, qn_and2047, qn_shl, qn_shr, qn_or, qn_div, qn_modlt, Nat.reduceMod, Nat.reduceAdd, Nat.reduceMul, Nat.reducePow, Nat.reduceDiv, Nat.reduceSub, ↓reduceIte, qn_us, qn_un, not_true_eq_false, not_false_eq_true, true_and, and_true, qn_nn, qn_addm, qn_ngT, qn_ngF, qn_ngE, qn_ngE2, qn_ngL, qn_ngM, Nat.add_sub_cancel, qL, qS, qM, qV, qQ, qZ0, qZ1, qE_l, qE_r, qW_some, h3]
theorem q_ksize {s : Nat} {ls : List Nat} (hs : s < 2) (h : qA8 ls) (h8 : ls.length ≤ 8) : f_X1_size (nI (qkn s ls)) = some (nI ls.length) := by
  have h1 := qkn_lt hs h h8
  have h2 := qen_24 h h8
  have h3 : qkn s ls / 16777216 % 16 = ls.length := by unfold qkn; omega
  simp (disch := first | omega | assumption) only [f_X1_size, qn_lit, qn_ofNat, qn_neg1, qn_neg2, nI_add, pk_mul, qn_sub, qn_ltT, qn_ltF, qn_leT, qn_leF, qn_eqT, qn_eqF, qn_m1T, qn_m1F, qn_m1F2, qn_m1lt, qn_m1lt2, qn_m1le, qn_m1le2, qn_and1, qn_and3, qn_and7, qn_and15, qn_and31, qn_and255, qn_and2047, qn_shl, qn_shr, qn_or, qn_div, qn_modlt, Nat.reduceMod, Nat.reduceAdd, Nat.reduceMul, Nat.reducePow, Nat.reduceDiv, Nat.reduceSub, ↓reduceIte, qn_us, qn_un, not_true_eq_false, not_false_eq_true, true_and, and_true, qn_nn, qn_addm, qn_ngT, qn_ngF, qn_ngE, qn_ngE2, qn_ngL, qn_ngM, Nat.add_sub_cancel, qL, qS, qM, qV, qQ, qZ0, qZ1, qE_l, qE_r, qW_some, h3]
theorem q_8pow (i : Nat) : 2 ^ (3 * i) = 8 ^ i := by rw [Nat.pow_mul]
theorem qkn_get {s : Nat} {ls : List Nat} (h : qA8 ls) (h8 : ls.length ≤ 8) {i : Nat} (hi : i < ls.length) : qkn s ls / 8 ^ i % 8 = ls.getD i 0 := by
  rw [← qen_get h i]
  unfold qkn
  have hi2 : i = 0 ∨ i = 1 ∨ i = 2 ∨ i = 3 ∨ i = 4 ∨ i = 5 ∨ i = 6 ∨ i = 7 := by omega
  rcases hi2 with rfl | rfl | rfl | rfl | rfl | rfl | rfl | rfl <;> simp only [Nat.reducePow] <;> omega
theorem q_klet {s : Nat} {ls : List Nat} (hs : s < 2) (h : qA8 ls) (h8 : ls.length ≤ 8) {i : Nat} (hi : i < ls.length) : f_X1_letterAt (nI (qkn s ls)) (nI i) = some (nI (ls.getD i 0)) := by
  have h1 := qkn_lt hs h h8
  have h3 := qkn_get (s := s) h h8 hi
  simp (disch := first | omega | assumption) only [f_X1_letterAt, qn_lit, qn_ofNat, qn_neg1, qn_neg2, nI_add, pk_mul, qn_sub, qn_ltT, qn_ltF, qn_leT, qn_leF, qn_eqT, qn_eqF, qn_m1T, qn_m1F, qn_m1F2, qn_m1lt, qn_m1lt2, qn_m1le, qn_m1le2, qn_and1, qn_and3, qn_and7, qn_and15, qn_and31, qn_and255, qn_and2047, qn_shl, qn_shr, qn_or, qn_div, qn_modlt, Nat.reduceMod, Nat.reduceAdd, Nat.reduceMul, Nat.reducePow, Nat.reduceDiv, Nat.reduceSub, ↓reduceIte, qn_us, qn_un, not_true_eq_false, not_false_eq_true, true_and, and_true, qn_nn, qn_addm, qn_ngT, qn_ngF, qn_ngE, qn_ngE2, qn_ngL, qn_ngM, Nat.add_sub_cancel, qL, qS, qM, qV, qQ, qZ0, qZ1, qE_l, qE_r, qW_some, q_8pow, h3]
def qto : Nat → List Nat → Nat
  | s, [] => s
  | _, l :: ls => qto (qsx l) ls
theorem qto_last : ∀ (ls : List Nat) (s : Nat), ls ≠ [] → qto s ls = qsx (ls.getD (ls.length - 1) 0) := by
  intro ls
  induction ls with
  | nil => intro s h; exact absurd rfl h
  | cons l ls ih =>
    intro s _
    cases ls with
    | nil => rfl
    | cons k ks =>
      show qto (qsx l) (k :: ks) = _
      rw [ih _ (by simp)]
      simp
theorem qto_lt {s : Nat} (hs : s < 2) : ∀ ls : List Nat, qto s ls < 2 := by
  intro ls
  cases ls with
  | nil => exact hs
  | cons l ls => rw [qto_last _ _ (by simp)]; exact qsx_lt _
theorem q_kto {s : Nat} {ls : List Nat} (hs : s < 2) (h : qA8 ls) (h8 : ls.length ≤ 8) : f_X1_to (nI (qkn s ls)) = some (nI (qto s ls)) := by
  cases hl : ls with
  | nil =>
    subst hl
    simp (disch := first | omega | assumption) only [f_X1_to, q_ksize hs h h8, q_kfrom hs h h8, List.length_nil, qn_lit, qn_ofNat, qn_neg1, qn_neg2, nI_add, pk_mul, qn_sub, qn_ltT, qn_ltF, qn_leT, qn_leF, qn_eqT, qn_eqF, qn_m1T, qn_m1F, qn_m1F2, qn_m1lt, qn_m1lt2, qn_m1le, qn_m1le2, qn_and1, qn_and3, qn_and7, qn_and15, qn_and31, qn_and255, qn_and2047, qn_shl, qn_shr, qn_or, qn_div, qn_modlt, Nat.reduceMod, Nat.reduceAdd, Nat.reduceMul, Nat.reducePow, Nat.reduceDiv, Nat.reduceSub, ↓reduceIte, qn_us, qn_un, not_true_eq_false, not_false_eq_true, true_and, and_true, qn_nn, qn_addm, qn_ngT, qn_ngF, qn_ngE, qn_ngE2, qn_ngL, qn_ngM, Nat.add_sub_cancel, qL, qS, qM, qV, qQ, qZ0, qZ1, qE_l, qE_r, qW_some]
    rfl
  | cons l ks =>
    rw [← hl]
    have h0 : ls ≠ [] := by rw [hl]; simp
    have h1 : 0 < ls.length := by rw [hl]; simp
    have h2 := qA8_get h (ls.length - 1)
    simp (disch := first | omega | assumption) only [f_X1_to, q_ksize hs h h8, q_klet hs h h8, q_sexOfL, qto_last ls s h0, qn_lit, qn_ofNat, qn_neg1, qn_neg2, nI_add, pk_mul, qn_sub, qn_ltT, qn_ltF, qn_leT, qn_leF, qn_eqT, qn_eqF, qn_m1T, qn_m1F, qn_m1F2, qn_m1lt, qn_m1lt2, qn_m1le, qn_m1le2, qn_and1, qn_and3, qn_and7, qn_and15, qn_and31, qn_and255, qn_and2047, qn_shl, qn_shr, qn_or, qn_div, qn_modlt, Nat.reduceMod, Nat.reduceAdd, Nat.reduceMul, Nat.reducePow, Nat.reduceDiv, Nat.reduceSub, ↓reduceIte, qn_us, qn_un, not_true_eq_false, not_false_eq_true, true_and, and_true, qn_nn, qn_addm, qn_ngT, qn_ngF, qn_ngE, qn_ngE2, qn_ngL, qn_ngM, Nat.add_sub_cancel, qL, qS, qM, qV, qQ, qZ0, qZ1, qE_l, qE_r, qW_some]
/-- the letters fit, one behind the other -/
def qok : Nat → List Nat → Prop
  | _, [] => True
  | s, l :: ls => l ≠ (if s = 1 then 6 else 7) ∧ qok (qsx l) ls
theorem qok_app : ∀ (ls : List Nat) (s l : Nat), qok s (ls ++ [l]) ↔ qok s ls ∧ l ≠ (if qto s ls = 1 then 6 else 7) := by
  intro ls
  induction ls with
  | nil => intro s l; simp only [List.nil_append, qok, qto, true_and, and_true]; exact Iff.rfl
  | cons k ls ih =>
    intro s l
    simp only [List.cons_append, qok, qto, ih]
    exact ⟨fun h => ⟨⟨h.1, h.2.1⟩, h.2.2⟩, fun h => ⟨h.1.1, h.1.2, h.2⟩⟩
theorem q_fits {s l : Nat} (hs : s < 2) (hl : l < 8) : f_X1_fits (nI s) (nI l) = some (nI (if l = (if s = 1 then 6 else 7) then 0 else 1)) := by
  have hs2 : s = 0 ∨ s = 1 := by omega
  have hl2 : l = 0 ∨ l = 1 ∨ l = 2 ∨ l = 3 ∨ l = 4 ∨ l = 5 ∨ l = 6 ∨ l = 7 := by omega
  rcases hs2 with rfl | rfl <;> rcases hl2 with rfl | rfl | rfl | rfl | rfl | rfl | rfl | rfl <;> decide +kernel
theorem q_mayStep {s l : Nat} (hs : s < 2) (hl : l < 8) : f_X12_mayStep (nI l) (nI s) = some (nI (if l = (if s = 1 then 6 else 7) then 0 else 1)) := by
  have hs2 : s = 0 ∨ s = 1 := by omega
  have hl2 : l = 0 ∨ l = 1 ∨ l = 2 ∨ l = 3 ∨ l = 4 ∨ l = 5 ∨ l = 6 ∨ l = 7 := by omega
  rcases hs2 with rfl | rfl <;> rcases hl2 with rfl | rfl | rfl | rfl | rfl | rfl | rfl | rfl <;> decide +kernel
theorem qkn_app {s : Nat} {ls : List Nat} (hs : s < 2) (h : qA8 ls) {l : Nat} (hl : l < 8) (h8 : ls.length < 8) : (qkn s ls + 16777216) ||| (8 ^ ls.length * l) = qkn s (ls ++ [l]) := by
  have h1 := qen_lt h
  have e1 : 8 ^ ls.length = 2 ^ (3 * ls.length) := (q_8pow _).symm
  have h3 : qA8 (ls ++ [l]) := fun k hk => by
    rcases List.mem_append.mp hk with hk | hk
    · exact h k hk
    · rw [List.mem_singleton.mp hk]; exact hl
  have h4 := qen_24 h3 (by simp; omega)
  have h5 := qen_24 h (by omega)
  rw [qen_app] at h4
  have e2 : qkn s ls + 16777216 = 2 ^ 24 * (s * 16 + (ls.length + 1)) ||| qen ls := by
    rw [← Nat.two_pow_add_eq_or_of_lt (by omega)]
    unfold qkn
    omega
  have e3 : qen ls ||| 8 ^ ls.length * l = qen ls + 8 ^ ls.length * l := by
    rw [Nat.or_comm, e1, ← Nat.two_pow_add_eq_or_of_lt (by rw [← e1]; exact h1)]
    omega
  rw [e2, Nat.or_assoc, e3, ← Nat.two_pow_add_eq_or_of_lt (by omega)]
  unfold qkn
  rw [qen_app]
  simp only [List.length_append, List.length_singleton]
  omega
/-- one letter more -/
theorem q_with {s : Nat} {ls : List Nat} (hs : s < 2) (h : qA8 ls) {l : Nat} (hl : l < 8) (h8 : ls.length < 8) (ho : l ≠ (if qto s ls = 1 then 6 else 7)) : f_X1_with (nI (qkn s ls)) (nI l) = some (nI (qkn s (ls ++ [l]))) := by
  have h1 := qkn_lt hs h (by omega)
  have h2 := qto_lt hs ls
  rw [← qkn_app hs h hl h8, ← q_8pow]
  simp (disch := first | omega | assumption) only [f_X1_with, q_ksize hs h (Nat.le_of_lt h8), q_kto hs h (Nat.le_of_lt h8), q_fits, if_neg ho, qn_lit, qn_ofNat, qn_neg1, qn_neg2, nI_add, pk_mul, qn_sub, qn_ltT, qn_ltF, qn_leT, qn_leF, qn_eqT, qn_eqF, qn_m1T, qn_m1F, qn_m1F2, qn_m1lt, qn_m1lt2, qn_m1le, qn_m1le2, qn_and1, qn_and3, qn_and7, qn_and15, qn_and31, qn_and255, qn_and2047, qn_shl, qn_shr, qn_or, qn_div, qn_modlt, Nat.reduceMod, Nat.reduceAdd, Nat.reduceMul, Nat.reducePow, Nat.reduceDiv, Nat.reduceSub, ↓reduceIte, qn_us, qn_un, not_true_eq_false, not_false_eq_true, true_and, and_true, qn_nn, qn_addm, qn_ngT, qn_ngF, qn_ngE, qn_ngE2, qn_ngL, qn_ngM, Nat.add_sub_cancel, qL, qS, qM, qV, qQ, qZ0, qZ1, qE_l, qE_r, qW_some]
theorem q_with_no {s : Nat} {ls : List Nat} (hs : s < 2) (h : qA8 ls) {l : Nat} (hl : l < 8) (h8 : ls.length ≤ 8) (ho : ls.length = 8 ∨ l = (if qto s ls = 1 then 6 else 7)) : f_X1_with (nI (qkn s ls)) (nI l) = some mI := by
  have h1 := qkn_lt hs h (by omega)
  have h2 := qto_lt hs ls
  by_cases h9 : ls.length = 8
  · simp (disch := first | omega | assumption) only [f_X1_with, q_ksize hs h h8, qn_lit, qn_ofNat, qn_neg1, qn_neg2, nI_add, pk_mul, qn_sub, qn_ltT, qn_ltF, qn_leT, qn_leF, qn_eqT, qn_eqF, qn_m1T, qn_m1F, qn_m1F2, qn_m1lt, qn_m1lt2, qn_m1le, qn_m1le2, qn_and1, qn_and3, qn_and7, qn_and15, qn_and31, qn_and255, qn_and2047, qn_shl, qn_shr, qn_or, qn_div, qn_modlt, Nat.reduceMod, Nat.reduceAdd, Nat.reduceMul, Nat.reducePow, Nat.reduceDiv, Nat.reduceSub, ↓reduceIte, qn_us, qn_un, not_true_eq_false, not_false_eq_true, true_and, and_true, qn_nn, qn_addm, qn_ngT, qn_ngF, qn_ngE, qn_ngE2, qn_ngL, qn_ngM, Nat.add_sub_cancel, qL, qS, qM, qV, qQ, qZ0, qZ1, qE_l, qE_r, qW_some]
  · have ho2 := ho.resolve_left h9
    simp (disch := first | omega | assumption) only [f_X1_with, q_ksize hs h h8, q_kto hs h h8, q_fits, if_pos ho2, qn_lit, qn_ofNat, qn_neg1, qn_neg2, nI_add, pk_mul, qn_sub, qn_ltT, qn_ltF, qn_leT, qn_leF, qn_eqT, qn_eqF, qn_m1T, qn_m1F, qn_m1F2, qn_m1lt, qn_m1lt2, qn_m1le, qn_m1le2, qn_and1, qn_and3, qn_and7, qn_and15, qn_and31, qn_and255, qn_and2047, qn_shl, qn_shr, qn_or, qn_div, qn_modlt, Nat.reduceMod, Nat.reduceAdd, Nat.reduceMul, Nat.reducePow, Nat.reduceDiv, Nat.reduceSub, ↓reduceIte, qn_us, qn_un, not_true_eq_false, not_false_eq_true, true_and, and_true, qn_nn, qn_addm, qn_ngT, qn_ngF, qn_ngE, qn_ngE2, qn_ngL, qn_ngM, Nat.add_sub_cancel, qL, qS, qM, qV, qQ, qZ0, qZ1, qE_l, qE_r, qW_some]
theorem q_with_m (l : Int32) : f_X1_with mI l = some mI := by
  simp (disch := first | omega | assumption) only [f_X1_with, qn_lit, qn_ofNat, qn_neg1, qn_neg2, nI_add, pk_mul, qn_sub, qn_ltT, qn_ltF, qn_leT, qn_leF, qn_eqT, qn_eqF, qn_m1T, qn_m1F, qn_m1F2, qn_m1lt, qn_m1lt2, qn_m1le, qn_m1le2, qn_and1, qn_and3, qn_and7, qn_and15, qn_and31, qn_and255, qn_and2047, qn_shl, qn_shr, qn_or, qn_div, qn_modlt, Nat.reduceMod, Nat.reduceAdd, Nat.reduceMul, Nat.reducePow, Nat.reduceDiv, Nat.reduceSub, ↓reduceIte, qn_us, qn_un, not_true_eq_false, not_false_eq_true, true_and, and_true, qn_nn, qn_addm, qn_ngT, qn_ngF, qn_ngE, qn_ngE2, qn_ngL, qn_ngM, Nat.add_sub_cancel, qL, qS, qM, qV, qQ, qZ0, qZ1, qE_l, qE_r, qW_some]
/-- the row f, from o on, spells ls -/
def qLt (o : Nat) (f : Nat → Int32) (ls : List Nat) : Prop := ∀ i, i < ls.length → f (o + i) = nI (ls.getD i 0)
theorem q_drop {ls : List Nat} {i : Nat} (h : i < ls.length) : ls.drop i = ls.getD i 0 :: ls.drop (i + 1) := by
  rw [List.drop_eq_getElem_cons h, q_getD h]
theorem q_walk {n o N : Nat} {W C V U : Nat → Nat} {ch cb we wb f : Nat → Int32} {ls : List Nat} (h : qH n W C V U) (h1 : qR 0 n we W) (h2 : qR 0 n ch C) (h3 : qR 0 n wb V) (h4 : qR 0 n cb U) (hN : N < 10000) (ho : o + ls.length ≤ N) (hf : qLt o f ls) (h8 : qA8 ls) {s x : Nat} (hs : s < 2) (hx : x < n) : f_X12_walk (N, f) (8, ch) (8, cb) (8, we) (8, wb) (nI o) (nI ls.length) (nI s) (nI x) = some (nI (qwk W C V U ls s x)) := by
  have hn := h.1
  have key : qW (f_X12_walk_l11 (N, f) (8, ch) (8, cb) (8, we) (8, wb) (nI o) (nI ls.length) (nI x) (nI s) (nI o)) (fun e => e = nI (qwk W C V U ls s x)) := by
    unfold f_X12_walk_l11
    refine qfor 0 ls.length (fun i z => ∃ y t, z = (nI y, nI t, nI (o + i)) ∧ y < n ∧ t < 2 ∧ qwk W C V U (ls.drop i) t y = qwk W C V U ls s x) ⟨x, s, rfl, hx, hs, rfl⟩ (by omega) (by omega) ?_ ?_
    · rintro i z - hi ⟨y, t, rfl, hy, ht, hq⟩
      have b1 := qA8_get h8 i
      have b2 := qsx_lt (ls.getD i 0)
      simp (disch := first | omega | assumption) only [f_X12_walk_b11, hf i hi, q_stepped h h1 h2 h3 h4 b1 ht hy, q_sexBehind, qn_lit, qn_ofNat, qn_neg1, qn_neg2, nI_add, pk_mul, qn_sub, qn_ltT, qn_ltF, qn_leT, qn_leF, qn_eqT, qn_eqF, qn_m1T, qn_m1F, qn_m1F2, qn_m1lt, qn_m1lt2, qn_m1le, qn_m1le2, qn_and1, qn_and3, qn_and7, qn_and15, qn_and31, qn_and255, qn_and2047, qn_shl, qn_shr, qn_or, qn_div, qn_modlt, Nat.reduceMod, Nat.reduceAdd, Nat.reduceMul, Nat.reducePow, Nat.reduceDiv, Nat.reduceSub, ↓reduceIte, qn_us, qn_un, not_true_eq_false, not_false_eq_true, true_and, and_true, qn_nn, qn_addm, qn_ngT, qn_ngF, qn_ngE, qn_ngE2, qn_ngL, qn_ngM, Nat.add_sub_cancel, qL, qS, qM, qV, qQ, qZ0, qZ1, qE_l, qE_r, qW_some]
      refine ⟨_, _, rfl, qst_lt h hy _ _, b2, ?_⟩
      rw [← hq, q_drop hi]
      rfl
    · rintro z ⟨y, t, rfl, hy, ht, hq⟩
      simp (disch := first | omega | assumption) only [f_X12_walk_b11, qn_lit, qn_ofNat, qn_neg1, qn_neg2, nI_add, pk_mul, qn_sub, qn_ltT, qn_ltF, qn_leT, qn_leF, qn_eqT, qn_eqF, qn_m1T, qn_m1F, qn_m1F2, qn_m1lt, qn_m1lt2, qn_m1le, qn_m1le2, qn_and1, qn_and3, qn_and7, qn_and15, qn_and31, qn_and255, qn_and2047, qn_shl, qn_shr, qn_or, qn_div, qn_modlt, Nat.reduceMod, Nat.reduceAdd, Nat.reduceMul, Nat.reducePow, Nat.reduceDiv, Nat.reduceSub, ↓reduceIte, qn_us, qn_un, not_true_eq_false, not_false_eq_true, true_and, and_true, qn_nn, qn_addm, qn_ngT, qn_ngF, qn_ngE, qn_ngE2, qn_ngL, qn_ngM, Nat.add_sub_cancel, qL, qS, qM, qV, qQ, qZ0, qZ1, qE_l, qE_r, qW_some]
      rw [← hq, List.drop_length]
      rfl
  obtain ⟨e, g1, rfl⟩ := key
  simp (disch := first | omega | assumption) only [f_X12_walk, g1, qn_lit, qn_ofNat, qn_neg1, qn_neg2, nI_add, pk_mul, qn_sub, qn_ltT, qn_ltF, qn_leT, qn_leF, qn_eqT, qn_eqF, qn_m1T, qn_m1F, qn_m1F2, qn_m1lt, qn_m1lt2, qn_m1le, qn_m1le2, qn_and1, qn_and3, qn_and7, qn_and15, qn_and31, qn_and255, qn_and2047, qn_shl, qn_shr, qn_or, qn_div, qn_modlt, Nat.reduceMod, Nat.reduceAdd, Nat.reduceMul, Nat.reducePow, Nat.reduceDiv, Nat.reduceSub, ↓reduceIte, qn_us, qn_un, not_true_eq_false, not_false_eq_true, true_and, and_true, qn_nn, qn_addm, qn_ngT, qn_ngF, qn_ngE, qn_ngE2, qn_ngL, qn_ngM, Nat.add_sub_cancel, qL, qS, qM, qV, qQ, qZ0, qZ1, qE_l, qE_r, qW_some]
theorem q_follow {n : Nat} {W C V U : Nat → Nat} {ch fa hu wi : Nat → Int32} {ls : List Nat} (h : qH n W C V U) (h1 : qR 0 n wi W) (h2 : qR 0 n ch C) (h3 : qR 0 n hu V) (h4 : qR 0 n fa U) (h8 : qA8 ls) (hl : ls.length ≤ 8) {s x : Nat} (hs : s < 2) (hx : x < n) : f_X10_follow (nI n) (8, ch) (8, fa) (8, hu) (8, wi) (nI (qkn s ls)) (nI x) = some (nI (qwk W C V U ls s x)) := by
  have hn := h.1
  have key : qW (f_X10_follow_l21 (8, ch) (8, fa) (8, hu) (8, wi) (nI (qkn s ls)) (nI s) (nI x) (nI 0)) (fun e => e = nI (qwk W C V U ls s x)) := by
    unfold f_X10_follow_l21
    refine qfor 0 ls.length (fun i z => ∃ y t, z = (nI t, nI y, nI i) ∧ y < n ∧ t < 2 ∧ qwk W C V U (ls.drop i) t y = qwk W C V U ls s x) ⟨x, s, rfl, hx, hs, rfl⟩ (by omega) (by omega) ?_ ?_
    · rintro i z - hi ⟨y, t, rfl, hy, ht, hq⟩
      have b1 := qA8_get h8 i
      have b2 := qsx_lt (ls.getD i 0)
      simp (disch := first | omega | assumption) only [f_X10_follow_b21, q_ksize hs h8 hl, q_klet hs h8 hl hi, q_step h h1 h2 h3 h4 b1 ht hy, q_sexOfL, qn_lit, qn_ofNat, qn_neg1, qn_neg2, nI_add, pk_mul, qn_sub, qn_ltT, qn_ltF, qn_leT, qn_leF, qn_eqT, qn_eqF, qn_m1T, qn_m1F, qn_m1F2, qn_m1lt, qn_m1lt2, qn_m1le, qn_m1le2, qn_and1, qn_and3, qn_and7, qn_and15, qn_and31, qn_and255, qn_and2047, qn_shl, qn_shr, qn_or, qn_div, qn_modlt, Nat.reduceMod, Nat.reduceAdd, Nat.reduceMul, Nat.reducePow, Nat.reduceDiv, Nat.reduceSub, ↓reduceIte, qn_us, qn_un, not_true_eq_false, not_false_eq_true, true_and, and_true, qn_nn, qn_addm, qn_ngT, qn_ngF, qn_ngE, qn_ngE2, qn_ngL, qn_ngM, Nat.add_sub_cancel, qL, qS, qM, qV, qQ, qZ0, qZ1, qE_l, qE_r, qW_some]
      refine ⟨_, _, rfl, qst_lt h hy _ _, b2, ?_⟩
      rw [← hq, q_drop hi]
      rfl
    · rintro z ⟨y, t, rfl, hy, ht, hq⟩
      simp (disch := first | omega | assumption) only [f_X10_follow_b21, q_ksize hs h8 hl, qn_lit, qn_ofNat, qn_neg1, qn_neg2, nI_add, pk_mul, qn_sub, qn_ltT, qn_ltF, qn_leT, qn_leF, qn_eqT, qn_eqF, qn_m1T, qn_m1F, qn_m1F2, qn_m1lt, qn_m1lt2, qn_m1le, qn_m1le2, qn_and1, qn_and3, qn_and7, qn_and15, qn_and31, qn_and255, qn_and2047, qn_shl, qn_shr, qn_or, qn_div, qn_modlt, Nat.reduceMod, Nat.reduceAdd, Nat.reduceMul, Nat.reducePow, Nat.reduceDiv, Nat.reduceSub, ↓reduceIte, qn_us, qn_un, not_true_eq_false, not_false_eq_true, true_and, and_true, qn_nn, qn_addm, qn_ngT, qn_ngF, qn_ngE, qn_ngE2, qn_ngL, qn_ngM, Nat.add_sub_cancel, qL, qS, qM, qV, qQ, qZ0, qZ1, qE_l, qE_r, qW_some]
      rw [← hq, List.drop_length]
      rfl
  obtain ⟨e, g1, rfl⟩ := key
  simp (disch := first | omega | assumption) only [f_X10_follow, f_X10_has, q_kfrom hs h8 hl, g1, qn_lit, qn_ofNat, qn_neg1, qn_neg2, nI_add, pk_mul, qn_sub, qn_ltT, qn_ltF, qn_leT, qn_leF, qn_eqT, qn_eqF, qn_m1T, qn_m1F, qn_m1F2, qn_m1lt, qn_m1lt2, qn_m1le, qn_m1le2, qn_and1, qn_and3, qn_and7, qn_and15, qn_and31, qn_and255, qn_and2047, qn_shl, qn_shr, qn_or, qn_div, qn_modlt, Nat.reduceMod, Nat.reduceAdd, Nat.reduceMul, Nat.reducePow, Nat.reduceDiv, Nat.reduceSub, ↓reduceIte, qn_us, qn_un, not_true_eq_false, not_false_eq_true, true_and, and_true, qn_nn, qn_addm, qn_ngT, qn_ngF, qn_ngE, qn_ngE2, qn_ngL, qn_ngM, Nat.add_sub_cancel, qL, qS, qM, qV, qQ, qZ0, qZ1, qE_l, qE_r, qW_some]
theorem q_follow_out {n : Nat} {A B C D : jA} {k x : Int32} (hn : n ≤ 8) (hx : qOut n x) : f_X10_follow (nI n) A B C D k x = some mI := by
  rcases hx with h | ⟨j, h1, h2, rfl⟩
  · simp (disch := first | omega | assumption) only [f_X10_follow, f_X10_has, qn_lit, qn_ofNat, qn_neg1, qn_neg2, nI_add, pk_mul, qn_sub, qn_ltT, qn_ltF, qn_leT, qn_leF, qn_eqT, qn_eqF, qn_m1T, qn_m1F, qn_m1F2, qn_m1lt, qn_m1lt2, qn_m1le, qn_m1le2, qn_and1, qn_and3, qn_and7, qn_and15, qn_and31, qn_and255, qn_and2047, qn_shl, qn_shr, qn_or, qn_div, qn_modlt, Nat.reduceMod, Nat.reduceAdd, Nat.reduceMul, Nat.reducePow, Nat.reduceDiv, Nat.reduceSub, ↓reduceIte, qn_us, qn_un, not_true_eq_false, not_false_eq_true, true_and, and_true, qn_nn, qn_addm, qn_ngT, qn_ngF, qn_ngE, qn_ngE2, qn_ngL, qn_ngM, Nat.add_sub_cancel, qL, qS, qM, qV, qQ, qZ0, qZ1, qE_l, qE_r, qW_some]
  · simp (disch := first | omega | assumption) only [f_X10_follow, f_X10_has, qn_lit, qn_ofNat, qn_neg1, qn_neg2, nI_add, pk_mul, qn_sub, qn_ltT, qn_ltF, qn_leT, qn_leF, qn_eqT, qn_eqF, qn_m1T, qn_m1F, qn_m1F2, qn_m1lt, qn_m1lt2, qn_m1le, qn_m1le2, qn_and1, qn_and3, qn_and7, qn_and15, qn_and31, qn_and255, qn_and2047, qn_shl, qn_shr, qn_or, qn_div, qn_modlt, Nat.reduceMod, Nat.reduceAdd, Nat.reduceMul, Nat.reducePow, Nat.reduceDiv, Nat.reduceSub, ↓reduceIte, qn_us, qn_un, not_true_eq_false, not_false_eq_true, true_and, and_true, qn_nn, qn_addm, qn_ngT, qn_ngF, qn_ngE, qn_ngE2, qn_ngL, qn_ngM, Nat.add_sub_cancel, qL, qS, qM, qV, qQ, qZ0, qZ1, qE_l, qE_r, qW_some]
theorem q_leadsTo {o N : Nat} {f : Nat → Int32} {ls : List Nat} (hN : N < 10000) (ho : o + ls.length ≤ N) (hf : qLt o f ls) (h8 : qA8 ls) {s : Nat} (hs : s < 2) : f_X12_leadsTo (N, f) (nI o) (nI ls.length) (nI s) = some (nI (qto s ls)) := by
  cases hl : ls with
  | nil =>
    simp (disch := first | omega | assumption) only [f_X12_leadsTo, List.length_nil, qn_lit, qn_ofNat, qn_neg1, qn_neg2, nI_add, pk_mul, qn_sub, qn_ltT, qn_ltF, qn_leT, qn_leF, qn_eqT, qn_eqF, qn_m1T, qn_m1F, qn_m1F2, qn_m1lt, qn_m1lt2, qn_m1le, qn_m1le2, qn_and1, qn_and3, qn_and7, qn_and15, qn_and31, qn_and255, qn_and2047, qn_shl, qn_shr, qn_or, qn_div, qn_modlt, Nat.reduceMod, Nat.reduceAdd, Nat.reduceMul, Nat.reducePow, Nat.reduceDiv, Nat.reduceSub, ↓reduceIte, qn_us, qn_un, not_true_eq_false, not_false_eq_true, true_and, and_true, qn_nn, qn_addm, qn_ngT, qn_ngF, qn_ngE, qn_ngE2, qn_ngL, qn_ngM, Nat.add_sub_cancel, qL, qS, qM, qV, qQ, qZ0, qZ1, qE_l, qE_r, qW_some]
    rfl
  | cons l ks =>
    rw [← hl]
    have h0 : ls ≠ [] := by rw [hl]; simp
    have h1 : 0 < ls.length := by rw [hl]; simp
    have h2 := qA8_get h8 (ls.length - 1)
    have h3 := hf (ls.length - 1) (by omega)
    have h4 : o + ls.length - 1 = o + (ls.length - 1) := by omega
    simp (disch := first | omega | assumption) only [f_X12_leadsTo, h4, h3, q_sexBehind, qto_last ls s h0, qn_lit, qn_ofNat, qn_neg1, qn_neg2, nI_add, pk_mul, qn_sub, qn_ltT, qn_ltF, qn_leT, qn_leF, qn_eqT, qn_eqF, qn_m1T, qn_m1F, qn_m1F2, qn_m1lt, qn_m1lt2, qn_m1le, qn_m1le2, qn_and1, qn_and3, qn_and7, qn_and15, qn_and31, qn_and255, qn_and2047, qn_shl, qn_shr, qn_or, qn_div, qn_modlt, Nat.reduceMod, Nat.reduceAdd, Nat.reduceMul, Nat.reducePow, Nat.reduceDiv, Nat.reduceSub, ↓reduceIte, qn_us, qn_un, not_true_eq_false, not_false_eq_true, true_and, and_true, qn_nn, qn_addm, qn_ngT, qn_ngF, qn_ngE, qn_ngE2, qn_ngL, qn_ngM, Nat.add_sub_cancel, qL, qS, qM, qV, qQ, qZ0, qZ1, qE_l, qE_r, qW_some]

/-! the search: nearest first, letters in their order -/
def qup (f : Nat → Nat) (k x : Nat) : Nat → Nat := fun j => if j = k then x else f j
theorem qup_s {f : Nat → Nat} {k x : Nat} : qup f k x k = x := if_pos rfl
theorem qup_n {f : Nat → Nat} {k x j : Nat} (h : j ≠ k) : qup f k x j = f j := if_neg h
abbrev qS3 : Type := List Nat × (Nat → Nat) × (Nat → Nat)
noncomputable def qb1 (de : Nat → Nat → Nat) (p l : Nat) (S : qS3) : qS3 := @ite _ (qal p l ∧ S.2.1 (de p l) = 0) (Classical.propDecidable _) (S.1 ++ [de p l], qup S.2.1 (de p l) (2 + (8 * p + l)), qup S.2.2 (de p l) (S.2.2 p + 1)) S
theorem qb1_T {de : Nat → Nat → Nat} {p l : Nat} {S : qS3} (h : qal p l) (h2 : S.2.1 (de p l) = 0) : qb1 de p l S = (S.1 ++ [de p l], qup S.2.1 (de p l) (2 + (8 * p + l)), qup S.2.2 (de p l) (S.2.2 p + 1)) := if_pos ⟨h, h2⟩
theorem qb1_F {de : Nat → Nat → Nat} {p l : Nat} {S : qS3} (h : ¬ (qal p l ∧ S.2.1 (de p l) = 0)) : qb1 de p l S = S := if_neg h
noncomputable def qb8 (de : Nat → Nat → Nat) (p : Nat) (S : qS3) : Nat → qS3
  | 0 => S
  | m + 1 => qb1 de p m (qb8 de p S m)
noncomputable def qbk (de : Nat → Nat → Nat) (s : Nat) : Nat → qS3
  | 0 => ([s], qup (fun _ => 0) s 1, fun _ => 0)
  | k + 1 => qb8 de ((qbk de s k).1.getD k 0) (qbk de s k) 8
/-- what holds of the search, at the head k, with m letters done there -/
def qbI (de : Nat → Nat → Nat) (M s : Nat) (S : qS3) (k m : Nat) : Prop := qNd S.1 ∧ (∀ i, i < S.1.length → S.1.getD i 0 < M) ∧ (∀ x, x < M → (S.2.1 x ≠ 0 ↔ x ∈ S.1)) ∧ (0 < S.1.length ∧ S.1.getD 0 0 = s ∧ S.2.1 s = 1 ∧ S.2.2 s = 0) ∧ (∀ x, x ∈ S.1 → x ≠ s → ∃ p l, l < 8 ∧ p ∈ S.1 ∧ S.2.1 x = 2 + (8 * p + l) ∧ S.2.2 x = S.2.2 p + 1) ∧ (∀ i j, i ≤ j → j < S.1.length → S.2.2 (S.1.getD i 0) ≤ S.2.2 (S.1.getD j 0)) ∧ (k < S.1.length → ∀ i, i < S.1.length → S.2.2 (S.1.getD i 0) ≤ S.2.2 (S.1.getD k 0) + 1) ∧ ∀ i l, i < S.1.length → l < 8 → (i < k ∨ (i = k ∧ l < m)) → qal (S.1.getD i 0) l → de (S.1.getD i 0) l ∈ S.1 ∧ S.2.2 (de (S.1.getD i 0) l) ≤ S.2.2 (S.1.getD i 0) + 1
theorem qbI_0 {de : Nat → Nat → Nat} {M s : Nat} (hs : s < M) : qbI de M s (qbk de s 0) 0 0 := by
  have l0 : (qbk de s 0).1 = [s] := rfl
  have p0 : (qbk de s 0).2.1 = qup (fun _ => 0) s 1 := rfl
  have d0 : (qbk de s 0).2.2 = fun _ => 0 := rfl
  unfold qbI
  rw [l0, p0, d0]
  have z : ∀ i, i < [s].length → i = 0 := fun i hi => by simp at hi; exact hi
  refine ⟨fun i j hi hj _ => by rw [z i hi, z j hj], fun i hi => by rw [z i hi]; exact hs, fun x hx => ?_, ⟨by simp, rfl, qup_s, rfl⟩, fun x hx hne => absurd (List.mem_singleton.mp hx) hne, fun i j _ _ => Nat.le_refl _, fun _ i hi => Nat.zero_le _, fun i l hi _ h => ?_⟩
  · by_cases e : x = s
    · rw [e, qup_s]; simp
    · rw [qup_n e]; simp [e]
  · omega
theorem q_getD_mem {L : List Nat} {i : Nat} (h : i < L.length) : L.getD i 0 ∈ L := q_mem.mpr ⟨i, h, rfl⟩
theorem qbI_1 {de : Nat → Nat → Nat} {M s : Nat} {S : qS3} {k m : Nat} (hde : ∀ p l, p < M → l < 8 → de p l < M) (h : qbI de M s S k m) (hk : k < S.1.length) (hm : m < 8) : qbI de M s (qb1 de (S.1.getD k 0) m S) k (m + 1) ∧ S.1.length ≤ (qb1 de (S.1.getD k 0) m S).1.length ∧ ∀ i, i < S.1.length → (qb1 de (S.1.getD k 0) m S).1.getD i 0 = S.1.getD i 0 := by
  obtain ⟨h1, h2, h3, h4, h5, h6, h7, h8⟩ := h
  have hpM := h2 k hk
  have hdM := hde _ m hpM hm
  by_cases c : qal (S.1.getD k 0) m ∧ S.2.1 (de (S.1.getD k 0) m) = 0
  · rw [qb1_T c.1 c.2]
    have hnew : ¬ de (S.1.getD k 0) m ∈ S.1 := fun q => absurd c.2 ((h3 _ hdM).mpr q)
    have hne : ∀ x, x ∈ S.1 → x ≠ de (S.1.getD k 0) m := fun x hx e => hnew (by rw [← e]; exact hx)
    have pm := q_getD_mem hk
    have dk : ∀ x, x ∈ S.1 → qup S.2.2 (de (S.1.getD k 0) m) (S.2.2 (S.1.getD k 0) + 1) x = S.2.2 x := fun x hx => qup_n (hne x hx)
    generalize hy : de (S.1.getD k 0) m = y at *
    have gl : ∀ i, i < S.1.length → (S.1 ++ [y]).getD i 0 = S.1.getD i 0 := fun i hi => q_getD_app hi
    have lenE : (S.1 ++ [y]).length = S.1.length + 1 := by simp
    refine ⟨⟨qNd_app h1 hnew, fun i hi => ?_, fun x hx => ?_, ⟨by simp, ?_, ?_, ?_⟩, fun x hx hxs => ?_, fun i j hij hj => ?_, fun _ i hi => ?_, fun i l hi hl hik hal => ?_⟩, by simp, gl⟩
    · dsimp only at hi ⊢
      rw [lenE] at hi
      by_cases q : i = S.1.length
      · rw [q, q_getD_new]; exact hdM
      · rw [gl i (by omega)]; exact h2 i (by omega)
    · dsimp only
      by_cases q : x = y
      · rw [q, qup_s]; simp
      · rw [qup_n q, h3 x hx]; simp [q]
    · dsimp only; rw [gl 0 h4.1]; exact h4.2.1
    · dsimp only
      rw [qup_n (hne s (by rw [← h4.2.1]; exact q_getD_mem h4.1))]
      exact h4.2.2.1
    · dsimp only
      rw [dk s (by rw [← h4.2.1]; exact q_getD_mem h4.1)]
      exact h4.2.2.2
    · dsimp only at hx ⊢
      by_cases q : x = y
      · refine ⟨S.1.getD k 0, m, hm, List.mem_append_left _ pm, by rw [q, qup_s], ?_⟩
        rw [q, qup_s, dk _ pm]
      · have hx2 : x ∈ S.1 := by
          rcases List.mem_append.mp hx with z | z
          · exact z
          · exact absurd (List.mem_singleton.mp z) q
        obtain ⟨p, l, e1, e2, e3, e4⟩ := h5 x hx2 hxs
        exact ⟨p, l, e1, List.mem_append_left _ e2, by rw [qup_n q]; exact e3, by rw [qup_n q, dk p e2]; exact e4⟩
    · dsimp only at hj ⊢
      rw [lenE] at hj
      by_cases q : j = S.1.length
      · rw [q, q_getD_new, qup_s]
        by_cases q2 : i = S.1.length
        · rw [q2, q_getD_new, qup_s]; exact Nat.le_refl _
        · rw [gl i (by omega), dk _ (q_getD_mem (show i < S.1.length by omega))]
          exact h7 hk i (by omega)
      · rw [gl j (by omega), gl i (by omega), dk _ (q_getD_mem (show i < S.1.length by omega)), dk _ (q_getD_mem (show j < S.1.length by omega))]
        exact h6 i j hij (by omega)
    · dsimp only at hi ⊢
      rw [lenE] at hi
      rw [gl k hk, dk _ pm]
      by_cases q : i = S.1.length
      · rw [q, q_getD_new, qup_s]; exact Nat.le_refl _
      · rw [gl i (by omega), dk _ (q_getD_mem (show i < S.1.length by omega))]
        exact h7 hk i (by omega)
    · dsimp only at hi hal ⊢
      rw [lenE] at hi
      have hi2 : i < S.1.length := by omega
      rw [gl i hi2] at hal ⊢
      rw [dk _ (q_getD_mem hi2)]
      by_cases q : i = k ∧ l = m
      · rw [q.1, q.2, hy, qup_s]
        exact ⟨by simp, Nat.le_refl _⟩
      · have := h8 i l hi2 hl (by omega) hal
        refine ⟨List.mem_append_left _ this.1, ?_⟩
        rw [dk _ this.1]
        exact this.2
  · rw [qb1_F c]
    refine ⟨⟨h1, h2, h3, h4, h5, h6, h7, fun i l hi hl hik hal => ?_⟩, Nat.le_refl _, fun i hi => rfl⟩
    by_cases q : i = k ∧ l = m
    · rw [q.1, q.2]
      rw [q.1, q.2] at hal
      have hm2 : de (S.1.getD k 0) m ∈ S.1 := (h3 _ hdM).mp (fun z => c ⟨hal, z⟩)
      obtain ⟨j, j1, j2⟩ := q_mem.mp hm2
      refine ⟨hm2, ?_⟩
      rw [← j2]
      exact h7 hk j j1
    · exact h8 i l hi hl (by omega) hal
theorem qbI_8 {de : Nat → Nat → Nat} {M s : Nat} {S : qS3} {k : Nat} (hde : ∀ p l, p < M → l < 8 → de p l < M) (h : qbI de M s S k 0) (hk : k < S.1.length) : ∀ m, m ≤ 8 → qbI de M s (qb8 de (S.1.getD k 0) S m) k m ∧ S.1.length ≤ (qb8 de (S.1.getD k 0) S m).1.length ∧ ∀ i, i < S.1.length → (qb8 de (S.1.getD k 0) S m).1.getD i 0 = S.1.getD i 0 := by
  intro m
  induction m with
  | zero => intro _; exact ⟨h, Nat.le_refl _, fun i hi => rfl⟩
  | succ m ih =>
    intro hm
    obtain ⟨i1, i2, i3⟩ := ih (by omega)
    have := qbI_1 hde i1 (show k < _ by omega) (show m < 8 by omega)
    rw [i3 k hk] at this
    exact ⟨this.1, Nat.le_trans i2 this.2.1, fun i hi => by rw [← i3 i hi]; exact this.2.2 i (by omega)⟩
def qbg (de : Nat → Nat → Nat) (s k : Nat) : Prop := ∀ j, j < k → j < (qbk de s j).1.length
theorem qbI_k {de : Nat → Nat → Nat} {M s : Nat} (hde : ∀ p l, p < M → l < 8 → de p l < M) (hs : s < M) : ∀ k, qbg de s k → qbI de M s (qbk de s k) k 0 := by
  intro k
  induction k with
  | zero => intro _; exact qbI_0 hs
  | succ k ih =>
    intro hg
    have hk := hg k (by omega)
    obtain ⟨g1, g2, g3⟩ := qbI_8 hde (ih (fun j hj => hg j (by omega))) hk 8 (Nat.le_refl _)
    obtain ⟨h1, h2, h3, h4, h5, h6, h7, h8⟩ := g1
    refine ⟨h1, h2, h3, h4, h5, h6, fun hk2 i hi => ?_, fun i l hi hl hik hal => h8 i l hi hl (by omega) hal⟩
    have a1 := h7 (show k < (qb8 de ((qbk de s k).1.getD k 0) (qbk de s k) 8).1.length by omega) i hi
    have a2 := h6 k (k + 1) (by omega) hk2
    exact Nat.le_trans a1 (Nat.add_le_add_right a2 1)
theorem qbI_len {de : Nat → Nat → Nat} {M s : Nat} {S : qS3} {k m : Nat} (h : qbI de M s S k m) : S.1.length ≤ M := qpig M S.1.length (fun i => S.1.getD i 0) (fun i hi => h.2.1 i hi) (fun i j hi hj e => h.1 i j hi hj e)
def qbf (de : Nat → Nat → Nat) (s k : Nat) : Prop := qbg de s k ∧ (qbk de s k).1.length ≤ k
theorem qbf_u {de : Nat → Nat → Nat} {s a b : Nat} (h : qbf de s a) (g : qbf de s b) : a = b := by
  rcases Nat.lt_trichotomy a b with e | e | e
  · have h1 := g.1 a e
    have h2 := h.2
    omega
  · exact e
  · have h1 := h.1 b e
    have h2 := g.2
    omega
/-- the letters of the way to x -/
def qpt (par : Nat → Nat) : Nat → Nat → List Nat
  | 0, _ => []
  | d + 1, x => qpt par d ((par x - 2) / 8) ++ [(par x - 2) % 8]
theorem qpt_len (par : Nat → Nat) : ∀ d x, (qpt par d x).length = d := by
  intro d
  induction d with
  | zero => intro x; rfl
  | succ d ih => intro x; simp [qpt, ih]
theorem qpt_8 (par : Nat → Nat) : ∀ d x, qA8 (qpt par d x) := by
  intro d
  induction d with
  | zero => intro x l hl; cases hl
  | succ d ih =>
    intro x l hl
    rcases List.mem_append.mp hl with h | h
    · exact ih _ l h
    · rw [List.mem_singleton.mp h]
      exact Nat.mod_lt _ (by decide)
/-- a word leads no further than its letters -/
def qrun (de : Nat → Nat → Nat) : List Nat → Nat → Nat
  | [], p => p
  | l :: ls, p => qrun de ls (de p l)
def qrok : (Nat → Nat → Nat) → List Nat → Nat → Prop
  | _, [], _ => True
  | de, l :: ls, p => qal p l ∧ qrok de ls (de p l)
theorem qbf_dep {de : Nat → Nat → Nat} {M s k : Nat} (h : qbI de M s (qbk de s k) k 0) (hf : (qbk de s k).1.length ≤ k) : ∀ (ls : List Nat) (p : Nat), qA8 ls → p ∈ (qbk de s k).1 → qrok de ls p → qrun de ls p ∈ (qbk de s k).1 ∧ (qbk de s k).2.2 (qrun de ls p) ≤ (qbk de s k).2.2 p + ls.length := by
  intro ls
  induction ls with
  | nil => intro p _ hp _; exact ⟨hp, Nat.le_refl _⟩
  | cons l ls ih =>
    intro p h8 hp hr
    obtain ⟨i, i1, i2⟩ := q_mem.mp hp
    have hs := h.2.2.2.2.2.2.2 i l i1 (qA8_cons h8).1 (Or.inl (by omega)) (by rw [i2]; exact hr.1)
    rw [i2] at hs
    have := ih (de p l) (qA8_cons h8).2 hs.1 hr.2
    refine ⟨this.1, ?_⟩
    have e1 := this.2
    have e2 := hs.2
    show (qbk de s k).2.2 (qrun de ls (de p l)) ≤ _
    simp only [List.length_cons]
    omega

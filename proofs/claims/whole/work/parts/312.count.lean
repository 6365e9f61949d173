/-! counting what holds, and the k-th of it -/
noncomputable def qct (P : Nat → Prop) : Nat → Nat
  | 0 => 0
  | m + 1 => qct P m + @ite Nat (P m) (Classical.propDecidable _) 1 0
theorem qct_T {P : Nat → Prop} {m : Nat} (h : P m) : qct P (m + 1) = qct P m + 1 := by
  simp only [qct, if_pos h]
theorem qct_F {P : Nat → Prop} {m : Nat} (h : ¬ P m) : qct P (m + 1) = qct P m := by
  simp only [qct, if_neg h, Nat.add_zero]
theorem qct_le (P : Nat → Prop) (m : Nat) : qct P m ≤ m := by
  induction m with
  | zero => exact Nat.le_refl _
  | succ m ih =>
    by_cases h : P m
    · rw [qct_T h]; omega
    · rw [qct_F h]; omega
theorem qct_mono {P : Nat → Prop} {a b : Nat} (h : a ≤ b) : qct P a ≤ qct P b := by
  induction b with
  | zero => have : a = 0 := by omega
            subst this; exact Nat.le_refl _
  | succ b ih =>
    by_cases e : a = b + 1
    · rw [e]; exact Nat.le_refl _
    · have := ih (by omega)
      by_cases q : P b
      · rw [qct_T q]; omega
      · rw [qct_F q]; omega
theorem qct_ext {P Q : Nat → Prop} {m : Nat} (h : ∀ i, i < m → (P i ↔ Q i)) : qct P m = qct Q m := by
  induction m with
  | zero => rfl
  | succ m ih =>
    have h1 := ih (fun i hi => h i (by omega))
    have h2 := h m (by omega)
    by_cases q : P m
    · rw [qct_T q, qct_T (h2.mp q), h1]
    · rw [qct_F q, qct_F (fun z => q (h2.mpr z)), h1]
theorem qct_0 {P : Nat → Prop} {m : Nat} (h : qct P m = 0) {i : Nat} (hi : i < m) : ¬ P i := by
  intro hp
  have h1 := qct_T hp
  have h2 := qct_mono (P := P) (show i + 1 ≤ m by omega)
  omega
theorem qct_pos {P : Nat → Prop} {m : Nat} (h : 0 < qct P m) : ∃ i, i < m ∧ P i := by
  induction m with
  | zero => exact absurd h (Nat.lt_irrefl _)
  | succ m ih =>
    by_cases q : P m
    · exact ⟨m, by omega, q⟩
    · rw [qct_F q] at h
      obtain ⟨i, h1, h2⟩ := ih h
      exact ⟨i, by omega, h2⟩
/-- the k-th below N, or mI -/
def qkt (P : Nat → Prop) (N k : Nat) (r : Int32) : Prop := (∃ m, m < N ∧ P m ∧ qct P m = k ∧ r = nI m) ∨ (r = mI ∧ qct P N ≤ k)
theorem qkt_u {P : Nat → Prop} {N k : Nat} {r s : Int32} (h : qkt P N k r) (g : qkt P N k s) : r = s := by
  have key : ∀ a b, P a → P b → qct P a = k → qct P b = k → ¬ a < b := by
    intro a b ha hb e1 e2 hab
    have h1 := qct_T ha
    have h2 := qct_mono (P := P) (show a + 1 ≤ b by omega)
    omega
  have key2 : ∀ a, a < N → P a → qct P a = k → ¬ qct P N ≤ k := by
    intro a ha hp e hle
    have h1 := qct_T hp
    have h2 := qct_mono (P := P) (show a + 1 ≤ N by omega)
    omega
  rcases h with ⟨a, a1, a2, a3, rfl⟩ | ⟨rfl, h2⟩
  · rcases g with ⟨b, b1, b2, b3, rfl⟩ | ⟨rfl, g2⟩
    · have h1 := key a b a2 b2 a3 b3
      have h2 := key b a b2 a2 b3 a3
      have : a = b := by omega
      rw [this]
    · exact absurd g2 (key2 a a1 a2 a3)
  · rcases g with ⟨b, b1, b2, b3, rfl⟩ | ⟨rfl, g2⟩
    · exact absurd h2 (key2 b b1 b2 b3)
    · rfl
theorem qkt_ext {P Q : Nat → Prop} {N k : Nat} {r : Int32} (h : ∀ i, i < N → (P i ↔ Q i)) (g : qkt P N k r) : qkt Q N k r := by
  rcases g with ⟨a, a1, a2, a3, rfl⟩ | ⟨rfl, g2⟩
  · exact Or.inl ⟨a, a1, (h a a1).mp a2, by rw [← qct_ext (fun i hi => h i (by omega))]; exact a3, rfl⟩
  · exact Or.inr ⟨rfl, by rw [← qct_ext h]; exact g2⟩

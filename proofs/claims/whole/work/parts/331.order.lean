/-! steps done again and again; all classes come again after 15 at most -/
def qit (F : Nat → Nat) : Nat → Nat → Nat
  | 0, i => i
  | k + 1, i => F (qit F k i)
theorem qit_add (F : Nat → Nat) (a b i : Nat) : qit F (a + b) i = qit F a (qit F b i) := by
  induction a with
  | zero => rw [Nat.zero_add]; rfl
  | succ a ih => rw [Nat.succ_add]; show F _ = F _; rw [ih]
theorem qit_lt {n : Nat} {F : Nat → Nat} (h : qP n F) {i : Nat} (hi : i < n) (k : Nat) : qit F k i < n := by
  induction k with
  | zero => exact hi
  | succ k ih => exact h.1 _ ih
theorem qit_inj {n : Nat} {F : Nat → Nat} (h : qP n F) {i j : Nat} (hi : i < n) (hj : j < n) (k : Nat) : qit F k i = qit F k j → i = j := by
  induction k with
  | zero => intro e; exact e
  | succ k ih => intro e; exact ih (h.2 _ _ (qit_lt h hi k) (qit_lt h hj k) e)
theorem qit_mul {F : Nat → Nat} {i k : Nat} (h : qit F k i = i) (m : Nat) : qit F (k * m) i = i := by
  induction m with
  | zero => rfl
  | succ m ih => rw [Nat.mul_succ, qit_add, h, ih]
theorem qit_per {n : Nat} {F : Nat → Nat} (h : qP n F) {i : Nat} (hi : i < n) : ∃ k, 1 ≤ k ∧ k ≤ n ∧ qit F k i = i := by
  refine Classical.byContradiction fun hno => ?_
  have := qpig n (n + 1) (fun a => qit F a i) (fun a _ => qit_lt h hi a) (by
    have key : ∀ a b, a < b → b < n + 1 → qit F a i = qit F b i → False := by
      intro a b hab hb e
      refine hno ⟨b - a, by omega, by omega, ?_⟩
      have e2 : qit F b i = qit F a (qit F (b - a) i) := by rw [← qit_add]; congr 1; omega
      rw [e2] at e
      exact (qit_inj h hi (qit_lt h hi _) a e).symm
    intro a b ha hb e
    rcases Nat.lt_trichotomy a b with c | c | c
    · exact (key a b c hb e).elim
    · exact c
    · exact (key b a c ha e.symm).elim)
  omega
theorem qcnt (p : Nat → Bool) : ∀ (n m : Nat) (f : Nat → Nat), (∀ i, i < m → f i < n ∧ p (f i) = true) → (∀ i j, i < m → j < m → f i = f j → i = j) → m ≤ (List.range n).countP p := by
  intro n
  induction n with
  | zero =>
    intro m f h _
    cases m with
    | zero => exact Nat.zero_le _
    | succ m => exact absurd (h 0 (by omega)).1 (by omega)
  | succ n ih =>
    intro m f h hi
    rw [List.range_succ, List.countP_append, List.countP_singleton]
    by_cases hk : ∃ k, k < m ∧ f k = n
    · obtain ⟨k, hk1, hk2⟩ := hk
      have hp := (h k hk1).2
      rw [hk2] at hp
      rw [if_pos hp]
      have := ih (m - 1) (fun i => if i = k then f (m - 1) else f i) (by
        intro i hi1
        by_cases e : i = k
        · simp only [e, if_pos]
          have h1 := h (m - 1) (by omega)
          have h2 : f (m - 1) ≠ n := fun e2 => by
            have := hi (m - 1) k (by omega) hk1 (by rw [e2, hk2])
            omega
          exact ⟨by have := h1.1; omega, h1.2⟩
        · simp only [if_neg e]
          have h1 := h i (by omega)
          have h2 : f i ≠ n := fun e2 => e (hi i k (by omega) hk1 (by rw [e2, hk2]))
          exact ⟨by have := h1.1; omega, h1.2⟩) (by
        intro i j h1 h2 h3
        by_cases e1 : i = k
        · by_cases e2 : j = k
          · omega
          · simp only [e1, if_pos, if_neg e2] at h3
            have := hi (m - 1) j (by omega) (by omega) h3
            omega
        · by_cases e2 : j = k
          · simp only [e2, if_pos, if_neg e1] at h3
            have := hi i (m - 1) (by omega) (by omega) h3
            omega
          · simp only [if_neg e1, if_neg e2] at h3
            exact hi i j (by omega) (by omega) h3)
      omega
    · have := ih m f (fun i h1 => by
        have h2 := h i h1
        have h3 : f i ≠ n := fun e => hk ⟨i, h1, e⟩
        exact ⟨by have := h2.1; omega, h2.2⟩) hi
      omega
theorem qcnt_sum (L : Nat → Nat) (l : List Nat) : l.countP (fun j => L j == 1) + l.countP (fun j => L j == 2) + l.countP (fun j => L j == 3) + l.countP (fun j => L j == 4) + l.countP (fun j => L j == 5) + l.countP (fun j => L j == 6) + l.countP (fun j => L j == 7) + l.countP (fun j => L j == 8) ≤ l.length := by
  induction l with
  | nil => simp
  | cons a l ih =>
    simp only [List.countP_cons, List.length_cons]
    have e : ∀ k, (if (L a == k) = true then 1 else 0) = if L a = k then 1 else 0 := fun k => by simp
    simp only [e]
    have hk : (if L a = 1 then 1 else 0) + (if L a = 2 then 1 else 0) + (if L a = 3 then 1 else 0) + (if L a = 4 then 1 else 0) + (if L a = 5 then 1 else 0) + (if L a = 6 then 1 else 0) + (if L a = 7 then 1 else 0) + (if L a = 8 then 1 else 0) ≤ 1 := by
      have c : L a = 1 ∨ L a = 2 ∨ L a = 3 ∨ L a = 4 ∨ L a = 5 ∨ L a = 6 ∨ L a = 7 ∨ L a = 8 ∨ (L a ≠ 1 ∧ L a ≠ 2 ∧ L a ≠ 3 ∧ L a ≠ 4 ∧ L a ≠ 5 ∧ L a ≠ 6 ∧ L a ≠ 7 ∧ L a ≠ 8) := by omega
      rcases c with c | c | c | c | c | c | c | c | ⟨c1, c2, c3, c4, c5, c6, c7, c8⟩
      · rw [c]; decide
      · rw [c]; decide
      · rw [c]; decide
      · rw [c]; decide
      · rw [c]; decide
      · rw [c]; decide
      · rw [c]; decide
      · rw [c]; decide
      · rw [if_neg c1, if_neg c2, if_neg c3, if_neg c4, if_neg c5, if_neg c6, if_neg c7, if_neg c8]; decide
    omega
theorem qlcm : ∀ b1 b2 b3 b4 b5 b6 b7 b8 : Bool, 1 * b1.toNat + 2 * b2.toNat + 3 * b3.toNat + 4 * b4.toNat + 5 * b5.toNat + 6 * b6.toNat + 7 * b7.toNat + 8 * b8.toNat ≤ 8 → (List.range 16).any (fun t => decide (1 ≤ t) && (!b2 || decide (t % 2 = 0)) && (!b3 || decide (t % 3 = 0)) && (!b4 || decide (t % 4 = 0)) && (!b5 || decide (t % 5 = 0)) && (!b6 || decide (t % 6 = 0)) && (!b7 || decide (t % 7 = 0)) && (!b8 || decide (t % 8 = 0))) = true := by decide +kernel
theorem qimp {b c : Bool} (h : (!b || c) = true) (hb : b = true) : c = true := by subst hb; simpa using h
theorem qord {n : Nat} {F : Nat → Nat} (h : qP n F) (hn : n ≤ 8) : ∃ t, 1 ≤ t ∧ t ≤ 15 ∧ ∀ i, i < n → qit F t i = i := by
  have H : ∀ i, i < n → ∃ k, (1 ≤ k ∧ k ≤ n ∧ qit F k i = i) ∧ ∀ j, j < k → ¬ (1 ≤ j ∧ j ≤ n ∧ qit F j i = i) := fun i hi => pk_least _ (qit_per h hi)
  have HL : ∃ L : Nat → Nat, ∀ i, i < n → (1 ≤ L i ∧ L i ≤ n ∧ qit F (L i) i = i) ∧ ∀ j, j < L i → ¬ (1 ≤ j ∧ j ≤ n ∧ qit F j i = i) := by
    refine ⟨fun i => if hi : i < n then Classical.choose (H i hi) else 0, fun i hi => ?_⟩
    simp only [dif_pos hi]
    exact Classical.choose_spec (H i hi)
  obtain ⟨L, hL⟩ := HL
  have hinv : ∀ i, i < n → ∀ a, L (qit F a i) = L i := by
    intro i hi a
    have q : ∀ m, qit F m (qit F a i) = qit F a i ↔ qit F m i = i := by
      intro m
      rw [← qit_add, Nat.add_comm, qit_add]
      exact ⟨fun e => qit_inj h (qit_lt h hi m) hi a e, fun e => by rw [e]⟩
    have h1 := hL i hi
    have h2 := hL (qit F a i) (qit_lt h hi a)
    rcases Nat.lt_trichotomy (L (qit F a i)) (L i) with c | c | c
    · exact absurd ⟨h2.1.1, h2.1.2.1, (q _).mp h2.1.2.2⟩ (h1.2 _ c)
    · exact c
    · exact absurd ⟨h1.1.1, h1.1.2.1, (q _).mpr h1.1.2.2⟩ (h2.2 _ c)
  have hk : ∀ k, 0 < (List.range n).countP (fun j => L j == k) → k ≤ (List.range n).countP (fun j => L j == k) := by
    intro k hpos
    obtain ⟨i, hi1, hi2⟩ := List.countP_pos_iff.mp hpos
    have hi : i < n := List.mem_range.mp hi1
    have hik : L i = k := by simpa using hi2
    have h1 := hL i hi
    have key : ∀ a b, a < b → b < k → qit F a i = qit F b i → False := by
      intro a b hab hb e
      have e2 : qit F b i = qit F a (qit F (b - a) i) := by rw [← qit_add]; congr 1; omega
      rw [e2] at e
      exact h1.2 (b - a) (by omega) ⟨by omega, by omega, (qit_inj h hi (qit_lt h hi _) a e).symm⟩
    refine qcnt _ n k (fun a => qit F a i) (fun a ha => ⟨qit_lt h hi a, ?_⟩) (fun a b ha hb e => ?_)
    · simp only [hinv i hi a, hik, beq_self_eq_true]
    · rcases Nat.lt_trichotomy a b with c | c | c
      · exact (key a b c hb e).elim
      · exact c
      · exact (key b a c ha e.symm).elim
  have hs := qcnt_sum L (List.range n)
  rw [List.length_range] at hs
  have hb : ∀ k, k * (decide (0 < (List.range n).countP (fun j => L j == k))).toNat ≤ (List.range n).countP (fun j => L j == k) := by
    intro k
    by_cases q : 0 < (List.range n).countP (fun j => L j == k)
    · rw [decide_eq_true q]
      have := hk k q
      simpa using this
    · rw [decide_eq_false q]
      simp
  have h1 := hb 1
  have h2 := hb 2
  have h3 := hb 3
  have h4 := hb 4
  have h5 := hb 5
  have h6 := hb 6
  have h7 := hb 7
  have h8 := hb 8
  have hq := qlcm _ _ _ _ _ _ _ _ (show 1 * (decide (0 < (List.range n).countP (fun j => L j == 1))).toNat + 2 * (decide (0 < (List.range n).countP (fun j => L j == 2))).toNat + 3 * (decide (0 < (List.range n).countP (fun j => L j == 3))).toNat + 4 * (decide (0 < (List.range n).countP (fun j => L j == 4))).toNat + 5 * (decide (0 < (List.range n).countP (fun j => L j == 5))).toNat + 6 * (decide (0 < (List.range n).countP (fun j => L j == 6))).toNat + 7 * (decide (0 < (List.range n).countP (fun j => L j == 7))).toNat + 8 * (decide (0 < (List.range n).countP (fun j => L j == 8))).toNat ≤ 8 by omega)
  obtain ⟨t, ht, hq⟩ := List.any_eq_true.mp hq
  have ht2 := List.mem_range.mp ht
  simp only [Bool.and_eq_true] at hq
  obtain ⟨⟨⟨⟨⟨⟨⟨t1, t2⟩, t3⟩, t4⟩, t5⟩, t6⟩, t7⟩, t8⟩ := hq
  refine ⟨t, of_decide_eq_true t1, by omega, fun i hi => ?_⟩
  have g := (hL i hi).1
  have gp : 0 < (List.range n).countP (fun j => L j == L i) := List.countP_pos_iff.mpr ⟨i, List.mem_range.mpr hi, by simp⟩
  have gd : t % L i = 0 := by
    have c : L i = 1 ∨ L i = 2 ∨ L i = 3 ∨ L i = 4 ∨ L i = 5 ∨ L i = 6 ∨ L i = 7 ∨ L i = 8 := by omega
    rcases c with c | c | c | c | c | c | c | c <;> rw [c] at gp ⊢
    · omega
    · exact of_decide_eq_true (qimp t2 (decide_eq_true gp))
    · exact of_decide_eq_true (qimp t3 (decide_eq_true gp))
    · exact of_decide_eq_true (qimp t4 (decide_eq_true gp))
    · exact of_decide_eq_true (qimp t5 (decide_eq_true gp))
    · exact of_decide_eq_true (qimp t6 (decide_eq_true gp))
    · exact of_decide_eq_true (qimp t7 (decide_eq_true gp))
    · exact of_decide_eq_true (qimp t8 (decide_eq_true gp))
  have e : t = L i * (t / L i) := by
    have := Nat.div_add_mod t (L i)
    omega
  rw [e]
  exact qit_mul g.2.2 _

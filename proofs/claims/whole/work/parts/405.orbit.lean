/-! sums, and what is counted by orbits -/
noncomputable def qin (P : Prop) : Nat := @ite Nat P (Classical.propDecidable _) 1 0
theorem qin_T {P : Prop} (h : P) : qin P = 1 := by unfold qin; rw [if_pos h]
theorem qin_F {P : Prop} (h : ¬ P) : qin P = 0 := by unfold qin; rw [if_neg h]
theorem qin_iff {P Q : Prop} (h : P ↔ Q) : qin P = qin Q := by
  by_cases c : P
  · rw [qin_T c, qin_T (h.mp c)]
  · rw [qin_F c, qin_F (fun z => c (h.mpr z))]
def qsu (f : Nat → Nat) : Nat → Nat
  | 0 => 0
  | n + 1 => qsu f n + f n
theorem qsu_ext {f g : Nat → Nat} : ∀ n : Nat, (∀ i, i < n → f i = g i) → qsu f n = qsu g n := by
  intro n
  induction n with
  | zero => intro _; rfl
  | succ n ih =>
    intro h
    simp only [qsu]
    rw [ih (fun i hi => h i (by omega)), h n (by omega)]
theorem qsu_0 : ∀ n : Nat, qsu (fun _ => 0) n = 0 := by
  intro n
  induction n with
  | zero => rfl
  | succ n ih => simp only [qsu]; rw [ih]
theorem qsu_add {f g : Nat → Nat} : ∀ n : Nat, qsu (fun i => f i + g i) n = qsu f n + qsu g n := by
  intro n
  induction n with
  | zero => rfl
  | succ n ih => simp only [qsu]; rw [ih]; omega
theorem qsu_mul {f : Nat → Nat} (k : Nat) : ∀ n : Nat, qsu (fun i => k * f i) n = k * qsu f n := by
  intro n
  induction n with
  | zero => rfl
  | succ n ih => simp only [qsu]; rw [ih, Nat.mul_add]
theorem qsu_k (k : Nat) : ∀ n : Nat, qsu (fun _ => k) n = n * k := by
  intro n
  induction n with
  | zero => simp [qsu]
  | succ n ih => simp only [qsu]; rw [ih, Nat.add_mul, Nat.one_mul]
theorem qsu_swap {f : Nat → Nat → Nat} (m : Nat) : ∀ n : Nat, qsu (fun i => qsu (fun j => f i j) m) n = qsu (fun j => qsu (fun i => f i j) n) m := by
  intro n
  induction n with
  | zero => simp only [qsu]; exact (qsu_0 m).symm
  | succ n ih =>
    simp only [qsu]
    rw [ih, qsu_add]
theorem qsu_ct {P : Nat → Prop} : ∀ n : Nat, qct P n = qsu (fun i => qin (P i)) n := by
  intro n
  induction n with
  | zero => rfl
  | succ n ih =>
    by_cases c : P n
    · rw [qct_T c]; simp only [qsu]; rw [qin_T c, ih]
    · rw [qct_F c]; simp only [qsu]; rw [qin_F c, ih, Nat.add_zero]
/-- one place alone -/
theorem qsu_one {f : Nat → Nat} {k : Nat} : ∀ n : Nat, k < n → (∀ i, i < n → i ≠ k → f i = 0) → qsu f n = f k := by
  intro n
  induction n with
  | zero => intro h; omega
  | succ n ih =>
    intro hk h
    simp only [qsu]
    by_cases e : k = n
    · subst e
      rw [qsu_ext k (g := fun _ => 0) (fun i hi => h i (by omega) (by omega)), qsu_0, Nat.zero_add]
    · rw [ih (by omega) (fun i hi hne => h i (by omega) hne), h n (by omega) (by omega), Nat.add_zero]
/-- a sum does not change where its places are only moved -/
theorem qsu_inj {f : Nat → Nat} {s : Nat → Nat} {n : Nat} (hs : qP n s) : qsu (fun i => f (s i)) n = qsu f n := by
  have e1 : qsu (fun i => f (s i)) n = qsu (fun i => qsu (fun j => f j * qin (s i = j)) n) n := by
    refine qsu_ext n (fun i hi => ?_)
    rw [qsu_one (k := s i) n (hs.1 i hi) (fun j _ hne => by rw [qin_F (fun z => hne z.symm), Nat.mul_zero]), qin_T rfl, Nat.mul_one]
  rw [e1, qsu_swap n n]
  refine qsu_ext n (fun j hj => ?_)
  obtain ⟨i, i1, i2⟩ := qP_surj hs hj
  rw [qsu_one (k := i) n i1 (fun k hk hne => by rw [qin_F (fun z => hne (hs.2 k i hk i1 (by rw [z, i2]))), Nat.mul_zero]), qin_T i2, Nat.mul_one]
theorem qct_inj {P Q : Nat → Prop} {s : Nat → Nat} {n : Nat} (hs : qP n s) (h : ∀ i, i < n → (P i ↔ Q (s i))) : qct P n = qct Q n := by
  rw [qsu_ct, qsu_ct, ← qsu_inj (f := fun i => qin (Q i)) hs]
  exact qsu_ext n (fun i hi => qin_iff (h i hi))
/-- a group of N on M places -/
def qAc (N M : Nat) (a : Nat → Nat → Nat) (mu : Nat → Nat → Nat) (iv : Nat → Nat) (e : Nat) : Prop := e < N ∧ (∀ p, p < N → iv p < N) ∧ (∀ p q, p < N → q < N → mu p q < N) ∧ (∀ p, p < N → qP N (mu p)) ∧ (∀ q, q < N → qP N (fun p => mu p q)) ∧ (∀ p, p < N → qP M (a p)) ∧ (∀ m, m < M → a e m = m) ∧ (∀ p q m, p < N → q < N → m < M → a p (a q m) = a (mu p q) m) ∧ (∀ p m, p < N → m < M → a (iv p) (a p m) = m)
def qMi (N : Nat) (a : Nat → Nat → Nat) (m : Nat) : Prop := ∀ p, p < N → ¬ a p m < m
noncomputable def qSt (N : Nat) (a : Nat → Nat → Nat) (m : Nat) : Nat := qct (fun p => a p m = m) N
section
variable {N M : Nat} {a : Nat → Nat → Nat} {mu : Nat → Nat → Nat} {iv : Nat → Nat} {e : Nat}
theorem qAc_fib (h : qAc N M a mu iv e) {m q : Nat} (hm : m < M) (hq : q < N) : qct (fun p => a p m = a q m) N = qSt N a m := by
  obtain ⟨h1, h2, h3, h4, h5, h6, h7, h8, h9⟩ := h
  refine (qct_inj (h4 q hq) (fun p hp => ?_)).symm
  rw [← h8 q p m hq hp hm]
  constructor
  · intro z; show a q (a p m) = a q m; rw [z]
  · intro z
    exact (h6 q hq).2 _ _ ((h6 p hp).1 m hm) hm z
theorem qAc_fib2 (h : qAc N M a mu iv e) {m q : Nat} (hm : m < M) (hq : q < N) : qct (fun p => a p (a q m) = m) N = qSt N a m := by
  obtain ⟨h1, h2, h3, h4, h5, h6, h7, h8, h9⟩ := h
  refine qct_inj (h5 q hq) (fun p hp => ?_)
  rw [h8 p q m hp hq hm]
theorem qAc_lag (h : qAc N M a mu iv e) {m : Nat} (hm : m < M) : qSt N a m * (N / qSt N a m) = N := by
  obtain ⟨h1, h2, h3, h4, h5, h6, h7, h8, h9⟩ := id h
  have e1 : qsu (fun x => qsu (fun p => qin (a p m = x)) N) M = N := by
    rw [← qsu_swap M N, qsu_ext N (g := fun _ => 1) (fun p hp => ?_), qsu_k, Nat.mul_one]
    rw [qsu_one (k := a p m) M ((h6 p hp).1 m hm) (fun x _ hne => qin_F (fun z => hne z.symm)), qin_T rfl]
  have e2 : qsu (fun x => qsu (fun p => qin (a p m = x)) N) M = qSt N a m * qct (fun x => ∃ p, p < N ∧ a p m = x) M := by
    rw [qsu_ct, ← qsu_mul]
    refine qsu_ext M (fun x hx => ?_)
    by_cases c : ∃ p, p < N ∧ a p m = x
    · obtain ⟨q, q1, q2⟩ := c
      rw [qin_T ⟨q, q1, q2⟩, Nat.mul_one, ← qAc_fib h hm q1, qsu_ct]
      refine qsu_ext N (fun p _ => ?_)
      rw [q2]
    · rw [qin_F c, Nat.mul_zero, qsu_ext N (g := fun _ => 0) (fun p hp => qin_F (fun z => c ⟨p, hp, z⟩)), qsu_0]
  have e3 : 0 < qSt N a m := by
    have h10 : (fun p => a p m = m) e := h7 m hm
    have h11 := qct_T (P := fun p => a p m = m) h10
    have h12 := qct_mono (P := fun p => a p m = m) (show e + 1 ≤ N by omega)
    unfold qSt
    omega
  rw [e2] at e1
  generalize qSt N a m = s at *
  generalize qct (fun x => ∃ p, p < N ∧ a p m = x) M = o at *
  rw [← e1, Nat.mul_div_cancel_left _ e3]
theorem qAc_min (h : qAc N M a mu iv e) {m : Nat} (hm : m < M) : ∃ q, q < N ∧ qMi N a (a q m) := by
  obtain ⟨h1, h2, h3, h4, h5, h6, h7, h8, h9⟩ := h
  have key : ∀ x q, q < N → a q m ≤ x → ∃ q, q < N ∧ qMi N a (a q m) := by
    intro x
    induction x with
    | zero =>
      intro q hq hx
      exact ⟨q, hq, fun p hp => by omega⟩
    | succ x ih =>
      intro q hq hx
      by_cases c : qMi N a (a q m)
      · exact ⟨q, hq, c⟩
      · have c2 : ∃ p, p < N ∧ a p (a q m) < a q m := Classical.byContradiction fun z => c (fun p hp y => z ⟨p, hp, y⟩)
        obtain ⟨p, p1, p2⟩ := c2
        rw [h8 p q m p1 hq hm] at p2
        exact ih (mu p q) (h3 p q p1 hq) (by omega)
  exact key _ e h1 (Nat.le_refl _)
theorem qMi_u (h : qAc N M a mu iv e) {m p q : Nat} (hm : m < M) (hp : p < N) (hq : q < N) (h1 : qMi N a (a p m)) (h2 : qMi N a (a q m)) : a p m = a q m := by
  obtain ⟨g1, g2, g3, g4, g5, g6, g7, g8, g9⟩ := h
  have b1 : a (mu q (iv p)) (a p m) = a q m := by
    rw [← g8 q (iv p) _ hq (g2 p hp) ((g6 p hp).1 m hm), g9 p m hp hm]
  have b2 : a (mu p (iv q)) (a q m) = a p m := by
    rw [← g8 p (iv q) _ hp (g2 q hq) ((g6 q hq).1 m hm), g9 q m hq hm]
  have c1 := h1 _ (g3 q (iv p) hq (g2 p hp))
  have c2 := h2 _ (g3 p (iv q) hp (g2 q hq))
  rw [b1] at c1
  rw [b2] at c2
  omega
/-- what is kept by the group is counted by the least ones -/
theorem q_orbit (h : qAc N M a mu iv e) {Q : Nat → Prop} (hQ : ∀ p m, p < N → m < M → (Q m ↔ Q (a p m))) : qct Q M = qsu (fun m => qin (qMi N a m ∧ Q m) * (N / qSt N a m)) M := by
  obtain ⟨h1, h2, h3, h4, h5, h6, h7, h8, h9⟩ := id h
  have N0 : 0 < N := by omega
  let g := fun m => qin (qMi N a m ∧ Q m) * (N / qSt N a m)
  have e1 : qsu (fun p => qsu (fun m => g (a p m)) M) N = N * qsu g M := by
    rw [qsu_ext N (g := fun _ => qsu g M) (fun p hp => qsu_inj (h6 p hp)), qsu_k]
  have e2 : qsu (fun p => qsu (fun m => g (a p m)) M) N = N * qct Q M := by
    rw [qsu_swap M N, qsu_ct, ← qsu_mul]
    refine qsu_ext M (fun m hm => ?_)
    by_cases c : Q m
    · rw [qin_T c, Nat.mul_one]
      obtain ⟨q, q1, q2⟩ := qAc_min h hm
      have hq := (h6 q q1).1 m hm
      have back : m = a (iv q) (a q m) := (h9 q m q1 hm).symm
      have f1 := qAc_fib2 h hq (h2 q q1)
      rw [← back] at f1
      have lg := qAc_lag h hq
      have e3 : qsu (fun p => g (a p m)) N = qsu (fun p => (N / qSt N a (a q m)) * qin (a p m = a q m)) N := by
        refine qsu_ext N (fun p hp => ?_)
        show qin (qMi N a (a p m) ∧ Q (a p m)) * (N / qSt N a (a p m)) = _
        by_cases d : qMi N a (a p m)
        · have u := qMi_u h hm hp q1 d q2
          rw [qin_T ⟨d, (hQ p m hp hm).mp c⟩, qin_T u, Nat.one_mul, Nat.mul_one, u]
        · rw [qin_F (fun z => d z.1), qin_F (fun z => d (by rw [z]; exact q2)), Nat.zero_mul, Nat.mul_zero]
      rw [e3, qsu_mul, ← qsu_ct, f1, Nat.mul_comm]
      exact lg
    · rw [qin_F c, Nat.mul_zero, qsu_ext N (g := fun _ => 0) (fun p hp => ?_), qsu_0]
      show qin (qMi N a (a p m) ∧ Q (a p m)) * (N / qSt N a (a p m)) = 0
      rw [qin_F (fun z => c ((hQ p m hp hm).mpr z.2)), Nat.zero_mul]
  rw [e1] at e2
  exact (Nat.eq_of_mul_eq_mul_left N0 e2).symm
end

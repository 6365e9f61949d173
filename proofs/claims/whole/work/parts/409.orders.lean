/-! the tables are the orders -/
theorem bdg_lt {m c j : Nat} (h : 0 < m) : bdg m c j < m := Nat.mod_lt _ h
theorem bmk_Mk {m c : Nat} (h : 0 < m) (h8 : m ≤ 8) : ∀ i, qMk i (bdg m c) (bmk m c i) := by
  intro i
  induction i with
  | zero => exact qMk_0
  | succ i ih => exact qMk_s ih (by have := bdg_lt (c := c) (j := i) h; omega)
theorem qdx_0 {a i : Nat} (h : a < 8 ^ i) : qdx a i = 0 := by
  unfold qdx
  rw [Nat.div_eq_of_lt h]
theorem bcv_dg {m c : Nat} (h : 0 < m) (h8 : m ≤ 8) : ∀ i, bcv m c i < 8 ^ i ∧ ∀ j, j < i → qdx (bcv m c i) j = bdg m c j := by
  intro i
  induction i with
  | zero => exact ⟨Nat.one_pos, fun j hj => absurd hj (by omega)⟩
  | succ i ih =>
    obtain ⟨h1, h2⟩ := ih
    have v8 : bdg m c i < 8 := by have := bdg_lt (c := c) (j := i) h; omega
    have e : bcv m c (i + 1) = 8 ^ i * bdg m c i ||| bcv m c i := by
      simp only [bcv]
      rw [← q_8pow] at h1 ⊢
      rw [← Nat.two_pow_add_eq_or_of_lt h1, Nat.mul_comm, Nat.add_comm]
    refine ⟨?_, fun j hj => ?_⟩
    · simp only [bcv, Nat.pow_succ]
      have := Nat.mul_le_mul_right (8 ^ i) (show bdg m c i ≤ 7 by omega)
      omega
    · rw [e, qdx_or, qdx_at v8]
      by_cases q : j = i
      · subst q
        rw [if_pos rfl, qdx_0 h1, Nat.or_zero]
      · rw [if_neg q, Nat.zero_or]
        exact h2 j (by omega)
def qbc (b : Nat) (f : Nat → Nat) : Nat → Nat
  | 0 => 0
  | n + 1 => b * qbc b f n + f n
theorem qbc_lt {b : Nat} {f : Nat → Nat} : ∀ n : Nat, (∀ i, i < n → f i < b) → qbc b f n < b ^ n := by
  intro n
  induction n with
  | zero => intro _; exact Nat.one_pos
  | succ n ih =>
    intro h
    have h1 := ih (fun i hi => h i (by omega))
    have h2 := h n (by omega)
    simp only [qbc, Nat.pow_succ]
    have := Nat.mul_le_mul_left b (show qbc b f n + 1 ≤ b ^ n from h1)
    rw [Nat.mul_add, Nat.mul_one, Nat.mul_comm b (b ^ n)] at this
    omega
theorem qbc_dg {b : Nat} {f : Nat → Nat} : ∀ (n i : Nat), (∀ i, i < n → f i < b) → i < n → bdg b (qbc b f n) (n - 1 - i) = f i := by
  intro n
  induction n with
  | zero => intro i _ hi; omega
  | succ n ih =>
    intro i h hi
    have h2 := h n (by omega)
    have b0 : 0 < b := by omega
    unfold bdg
    simp only [qbc]
    by_cases e : i = n
    · subst e
      rw [show i + 1 - 1 - i = 0 by omega, Nat.pow_zero, Nat.div_one, Nat.mul_add_mod, Nat.mod_eq_of_lt h2]
    · have := ih i (fun i hi => h i (by omega)) (by omega)
      unfold bdg at this
      rw [show n + 1 - 1 - i = (n - 1 - i) + 1 by omega, Nat.pow_succ, Nat.mul_comm (b ^ (n - 1 - i)) b, ← Nat.div_div_eq_div_mul, Nat.mul_add_div b0, Nat.div_eq_of_lt h2, Nat.add_zero]
      exact this
theorem cgo_mem {m M : Nat} : ∀ (f : Nat) (rest : List Nat), f ≤ M → cgo m M f rest = true → (∀ c, M - f ≤ c → c < M → bmk m c m = 2 ^ m - 1 → bcv m c m ∈ rest) ∧ ∀ t, t ∈ rest → ∃ c, c < M ∧ bmk m c m = 2 ^ m - 1 ∧ bcv m c m = t := by
  intro f
  induction f with
  | zero =>
    intro rest _ h
    simp only [cgo] at h
    have : rest = [] := List.isEmpty_iff.mp h
    subst this
    exact ⟨fun c h1 h2 => by omega, fun t ht => absurd ht (by simp)⟩
  | succ f ih =>
    intro rest hf h
    unfold cgo at h
    by_cases c : bmk m (M - (f + 1)) m = 2 ^ m - 1
    · rw [if_pos c] at h
      cases rest with
      | nil => exact absurd h (by simp)
      | cons t ts =>
        simp only [Bool.and_eq_true, decide_eq_true_eq] at h
        obtain ⟨h1, h2⟩ := h
        obtain ⟨g1, g2⟩ := ih ts (by omega) h2
        refine ⟨fun x x1 x2 x3 => ?_, fun y hy => ?_⟩
        · by_cases e : x = M - (f + 1)
          · subst e; rw [h1]; exact List.mem_cons_self
          · exact List.mem_cons_of_mem _ (g1 x (by omega) x2 x3)
        · rcases List.mem_cons.mp hy with e | e
          · exact ⟨M - (f + 1), by omega, c, by rw [h1, e]⟩
          · exact g2 y e
    · rw [if_neg c] at h
      obtain ⟨g1, g2⟩ := ih rest (by omega) h
      refine ⟨fun x x1 x2 x3 => ?_, g2⟩
      by_cases e : x = M - (f + 1)
      · subst e; exact absurd x3 c
      · exact g1 x (by omega) x2 x3
theorem cin_lt : ∀ (l : List Nat), cin l = true → ∀ i j, i < j → j < l.length → l.getD i 0 < l.getD j 0 := by
  intro l
  induction l with
  | nil => intro _ i j _ hj; exact absurd hj (by simp)
  | cons a r ih =>
    intro h i j hij hj
    cases r with
    | nil => simp at hj; omega
    | cons b r =>
      simp only [cin, Bool.and_eq_true, decide_eq_true_eq] at h
      have ih2 := ih h.2
      cases j with
      | zero => omega
      | succ j =>
        cases i with
        | zero =>
          rw [List.getD_cons_zero, List.getD_cons_succ]
          cases j with
          | zero => rw [List.getD_cons_zero]; exact h.1
          | succ j =>
            have := ih2 0 (j + 1) (by omega) (by simp at hj ⊢; omega)
            rw [List.getD_cons_zero] at this
            exact Nat.lt_trans h.1 this
        | succ i =>
          rw [List.getD_cons_succ, List.getD_cons_succ]
          exact ih2 i j (by omega) (by simp at hj ⊢; omega)
theorem q_rev {n : Nat} {f g : Nat → Nat} (hf : qP n f) (h : ∀ i, i < n → g i = f (n - 1 - i)) : qP n g := by
  refine ⟨fun i hi => by rw [h i hi]; exact hf.1 _ (by omega), fun i j hi hj z => ?_⟩
  rw [h i hi, h j hj] at z
  have := hf.2 _ _ (by omega) (by omega) z
  omega
theorem cO_of {n k c : Nat} (h0 : 0 < n) (h8 : n ≤ 8) (h : bcv n c n = (cT n).getD k 0) : ∀ i, i < n → cO n k i = bdg n c (n - 1 - i) := by
  intro i hi
  unfold cO
  rw [← h]
  exact (bcv_dg h0 h8 n).2 _ (by omega)
theorem getD_mem {l : List Nat} {k : Nat} (h : k < l.length) : l.getD k 0 ∈ l := by
  rw [q_getD h]
  exact List.getElem_mem h
theorem mem_getD {l : List Nat} {x : Nat} (h : x ∈ l) : ∃ k, k < l.length ∧ l.getD k 0 = x := by
  obtain ⟨k, hk, e⟩ := List.mem_iff_getElem.mp h
  exact ⟨k, hk, by rw [q_getD hk]; exact e⟩
theorem qfa_le {n : Nat} (h2 : 2 ≤ n) (h : n ≤ 5) : 2 ≤ qfa n ∧ qfa n ≤ 120 ∧ n ^ n ≤ 3125 := by
  have : n = 2 ∨ n = 3 ∨ n = 4 ∨ n = 5 := by omega
  rcases this with rfl | rfl | rfl | rfl <;> decide
theorem cT_perm {n k : Nat} (h2 : 2 ≤ n) (h5 : n ≤ 5) (hk : k < qfa n) : ∃ c, c < n ^ n ∧ bmk n c n = 2 ^ n - 1 ∧ bcv n c n = (cT n).getD k 0 := by
  obtain ⟨t1, t2, t3, t4⟩ := cT_all h2 h5
  exact (cgo_mem _ _ (Nat.le_refl _) t1).2 _ (getD_mem (by rw [t3]; exact hk))
theorem cT_cd {n k : Nat} (h2 : 2 ≤ n) (h5 : n ≤ 5) (hk : k < qfa n) : qcd (cO n k) n = (cT n).getD k 0 := by
  obtain ⟨c, c1, c2, c3⟩ := cT_perm h2 h5 hk
  have := (bcv_dg (m := n) (c := c) (by omega) (by omega) n).1
  rw [c3] at this
  exact (qcd_of n this (fun i hi => rfl)).symm
theorem q_orders {n : Nat} (h2 : 2 ≤ n) (h5 : n ≤ 5) : qOr n (qfa n) (cO n) := by
  obtain ⟨t1, t2, t3, t4⟩ := cT_all h2 h5
  obtain ⟨m1, m2⟩ := cgo_mem _ _ (Nat.le_refl _) t1
  have P1 : ∀ k, k < qfa n → qP n (cO n k) := by
    intro k hk
    obtain ⟨c, c1, c2, c3⟩ := cT_perm h2 h5 hk
    have hp := (qMk_P (bmk_Mk (c := c) (by omega) (by omega) n)).mp c2
    exact q_rev hp (cO_of (by omega) (by omega) c3)
  refine ⟨h2, h5, (qfa_le h2 h5).2.1, P1, fun P hP => ?_, fun k l hkl hl => ?_⟩
  · have lt := qbc_lt (b := n) (f := P) n hP.1
    have dg := fun i hi => qbc_dg (b := n) (f := P) n i hP.1 hi
    have hr : qP n (bdg n (qbc n P n)) := by
      refine q_rev hP (fun i hi => ?_)
      have := dg (n - 1 - i) (by omega)
      rwa [show n - 1 - (n - 1 - i) = i by omega] at this
    have mk := (qMk_P (bmk_Mk (c := qbc n P n) (by omega) (by omega) n)).mpr hr
    obtain ⟨k, k1, k2⟩ := mem_getD (m1 _ (by omega) lt mk)
    refine ⟨k, by rw [t3] at k1; exact k1, fun i hi => ?_⟩
    rw [cO_of (by omega) (by omega) k2.symm i hi]
    exact dg i hi
  · have lt := cin_lt _ t2 k l hkl (by rw [t3]; exact hl)
    rw [← cT_cd h2 h5 (by omega), ← cT_cd h2 h5 hl] at lt
    exact (qcd_lx n (fun i hi => by have := (P1 k (by omega)).1 i hi; omega) (fun i hi => by have := (P1 l hl).1 i hi; omega)).mp lt

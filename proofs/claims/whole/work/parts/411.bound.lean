/-! no more than 64 kinds -/
theorem qcd_su {f : Nat → Nat} : ∀ n : Nat, qcd f n = qsu (fun i => f i * 8 ^ (n - 1 - i)) n := by
  intro n
  induction n with
  | zero => rfl
  | succ n ih =>
    simp only [qcd, qsu]
    rw [ih, ← qsu_mul, show n + 1 - 1 - n = 0 by omega, Nat.pow_zero, Nat.mul_one]
    congr 1
    refine qsu_ext n (fun i hi => ?_)
    rw [show n + 1 - 1 - i = (n - 1 - i) + 1 by omega, Nat.pow_succ, Nat.mul_comm (8 ^ (n - 1 - i)) 8, ← Nat.mul_assoc, ← Nat.mul_assoc, Nat.mul_comm 8 (f i)]
def crn (n a p : Nat) : Nat := qsu (fun i => qdx p (n - 1 - qdx a (n - 1 - i)) * 8 ^ (n - 1 - qdx p (n - 1 - i))) n
theorem crn_e {n p w : Nat} (h2 : 2 ≤ n) (h5 : n ≤ 5) (hp : p < qfa n) (hw : w < qfa n) : crn n ((cT n).getD w 0) ((cT n).getD p 0) = qcd (cO n (qrni n (qfa n) (cO n) p w)) n := by
  have h := q_orders h2 h5
  obtain ⟨s1, s2⟩ := qrni_s h hp hw
  have P := h.2.2.2.1
  rw [qcd_su, ← qsu_inj (s := cO n p) (P p hp)]
  unfold crn
  refine qsu_ext n (fun i hi => ?_)
  rw [s2 i hi]
  rfl
def cct (f : Nat → Bool) : Nat → Nat
  | 0 => 0
  | k + 1 => cct f k + (if f k = true then 1 else 0)
theorem cct_e {f : Nat → Bool} : ∀ k, qct (fun i => f i = true) k = cct f k := by
  intro k
  induction k with
  | zero => rfl
  | succ k ih =>
    simp only [cct]
    by_cases c : f k = true
    · rw [qct_T (P := fun i => f i = true) c, if_pos c, ih]
    · rw [qct_F (P := fun i => f i = true) c, if_neg c, ih, Nat.add_zero]
theorem qct_imp {P Q : Nat → Prop} : ∀ m, (∀ i, i < m → P i → Q i) → qct P m ≤ qct Q m := by
  intro m
  induction m with
  | zero => intro _; exact Nat.le_refl _
  | succ m ih =>
    intro h
    have h1 := ih (fun i hi => h i (by omega))
    by_cases c : P m
    · rw [qct_T c, qct_T (h m (by omega) c)]; omega
    · rw [qct_F c]
      have := qct_mono (P := Q) (show m ≤ m + 1 by omega)
      omega
theorem qct_or {P Q : Nat → Prop} : ∀ m, qct (fun i => P i ∨ Q i) m ≤ qct P m + qct Q m := by
  intro m
  induction m with
  | zero => exact Nat.le_refl _
  | succ m ih =>
    by_cases c : P m
    · rw [qct_T (P := fun i => P i ∨ Q i) (Or.inl c), qct_T c]
      have := qct_mono (P := Q) (show m ≤ m + 1 by omega)
      omega
    · by_cases d : Q m
      · rw [qct_T (P := fun i => P i ∨ Q i) (Or.inr d), qct_F c, qct_T d]; omega
      · rw [qct_F (P := fun i => P i ∨ Q i) (fun z => z.elim c d), qct_F c, qct_F d]; exact ih
theorem qct_row {g : Nat → Prop} {N w : Nat} : ∀ x y, y ≤ N → qct (fun m => m / N = w ∧ g (m % N)) (x * N + y) = (if w < x then qct g N else if w = x then qct g y else 0) := by
  intro x
  have step : ∀ x y, y < N → qct (fun m => m / N = w ∧ g (m % N)) (x * N + (y + 1)) = qct (fun m => m / N = w ∧ g (m % N)) (x * N + y) + qin (x = w ∧ g y) := by
    intro x y hy
    have d := qdm (x := x) hy
    by_cases c : x = w ∧ g y
    · rw [qin_T c]
      exact qct_T (P := fun m => m / N = w ∧ g (m % N)) (m := x * N + y) (by show _ ∧ _; rw [d.1, d.2]; exact c)
    · rw [qin_F c]
      exact qct_F (P := fun m => m / N = w ∧ g (m % N)) (m := x * N + y) (by show ¬ (_ ∧ _); rw [d.1, d.2]; exact c)
  induction x with
  | zero =>
    intro y
    induction y with
    | zero =>
      intro _
      rw [Nat.zero_mul, if_neg (by omega)]
      split <;> rfl
    | succ y ihy =>
      intro hy
      rw [step 0 y (by omega), ihy (by omega)]
      simp only [Nat.not_lt_zero, ↓reduceIte]
      by_cases c : w = 0
      · rw [if_pos c, if_pos c]
        by_cases d : g y
        · rw [qct_T d, qin_T ⟨c.symm, d⟩]
        · rw [qct_F d, qin_F (fun z => d z.2), Nat.add_zero]
      · rw [if_neg c, if_neg c, qin_F (fun z => c z.1.symm)]
  | succ x ih =>
    intro y
    induction y with
    | zero =>
      intro _
      rw [show (x + 1) * N + 0 = x * N + N by rw [Nat.add_mul, Nat.one_mul, Nat.add_zero], ih N (Nat.le_refl _)]
      by_cases c : w < x
      · rw [if_pos c, if_pos (by omega)]
      · rw [if_neg c]
        by_cases d : w = x
        · rw [if_pos d, if_pos (by omega)]
        · rw [if_neg d, if_neg (by omega)]
          split <;> rfl
    | succ y ihy =>
      intro hy
      rw [step (x + 1) y (by omega), ihy (by omega)]
      by_cases c : w < x + 1
      · rw [if_pos c, if_pos c, qin_F (fun z => by omega), Nat.add_zero]
      · rw [if_neg c, if_neg c]
        by_cases d : w = x + 1
        · rw [if_pos d, if_pos d]
          by_cases q : g y
          · rw [qct_T q, qin_T ⟨d.symm, q⟩]
          · rw [qct_F q, qin_F (fun z => q z.2), Nat.add_zero]
        · rw [if_neg d, if_neg d, qin_F (fun z => d z.1.symm)]
def cmv (n a : Nat) : Bool := (List.range n).all (fun i => decide (qdx a (n - 1 - i) ≠ i))
def ckp (n : Nat) (t : List Nat) (ks : List Nat) (c : Nat) : Bool := ks.all (fun p => decide (¬ crn n (t.getD c 0) (t.getD p 0) < t.getD c 0))
def cwt2 : List Nat := [0, 0]
theorem cbd2 : (∀ w : Fin 2, cmv 2 (cT2.getD w.val 0) = false ∨ w.val = 1 ∨ w.val = 1 ∨ (cwt2.getD w.val 0 < 2 ∧ crn 2 (cT2.getD w.val 0) (cT2.getD (cwt2.getD w.val 0) 0) < cT2.getD w.val 0)) ∧ (∀ p, p ∈ [0, 1] → p < 2 ∧ crn 2 (cT2.getD 1 0) (cT2.getD p 0) = cT2.getD 1 0) ∧ (∀ p, p ∈ [0, 1] → p < 2 ∧ crn 2 (cT2.getD 1 0) (cT2.getD p 0) = cT2.getD 1 0) ∧ cct (ckp 2 cT2 [0, 1]) 2 + cct (ckp 2 cT2 [0, 1]) 2 ≤ 64 := by decide +kernel
def cwt3 : List Nat := [0, 0, 3, 0, 1, 1]
theorem cbd3 : (∀ w : Fin 6, cmv 3 (cT3.getD w.val 0) = false ∨ w.val = 3 ∨ w.val = 3 ∨ (cwt3.getD w.val 0 < 6 ∧ crn 3 (cT3.getD w.val 0) (cT3.getD (cwt3.getD w.val 0) 0) < cT3.getD w.val 0)) ∧ (∀ p, p ∈ [0, 3, 4] → p < 6 ∧ crn 3 (cT3.getD 3 0) (cT3.getD p 0) = cT3.getD 3 0) ∧ (∀ p, p ∈ [0, 3, 4] → p < 6 ∧ crn 3 (cT3.getD 3 0) (cT3.getD p 0) = cT3.getD 3 0) ∧ cct (ckp 3 cT3 [0, 3, 4]) 6 + cct (ckp 3 cT3 [0, 3, 4]) 6 ≤ 64 := by decide +kernel
def cwt4 : List Nat := [0, 0, 3, 0, 1, 1, 8, 0, 9, 0, 1, 1, 2, 2, 2, 2, 2, 2, 1, 1, 1, 1, 1, 1]
theorem cbd4 : (∀ w : Fin 24, cmv 4 (cT4.getD w.val 0) = false ∨ w.val = 7 ∨ w.val = 9 ∨ (cwt4.getD w.val 0 < 24 ∧ crn 4 (cT4.getD w.val 0) (cT4.getD (cwt4.getD w.val 0) 0) < cT4.getD w.val 0)) ∧ (∀ p, p ∈ [0, 1, 6, 7, 16, 17, 22, 23] → p < 24 ∧ crn 4 (cT4.getD 7 0) (cT4.getD p 0) = cT4.getD 7 0) ∧ (∀ p, p ∈ [0, 9, 16, 18] → p < 24 ∧ crn 4 (cT4.getD 9 0) (cT4.getD p 0) = cT4.getD 9 0) ∧ cct (ckp 4 cT4 [0, 1, 6, 7, 16, 17, 22, 23]) 24 + cct (ckp 4 cT4 [0, 9, 16, 18]) 24 ≤ 64 := by decide +kernel
def cwt5 : List Nat := [0, 0, 3, 0, 1, 1, 8, 0, 9, 0, 1, 1, 2, 2, 2, 2, 2, 2, 1, 1, 1, 1, 1, 1, 30, 30, 3, 0, 1, 1, 32, 64, 33, 0, 1, 1, 2, 2, 2, 2, 2, 2, 1, 1, 1, 1, 1, 1, 6, 6, 6, 6, 1, 1, 6, 6, 6, 6, 1, 1, 6, 6, 6, 6, 6, 6, 1, 1, 1, 1, 1, 1, 2, 2, 2, 2, 2, 2, 2, 2, 2, 2, 2, 2, 2, 2, 2, 2, 2, 2, 2, 2, 2, 2, 2, 2, 1, 1, 1, 1, 1, 1, 1, 1, 1, 1, 1, 1, 1, 1, 1, 1, 1, 1, 1, 1, 1, 1, 1, 1]
theorem cbd5 : (∀ w : Fin 120, cmv 5 (cT5.getD w.val 0) = false ∨ w.val = 27 ∨ w.val = 33 ∨ (cwt5.getD w.val 0 < 120 ∧ crn 5 (cT5.getD w.val 0) (cT5.getD (cwt5.getD w.val 0) 0) < cT5.getD w.val 0)) ∧ (∀ p, p ∈ [0, 3, 4, 24, 27, 28] → p < 120 ∧ crn 5 (cT5.getD 27 0) (cT5.getD p 0) = cT5.getD 27 0) ∧ (∀ p, p ∈ [0, 33, 64, 90, 96] → p < 120 ∧ crn 5 (cT5.getD 33 0) (cT5.getD p 0) = cT5.getD 33 0) ∧ cct (ckp 5 cT5 [0, 3, 4, 24, 27, 28]) 120 + cct (ckp 5 cT5 [0, 33, 64, 90, 96]) 120 ≤ 64 := by decide +kernel
set_option maxRecDepth 100000 in
theorem q_bdAll {n : Nat} (h2 : 2 ≤ n) (h5 : n ≤ 5) : ∃ (wt ka kb : List Nat) (a b : Nat), (∀ w, w < qfa n → cmv n ((cT n).getD w 0) = false ∨ w = a ∨ w = b ∨ (wt.getD w 0 < qfa n ∧ crn n ((cT n).getD w 0) ((cT n).getD (wt.getD w 0) 0) < (cT n).getD w 0)) ∧ (∀ p, p ∈ ka → p < qfa n ∧ crn n ((cT n).getD a 0) ((cT n).getD p 0) = (cT n).getD a 0) ∧ (∀ p, p ∈ kb → p < qfa n ∧ crn n ((cT n).getD b 0) ((cT n).getD p 0) = (cT n).getD b 0) ∧ cct (ckp n (cT n) ka) (qfa n) + cct (ckp n (cT n) kb) (qfa n) ≤ 64 := by
  have : n = 2 ∨ n = 3 ∨ n = 4 ∨ n = 5 := by omega
  rcases this with rfl | rfl | rfl | rfl
  · exact ⟨cwt2, _, _, _, _, fun w hw => cbd2.1 ⟨w, hw⟩, cbd2.2.1, cbd2.2.2.1, cbd2.2.2.2⟩
  · exact ⟨cwt3, _, _, _, _, fun w hw => cbd3.1 ⟨w, hw⟩, cbd3.2.1, cbd3.2.2.1, cbd3.2.2.2⟩
  · exact ⟨cwt4, _, _, _, _, fun w hw => cbd4.1 ⟨w, hw⟩, cbd4.2.1, cbd4.2.2.1, cbd4.2.2.2⟩
  · exact ⟨cwt5, _, _, _, _, fun w hw => cbd5.1 ⟨w, hw⟩, cbd5.2.1, cbd5.2.2.1, cbd5.2.2.2⟩
/-- a kind: the least of its names, and proper -/
def qKd (n N : Nat) (O : Nat → Nat → Nat) (m : Nat) : Prop := qMi N (qac n N O) m ∧ qPr n (O (m / N)) (O (m % N))
theorem q_bound {n : Nat} (h2 : 2 ≤ n) (h5 : n ≤ 5) : qct (qKd n (qfa n) (cO n)) (qfa n * qfa n) ≤ 64 := by
  have h := q_orders h2 h5
  obtain ⟨wt, ka, kb, a, b, c1, c2, c3, c4⟩ := q_bdAll h2 h5
  have imp : ∀ m, m < qfa n * qfa n → qKd n (qfa n) (cO n) m → (m / qfa n = a ∧ ckp n (cT n) ka (m % qfa n) = true) ∨ (m / qfa n = b ∧ ckp n (cT n) kb (m % qfa n) = true) := by
    intro m hm hk
    obtain ⟨m1, m2, m3⟩ := qdm_of hm
    obtain ⟨l1, l2⟩ := (qMi_pair h hm).mp hk.1
    have mv : ¬ cmv n ((cT n).getD (m / qfa n) 0) = false := by
      intro z
      have : cmv n ((cT n).getD (m / qfa n) 0) = true := by
        unfold cmv
        rw [List.all_eq_true]
        intro i hi
        exact decide_eq_true (hk.2.1 i (List.mem_range.mp hi))
      rw [this] at z
      exact absurd z (by decide)
    have own : ¬ (wt.getD (m / qfa n) 0 < qfa n ∧ crn n ((cT n).getD (m / qfa n) 0) ((cT n).getD (wt.getD (m / qfa n) 0) 0) < (cT n).getD (m / qfa n) 0) := by
      rintro ⟨z1, z2⟩
      rw [crn_e h2 h5 z1 m1, ← cT_cd h2 h5 m1] at z2
      exact l1 _ z1 ((qO_cmp h (qrni_s h z1 m1).1 m1).1.mp z2)
    have keep : ∀ (w : Nat) (ks : List Nat), m / qfa n = w → (∀ p, p ∈ ks → p < qfa n ∧ crn n ((cT n).getD w 0) ((cT n).getD p 0) = (cT n).getD w 0) → ckp n (cT n) ks (m % qfa n) = true := by
      rintro w ks rfl hks
      unfold ckp
      rw [List.all_eq_true]
      intro p hp
      obtain ⟨p1, p2⟩ := hks p hp
      refine decide_eq_true (fun z => ?_)
      rw [crn_e h2 h5 p1 m1, ← cT_cd h2 h5 m1] at p2
      rw [crn_e h2 h5 p1 m2, ← cT_cd h2 h5 m2] at z
      have q1 := (qO_cmp h (qrni_s h p1 m1).1 m1).2.1.mp p2
      exact l2 p p1 q1 ((qO_cmp h (qrni_s h p1 m2).1 m2).1.mp z)
    rcases c1 _ m1 with z | z | z | z
    · exact absurd z mv
    · exact Or.inl ⟨z, keep a ka z c2⟩
    · exact Or.inr ⟨z, keep b kb z c3⟩
    · exact absurd z own
  have r1 := fun (g : Nat → Prop) (w : Nat) => qct_row (g := g) (N := qfa n) (w := w) (qfa n) 0 (Nat.zero_le _)
  have e1 := qct_imp _ imp
  have e2 := qct_or (P := fun m => m / qfa n = a ∧ ckp n (cT n) ka (m % qfa n) = true) (Q := fun m => m / qfa n = b ∧ ckp n (cT n) kb (m % qfa n) = true) (qfa n * qfa n)
  have e3 : ∀ (w : Nat) (ks : List Nat), qct (fun m => m / qfa n = w ∧ ckp n (cT n) ks (m % qfa n) = true) (qfa n * qfa n) ≤ cct (ckp n (cT n) ks) (qfa n) := by
    intro w ks
    have := r1 (fun c => ckp n (cT n) ks c = true) w
    rw [Nat.add_zero] at this
    rw [this, ← cct_e]
    split
    · exact Nat.le_refl _
    · split
      · exact Nat.zero_le _
      · exact Nat.zero_le _
  have e4 := e3 a ka
  have e5 := e3 b kb
  omega

/-! rows that are one-to-one; pigeons -/
theorem qpig : ∀ (n m : Nat) (f : Nat → Nat), (∀ i, i < m → f i < n) → (∀ i j, i < m → j < m → f i = f j → i = j) → m ≤ n := by
  intro n
  induction n with
  | zero =>
    intro m f h _
    cases m with
    | zero => exact Nat.le_refl _
    | succ m => exact absurd (h 0 (by omega)) (by omega)
  | succ n ih =>
    intro m f h hi
    by_cases hk : ∃ k, k < m ∧ f k = n
    · obtain ⟨k, hk1, hk2⟩ := hk
      have := ih (m - 1) (fun i => if i = k then f (m - 1) else f i) (by
        intro i hi1
        by_cases e : i = k
        · simp only [e, if_pos]
          have h1 := h (m - 1) (by omega)
          have h2 : f (m - 1) ≠ n := fun e2 => by
            have := hi (m - 1) k (by omega) hk1 (by rw [e2, hk2])
            omega
          omega
        · simp only [if_neg e]
          have h1 := h i (by omega)
          have h2 : f i ≠ n := fun e2 => e (hi i k (by omega) hk1 (by rw [e2, hk2]))
          omega) (by
        intro i j h1 h2 h3
        by_cases e1 : i = k
        · by_cases e2 : j = k
          · omega
          · simp only [e1, if_pos, if_neg e2] at h3
            have := hi (m - 1) j (by omega) (by omega) h3
            omega
        · by_cases e2 : j = k
          · simp only [e2, if_pos, if_neg e1] at h3
            have := hi i (m - 1) (by omega) (by omega) h3
            omega
          · simp only [if_neg e1, if_neg e2] at h3
            exact hi i j (by omega) (by omega) h3)
      omega
    · have := ih m f (fun i h1 => by
        have h2 := h i h1
        have h3 : f i ≠ n := fun e => hk ⟨i, h1, e⟩
        omega) hi
      omega
def qP (n : Nat) (W : Nat → Nat) : Prop := (∀ i, i < n → W i < n) ∧ ∀ i j, i < n → j < n → W i = W j → i = j
theorem qP_surj {n : Nat} {W : Nat → Nat} (h : qP n W) {j : Nat} (hj : j < n) : ∃ i, i < n ∧ W i = j := by
  refine Classical.byContradiction fun hno => ?_
  have h1 : ∀ i, i < n → W i ≠ j := fun i hi e => hno ⟨i, hi, e⟩
  have := qpig (n - 1) n (fun i => if W i = n - 1 then j else W i) (by
    intro i hi
    have h2 := h.1 i hi
    have h3 := h1 i hi
    by_cases e : W i = n - 1
    · simp only [if_pos e]
      omega
    · simp only [if_neg e]
      omega) (by
    intro i k hi hk e
    have h2 := h1 i hi
    have h3 := h1 k hk
    by_cases e1 : W i = n - 1
    · by_cases e2 : W k = n - 1
      · exact h.2 i k hi hk (by omega)
      · simp only [if_pos e1, if_neg e2] at e
        omega
    · by_cases e2 : W k = n - 1
      · simp only [if_pos e2, if_neg e1] at e
        omega
      · simp only [if_neg e1, if_neg e2] at e
        exact h.2 i k hi hk e)
  omega
/-- V goes back where W goes forth -/
def qB (n : Nat) (W V : Nat → Nat) : Prop := ∀ i, i < n → V i < n ∧ W (V i) = i ∧ V (W i) = i
theorem qB_of {n : Nat} {W V : Nat → Nat} (h : qP n W) (hv : ∀ i, i < n → V (W i) = i) : qB n W V := by
  intro i hi
  obtain ⟨j, h1, h2⟩ := qP_surj h hi
  have h3 := hv j h1
  rw [h2] at h3
  exact ⟨by omega, by rw [h3, h2], hv i hi⟩
theorem qB_P {n : Nat} {W V : Nat → Nat} (hb : qB n W V) : qP n V := by
  refine ⟨fun i hi => (hb i hi).1, fun i j hi hj e => ?_⟩
  have h1 := (hb i hi).2.1
  have h2 := (hb j hj).2.1
  rw [e, h2] at h1
  exact h1.symm
/-- a system: n classes, W, C, and both backwards V, U -/
def qH (n : Nat) (W C V U : Nat → Nat) : Prop := n ≤ 8 ∧ qP n W ∧ qP n C ∧ qB n W V ∧ qB n C U
def qst (W C V U : Nat → Nat) (l s x : Nat) : Nat := if l = 0 then U x else if l = 1 then W (U x) else if l = 2 ∨ l = 3 then (if s = 1 then C x else C (V x)) else if l = 6 then V x else if l = 7 then W x else x
def qsx (l : Nat) : Nat := if l % 2 = 0 then 1 else 0
def qwk (W C V U : Nat → Nat) : List Nat → Nat → Nat → Nat
  | [], _, x => x
  | l :: ls, s, x => qwk W C V U ls (qsx l) (qst W C V U l s x)
theorem qsx_lt (l : Nat) : qsx l < 2 := by unfold qsx; split <;> omega
theorem qst_lt {n : Nat} {W C V U : Nat → Nat} (h : qH n W C V U) {x : Nat} (hx : x < n) (l s : Nat) : qst W C V U l s x < n := by
  obtain ⟨h1, h2, h3, h4, h5⟩ := h
  unfold qst
  split
  · exact (h5 x hx).1
  split
  · exact h2.1 _ (h5 x hx).1
  split
  · split
    · exact h3.1 x hx
    · exact h3.1 _ (h4 x hx).1
  split
  · exact (h4 x hx).1
  split
  · exact h2.1 x hx
  · exact hx
theorem qwk_lt {n : Nat} {W C V U : Nat → Nat} (h : qH n W C V U) : ∀ (ls : List Nat) (s x : Nat), x < n → qwk W C V U ls s x < n := by
  intro ls
  induction ls with
  | nil => intro s x hx; exact hx
  | cons l ls ih => intro s x hx; exact ih _ _ (qst_lt h hx l s)
/-- the row f, from o on, holds W -/
def qR (o n : Nat) (f : Nat → Int32) (W : Nat → Nat) : Prop := ∀ i, i < n → f (o + i) = nI (W i)
theorem qR_0 {n : Nat} {f : Nat → Int32} {W : Nat → Nat} (h : qR 0 n f W) {i : Nat} (hi : i < n) : f i = nI (W i) := by
  have := h i hi
  rwa [Nat.zero_add] at this
/-- where the steps go, letter by letter -/
theorem qwk_app (W C V U : Nat → Nat) : ∀ (a b : List Nat) (s x : Nat), qwk W C V U (a ++ b) s x = qwk W C V U b (if a = [] then s else qsx (a.getLastD 0)) (qwk W C V U a s x) := by
  intro a
  induction a with
  | nil => intro b s x; rfl
  | cons l ls ih =>
    intro b s x
    show qwk W C V U (ls ++ b) (qsx l) (qst W C V U l s x) = _
    rw [ih]
    simp only [qwk]
    cases ls with
    | nil => simp
    | cons k ks => simp

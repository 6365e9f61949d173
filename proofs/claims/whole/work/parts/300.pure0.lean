/-! pure rows: loads and stores in bounds, calls that answer, loops that run -/
theorem jL_at {β : Type} {P : jA} {i : Int32} (j : Nat) (hi : i = nI j) (hj : j < P.1) (hP : P.1 < 2 ^ 31) (k : Int32 → Option β) : jL P i k = k (P.2 j) := by
  subst hi
  unfold jL
  have h : ¬ (nI j < 0 ∨ P.1 ≤ (nI j).toNatClampNeg) := vp_in_nI hj hP
  rw [if_neg h, nI_clamp (by omega)]
theorem jS_at {β : Type} {P : jA} {i x : Int32} (j : Nat) (hi : i = nI j) (hj : j < P.1) (hP : P.1 < 2 ^ 31) (k : jA → Option β) : jS P i x k = k (P.1, upd P.2 j x) := by
  subst hi
  unfold jS
  have h : ¬ (nI j < 0 ∨ P.1 ≤ (nI j).toNatClampNeg) := vp_in_nI hj hP
  rw [if_neg h, nI_clamp (by omega)]
theorem jL_p {β : Type} {N : Nat} {f : Nat → Int32} {i : Int32} (j : Nat) (hi : i = nI j) (hj : j < N) (hN : N < 2147483648) (k : Int32 → Option β) : jL (N, f) i k = k (f j) := jL_at j hi hj hN k
theorem jS_p {β : Type} {N : Nat} {f : Nat → Int32} {i x : Int32} (j : Nat) (hi : i = nI j) (hj : j < N) (hN : N < 2147483648) (k : jA → Option β) : jS (N, f) i x k = k (N, upd f j x) := jS_at j hi hj hN k
theorem jM_at {α β : Type} {o : Option α} {a : α} (h : o = some a) (k : α → Option β) : jM o k = k a := by subst h; rfl
theorem jV_at {α β : Type} (e : α) (k : α → Option β) : jV e k = k e := rfl
theorem jI_inl {S E : Type} {b : S → Option (S ⊕ E)} {n : Nat} {s s' : S} (h : b s = some (.inl s')) : jI b (n + 1) s = jI b n s' := by simp [jI, h]
theorem jI_inr {S E : Type} {b : S → Option (S ⊕ E)} {n : Nat} {s : S} {e : E} (h : b s = some (.inr e)) : jI b (n + 1) s = some e := by simp [jI, h]
/-- a loop whose states are known one by one -/
theorem jI_run {S E : Type} {b : S → Option (S ⊕ E)} (st : Nat → S) (N : Nat) (e : E) (h : ∀ i, i < N → b (st i) = some (.inl (st (i + 1)))) (hx : b (st N) = some (.inr e)) (fuel : Nat) (hf : N < fuel) : jI b fuel (st 0) = some e := by
  have key : ∀ k i, i + k = N → ∀ fuel, k < fuel → jI b fuel (st i) = some e := by
    intro k
    induction k with
    | zero =>
      intro i hi fuel hf
      obtain ⟨m, rfl⟩ : ∃ m, fuel = m + 1 := ⟨fuel - 1, by omega⟩
      have hi2 : i = N := by omega
      subst hi2
      exact jI_inr hx
    | succ k ih =>
      intro i hi fuel hf
      obtain ⟨m, rfl⟩ : ∃ m, fuel = m + 1 := ⟨fuel - 1, by omega⟩
      rw [jI_inl (h i (by omega))]
      exact ih (i + 1) (by omega) m (by omega)
  exact key N 0 (by omega) fuel hf
theorem jI_4 {S E : Type} {b : S → Option (S ⊕ E)} {s0 s1 s2 s3 s4 : S} {e : E} (n : Nat) (hn : 5 ≤ n) (h0 : b s0 = some (.inl s1)) (h1 : b s1 = some (.inl s2)) (h2 : b s2 = some (.inl s3)) (h3 : b s3 = some (.inl s4)) (h4 : b s4 = some (.inr e)) : jI b n s0 = some e := by
  obtain ⟨m, rfl⟩ : ∃ m, n = m + 1 + 1 + 1 + 1 + 1 := ⟨n - 5, by omega⟩
  rw [jI_inl h0, jI_inl h1, jI_inl h2, jI_inl h3, jI_inr h4]
theorem jF_5 : 5 ≤ jF := by decide
/-- a loop with an invariant and a measure that falls -/
theorem jI_inv {S E : Type} {b : S → Option (S ⊕ E)} (I : S → Prop) (μ : S → Nat) (Q : E → Prop) (hs : ∀ s, I s → (∃ s', b s = some (.inl s') ∧ I s' ∧ μ s' < μ s) ∨ ∃ e, b s = some (.inr e) ∧ Q e) : ∀ (fuel : Nat) (s : S), I s → μ s < fuel → ∃ e, jI b fuel s = some e ∧ Q e := by
  intro fuel
  induction fuel with
  | zero => intro s _ h; omega
  | succ n ih =>
    intro s hI hm
    rcases hs s hI with ⟨s', h1, h2, h3⟩ | ⟨e, h1, h2⟩
    · obtain ⟨e, g1, g2⟩ := ih s' h2 (by omega)
      exact ⟨e, by rw [jI_inl h1]; exact g1, g2⟩
    · exact ⟨e, jI_inr h1, h2⟩
theorem upd_upd (f : Nat → Int32) (k : Nat) (a b : Int32) : upd (upd f k a) k b = upd f k b := by
  funext j
  unfold upd
  by_cases h : j = k <;> simp [h]
theorem nar2 (x : Int32) : x.toInt8.toInt32.toInt8.toInt32 = x.toInt8.toInt32 := by rw [← vp_nar_byte x.toInt8.toInt32]; exact pk_vb x
/-! feed: four bytes of an int -/
def fdb (x k : Int32) : Int32 := (x >>> (k &&& 31)).toInt8.toInt32
def fd4 (f : Nat → Int32) (n : Nat) (x : Int32) : Nat → Int32 := upd (upd (upd (upd f n (fdb x 24)) (n + 1) (fdb x 16)) (n + 2) (fdb x 8)) (n + 3) (fdb x 0)
theorem X12_four_b {sz g : Nat → Int32} {m : Nat} {x k : Int32} (h1 : sz 0 = nI m) (h2 : m < 1600) (h3 : ¬ k < 0) : f_X12_four_b3 (4, sz) (1600, g) x k = some (Sum.inl ((4, upd sz 0 (nI (m + 1))), (1600, upd g m (fdb x k)), k + (-8))) := by
  unfold f_X12_four_b3
  rw [if_neg h3, jL_p 0 nI_0.symm (by decide) (by decide), jS_p m h1 h2 (by decide), nar2, jL_p 0 nI_0.symm (by decide) (by decide), jS_p 0 nI_0.symm (by decide) (by decide), h1]
  rw [show nI m + (1 : Int32) = nI (m + 1) from nI_1 m]
  rfl
theorem X12_four_x {S G : jA} {x k : Int32} (h : k < 0) : f_X12_four_b3 S G x k = some (Sum.inr (S, G)) := by
  unfold f_X12_four_b3
  rw [if_pos h]
theorem X12_four_eq {sz g : Nat → Int32} {n : Nat} {x : Int32} (hn : n + 4 ≤ 1600) (hs : sz 0 = nI n) : f_X12_four (4, sz) (1600, g) x = some ((4, upd sz 0 (nI (n + 4))), (1600, fd4 g n x)) := by
  unfold f_X12_four f_X12_four_l3
  have e : jI (fun z : jA × jA × Int32 => f_X12_four_b3 z.1 z.2.1 x z.2.2) jF ((4, sz), (1600, g), (24 : Int32)) = some ((4, upd sz 0 (nI (n + 4))), (1600, fd4 g n x)) := by
    have b0 := X12_four_b (x := x) (sz := sz) (g := g) (m := n) (k := 24) hs (by omega) (by decide)
    have b1 := X12_four_b (x := x) (sz := upd sz 0 (nI (n + 1))) (g := upd g n (fdb x (24))) (m := n + 1) (k := 24 + -8) pk_us (by omega) (by decide)
    have b2 := X12_four_b (x := x) (sz := upd (upd sz 0 (nI (n + 1))) 0 (nI (n + 1 + 1))) (g := upd (upd g n (fdb x (24))) (n + 1) (fdb x (24 + -8))) (m := n + 1 + 1) (k := 24 + -8 + -8) pk_us (by omega) (by decide)
    have b3 := X12_four_b (x := x) (sz := upd (upd (upd sz 0 (nI (n + 1))) 0 (nI (n + 1 + 1))) 0 (nI (n + 1 + 1 + 1))) (g := upd (upd (upd g n (fdb x (24))) (n + 1) (fdb x (24 + -8))) (n + 1 + 1) (fdb x (24 + -8 + -8))) (m := n + 1 + 1 + 1) (k := 24 + -8 + -8 + -8) pk_us (by omega) (by decide)
    have h := jI_4 (b := fun z : jA × jA × Int32 => f_X12_four_b3 z.1 z.2.1 x z.2.2) (s0 := ((4, sz), (1600, g), (24 : Int32))) (s1 := ((4, upd sz 0 (nI (n + 1))), (1600, upd g n (fdb x (24))), (24 + -8 : Int32))) (s2 := ((4, upd (upd sz 0 (nI (n + 1))) 0 (nI (n + 1 + 1))), (1600, upd (upd g n (fdb x (24))) (n + 1) (fdb x (24 + -8))), (24 + -8 + -8 : Int32))) (s3 := ((4, upd (upd (upd sz 0 (nI (n + 1))) 0 (nI (n + 1 + 1))) 0 (nI (n + 1 + 1 + 1))), (1600, upd (upd (upd g n (fdb x (24))) (n + 1) (fdb x (24 + -8))) (n + 1 + 1) (fdb x (24 + -8 + -8))), (24 + -8 + -8 + -8 : Int32))) (s4 := ((4, upd (upd (upd (upd sz 0 (nI (n + 1))) 0 (nI (n + 1 + 1))) 0 (nI (n + 1 + 1 + 1))) 0 (nI (n + 1 + 1 + 1 + 1))), (1600, upd (upd (upd (upd g n (fdb x (24))) (n + 1) (fdb x (24 + -8))) (n + 1 + 1) (fdb x (24 + -8 + -8))) (n + 1 + 1 + 1) (fdb x (24 + -8 + -8 + -8))), (24 + -8 + -8 + -8 + -8 : Int32))) jF jF_5 b0 b1 b2 b3 (X12_four_x (k := 24 + -8 + -8 + -8 + -8) (by decide))
    rw [h, upd_upd, upd_upd, upd_upd]
    rfl
  rw [jM_at e]

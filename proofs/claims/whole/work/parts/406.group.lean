/-! the orders of n numbers: a group that gives new names -/
def qOr (n N : Nat) (O : Nat → Nat → Nat) : Prop := 2 ≤ n ∧ n ≤ 5 ∧ N ≤ 120 ∧ (∀ k, k < N → qP n (O k)) ∧ (∀ P, qP n P → ∃ k, k < N ∧ ∀ i, i < n → O k i = P i) ∧ ∀ k l, k < l → l < N → qlx n (O k) (O l)
noncomputable def qixo (n N : Nat) (O : Nat → Nat → Nat) (P : Nat → Nat) : Nat := @dite Nat (∃ k, k < N ∧ ∀ i, i < n → O k i = P i) (Classical.propDecidable _) (fun h => Classical.choose h) (fun _ => 0)
noncomputable def qvi (n : Nat) (P : Nat → Nat) (y : Nat) : Nat := @dite Nat (∃ i, i < n ∧ P i = y) (Classical.propDecidable _) (fun h => Classical.choose h) (fun _ => 0)
theorem qvi_B {n : Nat} {P : Nat → Nat} (h : qP n P) : qB n P (qvi n P) := by
  refine qB_of h (fun i hi => ?_)
  have hx : ∃ j, j < n ∧ P j = P i := ⟨i, hi, rfl⟩
  unfold qvi
  rw [dif_pos hx]
  have := Classical.choose_spec hx
  exact h.2 _ _ this.1 hi this.2
section
variable {n N : Nat} {O : Nat → Nat → Nat}
theorem qixo_s (h : qOr n N O) {P : Nat → Nat} (hp : qP n P) : qixo n N O P < N ∧ ∀ i, i < n → O (qixo n N O P) i = P i := by
  have hx := h.2.2.2.2.1 P hp
  unfold qixo
  rw [dif_pos hx]
  exact Classical.choose_spec hx
theorem qlx_ne {f g : Nat → Nat} (h : qlx n f g) (he : ∀ i, i < n → f i = g i) : False := by
  obtain ⟨i, i1, i2, i3⟩ := h
  have := he i i1
  omega
theorem qOr_inj (h : qOr n N O) {k l : Nat} (hk : k < N) (hl : l < N) (he : ∀ i, i < n → O k i = O l i) : k = l := by
  obtain ⟨-, -, -, -, -, h6⟩ := h
  rcases Nat.lt_trichotomy k l with c | c | c
  · exact absurd he (fun z => qlx_ne (h6 k l c hl) z)
  · exact c
  · exact absurd he (fun z => qlx_ne (h6 l k c hk) (fun i hi => (z i hi).symm))
theorem qOr_lx (h : qOr n N O) {k l : Nat} (hk : k < N) (hl : l < N) : k < l ↔ qlx n (O k) (O l) := by
  refine ⟨fun c => h.2.2.2.2.2 k l c hl, fun z => ?_⟩
  rcases Nat.lt_trichotomy k l with c | c | c
  · exact c
  · subst c
    exact absurd (fun i _ => rfl) (fun y => qlx_ne z y)
  · obtain ⟨i, i1, i2, i3⟩ := z
    obtain ⟨j, j1, j2, j3⟩ := h.2.2.2.2.2 l k c hk
    rcases Nat.lt_trichotomy i j with d | d | d
    · have := j2 i d; omega
    · subst d; omega
    · have := i2 j d; omega
noncomputable def qrni (n N : Nat) (O : Nat → Nat → Nat) (p k : Nat) : Nat := qixo n N O (fun y => O p (O k (qvi n (O p) y)))
theorem qrni_P (h : qOr n N O) {p k : Nat} (hp : p < N) (hk : k < N) : qP n (fun y => O p (O k (qvi n (O p) y))) := by
  have h1 := h.2.2.2.1 p hp
  have h2 := h.2.2.2.1 k hk
  have h3 := qvi_B h1
  refine ⟨fun y hy => h1.1 _ (h2.1 _ (h3 y hy).1), fun x y hx hy z => ?_⟩
  have z1 := h1.2 _ _ (h2.1 _ (h3 x hx).1) (h2.1 _ (h3 y hy).1) z
  have z2 := h2.2 _ _ (h3 x hx).1 (h3 y hy).1 z1
  rw [← (h3 x hx).2.1, z2, (h3 y hy).2.1]
theorem qrni_s (h : qOr n N O) {p k : Nat} (hp : p < N) (hk : k < N) : qrni n N O p k < N ∧ qrn n (O p) (O k) (O (qrni n N O p k)) := by
  have h1 := h.2.2.2.1 p hp
  have h3 := qvi_B h1
  obtain ⟨s1, s2⟩ := qixo_s h (qrni_P h hp hk)
  refine ⟨s1, fun i hi => ?_⟩
  unfold qrni
  rw [s2 _ (h1.1 i hi), (h3 i hi).2.2]
theorem qrni_u (h : qOr n N O) {p k l : Nat} (hp : p < N) (hk : k < N) (hl : l < N) (hr : qrn n (O p) (O k) (O l)) : l = qrni n N O p k := by
  obtain ⟨s1, s2⟩ := qrni_s h hp hk
  refine qOr_inj h hl s1 (fun y hy => ?_)
  obtain ⟨i, i1, rfl⟩ := qP_surj (h.2.2.2.1 p hp) hy
  rw [hr i i1, s2 i i1]
theorem qrni_inj (h : qOr n N O) {p : Nat} (hp : p < N) : qP N (qrni n N O p) := by
  refine ⟨fun k hk => (qrni_s h hp hk).1, fun k l hk hl z => qOr_inj h hk hl (fun i hi => ?_)⟩
  have s1 := (qrni_s h hp hk).2 i hi
  have s2 := (qrni_s h hp hl).2 i hi
  rw [z] at s1
  exact (h.2.2.2.1 p hp).2 _ _ ((h.2.2.2.1 k hk).1 i hi) ((h.2.2.2.1 l hl).1 i hi) (s1.symm.trans s2)
noncomputable def qmu (n N : Nat) (O : Nat → Nat → Nat) (p q : Nat) : Nat := qixo n N O (fun i => O p (O q i))
theorem qmu_s (h : qOr n N O) {p q : Nat} (hp : p < N) (hq : q < N) : qmu n N O p q < N ∧ ∀ i, i < n → O (qmu n N O p q) i = O p (O q i) := by
  have h1 := h.2.2.2.1 p hp
  have h2 := h.2.2.2.1 q hq
  exact qixo_s h ⟨fun i hi => h1.1 _ (h2.1 i hi), fun i j hi hj z => h2.2 i j hi hj (h1.2 _ _ (h2.1 i hi) (h2.1 j hj) z)⟩
noncomputable def qiv (n N : Nat) (O : Nat → Nat → Nat) (p : Nat) : Nat := qixo n N O (qvi n (O p))
theorem qiv_s (h : qOr n N O) {p : Nat} (hp : p < N) : qiv n N O p < N ∧ ∀ i, i < n → O (qiv n N O p) i = qvi n (O p) i := qixo_s h (qB_P (qvi_B (h.2.2.2.1 p hp)))
noncomputable def qei (n N : Nat) (O : Nat → Nat → Nat) : Nat := qixo n N O (fun i => i)
theorem qei_s (h : qOr n N O) : qei n N O < N ∧ ∀ i, i < n → O (qei n N O) i = i := qixo_s h ⟨fun i hi => hi, fun i j _ _ z => z⟩
noncomputable def qac (n N : Nat) (O : Nat → Nat → Nat) (p m : Nat) : Nat := qrni n N O p (m / N) * N + qrni n N O p (m % N)
theorem qdm {N x y : Nat} (hy : y < N) : (x * N + y) / N = x ∧ (x * N + y) % N = y := by
  have h0 : 0 < N := by omega
  constructor
  · rw [Nat.mul_comm, Nat.mul_add_div h0, Nat.div_eq_of_lt hy, Nat.add_zero]
  · rw [Nat.mul_comm, Nat.mul_add_mod, Nat.mod_eq_of_lt hy]
theorem qdm_lt {N x y : Nat} (hx : x < N) (hy : y < N) : x * N + y < N * N := by
  have := Nat.mul_le_mul_right N (show x + 1 ≤ N from hx)
  rw [Nat.add_mul, Nat.one_mul] at this
  omega
theorem qdm_of {N m : Nat} (h : m < N * N) : m / N < N ∧ m % N < N ∧ m / N * N + m % N = m := by
  have h0 : 0 < N := by
    rcases Nat.eq_zero_or_pos N with z | z
    · subst z; simp at h
    · exact z
  exact ⟨Nat.div_lt_of_lt_mul h, Nat.mod_lt _ h0, Nat.div_add_mod' m N⟩
theorem q_group (h : qOr n N O) : qAc N (N * N) (qac n N O) (qmu n N O) (qiv n N O) (qei n N O) := by
  have comp : ∀ p q k, p < N → q < N → k < N → qrni n N O p (qrni n N O q k) = qrni n N O (qmu n N O p q) k := by
    intro p q k hp hq hk
    obtain ⟨s1, s2⟩ := qrni_s h hq hk
    obtain ⟨s3, s4⟩ := qrni_s h hp s1
    obtain ⟨s5, s6⟩ := qmu_s h hp hq
    refine qrni_u h s5 hk s3 (fun i hi => ?_)
    rw [s6 i hi, s4 _ ((h.2.2.2.1 q hq).1 i hi), s2 i hi, s6 _ ((h.2.2.2.1 k hk).1 i hi)]
  have one : ∀ k, k < N → qrni n N O (qei n N O) k = k := by
    intro k hk
    obtain ⟨s1, s2⟩ := qei_s h
    exact (qrni_u h s1 hk hk (fun i hi => by rw [s2 i hi, s2 _ ((h.2.2.2.1 k hk).1 i hi)])).symm
  have back : ∀ p, p < N → qmu n N O (qiv n N O p) p = qei n N O := by
    intro p hp
    obtain ⟨s1, s2⟩ := qiv_s h hp
    obtain ⟨s3, s4⟩ := qmu_s h s1 hp
    obtain ⟨s5, s6⟩ := qei_s h
    have s7 := qvi_B (h.2.2.2.1 p hp)
    exact qOr_inj h s3 s5 (fun i hi => by rw [s4 i hi, s2 _ ((h.2.2.2.1 p hp).1 i hi), (s7 i hi).2.2, s6 i hi])
  refine ⟨(qei_s h).1, fun p hp => (qiv_s h hp).1, fun p q hp hq => (qmu_s h hp hq).1, fun p hp => ⟨fun q hq => (qmu_s h hp hq).1, fun q r hq hr z => ?_⟩, fun q hq => ⟨fun p hp => (qmu_s h hp hq).1, fun p r hp hr z => ?_⟩, fun p hp => ⟨fun m hm => ?_, fun m l hm hl z => ?_⟩, fun m hm => ?_, fun p q m hp hq hm => ?_, fun p m hp hm => ?_⟩
  · refine qOr_inj h hq hr (fun i hi => ?_)
    have s1 := (qmu_s h hp hq).2 i hi
    have s2 := (qmu_s h hp hr).2 i hi
    rw [z] at s1
    exact (h.2.2.2.1 p hp).2 _ _ ((h.2.2.2.1 q hq).1 i hi) ((h.2.2.2.1 r hr).1 i hi) (s1.symm.trans s2)
  · refine qOr_inj h hp hr (fun y hy => ?_)
    obtain ⟨i, i1, rfl⟩ := qP_surj (h.2.2.2.1 q hq) hy
    have s1 := (qmu_s h hp hq).2 i i1
    have s2 := (qmu_s h hr hq).2 i i1
    have z2 : qmu n N O p q = qmu n N O r q := z
    rw [z2] at s1
    exact s1.symm.trans s2
  · obtain ⟨m1, m2, -⟩ := qdm_of hm
    exact qdm_lt (qrni_s h hp m1).1 (qrni_s h hp m2).1
  · obtain ⟨m1, m2, m3⟩ := qdm_of hm
    obtain ⟨l1, l2, l3⟩ := qdm_of hl
    have a1 := (qrni_s h hp m2).1
    have a2 := (qrni_s h hp l2).1
    have d1 := qdm (x := qrni n N O p (m / N)) a1
    have d2 := qdm (x := qrni n N O p (l / N)) a2
    have z2 : qrni n N O p (m / N) * N + qrni n N O p (m % N) = qrni n N O p (l / N) * N + qrni n N O p (l % N) := z
    rw [z2] at d1
    have e1 := (qrni_inj h hp).2 _ _ m1 l1 (d1.1.symm.trans d2.1)
    have e2 := (qrni_inj h hp).2 _ _ m2 l2 (d1.2.symm.trans d2.2)
    rw [← m3, ← l3, e1, e2]
  · obtain ⟨m1, m2, m3⟩ := qdm_of hm
    unfold qac
    rw [one _ m1, one _ m2]
    exact m3
  · obtain ⟨m1, m2, m3⟩ := qdm_of hm
    have d1 := qdm (x := qrni n N O q (m / N)) (qrni_s h hq m2).1
    unfold qac
    rw [d1.1, d1.2, comp p q _ hp hq m1, comp p q _ hp hq m2]
  · obtain ⟨m1, m2, m3⟩ := qdm_of hm
    have i1 := (qiv_s h hp).1
    have d1 := qdm (x := qrni n N O p (m / N)) (qrni_s h hp m2).1
    unfold qac
    rw [d1.1, d1.2, comp _ p _ i1 hp m1, comp _ p _ i1 hp m2, back p hp, one _ m1, one _ m2]
    exact m3
/-- the least of a pair's kind -/
theorem qMi_pair (h : qOr n N O) {m : Nat} (hm : m < N * N) : qMi N (qac n N O) m ↔ (∀ p, p < N → ¬ qrni n N O p (m / N) < m / N) ∧ ∀ p, p < N → qrni n N O p (m / N) = m / N → ¬ qrni n N O p (m % N) < m % N := by
  obtain ⟨m1, m2, m3⟩ := qdm_of hm
  have key : ∀ p, p < N → (qac n N O p m < m ↔ qrni n N O p (m / N) < m / N ∨ (qrni n N O p (m / N) = m / N ∧ qrni n N O p (m % N) < m % N)) := by
    intro p hp
    have a1 := (qrni_s h hp m1).1
    have a2 := (qrni_s h hp m2).1
    have e : qac n N O p m = qrni n N O p (m / N) * N + qrni n N O p (m % N) := rfl
    rw [e]
    generalize qrni n N O p (m / N) = x at *
    generalize qrni n N O p (m % N) = y at *
    generalize m / N = u at *
    generalize m % N = v at *
    rw [← m3]
    constructor
    · intro z
      rcases Nat.lt_trichotomy x u with c | c | c
      · exact Or.inl c
      · subst c; exact Or.inr ⟨rfl, by omega⟩
      · have := Nat.mul_le_mul_right N (show u + 1 ≤ x from c)
        rw [Nat.add_mul, Nat.one_mul] at this
        omega
    · rintro (c | ⟨rfl, c⟩)
      · have := Nat.mul_le_mul_right N (show x + 1 ≤ u from c)
        rw [Nat.add_mul, Nat.one_mul] at this
        omega
      · omega
  constructor
  · intro z
    exact ⟨fun p hp y => z p hp ((key p hp).mpr (Or.inl y)), fun p hp e y => z p hp ((key p hp).mpr (Or.inr ⟨e, y⟩))⟩
  · rintro ⟨z1, z2⟩ p hp y
    rcases (key p hp).mp y with c | ⟨c1, c2⟩
    · exact z1 p hp c
    · exact z2 p hp c1 c2
theorem qSt_pair (h : qOr n N O) {m : Nat} (hm : m < N * N) : qSt N (qac n N O) m = qct (fun p => qrni n N O p (m / N) = m / N ∧ qrni n N O p (m % N) = m % N) N := by
  obtain ⟨m1, m2, m3⟩ := qdm_of hm
  refine qct_ext (fun p hp => ?_)
  have a2 := (qrni_s h hp m2).1
  have e : qac n N O p m = qrni n N O p (m / N) * N + qrni n N O p (m % N) := rfl
  rw [e]
  constructor
  · intro z
    have d := qdm (x := qrni n N O p (m / N)) a2
    rw [z] at d
    exact ⟨d.1.symm, d.2.symm⟩
  · rintro ⟨z1, z2⟩
    rw [z1, z2, m3]
end

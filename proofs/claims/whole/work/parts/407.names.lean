/-! new names change nothing of what a law says -/
theorem qwk_rn {n : Nat} {p W C V U W' C' V' U' : Nat → Nat} (h : qH n W C V U) (hW : qrn n p W W') (hC : qrn n p C C') (hV : qrn n p V V') (hU : qrn n p U U') : ∀ (ls : List Nat) (s x : Nat), x < n → qwk W' C' V' U' ls s (p x) = p (qwk W C V U ls s x) := by
  intro ls
  induction ls with
  | nil => intro s x _; rfl
  | cons l ls ih =>
    intro s x hx
    show qwk W' C' V' U' ls (qsx l) (qst W' C' V' U' l s (p x)) = p (qwk W C V U ls (qsx l) (qst W C V U l s x))
    have e : qst W' C' V' U' l s (p x) = p (qst W C V U l s x) := by
      obtain ⟨h1, h2, h3, h4, h5⟩ := h
      unfold qst
      split
      · exact hU x hx
      split
      · rw [hU x hx, hW _ (h5 x hx).1]
      split
      · split
        · exact hC x hx
        · rw [hV x hx, hC _ (h4 x hx).1]
      split
      · exact hV x hx
      split
      · exact hW x hx
      · rfl
    rw [e]
    exact ih _ _ (qst_lt h hx l s)
theorem qkp_rn {n t : Nat} {a b : List Nat} {p W C V U W' C' V' U' : Nat → Nat} (h : qH n W C V U) (hp : qP n p) (hW : qrn n p W W') (hC : qrn n p C C') (hV : qrn n p V V') (hU : qrn n p U U') : qkp n W C V U t a b ↔ qkp n W' C' V' U' t a b := by
  have k1 : ∀ i, i < n → (qk1 W C V U t a b i ↔ qk1 W' C' V' U' t a b (p i)) := by
    intro i hi
    have ra := qwk_rn h hW hC hV hU a 1 i hi
    have rb := qwk_rn h hW hC hV hU b 1 i hi
    have la := qwk_lt h a 1 i hi
    have lb := qwk_lt h b 1 i hi
    have lw := h.2.1.1 i hi
    unfold qk1
    rw [ra, rb, hW i hi]
    split
    · exact not_congr ⟨fun z => by rw [z], fun z => hp.2 _ _ la lw z⟩
    split
    · exact ⟨fun z => by rw [z], fun z => hp.2 _ _ la lw z⟩
    · exact ⟨fun z => by rw [z], fun z => hp.2 _ _ la lb z⟩
  constructor
  · intro z y hy
    obtain ⟨i, i1, rfl⟩ := qP_surj hp hy
    exact (k1 i i1).mp (z i i1)
  · intro z i hi
    exact (k1 i hi).mpr (z (p i) (hp.1 i hi))
theorem qvi_rn {n : Nat} {p W W' : Nat → Nat} (hp : qP n p) (h : qP n W) (h' : qP n W') (hr : qrn n p W W') : qrn n p (qvi n W) (qvi n W') := by
  intro i hi
  have b1 := qvi_B h
  have b2 := qvi_B h'
  have b3 := hp.1 _ (b1 i hi).1
  have e : W' (p (qvi n W i)) = p i := by rw [hr _ (b1 i hi).1, (b1 i hi).2.1]
  have := (b2 _ b3).2.2
  rw [e] at this
  exact this
theorem qcl_it {n : Nat} {W C : Nat → Nat} {S : Nat → Prop} (hW : qP n W) (hS : ∀ i, i < n → S i → S (W i)) {i : Nat} (hi : i < n) (hs : S i) : ∀ k, S (qit W k i) := by
  intro k
  induction k with
  | zero => exact hs
  | succ k ih =>
    have := qit_add W 1 k i
    rw [Nat.add_comm 1 k] at this
    rw [this]
    exact hS _ (qit_lt hW hi k) ih
theorem qcl_no {n : Nat} {W : Nat → Nat} {S : Nat → Prop} (hW : qP n W) (hS : ∀ i, i < n → S i → S (W i)) {i : Nat} (hi : i < n) (hs : ¬ S i) : ¬ S (W i) := by
  intro z
  obtain ⟨k, k1, k2, k3⟩ := qit_per hW hi
  obtain ⟨m, rfl⟩ : ∃ m, k = m + 1 := ⟨k - 1, by omega⟩
  have e := qit_add W m 1 i
  have e2 : qit W 1 i = W i := rfl
  rw [e2, k3] at e
  have := qcl_it (C := W) hW hS (hW.1 i hi) z m
  rw [← e] at this
  exact hs this
theorem qPr_all {n : Nat} {W C : Nat → Nat} (hW : qP n W) (hC : qP n C) (h : ∀ j, j < n → qre n W C j) {S : Nat → Prop} (hS : qcl n W C S) {i : Nat} (hi : i < n) (hs : S i) : ∀ j, j < n → S j := by
  have s0 : S 0 := by
    refine Classical.byContradiction fun z => ?_
    have := h i hi (fun j => ¬ S j) (fun j hj hn => ⟨qcl_no hW (fun k hk y => (hS k hk y).1) hj hn, qcl_no hC (fun k hk y => (hS k hk y).2) hj hn⟩) z
    exact this hs
  exact fun j hj => h j hj S hS s0
theorem qPr_rn1 {n : Nat} {p W C W' C' : Nat → Nat} (hp : qP n p) (hW : qP n W) (hC : qP n C) (rW : qrn n p W W') (rC : qrn n p C C') (h : qPr n W C) : qPr n W' C' := by
  refine ⟨fun y hy => ?_, fun j hj S hS s0 => ?_⟩
  · obtain ⟨i, i1, rfl⟩ := qP_surj hp hy
    rw [rW i i1]
    exact fun z => h.1 i i1 (hp.2 _ _ (hW.1 i i1) i1 z)
  · have hn : 0 < n := by omega
    obtain ⟨i0, k1, k2⟩ := qP_surj hp hn
    obtain ⟨j0, j1, rfl⟩ := qP_surj hp hj
    have := qPr_all hW hC h.2 (S := fun i => S (p i)) (fun i hi y => ?_) k1 (by show S (p i0); rw [k2]; exact s0) j0 j1
    · exact this
    · have := hS (p i) (hp.1 i hi) y
      rw [rW i hi, rC i hi] at this
      exact this
/-- lawful, by the numbers of two orders -/
def qLa (n : Nat) (O : Nat → Nat → Nat) (lc : Nat) (lt : Nat → Nat) (la lb : Nat → List Nat) (w c : Nat) : Prop := qPr n (O w) (O c) ∧ ∀ l, l < lc → qkp n (O w) (O c) (qvi n (O w)) (qvi n (O c)) (lt l) (la l) (lb l)
theorem qH_vi {n : Nat} {W C : Nat → Nat} (hn : n ≤ 8) (hW : qP n W) (hC : qP n C) : qH n W C (qvi n W) (qvi n C) := ⟨hn, hW, hC, qvi_B hW, qvi_B hC⟩
theorem qLa_rn {n N : Nat} {O : Nat → Nat → Nat} (h : qOr n N O) {lc : Nat} {lt : Nat → Nat} {la lb : Nat → List Nat} {p m : Nat} (hp : p < N) (hm : m < N * N) : qLa n O lc lt la lb (m / N) (m % N) ↔ qLa n O lc lt la lb (qac n N O p m / N) (qac n N O p m % N) := by
  obtain ⟨m1, m2, m3⟩ := qdm_of hm
  obtain ⟨s1, s2⟩ := qrni_s h hp m1
  obtain ⟨s3, s4⟩ := qrni_s h hp m2
  have d : (qac n N O p m / N = qrni n N O p (m / N)) ∧ qac n N O p m % N = qrni n N O p (m % N) := qdm s3
  rw [d.1, d.2]
  have P := h.2.2.2.1
  have n8 : n ≤ 8 := by have := h.2.1; omega
  have k : ∀ l, l < lc → (qkp n (O (m / N)) (O (m % N)) (qvi n (O (m / N))) (qvi n (O (m % N))) (lt l) (la l) (lb l) ↔ qkp n (O (qrni n N O p (m / N))) (O (qrni n N O p (m % N))) (qvi n (O (qrni n N O p (m / N)))) (qvi n (O (qrni n N O p (m % N)))) (lt l) (la l) (lb l)) := fun l _ => qkp_rn (qH_vi n8 (P _ m1) (P _ m2)) (P p hp) s2 s4 (qvi_rn (P p hp) (P _ m1) (P _ s1) s2) (qvi_rn (P p hp) (P _ m2) (P _ s3) s4)
  constructor
  · rintro ⟨z1, z2⟩
    exact ⟨qPr_rn1 (P p hp) (P _ m1) (P _ m2) s2 s4 z1, fun l hl => (k l hl).mp (z2 l hl)⟩
  · rintro ⟨z1, z2⟩
    refine ⟨?_, fun l hl => (k l hl).mpr (z2 l hl)⟩
    obtain ⟨i1, i2⟩ := qiv_s h hp
    have vb := qvi_B (P p hp)
    have back : ∀ f g : Nat → Nat, (∀ i, i < n → f i < n) → qrn n (O p) f g → qrn n (O (qiv n N O p)) g f := by
      intro f g hf hr y hy
      obtain ⟨i, k1, rfl⟩ := qP_surj (P p hp) hy
      rw [hr i k1, i2 _ ((P p hp).1 i k1), (vb i k1).2.2, i2 _ ((P p hp).1 _ (hf i k1)), (vb _ (hf i k1)).2.2]
    exact qPr_rn1 (P _ i1) (P _ s1) (P _ s3) (back _ _ (P _ m1).1 s2) (back _ _ (P _ m2).1 s4) z1
/-- how many systems are lawful, by kinds -/
theorem q_countK {n N : Nat} {O : Nat → Nat → Nat} (h : qOr n N O) {lc : Nat} {lt : Nat → Nat} {la lb : Nat → List Nat} : qct (fun m => qLa n O lc lt la lb (m / N) (m % N)) (N * N) = qsu (fun m => qin (qMi N (qac n N O) m ∧ qLa n O lc lt la lb (m / N) (m % N)) * (N / qSt N (qac n N O) m)) (N * N) :=
  q_orbit (q_group h) (fun p m hp hm => qLa_rn h hp hm)

/-! the numbers of the programs: nI n, mI = -1; conditions decided by the context -/
def mI : Int32 := -1
def mJ : Int32 := -2
theorem qn_lit (n : Nat) : (no_index (OfNat.ofNat n) : Int32) = nI (OfNat.ofNat n) := Eq.trans (b := nI n) rfl rfl
theorem qn_ofNat (n : Nat) : Int32.ofNat n = nI n := rfl
theorem qn_neg1 : -(nI 1) = mI := by decide
theorem qn_neg2 : -(nI 2) = mJ := by decide
theorem qn_sub {a b : Nat} (h : b ≤ a) : nI a - nI b = nI (a - b) := pk_sub h
theorem qn_ltT {a b : Nat} (h : a < b) (hb : b < 2147483648) : (nI a < nI b) = True := eq_true (nI_lt h hb)
theorem qn_ltF {a b : Nat} (h : b ≤ a) (ha : a < 2147483648) : (nI a < nI b) = False := eq_false (nI_nlt h ha)
theorem qn_leT {a b : Nat} (h : a ≤ b) (hb : b < 2147483648) : (nI a ≤ nI b) = True := eq_true (nI_le h hb)
theorem qn_leF {a b : Nat} (h : b < a) (ha : a < 2147483648) : (nI a ≤ nI b) = False := eq_false (nI_ge h ha)
theorem qn_eqT {a b : Nat} (h : a = b) : (nI a = nI b) = True := eq_true (congrArg nI h)
theorem qn_eqF {a b : Nat} (h : a ≠ b) (ha : a < 2147483648) (hb : b < 2147483648) : (nI a = nI b) = False := eq_false (fun e => h ((nI_eq ha hb).mp e))
theorem qn_mI : mI.toInt = -1 := by decide
theorem qn_m1T : (mI = mI) = True := eq_true rfl
theorem qn_m1F {a : Nat} (h : a < 2147483648) : (nI a = mI) = False := eq_false (fun e => by
  have h1 := congrArg Int32.toInt e
  rw [nI_toInt h, qn_mI] at h1
  omega)
theorem qn_m1F2 {a : Nat} (h : a < 2147483648) : (mI = nI a) = False := eq_false (fun e => by
  have h1 := congrArg Int32.toInt e
  rw [nI_toInt h, qn_mI] at h1
  omega)
theorem qn_m1lt {a : Nat} (h : a < 2147483648) : (mI < nI a) = True := eq_true (by
  rw [Int32.lt_iff_toInt_lt, nI_toInt h, qn_mI]
  omega)
theorem qn_m1lt2 {a : Nat} (h : a < 2147483648) : (nI a < mI) = False := eq_false (by
  rw [Int32.lt_iff_toInt_lt, nI_toInt h, qn_mI]
  omega)
theorem qn_m1le {a : Nat} (h : a < 2147483648) : (mI ≤ nI a) = True := eq_true (by
  rw [Int32.le_iff_toInt_le, nI_toInt h, qn_mI]
  omega)
theorem qn_m1le2 {a : Nat} (h : a < 2147483648) : (nI a ≤ mI) = False := eq_false (by
  rw [Int32.le_iff_toInt_le, nI_toInt h, qn_mI]
  omega)
theorem qn_bv (a : Nat) : (nI a).toBitVec = BitVec.ofNat 32 a := rfl
theorem qn_and (a b : Nat) : nI a &&& nI b = nI (a &&& b) := by
  apply Int32.toBitVec_inj.mp
  rw [Int32.toBitVec_and, qn_bv, qn_bv, qn_bv]
  apply BitVec.eq_of_toNat_eq
  simp [BitVec.toNat_and, BitVec.toNat_ofNat, Nat.and_mod_two_pow]
theorem qn_or (a b : Nat) : nI a ||| nI b = nI (a ||| b) := by
  apply Int32.toBitVec_inj.mp
  rw [Int32.toBitVec_or, qn_bv, qn_bv, qn_bv]
  apply BitVec.eq_of_toNat_eq
  simp [BitVec.toNat_or, BitVec.toNat_ofNat, Nat.or_mod_two_pow]
theorem qn_and1 (a : Nat) : nI a &&& nI 1 = nI (a % 2) := by rw [qn_and, show (1 : Nat) = 2 ^ 1 - 1 from rfl, Nat.and_two_pow_sub_one_eq_mod]
theorem qn_and3 (a : Nat) : nI a &&& nI 3 = nI (a % 4) := by rw [qn_and, show (3 : Nat) = 2 ^ 2 - 1 from rfl, Nat.and_two_pow_sub_one_eq_mod]
theorem qn_and7 (a : Nat) : nI a &&& nI 7 = nI (a % 8) := by rw [qn_and, show (7 : Nat) = 2 ^ 3 - 1 from rfl, Nat.and_two_pow_sub_one_eq_mod]
theorem qn_and15 (a : Nat) : nI a &&& nI 15 = nI (a % 16) := by rw [qn_and, show (15 : Nat) = 2 ^ 4 - 1 from rfl, Nat.and_two_pow_sub_one_eq_mod]
theorem qn_and31 (a : Nat) : nI a &&& nI 31 = nI (a % 32) := by rw [qn_and, show (31 : Nat) = 2 ^ 5 - 1 from rfl, Nat.and_two_pow_sub_one_eq_mod]
theorem qn_and255 (a : Nat) : nI a &&& nI 255 = nI (a % 256) := by rw [qn_and, show (255 : Nat) = 2 ^ 8 - 1 from rfl, Nat.and_two_pow_sub_one_eq_mod]
theorem qn_and2047 (a : Nat) : nI a &&& nI 2047 = nI (a % 2048) := by rw [qn_and, show (2047 : Nat) = 2 ^ 11 - 1 from rfl, Nat.and_two_pow_sub_one_eq_mod]
theorem qn_smod (b : Nat) (h : b < 32) : ((nI b).toBitVec.smod 32).toNat = b := by
  have key : ∀ k : Fin 32, ((nI k.val).toBitVec.smod 32).toNat = k.val := by decide +kernel
  exact key ⟨b, h⟩
theorem qn_shl {a b : Nat} (h : b < 32) : nI a <<< nI b = nI (2 ^ b * a) := by
  apply Int32.toBitVec_inj.mp
  apply BitVec.eq_of_toNat_eq
  rw [pk_shl _ _ b (qn_smod b h), qn_bv, qn_bv, BitVec.toNat_ofNat, BitVec.toNat_ofNat, Nat.mod_mul_mod, Nat.mul_comm]
theorem qn_shr {a b : Nat} (ha : a < 2147483648) (h : b < 32) : nI a >>> nI b = nI (a / 2 ^ b) := pk_shrN ha _ b (qn_smod b h)
theorem qn_div {a d : Nat} (ha : a < 2147483648) (h0 : 0 < d) (hd : d < 2147483648) : nI a / nI d = nI (a / d) := pk_div ha h0 hd
theorem qn_modlt {a b : Nat} (h : a < b) : a % b = a := Nat.mod_eq_of_lt h
theorem qn_us {f : Nat → Int32} {k j : Nat} {x : Int32} (h : j = k) : upd f k x j = x := if_pos h
theorem qn_un {f : Nat → Int32} {k j : Nat} {x : Int32} (h : j ≠ k) : upd f k x j = f j := if_neg h
theorem qn_nn {x : Int32} (h : x < nI 0) : (x < nI 0) = True := eq_true h
theorem qn_split (x : Int32) : x < nI 0 ∨ ∃ j : Nat, j < 2147483648 ∧ x = nI j := by
  by_cases h : x < 0
  · exact Or.inl h
  · exact Or.inr (nI_of h)
theorem qn_ngT {x : Int32} {b : Nat} (h : x < nI 0) (hb : b < 2147483648) : (x < nI b) = True := eq_true (by
  rw [Int32.lt_iff_toInt_lt, nI_toInt hb]
  rw [Int32.lt_iff_toInt_lt, nI_toInt (by decide)] at h
  omega)
theorem qn_ngF {x : Int32} {b : Nat} (h : x < nI 0) (hb : b < 2147483648) : (nI b ≤ x) = False := eq_false (by
  rw [Int32.le_iff_toInt_le, nI_toInt hb]
  rw [Int32.lt_iff_toInt_lt, nI_toInt (by decide)] at h
  omega)
theorem qn_ngE {x : Int32} {b : Nat} (h : x < nI 0) (hb : b < 2147483648) : (x = nI b) = False := eq_false (fun e => by
  subst e
  rw [Int32.lt_iff_toInt_lt, nI_toInt hb, nI_toInt (n := 0) (by decide)] at h
  omega)
theorem qn_ngE2 {x : Int32} {b : Nat} (h : x < nI 0) (hb : b < 2147483648) : (nI b = x) = False := eq_false (fun e => by
  subst e
  rw [Int32.lt_iff_toInt_lt, nI_toInt hb, nI_toInt (n := 0) (by decide)] at h
  omega)
theorem qn_ngL {x : Int32} {b : Nat} (h : x < nI 0) (hb : b < 2147483648) : (nI b < x) = False := eq_false (by
  rw [Int32.lt_iff_toInt_lt, nI_toInt hb]
  rw [Int32.lt_iff_toInt_lt, nI_toInt (by decide)] at h
  omega)
theorem qn_ngM {x : Int32} {b : Nat} (h : x < nI 0) (hb : b < 2147483648) : (x ≤ nI b) = True := eq_true (by
  rw [Int32.le_iff_toInt_le, nI_toInt hb]
  rw [Int32.lt_iff_toInt_lt, nI_toInt (by decide)] at h
  omega)
theorem qn_addm {a : Nat} (h : 1 ≤ a) : nI a + mI = nI (a - 1) := by
  obtain ⟨b, rfl⟩ : ∃ b, a = b + 1 := ⟨a - 1, by omega⟩
  exact pk_m1 b
/-! programs -/
def qW {α : Type} (o : Option α) (Q : α → Prop) : Prop := ∃ a, o = some a ∧ Q a
theorem qW_some {α : Type} (a : α) (Q : α → Prop) : qW (some a) Q = Q a := propext ⟨fun ⟨b, h1, h2⟩ => by cases h1; exact h2, fun h => ⟨a, rfl, h⟩⟩
theorem qL {β : Type} {N j : Nat} {f : Nat → Int32} {k : Int32 → Option β} (hj : j < N) (hN : N < 2147483648) : jL (N, f) (nI j) k = k (f j) := jL_at j rfl hj hN k
theorem qS {β : Type} {N j : Nat} {f : Nat → Int32} {x : Int32} {k : jA → Option β} (hj : j < N) (hN : N < 2147483648) : jS (N, f) (nI j) x k = k (N, upd f j x) := jS_at j rfl hj hN k
theorem qM {α β : Type} (a : α) (k : α → Option β) : jM (some a) k = k a := Eq.trans (b := k a) rfl rfl
theorem qV {α β : Type} (a : α) (k : α → Option β) : jV a k = k a := Eq.trans (b := k a) rfl rfl
theorem qE_l {α β γ : Type} (f : α → γ) (g : β → γ) (a : α) : Sum.elim f g (Sum.inl a) = f a := Eq.trans (b := f a) rfl rfl
theorem qE_r {α β γ : Type} (f : α → γ) (g : β → γ) (a : β) : Sum.elim f g (Sum.inr a) = g a := Eq.trans (b := g a) rfl rfl
theorem qQ {β : Type} {a : Nat} {k : Option β} (h0 : a ≠ 0) (h : a < 2147483648) : jQ (nI a) k = k := if_neg (fun e => h0 ((nI_eq h (by decide)).mp e))
theorem qZ0 {β : Type} (k : Option β) : jZ (nI 0) k = k := if_pos (Or.inl rfl)
theorem qZ1 {β : Type} (k : Option β) : jZ (nI 1) k = k := if_pos (Or.inr rfl)
theorem qW_eq {α : Type} {o : Option α} {a : α} {Q : α → Prop} (h : o = some a) (hq : Q a) : qW o Q := ⟨a, h, hq⟩
theorem qW_jM {α β : Type} {o : Option α} {k : α → Option β} {R : α → Prop} {Q : β → Prop} (h : qW o R) (hk : ∀ a, R a → qW (k a) Q) : qW (jM o k) Q := by
  obtain ⟨a, rfl, h2⟩ := h
  exact hk a h2
theorem qW_mono {α : Type} {o : Option α} {Q R : α → Prop} (h : qW o Q) (hq : ∀ a, Q a → R a) : qW o R := by
  obtain ⟨a, h1, h2⟩ := h
  exact ⟨a, h1, hq a h2⟩
theorem qW_and {α : Type} {o : Option α} {Q R : α → Prop} (h : qW o Q) (g : qW o R) : qW o (fun a => Q a ∧ R a) := by
  obtain ⟨a, h1, h2⟩ := h
  obtain ⟨b, g1, g2⟩ := g
  rw [h1] at g1
  cases g1
  exact ⟨a, h1, h2, g2⟩
theorem jF_le : 100000 ≤ jF := by decide
/-- a loop that counts from a to N -/
theorem qfor {S E : Type} {b : S → Option (S ⊕ E)} {s0 : S} {Q : E → Prop} (a N : Nat) (I : Nat → S → Prop) (h0 : I a s0) (ha : a ≤ N) (hN : N < 100000) (hs : ∀ i s, a ≤ i → i < N → I i s → qW (b s) (Sum.elim (I (i + 1)) Q)) (he : ∀ s, I N s → qW (b s) (Sum.elim (fun _ => False) Q)) : qW (jI b jF s0) Q := by
  have key : ∀ k i s fuel, i + k = N → a ≤ i → I i s → k < fuel → qW (jI b fuel s) Q := by
    intro k
    induction k with
    | zero =>
      intro i s fuel hi hai hI hf
      obtain ⟨m, rfl⟩ : ∃ m, fuel = m + 1 := ⟨fuel - 1, by omega⟩
      have hi2 : i = N := by omega
      subst hi2
      obtain ⟨r, h1, h2⟩ := he s hI
      cases r with
      | inl s' => exact absurd h2 id
      | inr e => exact ⟨e, jI_inr h1, h2⟩
    | succ k ih =>
      intro i s fuel hi hai hI hf
      obtain ⟨m, rfl⟩ : ∃ m, fuel = m + 1 := ⟨fuel - 1, by omega⟩
      obtain ⟨r, h1, h2⟩ := hs i s hai (by omega) hI
      cases r with
      | inl s' =>
        rw [jI_inl h1]
        exact ih (i + 1) s' m (by omega) (by omega) h2 (by omega)
      | inr e => exact ⟨e, jI_inr h1, h2⟩
  have := jF_le
  exact key (N - a) a s0 jF (by omega) (Nat.le_refl _) h0 (by omega)
/-- a loop with a measure that falls -/
theorem qwhile {S E : Type} {b : S → Option (S ⊕ E)} {s0 : S} {Q : E → Prop} (I : S → Prop) (μ : S → Nat) (h0 : I s0) (hμ : μ s0 < 100000) (hs : ∀ s, I s → qW (b s) (Sum.elim (fun s' => I s' ∧ μ s' < μ s) Q)) : qW (jI b jF s0) Q := by
  have key : ∀ fuel s, I s → μ s < fuel → qW (jI b fuel s) Q := by
    intro fuel
    induction fuel with
    | zero => intro s _ h; omega
    | succ m ih =>
      intro s hI hm
      obtain ⟨r, h1, h2⟩ := hs s hI
      cases r with
      | inl s' =>
        rw [jI_inl h1]
        exact ih s' h2.1 (by have := h2.2; omega)
      | inr e => exact ⟨e, jI_inr h1, h2⟩
  have := jF_le
  exact key jF s0 h0 (by omega)
theorem qW_get {α : Type} {o : Option α} {Q : α → Prop} (h : qW o Q) : ∃ a, o = some a ∧ Q a := h

/-! the tape: feed and end of both sides -/
theorem X7_put_b {g : Nat → Int32} {m : Nat} {x k : Int32} (h2 : m < 400) (h3 : ¬ k < 0) : f_X7_put_b3 (nI m) (400, g) x k = some (Sum.inl (nI (m + 1), (400, upd g m (fdb x k)), k + (-8))) := by
  unfold f_X7_put_b3
  have h4 : ¬ Int32.ofNat (400, g).1 ≤ nI m := nI_ge (a := m) (b := 400) h2 (by decide)
  rw [if_neg h3, if_neg (nI_pos (by omega)), if_neg h4, jS_p m rfl h2 (by decide), nar2]
  unfold f_X7_put_j49
  rw [jV_at, show nI m + (1 : Int32) = nI (m + 1) from nI_1 m]
  rfl
theorem X7_put_x {S : Int32} {G : jA} {x k : Int32} (h : k < 0) : f_X7_put_b3 S G x k = some (Sum.inr (S, G)) := by
  unfold f_X7_put_b3
  rw [if_pos h]
theorem X7_put_eq {g : Nat → Int32} {n : Nat} {x : Int32} (hn : n + 4 ≤ 400) : f_X7_put (nI n) (400, g) x = some (nI (n + 4), (400, fd4 g n x)) := by
  unfold f_X7_put f_X7_put_l3
  have b0 := X7_put_b (x := x) (g := g) (m := n) (k := 24) (by omega) (by decide)
  have b1 := X7_put_b (x := x) (g := upd g n (fdb x 24)) (m := n + 1) (k := 24 + -8) (by omega) (by decide)
  have b2 := X7_put_b (x := x) (g := upd (upd g n (fdb x 24)) (n + 1) (fdb x (24 + -8))) (m := n + 1 + 1) (k := 24 + -8 + -8) (by omega) (by decide)
  have b3 := X7_put_b (x := x) (g := upd (upd (upd g n (fdb x 24)) (n + 1) (fdb x (24 + -8))) (n + 1 + 1) (fdb x (24 + -8 + -8))) (m := n + 1 + 1 + 1) (k := 24 + -8 + -8 + -8) (by omega) (by decide)
  have h := jI_4 (b := fun z : Int32 × jA × Int32 => f_X7_put_b3 z.1 z.2.1 x z.2.2) (s0 := (nI n, (400, g), (24 : Int32))) (s1 := (nI (n + 1), (400, upd g n (fdb x 24)), 24 + -8)) (s2 := (nI (n + 1 + 1), (400, upd (upd g n (fdb x 24)) (n + 1) (fdb x (24 + -8))), 24 + -8 + -8)) (s3 := (nI (n + 1 + 1 + 1), (400, upd (upd (upd g n (fdb x 24)) (n + 1) (fdb x (24 + -8))) (n + 1 + 1) (fdb x (24 + -8 + -8))), 24 + -8 + -8 + -8)) (s4 := (nI (n + 1 + 1 + 1 + 1), (400, upd (upd (upd (upd g n (fdb x 24)) (n + 1) (fdb x (24 + -8))) (n + 1 + 1) (fdb x (24 + -8 + -8))) (n + 1 + 1 + 1) (fdb x (24 + -8 + -8 + -8))), 24 + -8 + -8 + -8 + -8)) jF jF_5 b0 b1 b2 b3 (X7_put_x (k := 24 + -8 + -8 + -8 + -8) (by decide))
  rw [jM_at h]
  rfl
/-- twenty bytes -/
def fd20 (f : Nat → Int32) (n : Nat) (a b c d e : Int32) : Nat → Int32 := fd4 (fd4 (fd4 (fd4 (fd4 f n a) (n + 4) b) (n + 8) c) (n + 12) d) (n + 16) e
theorem nI_20 (n : Nat) : nI n + (20 : Int32) = nI (n + 20) := nI_add n 20
theorem nI_le400 {n : Nat} (h : n < 2 ^ 30) : nI (n + 20) ≤ (400 : Int32) ↔ n + 20 ≤ 400 := nI_leI (a := n + 20) (b := 400) (by omega) (by decide)
theorem X11_feed_yes {g : Nat → Int32} {n : Nat} {a b c d e : Int32} (hn : n + 20 ≤ 400) : f_X11_feed (nI n) (400, g) a b c d e = some (nI (n + 20), nI (n + 20), (400, fd20 g n a b c d e)) := by
  unfold f_X11_feed f_X7_append
  rw [nI_20, if_pos ((nI_le400 (by omega)).mpr hn), jM_at (X7_put_eq (by omega))]
  dsimp only
  rw [jM_at (X7_put_eq (by omega))]
  dsimp only
  rw [jM_at (X7_put_eq (by omega))]
  dsimp only
  rw [jM_at (X7_put_eq (by omega))]
  dsimp only
  rw [jM_at (X7_put_eq (by omega))]
  rfl
theorem X11_feed_no {g : Nat → Int32} {n : Nat} {a b c d e : Int32} (h0 : n ≤ 400) (hn : ¬ n + 20 ≤ 400) : f_X11_feed (nI n) (400, g) a b c d e = some (-1, nI n, (400, g)) := by
  unfold f_X11_feed f_X7_append
  rw [nI_20, if_neg (fun h => hn ((nI_le400 (by omega)).mp h))]
  rfl
theorem X12_feed_yes {sz g : Nat → Int32} {n : Nat} {q a b c d e : Int32} (hn : n + 20 ≤ 400) (hs : sz 0 = nI n) : f_X12_feed q (4, sz) (1600, g) a b c d e = some (nI (n + 20), 0, (4, upd sz 0 (nI (n + 20))), (1600, fd20 g n a b c d e)) := by
  unfold f_X12_feed
  rw [jL_p 0 nI_0.symm (by decide) (by decide), hs, nI_20, if_pos ((nI_le400 (by omega)).mpr hn), jM_at (X12_four_eq (by omega) hs)]
  dsimp only
  rw [jM_at (X12_four_eq (by omega) pk_us), upd_upd]
  dsimp only
  rw [jM_at (X12_four_eq (by omega) pk_us), upd_upd]
  dsimp only
  rw [jM_at (X12_four_eq (by omega) pk_us), upd_upd]
  dsimp only
  rw [jM_at (X12_four_eq (by omega) pk_us), upd_upd]
  dsimp only
  rw [jL_p 0 nI_0.symm (by decide) (by decide), pk_us]
  rfl
theorem X12_feed_no {sz g : Nat → Int32} {n : Nat} {q a b c d e : Int32} (h0 : n ≤ 400) (hn : ¬ n + 20 ≤ 400) (hs : sz 0 = nI n) : f_X12_feed q (4, sz) (1600, g) a b c d e = some (-1, 0, (4, sz), (1600, g)) := by
  unfold f_X12_feed
  rw [jL_p 0 nI_0.symm (by decide) (by decide), hs, nI_20, if_neg (fun h => hn ((nI_le400 (by omega)).mp h))]
theorem X11_end_yes {n : Nat} {x : Int32} (h1 : ¬ x < 0) (h2 : x ≤ nI n) : f_X11_end (nI n) x = some (x, x) := by
  unfold f_X11_end f_X7_cut
  rw [if_neg h1, if_pos h2]
  rfl
theorem X11_end_no {n : Nat} {x : Int32} (h : x < 0 ∨ ¬ x ≤ nI n) : f_X11_end (nI n) x = some (-1, nI n) := by
  unfold f_X11_end f_X7_cut
  by_cases h1 : x < 0
  · rw [if_pos h1]
    rfl
  · rw [if_neg h1, if_neg (h.resolve_left h1)]
    rfl
theorem X12_in_yes {x a b : Int32} (h1 : ¬ x < a) (h2 : ¬ b < x) : f_X12_in x a b = some 1 := by
  unfold f_X12_in
  rw [if_neg h1, if_neg h2]
theorem X12_in_no {x a b : Int32} (h : x < a ∨ b < x) : f_X12_in x a b = some 0 := by
  unfold f_X12_in
  by_cases h1 : x < a
  · rw [if_pos h1]
  · rw [if_neg h1, if_pos (h.resolve_left h1)]
theorem X12_end_yes {sz : Nat → Int32} {n : Nat} {q x : Int32} (hs : sz 0 = nI n) (h1 : ¬ x < 0) (h2 : x ≤ nI n) : f_X12_end q (4, sz) x = some (x, 0, (4, upd sz 0 x)) := by
  unfold f_X12_end
  rw [jL_p 0 nI_0.symm (by decide) (by decide), hs, jM_at (X12_in_yes h1 (Int32.not_lt.mpr h2)), if_neg (by decide), jS_p 0 nI_0.symm (by decide) (by decide)]
theorem X12_end_no {sz : Nat → Int32} {n : Nat} {q x : Int32} (hs : sz 0 = nI n) (h : x < 0 ∨ ¬ x ≤ nI n) : f_X12_end q (4, sz) x = some (-1, 0, (4, sz)) := by
  unfold f_X12_end
  rw [jL_p 0 nI_0.symm (by decide) (by decide), hs, jM_at (X12_in_no (h.imp id Int32.not_le.mp)), if_pos rfl]

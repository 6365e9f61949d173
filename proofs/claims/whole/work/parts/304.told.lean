/-! told -/
theorem idx_of {x : Int32} {c : Nat} (hc : c < 2 ^ 31) (h0 : ¬ x < 0) (h1 : ¬ nI c ≤ x) : ∃ j : Nat, j < c ∧ x = nI j := by
  rcases pk_ix x hc with h | h | h
  · exact absurd h h0
  · exact absurd h h1
  · exact h
theorem pred_lt {x : Int32} {c : Nat} (hc : c < 2 ^ 30) : nI c - (1 : Int32) < x ↔ nI c ≤ x := by
  have h1 : (nI c - (1 : Int32)).toInt = (c : Int) - 1 := pk_sub_toInt (b := 1) hc (by decide)
  have h2 : (nI c).toInt = (c : Int) := nI_toInt (by omega)
  rw [Int32.lt_iff_toInt_lt, Int32.le_iff_toInt_le, h1, h2]
  omega
theorem X12_in_out {x : Int32} {c : Nat} (hc : c < 2 ^ 30) (h : x < 0 ∨ nI c ≤ x) : f_X12_in x 0 (nI c - 1) = some 0 := X12_in_no (h.imp id (pred_lt hc).mpr)
theorem X12_in_ok {x : Int32} {c : Nat} (hc : c < 2 ^ 30) (h0 : ¬ x < 0) (h1 : ¬ nI c ≤ x) : f_X12_in x 0 (nI c - 1) = some 1 := X12_in_yes h0 (fun h => h1 ((pred_lt hc).mp h))
theorem X11_entry_at {N j : Nat} {f : Nat → Int32} (hj : j < N) (hN : N < 2147483648) : f_X11_entry (N, f) (nI j) = some (f j) := by
  unfold f_X11_entry
  have h4 : ¬ Int32.ofNat (N, f).1 ≤ nI j := nI_ge (a := j) (b := N) hj hN
  rw [if_neg (nI_pos (by omega)), if_neg h4, jL_p j rfl hj hN]
theorem told_agree {c : Nat} {te td tk tc tp tt ts : Nat → Int32} {q x y : Int32} (hc : c ≤ 60) (hs : ts 0 = nI c) (h1 : ∀ j, j < c → tp j = te j) (h2 : ∀ j, j < c → tc j = tk j) (h3 : ∀ j, j < c → tt j = td j) : ∃ r, f_X11_told (nI c) (60, te) (60, td) (60, tk) x y = some r ∧ f_X12_told (4, ts) (240, tc) (240, tt) (240, tp) q x y = some (r, 0) := by
  unfold f_X11_told f_X4_tellingPart f_X12_told
  rw [jL_p 0 nI_0.symm (by decide) (by decide), hs]
  by_cases c0 : x < 0
  · rw [if_pos c0, jM_at (X12_in_out (by omega) (Or.inl c0)), if_pos rfl]
    exact ⟨_, rfl, rfl⟩
  · rw [if_neg c0]
    by_cases c1 : nI c ≤ x
    · rw [if_neg (Int32.not_lt.mpr c1), jM_at (X12_in_out (by omega) (Or.inr c1)), if_pos rfl]
      exact ⟨_, rfl, rfl⟩
    · obtain ⟨j, hj, rfl⟩ := idx_of (by omega) c0 c1
      rw [if_pos (Int32.not_le.mp c1), jM_at (X12_in_ok (by omega) c0 c1), if_neg (show ¬ (1 : Int32) = 0 by decide)]
      by_cases d0 : y = 0
      · rw [if_pos d0, if_pos d0, X11_entry_at (by omega) (by decide), jL_p j rfl (by omega) (by decide), h1 j hj]
        exact ⟨_, rfl, rfl⟩
      · rw [if_neg d0, if_neg d0]
        by_cases d1 : y = 1
        · rw [if_pos d1, if_pos d1, X11_entry_at (by omega) (by decide), jL_p j rfl (by omega) (by decide), h2 j hj]
          exact ⟨_, rfl, rfl⟩
        · rw [if_neg d1, if_neg d1]
          by_cases d2 : y = 2
          · rw [if_pos d2, if_pos d2, X11_entry_at (by omega) (by decide), jL_p j rfl (by omega) (by decide), h3 j hj]
            exact ⟨_, rfl, rfl⟩
          · rw [if_neg d2, if_neg d2]
            exact ⟨_, rfl, rfl⟩

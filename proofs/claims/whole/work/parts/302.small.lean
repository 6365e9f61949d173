/-! small calls: fault, day, view -/
theorem fault_agree {ft fp : Nat → Int32} {a b x q : Int32} (h1 : ft 0 = a) (h2 : fp 0 = b) : ∃ r, f_X11_fault a b x = some r ∧ f_X12_fault (4, ft) (4, fp) q x = some (r, 0) := by
  unfold f_X11_fault f_X12_fault
  by_cases c1 : x = 0
  · rw [if_pos c1, if_pos c1, jL_p 0 nI_0.symm (by decide) (by decide), h1]
    exact ⟨_, rfl, rfl⟩
  · rw [if_neg c1, if_neg c1]
    by_cases c2 : x = 1
    · rw [if_pos c2, if_pos c2, jL_p 0 nI_0.symm (by decide) (by decide), h2]
      exact ⟨_, rfl, rfl⟩
    · rw [if_neg c2, if_neg c2]
      exact ⟨_, rfl, rfl⟩
theorem day_agree {ds : Nat → Int32} {t x q : Int32} (h : ds 0 = t) : ∃ r t', f_X11_day t x = some (r, t') ∧ ∃ ds', f_X12_day q (4, ds) x = some (r, 0, (4, ds')) ∧ ds' 0 = t' ∧ ∀ j, j ≠ 0 → ds' j = ds j := by
  unfold f_X11_day f_X4_moveDay f_X12_day
  rw [jL_p 0 nI_0.symm (by decide) (by decide), h]
  by_cases c1 : x < t
  · rw [if_pos c1, jM_at (X12_in_no (Or.inl c1)), if_pos rfl]
    exact ⟨0, t, rfl, ds, rfl, h, fun _ _ => rfl⟩
  · rw [if_neg c1]
    by_cases c2 : x ≤ 999
    · rw [if_pos c2, jM_at (X12_in_yes c1 (Int32.not_lt.mpr c2)), if_neg (by decide), jS_p 0 nI_0.symm (by decide) (by decide)]
      exact ⟨1, x, rfl, _, rfl, pk_us, fun j hj => pk_un hj⟩
    · rw [if_neg c2, jM_at (X12_in_no (Or.inr (Int32.not_le.mp c2))), if_pos rfl]
      exact ⟨0, t, rfl, ds, rfl, h, fun _ _ => rfl⟩
theorem view_agree {ds vs : Nat → Int32} {t v x q : Int32} (h : ds 0 = t) (hv : vs 0 = v) : ∃ r v', f_X4_moveView t v x = some (r, v') ∧ (r = 0 ∨ r = 1) ∧ ∃ vs', f_X12_view (4, ds) q (4, vs) x = some (r, 0, (4, vs')) ∧ vs' 0 = v' ∧ ∀ j, j ≠ 0 → vs' j = vs j := by
  unfold f_X4_moveView f_X12_view
  rw [jL_p 0 nI_0.symm (by decide) (by decide), h]
  by_cases c1 : x < -1
  · rw [if_pos c1, jM_at (X12_in_no (Or.inl c1)), if_pos rfl]
    exact ⟨0, v, rfl, Or.inl rfl, vs, rfl, hv, fun _ _ => rfl⟩
  · rw [if_neg c1]
    by_cases c2 : x ≤ t
    · rw [if_pos c2, jM_at (X12_in_yes c1 (Int32.not_lt.mpr c2)), if_neg (by decide), jS_p 0 nI_0.symm (by decide) (by decide)]
      exact ⟨1, x, rfl, Or.inr rfl, _, rfl, pk_us, fun j hj => pk_un hj⟩
    · rw [if_neg c2, jM_at (X12_in_no (Or.inr (Int32.not_le.mp c2))), if_pos rfl]
      exact ⟨0, v, rfl, Or.inl rfl, vs, rfl, hv, fun _ _ => rfl⟩

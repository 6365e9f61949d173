/-! person -/
theorem X11_isSex_yes {x : Int32} (h : x = 0 ∨ x = 1) : f_X11_isSex x = some 1 := by rcases h with rfl | rfl <;> rfl
theorem X11_isSex_no {x : Int32} (h0 : ¬ x = 0) (h1 : ¬ x = 1) : f_X11_isSex x = some 0 := by
  unfold f_X11_isSex
  simp [h0, h1]
theorem X11_person_bad {kn x : Int32} {c : Nat} {F M D S : jA} (h0 : ¬ x = 0) (h1 : ¬ x = 1) : f_X11_person kn (nI c) F M D S x = some (-1, 0, nI c, F, M, D, S) := by
  unfold f_X11_person
  rw [jM_at (show f_X2_forget kn = some 0 from rfl), jM_at (X11_isSex_no h0 h1), if_pos rfl]
theorem X11_person_full {kn x : Int32} {F M D S : jA} (h : x = 0 ∨ x = 1) : f_X11_person kn (nI 24) F M D S x = some (-1, 0, nI 24, F, M, D, S) := by
  unfold f_X11_person f_X4_addPerson
  rw [jM_at (show f_X2_forget kn = some 0 from rfl), jM_at (X11_isSex_yes h), if_neg (by decide), if_neg (by decide), if_neg (by decide)]
  rfl
theorem X11_person_yes {kn x : Int32} {c : Nat} {fa mo pd sx : Nat → Int32} (h : x = 0 ∨ x = 1) (hc : c < 24) : f_X11_person kn (nI c) (24, fa) (24, mo) (24, pd) (24, sx) x = some (nI c, 0, nI (c + 1), (24, upd fa c (-1)), (24, upd mo c (-1)), (24, upd pd c (-1)), (24, upd sx c x)) := by
  unfold f_X11_person f_X4_addPerson
  have h24 : nI c < (24 : Int32) := nI_lt (b := 24) hc (by decide)
  rw [jM_at (show f_X2_forget kn = some 0 from rfl), jM_at (X11_isSex_yes h), if_neg (by decide), if_neg (nI_pos (by omega)), if_pos h24, jS_p c rfl hc (by decide), jS_p c rfl hc (by decide), jS_p c rfl hc (by decide), jS_p c rfl hc (by decide), jV_at, show nI c + (1 : Int32) = nI (c + 1) from nI_1 c, show nI (c + 1) - (1 : Int32) = nI c from nI_pred c]
  rfl
theorem X12_person_bad {q x : Int32} {ps : Nat → Int32} {c : Nat} {F M D S : jA} (hs : ps 0 = nI c) (h0 : ¬ x = 0) (h1 : ¬ x = 1) (hi : x < 0 ∨ 1 < x) : f_X12_person q F M D (4, ps) S x = some (-1, 0, F, M, D, (4, ps), S) := by
  unfold f_X12_person
  rw [jL_p 0 nI_0.symm (by decide) (by decide)]
  by_cases c1 : ps 0 = 24
  · rw [if_pos c1]
  · rw [if_neg c1, jM_at (X12_in_no hi), if_pos rfl]
theorem X12_person_full {q x : Int32} {ps : Nat → Int32} {F M D S : jA} (hs : ps 0 = nI 24) : f_X12_person q F M D (4, ps) S x = some (-1, 0, F, M, D, (4, ps), S) := by
  unfold f_X12_person
  rw [jL_p 0 nI_0.symm (by decide) (by decide), if_pos (by rw [hs]; rfl)]
theorem X12_person_yes {q x : Int32} {ps fa mo pd sx : Nat → Int32} {c : Nat} (hs : ps 0 = nI c) (hc : c < 24) (h1 : ¬ x < 0) (h2 : ¬ 1 < x) : f_X12_person q (96, fa) (96, mo) (96, pd) (4, ps) (96, sx) x = some (nI c, 0, (96, upd fa c (-1)), (96, upd mo c (-1)), (96, upd pd c (-1)), (4, upd ps 0 (nI (c + 1))), (96, upd sx c x)) := by
  unfold f_X12_person
  have h24 : ¬ nI c = (24 : Int32) := fun e => absurd ((nI_eq (a := c) (b := 24) (by omega) (by decide)).mp e) (by omega)
  rw [jL_p 0 nI_0.symm (by decide) (by decide), hs, if_neg h24, jM_at (X12_in_yes h1 h2), if_neg (by decide), jL_p 0 nI_0.symm (by decide) (by decide), jL_p 0 nI_0.symm (by decide) (by decide), hs, jS_p 0 nI_0.symm (by decide) (by decide), jS_p c rfl (by omega) (by decide), jS_p c rfl (by omega) (by decide), jS_p c rfl (by omega) (by decide), jS_p c rfl (by omega) (by decide), show nI c + (1 : Int32) = nI (c + 1) from nI_1 c]

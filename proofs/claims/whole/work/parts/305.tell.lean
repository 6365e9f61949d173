/-! tell -/
theorem X4_has_yes {p : Nat} {x : Int32} (h0 : ¬ x < 0) (h1 : ¬ nI p ≤ x) : f_X4_has (nI p) x = some 1 := by
  unfold f_X4_has
  rw [if_neg h0, if_neg h1]
theorem X4_has_no {p : Nat} {x : Int32} (h : x < 0 ∨ nI p ≤ x) : f_X4_has (nI p) x = some 0 := by
  unfold f_X4_has
  by_cases h0 : x < 0
  · rw [if_pos h0]
  · rw [if_neg h0, if_pos (h.resolve_left h0)]
theorem X12_isPerson_yes {p : Nat} {ps : Nat → Int32} {x : Int32} (hp : p ≤ 24) (hs : ps 0 = nI p) (h0 : ¬ x < 0) (h1 : ¬ nI p ≤ x) : f_X12_isPerson (4, ps) x = some 1 := by
  unfold f_X12_isPerson
  rw [jL_p 0 nI_0.symm (by decide) (by decide), hs, jM_at (X12_in_ok (by omega) h0 h1)]
  rfl
theorem X12_isPerson_no {p : Nat} {ps : Nat → Int32} {x : Int32} (hp : p ≤ 24) (hs : ps 0 = nI p) (h : x < 0 ∨ nI p ≤ x) : f_X12_isPerson (4, ps) x = some 0 := by
  unfold f_X12_isPerson
  rw [jL_p 0 nI_0.symm (by decide) (by decide), hs, jM_at (X12_in_out (by omega) h)]
  rfl
theorem X11_tell_yes {p c : Nat} {t kn x y : Int32} {te td tk : Nat → Int32} (hc : c < 60) (hx0 : ¬ x < 0) (hx1 : ¬ nI p ≤ x) (hy0 : ¬ y < 0) (hy1 : y < 8) : f_X11_tell (nI p) t kn (nI c) (60, te) (60, td) (60, tk) x y = some (nI c, 0, nI (c + 1), (60, upd te c x), (60, upd td c t), (60, upd tk c y)) := by
  unfold f_X11_tell f_X4_addTelling
  have h60 : nI c < (60 : Int32) := nI_lt (b := 60) hc (by decide)
  rw [jM_at (show f_X2_forget kn = some 0 from rfl), if_neg (nI_pos (by omega)), if_pos h60, jM_at (X4_has_yes hx0 hx1), if_neg (show ¬ (1 : Int32) = 0 by decide), if_neg hy0, if_pos hy1, jS_p c rfl hc (by decide), jS_p c rfl hc (by decide), jS_p c rfl hc (by decide), jV_at, show nI c + (1 : Int32) = nI (c + 1) from nI_1 c, show nI (c + 1) - (1 : Int32) = nI c from nI_pred c]
  rfl
theorem X11_tell_no {p c : Nat} {t kn x y : Int32} {A B C : jA} (hc : c ≤ 60) (h : c = 60 ∨ (x < 0 ∨ nI p ≤ x) ∨ y < 0 ∨ ¬ y < 8) : f_X11_tell (nI p) t kn (nI c) A B C x y = some (-1, 0, nI c, A, B, C) := by
  unfold f_X11_tell f_X4_addTelling
  rw [jM_at (show f_X2_forget kn = some 0 from rfl), if_neg (nI_pos (by omega))]
  by_cases h60 : nI c < (60 : Int32)
  · have hc2 : ¬ c = 60 := fun e => by subst e; exact absurd h60 (by decide)
    rw [if_pos h60]
    by_cases hx : x < 0 ∨ nI p ≤ x
    · rw [jM_at (X4_has_no hx), if_pos rfl]
      rfl
    · rw [jM_at (X4_has_yes (fun h => hx (Or.inl h)) (fun h => hx (Or.inr h))), if_neg (show ¬ (1 : Int32) = 0 by decide)]
      have h2 := (h.resolve_left hc2).resolve_left hx
      by_cases hy : y < 0
      · rw [if_pos hy]
        rfl
      · rw [if_neg hy, if_neg (h2.resolve_left hy)]
        rfl
  · rw [if_neg h60]
    rfl
theorem X12_tell_yes {p c : Nat} {t q x y : Int32} {ds ps ts tc tt tp : Nat → Int32} (hp : p ≤ 24) (hd : ds 0 = t) (hps : ps 0 = nI p) (hs : ts 0 = nI c) (hc : c < 60) (hx0 : ¬ x < 0) (hx1 : ¬ nI p ≤ x) (hy0 : ¬ y < 0) (hy1 : ¬ 7 < y) : f_X12_tell (4, ds) (4, ps) q (4, ts) (240, tc) (240, tt) (240, tp) x y = some (nI c, 0, (4, upd ts 0 (nI (c + 1))), (240, upd tc c y), (240, upd tt c t), (240, upd tp c x)) := by
  unfold f_X12_tell
  have h60 : ¬ nI c = (60 : Int32) := fun e => absurd ((nI_eq (a := c) (b := 60) (by omega) (by decide)).mp e) (by omega)
  rw [jL_p 0 nI_0.symm (by decide) (by decide), hs, if_neg h60, jM_at (X12_isPerson_yes hp hps hx0 hx1), if_neg (show ¬ (1 : Int32) = 0 by decide), jM_at (X12_in_yes hy0 hy1), if_neg (show ¬ (1 : Int32) = 0 by decide), jL_p 0 nI_0.symm (by decide) (by decide), jL_p 0 nI_0.symm (by decide) (by decide), hs, jS_p 0 nI_0.symm (by decide) (by decide), jS_p c rfl (by omega) (by decide), jS_p c rfl (by omega) (by decide), jL_p 0 nI_0.symm (by decide) (by decide), hd, jS_p c rfl (by omega) (by decide), show nI c + (1 : Int32) = nI (c + 1) from nI_1 c]
theorem X12_tell_no {p c : Nat} {q x y : Int32} {ds ps ts : Nat → Int32} {A B C : jA} (hp : p ≤ 24) (hps : ps 0 = nI p) (hs : ts 0 = nI c) (h : c = 60 ∨ (x < 0 ∨ nI p ≤ x) ∨ y < 0 ∨ 7 < y) : f_X12_tell (4, ds) (4, ps) q (4, ts) A B C x y = some (-1, 0, (4, ts), A, B, C) := by
  unfold f_X12_tell
  rw [jL_p 0 nI_0.symm (by decide) (by decide), hs]
  by_cases h60 : nI c = (60 : Int32)
  · rw [if_pos h60]
  · have hc2 : ¬ c = 60 := fun e => by subst e; exact h60 rfl
    rw [if_neg h60]
    by_cases hx : x < 0 ∨ nI p ≤ x
    · rw [jM_at (X12_isPerson_no hp hps hx), if_pos rfl]
    · rw [jM_at (X12_isPerson_yes hp hps (fun h => hx (Or.inl h)) (fun h => hx (Or.inr h))), if_neg (show ¬ (1 : Int32) = 0 by decide), jM_at (X12_in_no ((h.resolve_left hc2).resolve_left hx)), if_pos rfl]

/-! the invariant between the house and the reference -/
def qIv (X : Nat → Int32) (Y T : Nat → Nat → Int32) : Prop := ∃ (tl n lc wc c w t d : Nat) (W C V U lt ws : Nat → Nat) (la lb wl : Nat → List Nat), X 8 = nI tl ∧ X 10 = nI n ∧ X 1 = nI lc ∧ X 0 = nI wc ∧ X 2 = nI c ∧ X 6 = nI w ∧ X 4 = nI t ∧ X 5 = nI d ∧ qTp 0 tl (Y 14) (T 0) (T 1) ∧ T 2 0 = X 7 ∧ T 3 0 = X 9 ∧ qXw n W C V U (Y 18) (Y 15) (Y 17) (Y 16) ∧ qRw 0 n W C (T 4) (T 5) (T 6) ∧ qLw 0 lc lt la lb (Y 3) (Y 1) (Y 2) (T 7) (T 8) (T 9) (T 10) ∧ qWd 0 wc ws wl (Y 0) (T 11) (T 12) (T 13) (T 14) ∧ qPL 0 c w t d (X 3) (Y 8) (Y 6) (Y 4) (Y 7) (Y 5) (Y 13) (Y 12) (Y 9) (Y 11) (Y 10) (T 15) (T 16) (T 17) (T 18) (T 19) (T 20) (T 21) (T 22) (T 23) (T 24) (T 25) (T 26) (T 27) (T 28) (T 29) ∧ qSN n W C V U ∧ qKN c w t n (X 3) W C V (Y 6) (Y 4) (Y 7) (Y 5) (Y 13) (Y 12) (Y 9) (Y 11) (Y 10) (X 26) (X 24) (X 25) (Y 39) (Y 40) (Y 42) (Y 43) ∧ qTN (X 21) (X 22) (X 23) (X 19) (X 20) (Y 29) (Y 31) (Y 30) (Y 28) (Y 32) (Y 33) (Y 34)
def qStr : Nat → Nat := fun k => match k with
  | 0 => 1
  | 1 => 400
  | 2 => 1
  | 3 => 1
  | 4 => 1
  | 5 => 8
  | 6 => 8
  | 7 => 1
  | 8 => 16
  | 9 => 32
  | 10 => 256
  | 11 => 1
  | 12 => 8
  | 13 => 8
  | 14 => 64
  | 15 => 1
  | 16 => 1
  | 17 => 1
  | 18 => 1
  | 19 => 1
  | 20 => 24
  | 21 => 24
  | 22 => 24
  | 23 => 24
  | 24 => 24
  | 25 => 24
  | 26 => 24
  | 27 => 60
  | 28 => 60
  | _ => 60
def qKp (T T' : Nat → Nat → Int32) : Prop := ∀ k i, k < 30 → qStr k ≤ i → T' k i = T k i
theorem kp_0 {T : Nat → Nat → Int32} : qKp T T := fun _ _ _ _ => rfl
theorem jw1_e {α : Type} {T : Nat → α} {i : Nat} {f : α} : jw1 T i f i = f := by
  unfold jw1
  rw [show Nat.beq i i = true from Nat.beq_refl i]
  rfl
theorem jw1_n {α : Type} {T : Nat → α} {i k : Nat} {f : α} (h : k ≠ i) : jw1 T i f k = T k := by
  unfold jw1
  rw [show Nat.beq k i = false from by cases hb : Nat.beq k i with | false => rfl | true => exact absurd (Nat.eq_of_beq_eq_true hb) h]
  rfl
theorem kp_s {T T' : Nat → Nat → Int32} {j : Nat} {f : Nat → Int32} (h : qKp T T') (hf : ∀ i, qStr j ≤ i → f i = T j i) : qKp T (jw1 T' j f) := by
  intro k i hk hi
  by_cases e : k = j
  · subst e
    rw [jw1_e]
    exact hf i hi
  · rw [jw1_n e]
    exact h k i hk hi
theorem kp_t {T T' : Nat → Nat → Int32} {j : Nat} {f : Nat → Int32} (hj : 30 ≤ j) (h : qKp T T') : qKp T (jw1 T' j f) := by
  intro k i hk hi
  rw [jw1_n (by omega)]
  exact h k i hk hi
theorem qKp_use {T T' : Nat → Nat → Int32} {q : Nat} {v : vSt} (hk : qKp T T') (hq : 1 ≤ q) (h : qSv q v T) : qSv q v T' :=
  qSn_cp h (qcE_r _ _) (qcE_r _ _) (qcE_r _ _) (qcE_r _ _) (qcE_r _ _) (qcE_r _ _) (qcE_r _ _) (qcE_r _ _) (qcE_r _ _) (qcE_r _ _) (qcE_r _ _) (qcE_r _ _) (qcE_r _ _) (qcE_r _ _) (qcE_r _ _) (qcE_r _ _) (qcE_r _ _) (qcE_r _ _) (qcE_r _ _) (fun k _ => hk 0 _ (by decide) (show 1 ≤ _ by omega)) (fun k _ => Or.inl <| hk 1 _ (by decide) (show 400 ≤ _ by omega)) (fun k _ => hk 2 _ (by decide) (show 1 ≤ _ by omega)) (fun k _ => hk 3 _ (by decide) (show 1 ≤ _ by omega)) (fun k _ => hk 4 _ (by decide) (show 1 ≤ _ by omega)) (fun k _ => hk 5 _ (by decide) (show 8 ≤ _ by omega)) (fun k _ => hk 6 _ (by decide) (show 8 ≤ _ by omega)) (fun k _ => hk 7 _ (by decide) (show 1 ≤ _ by omega)) (fun k _ => hk 8 _ (by decide) (show 16 ≤ _ by omega)) (fun k _ => hk 9 _ (by decide) (show 32 ≤ _ by omega)) (fun k _ => Or.inl <| hk 10 _ (by decide) (show 256 ≤ _ by omega)) (fun k _ => hk 11 _ (by decide) (show 1 ≤ _ by omega)) (fun k _ => hk 12 _ (by decide) (show 8 ≤ _ by omega)) (fun k _ => hk 13 _ (by decide) (show 8 ≤ _ by omega)) (fun k _ => Or.inl <| hk 14 _ (by decide) (show 64 ≤ _ by omega)) (fun k _ => hk 15 _ (by decide) (show 1 ≤ _ by omega)) (fun k _ => hk 16 _ (by decide) (show 1 ≤ _ by omega)) (fun k _ => hk 17 _ (by decide) (show 1 ≤ _ by omega)) (fun k _ => hk 18 _ (by decide) (show 1 ≤ _ by omega)) (fun k _ => hk 19 _ (by decide) (show 1 ≤ _ by omega)) (fun k _ => hk 20 _ (by decide) (show 24 ≤ _ by omega)) (fun k _ => hk 21 _ (by decide) (show 24 ≤ _ by omega)) (fun k _ => hk 22 _ (by decide) (show 24 ≤ _ by omega)) (fun k _ => hk 23 _ (by decide) (show 24 ≤ _ by omega)) (fun k _ => hk 24 _ (by decide) (show 24 ≤ _ by omega)) (fun k _ => hk 25 _ (by decide) (show 24 ≤ _ by omega)) (fun k _ => hk 26 _ (by decide) (show 24 ≤ _ by omega)) (fun k _ => hk 27 _ (by decide) (show 60 ≤ _ by omega)) (fun k _ => hk 28 _ (by decide) (show 60 ≤ _ by omega)) (fun k _ => hk 29 _ (by decide) (show 60 ≤ _ by omega))
def jPl (l : Launch) (G : jGt) (D : va_G) (cI cB cZ cS cC cJ : ClassId) (y1 : MethodName) (b1 : ByteArray) (m1 : Nat) (t1 : Option FieldType) (y2 : MethodName) (b2 : ByteArray) (m2 : Nat) (t2 : Option FieldType) (As : List Value) (h : Nat → Nat) (rf : Nat) (aX : Nat → Nat) (v : Value) (f g : Nat → Option Nat) (X : Nat → Int32) (Y : Nat → Nat → Int32) (N : Nat → Int32) (w0 : Int64) (T : Nat → Nat → Int32) : Prop :=
  ∃ (r : Int32) (v' : Value) (X' : Nat → Int32) (Y' : Nat → Nat → Int32) (N' : Nat → Int32) (w' : Int64) (T' : Nat → Nat → Int32), jStp l y1 b1 m1 t1 G D cI cB cZ cS cC cJ (.ref (h 0) :: As) (wHx cI cB cZ cS cC cJ h v f g X Y) r (fun u => u.Perm (wHx cI cB cZ cS cC cJ h v' f g X' Y')) ∧ jStp l y2 b2 m2 t2 G D cI cB cZ cS cC cJ (.ref rf :: As) (wRf cI cB cZ rf aX N w0 T) r (fun u => u.Perm (wRf cI cB cZ rf aX N' w' T')) ∧ qIv X' Y' T' ∧ qKp T T' ∧ T' 54 = T 54
theorem nz_sys {n : Nat} {W C V U : Nat → Nat} {wi ch hu fa cl wr cr : Nat → Int32} (hx : qXw n W C V U wi ch hu fa) (hr : qRw 0 n W C cl wr cr) : ∃ W' C' V' U', qXw n W' C' V' U' wi ch hu fa ∧ qRw 0 n W' C' cl wr cr ∧ qSN n W' C' V' U' ∧ (qNz n W → W' = W) ∧ (qNz n C → C' = C) ∧ (qNz n V → V' = V) := by
  obtain ⟨⟨h8, hW, hC, hV, hU⟩, r1, r2, r3, r4⟩ := hx
  obtain ⟨s1, s2, s3⟩ := hr
  have nz : ∀ (F : Nat → Nat), qNz n (fun i => if i < n then F i else 0) := fun F i hi => if_neg (by omega)
  have at' : ∀ (F : Nat → Nat) (i : Nat), i < n → (fun i => if i < n then F i else 0) i = F i := fun F i hi => if_pos hi
  have id' : ∀ (F : Nat → Nat), qNz n F → (fun i => if i < n then F i else 0) = F := fun F hF => by
    funext i
    by_cases hi : i < n
    · exact if_pos hi
    · show (if i < n then F i else 0) = F i
      rw [if_neg hi, hF i (by omega)]
  have p' : ∀ (F : Nat → Nat), qP n F → qP n (fun i => if i < n then F i else 0) := fun F hF => ⟨fun i hi => by rw [at' F i hi]; exact hF.1 i hi, fun i j hi hj e => hF.2 i j hi hj (by rw [at' F i hi, at' F j hj] at e; exact e)⟩
  have b' : ∀ (F E : Nat → Nat), qP n F → qB n F E → qB n (fun i => if i < n then F i else 0) (fun i => if i < n then E i else 0) := fun F E hF hB i hi => by
    obtain ⟨a, b, c⟩ := hB i hi
    rw [at' E i hi, at' F i hi, at' F _ a, at' E _ (hF.1 i hi)]
    exact ⟨a, b, c⟩
  have R' : ∀ (o : Nat) (f : Nat → Int32) (F : Nat → Nat), qR o n f F → qR o n f (fun i => if i < n then F i else 0) := fun o f F hR i hi => by
    rw [at' F i hi]
    exact hR i hi
  have hH : qH n (fun i => if i < n then W i else 0) (fun i => if i < n then C i else 0) (fun i => if i < n then V i else 0) (fun i => if i < n then U i else 0) := ⟨h8, p' W hW, p' C hC, b' W V hW hV, b' C U hC hU⟩
  exact ⟨_, _, _, _, ⟨hH, R' 0 wi W r1, R' 0 ch C r2, R' 0 hu V r3, R' 0 fa U r4⟩, ⟨s1, R' _ wr W s2, R' _ cr C s3⟩, ⟨hH, nz W, nz C, nz V, nz U⟩, id' W, id' C, id' V⟩

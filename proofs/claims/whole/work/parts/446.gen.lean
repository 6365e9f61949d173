/-! images and censuses beside the house; any call as a step of all -/
abbrev zIm : Type := Nat × (Nat → Nat) × vSt
abbrev zCn : Type := Nat × (Nat → Nat) × zCe
def wI1 (cI cB : ClassId) (o : Option zIm) : va_W := match o with
  | none => []
  | some z => wSt cI cB z.1 z.2.1 (zOf z.2.2)
def wC1 (cI : ClassId) (o : Option zCn) : va_W := match o with
  | none => []
  | some z => wCe cI z.1 z.2.1 z.2.2
def wBl (ix : List Nat) (w : Nat → va_W) : va_W := ix.flatMap w
theorem wBl_c {w w' : Nat → va_W} : ∀ (ix : List Nat), (∀ j ∈ ix, w' j = w j) → wBl ix w' = wBl ix w
  | [], _ => rfl
  | a :: r, h => by
    have h2 := wBl_c r (fun j hj => h j (List.mem_cons_of_mem _ hj))
    unfold wBl at h2 ⊢
    rw [List.flatMap_cons, List.flatMap_cons, h a List.mem_cons_self, h2]
theorem wBl_p {ix : List Nat} {k : Nat} {w w' : Nat → va_W} (hn : ix.Nodup) (hk : k ∈ ix) (hw : ∀ j, j ≠ k → w' j = w j) : (wBl ix w').Perm (wBl (ix.erase k) w ++ w' k) := by
  have h1 : (wBl ix w').Perm (wBl (k :: ix.erase k) w') := (List.perm_cons_erase hk).flatMap_right w'
  refine h1.trans ?_
  have h2 : wBl (k :: ix.erase k) w' = w' k ++ wBl (ix.erase k) w' := List.flatMap_cons ..
  rw [h2, wBl_c (ix.erase k) (fun j hj => hw j (fun e => hn.not_mem_erase (e ▸ hj)))]
  exact List.perm_append_comm
def wIm (cI cB : ClassId) (I : Nat → Option zIm) : va_W := wBl [0, 1, 2] (fun k => wI1 cI cB (I k))
def wCn (cI : ClassId) (C : Nat → Option zCn) : va_W := wBl [0, 1, 2, 3] (fun k => wC1 cI (C k))
def fO {α : Type} (I : Nat → Option (Nat × α)) : Nat → Option Nat := fun k => (I k).map (·.1)
theorem fO_up {α : Type} {I : Nat → Option (Nat × α)} {k : Nat} {z : Nat × α} : fO (jw1 I k (some z)) = va_up (fO I) k (some z.1) := by
  funext j
  unfold fO va_up
  by_cases e : j = k
  · rw [e, jw1_e, if_pos rfl]
    rfl
  · rw [jw1_n e, if_neg e]
theorem fO_same {α : Type} {I : Nat → Option (Nat × α)} {k : Nat} {z z' : Nat × α} (h : I k = some z) (e : z'.1 = z.1) : fO (jw1 I k (some z')) = fO I := by
  funext j
  unfold fO
  by_cases g : j = k
  · rw [g, jw1_e, h]
    exact congrArg some e
  · rw [jw1_n g]
theorem wIm_p {cI cB : ClassId} {I : Nat → Option zIm} {k : Nat} (hk : k < 3) (z : Option zIm) : (wIm cI cB (jw1 I k z)).Perm (wBl ([0, 1, 2].erase k) (fun j => wI1 cI cB (I j)) ++ wI1 cI cB z) := by
  have h := wBl_p (ix := [0, 1, 2]) (k := k) (w := fun j => wI1 cI cB (I j)) (w' := fun j => wI1 cI cB (jw1 I k z j)) (by decide) (by rcases (show k = 0 ∨ k = 1 ∨ k = 2 by omega) with rfl | rfl | rfl <;> decide) (fun j hj => by show wI1 cI cB (jw1 I k z j) = wI1 cI cB (I j); rw [jw1_n hj])
  have e : jw1 I k z k = z := jw1_e
  show (wBl [0, 1, 2] (fun j => wI1 cI cB (jw1 I k z j))).Perm _
  rw [e] at h
  exact h
theorem wCn_p {cI : ClassId} {I : Nat → Option zCn} {k : Nat} (hk : k < 4) (z : Option zCn) : (wCn cI (jw1 I k z)).Perm (wBl ([0, 1, 2, 3].erase k) (fun j => wC1 cI (I j)) ++ wC1 cI z) := by
  have h := wBl_p (ix := [0, 1, 2, 3]) (k := k) (w := fun j => wC1 cI (I j)) (w' := fun j => wC1 cI (jw1 I k z j)) (by decide) (by rcases (show k = 0 ∨ k = 1 ∨ k = 2 ∨ k = 3 by omega) with rfl | rfl | rfl | rfl <;> decide) (fun j hj => by show wC1 cI (jw1 I k z j) = wC1 cI (I j); rw [jw1_n hj])
  have e : jw1 I k z k = z := jw1_e
  show (wBl [0, 1, 2, 3] (fun j => wC1 cI (jw1 I k z j))).Perm _
  rw [e] at h
  exact h
theorem jw1_id {α : Type} {I : Nat → α} {k : Nat} : jw1 I k (I k) = I := by
  funext j
  by_cases e : j = k
  · rw [e, jw1_e]
  · rw [jw1_n e]
theorem wIm_q {cI cB : ClassId} {I : Nat → Option zIm} {k : Nat} (hk : k < 3) : (wIm cI cB I).Perm (wBl ([0, 1, 2].erase k) (fun j => wI1 cI cB (I j)) ++ wI1 cI cB (I k)) := by
  have h := wIm_p (cI := cI) (cB := cB) (I := I) hk (I k)
  rw [jw1_id] at h
  exact h
theorem wCn_q {cI : ClassId} {I : Nat → Option zCn} {k : Nat} (hk : k < 4) : (wCn cI I).Perm (wBl ([0, 1, 2, 3].erase k) (fun j => wC1 cI (I j)) ++ wC1 cI (I k)) := by
  have h := wCn_p (cI := cI) (I := I) hk (I k)
  rw [jw1_id] at h
  exact h
theorem j_shufA {M A b C R P Q Hx : va_W} (h1 : M.Perm (A ++ b)) (h2 : Hx.Perm (R ++ (P ++ Q))) : (M ++ (C ++ Hx)).Perm ((A ++ (C ++ R)) ++ (P ++ (b ++ Q))) := by
  refine (h1.append ((List.Perm.refl C).append h2)).trans ?_
  have := (List.perm_append_comm_assoc b (C ++ (R ++ P)) Q).append_left A
  simpa only [List.append_assoc] using this
theorem j_shufB {M A b C R P Q Hx : va_W} (h1 : C.Perm (A ++ b)) (h2 : Hx.Perm (R ++ (P ++ Q))) : (M ++ (C ++ Hx)).Perm ((M ++ (A ++ R)) ++ (P ++ (b ++ Q))) := by
  refine ((List.Perm.refl M).append (h1.append h2)).trans ?_
  have := ((List.perm_append_comm_assoc b (R ++ P) Q).append_left A).append_left M
  simpa only [List.append_assoc] using this
theorem j_shufA0 {M A b C R P Hx : va_W} (h1 : M.Perm (A ++ b)) (h2 : Hx.Perm (R ++ P)) : (M ++ (C ++ Hx)).Perm ((A ++ (C ++ R)) ++ (P ++ b)) := by
  have g := j_shufA (C := C) (Q := []) h1 (show Hx.Perm (R ++ (P ++ [])) by rw [List.append_nil]; exact h2)
  rw [List.append_nil] at g
  exact g
theorem j_shufB0 {M A b C R P Hx : va_W} (h1 : C.Perm (A ++ b)) (h2 : Hx.Perm (R ++ P)) : (M ++ (C ++ Hx)).Perm ((M ++ (A ++ R)) ++ (P ++ b)) := by
  have g := j_shufB (M := M) (Q := []) h1 (show Hx.Perm (R ++ (P ++ [])) by rw [List.append_nil]; exact h2)
  rw [List.append_nil] at g
  exact g
def vN (X : Nat → Int32) (Y : Nat → Nat → Int32) : vSt := (X 0, X 1, X 2, X 3, X 4, X 5, X 6, X 7, X 8, X 9, X 10, Y 0, Y 1, Y 2, Y 3, Y 4, Y 5, Y 6, Y 7, Y 8, Y 9, Y 10, Y 11, Y 12, Y 13, Y 14, Y 15, Y 16, Y 17, Y 18)
def xO (X : Nat → Int32) (o : vSt) : Nat → Int32 := (jw1 (jw1 (jw1 (jw1 (jw1 (jw1 (jw1 (jw1 (jw1 (jw1 (jw1 (jw1 X 0 o.1) 1 o.2.1) 2 o.2.2.1) 3 o.2.2.2.1) 4 o.2.2.2.2.1) 5 o.2.2.2.2.2.1) 6 o.2.2.2.2.2.2.1) 7 o.2.2.2.2.2.2.2.1) 8 o.2.2.2.2.2.2.2.2.1) 9 o.2.2.2.2.2.2.2.2.2.1) 10 o.2.2.2.2.2.2.2.2.2.2.1) 26 0)
def yO (Y : Nat → Nat → Int32) (o : vSt) : Nat → Nat → Int32 := (jw1 (jw1 (jw1 (jw1 (jw1 (jw1 (jw1 (jw1 (jw1 (jw1 (jw1 (jw1 (jw1 (jw1 (jw1 (jw1 (jw1 (jw1 (jw1 Y 0 o.2.2.2.2.2.2.2.2.2.2.2.1) 1 o.2.2.2.2.2.2.2.2.2.2.2.2.1) 2 o.2.2.2.2.2.2.2.2.2.2.2.2.2.1) 3 o.2.2.2.2.2.2.2.2.2.2.2.2.2.2.1) 4 o.2.2.2.2.2.2.2.2.2.2.2.2.2.2.2.1) 5 o.2.2.2.2.2.2.2.2.2.2.2.2.2.2.2.2.1) 6 o.2.2.2.2.2.2.2.2.2.2.2.2.2.2.2.2.2.1) 7 o.2.2.2.2.2.2.2.2.2.2.2.2.2.2.2.2.2.2.1) 8 o.2.2.2.2.2.2.2.2.2.2.2.2.2.2.2.2.2.2.2.1) 9 o.2.2.2.2.2.2.2.2.2.2.2.2.2.2.2.2.2.2.2.2.1) 10 o.2.2.2.2.2.2.2.2.2.2.2.2.2.2.2.2.2.2.2.2.2.1) 11 o.2.2.2.2.2.2.2.2.2.2.2.2.2.2.2.2.2.2.2.2.2.2.1) 12 o.2.2.2.2.2.2.2.2.2.2.2.2.2.2.2.2.2.2.2.2.2.2.2.1) 13 o.2.2.2.2.2.2.2.2.2.2.2.2.2.2.2.2.2.2.2.2.2.2.2.2.1) 14 o.2.2.2.2.2.2.2.2.2.2.2.2.2.2.2.2.2.2.2.2.2.2.2.2.2.1) 15 o.2.2.2.2.2.2.2.2.2.2.2.2.2.2.2.2.2.2.2.2.2.2.2.2.2.2.1) 16 o.2.2.2.2.2.2.2.2.2.2.2.2.2.2.2.2.2.2.2.2.2.2.2.2.2.2.2.1) 17 o.2.2.2.2.2.2.2.2.2.2.2.2.2.2.2.2.2.2.2.2.2.2.2.2.2.2.2.2.1) 18 o.2.2.2.2.2.2.2.2.2.2.2.2.2.2.2.2.2.2.2.2.2.2.2.2.2.2.2.2.2)
def wAl (cI cB cZ cS cC cJ : ClassId) (h : Nat → Nat) (v : Value) (I : Nat → Option zIm) (Cn : Nat → Option zCn) (X : Nat → Int32) (Y : Nat → Nat → Int32) : va_W := wIm cI cB I ++ (wCn cI Cn ++ wHx cI cB cZ cS cC cJ h v (fO I) (fO Cn) X Y)
theorem hperm {h0 : Nat → Nat × va_E} {U : va_W} (is rs cs : List Nat) (hp : is.isPerm (rs ++ cs) = true) (e : cs.map h0 = U) : (is.map h0).Perm (rs.map h0 ++ U) := by
  rw [← e, ← List.map_append]
  exact (List.isPerm_iff.mp hp).map h0
def rsI : List Nat := [26, 27, 28, 29, 30, 31, 32, 33, 34, 35, 36, 37, 38, 39, 40, 41, 42, 43, 44, 45, 46, 47, 48, 49, 50, 51, 52, 53, 54, 55, 56, 57, 58, 59]
def rsA : List Nat := [26, 27, 28, 29, 30, 31, 32, 33, 34, 35, 36, 37, 38, 39, 40, 41, 42, 43, 44, 45, 46, 47, 48, 49, 50, 52, 53, 54, 55, 56, 57, 58, 59]
def rsC : List Nat := [2, 3, 4, 5, 6, 7, 8, 13, 14, 15, 16, 17, 18, 19, 20, 21, 22, 23, 24, 25, 26, 27, 28, 29, 30, 31, 32, 33, 34, 35, 36, 37, 38, 39, 40, 41, 42, 43, 44, 45, 46, 47, 48, 49, 50, 51, 52, 53, 54, 55, 56, 57, 58]
set_option maxRecDepth 20000 in
theorem hp_I (cI cB cZ cS cC cJ : ClassId) (h : Nat → Nat) (v : Value) (f g : Nat → Option Nat) (X : Nat → Int32) (Y : Nat → Nat → Int32) : (wHx cI cB cZ cS cC cJ h v f g X Y).Perm (rsI.map (hC cI cB cZ cS cC cJ h v f g X Y) ++ (wHi cS (h 0) (h 1) (h 25) (.ref (h 26)) (.ref (h 37)) (.ref (h 51)) (.ref (h 59)) f ++ wSt cI cB (h 1) (fun k => h (2 + k)) (zOf (vN X Y)))) := hperm (h0 := hC cI cB cZ cS cC cJ h v f g X Y) hix rsI [0, 25, 1, 2, 3, 4, 5, 6, 7, 8, 9, 10, 11, 12, 13, 14, 15, 16, 17, 18, 19, 20, 21, 22, 23, 24] (by decide +kernel) rfl
set_option maxRecDepth 20000 in
theorem hp_A (cI cB cZ cS cC cJ : ClassId) (h : Nat → Nat) (v : Value) (f g : Nat → Option Nat) (X : Nat → Int32) (Y : Nat → Nat → Int32) : (wHx cI cB cZ cS cC cJ h v f g X Y).Perm (rsA.map (hC cI cB cZ cS cC cJ h v f g X Y) ++ ((wHi cS (h 0) (h 1) (h 25) (.ref (h 26)) (.ref (h 37)) (.ref (h 51)) (.ref (h 59)) f ++ w_X2_forget cI cB cZ (h 51) (.ref (h 52)) (.ref (h 53)) (X 27) (.ref (h 54)) (.ref (h 55)) (.ref (h 56)) (.ref (h 57)) (.ref (h 58)) (X 24) (X 25) (X 26)) ++ wSt cI cB (h 1) (fun k => h (2 + k)) (zOf (vN X Y)))) := hperm (h0 := hC cI cB cZ cS cC cJ h v f g X Y) hix rsA [0, 25, 51, 1, 2, 3, 4, 5, 6, 7, 8, 9, 10, 11, 12, 13, 14, 15, 16, 17, 18, 19, 20, 21, 22, 23, 24] (by decide +kernel) rfl
set_option maxRecDepth 20000 in
theorem hp_C (cI cB cZ cS cC cJ : ClassId) (h : Nat → Nat) (v : Value) (f g : Nat → Option Nat) (X : Nat → Int32) (Y : Nat → Nat → Int32) : (wHx cI cB cZ cS cC cJ h v f g X Y).Perm (rsC.map (hC cI cB cZ cS cC cJ h v f g X Y) ++ (wHc cC (h 0) (h 1) (h 59) (.ref (h 25)) (.ref (h 26)) (.ref (h 37)) (.ref (h 51)) g ++ (wNl (h 1) (h 9) (.ref (h 2)) (.ref (h 4)) (.ref (h 13)) (.ref (h 24)) (X 0) ++ wLa cI (fun k => h (2 + k)) (zOf (vN X Y))))) := hperm (h0 := hC cI cB cZ cS cC cJ h v f g X Y) hix rsC [0, 59, 1, 9, 10, 11, 12] (by decide +kernel) rfl
def qCv (n : Nat) (z : zCe) : Prop := ∃ (jd kc kd lfc lfs oc sz cjc cz : Int32) (cd ks lf od sh wv cj1 cj2 cj3 ch fa hu wi : Nat → Int32), z = (jd, kc, kd, lfc, lfs, oc, sz, (64, cd), cjc, (120, ks), (64, lf), (120, od), (64, sh), cz, (64, wv), (16, cj1), (16, cj2), (16, cj3), (8, ch), (8, fa), (8, hu), (8, wi)) ∧ qCs n jd kd lfc lfs sz cjc cd lf sh wv cj1 cj2 cj3
def qAll (I : Nat → Option zIm) (Cn : Nat → Option zCn) (X : Nat → Int32) (Y T : Nat → Nat → Int32) : Prop := qIv X Y T ∧ (∀ k, k < 3 → (I k = none ∧ T 54 k = 0) ∨ ∃ z, I k = some z ∧ T 54 k = 1 ∧ qSv (k + 1) z.2.2 T) ∧ ∀ j, j < 4 → ∀ z, Cn j = some z → qCv (j + 2) z.2.2
def jGen (l : Launch) (G : jGt) (D : va_G) (cI cB cZ cS cC cJ : ClassId) (y1 : MethodName) (b1 : ByteArray) (m1 : Nat) (t1 : Option FieldType) (y2 : MethodName) (b2 : ByteArray) (m2 : Nat) (t2 : Option FieldType) (As : List Value) (h : Nat → Nat) (rf : Nat) (aX : Nat → Nat) (v : Value) (I : Nat → Option zIm) (Cn : Nat → Option zCn) (X : Nat → Int32) (Y : Nat → Nat → Int32) (N : Nat → Int32) (w0 : Int64) (T : Nat → Nat → Int32) : Prop :=
  ∃ (r : Int32) (N' : Nat → Int32) (w' : Int64) (T' : Nat → Nat → Int32), jStp l y1 b1 m1 t1 G D cI cB cZ cS cC cJ (.ref (h 0) :: As) (wAl cI cB cZ cS cC cJ h v I Cn X Y) r (fun u => ∃ v' I' Cn' X' Y', u.Perm (wAl cI cB cZ cS cC cJ h v' I' Cn' X' Y') ∧ qAll I' Cn' X' Y' T') ∧ jStp l y2 b2 m2 t2 G D cI cB cZ cS cC cJ (.ref rf :: As) (wRf cI cB cZ rf aX N w0 T) r (fun u => u.Perm (wRf cI cB cZ rf aX N' w' T'))
theorem jGen_of {l : Launch} {G : jGt} {D : va_G} {cI cB cZ cS cC cJ : ClassId} {y1 : MethodName} {b1 : ByteArray} {m1 : Nat} {t1 : Option FieldType} {y2 : MethodName} {b2 : ByteArray} {m2 : Nat} {t2 : Option FieldType} {As : List Value} {h : Nat → Nat} {rf : Nat} {aX : Nat → Nat} {v : Value} {I : Nat → Option zIm} {Cn : Nat → Option zCn} {X : Nat → Int32} {Y : Nat → Nat → Int32} {N : Nat → Int32} {w0 : Int64} {T : Nat → Nat → Int32} (hA : qAll I Cn X Y T) (hp : jPl l G D cI cB cZ cS cC cJ y1 b1 m1 t1 y2 b2 m2 t2 As h rf aX v (fO I) (fO Cn) X Y N w0 T) : jGen l G D cI cB cZ cS cC cJ y1 b1 m1 t1 y2 b2 m2 t2 As h rf aX v I Cn X Y N w0 T := by
  obtain ⟨r, v', X', Y', N', w', T', h1, h2, h3, h4, h5⟩ := hp
  refine ⟨r, N', w', T', ?_, h2⟩
  have g := jstp_app (wIm cI cB I ++ wCn cI Cn) (N' := fun u => ∃ v' I' Cn' X' Y', u.Perm (wAl cI cB cZ cS cC cJ h v' I' Cn' X' Y') ∧ qAll I' Cn' X' Y' T') (fun w hw => ⟨v', I, Cn, X', Y', by
    unfold wAl
    rw [← List.append_assoc]
    exact List.Perm.append_left _ hw, h3, fun k hk => ?_, hA.2.2⟩) h1
  · unfold wAl
    rw [← List.append_assoc]
    exact g
  · rcases hA.2.1 k hk with ⟨e1, e2⟩ | ⟨z, e1, e2, e3⟩
    · exact Or.inl ⟨e1, by rw [h5]; exact e2⟩
    · exact Or.inr ⟨z, e1, by rw [h5]; exact e2, qKp_use h4 (by omega) e3⟩

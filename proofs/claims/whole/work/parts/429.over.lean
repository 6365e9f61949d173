/-! the array classes that the constructors go by stay -/
theorem jAA_spec {U : State} (h : jAA U) : ∃ comp c k, U.vm.findClass (FieldType.array .int).toString = some comp ∧ (U.vm.classes.findIdx? fun (x : Class) => match x.kind with | .array component _ => component == comp | _ => false) = some c ∧ U.vm.classes[c]? = some k ∧ k.kind = .array comp (.array .int) ∧ U.vm.findClass ("[" ++ (FieldType.array .int).toString) = some c := by
  unfold jAA Cond.before at h
  simp only [Cond.holds, Cond.value, beq_iff_eq] at h
  cases hc : U.vm.findClass (FieldType.array .int).toString with
  | none => simp [hc] at h
  | some comp =>
    simp only [hc, Option.bind_some, Option.bind_eq_some_iff, Option.map_eq_some_iff] at h
    obtain ⟨c, hi, k, hk, hb⟩ := h
    obtain ⟨hlt, hp, -⟩ := Array.findIdx?_eq_some_iff_getElem.mp hi
    have hkk : U.vm.classes[c] = k := (Array.getElem?_eq_some_iff.mp hk).2
    rw [hkk] at hp
    cases hkind : k.kind with
    | array component ty =>
      rw [hkind] at hb hp
      simp at hb hp
      exact ⟨comp, c, k, rfl, hi, hk, by rw [hkind, hp, hb.1], hb.2⟩
    | _ => rw [hkind] at hb; simp at hb
theorem jAA_moved {u U : State} (hvm : u.vm.Alike U.vm) (h : jAA u) : jAA U := by
  obtain ⟨comp, c, k, h1, h2, h3, h4, h5⟩ := jAA_spec h
  obtain ⟨k', hk', he⟩ := hvm.2.2 _ _ h3
  have hi : (U.vm.classes.findIdx? fun (x : Class) => match x.kind with | .array component _ => component == comp | _ => false) = some c := by
    have e1 := va_idx_bare U.vm comp
    have e2 := va_idx_bare u.vm comp
    have e3 : U.vm.bare = u.vm.bare := by first | exact hvm.bare_eq | exact hvm.bare_eq.symm
    rw [e3] at e1
    exact e1.symm.trans (e2.trans h2)
  have hkind : k'.kind = .array comp (.array .int) := by rw [he]; exact h4
  have f1 : U.vm.findClass (FieldType.array .int).toString = some comp := by rw [hvm.findClass]; exact h1
  have f2 : U.vm.findClass ("[" ++ (FieldType.array .int).toString) = some c := by rw [hvm.findClass]; exact h5
  unfold jAA Cond.before Cond.holds
  simp only [Cond.value]
  rw [f1, Option.bind_some]
  refine (congrArg (fun o : Option Nat => (o.bind (fun c => (U.vm.classes[c]?).map fun (k : Class) => match k.kind with | .array _ ty => decide (ty = FieldType.array .int) && decide (U.vm.findClass ("[" ++ (FieldType.array .int).toString) = some c) | _ => false) == some true)) hi).trans ?_
  simp [hk', hkind, f2]
def jEE (U : State) : Prop := va_AO "SectionHouse$State" U ∧ va_AO "SectionHouse$Census" U ∧ jAA U
theorem jEE_moved (u U : State) (hvm : u.vm.Alike U.vm) (h : jEE u) : jEE U := ⟨va_AO.moved hvm h.1, va_AO.moved hvm h.2.1, jAA_moved hvm h.2.2⟩
/-- the class' constructor -/
theorem c_house (hrow : jGridRow) (l : Launch) (G : jGt) (D : va_G) (cI cB cZ cS cC cJ : ClassId) (a : Nat) {z1 : zSt} (h1 : f_X6_init = some z1) {z2 : zTx} (h2 : f_X8_init = some z2) {z4 : zKi} (h4 : f_X2_init = some z4) : jMkS l yX11_init gX11_init rX11_init G D (jTx cI cB cZ cS cC cJ) [.ref a] jEE [(a, .inr (10, [.null, .null, .null, .null, .null, .null]))] (fun q : zHa => wHo cS cC a q.1 (fun _ => none) (fun _ => none) (wSt cI cB q.1.1 q.2.1 z1) (wTx cI cB q.1.2.2.1 q.2.2.1 z2) (wTu cI cZ cJ q.1.2.2.2.1 q.2.2.2.1 zTu0) (wKi cI q.1.2.2.2.2.1 q.2.2.2.2 z4)) 59 11059 :=
  c_X11_init l G D cI cB cZ cS cC cJ a jEE_moved (fun _ h => h.1) (fun _ h => h.2.1) (fun b => c_X9_init hrow l G D cI cB cZ cS cC cJ b (fun _ h => h.2.2)) h1 h2 h4

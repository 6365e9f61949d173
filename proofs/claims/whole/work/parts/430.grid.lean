/-! the row of Turns' grid (behind the printed section 'new T[n][m]', which names.py lays with va_AOA before it) -/
theorem jgrid : jGridRow := by
  intro p l e R s m args below meth c H locs cells slots Q D A X cI cB cZ cS cC cJ ls rest hx hb hown hcl hAA harr hK hP hD hS hA hc hs kk
  have hcy : s.vm.findClass (FieldType.array .int).toString = some cI := (hK.2 0 (cI, .int) rfl).2
  refine va_mna (X := X) (L := []) (f := fun _ => .inl (cI, 0, .inl (fun _ => 0))) (z := (1000, .inl (fun _ => 0))) (N' := 2) (K' := 1000) (ty := .int) (cy := cI) hx hb hown hcl (va_AOA.of hAA) harr hcy hK (by show va_P D vwCl (X ++ []) H; rw [List.append_nil]; exact hP) (by show va_D A (X ++ []); rw [List.append_nil]; exact hD) hS hA (by decide) (by decide) (by decide) (by decide) (by decide) (by decide) (by decide) rfl rfl hc hs (fun c => ?_) dX9_init_70 (fun q r cA H1 hinj _ hK1 hP1 hD1 hS1 => ?_)
  · rw [vp_cell_i, Jvm.Free.Multi.innerC]
    exact arrV_new ..
  · have hcA : cA = cJ := by
      have e1 : s.vm.findClass ("[" ++ (FieldType.array .int).toString) = some cA := (hK1.2 6 (cA, .array .int) rfl).2
      have e2 : s.vm.findClass ("[" ++ (FieldType.array .int).toString) = some cJ := (hK.2 5 (cJ, .array .int) rfl).2
      exact Option.some.inj (e1.symm.trans e2)
    subst hcA
    have hf : (fun i => if i < 2 then some (r i) else none) = jO2 (r 0) (r 1) := by
      funext i
      unfold jO2
      by_cases h0 : i = 0
      · subst h0; rfl
      · by_cases h1 : i = 1
        · subst h1; rfl
        · rw [if_neg (by omega), if_neg h0, if_neg h1]
    have hw : ∀ (f : Nat → va_E) (v : va_E), va_pl ([] ++ (List.range 2).map r) (vr_up f ((List.range 2).map r) v) = [(r 0, v), (r 1, v)] := fun f v => by
      show [(r 0, vr_up f [r 0, r 1] v (r 0)), (r 1, vr_up f [r 0, r 1] v (r 1))] = _
      rw [vr_up_in (by simp), vr_up_in (by simp)]
    rw [hf, hw, List.append_assoc] at hP1 hD1
    exact kk q (r 0) (r 1) H1 hP1 hD1 hS1

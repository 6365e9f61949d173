/-! the words of the extracted programs: arrays as pairs (length, content), a load, a store, a call, a guard, a loop -/
abbrev jA : Type := Nat × (Nat → Int32)
def jF : Nat := 100000
def jL {β : Type} (P : jA) (i : Int32) (k : Int32 → Option β) : Option β := if i < 0 ∨ P.1 ≤ i.toNatClampNeg then none else k (P.2 i.toNatClampNeg)
def jS {β : Type} (P : jA) (i x : Int32) (k : jA → Option β) : Option β := if i < 0 ∨ P.1 ≤ i.toNatClampNeg then none else k (P.1, upd P.2 i.toNatClampNeg x)
def jM {α β : Type} (o : Option α) (k : α → Option β) : Option β := match o with | none => none | some a => k a
def jQ {β : Type} (y : Int32) (k : Option β) : Option β := if y = 0 then none else k
def jZ {β : Type} (v : Int32) (k : Option β) : Option β := if v = 0 ∨ v = 1 then k else none
def jV {α β : Type} (e : α) (k : α → Option β) : Option β := k e
def jI {S E : Type} (b : S → Option (S ⊕ E)) : Nat → S → Option E
  | 0, _ => none
  | n + 1, s => match b s with | none => none | some (.inl s') => jI b n s' | some (.inr e) => some e
theorem jL_some {β : Type} {P : jA} {i : Int32} {k : Int32 → Option β} {o : β} (h : jL P i k = some o) : ∃ v, P.2 i.toNatClampNeg = v ∧ vp_in i P.1 ∧ k v = some o := by
  unfold jL at h
  by_cases c : i < 0 ∨ P.1 ≤ i.toNatClampNeg
  · rw [if_pos c] at h; cases h
  · rw [if_neg c] at h; exact ⟨_, rfl, c, h⟩
theorem jS_some {β : Type} {P : jA} {i x : Int32} {k : jA → Option β} {o : β} (h : jS P i x k = some o) : ∃ P', P' = (P.1, upd P.2 i.toNatClampNeg x) ∧ vp_in i P.1 ∧ k P' = some o := by
  unfold jS at h
  by_cases c : i < 0 ∨ P.1 ≤ i.toNatClampNeg
  · rw [if_pos c] at h; cases h
  · rw [if_neg c] at h; exact ⟨_, rfl, c, h⟩
theorem jM_some {α β : Type} {o : Option α} {k : α → Option β} {r : β} (h : jM o k = some r) : ∃ a, o = some a ∧ k a = some r := by
  cases o with
  | none => cases h
  | some a => exact ⟨a, rfl, h⟩
theorem jQ_some {β : Type} {y : Int32} {k : Option β} {r : β} (h : jQ y k = some r) : ¬ y = 0 ∧ k = some r := by
  unfold jQ at h
  by_cases c : y = 0
  · rw [if_pos c] at h; cases h
  · rw [if_neg c] at h; exact ⟨c, h⟩
theorem jZ_some {β : Type} {v : Int32} {k : Option β} {r : β} (h : jZ v k = some r) : (v = 0 ∨ v = 1) ∧ k = some r := by
  unfold jZ at h
  by_cases c : v = 0 ∨ v = 1
  · rw [if_pos c] at h; exact ⟨c, h⟩
  · rw [if_neg c] at h; cases h
theorem jV_some {α β : Type} {e : α} {k : α → Option β} {r : β} (h : jV e k = some r) : ∃ v, e = v ∧ k v = some r := ⟨_, rfl, h⟩
def jY {β : Type} (ty : FieldType) (f g : jA) (sp dp n : Int32) (k : jA → Option β) : Option β := if (¬ sp < 0 ∧ ¬ dp < 0 ∧ ¬ n < 0 ∧ sp.toNatClampNeg + n.toNatClampNeg ≤ f.1 ∧ dp.toNatClampNeg + n.toNatClampNeg ≤ g.1 ∧ ∀ i, i < n.toNatClampNeg → fits ty (.int (f.2 (sp.toNatClampNeg + i))) = true) then k (g.1, va_cpy f.2 g.2 sp.toNatClampNeg dp.toNatClampNeg n.toNatClampNeg) else none
theorem jY_some {β : Type} {ty : FieldType} {f g : jA} {sp dp n : Int32} {k : jA → Option β} {o : β} (h : jY ty f g sp dp n k = some o) : ∃ P', P' = (g.1, va_cpy f.2 g.2 sp.toNatClampNeg dp.toNatClampNeg n.toNatClampNeg) ∧ (¬ sp < 0 ∧ ¬ dp < 0 ∧ ¬ n < 0 ∧ sp.toNatClampNeg + n.toNatClampNeg ≤ f.1 ∧ dp.toNatClampNeg + n.toNatClampNeg ≤ g.1 ∧ ∀ i, i < n.toNatClampNeg → fits ty (.int (f.2 (sp.toNatClampNeg + i))) = true) ∧ k P' = some o := by
  unfold jY at h
  split at h
  · rename_i c; exact ⟨_, rfl, c, h⟩
  · cases h
theorem jint_ne {x : Int32} {n : Int} (h : ¬ x = Int32.ofInt n) : ¬ x.toInt = n := fun e => h (by rw [← e]; exact (Int32.ofInt_toInt x).symm)
theorem jE_l {α β γ : Type} {f : α → Option γ} {g : β → Option γ} {z : α ⊕ β} {y : α} {o : γ} (hy : z = Sum.inl y) (hf : Sum.elim f g z = some o) : f y = some o := by subst hy; exact hf
theorem jE_r {α β γ : Type} {f : α → Option γ} {g : β → Option γ} {z : α ⊕ β} {y : β} {o : γ} (hy : z = Sum.inr y) (hf : Sum.elim f g z = some o) : g y = some o := by subst hy; exact hf
theorem jI_zero {S E : Type} {b : S → Option (S ⊕ E)} {s : S} {e : E} (h : jI b 0 s = some e) : False := by cases h
theorem jI_some {S E : Type} {b : S → Option (S ⊕ E)} {n : Nat} {s : S} {e : E} (h : jI b (n + 1) s = some e) : ∃ o, b s = some o ∧ ((∃ s', o = .inl s' ∧ jI b n s' = some e) ∨ o = .inr e) := by
  unfold jI at h
  cases hb : b s with
  | none => rw [hb] at h; cases h
  | some o =>
    rw [hb] at h
    cases o with
    | inl s' => exact ⟨_, rfl, Or.inl ⟨s', rfl, h⟩⟩
    | inr e' => exact ⟨_, rfl, Or.inr (by cases h; rfl)⟩
theorem jif_t {β : Type} {c : Prop} [Decidable c] {a b : Option β} {o : β} (h : c) (hf : (if c then a else b) = some o) : a = some o := by rw [if_pos h] at hf; exact hf
theorem jif_f {β : Type} {c : Prop} [Decidable c] {a b : Option β} {o : β} (h : ¬ c) (hf : (if c then a else b) = some o) : b = some o := by rw [if_neg h] at hf; exact hf
/-! the machine's side -/
abbrev jT (cI cB cZ : ClassId) : List (ClassId × FieldType) := [(cI, .int), (cB, .byte), (cZ, .boolean)]
abbrev jGt : Type := Nat × (Nat → Nat) × (Nat → Nat)
def jSt : List (String × Nat × String × List Int32) := [(RX1, 11, "fmsdbzhw", [102, 109, 115, 100, 98, 122, 104, 119]), (RX8, 75, "classes", [99, 108, 97, 115, 115, 101, 115]), (RX8, 91, "weds", [119, 101, 100, 115]), (RX8, 96, "child", [99, 104, 105, 108, 100]), (RX8, 140, "bar", [98, 97, 114]), (RX8, 142, "must", [109, 117, 115, 116]), (RX8, 144, "same", [115, 97, 109, 101]), (RX9, 141, "fmsdbzhw", [102, 109, 115, 100, 98, 122, 104, 119])]
def jStr (G : jGt) (U : State) (H : Heap) : Prop := (∀ (i : Nat) (q : String × Nat × String × List Int32), jSt[i]? = some q → vk_R q.1 q.2.1 q.2.2.1 (G.2.1 i) U ∧ va_O "java/lang/String" (G.2.1 i) (fun a => G.1 ≤ a) U H ∧ va_OF "java/lang/String" "coder" "B" (.int 0) (G.2.1 i) (fun a => G.1 ≤ a) U H ∧ va_OF "java/lang/String" "value" "[B" (.ref (G.2.2 i)) (G.2.1 i) (fun a => G.1 ≤ a) U H ∧ va_T .byte (G.2.2 i) q.2.2.2.length (fun j => .int (q.2.2.2.getD j 0)) (fun a => G.1 ≤ a) U H) ∧ va_Z "java/lang/String" "COMPACT_STRINGS" "Z" (.int 1) (fun a => G.1 ≤ a) U H ∧ va_Zq "jdk/internal/util/Preconditions" "SIOOBE_FORMATTER" "Ljava/util/function/BiFunction;" (fun a => G.1 ≤ a) U H
/-- what the launch gives and nothing changes: links of nest mates, string constants, two statics -/
def jN (G : jGt) (U : State) : Prop := (∀ q ∈ jNq, va_Nw (.methodLinkNest q.1 q.2.1 q.2.2 "SectionHouse") U) ∧ G.1 ≤ U.heap.size ∧ jStr G U U.heap
theorem jN_warm {G : jGt} {s U : State} {H : Heap} {A : Nat → Prop} {locs : List Loc} (hW : s.WarmedH U.vm) (hU : U.heap = H) (hS : va_S A s.heap H locs) (hAG : ∀ q, A q → G.1 ≤ q) (h : jN G s) : jN G U := by
  obtain ⟨h1, h2, h3, h4, h5⟩ := h
  have hq : ∀ a : Nat, a < s.heap.size → ¬ (fun a => G.1 ≤ a) a → U.heap[a]? = s.heap[a]? := fun a g1 g2 => by rw [hU]; exact hS.2.1 a g1 (fun z => g2 (hAG a z))
  refine ⟨fun q hq => va_Nw.warmM hW (h1 q hq), by rw [hU]; exact Nat.le_trans h2 hS.1, fun i q hi => ?_, (va_Z.moved hW.alike h4).kept hq, (va_Zq.moved hW.alike h5).kept hq⟩
  obtain ⟨g1, g2, g3, g4, g5⟩ := h3 i q hi
  exact ⟨vk_R.warm hW g1, (va_O.moved hW.alike g2).kept hq, (va_OF.moved hW.alike g3).kept hq, (va_OF.moved hW.alike g4).kept hq, (va_T.moved hW.alike g5).kept hq⟩
theorem jN_same {G : jGt} {s U : State} (hv : U.vm = s.vm) (hU : U.heap = s.heap) (h : jN G s) : jN G U := by
  obtain ⟨h1, h2, h3, h4, h5⟩ := h
  have hA : s.vm.Alike U.vm := by rw [hv]; exact Vm.Alike.refl s.vm
  unfold jN jStr
  rw [hU]
  refine ⟨fun q hq => va_Nw.same rfl hv.symm (h1 q hq), h2, fun i q hi => ?_, va_Z.moved hA h4, va_Zq.moved hA h5⟩
  obtain ⟨g1, g2, g3, g4, g5⟩ := h3 i q hi
  exact ⟨vk_R.same hv g1, va_O.moved hA g2, va_OF.moved hA g3, va_OF.moved hA g4, va_T.moved hA g5⟩
theorem jN_l {G : jGt} {s : State} {own : String} {idx : Nat} {y : MethodName} (h : (own, idx, y) ∈ jNq) (hN : jN G s) : va_Nw (.methodLinkNest own idx y "SectionHouse") s := hN.1 _ h
def jPre (G : jGt) (D : va_G) (tys : List (ClassId × FieldType)) (c0 : va_W) (sz : Nat) (U : State) : Prop := U.heap.size = sz ∧ va_P D vwCl c0 U.heap ∧ va_K D vwCl tys U ∧ va_D (fun q => G.1 ≤ q) c0 ∧ jN G U
/-- from the cells c0 the method answers r, and leaves the cells c1; nothing else changes -/
def jMi (l : Launch) (y : MethodName) (ws : List Cond) (rm : Room) (G : jGt) (D : va_G) (tys : List (ClassId × FieldType)) (av : List Value) (c0 c1 : va_W) (r : Int32) : Prop := (c1.map (·.1) = c0.map (·.1)) ∧ ∀ sz : Nat, Met l y ws rm (va_Pc av (jPre G D tys c0 sz)) (va_Qi (fun r' (_ : Unit) => r' = r) (fun _ t => va_P D vwCl c1 t.heap) (va_A c0 sz)) 0 0 (va_A c0 sz)
def jMv (l : Launch) (y : MethodName) (ws : List Cond) (rm : Room) (G : jGt) (D : va_G) (tys : List (ClassId × FieldType)) (av : List Value) (c0 c1 : va_W) : Prop := (c1.map (·.1) = c0.map (·.1)) ∧ ∀ sz : Nat, Met l y ws rm (va_Pc av (jPre G D tys c0 sz)) (va_Qv (fun (_ : Unit) => True) (fun _ t => va_P D vwCl c1 t.heap) (va_A c0 sz)) 0 0 (va_A c0 sz)
def jMr (l : Launch) (y : MethodName) (ws : List Cond) (rm : Room) (G : jGt) (D : va_G) (tys : List (ClassId × FieldType)) (av : List Value) (c0 c1 : va_W) (ra : Nat) : Prop := (c1.map (·.1) = c0.map (·.1)) ∧ ∀ sz : Nat, Met l y ws rm (va_Pc av (jPre G D tys c0 sz)) (va_Qr (fun (_ : Unit) => True) (fun _ a t => a = ra ∧ va_P D vwCl c1 t.heap) (va_A c0 sz)) 0 0 (va_A c0 sz)
/-- what stays the same through a method's walk -/
def jCx (p : Program) (s : State) (m : MethodId) (args : Array Value) (c : Code) (cc : ByteArray) (nL : Nat) (Ts : List Cond) (own : String) (G : jGt) (D : va_G) (tys : List (ClassId × FieldType)) (A : Nat → Prop) : Prop :=
  CallFix p m c cc nL s args Ts own ∧ va_K D vwCl tys s ∧ jN G s ∧ (∀ q, s.heap.size ≤ q → A q) ∧ ∀ q, A q → G.1 ≤ q
theorem jblind {av : List Value} {G : jGt} {D : va_G} {tys : List (ClassId × FieldType)} {c0 : va_W} {sz : Nat} : FrameBlind (va_Pc av (jPre G D tys c0 sz)) := fun a U g mk q => by
  obtain ⟨q0, q1, qP, qK, qD, qN⟩ := q
  exact ⟨q0, q1, qP, va_K.moved (u := U) (U := U.calling g mk a) (Vm.Alike.refl U.vm) qK, qD, jN_same rfl rfl qN⟩
theorem j_at {W0 w0 : va_W} {is : List Nat} (h : is.map (fun i => W0[i]?) = w0.map some) {k : Nat} {q : Nat × va_E} (hq : w0[k]? = some q) : ∃ i, is[k]? = some i ∧ W0[i]? = some q := by
  have h1 : (is.map (fun i => W0[i]?))[k]? = some (some q) := by rw [h, List.getElem?_map, hq]; rfl
  rw [List.getElem?_map] at h1
  cases hi : is[k]? with
  | none => rw [hi] at h1; cases h1
  | some i => rw [hi] at h1; exact ⟨i, rfl, Option.some.inj h1⟩
theorem j_adr {W0 W1 : va_W} (h : W1.map (·.1) = W0.map (·.1)) {k : Nat} {q : Nat × va_E} (hq : W1[k]? = some q) : ∃ q0, W0[k]? = some q0 ∧ q0.1 = q.1 := by
  have h1 : (W0.map (·.1))[k]? = some q.1 := by rw [← h, List.getElem?_map, hq]; rfl
  rw [List.getElem?_map] at h1
  cases hi : W0[k]? with
  | none => rw [hi] at h1; cases h1
  | some i => rw [hi] at h1; exact ⟨i, rfl, Option.some.inj h1⟩
theorem j_subD {A : Nat → Prop} {W0 W1 : va_W} (h : W1.map (·.1) = W0.map (·.1)) (hD : va_D A W0) : va_D A W1 := by
  refine ⟨fun i j x y hx hy hxy => ?_, fun k q hq => ?_⟩
  · obtain ⟨x0, g1, g2⟩ := j_adr h hx
    obtain ⟨y0, g3, g4⟩ := j_adr h hy
    exact hD.1 i j x0 y0 g1 g3 (by rw [g2, g4]; exact hxy)
  · obtain ⟨q0, g1, g2⟩ := j_adr h hq
    rw [← g2]
    exact hD.2 k q0 g1
theorem j_fm {W0 : va_W} : ∀ {is : List Nat} {w0 : va_W}, is.filterMap (fun i => W0[i]?) = w0 → is.length = w0.length → is.map (fun i => W0[i]?) = w0.map some := by
  intro is
  induction is with
  | nil => intro w0 h _; subst h; rfl
  | cons a l ih =>
    intro w0 h hl
    cases ha : W0[a]? with
    | none =>
      rw [List.filterMap_cons_none ha] at h
      have := List.length_filterMap_le (fun i => W0[i]?) l
      rw [h] at this
      simp at hl
      omega
    | some x =>
      rw [List.filterMap_cons_some ha] at h
      subst h
      simp only [List.map_cons, ha]
      rw [ih rfl (by simpa using hl)]
def jset (W0 : va_W) : List Nat → va_W → va_W
  | i :: is, x :: xs => jset (W0.set i x) is xs
  | _, _ => W0
theorem jset_cons {W0 : va_W} {i : Nat} {is : List Nat} {x : Nat × va_E} {xs : va_W} : jset W0 (i :: is) (x :: xs) = jset (W0.set i x) is xs := rfl
theorem jset_nil {W0 w1 : va_W} : jset W0 [] w1 = W0 := by cases w1 <;> rfl
theorem jset_get {k : Nat} {q : Nat × va_E} : ∀ {is : List Nat} {W0 w1 : va_W}, is.length = w1.length → (jset W0 is w1)[k]? = some q → (∃ j : Nat, w1[j]? = some q) ∨ (k ∉ is ∧ W0[k]? = some q) := by
  intro is
  induction is with
  | nil => intro W0 w1 hl h; exact Or.inr ⟨List.not_mem_nil, by cases w1 <;> exact h⟩
  | cons i l ih =>
    intro W0 w1 hl h
    cases w1 with
    | nil => simp at hl
    | cons x xs =>
      rcases ih (by simpa using hl) h with ⟨j, hj⟩ | ⟨h1, h2⟩
      · exact Or.inl ⟨j + 1, by simpa using hj⟩
      · rw [List.getElem?_set] at h2
        by_cases e : i = k
        · rw [if_pos e] at h2
          by_cases z : i < W0.length
          · rw [if_pos z] at h2
            exact Or.inl ⟨0, h2⟩
          · rw [if_neg z] at h2; cases h2
        · rw [if_neg e] at h2
          exact Or.inr ⟨fun hm => (List.mem_cons.mp hm).elim (fun e2 => e e2.symm) h1, h2⟩
theorem jset_adr : ∀ {is : List Nat} {W0 w1 : va_W}, is.map (fun i => (W0[i]?).map (·.1)) = w1.map (fun x => some x.1) → (jset W0 is w1).map (·.1) = W0.map (·.1) := by
  intro is
  induction is with
  | nil => intro W0 w1 h; cases w1 <;> rfl
  | cons i l ih =>
    intro W0 w1 h
    cases w1 with
    | nil => rfl
    | cons x xs =>
      have h0 : (W0[i]?).map (·.1) = some x.1 := by simp only [List.map_cons, List.cons.injEq] at h; exact h.1
      have hs : ∀ k : Nat, ((W0.set i x)[k]?).map (·.1) = (W0[k]?).map (·.1) := by
        intro k
        rw [List.getElem?_set]
        by_cases e : i = k
        · subst e
          rw [if_pos rfl, h0]
          by_cases z : i < W0.length
          · rw [if_pos z]; rfl
          · rw [List.getElem?_eq_none (Nat.le_of_not_lt z)] at h0; cases h0
        · rw [if_neg e]
      have h1 : (W0.set i x).map (·.1) = W0.map (·.1) := by
        apply List.ext_getElem?
        intro k
        rw [List.getElem?_map, List.getElem?_map]
        exact hs k
      show (jset (W0.set i x) l xs).map (·.1) = _
      rw [ih (by
        have h2 := h
        simp only [List.map_cons, List.cons.injEq] at h2
        rw [← h2.2]
        exact List.map_congr_left (fun k _ => hs k))]
      exact h1
theorem j_ret {D : va_G} {A : Nat → Prop} {W0 w0 w1 : va_W} {H H1 : Heap} (hP : va_P D vwCl W0 H) (hD : va_D A W0) (isC : List Nat) (hC : isC.map (fun i => W0[i]?) = w0.map some) (hadr : w1.map (·.1) = w0.map (·.1)) (hk : ∀ q : Nat, q < H.size → ¬ va_A w0 H.size q → H1[q]? = H[q]?) (hP1 : va_P D vwCl w1 H1) : va_P D vwCl (jset W0 isC w1) H1 ∧ va_D A (jset W0 isC w1) := by
  have hl0 : isC.length = w0.length := by have := congrArg List.length hC; simpa using this
  have hl1 : w1.length = w0.length := by have := congrArg List.length hadr; simpa using this
  refine ⟨fun k q hq => ?_, j_subD (jset_adr ?_) hD⟩
  · rcases jset_get (by omega) hq with ⟨j, hj⟩ | ⟨h1, h2⟩
    · exact hP1 j q hj
    · refine (hP k q h2).kept (hk q.1 (hP k q h2).lt (fun hz => ?_))
      rcases hz with ⟨k2, e, hz⟩ | hz
      · obtain ⟨i, h3, h4⟩ := j_at hC hz
        have hki := hD.1 k i q (q.1, e) h2 h4 rfl
        subst hki
        exact h1 (List.mem_of_getElem? h3)
      · have := (hP k q h2).lt
        omega
  · have h5 : isC.map (fun i => (W0[i]?).map (·.1)) = (isC.map (fun i => W0[i]?)).map (fun o => o.map (·.1)) := by rw [List.map_map]; rfl
    rw [h5, hC, List.map_map]
    show w0.map (fun x => some x.1) = _
    have h6 : ∀ w : va_W, w.map (fun x => some x.1) = (w.map (·.1)).map some := fun w => by rw [List.map_map]; rfl
    rw [h6 w1, hadr, ← h6 w0]
theorem j_ret0 {D : va_G} {A : Nat → Prop} {W0 w0 : va_W} {H H1 : Heap} (hP : va_P D vwCl W0 H) (hD : va_D A W0) (isC : List Nat) (hC : isC.map (fun i => W0[i]?) = w0.map some) (hk : ∀ q : Nat, q < H.size → ¬ va_A w0 H.size q → H1[q]? = H[q]?) (hP1 : va_P D vwCl w0 H1) : va_P D vwCl W0 H1 := by
  intro k q hq
  by_cases hz : va_A w0 H.size q.1
  · rcases hz with ⟨k2, e, hz⟩ | hz
    · obtain ⟨i, h3, h4⟩ := j_at hC hz
      have hki := hD.1 k i q (q.1, e) hq h4 rfl
      subst hki
      rw [hq] at h4
      rw [Option.some.inj h4]
      exact hP1 k2 _ hz
    · have := (hP k q hq).lt
      omega
  · exact (hP k q hq).kept (hk q.1 (hP k q hq).lt hz)
section JCALL
variable {p : Program} {l : Launch} {e : Env} {R : Room} {s : State} {m : MethodId} {args : Array Value} {below : List Frame} {meth : Method} {c : Code} {H : Heap} {locs : List Loc} {cells slots : Nat} {Q : State → Prop}
variable {cc bytes : ByteArray} {nL maxL index n pc : Nat} {ls : Array Slot} {Ts ws : List Cond} {own C : String} {y : MethodName} {ret : Option FieldType} {rm : Room} {b : Addr} {rest st0 : List Value} {G : jGt} {D : va_G} {tys : List (ClassId × FieldType)} {A : Nat → Prop} {W0 w0 w1 : va_W} {r : Int32}
theorem jtop {x v : Int32} (h : x = v) (k : W p l e R s m args below meth c H locs cells slots Q (F0 m pc ls (.int v :: rest))) : W p l e R s m args below meth c H locs cells slots Q (F0 m pc ls (.int x :: rest)) := by subst h; exact k
theorem jtopl {x v : Int64} (h : x = v) (k : W p l e R s m args below meth c H locs cells slots Q (F0 m pc ls (.long v :: rest))) : W p l e R s m args below meth c H locs cells slots Q (F0 m pc ls (.long x :: rest)) := by subst h; exact k
theorem jpre {isC : List Nat} (hC : isC.map (fun i => W0[i]?) = w0.map some) (hnd : va_nd isC = true) (hP : va_P D vwCl W0 H) (hD : va_D A W0) (hS : va_S A s.heap H locs) (hK : va_K D vwCl tys s) (hN : jN G s) (hAG : ∀ q, A q → G.1 ≤ q) {av : List Value} : ∀ U : State, U.heap = H → s.WarmedH U.vm → va_Pc av (jPre G D tys w0 H.size) av.toArray U := fun U hU hW => ⟨rfl, by rw [hU], by
    rw [hU]
    intro k q hq
    obtain ⟨i, -, h2⟩ := j_at hC hq
    exact hP i q h2, va_K.moved hW.alike hK, (hD.sub isC hnd hC).weaken (fun _ _ _ h => hAG _ h), jN_warm hW hU hS hAG hN⟩
theorem jcV_i (S : CallFix p m c cc nL s args Ts own) (hK : va_K D vwCl tys s) (hN : jN G s) (hA : (∀ q, s.heap.size ≤ q → A q) ∧ ∀ q, A q → G.1 ≤ q) {As : List Value} (hM : jMi l y ws rm G D tys (.ref b :: As) w0 w1 r) (cw : CallW R s args own C index y bytes maxL ret ws rm 0 0 n) (hP : va_P D vwCl W0 H) (hD : va_D A W0) (hS : va_S A s.heap H locs) (isC : List Nat) (hC0 : isC.filterMap (fun i => W0[i]?) = w0) (hCl : isC.length = w0.length) (hnd : va_nd isC = true) {ci : Nat} {q : vw_C} {fs : List Value} (hcl : vwCl[ci]? = some q) (qr : Nat) (hre : W0[qr]? = some (b, .inr (ci, fs))) (hqC : q.1 = C) (hn : As.length = n) (hsz : ls.size = nL) (hst : st0 = As.reverse ++ .ref b :: rest) (hrest : (rest.map fun v => v.category).sum ≤ 8) (hdg : decode cc pc = .ok (.invokevirtual index, 3)) (hf : cells + 0 ≤ R.cells ∧ slots + 0 ≤ R.slots)
    (kk : ∀ (H1 : Heap) (locs1 : List Loc), va_P D vwCl (jset W0 isC w1) H1 → va_D A (jset W0 isC w1) → va_S A s.heap H1 locs1 → W p l e R s m args below meth c H1 locs1 cells slots Q (F0 m (pc + 3) ls (.int r :: rest))) : W p l e R s m args below meth c H locs cells slots Q (F0 m pc ls st0) := by
  have hC := j_fm hC0 hCl
  have hFc := va_free hD hS hA.1 isC hC
  subst hqC
  refine va_calli (va_runV S (hM.2 H.size) cw ⟨jblind, va_recv hK hP hcl hre, jpre hC hnd hP hD hS hK hN hA.2⟩ rfl hn hsz hst (lv_room hrest) hdg hf) hS (fun q _ h => hFc q h) hFc (fun r1 u t H1 locs1 ht hvm hw hB hz1 hk1 hS1 => ?_)
  subst hw
  rw [ht] at hB
  obtain ⟨g1, g2⟩ := j_ret hP hD isC hC hM.1 hk1 hB
  exact kk H1 locs1 g1 g2 hS1
theorem jcV_v (S : CallFix p m c cc nL s args Ts own) (hK : va_K D vwCl tys s) (hN : jN G s) (hA : (∀ q, s.heap.size ≤ q → A q) ∧ ∀ q, A q → G.1 ≤ q) {As : List Value} (hM : jMv l y ws rm G D tys (.ref b :: As) w0 w1) (cw : CallW R s args own C index y bytes maxL ret ws rm 0 0 n) (hP : va_P D vwCl W0 H) (hD : va_D A W0) (hS : va_S A s.heap H locs) (isC : List Nat) (hC0 : isC.filterMap (fun i => W0[i]?) = w0) (hCl : isC.length = w0.length) (hnd : va_nd isC = true) {ci : Nat} {q : vw_C} {fs : List Value} (hcl : vwCl[ci]? = some q) (qr : Nat) (hre : W0[qr]? = some (b, .inr (ci, fs))) (hqC : q.1 = C) (hn : As.length = n) (hsz : ls.size = nL) (hst : st0 = As.reverse ++ .ref b :: rest) (hrest : (rest.map fun v => v.category).sum ≤ 8) (hdg : decode cc pc = .ok (.invokevirtual index, 3)) (hf : cells + 0 ≤ R.cells ∧ slots + 0 ≤ R.slots)
    (kk : ∀ (H1 : Heap) (locs1 : List Loc), va_P D vwCl (jset W0 isC w1) H1 → va_D A (jset W0 isC w1) → va_S A s.heap H1 locs1 → W p l e R s m args below meth c H1 locs1 cells slots Q (F0 m (pc + 3) ls rest)) : W p l e R s m args below meth c H locs cells slots Q (F0 m pc ls st0) := by
  have hC := j_fm hC0 hCl
  have hFc := va_free hD hS hA.1 isC hC
  subst hqC
  refine va_callv (va_runV S (hM.2 H.size) cw ⟨jblind, va_recv hK hP hcl hre, jpre hC hnd hP hD hS hK hN hA.2⟩ rfl hn hsz hst (lv_room hrest) hdg hf) hS (fun q _ h => hFc q h) hFc (fun u t H1 locs1 ht hvm hw hB hz1 hk1 hS1 => ?_)
  rw [ht] at hB
  obtain ⟨g1, g2⟩ := j_ret hP hD isC hC hM.1 hk1 hB
  exact kk H1 locs1 g1 g2 hS1
theorem jcV_r (S : CallFix p m c cc nL s args Ts own) (hK : va_K D vwCl tys s) (hN : jN G s) (hA : (∀ q, s.heap.size ≤ q → A q) ∧ ∀ q, A q → G.1 ≤ q) {As : List Value} {ra : Nat} (hM : jMr l y ws rm G D tys (.ref b :: As) w0 w1 ra) (cw : CallW R s args own C index y bytes maxL ret ws rm 0 0 n) (hP : va_P D vwCl W0 H) (hD : va_D A W0) (hS : va_S A s.heap H locs) (isC : List Nat) (hC0 : isC.filterMap (fun i => W0[i]?) = w0) (hCl : isC.length = w0.length) (hnd : va_nd isC = true) {ci : Nat} {q : vw_C} {fs : List Value} (hcl : vwCl[ci]? = some q) (qr : Nat) (hre : W0[qr]? = some (b, .inr (ci, fs))) (hqC : q.1 = C) (hn : As.length = n) (hsz : ls.size = nL) (hst : st0 = As.reverse ++ .ref b :: rest) (hrest : (rest.map fun v => v.category).sum ≤ 8) (hdg : decode cc pc = .ok (.invokevirtual index, 3)) (hf : cells + 0 ≤ R.cells ∧ slots + 0 ≤ R.slots)
    (kk : ∀ (H1 : Heap) (locs1 : List Loc), va_P D vwCl (jset W0 isC w1) H1 → va_D A (jset W0 isC w1) → va_S A s.heap H1 locs1 → W p l e R s m args below meth c H1 locs1 cells slots Q (F0 m (pc + 3) ls (.ref ra :: rest))) : W p l e R s m args below meth c H locs cells slots Q (F0 m pc ls st0) := by
  have hC := j_fm hC0 hCl
  have hFc := va_free hD hS hA.1 isC hC
  subst hqC
  refine va_callr (va_runV S (hM.2 H.size) cw ⟨jblind, va_recv hK hP hcl hre, jpre hC hnd hP hD hS hK hN hA.2⟩ rfl hn hsz hst (lv_room hrest) hdg hf) hS (fun q _ h => hFc q h) hFc (fun u r1 t H1 locs1 ht hvm hw hB hz1 hk1 hS1 => ?_)
  obtain ⟨hw, hB⟩ := hB
  subst hw
  rw [ht] at hB
  obtain ⟨g1, g2⟩ := j_ret hP hD isC hC hM.1 hk1 hB
  exact kk H1 locs1 g1 g2 hS1
theorem jcS_i (S : CallFix p m c cc nL s args Ts own) (hK : va_K D vwCl tys s) (hN : jN G s) (hA : (∀ q, s.heap.size ≤ q → A q) ∧ ∀ q, A q → G.1 ≤ q) {As : List Value} (hM : jMi l y ws rm G D tys As w0 w1 r) (cw : CallB R s args own index y bytes maxL ret ws rm 0 0 n ∧ (Cond.static y).before args s = true) (hP : va_P D vwCl W0 H) (hD : va_D A W0) (hS : va_S A s.heap H locs) (isC : List Nat) (hC0 : isC.filterMap (fun i => W0[i]?) = w0) (hCl : isC.length = w0.length) (hnd : va_nd isC = true) (hn : As.length = n) (hsz : ls.size = nL) (hst : st0 = As.reverse ++ rest) (hrest : (rest.map fun v => v.category).sum ≤ 8) (hdg : decode cc pc = .ok (.invokestatic index, 3)) (hf : cells + 0 ≤ R.cells ∧ slots + 0 ≤ R.slots)
    (kk : ∀ (H1 : Heap) (locs1 : List Loc), va_P D vwCl (jset W0 isC w1) H1 → va_D A (jset W0 isC w1) → va_S A s.heap H1 locs1 → W p l e R s m args below meth c H1 locs1 cells slots Q (F0 m (pc + 3) ls (.int r :: rest))) : W p l e R s m args below meth c H locs cells slots Q (F0 m pc ls st0) := by
  have hC := j_fm hC0 hCl
  have hFc := va_free hD hS hA.1 isC hC
  refine va_calli (va_runS S (hM.2 H.size) cw ⟨jblind, jpre hC hnd hP hD hS hK hN hA.2⟩ rfl hn hsz hst (lv_room hrest) hdg hf) hS (fun q _ h => hFc q h) hFc (fun r1 u t H1 locs1 ht hvm hw hB hz1 hk1 hS1 => ?_)
  subst hw
  rw [ht] at hB
  obtain ⟨g1, g2⟩ := j_ret hP hD isC hC hM.1 hk1 hB
  exact kk H1 locs1 g1 g2 hS1
theorem jcS_v (S : CallFix p m c cc nL s args Ts own) (hK : va_K D vwCl tys s) (hN : jN G s) (hA : (∀ q, s.heap.size ≤ q → A q) ∧ ∀ q, A q → G.1 ≤ q) {As : List Value} (hM : jMv l y ws rm G D tys As w0 w1) (cw : CallB R s args own index y bytes maxL ret ws rm 0 0 n ∧ (Cond.static y).before args s = true) (hP : va_P D vwCl W0 H) (hD : va_D A W0) (hS : va_S A s.heap H locs) (isC : List Nat) (hC0 : isC.filterMap (fun i => W0[i]?) = w0) (hCl : isC.length = w0.length) (hnd : va_nd isC = true) (hn : As.length = n) (hsz : ls.size = nL) (hst : st0 = As.reverse ++ rest) (hrest : (rest.map fun v => v.category).sum ≤ 8) (hdg : decode cc pc = .ok (.invokestatic index, 3)) (hf : cells + 0 ≤ R.cells ∧ slots + 0 ≤ R.slots)
    (kk : ∀ (H1 : Heap) (locs1 : List Loc), va_P D vwCl (jset W0 isC w1) H1 → va_D A (jset W0 isC w1) → va_S A s.heap H1 locs1 → W p l e R s m args below meth c H1 locs1 cells slots Q (F0 m (pc + 3) ls rest)) : W p l e R s m args below meth c H locs cells slots Q (F0 m pc ls st0) := by
  have hC := j_fm hC0 hCl
  have hFc := va_free hD hS hA.1 isC hC
  refine va_callv (va_runS S (hM.2 H.size) cw ⟨jblind, jpre hC hnd hP hD hS hK hN hA.2⟩ rfl hn hsz hst (lv_room hrest) hdg hf) hS (fun q _ h => hFc q h) hFc (fun u t H1 locs1 ht hvm hw hB hz1 hk1 hS1 => ?_)
  rw [ht] at hB
  obtain ⟨g1, g2⟩ := j_ret hP hD isC hC hM.1 hk1 hB
  exact kk H1 locs1 g1 g2 hS1
theorem jcN_i {host : String} (S : CallFix p m c cc nL s args Ts own) (hK : va_K D vwCl tys s) (hN : jN G s) (hA : (∀ q, s.heap.size ≤ q → A q) ∧ ∀ q, A q → G.1 ≤ q) {As : List Value} (hM : jMi l y ws rm G D tys As w0 w1 r) (cw : va_CN R s args own index y host bytes maxL ret ws rm 0 0 n ∧ (Cond.static y).before args s = true ∧ True) (hP : va_P D vwCl W0 H) (hD : va_D A W0) (hS : va_S A s.heap H locs) (isC : List Nat) (hC0 : isC.filterMap (fun i => W0[i]?) = w0) (hCl : isC.length = w0.length) (hnd : va_nd isC = true) (hn : As.length = n) (hsz : ls.size = nL) (hst : st0 = As.reverse ++ rest) (hrest : (rest.map fun v => v.category).sum ≤ 8) (hdg : decode cc pc = .ok (.invokestatic index, 3)) (hf : cells + 0 ≤ R.cells ∧ slots + 0 ≤ R.slots)
    (kk : ∀ (H1 : Heap) (locs1 : List Loc), va_P D vwCl (jset W0 isC w1) H1 → va_D A (jset W0 isC w1) → va_S A s.heap H1 locs1 → W p l e R s m args below meth c H1 locs1 cells slots Q (F0 m (pc + 3) ls (.int r :: rest))) : W p l e R s m args below meth c H locs cells slots Q (F0 m pc ls st0) := by
  have hC := j_fm hC0 hCl
  have hFc := va_free hD hS hA.1 isC hC
  refine va_calli (va_runSN S (hM.2 H.size) cw ⟨jblind, jpre hC hnd hP hD hS hK hN hA.2⟩ rfl hn hsz hst (lv_room hrest) hdg hf) hS (fun q _ h => hFc q h) hFc (fun r1 u t H1 locs1 ht hvm hw hB hz1 hk1 hS1 => ?_)
  subst hw
  rw [ht] at hB
  obtain ⟨g1, g2⟩ := j_ret hP hD isC hC hM.1 hk1 hB
  exact kk H1 locs1 g1 g2 hS1
theorem jcN_v {host : String} (S : CallFix p m c cc nL s args Ts own) (hK : va_K D vwCl tys s) (hN : jN G s) (hA : (∀ q, s.heap.size ≤ q → A q) ∧ ∀ q, A q → G.1 ≤ q) {As : List Value} (hM : jMv l y ws rm G D tys As w0 w1) (cw : va_CN R s args own index y host bytes maxL ret ws rm 0 0 n ∧ (Cond.static y).before args s = true ∧ True) (hP : va_P D vwCl W0 H) (hD : va_D A W0) (hS : va_S A s.heap H locs) (isC : List Nat) (hC0 : isC.filterMap (fun i => W0[i]?) = w0) (hCl : isC.length = w0.length) (hnd : va_nd isC = true) (hn : As.length = n) (hsz : ls.size = nL) (hst : st0 = As.reverse ++ rest) (hrest : (rest.map fun v => v.category).sum ≤ 8) (hdg : decode cc pc = .ok (.invokestatic index, 3)) (hf : cells + 0 ≤ R.cells ∧ slots + 0 ≤ R.slots)
    (kk : ∀ (H1 : Heap) (locs1 : List Loc), va_P D vwCl (jset W0 isC w1) H1 → va_D A (jset W0 isC w1) → va_S A s.heap H1 locs1 → W p l e R s m args below meth c H1 locs1 cells slots Q (F0 m (pc + 3) ls rest)) : W p l e R s m args below meth c H locs cells slots Q (F0 m pc ls st0) := by
  have hC := j_fm hC0 hCl
  have hFc := va_free hD hS hA.1 isC hC
  refine va_callv (va_runSN S (hM.2 H.size) cw ⟨jblind, jpre hC hnd hP hD hS hK hN hA.2⟩ rfl hn hsz hst (lv_room hrest) hdg hf) hS (fun q _ h => hFc q h) hFc (fun u t H1 locs1 ht hvm hw hB hz1 hk1 hS1 => ?_)
  rw [ht] at hB
  obtain ⟨g1, g2⟩ := j_ret hP hD isC hC hM.1 hk1 hB
  exact kk H1 locs1 g1 g2 hS1
theorem jcV_i0 (S : CallFix p m c cc nL s args Ts own) (hK : va_K D vwCl tys s) (hN : jN G s) (hA : (∀ q, s.heap.size ≤ q → A q) ∧ ∀ q, A q → G.1 ≤ q) {As : List Value} (hM : jMi l y ws rm G D tys (.ref b :: As) w0 w0 r) (cw : CallW R s args own C index y bytes maxL ret ws rm 0 0 n) (hP : va_P D vwCl W0 H) (hD : va_D A W0) (hS : va_S A s.heap H locs) (isC : List Nat) (hC0 : isC.filterMap (fun i => W0[i]?) = w0) (hCl : isC.length = w0.length) (hnd : va_nd isC = true) {ci : Nat} {q : vw_C} {fs : List Value} (hcl : vwCl[ci]? = some q) (qr : Nat) (hre : W0[qr]? = some (b, .inr (ci, fs))) (hqC : q.1 = C) (hn : As.length = n) (hsz : ls.size = nL) (hst : st0 = As.reverse ++ .ref b :: rest) (hrest : (rest.map fun v => v.category).sum ≤ 8) (hdg : decode cc pc = .ok (.invokevirtual index, 3)) (hf : cells + 0 ≤ R.cells ∧ slots + 0 ≤ R.slots)
    (kk : ∀ (H1 : Heap) (locs1 : List Loc), va_P D vwCl W0 H1 → va_D A W0 → va_S A s.heap H1 locs1 → W p l e R s m args below meth c H1 locs1 cells slots Q (F0 m (pc + 3) ls (.int r :: rest))) : W p l e R s m args below meth c H locs cells slots Q (F0 m pc ls st0) := by
  have hC := j_fm hC0 hCl
  have hFc := va_free hD hS hA.1 isC hC
  subst hqC
  refine va_calli (va_runV S (hM.2 H.size) cw ⟨jblind, va_recv hK hP hcl hre, jpre hC hnd hP hD hS hK hN hA.2⟩ rfl hn hsz hst (lv_room hrest) hdg hf) hS (fun q _ h => hFc q h) hFc (fun r1 u t H1 locs1 ht hvm hw hB hz1 hk1 hS1 => ?_)
  subst hw
  rw [ht] at hB
  exact kk H1 locs1 (j_ret0 hP hD isC hC hk1 hB) hD hS1
theorem jcV_v0 (S : CallFix p m c cc nL s args Ts own) (hK : va_K D vwCl tys s) (hN : jN G s) (hA : (∀ q, s.heap.size ≤ q → A q) ∧ ∀ q, A q → G.1 ≤ q) {As : List Value} (hM : jMv l y ws rm G D tys (.ref b :: As) w0 w0) (cw : CallW R s args own C index y bytes maxL ret ws rm 0 0 n) (hP : va_P D vwCl W0 H) (hD : va_D A W0) (hS : va_S A s.heap H locs) (isC : List Nat) (hC0 : isC.filterMap (fun i => W0[i]?) = w0) (hCl : isC.length = w0.length) (hnd : va_nd isC = true) {ci : Nat} {q : vw_C} {fs : List Value} (hcl : vwCl[ci]? = some q) (qr : Nat) (hre : W0[qr]? = some (b, .inr (ci, fs))) (hqC : q.1 = C) (hn : As.length = n) (hsz : ls.size = nL) (hst : st0 = As.reverse ++ .ref b :: rest) (hrest : (rest.map fun v => v.category).sum ≤ 8) (hdg : decode cc pc = .ok (.invokevirtual index, 3)) (hf : cells + 0 ≤ R.cells ∧ slots + 0 ≤ R.slots)
    (kk : ∀ (H1 : Heap) (locs1 : List Loc), va_P D vwCl W0 H1 → va_D A W0 → va_S A s.heap H1 locs1 → W p l e R s m args below meth c H1 locs1 cells slots Q (F0 m (pc + 3) ls rest)) : W p l e R s m args below meth c H locs cells slots Q (F0 m pc ls st0) := by
  have hC := j_fm hC0 hCl
  have hFc := va_free hD hS hA.1 isC hC
  subst hqC
  refine va_callv (va_runV S (hM.2 H.size) cw ⟨jblind, va_recv hK hP hcl hre, jpre hC hnd hP hD hS hK hN hA.2⟩ rfl hn hsz hst (lv_room hrest) hdg hf) hS (fun q _ h => hFc q h) hFc (fun u t H1 locs1 ht hvm hw hB hz1 hk1 hS1 => ?_)
  rw [ht] at hB
  exact kk H1 locs1 (j_ret0 hP hD isC hC hk1 hB) hD hS1
theorem jcV_r0 (S : CallFix p m c cc nL s args Ts own) (hK : va_K D vwCl tys s) (hN : jN G s) (hA : (∀ q, s.heap.size ≤ q → A q) ∧ ∀ q, A q → G.1 ≤ q) {As : List Value} {ra : Nat} (hM : jMr l y ws rm G D tys (.ref b :: As) w0 w0 ra) (cw : CallW R s args own C index y bytes maxL ret ws rm 0 0 n) (hP : va_P D vwCl W0 H) (hD : va_D A W0) (hS : va_S A s.heap H locs) (isC : List Nat) (hC0 : isC.filterMap (fun i => W0[i]?) = w0) (hCl : isC.length = w0.length) (hnd : va_nd isC = true) {ci : Nat} {q : vw_C} {fs : List Value} (hcl : vwCl[ci]? = some q) (qr : Nat) (hre : W0[qr]? = some (b, .inr (ci, fs))) (hqC : q.1 = C) (hn : As.length = n) (hsz : ls.size = nL) (hst : st0 = As.reverse ++ .ref b :: rest) (hrest : (rest.map fun v => v.category).sum ≤ 8) (hdg : decode cc pc = .ok (.invokevirtual index, 3)) (hf : cells + 0 ≤ R.cells ∧ slots + 0 ≤ R.slots)
    (kk : ∀ (H1 : Heap) (locs1 : List Loc), va_P D vwCl W0 H1 → va_D A W0 → va_S A s.heap H1 locs1 → W p l e R s m args below meth c H1 locs1 cells slots Q (F0 m (pc + 3) ls (.ref ra :: rest))) : W p l e R s m args below meth c H locs cells slots Q (F0 m pc ls st0) := by
  have hC := j_fm hC0 hCl
  have hFc := va_free hD hS hA.1 isC hC
  subst hqC
  refine va_callr (va_runV S (hM.2 H.size) cw ⟨jblind, va_recv hK hP hcl hre, jpre hC hnd hP hD hS hK hN hA.2⟩ rfl hn hsz hst (lv_room hrest) hdg hf) hS (fun q _ h => hFc q h) hFc (fun u r1 t H1 locs1 ht hvm hw hB hz1 hk1 hS1 => ?_)
  obtain ⟨hw, hB⟩ := hB
  subst hw
  rw [ht] at hB
  exact kk H1 locs1 (j_ret0 hP hD isC hC hk1 hB) hD hS1
theorem jcS_i0 (S : CallFix p m c cc nL s args Ts own) (hK : va_K D vwCl tys s) (hN : jN G s) (hA : (∀ q, s.heap.size ≤ q → A q) ∧ ∀ q, A q → G.1 ≤ q) {As : List Value} (hM : jMi l y ws rm G D tys As w0 w0 r) (cw : CallB R s args own index y bytes maxL ret ws rm 0 0 n ∧ (Cond.static y).before args s = true) (hP : va_P D vwCl W0 H) (hD : va_D A W0) (hS : va_S A s.heap H locs) (isC : List Nat) (hC0 : isC.filterMap (fun i => W0[i]?) = w0) (hCl : isC.length = w0.length) (hnd : va_nd isC = true) (hn : As.length = n) (hsz : ls.size = nL) (hst : st0 = As.reverse ++ rest) (hrest : (rest.map fun v => v.category).sum ≤ 8) (hdg : decode cc pc = .ok (.invokestatic index, 3)) (hf : cells + 0 ≤ R.cells ∧ slots + 0 ≤ R.slots)
    (kk : ∀ (H1 : Heap) (locs1 : List Loc), va_P D vwCl W0 H1 → va_D A W0 → va_S A s.heap H1 locs1 → W p l e R s m args below meth c H1 locs1 cells slots Q (F0 m (pc + 3) ls (.int r :: rest))) : W p l e R s m args below meth c H locs cells slots Q (F0 m pc ls st0) := by
  have hC := j_fm hC0 hCl
  have hFc := va_free hD hS hA.1 isC hC
  refine va_calli (va_runS S (hM.2 H.size) cw ⟨jblind, jpre hC hnd hP hD hS hK hN hA.2⟩ rfl hn hsz hst (lv_room hrest) hdg hf) hS (fun q _ h => hFc q h) hFc (fun r1 u t H1 locs1 ht hvm hw hB hz1 hk1 hS1 => ?_)
  subst hw
  rw [ht] at hB
  exact kk H1 locs1 (j_ret0 hP hD isC hC hk1 hB) hD hS1
theorem jcS_v0 (S : CallFix p m c cc nL s args Ts own) (hK : va_K D vwCl tys s) (hN : jN G s) (hA : (∀ q, s.heap.size ≤ q → A q) ∧ ∀ q, A q → G.1 ≤ q) {As : List Value} (hM : jMv l y ws rm G D tys As w0 w0) (cw : CallB R s args own index y bytes maxL ret ws rm 0 0 n ∧ (Cond.static y).before args s = true) (hP : va_P D vwCl W0 H) (hD : va_D A W0) (hS : va_S A s.heap H locs) (isC : List Nat) (hC0 : isC.filterMap (fun i => W0[i]?) = w0) (hCl : isC.length = w0.length) (hnd : va_nd isC = true) (hn : As.length = n) (hsz : ls.size = nL) (hst : st0 = As.reverse ++ rest) (hrest : (rest.map fun v => v.category).sum ≤ 8) (hdg : decode cc pc = .ok (.invokestatic index, 3)) (hf : cells + 0 ≤ R.cells ∧ slots + 0 ≤ R.slots)
    (kk : ∀ (H1 : Heap) (locs1 : List Loc), va_P D vwCl W0 H1 → va_D A W0 → va_S A s.heap H1 locs1 → W p l e R s m args below meth c H1 locs1 cells slots Q (F0 m (pc + 3) ls rest)) : W p l e R s m args below meth c H locs cells slots Q (F0 m pc ls st0) := by
  have hC := j_fm hC0 hCl
  have hFc := va_free hD hS hA.1 isC hC
  refine va_callv (va_runS S (hM.2 H.size) cw ⟨jblind, jpre hC hnd hP hD hS hK hN hA.2⟩ rfl hn hsz hst (lv_room hrest) hdg hf) hS (fun q _ h => hFc q h) hFc (fun u t H1 locs1 ht hvm hw hB hz1 hk1 hS1 => ?_)
  rw [ht] at hB
  exact kk H1 locs1 (j_ret0 hP hD isC hC hk1 hB) hD hS1
theorem jcN_i0 {host : String} (S : CallFix p m c cc nL s args Ts own) (hK : va_K D vwCl tys s) (hN : jN G s) (hA : (∀ q, s.heap.size ≤ q → A q) ∧ ∀ q, A q → G.1 ≤ q) {As : List Value} (hM : jMi l y ws rm G D tys As w0 w0 r) (cw : va_CN R s args own index y host bytes maxL ret ws rm 0 0 n ∧ (Cond.static y).before args s = true ∧ True) (hP : va_P D vwCl W0 H) (hD : va_D A W0) (hS : va_S A s.heap H locs) (isC : List Nat) (hC0 : isC.filterMap (fun i => W0[i]?) = w0) (hCl : isC.length = w0.length) (hnd : va_nd isC = true) (hn : As.length = n) (hsz : ls.size = nL) (hst : st0 = As.reverse ++ rest) (hrest : (rest.map fun v => v.category).sum ≤ 8) (hdg : decode cc pc = .ok (.invokestatic index, 3)) (hf : cells + 0 ≤ R.cells ∧ slots + 0 ≤ R.slots)
    (kk : ∀ (H1 : Heap) (locs1 : List Loc), va_P D vwCl W0 H1 → va_D A W0 → va_S A s.heap H1 locs1 → W p l e R s m args below meth c H1 locs1 cells slots Q (F0 m (pc + 3) ls (.int r :: rest))) : W p l e R s m args below meth c H locs cells slots Q (F0 m pc ls st0) := by
  have hC := j_fm hC0 hCl
  have hFc := va_free hD hS hA.1 isC hC
  refine va_calli (va_runSN S (hM.2 H.size) cw ⟨jblind, jpre hC hnd hP hD hS hK hN hA.2⟩ rfl hn hsz hst (lv_room hrest) hdg hf) hS (fun q _ h => hFc q h) hFc (fun r1 u t H1 locs1 ht hvm hw hB hz1 hk1 hS1 => ?_)
  subst hw
  rw [ht] at hB
  exact kk H1 locs1 (j_ret0 hP hD isC hC hk1 hB) hD hS1
theorem jcN_v0 {host : String} (S : CallFix p m c cc nL s args Ts own) (hK : va_K D vwCl tys s) (hN : jN G s) (hA : (∀ q, s.heap.size ≤ q → A q) ∧ ∀ q, A q → G.1 ≤ q) {As : List Value} (hM : jMv l y ws rm G D tys As w0 w0) (cw : va_CN R s args own index y host bytes maxL ret ws rm 0 0 n ∧ (Cond.static y).before args s = true ∧ True) (hP : va_P D vwCl W0 H) (hD : va_D A W0) (hS : va_S A s.heap H locs) (isC : List Nat) (hC0 : isC.filterMap (fun i => W0[i]?) = w0) (hCl : isC.length = w0.length) (hnd : va_nd isC = true) (hn : As.length = n) (hsz : ls.size = nL) (hst : st0 = As.reverse ++ rest) (hrest : (rest.map fun v => v.category).sum ≤ 8) (hdg : decode cc pc = .ok (.invokestatic index, 3)) (hf : cells + 0 ≤ R.cells ∧ slots + 0 ≤ R.slots)
    (kk : ∀ (H1 : Heap) (locs1 : List Loc), va_P D vwCl W0 H1 → va_D A W0 → va_S A s.heap H1 locs1 → W p l e R s m args below meth c H1 locs1 cells slots Q (F0 m (pc + 3) ls rest)) : W p l e R s m args below meth c H locs cells slots Q (F0 m pc ls st0) := by
  have hC := j_fm hC0 hCl
  have hFc := va_free hD hS hA.1 isC hC
  refine va_callv (va_runSN S (hM.2 H.size) cw ⟨jblind, jpre hC hnd hP hD hS hK hN hA.2⟩ rfl hn hsz hst (lv_room hrest) hdg hf) hS (fun q _ h => hFc q h) hFc (fun u t H1 locs1 ht hvm hw hB hz1 hk1 hS1 => ?_)
  rw [ht] at hB
  exact kk H1 locs1 (j_ret0 hP hD isC hC hk1 hB) hD hS1
/-! loads and stores, the value with a name -/
theorem ja_iald (hx : p.tables.exec = Jvm.exec) (hb : c.code = cc) (hK : va_K D vwCl tys s) (hP : va_P D vwCl W0 H) (q0 t0 : Nat) {a : Nat} {cA : ClassId} {P : jA} (ha : W0[q0]? = some (a, .inl (cA, P.1, .inl P.2))) (ht : tys[t0]? = some (cA, .int)) {i v : Int32} (hv : P.2 i.toNatClampNeg = v) (hin : vp_in i P.1) (hdg : decode cc pc = .ok (.iaload, 1))
    (kk : W p l e R s m args below meth c H locs cells slots Q (F0 m (pc + 1) ls (.int v :: rest))) : W p l e R s m args below meth c H locs cells slots Q (F0 m pc ls (.int i :: .ref a :: rest)) := by
  subst hv; exact va_iald hx hb hK hP q0 t0 ha ht hin hdg kk
theorem ja_bald (hx : p.tables.exec = Jvm.exec) (hb : c.code = cc) (hK : va_K D vwCl tys s) (hP : va_P D vwCl W0 H) (q0 t0 : Nat) {a : Nat} {cA : ClassId} {P : jA} (ha : W0[q0]? = some (a, .inl (cA, P.1, .inl P.2))) (ht : tys[t0]? = some (cA, .byte)) {i v : Int32} (hv : P.2 i.toNatClampNeg = v) (hin : vp_in i P.1) (hdg : decode cc pc = .ok (.baload, 1))
    (kk : W p l e R s m args below meth c H locs cells slots Q (F0 m (pc + 1) ls (.int v :: rest))) : W p l e R s m args below meth c H locs cells slots Q (F0 m pc ls (.int i :: .ref a :: rest)) := by
  subst hv; exact va_bald hx hb hK hP q0 t0 ha ht hin hdg kk
theorem ja_zald (hx : p.tables.exec = Jvm.exec) (hb : c.code = cc) (hK : va_K D vwCl tys s) (hP : va_P D vwCl W0 H) (q0 t0 : Nat) {a : Nat} {cA : ClassId} {P : jA} (ha : W0[q0]? = some (a, .inl (cA, P.1, .inl P.2))) (ht : tys[t0]? = some (cA, .boolean)) {i v : Int32} (hv : P.2 i.toNatClampNeg = v) (hin : vp_in i P.1) (hdg : decode cc pc = .ok (.baload, 1))
    (kk : W p l e R s m args below meth c H locs cells slots Q (F0 m (pc + 1) ls (.int v :: rest))) : W p l e R s m args below meth c H locs cells slots Q (F0 m pc ls (.int i :: .ref a :: rest)) := by
  subst hv; exact va_zald hx hb hK hP q0 t0 ha ht hin hdg kk
theorem ja_iast (hx : p.tables.exec = Jvm.exec) (hb : c.code = cc) (hK : va_K D vwCl tys s) (hP : va_P D vwCl W0 H) (hD : va_D A W0) (hS : va_S A s.heap H locs) (q0 t0 : Nat) {a : Nat} {cA : ClassId} {P P' : jA} (ha : W0[q0]? = some (a, .inl (cA, P.1, .inl P.2))) (ht : tys[t0]? = some (cA, .int)) {i x : Int32} (hv : P' = (P.1, upd P.2 i.toNatClampNeg x)) (hin : vp_in i P.1) (hdg : decode cc pc = .ok (.iastore, 1))
    (kk : ∀ (H1 : Heap) (locs1 : List Loc), va_P D vwCl (W0.set q0 (a, .inl (cA, P'.1, .inl P'.2))) H1 → va_D A (W0.set q0 (a, .inl (cA, P'.1, .inl P'.2))) → va_S A s.heap H1 locs1 → W p l e R s m args below meth c H1 locs1 cells slots Q (F0 m (pc + 1) ls rest)) : W p l e R s m args below meth c H locs cells slots Q (F0 m pc ls (.int x :: .int i :: .ref a :: rest)) := by
  subst hv; exact va_iast hx hb hK hP hD hS q0 t0 ha ht hin hdg kk
theorem ja_bast (hx : p.tables.exec = Jvm.exec) (hb : c.code = cc) (hK : va_K D vwCl tys s) (hP : va_P D vwCl W0 H) (hD : va_D A W0) (hS : va_S A s.heap H locs) (q0 t0 : Nat) {a : Nat} {cA : ClassId} {P P' : jA} (ha : W0[q0]? = some (a, .inl (cA, P.1, .inl P.2))) (ht : tys[t0]? = some (cA, .byte)) {i x : Int32} (hv : P' = (P.1, upd P.2 i.toNatClampNeg (x.toInt8.toInt32))) (hin : vp_in i P.1) (hdg : decode cc pc = .ok (.bastore, 1))
    (kk : ∀ (H1 : Heap) (locs1 : List Loc), va_P D vwCl (W0.set q0 (a, .inl (cA, P'.1, .inl P'.2))) H1 → va_D A (W0.set q0 (a, .inl (cA, P'.1, .inl P'.2))) → va_S A s.heap H1 locs1 → W p l e R s m args below meth c H1 locs1 cells slots Q (F0 m (pc + 1) ls rest)) : W p l e R s m args below meth c H locs cells slots Q (F0 m pc ls (.int x :: .int i :: .ref a :: rest)) := by
  rw [← vp_nar_byte] at hv
  subst hv; exact va_bast hx hb hK hP hD hS q0 t0 ha ht hin hdg kk
theorem ja_zast (hx : p.tables.exec = Jvm.exec) (hb : c.code = cc) (hK : va_K D vwCl tys s) (hP : va_P D vwCl W0 H) (hD : va_D A W0) (hS : va_S A s.heap H locs) (q0 t0 : Nat) {a : Nat} {cA : ClassId} {P P' : jA} (ha : W0[q0]? = some (a, .inl (cA, P.1, .inl P.2))) (ht : tys[t0]? = some (cA, .boolean)) {i x : Int32} (hv : P' = (P.1, upd P.2 i.toNatClampNeg (vp_nar .boolean x))) (hin : vp_in i P.1) (hdg : decode cc pc = .ok (.bastore, 1))
    (kk : ∀ (H1 : Heap) (locs1 : List Loc), va_P D vwCl (W0.set q0 (a, .inl (cA, P'.1, .inl P'.2))) H1 → va_D A (W0.set q0 (a, .inl (cA, P'.1, .inl P'.2))) → va_S A s.heap H1 locs1 → W p l e R s m args below meth c H1 locs1 cells slots Q (F0 m (pc + 1) ls rest)) : W p l e R s m args below meth c H locs cells slots Q (F0 m pc ls (.int x :: .int i :: .ref a :: rest)) := by
  subst hv; exact va_zast hx hb hK hP hD hS q0 t0 ha ht hin hdg kk
theorem ja_copy (hx : p.tables.exec = Jvm.exec) (hb : c.code = cc) (hml : c.maxLocals = ls.size) (hown : s.vm.findClass own = some m.cls) (hlink : (Cond.methodLink own index arraycopyName).before args s = true) (hnat : (Cond.native arraycopyName).before args s = true) (hstat : (Cond.static arraycopyName).before args s = true) (hini : (Cond.initialized "java/lang/System").before args s = true) (hK : va_K D vwCl tys s) (hP : va_P D vwCl W0 H) (hD : va_D A W0) (hS : va_S A s.heap H locs) (q0 q1 t0 : Nat) {a0 a : Nat} {cA : ClassId} {P P2 P' : jA} {ty : FieldType} (ha0 : W0[q0]? = some (a0, .inl (cA, P.1, .inl P.2))) (ha1 : W0[q1]? = some (a, .inl (cA, P2.1, .inl P2.2))) (ht : tys[t0]? = some (cA, ty)) (hprim : refKind ty = false) {sp dp k : Int32} (hv : P' = (P2.1, va_cpy P.2 P2.2 sp.toNatClampNeg dp.toNatClampNeg k.toNatClampNeg)) (hc : ¬ sp < 0 ∧ ¬ dp < 0 ∧ ¬ k < 0 ∧ sp.toNatClampNeg + k.toNatClampNeg ≤ P.1 ∧ dp.toNatClampNeg + k.toNatClampNeg ≤ P2.1 ∧ ∀ i, i < k.toNatClampNeg → fits ty (.int (P.2 (sp.toNatClampNeg + i))) = true) (hframes : 1 ≤ R.frames) (hlocals : (rest.map fun v => v.category).sum + (nativeFrameWords "java/lang/System" "arraycopy" 5 + 11) ≤ R.locals) (hdg : decode cc pc = .ok (.invokestatic index, 3))
    (kk : ∀ (H1 : Heap) (locs1 : List Loc), va_P D vwCl (W0.set q1 (a, .inl (cA, P'.1, .inl P'.2))) H1 → va_D A (W0.set q1 (a, .inl (cA, P'.1, .inl P'.2))) → va_S A s.heap H1 locs1 → W p l e R s m args below meth c H1 locs1 cells slots Q (F0 m (pc + 3) ls rest)) : W p l e R s m args below meth c H locs cells slots Q (F0 m pc ls (.int k :: .int dp :: .ref a :: .int sp :: .ref a0 :: rest)) := by
  subst hv
  obtain ⟨h1, h2, h3, h4, h5, h6⟩ := hc
  exact va_copyi hx hb hml hown hlink hnat hstat hini hK hP hD hS q0 q1 t0 t0 ha0 ha1 ht ht hprim h1 h2 h3 h4 h5 h6 hframes hlocals hdg kk
end JCALL
theorem jz_nar {v : Int32} (h : v = 0 ∨ v = 1) : narrow .boolean (.int v) = .int v := by rcases h with rfl | rfl <;> decide
theorem jz_fit {v : Int32} (h : v = 0 ∨ v = 1) : fits .boolean (.int v) = true := by rcases h with rfl | rfl <;> decide
theorem jtab_out {x : Int32} {lo : Int} {n : Nat} (h : ∀ k : Nat, k < n → ¬ x = Int32.ofInt (lo + k)) : x.toInt < lo ∨ lo + n - 1 < x.toInt := by
  rcases Int.lt_or_le x.toInt lo with h1 | h1
  · exact Or.inl h1
  · rcases Int.lt_or_le (lo + n - 1) x.toInt with h2 | h2
    · exact Or.inr h2
    · refine absurd ?_ (h (x.toInt - lo).toNat (by omega))
      rw [show lo + ((x.toInt - lo).toNat : Int) = x.toInt by omega]
      exact (Int32.ofInt_toInt x).symm
/-! a contract out of a walk of its body -/
theorem jmk_i {l : Launch} {y : MethodName} {ws ws' : List Cond} {rm : Room} {G : jGt} {D : va_G} {tys : List (ClassId × FieldType)} {av : List Value} {c0 c1 : va_W} {r : Int32} {cc : ByteArray} {maxL : Nat} (own : String) (hown : y.cls = own) (hy : plainName y.cls = true) (hw : ws = Cond.code y cc maxL (some .int) :: ws') (hlen : (lg_sl av).length ≤ maxL) (hadr : c1.map (·.1) = c0.map (·.1))
    (body : ∀ (p : Program) (e : Env) (s : State) (m : MethodId) (args : Array Value) (below : List Frame) (meth : Method) (c : Code) (ls : Array Slot) (A : Nat → Prop) (Q : State → Prop), jCx p s m args c cc maxL ws own G D tys A → va_P D vwCl c0 s.heap → va_D A c0 → va_S A s.heap s.heap [] → lv_has ls maxL (lv_args 0 av) → (∀ (H : Heap) (locs : List Loc) (pc : Nat) (ls : Array Slot), va_P D vwCl c1 H → va_S A s.heap H locs → decode cc pc = .ok (.ireturn, 1) → W p l e rm s m args below meth c H locs 0 0 Q (F0 m pc ls [.int r])) → W p l e rm s m args below meth c s.heap [] 0 0 Q (F0 m 0 ls [])) : jMi l y ws rm G D tys av c0 c1 r := by
  refine ⟨hadr, ?_⟩
  intro sz
  refine Met.ofW (cc := cc) (maxL := maxL) (ret := some .int) hy hw ?_
  intro p e s m args below meth c s₁ B hml hv
  obtain ⟨rfl, hsz, hP, hK, hD0, hN⟩ := hv
  have hx := B.exec
  have hb := B.bytes
  have hr := B.returns
  have hts := atoms_spec (ws := ws) B.pre
  have hown2 : s.vm.findClass own = some m.cls := by rw [← hown]; exact findClass_of_methodNamed B.named
  have hlocks := B.notSynchronized
  subst hsz
  have hD := hD0.self (sz := s.heap.size)
  have hl := lv_entry av (n := maxL) hlen
  rw [lg_entry_eq]
  refine body p e s m _ below meth c _ (va_A c0 s.heap.size) _ ⟨⟨hx, hb, hml, hown2, hts⟩, hK, hN, fun q h => Or.inr h, fun q h => h.elim (fun ⟨k, e, h⟩ => hD0.2 k _ h) (fun h => Nat.le_trans hN.2.1 h)⟩ hP hD va_S.rf hl (fun H locs pc ls hP1 hS hd => ?_)
  exact W.iret (v := r) hx hb hr (fun t ht hW => ⟨⟨r, (), rfl, rfl, by show va_P D vwCl c1 t.heap; rw [ht]; exact hP1⟩, hS.F ht⟩) hS.2.2 hd
theorem jmk_z {l : Launch} {y : MethodName} {ws ws' : List Cond} {rm : Room} {G : jGt} {D : va_G} {tys : List (ClassId × FieldType)} {av : List Value} {c0 c1 : va_W} {r : Int32} {cc : ByteArray} {maxL : Nat} (own : String) (hown : y.cls = own) (hy : plainName y.cls = true) (hw : ws = Cond.code y cc maxL (some .boolean) :: ws') (hlen : (lg_sl av).length ≤ maxL) (hadr : c1.map (·.1) = c0.map (·.1))
    (body : ∀ (p : Program) (e : Env) (s : State) (m : MethodId) (args : Array Value) (below : List Frame) (meth : Method) (c : Code) (ls : Array Slot) (A : Nat → Prop) (Q : State → Prop), jCx p s m args c cc maxL ws own G D tys A → va_P D vwCl c0 s.heap → va_D A c0 → va_S A s.heap s.heap [] → lv_has ls maxL (lv_args 0 av) → (∀ (H : Heap) (locs : List Loc) (pc : Nat) (ls : Array Slot), (r = 0 ∨ r = 1) → va_P D vwCl c1 H → va_S A s.heap H locs → decode cc pc = .ok (.ireturn, 1) → W p l e rm s m args below meth c H locs 0 0 Q (F0 m pc ls [.int r])) → W p l e rm s m args below meth c s.heap [] 0 0 Q (F0 m 0 ls [])) : jMi l y ws rm G D tys av c0 c1 r := by
  refine ⟨hadr, ?_⟩
  intro sz
  refine Met.ofW (cc := cc) (maxL := maxL) (ret := some .boolean) hy hw ?_
  intro p e s m args below meth c s₁ B hml hv
  obtain ⟨rfl, hsz, hP, hK, hD0, hN⟩ := hv
  have hx := B.exec
  have hb := B.bytes
  have hr := B.returns
  have hts := atoms_spec (ws := ws) B.pre
  have hown2 : s.vm.findClass own = some m.cls := by rw [← hown]; exact findClass_of_methodNamed B.named
  have hlocks := B.notSynchronized
  subst hsz
  have hD := hD0.self (sz := s.heap.size)
  have hl := lv_entry av (n := maxL) hlen
  rw [lg_entry_eq]
  refine body p e s m _ below meth c _ (va_A c0 s.heap.size) _ ⟨⟨hx, hb, hml, hown2, hts⟩, hK, hN, fun q h => Or.inr h, fun q h => h.elim (fun ⟨k, e, h⟩ => hD0.2 k _ h) (fun h => Nat.le_trans hN.2.1 h)⟩ hP hD va_S.rf hl (fun H locs pc ls hz hP1 hS hd => ?_)
  exact W.zret (v := r) hx hb hr (jz_nar hz) (fun t ht hW => ⟨⟨r, (), rfl, rfl, by show va_P D vwCl c1 t.heap; rw [ht]; exact hP1⟩, hS.F ht⟩) hS.2.2 hd
theorem jmk_v {l : Launch} {y : MethodName} {ws ws' : List Cond} {rm : Room} {G : jGt} {D : va_G} {tys : List (ClassId × FieldType)} {av : List Value} {c0 c1 : va_W} {cc : ByteArray} {maxL : Nat} (own : String) (hown : y.cls = own) (hy : plainName y.cls = true) (hw : ws = Cond.code y cc maxL none :: ws') (hlen : (lg_sl av).length ≤ maxL) (hadr : c1.map (·.1) = c0.map (·.1))
    (body : ∀ (p : Program) (e : Env) (s : State) (m : MethodId) (args : Array Value) (below : List Frame) (meth : Method) (c : Code) (ls : Array Slot) (A : Nat → Prop) (Q : State → Prop), jCx p s m args c cc maxL ws own G D tys A → va_P D vwCl c0 s.heap → va_D A c0 → va_S A s.heap s.heap [] → lv_has ls maxL (lv_args 0 av) → (∀ (H : Heap) (locs : List Loc) (pc : Nat) (ls : Array Slot), va_P D vwCl c1 H → va_S A s.heap H locs → decode cc pc = .ok (.return_, 1) → W p l e rm s m args below meth c H locs 0 0 Q (F0 m pc ls [])) → W p l e rm s m args below meth c s.heap [] 0 0 Q (F0 m 0 ls [])) : jMv l y ws rm G D tys av c0 c1 := by
  refine ⟨hadr, ?_⟩
  intro sz
  refine Met.ofW (cc := cc) (maxL := maxL) (ret := none) hy hw ?_
  intro p e s m args below meth c s₁ B hml hv
  obtain ⟨rfl, hsz, hP, hK, hD0, hN⟩ := hv
  have hx := B.exec
  have hb := B.bytes
  have hr := B.returns
  have hts := atoms_spec (ws := ws) B.pre
  have hown2 : s.vm.findClass own = some m.cls := by rw [← hown]; exact findClass_of_methodNamed B.named
  have hlocks := B.notSynchronized
  subst hsz
  have hD := hD0.self (sz := s.heap.size)
  have hl := lv_entry av (n := maxL) hlen
  rw [lg_entry_eq]
  refine body p e s m _ below meth c _ (va_A c0 s.heap.size) _ ⟨⟨hx, hb, hml, hown2, hts⟩, hK, hN, fun q h => Or.inr h, fun q h => h.elim (fun ⟨k, e, h⟩ => hD0.2 k _ h) (fun h => Nat.le_trans hN.2.1 h)⟩ hP hD va_S.rf hl (fun H locs pc ls hP1 hS hd => ?_)
  exact W.vret hx hb hr (fun t ht hW => ⟨⟨(), rfl, trivial, by show va_P D vwCl c1 t.heap; rw [ht]; exact hP1⟩, hS.F ht⟩) hS.2.2 hd
theorem jmk_r {l : Launch} {y : MethodName} {ws ws' : List Cond} {rm : Room} {G : jGt} {D : va_G} {tys : List (ClassId × FieldType)} {av : List Value} {c0 c1 : va_W} {ra : Nat} {cn : String} {cc : ByteArray} {maxL : Nat} (own : String) (hown : y.cls = own) (hy : plainName y.cls = true) (hw : ws = Cond.code y cc maxL (some (.object cn)) :: ws') (hlen : (lg_sl av).length ≤ maxL) (hadr : c1.map (·.1) = c0.map (·.1))
    (body : ∀ (p : Program) (e : Env) (s : State) (m : MethodId) (args : Array Value) (below : List Frame) (meth : Method) (c : Code) (ls : Array Slot) (A : Nat → Prop) (Q : State → Prop), jCx p s m args c cc maxL ws own G D tys A → va_P D vwCl c0 s.heap → va_D A c0 → va_S A s.heap s.heap [] → lv_has ls maxL (lv_args 0 av) → (∀ (H : Heap) (locs : List Loc) (pc : Nat) (ls : Array Slot), va_P D vwCl c1 H → va_S A s.heap H locs → decode cc pc = .ok (.areturn, 1) → W p l e rm s m args below meth c H locs 0 0 Q (F0 m pc ls [.ref ra])) → W p l e rm s m args below meth c s.heap [] 0 0 Q (F0 m 0 ls [])) : jMr l y ws rm G D tys av c0 c1 ra := by
  refine ⟨hadr, ?_⟩
  intro sz
  refine Met.ofW (cc := cc) (maxL := maxL) (ret := some (.object cn)) hy hw ?_
  intro p e s m args below meth c s₁ B hml hv
  obtain ⟨rfl, hsz, hP, hK, hD0, hN⟩ := hv
  have hx := B.exec
  have hb := B.bytes
  have hr := B.returns
  have hts := atoms_spec (ws := ws) B.pre
  have hown2 : s.vm.findClass own = some m.cls := by rw [← hown]; exact findClass_of_methodNamed B.named
  have hlocks := B.notSynchronized
  subst hsz
  have hD := hD0.self (sz := s.heap.size)
  have hl := lv_entry av (n := maxL) hlen
  rw [lg_entry_eq]
  refine body p e s m _ below meth c _ (va_A c0 s.heap.size) _ ⟨⟨hx, hb, hml, hown2, hts⟩, hK, hN, fun q h => Or.inr h, fun q h => h.elim (fun ⟨k, e, h⟩ => hD0.2 k _ h) (fun h => Nat.le_trans hN.2.1 h)⟩ hP hD va_S.rf hl (fun H locs pc ls hP1 hS hd => ?_)
  exact W.aret (v := .ref ra) hx hb hr (Or.inl ⟨_, rfl⟩) (Or.inr ⟨_, rfl⟩) (fun t ht hW => ⟨⟨(), ra, rfl, trivial, rfl, by show va_P D vwCl c1 t.heap; rw [ht]; exact hP1⟩, hS.F ht⟩) hS.2.2 hd

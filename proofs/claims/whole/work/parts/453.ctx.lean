/-! the law's start -/
theorem k_ac_boolean : Cond.arrayClass .boolean ∈ lw_tbl := tb_2 _ (List.mem_of_getElem? (i := 61) (by decide +kernel))
theorem k_ac_byte : Cond.arrayClass .byte ∈ lw_tbl := tb_1 _ (List.mem_of_getElem? (i := 58) (by decide +kernel))
theorem k_ac_int : Cond.arrayClass .int ∈ lw_tbl := tb_1 _ (List.mem_of_getElem? (i := 85) (by decide +kernel))
theorem k_ao_C : Cond.arrayOver (.object "SectionHouse$Census") ∈ lw_tbl := tb_2 _ (List.mem_of_getElem? (i := 104) (by decide +kernel))
theorem k_ao_J : Cond.arrayOver (.array .int) ∈ lw_tbl := tb_2 _ (List.mem_of_getElem? (i := 11) (by decide +kernel))
theorem k_ao_S : Cond.arrayOver (.object "SectionHouse$State") ∈ lw_tbl := tb_1 _ (List.mem_of_getElem? (i := 191) (by decide +kernel))
theorem k_cl_L_10 : Cond.classLink R_law 10 RX12 ∈ lw_tbl := tb_6 _ (List.mem_of_getElem? (i := 39) (by decide +kernel))
theorem k_cl_L_7 : Cond.classLink R_law 7 RX11 ∈ lw_tbl := tb_1 _ (List.mem_of_getElem? (i := 21) (by decide +kernel))
theorem k_co_X11_init : Cond.code yX11_init cX11_init 1 none ∈ lw_tbl := tb_1 _ (List.mem_of_getElem? (i := 25) (by decide +kernel))
theorem k_co_X12_init : Cond.code yX12_init cX12_init 1 none ∈ lw_tbl := tb_6 _ (List.mem_of_getElem? (i := 43) (by decide +kernel))
theorem k_ib_X11 : Cond.instantiable RX11 6 ∈ lw_tbl := tb_1 _ (List.mem_of_getElem? (i := 22) (by decide +kernel))
theorem k_ib_X12 : Cond.instantiable RX12 74 ∈ lw_tbl := tb_6 _ (List.mem_of_getElem? (i := 40) (by decide +kernel))
theorem k_ii_cs : Cond.initialized "java/lang/String" ∈ lw_tbl := tb_1 _ (List.mem_of_getElem? (i := 13) (by decide +kernel))
theorem k_ii_sf : Cond.initialized "jdk/internal/util/Preconditions" ∈ lw_tbl := tb_1 _ (List.mem_of_getElem? (i := 15) (by decide +kernel))
theorem k_im_X11_init : Cond.instanceMethod yX11_init ∈ lw_tbl := tb_1 _ (List.mem_of_getElem? (i := 24) (by decide +kernel))
theorem k_im_X12_init : Cond.instanceMethod yX12_init ∈ lw_tbl := tb_6 _ (List.mem_of_getElem? (i := 42) (by decide +kernel))
theorem k_ls_cs : Cond.laysStatic "java/lang/String" "COMPACT_STRINGS" "Z" ∈ lw_tbl := tb_2 _ (List.mem_of_getElem? (i := 208) (by decide +kernel))
theorem k_ls_sf : Cond.laysStatic "jdk/internal/util/Preconditions" "SIOOBE_FORMATTER" "Ljava/util/function/BiFunction;" ∈ lw_tbl := tb_2 _ (List.mem_of_getElem? (i := 224) (by decide +kernel))
theorem k_ml_L_12 : Cond.methodLink R_law 12 yX12_init ∈ lw_tbl := tb_6 _ (List.mem_of_getElem? (i := 41) (by decide +kernel))
theorem k_ml_L_9 : Cond.methodLink R_law 9 yX11_init ∈ lw_tbl := tb_1 _ (List.mem_of_getElem? (i := 23) (by decide +kernel))
theorem k_nl_X0_119 : Cond.methodLinkNest RX0 119 yX11_entry "SectionHouse" ∈ lw_tbl := tb_5 _ (List.mem_of_getElem? (i := 47) (by decide +kernel))
theorem k_nl_X0_32 : Cond.methodLinkNest RX0 32 yX3_init "SectionHouse" ∈ lw_tbl := tb_4 _ (List.mem_of_getElem? (i := 170) (by decide +kernel))
theorem k_nl_X0_39 : Cond.methodLinkNest RX0 39 yX10_init "SectionHouse" ∈ lw_tbl := tb_4 _ (List.mem_of_getElem? (i := 172) (by decide +kernel))
theorem k_nl_X10_40 : Cond.methodLinkNest RX10 40 yX11_entry "SectionHouse" ∈ lw_tbl := tb_3 _ (List.mem_of_getElem? (i := 43) (by decide +kernel))
theorem k_nl_X10_44 : Cond.methodLinkNest RX10 44 yX11_set "SectionHouse" ∈ lw_tbl := tb_3 _ (List.mem_of_getElem? (i := 50) (by decide +kernel))
theorem k_nl_X11_22 : Cond.methodLinkNest RX11 22 yX8_init "SectionHouse" ∈ lw_tbl := tb_1 _ (List.mem_of_getElem? (i := 194) (by decide +kernel))
theorem k_nl_X11_29 : Cond.methodLinkNest RX11 29 yX9_init "SectionHouse" ∈ lw_tbl := tb_2 _ (List.mem_of_getElem? (i := 6) (by decide +kernel))
theorem k_nl_X11_36 : Cond.methodLinkNest RX11 36 yX2_init "SectionHouse" ∈ lw_tbl := tb_2 _ (List.mem_of_getElem? (i := 64) (by decide +kernel))
theorem k_nl_X11_9 : Cond.methodLinkNest RX11 9 yX6_init "SectionHouse" ∈ lw_tbl := tb_1 _ (List.mem_of_getElem? (i := 31) (by decide +kernel))
theorem k_nl_X2_77 : Cond.methodLinkNest RX2 77 yX11_set "SectionHouse" ∈ lw_tbl := tb_5 _ (List.mem_of_getElem? (i := 140) (by decide +kernel))
theorem k_nl_X2_86 : Cond.methodLinkNest RX2 86 yX11_entry "SectionHouse" ∈ lw_tbl := tb_5 _ (List.mem_of_getElem? (i := 145) (by decide +kernel))
theorem k_nl_X4_68 : Cond.methodLinkNest RX4 68 yX11_entry "SectionHouse" ∈ lw_tbl := tb_5 _ (List.mem_of_getElem? (i := 76) (by decide +kernel))
theorem k_nl_X6_11 : Cond.methodLinkNest RX6 11 yX7_init "SectionHouse" ∈ lw_tbl := tb_1 _ (List.mem_of_getElem? (i := 37) (by decide +kernel))
theorem k_nl_X6_20 : Cond.methodLinkNest RX6 20 yX10_init "SectionHouse" ∈ lw_tbl := tb_1 _ (List.mem_of_getElem? (i := 61) (by decide +kernel))
theorem k_nl_X6_27 : Cond.methodLinkNest RX6 27 yX3_init "SectionHouse" ∈ lw_tbl := tb_1 _ (List.mem_of_getElem? (i := 88) (by decide +kernel))
theorem k_nl_X6_34 : Cond.methodLinkNest RX6 34 yX4_init "SectionHouse" ∈ lw_tbl := tb_1 _ (List.mem_of_getElem? (i := 109) (by decide +kernel))
theorem k_nl_X6_66 : Cond.methodLinkNest RX6 66 yX11_entry "SectionHouse" ∈ lw_tbl := tb_4 _ (List.mem_of_getElem? (i := 33) (by decide +kernel))
theorem k_nl_X8_11 : Cond.methodLinkNest RX8 11 yX5_init "SectionHouse" ∈ lw_tbl := tb_1 _ (List.mem_of_getElem? (i := 200) (by decide +kernel))
theorem k_nl_X8_20 : Cond.methodLinkNest RX8 20 yX10_init "SectionHouse" ∈ lw_tbl := tb_1 _ (List.mem_of_getElem? (i := 229) (by decide +kernel))
theorem k_nl_X8_27 : Cond.methodLinkNest RX8 27 yX3_init "SectionHouse" ∈ lw_tbl := tb_1 _ (List.mem_of_getElem? (i := 231) (by decide +kernel))
theorem k_nl_X9_137 : Cond.methodLinkNest RX9 137 yX11_isSex "SectionHouse" ∈ lw_tbl := tb_4 _ (List.mem_of_getElem? (i := 59) (by decide +kernel))
theorem k_nl_X9_94 : Cond.methodLinkNest RX9 94 yX11_set "SectionHouse" ∈ lw_tbl := tb_3 _ (List.mem_of_getElem? (i := 236) (by decide +kernel))
theorem k_nl_X9_99 : Cond.methodLinkNest RX9 99 yX11_entry "SectionHouse" ∈ lw_tbl := tb_3 _ (List.mem_of_getElem? (i := 231) (by decide +kernel))
theorem k_sr_X1_11 : Cond.stringRef RX1 11 "fmsdbzhw" ∈ lw_tbl := tb_3 _ (List.mem_of_getElem? (i := 111) (by decide +kernel))
theorem k_sr_X8_140 : Cond.stringRef RX8 140 "bar" ∈ lw_tbl := tb_3 _ (List.mem_of_getElem? (i := 100) (by decide +kernel))
theorem k_sr_X8_142 : Cond.stringRef RX8 142 "must" ∈ lw_tbl := tb_3 _ (List.mem_of_getElem? (i := 101) (by decide +kernel))
theorem k_sr_X8_144 : Cond.stringRef RX8 144 "same" ∈ lw_tbl := tb_3 _ (List.mem_of_getElem? (i := 102) (by decide +kernel))
theorem k_sr_X8_75 : Cond.stringRef RX8 75 "classes" ∈ lw_tbl := tb_2 _ (List.mem_of_getElem? (i := 190) (by decide +kernel))
theorem k_sr_X8_91 : Cond.stringRef RX8 91 "weds" ∈ lw_tbl := tb_3 _ (List.mem_of_getElem? (i := 32) (by decide +kernel))
theorem k_sr_X8_96 : Cond.stringRef RX8 96 "child" ∈ lw_tbl := tb_3 _ (List.mem_of_getElem? (i := 34) (by decide +kernel))
theorem k_sr_X9_141 : Cond.stringRef RX9 141 "fmsdbzhw" ∈ lw_tbl := tb_4 _ (List.mem_of_getElem? (i := 60) (by decide +kernel))
theorem hd_X11_init : yX11_init.cls = RX11 ∧ yX11_init.cls ≠ "java/lang/invoke/MethodHandle" ∧ yX11_init.cls ≠ "java/lang/invoke/VarHandle" ∧ (parseMethodDescriptor yX11_init.desc).map (fun d => d.parameters.length) = some 0 := by decide +kernel
theorem hd_X12_init : yX12_init.cls = RX12 ∧ yX12_init.cls ≠ "java/lang/invoke/MethodHandle" ∧ yX12_init.cls ≠ "java/lang/invoke/VarHandle" ∧ (parseMethodDescriptor yX12_init.desc).map (fun d => d.parameters.length) = some 0 := by decide +kernel
theorem wG_sub {y : MethodName} {c : ByteArray} {n : Nat} {r : Option FieldType} (h : Cond.code y c n r ∈ lw_tbl) : ∀ w ∈ wG y c n r, w ∈ lw_tbl := fun w hw => (List.mem_cons.mp hw).elim (fun e => e ▸ h) (fun g => (List.mem_filter.mp g).1)
theorem wG_gd {y : MethodName} {c : ByteArray} {n : Nat} {r : Option FieldType} (h : Cond.code y c n r ∈ lw_tbl) : GoodIn lw_tbl (wG y c n r) := fun w hw => (List.mem_cons.mp hw).elim (fun e => by subst e; exact ⟨h, good_of_word rfl⟩) (fun g => ⟨(List.mem_filter.mp g).1, good_of_word (List.mem_filter.mp g).2⟩)
theorem lw_nest {s : State} {A : Array Value} (hts : ∀ w ∈ lw_tbl, w.before A s = true) : ∀ q ∈ jNq, va_Nw (.methodLinkNest q.1 q.2.1 q.2.2 "SectionHouse") s :=
  List.forall_mem_cons.mpr ⟨va_Nw.of rfl (hts _ k_nl_X11_22), List.forall_mem_cons.mpr ⟨va_Nw.of rfl (hts _ k_nl_X11_29), List.forall_mem_cons.mpr ⟨va_Nw.of rfl (hts _ k_nl_X11_36), List.forall_mem_cons.mpr ⟨va_Nw.of rfl (hts _ k_nl_X11_9), List.forall_mem_cons.mpr ⟨va_Nw.of rfl (hts _ k_nl_X0_119), List.forall_mem_cons.mpr ⟨va_Nw.of rfl (hts _ k_nl_X0_32), List.forall_mem_cons.mpr ⟨va_Nw.of rfl (hts _ k_nl_X0_39), List.forall_mem_cons.mpr ⟨va_Nw.of rfl (hts _ k_nl_X2_77), List.forall_mem_cons.mpr ⟨va_Nw.of rfl (hts _ k_nl_X2_86), List.forall_mem_cons.mpr ⟨va_Nw.of rfl (hts _ k_nl_X4_68), List.forall_mem_cons.mpr ⟨va_Nw.of rfl (hts _ k_nl_X6_11), List.forall_mem_cons.mpr ⟨va_Nw.of rfl (hts _ k_nl_X6_20), List.forall_mem_cons.mpr ⟨va_Nw.of rfl (hts _ k_nl_X6_27), List.forall_mem_cons.mpr ⟨va_Nw.of rfl (hts _ k_nl_X6_34), List.forall_mem_cons.mpr ⟨va_Nw.of rfl (hts _ k_nl_X6_66), List.forall_mem_cons.mpr ⟨va_Nw.of rfl (hts _ k_nl_X8_11), List.forall_mem_cons.mpr ⟨va_Nw.of rfl (hts _ k_nl_X8_20), List.forall_mem_cons.mpr ⟨va_Nw.of rfl (hts _ k_nl_X8_27), List.forall_mem_cons.mpr ⟨va_Nw.of rfl (hts _ k_nl_X9_137), List.forall_mem_cons.mpr ⟨va_Nw.of rfl (hts _ k_nl_X9_94), List.forall_mem_cons.mpr ⟨va_Nw.of rfl (hts _ k_nl_X9_99), List.forall_mem_cons.mpr ⟨va_Nw.of rfl (hts _ k_nl_X10_40), List.forall_mem_cons.mpr ⟨va_Nw.of rfl (hts _ k_nl_X10_44), fun _ h => absurd h List.not_mem_nil⟩⟩⟩⟩⟩⟩⟩⟩⟩⟩⟩⟩⟩⟩⟩⟩⟩⟩⟩⟩⟩⟩⟩
theorem lw_arr {s : State} {A : Array Value} {ty : FieldType} (h : (Cond.arrayClass ty).before A s = true) (ht : ∀ C, ty ≠ .object C) : ∃ cA, ArrOfT s cA ty ∧ va_RA s cA ty := by
  obtain ⟨cA, kA, comp, h1, h2, h3⟩ := Cond.arrayClass_spec h
  refine ⟨cA, fun n z => ⟨(fun k h => by cases h), kA, h2, comp, h3⟩, ?_⟩
  cases ty with
  | object C => exact absurd rfl (ht C)
  | _ => exact h1
theorem lw_arrO {s : State} {A : Array Value} {C : String} (h : (Cond.arrayOver (.object C)).before A s = true) : ∃ cA, ArrOfT s cA (.object C) ∧ va_RA s cA (.object C) := by
  obtain ⟨comp, cA, kA, h1, h2, h3, h4, h5⟩ := Cond.arrayOver_spec h
  exact ⟨cA, fun n z => ⟨(fun k h => by cases h), kA, h3, comp, h4⟩, kA, comp, h3, h4, h1, h5⟩
theorem lw_arrJ {s : State} (h : jAA s) : ∃ cA, ArrOfT s cA (.array .int) ∧ va_RA s cA (.array .int) := by
  obtain ⟨comp, cA, kA, h1, h2, h3, h4, h5⟩ := jAA_spec h
  exact ⟨cA, fun n z => ⟨(fun k h => by cases h), kA, h3, comp, h4⟩, h5⟩
theorem lw_s0 {s : State} {b : Nat} (hts : ∀ w ∈ lw_tbl, w.before #[Value.ref b] s = true) (hs : ∀ c ∈ flatC (Jvm.Cond.and given_1 narrow_1), c.before #[Value.ref b] s = true) : ∃ a t, vk_R RX1 11 "fmsdbzhw" a s ∧ va_O "java/lang/String" a (fun q => s.heap.size ≤ q) s s.heap ∧ va_OF "java/lang/String" "coder" "B" (.int 0) a (fun q => s.heap.size ≤ q) s s.heap ∧ va_OF "java/lang/String" "value" "[B" (.ref t) a (fun q => s.heap.size ≤ q) s s.heap ∧ va_T .byte t 8 (fun j => .int (([102, 109, 115, 100, 98, 122, 104, 119] : List Int32).getD j 0)) (fun q => s.heap.size ≤ q) s s.heap := by
  have hA : ∀ a : Nat, a < s.heap.size → ¬ (fun q => s.heap.size ≤ q) a := fun a h => Nat.not_le.mpr h
  have hex : (Cond.exactly (.string RX1 11) "java/lang/String").before #[Value.ref b] s = true := hs _ (by decide +kernel)
  have hco : (Cond.eq (.field (.string RX1 11) "java/lang/String" "coder" "B") (.int 0)).before #[Value.ref b] s = true := hs _ (by decide +kernel)
  have har : (Cond.arrayOf (.field (.string RX1 11) "java/lang/String" "value" "[B") .byte).before #[Value.ref b] s = true := hs _ (by decide +kernel)
  have hle : (Cond.eq (.length (.field (.string RX1 11) "java/lang/String" "value" "[B")) (.int (Int32.ofNat 8))).before #[Value.ref b] s = true := hs _ (by decide +kernel)
  have hel : ∀ j : Nat, j < 8 → (Cond.eq (.elem (.field (.string RX1 11) "java/lang/String" "value" "[B") (.int (Int32.ofNat j))) (.int (([102, 109, 115, 100, 98, 122, 104, 119] : List Int32).getD j 0))).before #[Value.ref b] s = true := by
    intro j hj
    rcases (show j = 0 ∨ j = 1 ∨ j = 2 ∨ j = 3 ∨ j = 4 ∨ j = 5 ∨ j = 6 ∨ j = 7 by omega) with rfl | rfl | rfl | rfl | rfl | rfl | rfl | rfl <;> exact hs _ (by decide +kernel)
  obtain ⟨a, c, cA, kA, q1, q2, q3, q4, q5, q6, -⟩ := Cond.exactly_spec (args := #[Value.ref b]) (first := s) (o := none) (s := s) (idx := []) (t := .string RX1 11) (cls := "java/lang/String") hex
  obtain ⟨t, ht, hT⟩ := va_Tof (f := fun j => .int (([102, 109, 115, 100, 98, 122, 104, 119] : List Int32).getD j 0)) (A := fun q => s.heap.size ≤ q) (by decide) har (va_eqt hle) (fun j hj => va_eqt (hel j hj)) hA
  exact ⟨a, t, vk_R.of (hts _ k_sr_X1_11) q1, ⟨cA, q3, q5, by rw [q6]; exact q2, hA a (Array.getElem?_eq_some_iff.mp q3).1⟩, vk_OFof q1 (va_eqt hco) hA, vk_OFof q1 ht hA, hT⟩
theorem lw_s1 {s : State} {b : Nat} (hts : ∀ w ∈ lw_tbl, w.before #[Value.ref b] s = true) (hs : ∀ c ∈ flatC (Jvm.Cond.and given_1 narrow_1), c.before #[Value.ref b] s = true) : ∃ a t, vk_R RX8 75 "classes" a s ∧ va_O "java/lang/String" a (fun q => s.heap.size ≤ q) s s.heap ∧ va_OF "java/lang/String" "coder" "B" (.int 0) a (fun q => s.heap.size ≤ q) s s.heap ∧ va_OF "java/lang/String" "value" "[B" (.ref t) a (fun q => s.heap.size ≤ q) s s.heap ∧ va_T .byte t 7 (fun j => .int (([99, 108, 97, 115, 115, 101, 115] : List Int32).getD j 0)) (fun q => s.heap.size ≤ q) s s.heap := by
  have hA : ∀ a : Nat, a < s.heap.size → ¬ (fun q => s.heap.size ≤ q) a := fun a h => Nat.not_le.mpr h
  have hex : (Cond.exactly (.string RX8 75) "java/lang/String").before #[Value.ref b] s = true := hs _ (by decide +kernel)
  have hco : (Cond.eq (.field (.string RX8 75) "java/lang/String" "coder" "B") (.int 0)).before #[Value.ref b] s = true := hs _ (by decide +kernel)
  have har : (Cond.arrayOf (.field (.string RX8 75) "java/lang/String" "value" "[B") .byte).before #[Value.ref b] s = true := hs _ (by decide +kernel)
  have hle : (Cond.eq (.length (.field (.string RX8 75) "java/lang/String" "value" "[B")) (.int (Int32.ofNat 7))).before #[Value.ref b] s = true := hs _ (by decide +kernel)
  have hel : ∀ j : Nat, j < 7 → (Cond.eq (.elem (.field (.string RX8 75) "java/lang/String" "value" "[B") (.int (Int32.ofNat j))) (.int (([99, 108, 97, 115, 115, 101, 115] : List Int32).getD j 0))).before #[Value.ref b] s = true := by
    intro j hj
    rcases (show j = 0 ∨ j = 1 ∨ j = 2 ∨ j = 3 ∨ j = 4 ∨ j = 5 ∨ j = 6 by omega) with rfl | rfl | rfl | rfl | rfl | rfl | rfl <;> exact hs _ (by decide +kernel)
  obtain ⟨a, c, cA, kA, q1, q2, q3, q4, q5, q6, -⟩ := Cond.exactly_spec (args := #[Value.ref b]) (first := s) (o := none) (s := s) (idx := []) (t := .string RX8 75) (cls := "java/lang/String") hex
  obtain ⟨t, ht, hT⟩ := va_Tof (f := fun j => .int (([99, 108, 97, 115, 115, 101, 115] : List Int32).getD j 0)) (A := fun q => s.heap.size ≤ q) (by decide) har (va_eqt hle) (fun j hj => va_eqt (hel j hj)) hA
  exact ⟨a, t, vk_R.of (hts _ k_sr_X8_75) q1, ⟨cA, q3, q5, by rw [q6]; exact q2, hA a (Array.getElem?_eq_some_iff.mp q3).1⟩, vk_OFof q1 (va_eqt hco) hA, vk_OFof q1 ht hA, hT⟩
theorem lw_s2 {s : State} {b : Nat} (hts : ∀ w ∈ lw_tbl, w.before #[Value.ref b] s = true) (hs : ∀ c ∈ flatC (Jvm.Cond.and given_1 narrow_1), c.before #[Value.ref b] s = true) : ∃ a t, vk_R RX8 91 "weds" a s ∧ va_O "java/lang/String" a (fun q => s.heap.size ≤ q) s s.heap ∧ va_OF "java/lang/String" "coder" "B" (.int 0) a (fun q => s.heap.size ≤ q) s s.heap ∧ va_OF "java/lang/String" "value" "[B" (.ref t) a (fun q => s.heap.size ≤ q) s s.heap ∧ va_T .byte t 4 (fun j => .int (([119, 101, 100, 115] : List Int32).getD j 0)) (fun q => s.heap.size ≤ q) s s.heap := by
  have hA : ∀ a : Nat, a < s.heap.size → ¬ (fun q => s.heap.size ≤ q) a := fun a h => Nat.not_le.mpr h
  have hex : (Cond.exactly (.string RX8 91) "java/lang/String").before #[Value.ref b] s = true := hs _ (by decide +kernel)
  have hco : (Cond.eq (.field (.string RX8 91) "java/lang/String" "coder" "B") (.int 0)).before #[Value.ref b] s = true := hs _ (by decide +kernel)
  have har : (Cond.arrayOf (.field (.string RX8 91) "java/lang/String" "value" "[B") .byte).before #[Value.ref b] s = true := hs _ (by decide +kernel)
  have hle : (Cond.eq (.length (.field (.string RX8 91) "java/lang/String" "value" "[B")) (.int (Int32.ofNat 4))).before #[Value.ref b] s = true := hs _ (by decide +kernel)
  have hel : ∀ j : Nat, j < 4 → (Cond.eq (.elem (.field (.string RX8 91) "java/lang/String" "value" "[B") (.int (Int32.ofNat j))) (.int (([119, 101, 100, 115] : List Int32).getD j 0))).before #[Value.ref b] s = true := by
    intro j hj
    rcases (show j = 0 ∨ j = 1 ∨ j = 2 ∨ j = 3 by omega) with rfl | rfl | rfl | rfl <;> exact hs _ (by decide +kernel)
  obtain ⟨a, c, cA, kA, q1, q2, q3, q4, q5, q6, -⟩ := Cond.exactly_spec (args := #[Value.ref b]) (first := s) (o := none) (s := s) (idx := []) (t := .string RX8 91) (cls := "java/lang/String") hex
  obtain ⟨t, ht, hT⟩ := va_Tof (f := fun j => .int (([119, 101, 100, 115] : List Int32).getD j 0)) (A := fun q => s.heap.size ≤ q) (by decide) har (va_eqt hle) (fun j hj => va_eqt (hel j hj)) hA
  exact ⟨a, t, vk_R.of (hts _ k_sr_X8_91) q1, ⟨cA, q3, q5, by rw [q6]; exact q2, hA a (Array.getElem?_eq_some_iff.mp q3).1⟩, vk_OFof q1 (va_eqt hco) hA, vk_OFof q1 ht hA, hT⟩
theorem lw_s3 {s : State} {b : Nat} (hts : ∀ w ∈ lw_tbl, w.before #[Value.ref b] s = true) (hs : ∀ c ∈ flatC (Jvm.Cond.and given_1 narrow_1), c.before #[Value.ref b] s = true) : ∃ a t, vk_R RX8 96 "child" a s ∧ va_O "java/lang/String" a (fun q => s.heap.size ≤ q) s s.heap ∧ va_OF "java/lang/String" "coder" "B" (.int 0) a (fun q => s.heap.size ≤ q) s s.heap ∧ va_OF "java/lang/String" "value" "[B" (.ref t) a (fun q => s.heap.size ≤ q) s s.heap ∧ va_T .byte t 5 (fun j => .int (([99, 104, 105, 108, 100] : List Int32).getD j 0)) (fun q => s.heap.size ≤ q) s s.heap := by
  have hA : ∀ a : Nat, a < s.heap.size → ¬ (fun q => s.heap.size ≤ q) a := fun a h => Nat.not_le.mpr h
  have hex : (Cond.exactly (.string RX8 96) "java/lang/String").before #[Value.ref b] s = true := hs _ (by decide +kernel)
  have hco : (Cond.eq (.field (.string RX8 96) "java/lang/String" "coder" "B") (.int 0)).before #[Value.ref b] s = true := hs _ (by decide +kernel)
  have har : (Cond.arrayOf (.field (.string RX8 96) "java/lang/String" "value" "[B") .byte).before #[Value.ref b] s = true := hs _ (by decide +kernel)
  have hle : (Cond.eq (.length (.field (.string RX8 96) "java/lang/String" "value" "[B")) (.int (Int32.ofNat 5))).before #[Value.ref b] s = true := hs _ (by decide +kernel)
  have hel : ∀ j : Nat, j < 5 → (Cond.eq (.elem (.field (.string RX8 96) "java/lang/String" "value" "[B") (.int (Int32.ofNat j))) (.int (([99, 104, 105, 108, 100] : List Int32).getD j 0))).before #[Value.ref b] s = true := by
    intro j hj
    rcases (show j = 0 ∨ j = 1 ∨ j = 2 ∨ j = 3 ∨ j = 4 by omega) with rfl | rfl | rfl | rfl | rfl <;> exact hs _ (by decide +kernel)
  obtain ⟨a, c, cA, kA, q1, q2, q3, q4, q5, q6, -⟩ := Cond.exactly_spec (args := #[Value.ref b]) (first := s) (o := none) (s := s) (idx := []) (t := .string RX8 96) (cls := "java/lang/String") hex
  obtain ⟨t, ht, hT⟩ := va_Tof (f := fun j => .int (([99, 104, 105, 108, 100] : List Int32).getD j 0)) (A := fun q => s.heap.size ≤ q) (by decide) har (va_eqt hle) (fun j hj => va_eqt (hel j hj)) hA
  exact ⟨a, t, vk_R.of (hts _ k_sr_X8_96) q1, ⟨cA, q3, q5, by rw [q6]; exact q2, hA a (Array.getElem?_eq_some_iff.mp q3).1⟩, vk_OFof q1 (va_eqt hco) hA, vk_OFof q1 ht hA, hT⟩
theorem lw_s4 {s : State} {b : Nat} (hts : ∀ w ∈ lw_tbl, w.before #[Value.ref b] s = true) (hs : ∀ c ∈ flatC (Jvm.Cond.and given_1 narrow_1), c.before #[Value.ref b] s = true) : ∃ a t, vk_R RX8 140 "bar" a s ∧ va_O "java/lang/String" a (fun q => s.heap.size ≤ q) s s.heap ∧ va_OF "java/lang/String" "coder" "B" (.int 0) a (fun q => s.heap.size ≤ q) s s.heap ∧ va_OF "java/lang/String" "value" "[B" (.ref t) a (fun q => s.heap.size ≤ q) s s.heap ∧ va_T .byte t 3 (fun j => .int (([98, 97, 114] : List Int32).getD j 0)) (fun q => s.heap.size ≤ q) s s.heap := by
  have hA : ∀ a : Nat, a < s.heap.size → ¬ (fun q => s.heap.size ≤ q) a := fun a h => Nat.not_le.mpr h
  have hex : (Cond.exactly (.string RX8 140) "java/lang/String").before #[Value.ref b] s = true := hs _ (by decide +kernel)
  have hco : (Cond.eq (.field (.string RX8 140) "java/lang/String" "coder" "B") (.int 0)).before #[Value.ref b] s = true := hs _ (by decide +kernel)
  have har : (Cond.arrayOf (.field (.string RX8 140) "java/lang/String" "value" "[B") .byte).before #[Value.ref b] s = true := hs _ (by decide +kernel)
  have hle : (Cond.eq (.length (.field (.string RX8 140) "java/lang/String" "value" "[B")) (.int (Int32.ofNat 3))).before #[Value.ref b] s = true := hs _ (by decide +kernel)
  have hel : ∀ j : Nat, j < 3 → (Cond.eq (.elem (.field (.string RX8 140) "java/lang/String" "value" "[B") (.int (Int32.ofNat j))) (.int (([98, 97, 114] : List Int32).getD j 0))).before #[Value.ref b] s = true := by
    intro j hj
    rcases (show j = 0 ∨ j = 1 ∨ j = 2 by omega) with rfl | rfl | rfl <;> exact hs _ (by decide +kernel)
  obtain ⟨a, c, cA, kA, q1, q2, q3, q4, q5, q6, -⟩ := Cond.exactly_spec (args := #[Value.ref b]) (first := s) (o := none) (s := s) (idx := []) (t := .string RX8 140) (cls := "java/lang/String") hex
  obtain ⟨t, ht, hT⟩ := va_Tof (f := fun j => .int (([98, 97, 114] : List Int32).getD j 0)) (A := fun q => s.heap.size ≤ q) (by decide) har (va_eqt hle) (fun j hj => va_eqt (hel j hj)) hA
  exact ⟨a, t, vk_R.of (hts _ k_sr_X8_140) q1, ⟨cA, q3, q5, by rw [q6]; exact q2, hA a (Array.getElem?_eq_some_iff.mp q3).1⟩, vk_OFof q1 (va_eqt hco) hA, vk_OFof q1 ht hA, hT⟩
theorem lw_s5 {s : State} {b : Nat} (hts : ∀ w ∈ lw_tbl, w.before #[Value.ref b] s = true) (hs : ∀ c ∈ flatC (Jvm.Cond.and given_1 narrow_1), c.before #[Value.ref b] s = true) : ∃ a t, vk_R RX8 142 "must" a s ∧ va_O "java/lang/String" a (fun q => s.heap.size ≤ q) s s.heap ∧ va_OF "java/lang/String" "coder" "B" (.int 0) a (fun q => s.heap.size ≤ q) s s.heap ∧ va_OF "java/lang/String" "value" "[B" (.ref t) a (fun q => s.heap.size ≤ q) s s.heap ∧ va_T .byte t 4 (fun j => .int (([109, 117, 115, 116] : List Int32).getD j 0)) (fun q => s.heap.size ≤ q) s s.heap := by
  have hA : ∀ a : Nat, a < s.heap.size → ¬ (fun q => s.heap.size ≤ q) a := fun a h => Nat.not_le.mpr h
  have hex : (Cond.exactly (.string RX8 142) "java/lang/String").before #[Value.ref b] s = true := hs _ (by decide +kernel)
  have hco : (Cond.eq (.field (.string RX8 142) "java/lang/String" "coder" "B") (.int 0)).before #[Value.ref b] s = true := hs _ (by decide +kernel)
  have har : (Cond.arrayOf (.field (.string RX8 142) "java/lang/String" "value" "[B") .byte).before #[Value.ref b] s = true := hs _ (by decide +kernel)
  have hle : (Cond.eq (.length (.field (.string RX8 142) "java/lang/String" "value" "[B")) (.int (Int32.ofNat 4))).before #[Value.ref b] s = true := hs _ (by decide +kernel)
  have hel : ∀ j : Nat, j < 4 → (Cond.eq (.elem (.field (.string RX8 142) "java/lang/String" "value" "[B") (.int (Int32.ofNat j))) (.int (([109, 117, 115, 116] : List Int32).getD j 0))).before #[Value.ref b] s = true := by
    intro j hj
    rcases (show j = 0 ∨ j = 1 ∨ j = 2 ∨ j = 3 by omega) with rfl | rfl | rfl | rfl <;> exact hs _ (by decide +kernel)
  obtain ⟨a, c, cA, kA, q1, q2, q3, q4, q5, q6, -⟩ := Cond.exactly_spec (args := #[Value.ref b]) (first := s) (o := none) (s := s) (idx := []) (t := .string RX8 142) (cls := "java/lang/String") hex
  obtain ⟨t, ht, hT⟩ := va_Tof (f := fun j => .int (([109, 117, 115, 116] : List Int32).getD j 0)) (A := fun q => s.heap.size ≤ q) (by decide) har (va_eqt hle) (fun j hj => va_eqt (hel j hj)) hA
  exact ⟨a, t, vk_R.of (hts _ k_sr_X8_142) q1, ⟨cA, q3, q5, by rw [q6]; exact q2, hA a (Array.getElem?_eq_some_iff.mp q3).1⟩, vk_OFof q1 (va_eqt hco) hA, vk_OFof q1 ht hA, hT⟩
theorem lw_s6 {s : State} {b : Nat} (hts : ∀ w ∈ lw_tbl, w.before #[Value.ref b] s = true) (hs : ∀ c ∈ flatC (Jvm.Cond.and given_1 narrow_1), c.before #[Value.ref b] s = true) : ∃ a t, vk_R RX8 144 "same" a s ∧ va_O "java/lang/String" a (fun q => s.heap.size ≤ q) s s.heap ∧ va_OF "java/lang/String" "coder" "B" (.int 0) a (fun q => s.heap.size ≤ q) s s.heap ∧ va_OF "java/lang/String" "value" "[B" (.ref t) a (fun q => s.heap.size ≤ q) s s.heap ∧ va_T .byte t 4 (fun j => .int (([115, 97, 109, 101] : List Int32).getD j 0)) (fun q => s.heap.size ≤ q) s s.heap := by
  have hA : ∀ a : Nat, a < s.heap.size → ¬ (fun q => s.heap.size ≤ q) a := fun a h => Nat.not_le.mpr h
  have hex : (Cond.exactly (.string RX8 144) "java/lang/String").before #[Value.ref b] s = true := hs _ (by decide +kernel)
  have hco : (Cond.eq (.field (.string RX8 144) "java/lang/String" "coder" "B") (.int 0)).before #[Value.ref b] s = true := hs _ (by decide +kernel)
  have har : (Cond.arrayOf (.field (.string RX8 144) "java/lang/String" "value" "[B") .byte).before #[Value.ref b] s = true := hs _ (by decide +kernel)
  have hle : (Cond.eq (.length (.field (.string RX8 144) "java/lang/String" "value" "[B")) (.int (Int32.ofNat 4))).before #[Value.ref b] s = true := hs _ (by decide +kernel)
  have hel : ∀ j : Nat, j < 4 → (Cond.eq (.elem (.field (.string RX8 144) "java/lang/String" "value" "[B") (.int (Int32.ofNat j))) (.int (([115, 97, 109, 101] : List Int32).getD j 0))).before #[Value.ref b] s = true := by
    intro j hj
    rcases (show j = 0 ∨ j = 1 ∨ j = 2 ∨ j = 3 by omega) with rfl | rfl | rfl | rfl <;> exact hs _ (by decide +kernel)
  obtain ⟨a, c, cA, kA, q1, q2, q3, q4, q5, q6, -⟩ := Cond.exactly_spec (args := #[Value.ref b]) (first := s) (o := none) (s := s) (idx := []) (t := .string RX8 144) (cls := "java/lang/String") hex
  obtain ⟨t, ht, hT⟩ := va_Tof (f := fun j => .int (([115, 97, 109, 101] : List Int32).getD j 0)) (A := fun q => s.heap.size ≤ q) (by decide) har (va_eqt hle) (fun j hj => va_eqt (hel j hj)) hA
  exact ⟨a, t, vk_R.of (hts _ k_sr_X8_144) q1, ⟨cA, q3, q5, by rw [q6]; exact q2, hA a (Array.getElem?_eq_some_iff.mp q3).1⟩, vk_OFof q1 (va_eqt hco) hA, vk_OFof q1 ht hA, hT⟩
theorem lw_s7 {s : State} {b : Nat} (hts : ∀ w ∈ lw_tbl, w.before #[Value.ref b] s = true) (hs : ∀ c ∈ flatC (Jvm.Cond.and given_1 narrow_1), c.before #[Value.ref b] s = true) : ∃ a t, vk_R RX9 141 "fmsdbzhw" a s ∧ va_O "java/lang/String" a (fun q => s.heap.size ≤ q) s s.heap ∧ va_OF "java/lang/String" "coder" "B" (.int 0) a (fun q => s.heap.size ≤ q) s s.heap ∧ va_OF "java/lang/String" "value" "[B" (.ref t) a (fun q => s.heap.size ≤ q) s s.heap ∧ va_T .byte t 8 (fun j => .int (([102, 109, 115, 100, 98, 122, 104, 119] : List Int32).getD j 0)) (fun q => s.heap.size ≤ q) s s.heap := by
  have hA : ∀ a : Nat, a < s.heap.size → ¬ (fun q => s.heap.size ≤ q) a := fun a h => Nat.not_le.mpr h
  have hex : (Cond.exactly (.string RX9 141) "java/lang/String").before #[Value.ref b] s = true := hs _ (by decide +kernel)
  have hco : (Cond.eq (.field (.string RX9 141) "java/lang/String" "coder" "B") (.int 0)).before #[Value.ref b] s = true := hs _ (by decide +kernel)
  have har : (Cond.arrayOf (.field (.string RX9 141) "java/lang/String" "value" "[B") .byte).before #[Value.ref b] s = true := hs _ (by decide +kernel)
  have hle : (Cond.eq (.length (.field (.string RX9 141) "java/lang/String" "value" "[B")) (.int (Int32.ofNat 8))).before #[Value.ref b] s = true := hs _ (by decide +kernel)
  have hel : ∀ j : Nat, j < 8 → (Cond.eq (.elem (.field (.string RX9 141) "java/lang/String" "value" "[B") (.int (Int32.ofNat j))) (.int (([102, 109, 115, 100, 98, 122, 104, 119] : List Int32).getD j 0))).before #[Value.ref b] s = true := by
    intro j hj
    rcases (show j = 0 ∨ j = 1 ∨ j = 2 ∨ j = 3 ∨ j = 4 ∨ j = 5 ∨ j = 6 ∨ j = 7 by omega) with rfl | rfl | rfl | rfl | rfl | rfl | rfl | rfl <;> exact hs _ (by decide +kernel)
  obtain ⟨a, c, cA, kA, q1, q2, q3, q4, q5, q6, -⟩ := Cond.exactly_spec (args := #[Value.ref b]) (first := s) (o := none) (s := s) (idx := []) (t := .string RX9 141) (cls := "java/lang/String") hex
  obtain ⟨t, ht, hT⟩ := va_Tof (f := fun j => .int (([102, 109, 115, 100, 98, 122, 104, 119] : List Int32).getD j 0)) (A := fun q => s.heap.size ≤ q) (by decide) har (va_eqt hle) (fun j hj => va_eqt (hel j hj)) hA
  exact ⟨a, t, vk_R.of (hts _ k_sr_X9_141) q1, ⟨cA, q3, q5, by rw [q6]; exact q2, hA a (Array.getElem?_eq_some_iff.mp q3).1⟩, vk_OFof q1 (va_eqt hco) hA, vk_OFof q1 ht hA, hT⟩
theorem lw_strs {s : State} {b : Nat} (hts : ∀ w ∈ lw_tbl, w.before #[Value.ref b] s = true) (hgv : (Jvm.Cond.and given_1 narrow_1).before #[Value.ref b] s = true) : ∃ G : jGt, G.1 = s.heap.size ∧ jN G s := by
  have hs := flat_of_before _ hgv
  have hA : ∀ a : Nat, a < s.heap.size → ¬ (fun q => s.heap.size ≤ q) a := fun a h => Nat.not_le.mpr h
  obtain ⟨a0, t0, z0⟩ := lw_s0 hts hs
  obtain ⟨a1, t1, z1⟩ := lw_s1 hts hs
  obtain ⟨a2, t2, z2⟩ := lw_s2 hts hs
  obtain ⟨a3, t3, z3⟩ := lw_s3 hts hs
  obtain ⟨a4, t4, z4⟩ := lw_s4 hts hs
  obtain ⟨a5, t5, z5⟩ := lw_s5 hts hs
  obtain ⟨a6, t6, z6⟩ := lw_s6 hts hs
  obtain ⟨a7, t7, z7⟩ := lw_s7 hts hs
  refine ⟨(s.heap.size, (fun k => match k with | 0 => a0 | 1 => a1 | 2 => a2 | 3 => a3 | 4 => a4 | 5 => a5 | 6 => a6 | _ => a7), (fun k => match k with | 0 => t0 | 1 => t1 | 2 => t2 | 3 => t3 | 4 => t4 | 5 => t5 | 6 => t6 | _ => t7)), rfl, lw_nest hts, Nat.le_refl _, fun i q hq => ?_, va_Zof (hts _ k_ls_cs) (hts _ k_ii_cs) (va_eqt (hs (.eq (.static "java/lang/String" "COMPACT_STRINGS" "Z") (.int 1)) (by decide +kernel))) hA, va_Zqof (hts _ k_ls_sf) (hts _ k_ii_sf) (hs _ (by decide +kernel)) hA⟩
  match i, hq with
  | 0, hq => cases hq; exact z0
  | 1, hq => cases hq; exact z1
  | 2, hq => cases hq; exact z2
  | 3, hq => cases hq; exact z3
  | 4, hq => cases hq; exact z4
  | 5, hq => cases hq; exact z5
  | 6, hq => cases hq; exact z6
  | 7, hq => cases hq; exact z7
  | k + 8, hq => exact absurd hq (by simp [jSt])
theorem lw_known {s : State} {b : Nat} (hts : ∀ w ∈ lw_tbl, w.before #[Value.ref b] s = true) : ∃ (D : va_G), ∀ (k : Nat) (q : vw_C), vwCl[k]? = some q → u_Kn s q.1 q.2.1 q.2.2 (D.1 k) (D.2 k) := by
  obtain ⟨c0, i0, u0⟩ := u_known (C := RX0) (T := TX0) (N := 15) (n := 15) hts (fun w hw => wG_sub k_co_X11_feed w (iw_X0 w hw)) (hts _ k_ib_X0)
  obtain ⟨c1, i1, u1⟩ := u_known (C := RX2) (T := TX2) (N := 11) (n := 11) hts (fun w hw => wG_sub k_co_X11_feed w (iw_X2 w hw)) (hts _ k_ib_X2)
  obtain ⟨c2, i2, u2⟩ := u_known (C := RX3) (T := TX3) (N := 4) (n := 4) hts (fun w hw => wG_sub k_co_X11_feed w (iw_X3 w hw)) (hts _ k_ib_X3)
  obtain ⟨c3, i3, u3⟩ := u_known (C := RX4) (T := TX4) (N := 15) (n := 15) hts (fun w hw => wG_sub k_co_X11_feed w (iw_X4 w hw)) (hts _ k_ib_X4)
  obtain ⟨c4, i4, u4⟩ := u_known (C := RX5) (T := TX5) (N := 7) (n := 7) hts (fun w hw => wG_sub k_co_X11_feed w (iw_X5 w hw)) (hts _ k_ib_X5)
  obtain ⟨c5, i5, u5⟩ := u_known (C := RX6) (T := TX6) (N := 6) (n := 6) hts (fun w hw => wG_sub k_co_X11_feed w (iw_X6 w hw)) (hts _ k_ib_X6)
  obtain ⟨c6, i6, u6⟩ := u_known (C := RX7) (T := TX7) (N := 4) (n := 4) hts (fun w hw => wG_sub k_co_X11_feed w (iw_X7 w hw)) (hts _ k_ib_X7)
  obtain ⟨c7, i7, u7⟩ := u_known (C := RX8) (T := TX8) (N := 3) (n := 3) hts (fun w hw => wG_sub k_co_X11_feed w (iw_X8 w hw)) (hts _ k_ib_X8)
  obtain ⟨c8, i8, u8⟩ := u_known (C := RX9) (T := TX9) (N := 16) (n := 16) hts (fun w hw => wG_sub k_co_X11_feed w (iw_X9 w hw)) (hts _ k_ib_X9)
  obtain ⟨c9, i9, u9⟩ := u_known (C := RX10) (T := TX10) (N := 5) (n := 5) hts (fun w hw => wG_sub k_co_X11_feed w (iw_X10 w hw)) (hts _ k_ib_X10)
  obtain ⟨c10, i10, u10⟩ := u_known (C := RX11) (T := TX11) (N := 6) (n := 6) hts (fun w hw => wG_sub k_co_X11_feed w (iw_X11 w hw)) (hts _ k_ib_X11)
  obtain ⟨c11, i11, u11⟩ := u_known (C := RX12) (T := TX12) (N := 74) (n := 74) hts (fun w hw => wG_sub k_co_X11_feed w (iw_X12 w hw)) (hts _ k_ib_X12)
  refine ⟨((fun k => match k with | 0 => c0 | 1 => c1 | 2 => c2 | 3 => c3 | 4 => c4 | 5 => c5 | 6 => c6 | 7 => c7 | 8 => c8 | 9 => c9 | 10 => c10 | _ => c11), (fun k => match k with | 0 => i0 | 1 => i1 | 2 => i2 | 3 => i3 | 4 => i4 | 5 => i5 | 6 => i6 | 7 => i7 | 8 => i8 | 9 => i9 | 10 => i10 | _ => i11)), ?_⟩
  intro k q hq
  match k, hq with
  | 0, hq => cases hq; exact u0
  | 1, hq => cases hq; exact u1
  | 2, hq => cases hq; exact u2
  | 3, hq => cases hq; exact u3
  | 4, hq => cases hq; exact u4
  | 5, hq => cases hq; exact u5
  | 6, hq => cases hq; exact u6
  | 7, hq => cases hq; exact u7
  | 8, hq => cases hq; exact u8
  | 9, hq => cases hq; exact u9
  | 10, hq => cases hq; exact u10
  | 11, hq => cases hq; exact u11
  | k + 12, hq => exact absurd hq (by simp [vwCl])
theorem lw_ctx {s : State} {b : Nat} (hts : ∀ w ∈ lw_tbl, w.before #[Value.ref b] s = true) : ∃ (D : va_G) (cI cB cZ cS cC cJ : ClassId), va_K D vwCl (jTx cI cB cZ cS cC cJ) s ∧ jEE s := by
  obtain ⟨D, hD⟩ := lw_known hts
  obtain ⟨cI, a1⟩ := lw_arr (hts _ k_ac_int) (fun C h => by cases h)
  obtain ⟨cB, a2⟩ := lw_arr (hts _ k_ac_byte) (fun C h => by cases h)
  obtain ⟨cZ, a3⟩ := lw_arr (hts _ k_ac_boolean) (fun C h => by cases h)
  obtain ⟨cS, a4⟩ := lw_arrO (hts _ k_ao_S)
  obtain ⟨cC, a5⟩ := lw_arrO (hts _ k_ao_C)
  have hJ : jAA s := hts _ k_ao_J
  obtain ⟨cJ, a6⟩ := lw_arrJ hJ
  refine ⟨D, cI, cB, cZ, cS, cC, cJ, ⟨hD, fun k q hq => ?_⟩, va_AO.of (hts _ k_ao_S), va_AO.of (hts _ k_ao_C), hJ⟩
  match k, hq with
  | 0, hq => cases hq; exact a1
  | 1, hq => cases hq; exact a2
  | 2, hq => cases hq; exact a3
  | 3, hq => cases hq; exact a4
  | 4, hq => cases hq; exact a5
  | 5, hq => cases hq; exact a6
  | k + 6, hq => exact absurd hq (by simp [jTx])

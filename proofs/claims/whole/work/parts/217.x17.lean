abbrev rX12_letterOf : Room := { frames := 0, cells := 0, slots := 0, locals := 0 }
abbrev gX12_letterOf : List Cond := wG yX12_letterOf cX12_letterOf 1 (some .int)
def f_X12_letterOf (x0 : Int32) : Option (Int32) :=
  if x0 = (98 : Int32) then
  some (4 : Int32)
  else if x0 = (99 : Int32) then
  some (-1 : Int32)
  else if x0 = (100 : Int32) then
  some (3 : Int32)
  else if x0 = (101 : Int32) then
  some (-1 : Int32)
  else if x0 = (102 : Int32) then
  some (0 : Int32)
  else if x0 = (103 : Int32) then
  some (-1 : Int32)
  else if x0 = (104 : Int32) then
  some (6 : Int32)
  else if x0 = (105 : Int32) then
  some (-1 : Int32)
  else if x0 = (106 : Int32) then
  some (-1 : Int32)
  else if x0 = (107 : Int32) then
  some (-1 : Int32)
  else if x0 = (108 : Int32) then
  some (-1 : Int32)
  else if x0 = (109 : Int32) then
  some (1 : Int32)
  else if x0 = (110 : Int32) then
  some (-1 : Int32)
  else if x0 = (111 : Int32) then
  some (-1 : Int32)
  else if x0 = (112 : Int32) then
  some (-1 : Int32)
  else if x0 = (113 : Int32) then
  some (-1 : Int32)
  else if x0 = (114 : Int32) then
  some (-1 : Int32)
  else if x0 = (115 : Int32) then
  some (2 : Int32)
  else if x0 = (116 : Int32) then
  some (-1 : Int32)
  else if x0 = (117 : Int32) then
  some (-1 : Int32)
  else if x0 = (118 : Int32) then
  some (-1 : Int32)
  else if x0 = (119 : Int32) then
  some (7 : Int32)
  else if x0 = (120 : Int32) then
  some (-1 : Int32)
  else if x0 = (121 : Int32) then
  some (-1 : Int32)
  else if x0 = (122 : Int32) then
  some (5 : Int32)
  else some (-1 : Int32)
set_option maxHeartbeats 4000000 in
set_option maxRecDepth 100000 in
theorem t_X12_letterOf {p : Program} {l : Launch} {e : Env} {s : State} {m : MethodId} {args : Array Value} {below : List Frame} {meth : Method} {c : Code} {A : Nat → Prop} {Q : State → Prop} (G : jGt) (D : va_G) (cI cB cZ : ClassId) (x0 : Int32) (C : jCx p s m args c cX12_letterOf 1 gX12_letterOf RX12 G D (jT cI cB cZ) A) {o : Int32} (hf : f_X12_letterOf x0 = some o) (K : ∀ (H : Heap) (locs : List Loc) (pc : Nat) (ls : Array Slot), va_P D vwCl [] H → va_S A s.heap H locs → decode cX12_letterOf pc = .ok (.ireturn, 1) → W p l e rX12_letterOf s m args below meth c H locs 0 0 Q (F0 m pc ls [.int o])) {H : Heap} {locs : List Loc} {ls : Array Slot} (hP : va_P D vwCl [] H) (hD : va_D A []) (hS : va_S A s.heap H locs) (hl : lv_has ls 1 [(0, .int x0)]) : W p l e rX12_letterOf s m args below meth c H locs 0 0 Q (F0 m 0 ls []) := by
  obtain ⟨⟨hx, hb, hml, hown, hts⟩, hK, hN, hA⟩ := C
  have C : jCx p s m args c cX12_letterOf 1 gX12_letterOf RX12 G D (jT cI cB cZ) A := ⟨⟨hx, hb, hml, hown, hts⟩, hK, hN, hA⟩
  unfold f_X12_letterOf at hf
  refine lv_iload_n hx hb dX12_letterOf_0 rfl (lv_at hl 0 rfl) ?_
  by_cases c1 : x0 = (98 : Int32)
  · replace hf := jif_t c1 hf
    refine lv_tableIn (tgt := 124) hx hb dX12_letterOf_1 (by rw [c1]; decide) (by rw [c1]; decide) (by rw [c1]; rfl) (by decide) ?_
    refine lv_iconst (v := (4 : Int32)) hx hb dX12_letterOf_124 (by decide) ?_
    have ho := Option.some.inj hf
    subst ho
    exact K _ _ _ _ hP hS dX12_letterOf_125
  replace hf := jif_f c1 hf
  by_cases c2 : x0 = (99 : Int32)
  · replace hf := jif_t c2 hf
    refine lv_tableIn (tgt := 134) hx hb dX12_letterOf_1 (by rw [c2]; decide) (by rw [c2]; decide) (by rw [c2]; rfl) (by decide) ?_
    refine lv_iconst (v := (-1 : Int32)) hx hb dX12_letterOf_134 (by decide) ?_
    have ho := Option.some.inj hf
    subst ho
    exact K _ _ _ _ hP hS dX12_letterOf_135
  replace hf := jif_f c2 hf
  by_cases c3 : x0 = (100 : Int32)
  · replace hf := jif_t c3 hf
    refine lv_tableIn (tgt := 122) hx hb dX12_letterOf_1 (by rw [c3]; decide) (by rw [c3]; decide) (by rw [c3]; rfl) (by decide) ?_
    refine lv_iconst (v := (3 : Int32)) hx hb dX12_letterOf_122 (by decide) ?_
    have ho := Option.some.inj hf
    subst ho
    exact K _ _ _ _ hP hS dX12_letterOf_123
  replace hf := jif_f c3 hf
  by_cases c4 : x0 = (101 : Int32)
  · replace hf := jif_t c4 hf
    refine lv_tableIn (tgt := 134) hx hb dX12_letterOf_1 (by rw [c4]; decide) (by rw [c4]; decide) (by rw [c4]; rfl) (by decide) ?_
    refine lv_iconst (v := (-1 : Int32)) hx hb dX12_letterOf_134 (by decide) ?_
    have ho := Option.some.inj hf
    subst ho
    exact K _ _ _ _ hP hS dX12_letterOf_135
  replace hf := jif_f c4 hf
  by_cases c5 : x0 = (102 : Int32)
  · replace hf := jif_t c5 hf
    refine lv_tableIn (tgt := 116) hx hb dX12_letterOf_1 (by rw [c5]; decide) (by rw [c5]; decide) (by rw [c5]; rfl) (by decide) ?_
    refine lv_iconst (v := (0 : Int32)) hx hb dX12_letterOf_116 (by decide) ?_
    have ho := Option.some.inj hf
    subst ho
    exact K _ _ _ _ hP hS dX12_letterOf_117
  replace hf := jif_f c5 hf
  by_cases c6 : x0 = (103 : Int32)
  · replace hf := jif_t c6 hf
    refine lv_tableIn (tgt := 134) hx hb dX12_letterOf_1 (by rw [c6]; decide) (by rw [c6]; decide) (by rw [c6]; rfl) (by decide) ?_
    refine lv_iconst (v := (-1 : Int32)) hx hb dX12_letterOf_134 (by decide) ?_
    have ho := Option.some.inj hf
    subst ho
    exact K _ _ _ _ hP hS dX12_letterOf_135
  replace hf := jif_f c6 hf
  by_cases c7 : x0 = (104 : Int32)
  · replace hf := jif_t c7 hf
    refine lv_tableIn (tgt := 128) hx hb dX12_letterOf_1 (by rw [c7]; decide) (by rw [c7]; decide) (by rw [c7]; rfl) (by decide) ?_
    refine lv_bipush (v := (6 : Int32)) hx hb dX12_letterOf_128 (by decide) ?_
    have ho := Option.some.inj hf
    subst ho
    exact K _ _ _ _ hP hS dX12_letterOf_130
  replace hf := jif_f c7 hf
  by_cases c8 : x0 = (105 : Int32)
  · replace hf := jif_t c8 hf
    refine lv_tableIn (tgt := 134) hx hb dX12_letterOf_1 (by rw [c8]; decide) (by rw [c8]; decide) (by rw [c8]; rfl) (by decide) ?_
    refine lv_iconst (v := (-1 : Int32)) hx hb dX12_letterOf_134 (by decide) ?_
    have ho := Option.some.inj hf
    subst ho
    exact K _ _ _ _ hP hS dX12_letterOf_135
  replace hf := jif_f c8 hf
  by_cases c9 : x0 = (106 : Int32)
  · replace hf := jif_t c9 hf
    refine lv_tableIn (tgt := 134) hx hb dX12_letterOf_1 (by rw [c9]; decide) (by rw [c9]; decide) (by rw [c9]; rfl) (by decide) ?_
    refine lv_iconst (v := (-1 : Int32)) hx hb dX12_letterOf_134 (by decide) ?_
    have ho := Option.some.inj hf
    subst ho
    exact K _ _ _ _ hP hS dX12_letterOf_135
  replace hf := jif_f c9 hf
  by_cases c10 : x0 = (107 : Int32)
  · replace hf := jif_t c10 hf
    refine lv_tableIn (tgt := 134) hx hb dX12_letterOf_1 (by rw [c10]; decide) (by rw [c10]; decide) (by rw [c10]; rfl) (by decide) ?_
    refine lv_iconst (v := (-1 : Int32)) hx hb dX12_letterOf_134 (by decide) ?_
    have ho := Option.some.inj hf
    subst ho
    exact K _ _ _ _ hP hS dX12_letterOf_135
  replace hf := jif_f c10 hf
  by_cases c11 : x0 = (108 : Int32)
  · replace hf := jif_t c11 hf
    refine lv_tableIn (tgt := 134) hx hb dX12_letterOf_1 (by rw [c11]; decide) (by rw [c11]; decide) (by rw [c11]; rfl) (by decide) ?_
    refine lv_iconst (v := (-1 : Int32)) hx hb dX12_letterOf_134 (by decide) ?_
    have ho := Option.some.inj hf
    subst ho
    exact K _ _ _ _ hP hS dX12_letterOf_135
  replace hf := jif_f c11 hf
  by_cases c12 : x0 = (109 : Int32)
  · replace hf := jif_t c12 hf
    refine lv_tableIn (tgt := 118) hx hb dX12_letterOf_1 (by rw [c12]; decide) (by rw [c12]; decide) (by rw [c12]; rfl) (by decide) ?_
    refine lv_iconst (v := (1 : Int32)) hx hb dX12_letterOf_118 (by decide) ?_
    have ho := Option.some.inj hf
    subst ho
    exact K _ _ _ _ hP hS dX12_letterOf_119
  replace hf := jif_f c12 hf
  by_cases c13 : x0 = (110 : Int32)
  · replace hf := jif_t c13 hf
    refine lv_tableIn (tgt := 134) hx hb dX12_letterOf_1 (by rw [c13]; decide) (by rw [c13]; decide) (by rw [c13]; rfl) (by decide) ?_
    refine lv_iconst (v := (-1 : Int32)) hx hb dX12_letterOf_134 (by decide) ?_
    have ho := Option.some.inj hf
    subst ho
    exact K _ _ _ _ hP hS dX12_letterOf_135
  replace hf := jif_f c13 hf
  by_cases c14 : x0 = (111 : Int32)
  · replace hf := jif_t c14 hf
    refine lv_tableIn (tgt := 134) hx hb dX12_letterOf_1 (by rw [c14]; decide) (by rw [c14]; decide) (by rw [c14]; rfl) (by decide) ?_
    refine lv_iconst (v := (-1 : Int32)) hx hb dX12_letterOf_134 (by decide) ?_
    have ho := Option.some.inj hf
    subst ho
    exact K _ _ _ _ hP hS dX12_letterOf_135
  replace hf := jif_f c14 hf
  by_cases c15 : x0 = (112 : Int32)
  · replace hf := jif_t c15 hf
    refine lv_tableIn (tgt := 134) hx hb dX12_letterOf_1 (by rw [c15]; decide) (by rw [c15]; decide) (by rw [c15]; rfl) (by decide) ?_
    refine lv_iconst (v := (-1 : Int32)) hx hb dX12_letterOf_134 (by decide) ?_
    have ho := Option.some.inj hf
    subst ho
    exact K _ _ _ _ hP hS dX12_letterOf_135
  replace hf := jif_f c15 hf
  by_cases c16 : x0 = (113 : Int32)
  · replace hf := jif_t c16 hf
    refine lv_tableIn (tgt := 134) hx hb dX12_letterOf_1 (by rw [c16]; decide) (by rw [c16]; decide) (by rw [c16]; rfl) (by decide) ?_
    refine lv_iconst (v := (-1 : Int32)) hx hb dX12_letterOf_134 (by decide) ?_
    have ho := Option.some.inj hf
    subst ho
    exact K _ _ _ _ hP hS dX12_letterOf_135
  replace hf := jif_f c16 hf
  by_cases c17 : x0 = (114 : Int32)
  · replace hf := jif_t c17 hf
    refine lv_tableIn (tgt := 134) hx hb dX12_letterOf_1 (by rw [c17]; decide) (by rw [c17]; decide) (by rw [c17]; rfl) (by decide) ?_
    refine lv_iconst (v := (-1 : Int32)) hx hb dX12_letterOf_134 (by decide) ?_
    have ho := Option.some.inj hf
    subst ho
    exact K _ _ _ _ hP hS dX12_letterOf_135
  replace hf := jif_f c17 hf
  by_cases c18 : x0 = (115 : Int32)
  · replace hf := jif_t c18 hf
    refine lv_tableIn (tgt := 120) hx hb dX12_letterOf_1 (by rw [c18]; decide) (by rw [c18]; decide) (by rw [c18]; rfl) (by decide) ?_
    refine lv_iconst (v := (2 : Int32)) hx hb dX12_letterOf_120 (by decide) ?_
    have ho := Option.some.inj hf
    subst ho
    exact K _ _ _ _ hP hS dX12_letterOf_121
  replace hf := jif_f c18 hf
  by_cases c19 : x0 = (116 : Int32)
  · replace hf := jif_t c19 hf
    refine lv_tableIn (tgt := 134) hx hb dX12_letterOf_1 (by rw [c19]; decide) (by rw [c19]; decide) (by rw [c19]; rfl) (by decide) ?_
    refine lv_iconst (v := (-1 : Int32)) hx hb dX12_letterOf_134 (by decide) ?_
    have ho := Option.some.inj hf
    subst ho
    exact K _ _ _ _ hP hS dX12_letterOf_135
  replace hf := jif_f c19 hf
  by_cases c20 : x0 = (117 : Int32)
  · replace hf := jif_t c20 hf
    refine lv_tableIn (tgt := 134) hx hb dX12_letterOf_1 (by rw [c20]; decide) (by rw [c20]; decide) (by rw [c20]; rfl) (by decide) ?_
    refine lv_iconst (v := (-1 : Int32)) hx hb dX12_letterOf_134 (by decide) ?_
    have ho := Option.some.inj hf
    subst ho
    exact K _ _ _ _ hP hS dX12_letterOf_135
  replace hf := jif_f c20 hf
  by_cases c21 : x0 = (118 : Int32)
  · replace hf := jif_t c21 hf
    refine lv_tableIn (tgt := 134) hx hb dX12_letterOf_1 (by rw [c21]; decide) (by rw [c21]; decide) (by rw [c21]; rfl) (by decide) ?_
    refine lv_iconst (v := (-1 : Int32)) hx hb dX12_letterOf_134 (by decide) ?_
    have ho := Option.some.inj hf
    subst ho
    exact K _ _ _ _ hP hS dX12_letterOf_135
  replace hf := jif_f c21 hf
  by_cases c22 : x0 = (119 : Int32)
  · replace hf := jif_t c22 hf
    refine lv_tableIn (tgt := 131) hx hb dX12_letterOf_1 (by rw [c22]; decide) (by rw [c22]; decide) (by rw [c22]; rfl) (by decide) ?_
    refine lv_bipush (v := (7 : Int32)) hx hb dX12_letterOf_131 (by decide) ?_
    have ho := Option.some.inj hf
    subst ho
    exact K _ _ _ _ hP hS dX12_letterOf_133
  replace hf := jif_f c22 hf
  by_cases c23 : x0 = (120 : Int32)
  · replace hf := jif_t c23 hf
    refine lv_tableIn (tgt := 134) hx hb dX12_letterOf_1 (by rw [c23]; decide) (by rw [c23]; decide) (by rw [c23]; rfl) (by decide) ?_
    refine lv_iconst (v := (-1 : Int32)) hx hb dX12_letterOf_134 (by decide) ?_
    have ho := Option.some.inj hf
    subst ho
    exact K _ _ _ _ hP hS dX12_letterOf_135
  replace hf := jif_f c23 hf
  by_cases c24 : x0 = (121 : Int32)
  · replace hf := jif_t c24 hf
    refine lv_tableIn (tgt := 134) hx hb dX12_letterOf_1 (by rw [c24]; decide) (by rw [c24]; decide) (by rw [c24]; rfl) (by decide) ?_
    refine lv_iconst (v := (-1 : Int32)) hx hb dX12_letterOf_134 (by decide) ?_
    have ho := Option.some.inj hf
    subst ho
    exact K _ _ _ _ hP hS dX12_letterOf_135
  replace hf := jif_f c24 hf
  by_cases c25 : x0 = (122 : Int32)
  · replace hf := jif_t c25 hf
    refine lv_tableIn (tgt := 126) hx hb dX12_letterOf_1 (by rw [c25]; decide) (by rw [c25]; decide) (by rw [c25]; rfl) (by decide) ?_
    refine lv_iconst (v := (5 : Int32)) hx hb dX12_letterOf_126 (by decide) ?_
    have ho := Option.some.inj hf
    subst ho
    exact K _ _ _ _ hP hS dX12_letterOf_127
  replace hf := jif_f c25 hf
  refine lv_tableOut (tgt := 134) hx hb dX12_letterOf_1 (jtab_out (lo := 98) (n := 25) (fun k hk => match k, hk with | 0, _ => c1 | 1, _ => c2 | 2, _ => c3 | 3, _ => c4 | 4, _ => c5 | 5, _ => c6 | 6, _ => c7 | 7, _ => c8 | 8, _ => c9 | 9, _ => c10 | 10, _ => c11 | 11, _ => c12 | 12, _ => c13 | 13, _ => c14 | 14, _ => c15 | 15, _ => c16 | 16, _ => c17 | 17, _ => c18 | 18, _ => c19 | 19, _ => c20 | 20, _ => c21 | 21, _ => c22 | 22, _ => c23 | 23, _ => c24 | 24, _ => c25 | (k + 25), h => absurd h (by omega))) (by decide) ?_
  refine lv_iconst (v := (-1 : Int32)) hx hb dX12_letterOf_134 (by decide) ?_
  have ho := Option.some.inj hf
  subst ho
  exact K _ _ _ _ hP hS dX12_letterOf_135
set_option maxHeartbeats 4000000 in
set_option maxRecDepth 100000 in
theorem c_X12_letterOf (l : Launch) (G : jGt) (D : va_G) (cI cB cZ : ClassId) (x0 : Int32) {o : Int32} (hf : f_X12_letterOf x0 = some o) : jMi l yX12_letterOf gX12_letterOf rX12_letterOf G D (jT cI cB cZ) [.int x0] [] [] o := by
  refine jmk_i RX12 rfl (by decide +kernel) rfl (Nat.le_of_ble_eq_true rfl) rfl ?_
  intro p e s m args below meth c ls A Q C hP hD hS hl K
  exact t_X12_letterOf G D cI cB cZ x0 C hf K hP hD hS hl
abbrev rX12_keeps : Room := { frames := 3, cells := 0, slots := 0, locals := 73 }
abbrev gX12_keeps : List Cond := wG yX12_keeps cX12_keeps 9 (some .boolean)
def w_X12_keeps (cI cB cZ : ClassId) (a_t : Nat) (aX : Nat → Nat) (u_t_code u_t_ahead u_t_length u_t_begins u_t_sort u_t_value u_t_letters : Int32) (u_t_word : Int64) (u_t_wrongAt u_t_laterFault u_t_laterPlace u_t_newClasses u_t_newLines u_t_turns u_t_shortest u_t_orders u_t_rowNumber u_t_ties s_t_n : Int32) (r_t_child r_t_childBack r_t_lineKind r_t_lineLong r_t_lineWord r_t_weds r_t_wedsBack : jA) : va_W := [(a_t, .inr (11, (oX12 aX u_t_code s_t_n u_t_ahead u_t_length u_t_begins u_t_sort u_t_value u_t_letters u_t_word u_t_wrongAt u_t_laterFault u_t_laterPlace u_t_newClasses u_t_newLines u_t_turns u_t_shortest u_t_orders u_t_rowNumber u_t_ties))), ((aX 33), .inl (cI, r_t_child.1, .inl r_t_child.2)), ((aX 35), .inl (cI, r_t_childBack.1, .inl r_t_childBack.2)), ((aX 9), .inl (cI, r_t_lineKind.1, .inl r_t_lineKind.2)), ((aX 11), .inl (cI, r_t_lineLong.1, .inl r_t_lineLong.2)), ((aX 10), .inl (cB, r_t_lineWord.1, .inl r_t_lineWord.2)), ((aX 32), .inl (cI, r_t_weds.1, .inl r_t_weds.2)), ((aX 34), .inl (cI, r_t_wedsBack.1, .inl r_t_wedsBack.2))]
def f_X12_keeps_j159 (x1 x2 x3 x4 x6 k0 : Int32) : Option ((Int32 × Int32) ⊕ ((Int32))) :=
  some (Sum.inl (k0, (x6 + 1)))
set_option maxHeartbeats 4000000 in
set_option maxRecDepth 100000 in
theorem t_X12_keeps_j159 {p : Program} {l : Launch} {e : Env} {s : State} {m : MethodId} {args : Array Value} {below : List Frame} {meth : Method} {c : Code} {A : Nat → Prop} {Q : State → Prop} (G : jGt) (D : va_G) (cI cB cZ : ClassId) (a_t : Nat) (aX : Nat → Nat) (u_t_code u_t_ahead u_t_length u_t_begins u_t_sort u_t_value u_t_letters : Int32) (u_t_word : Int64) (u_t_wrongAt u_t_laterFault u_t_laterPlace u_t_newClasses u_t_newLines u_t_turns u_t_shortest u_t_orders u_t_rowNumber u_t_ties s_t_n : Int32) (r_t_child r_t_childBack r_t_lineKind r_t_lineLong r_t_lineWord r_t_weds r_t_wedsBack : jA) (x1 x2 x3 x4 x6 k0 : Int32) (C : jCx p s m args c cX12_keeps 9 gX12_keeps RX12 G D (jT cI cB cZ) A) {o : (Int32 × Int32) ⊕ ((Int32))} (hf : f_X12_keeps_j159 x1 x2 x3 x4 x6 k0 = some o) (K : (∀ z, o = Sum.inl z → ∀ (H : Heap) (locs : List Loc) (ls : Array Slot), va_P D vwCl (w_X12_keeps cI cB cZ a_t aX u_t_code u_t_ahead u_t_length u_t_begins u_t_sort u_t_value u_t_letters u_t_word u_t_wrongAt u_t_laterFault u_t_laterPlace u_t_newClasses u_t_newLines u_t_turns u_t_shortest u_t_orders u_t_rowNumber u_t_ties s_t_n r_t_child r_t_childBack r_t_lineKind r_t_lineLong r_t_lineWord r_t_weds r_t_wedsBack) H → va_D A (w_X12_keeps cI cB cZ a_t aX u_t_code u_t_ahead u_t_length u_t_begins u_t_sort u_t_value u_t_letters u_t_word u_t_wrongAt u_t_laterFault u_t_laterPlace u_t_newClasses u_t_newLines u_t_turns u_t_shortest u_t_orders u_t_rowNumber u_t_ties s_t_n r_t_child r_t_childBack r_t_lineKind r_t_lineLong r_t_lineWord r_t_weds r_t_wedsBack) → va_S A s.heap H locs → lv_has ls 9 [(0, .ref a_t), (1, .int x1), (2, .int x2), (3, .int x3), (4, .int x4), (5, .int z.1), (6, .int z.2)] → W p l e rX12_keeps s m args below meth c H locs 0 0 Q (F0 m 32 ls [])) ∧ (∀ z, o = Sum.inr z → ∀ (H : Heap) (locs : List Loc) (ls : Array Slot), va_P D vwCl (w_X12_keeps cI cB cZ a_t aX u_t_code u_t_ahead u_t_length u_t_begins u_t_sort u_t_value u_t_letters u_t_word u_t_wrongAt u_t_laterFault u_t_laterPlace u_t_newClasses u_t_newLines u_t_turns u_t_shortest u_t_orders u_t_rowNumber u_t_ties s_t_n r_t_child r_t_childBack r_t_lineKind r_t_lineLong r_t_lineWord r_t_weds r_t_wedsBack) H → va_D A (w_X12_keeps cI cB cZ a_t aX u_t_code u_t_ahead u_t_length u_t_begins u_t_sort u_t_value u_t_letters u_t_word u_t_wrongAt u_t_laterFault u_t_laterPlace u_t_newClasses u_t_newLines u_t_turns u_t_shortest u_t_orders u_t_rowNumber u_t_ties s_t_n r_t_child r_t_childBack r_t_lineKind r_t_lineLong r_t_lineWord r_t_weds r_t_wedsBack) → va_S A s.heap H locs → lv_has ls 9 [(5, .int z)] → W p l e rX12_keeps s m args below meth c H locs 0 0 Q (F0 m 167 ls []))) {H : Heap} {locs : List Loc} {ls : Array Slot} (hP : va_P D vwCl (w_X12_keeps cI cB cZ a_t aX u_t_code u_t_ahead u_t_length u_t_begins u_t_sort u_t_value u_t_letters u_t_word u_t_wrongAt u_t_laterFault u_t_laterPlace u_t_newClasses u_t_newLines u_t_turns u_t_shortest u_t_orders u_t_rowNumber u_t_ties s_t_n r_t_child r_t_childBack r_t_lineKind r_t_lineLong r_t_lineWord r_t_weds r_t_wedsBack) H) (hD : va_D A (w_X12_keeps cI cB cZ a_t aX u_t_code u_t_ahead u_t_length u_t_begins u_t_sort u_t_value u_t_letters u_t_word u_t_wrongAt u_t_laterFault u_t_laterPlace u_t_newClasses u_t_newLines u_t_turns u_t_shortest u_t_orders u_t_rowNumber u_t_ties s_t_n r_t_child r_t_childBack r_t_lineKind r_t_lineLong r_t_lineWord r_t_weds r_t_wedsBack)) (hS : va_S A s.heap H locs) (hl : lv_has ls 9 [(0, .ref a_t), (1, .int x1), (2, .int x2), (3, .int x3), (4, .int x4), (6, .int x6)]) : W p l e rX12_keeps s m args below meth c H locs 0 0 Q (F0 m 159 ls [.int k0]) := by
  obtain ⟨⟨hx, hb, hml, hown, hts⟩, hK, hN, hA⟩ := C
  have C : jCx p s m args c cX12_keeps 9 gX12_keeps RX12 G D (jT cI cB cZ) A := ⟨⟨hx, hb, hml, hown, hts⟩, hK, hN, hA⟩
  unfold f_X12_keeps_j159 at hf
  refine lv_istore (lv' := [(5, .int k0), (0, .ref a_t), (1, .int x1), (2, .int x2), (3, .int x3), (4, .int x4), (6, .int x6)]) hx hb dX12_keeps_159 hl (by decide) rfl (fun ls hl => ?_)
  refine lv_iinc (v := (x6 + 1)) (lv' := [(6, .int (x6 + 1)), (5, .int k0), (0, .ref a_t), (1, .int x1), (2, .int x2), (3, .int x3), (4, .int x4)]) hx hb dX12_keeps_161 hl (k := 6) rfl (by first | rfl | decide) (by decide) rfl (fun ls hl => ?_)
  refine lv_goto (tgt := 32) hx hb dX12_keeps_164 (by decide) ?_
  have ho := Option.some.inj hf
  exact K.1 _ ho.symm _ _ _ hP hD hS (lv_sub hl [2, 3, 4, 5, 6, 1, 0] rfl)
def f_X12_keeps_j158 (x1 x2 x3 x4 x6 : Int32) : Option ((Int32 × Int32) ⊕ ((Int32))) :=
  f_X12_keeps_j159 x1 x2 x3 x4 x6 (0 : Int32)
set_option maxHeartbeats 4000000 in
set_option maxRecDepth 100000 in
theorem t_X12_keeps_j158 {p : Program} {l : Launch} {e : Env} {s : State} {m : MethodId} {args : Array Value} {below : List Frame} {meth : Method} {c : Code} {A : Nat → Prop} {Q : State → Prop} (G : jGt) (D : va_G) (cI cB cZ : ClassId) (a_t : Nat) (aX : Nat → Nat) (u_t_code u_t_ahead u_t_length u_t_begins u_t_sort u_t_value u_t_letters : Int32) (u_t_word : Int64) (u_t_wrongAt u_t_laterFault u_t_laterPlace u_t_newClasses u_t_newLines u_t_turns u_t_shortest u_t_orders u_t_rowNumber u_t_ties s_t_n : Int32) (r_t_child r_t_childBack r_t_lineKind r_t_lineLong r_t_lineWord r_t_weds r_t_wedsBack : jA) (x1 x2 x3 x4 x6 : Int32) (C : jCx p s m args c cX12_keeps 9 gX12_keeps RX12 G D (jT cI cB cZ) A) {o : (Int32 × Int32) ⊕ ((Int32))} (hf : f_X12_keeps_j158 x1 x2 x3 x4 x6 = some o) (K : (∀ z, o = Sum.inl z → ∀ (H : Heap) (locs : List Loc) (ls : Array Slot), va_P D vwCl (w_X12_keeps cI cB cZ a_t aX u_t_code u_t_ahead u_t_length u_t_begins u_t_sort u_t_value u_t_letters u_t_word u_t_wrongAt u_t_laterFault u_t_laterPlace u_t_newClasses u_t_newLines u_t_turns u_t_shortest u_t_orders u_t_rowNumber u_t_ties s_t_n r_t_child r_t_childBack r_t_lineKind r_t_lineLong r_t_lineWord r_t_weds r_t_wedsBack) H → va_D A (w_X12_keeps cI cB cZ a_t aX u_t_code u_t_ahead u_t_length u_t_begins u_t_sort u_t_value u_t_letters u_t_word u_t_wrongAt u_t_laterFault u_t_laterPlace u_t_newClasses u_t_newLines u_t_turns u_t_shortest u_t_orders u_t_rowNumber u_t_ties s_t_n r_t_child r_t_childBack r_t_lineKind r_t_lineLong r_t_lineWord r_t_weds r_t_wedsBack) → va_S A s.heap H locs → lv_has ls 9 [(0, .ref a_t), (1, .int x1), (2, .int x2), (3, .int x3), (4, .int x4), (5, .int z.1), (6, .int z.2)] → W p l e rX12_keeps s m args below meth c H locs 0 0 Q (F0 m 32 ls [])) ∧ (∀ z, o = Sum.inr z → ∀ (H : Heap) (locs : List Loc) (ls : Array Slot), va_P D vwCl (w_X12_keeps cI cB cZ a_t aX u_t_code u_t_ahead u_t_length u_t_begins u_t_sort u_t_value u_t_letters u_t_word u_t_wrongAt u_t_laterFault u_t_laterPlace u_t_newClasses u_t_newLines u_t_turns u_t_shortest u_t_orders u_t_rowNumber u_t_ties s_t_n r_t_child r_t_childBack r_t_lineKind r_t_lineLong r_t_lineWord r_t_weds r_t_wedsBack) H → va_D A (w_X12_keeps cI cB cZ a_t aX u_t_code u_t_ahead u_t_length u_t_begins u_t_sort u_t_value u_t_letters u_t_word u_t_wrongAt u_t_laterFault u_t_laterPlace u_t_newClasses u_t_newLines u_t_turns u_t_shortest u_t_orders u_t_rowNumber u_t_ties s_t_n r_t_child r_t_childBack r_t_lineKind r_t_lineLong r_t_lineWord r_t_weds r_t_wedsBack) → va_S A s.heap H locs → lv_has ls 9 [(5, .int z)] → W p l e rX12_keeps s m args below meth c H locs 0 0 Q (F0 m 167 ls []))) {H : Heap} {locs : List Loc} {ls : Array Slot} (hP : va_P D vwCl (w_X12_keeps cI cB cZ a_t aX u_t_code u_t_ahead u_t_length u_t_begins u_t_sort u_t_value u_t_letters u_t_word u_t_wrongAt u_t_laterFault u_t_laterPlace u_t_newClasses u_t_newLines u_t_turns u_t_shortest u_t_orders u_t_rowNumber u_t_ties s_t_n r_t_child r_t_childBack r_t_lineKind r_t_lineLong r_t_lineWord r_t_weds r_t_wedsBack) H) (hD : va_D A (w_X12_keeps cI cB cZ a_t aX u_t_code u_t_ahead u_t_length u_t_begins u_t_sort u_t_value u_t_letters u_t_word u_t_wrongAt u_t_laterFault u_t_laterPlace u_t_newClasses u_t_newLines u_t_turns u_t_shortest u_t_orders u_t_rowNumber u_t_ties s_t_n r_t_child r_t_childBack r_t_lineKind r_t_lineLong r_t_lineWord r_t_weds r_t_wedsBack)) (hS : va_S A s.heap H locs) (hl : lv_has ls 9 [(0, .ref a_t), (1, .int x1), (2, .int x2), (3, .int x3), (4, .int x4), (6, .int x6)]) : W p l e rX12_keeps s m args below meth c H locs 0 0 Q (F0 m 158 ls []) := by
  obtain ⟨⟨hx, hb, hml, hown, hts⟩, hK, hN, hA⟩ := C
  have C : jCx p s m args c cX12_keeps 9 gX12_keeps RX12 G D (jT cI cB cZ) A := ⟨⟨hx, hb, hml, hown, hts⟩, hK, hN, hA⟩
  unfold f_X12_keeps_j158 at hf
  refine lv_iconst (v := (0 : Int32)) hx hb dX12_keeps_158 (by decide) ?_
  exact t_X12_keeps_j159 G D cI cB cZ a_t aX u_t_code u_t_ahead u_t_length u_t_begins u_t_sort u_t_value u_t_letters u_t_word u_t_wrongAt u_t_laterFault u_t_laterPlace u_t_newClasses u_t_newLines u_t_turns u_t_shortest u_t_orders u_t_rowNumber u_t_ties s_t_n r_t_child r_t_childBack r_t_lineKind r_t_lineLong r_t_lineWord r_t_weds r_t_wedsBack x1 x2 x3 x4 x6 (0 : Int32) C hf K hP hD hS (lv_sub hl [0, 1, 2, 3, 4, 5] rfl)
def f_X12_keeps_j142 (x1 x2 x3 x4 x5 x6 k0 : Int32) : Option ((Int32 × Int32) ⊕ ((Int32))) :=
  if x5 = 0 then
  f_X12_keeps_j158 x1 x2 x3 x4 x6
  else
  if k0 = 0 then
  f_X12_keeps_j158 x1 x2 x3 x4 x6
  else
  f_X12_keeps_j159 x1 x2 x3 x4 x6 (1 : Int32)
set_option maxHeartbeats 4000000 in
set_option maxRecDepth 100000 in
theorem t_X12_keeps_j142 {p : Program} {l : Launch} {e : Env} {s : State} {m : MethodId} {args : Array Value} {below : List Frame} {meth : Method} {c : Code} {A : Nat → Prop} {Q : State → Prop} (G : jGt) (D : va_G) (cI cB cZ : ClassId) (a_t : Nat) (aX : Nat → Nat) (u_t_code u_t_ahead u_t_length u_t_begins u_t_sort u_t_value u_t_letters : Int32) (u_t_word : Int64) (u_t_wrongAt u_t_laterFault u_t_laterPlace u_t_newClasses u_t_newLines u_t_turns u_t_shortest u_t_orders u_t_rowNumber u_t_ties s_t_n : Int32) (r_t_child r_t_childBack r_t_lineKind r_t_lineLong r_t_lineWord r_t_weds r_t_wedsBack : jA) (x1 x2 x3 x4 x5 x6 k0 : Int32) (C : jCx p s m args c cX12_keeps 9 gX12_keeps RX12 G D (jT cI cB cZ) A) {o : (Int32 × Int32) ⊕ ((Int32))} (hf : f_X12_keeps_j142 x1 x2 x3 x4 x5 x6 k0 = some o) (K : (∀ z, o = Sum.inl z → ∀ (H : Heap) (locs : List Loc) (ls : Array Slot), va_P D vwCl (w_X12_keeps cI cB cZ a_t aX u_t_code u_t_ahead u_t_length u_t_begins u_t_sort u_t_value u_t_letters u_t_word u_t_wrongAt u_t_laterFault u_t_laterPlace u_t_newClasses u_t_newLines u_t_turns u_t_shortest u_t_orders u_t_rowNumber u_t_ties s_t_n r_t_child r_t_childBack r_t_lineKind r_t_lineLong r_t_lineWord r_t_weds r_t_wedsBack) H → va_D A (w_X12_keeps cI cB cZ a_t aX u_t_code u_t_ahead u_t_length u_t_begins u_t_sort u_t_value u_t_letters u_t_word u_t_wrongAt u_t_laterFault u_t_laterPlace u_t_newClasses u_t_newLines u_t_turns u_t_shortest u_t_orders u_t_rowNumber u_t_ties s_t_n r_t_child r_t_childBack r_t_lineKind r_t_lineLong r_t_lineWord r_t_weds r_t_wedsBack) → va_S A s.heap H locs → lv_has ls 9 [(0, .ref a_t), (1, .int x1), (2, .int x2), (3, .int x3), (4, .int x4), (5, .int z.1), (6, .int z.2)] → W p l e rX12_keeps s m args below meth c H locs 0 0 Q (F0 m 32 ls [])) ∧ (∀ z, o = Sum.inr z → ∀ (H : Heap) (locs : List Loc) (ls : Array Slot), va_P D vwCl (w_X12_keeps cI cB cZ a_t aX u_t_code u_t_ahead u_t_length u_t_begins u_t_sort u_t_value u_t_letters u_t_word u_t_wrongAt u_t_laterFault u_t_laterPlace u_t_newClasses u_t_newLines u_t_turns u_t_shortest u_t_orders u_t_rowNumber u_t_ties s_t_n r_t_child r_t_childBack r_t_lineKind r_t_lineLong r_t_lineWord r_t_weds r_t_wedsBack) H → va_D A (w_X12_keeps cI cB cZ a_t aX u_t_code u_t_ahead u_t_length u_t_begins u_t_sort u_t_value u_t_letters u_t_word u_t_wrongAt u_t_laterFault u_t_laterPlace u_t_newClasses u_t_newLines u_t_turns u_t_shortest u_t_orders u_t_rowNumber u_t_ties s_t_n r_t_child r_t_childBack r_t_lineKind r_t_lineLong r_t_lineWord r_t_weds r_t_wedsBack) → va_S A s.heap H locs → lv_has ls 9 [(5, .int z)] → W p l e rX12_keeps s m args below meth c H locs 0 0 Q (F0 m 167 ls []))) {H : Heap} {locs : List Loc} {ls : Array Slot} (hP : va_P D vwCl (w_X12_keeps cI cB cZ a_t aX u_t_code u_t_ahead u_t_length u_t_begins u_t_sort u_t_value u_t_letters u_t_word u_t_wrongAt u_t_laterFault u_t_laterPlace u_t_newClasses u_t_newLines u_t_turns u_t_shortest u_t_orders u_t_rowNumber u_t_ties s_t_n r_t_child r_t_childBack r_t_lineKind r_t_lineLong r_t_lineWord r_t_weds r_t_wedsBack) H) (hD : va_D A (w_X12_keeps cI cB cZ a_t aX u_t_code u_t_ahead u_t_length u_t_begins u_t_sort u_t_value u_t_letters u_t_word u_t_wrongAt u_t_laterFault u_t_laterPlace u_t_newClasses u_t_newLines u_t_turns u_t_shortest u_t_orders u_t_rowNumber u_t_ties s_t_n r_t_child r_t_childBack r_t_lineKind r_t_lineLong r_t_lineWord r_t_weds r_t_wedsBack)) (hS : va_S A s.heap H locs) (hl : lv_has ls 9 [(0, .ref a_t), (1, .int x1), (2, .int x2), (3, .int x3), (4, .int x4), (5, .int x5), (6, .int x6)]) : W p l e rX12_keeps s m args below meth c H locs 0 0 Q (F0 m 142 ls [.int k0]) := by
  obtain ⟨⟨hx, hb, hml, hown, hts⟩, hK, hN, hA⟩ := C
  have C : jCx p s m args c cX12_keeps 9 gX12_keeps RX12 G D (jT cI cB cZ) A := ⟨⟨hx, hb, hml, hown, hts⟩, hK, hN, hA⟩
  unfold f_X12_keeps_j142 at hf
  refine lv_istore (lv' := [(8, .int k0), (0, .ref a_t), (1, .int x1), (2, .int x2), (3, .int x3), (4, .int x4), (5, .int x5), (6, .int x6)]) hx hb dX12_keeps_142 hl (by decide) rfl (fun ls hl => ?_)
  refine lv_iload hx hb dX12_keeps_144 (lv_at hl 6 rfl) ?_
  refine lv_if_eq (tgt := 158) hx hb dX12_keeps_146 (by decide) (fun c12 => ?_) (fun c12 => ?_)
  · replace hf := jif_t c12 hf
    exact t_X12_keeps_j158 G D cI cB cZ a_t aX u_t_code u_t_ahead u_t_length u_t_begins u_t_sort u_t_value u_t_letters u_t_word u_t_wrongAt u_t_laterFault u_t_laterPlace u_t_newClasses u_t_newLines u_t_turns u_t_shortest u_t_orders u_t_rowNumber u_t_ties s_t_n r_t_child r_t_childBack r_t_lineKind r_t_lineLong r_t_lineWord r_t_weds r_t_wedsBack x1 x2 x3 x4 x6 C hf K hP hD hS (lv_sub hl [1, 2, 3, 4, 5, 7] rfl)
  · replace hf := jif_f c12 hf
    refine lv_iload hx hb dX12_keeps_149 (lv_at hl 0 rfl) ?_
    refine lv_if_eq (tgt := 158) hx hb dX12_keeps_151 (by decide) (fun c13 => ?_) (fun c13 => ?_)
    · replace hf := jif_t c13 hf
      exact t_X12_keeps_j158 G D cI cB cZ a_t aX u_t_code u_t_ahead u_t_length u_t_begins u_t_sort u_t_value u_t_letters u_t_word u_t_wrongAt u_t_laterFault u_t_laterPlace u_t_newClasses u_t_newLines u_t_turns u_t_shortest u_t_orders u_t_rowNumber u_t_ties s_t_n r_t_child r_t_childBack r_t_lineKind r_t_lineLong r_t_lineWord r_t_weds r_t_wedsBack x1 x2 x3 x4 x6 C hf K hP hD hS (lv_sub hl [1, 2, 3, 4, 5, 7] rfl)
    · replace hf := jif_f c13 hf
      refine lv_iconst (v := (1 : Int32)) hx hb dX12_keeps_154 (by decide) ?_
      refine lv_goto (tgt := 159) hx hb dX12_keeps_155 (by decide) ?_
      exact t_X12_keeps_j159 G D cI cB cZ a_t aX u_t_code u_t_ahead u_t_length u_t_begins u_t_sort u_t_value u_t_letters u_t_word u_t_wrongAt u_t_laterFault u_t_laterPlace u_t_newClasses u_t_newLines u_t_turns u_t_shortest u_t_orders u_t_rowNumber u_t_ties s_t_n r_t_child r_t_childBack r_t_lineKind r_t_lineLong r_t_lineWord r_t_weds r_t_wedsBack x1 x2 x3 x4 x6 (1 : Int32) C hf K hP hD hS (lv_sub hl [1, 2, 3, 4, 5, 7] rfl)
def f_X12_keeps_b32 (s_t_n : Int32) (r_t_child r_t_childBack r_t_lineKind r_t_lineWord r_t_weds r_t_wedsBack : jA) (x1 x2 x3 x4 x5 x6 : Int32) : Option ((Int32 × Int32) ⊕ ((Int32))) :=
  if s_t_n ≤ x6 then
  some (Sum.inr x5)
  else
  jM (f_X12_walk r_t_lineWord r_t_child r_t_childBack r_t_weds r_t_wedsBack x2 x3 (1 : Int32) x6) fun r5 =>
  jL r_t_lineKind x1 fun v6 =>
  if v6 = 0 then
  jL r_t_weds x6 fun v16 =>
  if r5 = v16 then
  f_X12_keeps_j142 x1 x2 x3 x4 x5 x6 (0 : Int32)
  else
  f_X12_keeps_j142 x1 x2 x3 x4 x5 x6 (1 : Int32)
  else
  jL r_t_lineKind x1 fun v8 =>
  if v8 = (1 : Int32) then
  jL r_t_weds x6 fun v14 =>
  if r5 = v14 then
  f_X12_keeps_j142 x1 x2 x3 x4 x5 x6 (1 : Int32)
  else
  f_X12_keeps_j142 x1 x2 x3 x4 x5 x6 (0 : Int32)
  else
  jM (f_X12_walk r_t_lineWord r_t_child r_t_childBack r_t_weds r_t_wedsBack (x2 + (8 : Int32)) x4 (1 : Int32) x6) fun r10 =>
  if r5 = r10 then
  f_X12_keeps_j142 x1 x2 x3 x4 x5 x6 (1 : Int32)
  else
  f_X12_keeps_j142 x1 x2 x3 x4 x5 x6 (0 : Int32)
set_option maxHeartbeats 4000000 in
set_option maxRecDepth 100000 in
theorem t_X12_keeps_b32 {p : Program} {l : Launch} {e : Env} {s : State} {m : MethodId} {args : Array Value} {below : List Frame} {meth : Method} {c : Code} {A : Nat → Prop} {Q : State → Prop} (G : jGt) (D : va_G) (cI cB cZ : ClassId) (a_t : Nat) (aX : Nat → Nat) (u_t_code u_t_ahead u_t_length u_t_begins u_t_sort u_t_value u_t_letters : Int32) (u_t_word : Int64) (u_t_wrongAt u_t_laterFault u_t_laterPlace u_t_newClasses u_t_newLines u_t_turns u_t_shortest u_t_orders u_t_rowNumber u_t_ties s_t_n : Int32) (r_t_child r_t_childBack r_t_lineKind r_t_lineLong r_t_lineWord r_t_weds r_t_wedsBack : jA) (x1 x2 x3 x4 x5 x6 : Int32) (C : jCx p s m args c cX12_keeps 9 gX12_keeps RX12 G D (jT cI cB cZ) A) {o : (Int32 × Int32) ⊕ ((Int32))} (hf : f_X12_keeps_b32 s_t_n r_t_child r_t_childBack r_t_lineKind r_t_lineWord r_t_weds r_t_wedsBack x1 x2 x3 x4 x5 x6 = some o) (K : (∀ z, o = Sum.inl z → ∀ (H : Heap) (locs : List Loc) (ls : Array Slot), va_P D vwCl (w_X12_keeps cI cB cZ a_t aX u_t_code u_t_ahead u_t_length u_t_begins u_t_sort u_t_value u_t_letters u_t_word u_t_wrongAt u_t_laterFault u_t_laterPlace u_t_newClasses u_t_newLines u_t_turns u_t_shortest u_t_orders u_t_rowNumber u_t_ties s_t_n r_t_child r_t_childBack r_t_lineKind r_t_lineLong r_t_lineWord r_t_weds r_t_wedsBack) H → va_D A (w_X12_keeps cI cB cZ a_t aX u_t_code u_t_ahead u_t_length u_t_begins u_t_sort u_t_value u_t_letters u_t_word u_t_wrongAt u_t_laterFault u_t_laterPlace u_t_newClasses u_t_newLines u_t_turns u_t_shortest u_t_orders u_t_rowNumber u_t_ties s_t_n r_t_child r_t_childBack r_t_lineKind r_t_lineLong r_t_lineWord r_t_weds r_t_wedsBack) → va_S A s.heap H locs → lv_has ls 9 [(0, .ref a_t), (1, .int x1), (2, .int x2), (3, .int x3), (4, .int x4), (5, .int z.1), (6, .int z.2)] → W p l e rX12_keeps s m args below meth c H locs 0 0 Q (F0 m 32 ls [])) ∧ (∀ z, o = Sum.inr z → ∀ (H : Heap) (locs : List Loc) (ls : Array Slot), va_P D vwCl (w_X12_keeps cI cB cZ a_t aX u_t_code u_t_ahead u_t_length u_t_begins u_t_sort u_t_value u_t_letters u_t_word u_t_wrongAt u_t_laterFault u_t_laterPlace u_t_newClasses u_t_newLines u_t_turns u_t_shortest u_t_orders u_t_rowNumber u_t_ties s_t_n r_t_child r_t_childBack r_t_lineKind r_t_lineLong r_t_lineWord r_t_weds r_t_wedsBack) H → va_D A (w_X12_keeps cI cB cZ a_t aX u_t_code u_t_ahead u_t_length u_t_begins u_t_sort u_t_value u_t_letters u_t_word u_t_wrongAt u_t_laterFault u_t_laterPlace u_t_newClasses u_t_newLines u_t_turns u_t_shortest u_t_orders u_t_rowNumber u_t_ties s_t_n r_t_child r_t_childBack r_t_lineKind r_t_lineLong r_t_lineWord r_t_weds r_t_wedsBack) → va_S A s.heap H locs → lv_has ls 9 [(5, .int z)] → W p l e rX12_keeps s m args below meth c H locs 0 0 Q (F0 m 167 ls []))) {H : Heap} {locs : List Loc} {ls : Array Slot} (hP : va_P D vwCl (w_X12_keeps cI cB cZ a_t aX u_t_code u_t_ahead u_t_length u_t_begins u_t_sort u_t_value u_t_letters u_t_word u_t_wrongAt u_t_laterFault u_t_laterPlace u_t_newClasses u_t_newLines u_t_turns u_t_shortest u_t_orders u_t_rowNumber u_t_ties s_t_n r_t_child r_t_childBack r_t_lineKind r_t_lineLong r_t_lineWord r_t_weds r_t_wedsBack) H) (hD : va_D A (w_X12_keeps cI cB cZ a_t aX u_t_code u_t_ahead u_t_length u_t_begins u_t_sort u_t_value u_t_letters u_t_word u_t_wrongAt u_t_laterFault u_t_laterPlace u_t_newClasses u_t_newLines u_t_turns u_t_shortest u_t_orders u_t_rowNumber u_t_ties s_t_n r_t_child r_t_childBack r_t_lineKind r_t_lineLong r_t_lineWord r_t_weds r_t_wedsBack)) (hS : va_S A s.heap H locs) (hl : lv_has ls 9 [(0, .ref a_t), (1, .int x1), (2, .int x2), (3, .int x3), (4, .int x4), (5, .int x5), (6, .int x6)]) : W p l e rX12_keeps s m args below meth c H locs 0 0 Q (F0 m 32 ls []) := by
  obtain ⟨⟨hx, hb, hml, hown, hts⟩, hK, hN, hA⟩ := C
  have C : jCx p s m args c cX12_keeps 9 gX12_keeps RX12 G D (jT cI cB cZ) A := ⟨⟨hx, hb, hml, hown, hts⟩, hK, hN, hA⟩
  unfold f_X12_keeps_b32 at hf
  refine lv_iload hx hb dX12_keeps_32 (lv_at hl 6 rfl) ?_
  refine lv_aload_n hx hb dX12_keeps_34 rfl (lv_at hl 0 rfl) ?_
  refine va_get (D := D) (ci := 11) (v := .int s_t_n) (C := RX12) (T := TX12) (N := 74) hx hb hts iw_X12 hown hK hP 0 rfl rfl 31 (by decide) (hts _ (wG_in k_fl_X12_189 rfl)) (fun _ h9 => h9) rfl dX12_keeps_35 ?_
  refine lv_icmp_ge (tgt := 167) hx hb dX12_keeps_38 (by decide) (fun c4 => ?_) (fun c4 => ?_)
  · replace hf := jif_t c4 hf
    have ho := Option.some.inj hf
    exact (K.2 _ ho.symm) _ _ _ hP hD hS (lv_sub hl [5] rfl)
  · replace hf := jif_f c4 hf
    refine lv_aload_n hx hb dX12_keeps_41 rfl (lv_at hl 0 rfl) ?_
    refine lv_aload_n hx hb dX12_keeps_42 rfl (lv_at hl 0 rfl) ?_
    refine va_get (D := D) (ci := 11) (v := .ref (aX 10)) (C := RX12) (T := TX12) (N := 74) hx hb hts iw_X12 hown hK hP 0 rfl rfl 10 (by decide) (hts _ (wG_in k_fl_X12_38 rfl)) (fun _ h9 => h9) rfl dX12_keeps_43 ?_
    refine lv_iload_n hx hb dX12_keeps_46 rfl (lv_at hl 2 rfl) ?_
    refine lv_iload_n hx hb dX12_keeps_47 rfl (lv_at hl 3 rfl) ?_
    refine lv_iconst (v := (1 : Int32)) hx hb dX12_keeps_48 (by decide) ?_
    refine lv_iload hx hb dX12_keeps_49 (lv_at hl 6 rfl) ?_
    obtain ⟨r5, hgr5, hf⟩ := jM_some hf
    refine jcV_i0 (As := [.ref (aX 10), .int x2, .int x3, .int (1 : Int32), .int x6]) (rest := []) ⟨hx, hb, hml, hown, hts⟩ hK hN hA (c_X12_walk l G D cI cB cZ (aX 10) a_t aX u_t_code s_t_n u_t_ahead u_t_length u_t_begins u_t_sort u_t_value u_t_letters u_t_word u_t_wrongAt u_t_laterFault u_t_laterPlace u_t_newClasses u_t_newLines u_t_turns u_t_shortest u_t_orders u_t_rowNumber u_t_ties r_t_lineWord r_t_child r_t_childBack r_t_weds r_t_wedsBack x2 x3 (1 : Int32) x6 hgr5) (cwV 5 hts (wG_V k_ml_X12_211 k_im_X12_walk k_se_X12_walk k_in_X12 k_co_X12_walk) rfl rfl rfl hd_X12_walk ⟨Nat.le_of_ble_eq_true rfl, Nat.le_of_ble_eq_true rfl⟩) hP hD hS [5, 0, 1, 2, 6, 7] rfl rfl rfl (ci := 11) rfl 0 rfl rfl rfl hl.1 rfl (Nat.le_of_ble_eq_true rfl) dX12_keeps_51 ⟨Nat.le_of_ble_eq_true rfl, Nat.le_of_ble_eq_true rfl⟩ (fun H locs hP hD hS => ?_)
    refine lv_istore (lv' := [(7, .int r5), (0, .ref a_t), (1, .int x1), (2, .int x2), (3, .int x3), (4, .int x4), (5, .int x5), (6, .int x6)]) hx hb dX12_keeps_54 hl (by decide) rfl (fun ls hl => ?_)
    refine lv_aload_n hx hb dX12_keeps_56 rfl (lv_at hl 1 rfl) ?_
    refine va_get (D := D) (ci := 11) (v := .ref (aX 9)) (C := RX12) (T := TX12) (N := 74) hx hb hts iw_X12 hown hK hP 0 rfl rfl 9 (by decide) (hts _ (wG_in k_fl_X12_35 rfl)) (fun _ h9 => h9) rfl dX12_keeps_57 ?_
    refine lv_iload_n hx hb dX12_keeps_60 rfl (lv_at hl 2 rfl) ?_
    obtain ⟨v6, hv6, iv6, hf⟩ := jL_some hf
    refine ja_iald (P := r_t_lineKind) hx hb hK hP 3 0 rfl rfl hv6 iv6 dX12_keeps_61 ?_
    refine lv_if_ne (tgt := 85) hx hb dX12_keeps_62 (by decide) (fun c7 => ?_) (fun c7 => ?_)
    · replace hf := jif_f c7 hf
      refine lv_aload_n hx hb dX12_keeps_85 rfl (lv_at hl 1 rfl) ?_
      refine va_get (D := D) (ci := 11) (v := .ref (aX 9)) (C := RX12) (T := TX12) (N := 74) hx hb hts iw_X12 hown hK hP 0 rfl rfl 9 (by decide) (hts _ (wG_in k_fl_X12_35 rfl)) (fun _ h9 => h9) rfl dX12_keeps_86 ?_
      refine lv_iload_n hx hb dX12_keeps_89 rfl (lv_at hl 2 rfl) ?_
      obtain ⟨v8, hv8, iv8, hf⟩ := jL_some hf
      refine ja_iald (P := r_t_lineKind) hx hb hK hP 3 0 rfl rfl hv8 iv8 dX12_keeps_90 ?_
      refine lv_iconst (v := (1 : Int32)) hx hb dX12_keeps_91 (by decide) ?_
      refine lv_icmp_ne (tgt := 115) hx hb dX12_keeps_92 (by decide) (fun c9 => ?_) (fun c9 => ?_)
      · replace hf := jif_f c9 hf
        refine lv_iload hx hb dX12_keeps_115 (lv_at hl 0 rfl) ?_
        refine lv_aload_n hx hb dX12_keeps_117 rfl (lv_at hl 1 rfl) ?_
        refine lv_aload_n hx hb dX12_keeps_118 rfl (lv_at hl 1 rfl) ?_
        refine va_get (D := D) (ci := 11) (v := .ref (aX 10)) (C := RX12) (T := TX12) (N := 74) hx hb hts iw_X12 hown hK hP 0 rfl rfl 10 (by decide) (hts _ (wG_in k_fl_X12_38 rfl)) (fun _ h9 => h9) rfl dX12_keeps_119 ?_
        refine lv_iload_n hx hb dX12_keeps_122 rfl (lv_at hl 3 rfl) ?_
        refine lv_bipush (v := (8 : Int32)) hx hb dX12_keeps_123 (by decide) ?_
        refine lv_iadd hx hb dX12_keeps_125 ?_
        refine lv_iload hx hb dX12_keeps_126 (lv_at hl 5 rfl) ?_
        refine lv_iconst (v := (1 : Int32)) hx hb dX12_keeps_128 (by decide) ?_
        refine lv_iload hx hb dX12_keeps_129 (lv_at hl 7 rfl) ?_
        obtain ⟨r10, hgr10, hf⟩ := jM_some hf
        refine jcV_i0 (As := [.ref (aX 10), .int (x2 + (8 : Int32)), .int x4, .int (1 : Int32), .int x6]) (rest := [.int r5]) ⟨hx, hb, hml, hown, hts⟩ hK hN hA (c_X12_walk l G D cI cB cZ (aX 10) a_t aX u_t_code s_t_n u_t_ahead u_t_length u_t_begins u_t_sort u_t_value u_t_letters u_t_word u_t_wrongAt u_t_laterFault u_t_laterPlace u_t_newClasses u_t_newLines u_t_turns u_t_shortest u_t_orders u_t_rowNumber u_t_ties r_t_lineWord r_t_child r_t_childBack r_t_weds r_t_wedsBack (x2 + (8 : Int32)) x4 (1 : Int32) x6 hgr10) (cwV 5 hts (wG_V k_ml_X12_211 k_im_X12_walk k_se_X12_walk k_in_X12 k_co_X12_walk) rfl rfl rfl hd_X12_walk ⟨Nat.le_of_ble_eq_true rfl, Nat.le_of_ble_eq_true rfl⟩) hP hD hS [5, 0, 1, 2, 6, 7] rfl rfl rfl (ci := 11) rfl 0 rfl rfl rfl hl.1 rfl (Nat.le_of_ble_eq_true rfl) dX12_keeps_131 ⟨Nat.le_of_ble_eq_true rfl, Nat.le_of_ble_eq_true rfl⟩ (fun H locs hP hD hS => ?_)
        refine lv_icmp_ne (tgt := 141) hx hb dX12_keeps_134 (by decide) (fun c11 => ?_) (fun c11 => ?_)
        · replace hf := jif_f c11 hf
          refine lv_iconst (v := (0 : Int32)) hx hb dX12_keeps_141 (by decide) ?_
          exact t_X12_keeps_j142 G D cI cB cZ a_t aX u_t_code u_t_ahead u_t_length u_t_begins u_t_sort u_t_value u_t_letters u_t_word u_t_wrongAt u_t_laterFault u_t_laterPlace u_t_newClasses u_t_newLines u_t_turns u_t_shortest u_t_orders u_t_rowNumber u_t_ties s_t_n r_t_child r_t_childBack r_t_lineKind r_t_lineLong r_t_lineWord r_t_weds r_t_wedsBack x1 x2 x3 x4 x5 x6 (0 : Int32) C hf K hP hD hS (lv_sub hl [1, 2, 3, 4, 5, 6, 7] rfl)
        · replace hf := jif_t c11 hf
          refine lv_iconst (v := (1 : Int32)) hx hb dX12_keeps_137 (by decide) ?_
          refine lv_goto (tgt := 142) hx hb dX12_keeps_138 (by decide) ?_
          exact t_X12_keeps_j142 G D cI cB cZ a_t aX u_t_code u_t_ahead u_t_length u_t_begins u_t_sort u_t_value u_t_letters u_t_word u_t_wrongAt u_t_laterFault u_t_laterPlace u_t_newClasses u_t_newLines u_t_turns u_t_shortest u_t_orders u_t_rowNumber u_t_ties s_t_n r_t_child r_t_childBack r_t_lineKind r_t_lineLong r_t_lineWord r_t_weds r_t_wedsBack x1 x2 x3 x4 x5 x6 (1 : Int32) C hf K hP hD hS (lv_sub hl [1, 2, 3, 4, 5, 6, 7] rfl)
      · replace hf := jif_t c9 hf
        refine lv_iload hx hb dX12_keeps_95 (lv_at hl 0 rfl) ?_
        refine lv_aload_n hx hb dX12_keeps_97 rfl (lv_at hl 1 rfl) ?_
        refine va_get (D := D) (ci := 11) (v := .ref (aX 32)) (C := RX12) (T := TX12) (N := 74) hx hb hts iw_X12 hown hK hP 0 rfl rfl 32 (by decide) (hts _ (wG_in k_fl_X12_101 rfl)) (fun _ h9 => h9) rfl dX12_keeps_98 ?_
        refine lv_iload hx hb dX12_keeps_101 (lv_at hl 7 rfl) ?_
        obtain ⟨v14, hv14, iv14, hf⟩ := jL_some hf
        refine ja_iald (P := r_t_weds) hx hb hK hP 6 0 rfl rfl hv14 iv14 dX12_keeps_103 ?_
        refine lv_icmp_ne (tgt := 111) hx hb dX12_keeps_104 (by decide) (fun c15 => ?_) (fun c15 => ?_)
        · replace hf := jif_f c15 hf
          refine lv_iconst (v := (0 : Int32)) hx hb dX12_keeps_111 (by decide) ?_
          refine lv_goto (tgt := 142) hx hb dX12_keeps_112 (by decide) ?_
          exact t_X12_keeps_j142 G D cI cB cZ a_t aX u_t_code u_t_ahead u_t_length u_t_begins u_t_sort u_t_value u_t_letters u_t_word u_t_wrongAt u_t_laterFault u_t_laterPlace u_t_newClasses u_t_newLines u_t_turns u_t_shortest u_t_orders u_t_rowNumber u_t_ties s_t_n r_t_child r_t_childBack r_t_lineKind r_t_lineLong r_t_lineWord r_t_weds r_t_wedsBack x1 x2 x3 x4 x5 x6 (0 : Int32) C hf K hP hD hS (lv_sub hl [1, 2, 3, 4, 5, 6, 7] rfl)
        · replace hf := jif_t c15 hf
          refine lv_iconst (v := (1 : Int32)) hx hb dX12_keeps_107 (by decide) ?_
          refine lv_goto (tgt := 142) hx hb dX12_keeps_108 (by decide) ?_
          exact t_X12_keeps_j142 G D cI cB cZ a_t aX u_t_code u_t_ahead u_t_length u_t_begins u_t_sort u_t_value u_t_letters u_t_word u_t_wrongAt u_t_laterFault u_t_laterPlace u_t_newClasses u_t_newLines u_t_turns u_t_shortest u_t_orders u_t_rowNumber u_t_ties s_t_n r_t_child r_t_childBack r_t_lineKind r_t_lineLong r_t_lineWord r_t_weds r_t_wedsBack x1 x2 x3 x4 x5 x6 (1 : Int32) C hf K hP hD hS (lv_sub hl [1, 2, 3, 4, 5, 6, 7] rfl)
    · replace hf := jif_t c7 hf
      refine lv_iload hx hb dX12_keeps_65 (lv_at hl 0 rfl) ?_
      refine lv_aload_n hx hb dX12_keeps_67 rfl (lv_at hl 1 rfl) ?_
      refine va_get (D := D) (ci := 11) (v := .ref (aX 32)) (C := RX12) (T := TX12) (N := 74) hx hb hts iw_X12 hown hK hP 0 rfl rfl 32 (by decide) (hts _ (wG_in k_fl_X12_101 rfl)) (fun _ h9 => h9) rfl dX12_keeps_68 ?_
      refine lv_iload hx hb dX12_keeps_71 (lv_at hl 7 rfl) ?_
      obtain ⟨v16, hv16, iv16, hf⟩ := jL_some hf
      refine ja_iald (P := r_t_weds) hx hb hK hP 6 0 rfl rfl hv16 iv16 dX12_keeps_73 ?_
      refine lv_icmp_eq (tgt := 81) hx hb dX12_keeps_74 (by decide) (fun c17 => ?_) (fun c17 => ?_)
      · replace hf := jif_t c17 hf
        refine lv_iconst (v := (0 : Int32)) hx hb dX12_keeps_81 (by decide) ?_
        refine lv_goto (tgt := 142) hx hb dX12_keeps_82 (by decide) ?_
        exact t_X12_keeps_j142 G D cI cB cZ a_t aX u_t_code u_t_ahead u_t_length u_t_begins u_t_sort u_t_value u_t_letters u_t_word u_t_wrongAt u_t_laterFault u_t_laterPlace u_t_newClasses u_t_newLines u_t_turns u_t_shortest u_t_orders u_t_rowNumber u_t_ties s_t_n r_t_child r_t_childBack r_t_lineKind r_t_lineLong r_t_lineWord r_t_weds r_t_wedsBack x1 x2 x3 x4 x5 x6 (0 : Int32) C hf K hP hD hS (lv_sub hl [1, 2, 3, 4, 5, 6, 7] rfl)
      · replace hf := jif_f c17 hf
        refine lv_iconst (v := (1 : Int32)) hx hb dX12_keeps_77 (by decide) ?_
        refine lv_goto (tgt := 142) hx hb dX12_keeps_78 (by decide) ?_
        exact t_X12_keeps_j142 G D cI cB cZ a_t aX u_t_code u_t_ahead u_t_length u_t_begins u_t_sort u_t_value u_t_letters u_t_word u_t_wrongAt u_t_laterFault u_t_laterPlace u_t_newClasses u_t_newLines u_t_turns u_t_shortest u_t_orders u_t_rowNumber u_t_ties s_t_n r_t_child r_t_childBack r_t_lineKind r_t_lineLong r_t_lineWord r_t_weds r_t_wedsBack x1 x2 x3 x4 x5 x6 (1 : Int32) C hf K hP hD hS (lv_sub hl [1, 2, 3, 4, 5, 6, 7] rfl)
def f_X12_keeps_l32 (s_t_n : Int32) (r_t_child r_t_childBack r_t_lineKind r_t_lineWord r_t_weds r_t_wedsBack : jA) (x1 x2 x3 x4 x5 x6 : Int32) : Option ((Int32)) :=
  jI (fun z => f_X12_keeps_b32 s_t_n r_t_child r_t_childBack r_t_lineKind r_t_lineWord r_t_weds r_t_wedsBack x1 x2 x3 x4 z.1 z.2) jF (x5, x6)
set_option maxHeartbeats 4000000 in
set_option maxRecDepth 100000 in
theorem t_X12_keeps_l32 {p : Program} {l : Launch} {e : Env} {s : State} {m : MethodId} {args : Array Value} {below : List Frame} {meth : Method} {c : Code} {A : Nat → Prop} {Q : State → Prop} (G : jGt) (D : va_G) (cI cB cZ : ClassId) (a_t : Nat) (aX : Nat → Nat) (u_t_code u_t_ahead u_t_length u_t_begins u_t_sort u_t_value u_t_letters : Int32) (u_t_word : Int64) (u_t_wrongAt u_t_laterFault u_t_laterPlace u_t_newClasses u_t_newLines u_t_turns u_t_shortest u_t_orders u_t_rowNumber u_t_ties s_t_n : Int32) (r_t_child r_t_childBack r_t_lineKind r_t_lineLong r_t_lineWord r_t_weds r_t_wedsBack : jA) (x1 x2 x3 x4 : Int32) (C : jCx p s m args c cX12_keeps 9 gX12_keeps RX12 G D (jT cI cB cZ) A) : ∀ (n : Nat) (x5 x6 : Int32) {eo : (Int32)}, jI (fun z => f_X12_keeps_b32 s_t_n r_t_child r_t_childBack r_t_lineKind r_t_lineWord r_t_weds r_t_wedsBack x1 x2 x3 x4 z.1 z.2) n (x5, x6) = some eo → (∀ (H : Heap) (locs : List Loc) (ls : Array Slot), va_P D vwCl (w_X12_keeps cI cB cZ a_t aX u_t_code u_t_ahead u_t_length u_t_begins u_t_sort u_t_value u_t_letters u_t_word u_t_wrongAt u_t_laterFault u_t_laterPlace u_t_newClasses u_t_newLines u_t_turns u_t_shortest u_t_orders u_t_rowNumber u_t_ties s_t_n r_t_child r_t_childBack r_t_lineKind r_t_lineLong r_t_lineWord r_t_weds r_t_wedsBack) H → va_D A (w_X12_keeps cI cB cZ a_t aX u_t_code u_t_ahead u_t_length u_t_begins u_t_sort u_t_value u_t_letters u_t_word u_t_wrongAt u_t_laterFault u_t_laterPlace u_t_newClasses u_t_newLines u_t_turns u_t_shortest u_t_orders u_t_rowNumber u_t_ties s_t_n r_t_child r_t_childBack r_t_lineKind r_t_lineLong r_t_lineWord r_t_weds r_t_wedsBack) → va_S A s.heap H locs → lv_has ls 9 [(5, .int eo)] → W p l e rX12_keeps s m args below meth c H locs 0 0 Q (F0 m 167 ls [])) → ∀ (H : Heap) (locs : List Loc) (ls : Array Slot), va_P D vwCl (w_X12_keeps cI cB cZ a_t aX u_t_code u_t_ahead u_t_length u_t_begins u_t_sort u_t_value u_t_letters u_t_word u_t_wrongAt u_t_laterFault u_t_laterPlace u_t_newClasses u_t_newLines u_t_turns u_t_shortest u_t_orders u_t_rowNumber u_t_ties s_t_n r_t_child r_t_childBack r_t_lineKind r_t_lineLong r_t_lineWord r_t_weds r_t_wedsBack) H → va_D A (w_X12_keeps cI cB cZ a_t aX u_t_code u_t_ahead u_t_length u_t_begins u_t_sort u_t_value u_t_letters u_t_word u_t_wrongAt u_t_laterFault u_t_laterPlace u_t_newClasses u_t_newLines u_t_turns u_t_shortest u_t_orders u_t_rowNumber u_t_ties s_t_n r_t_child r_t_childBack r_t_lineKind r_t_lineLong r_t_lineWord r_t_weds r_t_wedsBack) → va_S A s.heap H locs → lv_has ls 9 [(0, .ref a_t), (1, .int x1), (2, .int x2), (3, .int x3), (4, .int x4), (5, .int x5), (6, .int x6)] → W p l e rX12_keeps s m args below meth c H locs 0 0 Q (F0 m 32 ls []) := by
  intro n
  induction n with
  | zero =>
    intro x5 x6 eo hf
    exact (jI_zero hf).elim
  | succ n ih =>
    intro x5 x6 eo hf K H locs ls hP hD hS hl
    obtain ⟨o, hb1, ho⟩ := jI_some hf
    rcases ho with ⟨z, rfl, hf2⟩ | rfl
    · exact t_X12_keeps_b32 G D cI cB cZ a_t aX u_t_code u_t_ahead u_t_length u_t_begins u_t_sort u_t_value u_t_letters u_t_word u_t_wrongAt u_t_laterFault u_t_laterPlace u_t_newClasses u_t_newLines u_t_turns u_t_shortest u_t_orders u_t_rowNumber u_t_ties s_t_n r_t_child r_t_childBack r_t_lineKind r_t_lineLong r_t_lineWord r_t_weds r_t_wedsBack x1 x2 x3 x4 x5 x6 C hb1 ⟨fun z2 hz H locs ls hP hD hS hl => by cases hz; exact ih z.1 z.2 hf2 K H locs ls hP hD hS hl, fun z2 hz => by cases hz⟩ hP hD hS hl
    · exact t_X12_keeps_b32 G D cI cB cZ a_t aX u_t_code u_t_ahead u_t_length u_t_begins u_t_sort u_t_value u_t_letters u_t_word u_t_wrongAt u_t_laterFault u_t_laterPlace u_t_newClasses u_t_newLines u_t_turns u_t_shortest u_t_orders u_t_rowNumber u_t_ties s_t_n r_t_child r_t_childBack r_t_lineKind r_t_lineLong r_t_lineWord r_t_weds r_t_wedsBack x1 x2 x3 x4 x5 x6 C hb1 ⟨fun z2 hz => (by cases hz), fun z2 hz => by cases hz; exact K⟩ hP hD hS hl
def f_X12_keeps (s_t_n : Int32) (r_t_child r_t_childBack r_t_lineKind r_t_lineLong r_t_lineWord r_t_weds r_t_wedsBack : jA) (x1 : Int32) : Option (Int32) :=
  jV ((16 : Int32) * x1) fun v1 =>
  jL r_t_lineLong ((2 : Int32) * x1) fun v2 =>
  jL r_t_lineLong (((2 : Int32) * x1) + (1 : Int32)) fun v3 =>
  jM (f_X12_keeps_l32 s_t_n r_t_child r_t_childBack r_t_lineKind r_t_lineWord r_t_weds r_t_wedsBack x1 v1 v2 v3 (1 : Int32) (0 : Int32)) fun e18 =>
  jZ e18 (some e18)
set_option maxHeartbeats 4000000 in
set_option maxRecDepth 100000 in
theorem t_X12_keeps {p : Program} {l : Launch} {e : Env} {s : State} {m : MethodId} {args : Array Value} {below : List Frame} {meth : Method} {c : Code} {A : Nat → Prop} {Q : State → Prop} (G : jGt) (D : va_G) (cI cB cZ : ClassId) (a_t : Nat) (aX : Nat → Nat) (u_t_code u_t_ahead u_t_length u_t_begins u_t_sort u_t_value u_t_letters : Int32) (u_t_word : Int64) (u_t_wrongAt u_t_laterFault u_t_laterPlace u_t_newClasses u_t_newLines u_t_turns u_t_shortest u_t_orders u_t_rowNumber u_t_ties s_t_n : Int32) (r_t_child r_t_childBack r_t_lineKind r_t_lineLong r_t_lineWord r_t_weds r_t_wedsBack : jA) (x1 : Int32) (C : jCx p s m args c cX12_keeps 9 gX12_keeps RX12 G D (jT cI cB cZ) A) {o : Int32} (hf : f_X12_keeps s_t_n r_t_child r_t_childBack r_t_lineKind r_t_lineLong r_t_lineWord r_t_weds r_t_wedsBack x1 = some o) (K : ∀ (H : Heap) (locs : List Loc) (pc : Nat) (ls : Array Slot), (o = 0 ∨ o = 1) → va_P D vwCl (w_X12_keeps cI cB cZ a_t aX u_t_code u_t_ahead u_t_length u_t_begins u_t_sort u_t_value u_t_letters u_t_word u_t_wrongAt u_t_laterFault u_t_laterPlace u_t_newClasses u_t_newLines u_t_turns u_t_shortest u_t_orders u_t_rowNumber u_t_ties s_t_n r_t_child r_t_childBack r_t_lineKind r_t_lineLong r_t_lineWord r_t_weds r_t_wedsBack) H → va_S A s.heap H locs → decode cX12_keeps pc = .ok (.ireturn, 1) → W p l e rX12_keeps s m args below meth c H locs 0 0 Q (F0 m pc ls [.int o])) {H : Heap} {locs : List Loc} {ls : Array Slot} (hP : va_P D vwCl (w_X12_keeps cI cB cZ a_t aX u_t_code u_t_ahead u_t_length u_t_begins u_t_sort u_t_value u_t_letters u_t_word u_t_wrongAt u_t_laterFault u_t_laterPlace u_t_newClasses u_t_newLines u_t_turns u_t_shortest u_t_orders u_t_rowNumber u_t_ties s_t_n r_t_child r_t_childBack r_t_lineKind r_t_lineLong r_t_lineWord r_t_weds r_t_wedsBack) H) (hD : va_D A (w_X12_keeps cI cB cZ a_t aX u_t_code u_t_ahead u_t_length u_t_begins u_t_sort u_t_value u_t_letters u_t_word u_t_wrongAt u_t_laterFault u_t_laterPlace u_t_newClasses u_t_newLines u_t_turns u_t_shortest u_t_orders u_t_rowNumber u_t_ties s_t_n r_t_child r_t_childBack r_t_lineKind r_t_lineLong r_t_lineWord r_t_weds r_t_wedsBack)) (hS : va_S A s.heap H locs) (hl : lv_has ls 9 [(0, .ref a_t), (1, .int x1)]) : W p l e rX12_keeps s m args below meth c H locs 0 0 Q (F0 m 0 ls []) := by
  obtain ⟨⟨hx, hb, hml, hown, hts⟩, hK, hN, hA⟩ := C
  have C : jCx p s m args c cX12_keeps 9 gX12_keeps RX12 G D (jT cI cB cZ) A := ⟨⟨hx, hb, hml, hown, hts⟩, hK, hN, hA⟩
  unfold f_X12_keeps at hf
  refine lv_bipush (v := (16 : Int32)) hx hb dX12_keeps_0 (by decide) ?_
  refine lv_iload_n hx hb dX12_keeps_2 rfl (lv_at hl 1 rfl) ?_
  refine lv_imul hx hb dX12_keeps_3 ?_
  obtain ⟨v1, hv1, hf⟩ := jV_some hf
  refine jtop hv1 ?_
  refine lv_istore_n (lv' := [(2, .int v1), (0, .ref a_t), (1, .int x1)]) hx hb dX12_keeps_4 rfl hl (by decide) rfl (fun ls hl => ?_)
  refine lv_aload_n hx hb dX12_keeps_5 rfl (lv_at hl 1 rfl) ?_
  refine va_get (D := D) (ci := 11) (v := .ref (aX 11)) (C := RX12) (T := TX12) (N := 74) hx hb hts iw_X12 hown hK hP 0 rfl rfl 11 (by decide) (hts _ (wG_in k_fl_X12_41 rfl)) (fun _ h9 => h9) rfl dX12_keeps_6 ?_
  refine lv_iconst (v := (2 : Int32)) hx hb dX12_keeps_9 (by decide) ?_
  refine lv_iload_n hx hb dX12_keeps_10 rfl (lv_at hl 2 rfl) ?_
  refine lv_imul hx hb dX12_keeps_11 ?_
  obtain ⟨v2, hv2, iv2, hf⟩ := jL_some hf
  refine ja_iald (P := r_t_lineLong) hx hb hK hP 4 0 rfl rfl hv2 iv2 dX12_keeps_12 ?_
  refine lv_istore_n (lv' := [(3, .int v2), (2, .int v1), (0, .ref a_t), (1, .int x1)]) hx hb dX12_keeps_13 rfl hl (by decide) rfl (fun ls hl => ?_)
  refine lv_aload_n hx hb dX12_keeps_14 rfl (lv_at hl 2 rfl) ?_
  refine va_get (D := D) (ci := 11) (v := .ref (aX 11)) (C := RX12) (T := TX12) (N := 74) hx hb hts iw_X12 hown hK hP 0 rfl rfl 11 (by decide) (hts _ (wG_in k_fl_X12_41 rfl)) (fun _ h9 => h9) rfl dX12_keeps_15 ?_
  refine lv_iconst (v := (2 : Int32)) hx hb dX12_keeps_18 (by decide) ?_
  refine lv_iload_n hx hb dX12_keeps_19 rfl (lv_at hl 3 rfl) ?_
  refine lv_imul hx hb dX12_keeps_20 ?_
  refine lv_iconst (v := (1 : Int32)) hx hb dX12_keeps_21 (by decide) ?_
  refine lv_iadd hx hb dX12_keeps_22 ?_
  obtain ⟨v3, hv3, iv3, hf⟩ := jL_some hf
  refine ja_iald (P := r_t_lineLong) hx hb hK hP 4 0 rfl rfl hv3 iv3 dX12_keeps_23 ?_
  refine lv_istore (lv' := [(4, .int v3), (3, .int v2), (2, .int v1), (0, .ref a_t), (1, .int x1)]) hx hb dX12_keeps_24 hl (by decide) rfl (fun ls hl => ?_)
  refine lv_iconst (v := (1 : Int32)) hx hb dX12_keeps_26 (by decide) ?_
  refine lv_istore (lv' := [(5, .int (1 : Int32)), (4, .int v3), (3, .int v2), (2, .int v1), (0, .ref a_t), (1, .int x1)]) hx hb dX12_keeps_27 hl (by decide) rfl (fun ls hl => ?_)
  refine lv_iconst (v := (0 : Int32)) hx hb dX12_keeps_29 (by decide) ?_
  refine lv_istore (lv' := [(6, .int (0 : Int32)), (5, .int (1 : Int32)), (4, .int v3), (3, .int v2), (2, .int v1), (0, .ref a_t), (1, .int x1)]) hx hb dX12_keeps_30 hl (by decide) rfl (fun ls hl => ?_)
  obtain ⟨e18, hg18, hf⟩ := jM_some hf
  refine t_X12_keeps_l32 G D cI cB cZ a_t aX u_t_code u_t_ahead u_t_length u_t_begins u_t_sort u_t_value u_t_letters u_t_word u_t_wrongAt u_t_laterFault u_t_laterPlace u_t_newClasses u_t_newLines u_t_turns u_t_shortest u_t_orders u_t_rowNumber u_t_ties s_t_n r_t_child r_t_childBack r_t_lineKind r_t_lineLong r_t_lineWord r_t_weds r_t_wedsBack x1 v1 v2 v3 C jF (1 : Int32) (0 : Int32) hg18 ?_ _ _ _ hP hD hS (lv_sub hl [5, 6, 4, 3, 2, 1, 0] rfl)
  intro H locs ls hP hD hS hl
  refine lv_iload hx hb dX12_keeps_167 (lv_at hl 0 rfl) ?_
  obtain ⟨hz, hf⟩ := jZ_some hf
  have ho := Option.some.inj hf
  subst ho
  exact K _ _ _ _ hz hP hS dX12_keeps_169
set_option maxHeartbeats 4000000 in
set_option maxRecDepth 100000 in
theorem c_X12_keeps (l : Launch) (G : jGt) (D : va_G) (cI cB cZ : ClassId) (a_t : Nat) (aX : Nat → Nat) (u_t_code u_t_ahead u_t_length u_t_begins u_t_sort u_t_value u_t_letters : Int32) (u_t_word : Int64) (u_t_wrongAt u_t_laterFault u_t_laterPlace u_t_newClasses u_t_newLines u_t_turns u_t_shortest u_t_orders u_t_rowNumber u_t_ties s_t_n : Int32) (r_t_child r_t_childBack r_t_lineKind r_t_lineLong r_t_lineWord r_t_weds r_t_wedsBack : jA) (x1 : Int32) {o : Int32} (hf : f_X12_keeps s_t_n r_t_child r_t_childBack r_t_lineKind r_t_lineLong r_t_lineWord r_t_weds r_t_wedsBack x1 = some o) : jMi l yX12_keeps gX12_keeps rX12_keeps G D (jT cI cB cZ) [.ref a_t, .int x1] (w_X12_keeps cI cB cZ a_t aX u_t_code u_t_ahead u_t_length u_t_begins u_t_sort u_t_value u_t_letters u_t_word u_t_wrongAt u_t_laterFault u_t_laterPlace u_t_newClasses u_t_newLines u_t_turns u_t_shortest u_t_orders u_t_rowNumber u_t_ties s_t_n r_t_child r_t_childBack r_t_lineKind r_t_lineLong r_t_lineWord r_t_weds r_t_wedsBack) (w_X12_keeps cI cB cZ a_t aX u_t_code u_t_ahead u_t_length u_t_begins u_t_sort u_t_value u_t_letters u_t_word u_t_wrongAt u_t_laterFault u_t_laterPlace u_t_newClasses u_t_newLines u_t_turns u_t_shortest u_t_orders u_t_rowNumber u_t_ties s_t_n r_t_child r_t_childBack r_t_lineKind r_t_lineLong r_t_lineWord r_t_weds r_t_wedsBack) o := by
  refine jmk_z RX12 rfl (by decide +kernel) rfl (Nat.le_of_ble_eq_true rfl) rfl ?_
  intro p e s m args below meth c ls A Q C hP hD hS hl K
  exact t_X12_keeps G D cI cB cZ a_t aX u_t_code u_t_ahead u_t_length u_t_begins u_t_sort u_t_value u_t_letters u_t_word u_t_wrongAt u_t_laterFault u_t_laterPlace u_t_newClasses u_t_newLines u_t_turns u_t_shortest u_t_orders u_t_rowNumber u_t_ties s_t_n r_t_child r_t_childBack r_t_lineKind r_t_lineLong r_t_lineWord r_t_weds r_t_wedsBack x1 C hf K hP hD hS hl
abbrev rX12_firstBroken : Room := { frames := 4, cells := 0, slots := 0, locals := 101 }
abbrev gX12_firstBroken : List Cond := wG yX12_firstBroken cX12_firstBroken 2 (some .int)
def w_X12_firstBroken (cI cB cZ : ClassId) (a_t : Nat) (aX : Nat → Nat) (u_t_code u_t_ahead u_t_length u_t_begins u_t_sort u_t_value u_t_letters : Int32) (u_t_word : Int64) (u_t_wrongAt u_t_laterFault u_t_laterPlace u_t_newClasses u_t_newLines u_t_turns u_t_shortest u_t_orders u_t_rowNumber u_t_ties s_t_n : Int32) (r_t_child r_t_childBack r_t_lineKind r_t_lineLong r_t_lineWord r_t_lines r_t_weds r_t_wedsBack : jA) : va_W := [(a_t, .inr (11, (oX12 aX u_t_code s_t_n u_t_ahead u_t_length u_t_begins u_t_sort u_t_value u_t_letters u_t_word u_t_wrongAt u_t_laterFault u_t_laterPlace u_t_newClasses u_t_newLines u_t_turns u_t_shortest u_t_orders u_t_rowNumber u_t_ties))), ((aX 33), .inl (cI, r_t_child.1, .inl r_t_child.2)), ((aX 35), .inl (cI, r_t_childBack.1, .inl r_t_childBack.2)), ((aX 9), .inl (cI, r_t_lineKind.1, .inl r_t_lineKind.2)), ((aX 11), .inl (cI, r_t_lineLong.1, .inl r_t_lineLong.2)), ((aX 10), .inl (cB, r_t_lineWord.1, .inl r_t_lineWord.2)), ((aX 8), .inl (cI, r_t_lines.1, .inl r_t_lines.2)), ((aX 32), .inl (cI, r_t_weds.1, .inl r_t_weds.2)), ((aX 34), .inl (cI, r_t_wedsBack.1, .inl r_t_wedsBack.2))]
def f_X12_firstBroken_b2 (s_t_n : Int32) (r_t_child r_t_childBack r_t_lineKind r_t_lineLong r_t_lineWord r_t_lines r_t_weds r_t_wedsBack : jA) (x1 : Int32) : Option ((Int32) ⊕ ((Int32) ⊕ ((Unit)))) :=
  jL r_t_lines (0 : Int32) fun v1 =>
  if v1 ≤ x1 then
  some (Sum.inr (Sum.inr ()))
  else
  jM (f_X12_keeps s_t_n r_t_child r_t_childBack r_t_lineKind r_t_lineLong r_t_lineWord r_t_weds r_t_wedsBack x1) fun r3 =>
  if r3 = 0 then
  some (Sum.inr (Sum.inl x1))
  else
  some (Sum.inl (x1 + 1))
set_option maxHeartbeats 4000000 in
set_option maxRecDepth 100000 in
theorem t_X12_firstBroken_b2 {p : Program} {l : Launch} {e : Env} {s : State} {m : MethodId} {args : Array Value} {below : List Frame} {meth : Method} {c : Code} {A : Nat → Prop} {Q : State → Prop} (G : jGt) (D : va_G) (cI cB cZ : ClassId) (a_t : Nat) (aX : Nat → Nat) (u_t_code u_t_ahead u_t_length u_t_begins u_t_sort u_t_value u_t_letters : Int32) (u_t_word : Int64) (u_t_wrongAt u_t_laterFault u_t_laterPlace u_t_newClasses u_t_newLines u_t_turns u_t_shortest u_t_orders u_t_rowNumber u_t_ties s_t_n : Int32) (r_t_child r_t_childBack r_t_lineKind r_t_lineLong r_t_lineWord r_t_lines r_t_weds r_t_wedsBack : jA) (x1 : Int32) (C : jCx p s m args c cX12_firstBroken 2 gX12_firstBroken RX12 G D (jT cI cB cZ) A) {o : (Int32) ⊕ ((Int32) ⊕ ((Unit)))} (hf : f_X12_firstBroken_b2 s_t_n r_t_child r_t_childBack r_t_lineKind r_t_lineLong r_t_lineWord r_t_lines r_t_weds r_t_wedsBack x1 = some o) (K : (∀ z, o = Sum.inl z → ∀ (H : Heap) (locs : List Loc) (ls : Array Slot), va_P D vwCl (w_X12_firstBroken cI cB cZ a_t aX u_t_code u_t_ahead u_t_length u_t_begins u_t_sort u_t_value u_t_letters u_t_word u_t_wrongAt u_t_laterFault u_t_laterPlace u_t_newClasses u_t_newLines u_t_turns u_t_shortest u_t_orders u_t_rowNumber u_t_ties s_t_n r_t_child r_t_childBack r_t_lineKind r_t_lineLong r_t_lineWord r_t_lines r_t_weds r_t_wedsBack) H → va_D A (w_X12_firstBroken cI cB cZ a_t aX u_t_code u_t_ahead u_t_length u_t_begins u_t_sort u_t_value u_t_letters u_t_word u_t_wrongAt u_t_laterFault u_t_laterPlace u_t_newClasses u_t_newLines u_t_turns u_t_shortest u_t_orders u_t_rowNumber u_t_ties s_t_n r_t_child r_t_childBack r_t_lineKind r_t_lineLong r_t_lineWord r_t_lines r_t_weds r_t_wedsBack) → va_S A s.heap H locs → lv_has ls 2 [(0, .ref a_t), (1, .int z)] → W p l e rX12_firstBroken s m args below meth c H locs 0 0 Q (F0 m 2 ls [])) ∧ (∀ z, o = Sum.inr z → (∀ y0, z = Sum.inl y0 → ∀ (H : Heap) (locs : List Loc) (ls : Array Slot), va_P D vwCl (w_X12_firstBroken cI cB cZ a_t aX u_t_code u_t_ahead u_t_length u_t_begins u_t_sort u_t_value u_t_letters u_t_word u_t_wrongAt u_t_laterFault u_t_laterPlace u_t_newClasses u_t_newLines u_t_turns u_t_shortest u_t_orders u_t_rowNumber u_t_ties s_t_n r_t_child r_t_childBack r_t_lineKind r_t_lineLong r_t_lineWord r_t_lines r_t_weds r_t_wedsBack) H → va_D A (w_X12_firstBroken cI cB cZ a_t aX u_t_code u_t_ahead u_t_length u_t_begins u_t_sort u_t_value u_t_letters u_t_word u_t_wrongAt u_t_laterFault u_t_laterPlace u_t_newClasses u_t_newLines u_t_turns u_t_shortest u_t_orders u_t_rowNumber u_t_ties s_t_n r_t_child r_t_childBack r_t_lineKind r_t_lineLong r_t_lineWord r_t_lines r_t_weds r_t_wedsBack) → va_S A s.heap H locs → lv_has ls 2 [(1, .int y0)] → W p l e rX12_firstBroken s m args below meth c H locs 0 0 Q (F0 m 20 ls [])) ∧ (∀ z0, z = Sum.inr z0 → ∀ (H : Heap) (locs : List Loc) (ls : Array Slot), va_P D vwCl (w_X12_firstBroken cI cB cZ a_t aX u_t_code u_t_ahead u_t_length u_t_begins u_t_sort u_t_value u_t_letters u_t_word u_t_wrongAt u_t_laterFault u_t_laterPlace u_t_newClasses u_t_newLines u_t_turns u_t_shortest u_t_orders u_t_rowNumber u_t_ties s_t_n r_t_child r_t_childBack r_t_lineKind r_t_lineLong r_t_lineWord r_t_lines r_t_weds r_t_wedsBack) H → va_D A (w_X12_firstBroken cI cB cZ a_t aX u_t_code u_t_ahead u_t_length u_t_begins u_t_sort u_t_value u_t_letters u_t_word u_t_wrongAt u_t_laterFault u_t_laterPlace u_t_newClasses u_t_newLines u_t_turns u_t_shortest u_t_orders u_t_rowNumber u_t_ties s_t_n r_t_child r_t_childBack r_t_lineKind r_t_lineLong r_t_lineWord r_t_lines r_t_weds r_t_wedsBack) → va_S A s.heap H locs → lv_has ls 2 [] → W p l e rX12_firstBroken s m args below meth c H locs 0 0 Q (F0 m 28 ls [])))) {H : Heap} {locs : List Loc} {ls : Array Slot} (hP : va_P D vwCl (w_X12_firstBroken cI cB cZ a_t aX u_t_code u_t_ahead u_t_length u_t_begins u_t_sort u_t_value u_t_letters u_t_word u_t_wrongAt u_t_laterFault u_t_laterPlace u_t_newClasses u_t_newLines u_t_turns u_t_shortest u_t_orders u_t_rowNumber u_t_ties s_t_n r_t_child r_t_childBack r_t_lineKind r_t_lineLong r_t_lineWord r_t_lines r_t_weds r_t_wedsBack) H) (hD : va_D A (w_X12_firstBroken cI cB cZ a_t aX u_t_code u_t_ahead u_t_length u_t_begins u_t_sort u_t_value u_t_letters u_t_word u_t_wrongAt u_t_laterFault u_t_laterPlace u_t_newClasses u_t_newLines u_t_turns u_t_shortest u_t_orders u_t_rowNumber u_t_ties s_t_n r_t_child r_t_childBack r_t_lineKind r_t_lineLong r_t_lineWord r_t_lines r_t_weds r_t_wedsBack)) (hS : va_S A s.heap H locs) (hl : lv_has ls 2 [(0, .ref a_t), (1, .int x1)]) : W p l e rX12_firstBroken s m args below meth c H locs 0 0 Q (F0 m 2 ls []) := by
  obtain ⟨⟨hx, hb, hml, hown, hts⟩, hK, hN, hA⟩ := C
  have C : jCx p s m args c cX12_firstBroken 2 gX12_firstBroken RX12 G D (jT cI cB cZ) A := ⟨⟨hx, hb, hml, hown, hts⟩, hK, hN, hA⟩
  unfold f_X12_firstBroken_b2 at hf
  refine lv_iload_n hx hb dX12_firstBroken_2 rfl (lv_at hl 1 rfl) ?_
  refine lv_aload_n hx hb dX12_firstBroken_3 rfl (lv_at hl 0 rfl) ?_
  refine va_get (D := D) (ci := 11) (v := .ref (aX 8)) (C := RX12) (T := TX12) (N := 74) hx hb hts iw_X12 hown hK hP 0 rfl rfl 8 (by decide) (hts _ (wG_in k_fl_X12_32 rfl)) (fun _ h9 => h9) rfl dX12_firstBroken_4 ?_
  refine lv_iconst (v := (0 : Int32)) hx hb dX12_firstBroken_7 (by decide) ?_
  obtain ⟨v1, hv1, iv1, hf⟩ := jL_some hf
  refine ja_iald (P := r_t_lines) hx hb hK hP 6 0 rfl rfl hv1 iv1 dX12_firstBroken_8 ?_
  refine lv_icmp_ge (tgt := 28) hx hb dX12_firstBroken_9 (by decide) (fun c2 => ?_) (fun c2 => ?_)
  · replace hf := jif_t c2 hf
    have ho := Option.some.inj hf
    exact ((K.2 _ ho.symm).2 _ rfl) _ _ _ hP hD hS (lv_sub hl [] rfl)
  · replace hf := jif_f c2 hf
    refine lv_aload_n hx hb dX12_firstBroken_12 rfl (lv_at hl 0 rfl) ?_
    refine lv_iload_n hx hb dX12_firstBroken_13 rfl (lv_at hl 1 rfl) ?_
    obtain ⟨r3, hgr3, hf⟩ := jM_some hf
    refine jcV_i0 (As := [.int x1]) (rest := []) ⟨hx, hb, hml, hown, hts⟩ hK hN hA (c_X12_keeps l G D cI cB cZ a_t aX u_t_code u_t_ahead u_t_length u_t_begins u_t_sort u_t_value u_t_letters u_t_word u_t_wrongAt u_t_laterFault u_t_laterPlace u_t_newClasses u_t_newLines u_t_turns u_t_shortest u_t_orders u_t_rowNumber u_t_ties s_t_n r_t_child r_t_childBack r_t_lineKind r_t_lineLong r_t_lineWord r_t_weds r_t_wedsBack x1 hgr3) (cwV 1 hts (wG_V k_ml_X12_215 k_im_X12_keeps k_se_X12_keeps k_in_X12 k_co_X12_keeps) rfl rfl rfl hd_X12_keeps ⟨Nat.le_of_ble_eq_true rfl, Nat.le_of_ble_eq_true rfl⟩) hP hD hS [0, 1, 2, 3, 4, 5, 7, 8] rfl rfl rfl (ci := 11) rfl 0 rfl rfl rfl hl.1 rfl (Nat.le_of_ble_eq_true rfl) dX12_firstBroken_14 ⟨Nat.le_of_ble_eq_true rfl, Nat.le_of_ble_eq_true rfl⟩ (fun H locs hP hD hS => ?_)
    refine lv_if_ne (tgt := 22) hx hb dX12_firstBroken_17 (by decide) (fun c4 => ?_) (fun c4 => ?_)
    · replace hf := jif_f c4 hf
      refine lv_iinc (v := (x1 + 1)) (lv' := [(1, .int (x1 + 1)), (0, .ref a_t)]) hx hb dX12_firstBroken_22 hl (k := 1) rfl (by first | rfl | decide) (by decide) rfl (fun ls hl => ?_)
      refine lv_goto (tgt := 2) hx hb dX12_firstBroken_25 (by decide) ?_
      have ho := Option.some.inj hf
      exact K.1 _ ho.symm _ _ _ hP hD hS (lv_sub hl [1, 0] rfl)
    · replace hf := jif_t c4 hf
      have ho := Option.some.inj hf
      exact ((K.2 _ ho.symm).1 _ rfl) _ _ _ hP hD hS (lv_sub hl [1] rfl)
def f_X12_firstBroken_l2 (s_t_n : Int32) (r_t_child r_t_childBack r_t_lineKind r_t_lineLong r_t_lineWord r_t_lines r_t_weds r_t_wedsBack : jA) (x1 : Int32) : Option ((Int32) ⊕ ((Unit))) :=
  jI (fun z => f_X12_firstBroken_b2 s_t_n r_t_child r_t_childBack r_t_lineKind r_t_lineLong r_t_lineWord r_t_lines r_t_weds r_t_wedsBack z) jF x1
set_option maxHeartbeats 4000000 in
set_option maxRecDepth 100000 in
theorem t_X12_firstBroken_l2 {p : Program} {l : Launch} {e : Env} {s : State} {m : MethodId} {args : Array Value} {below : List Frame} {meth : Method} {c : Code} {A : Nat → Prop} {Q : State → Prop} (G : jGt) (D : va_G) (cI cB cZ : ClassId) (a_t : Nat) (aX : Nat → Nat) (u_t_code u_t_ahead u_t_length u_t_begins u_t_sort u_t_value u_t_letters : Int32) (u_t_word : Int64) (u_t_wrongAt u_t_laterFault u_t_laterPlace u_t_newClasses u_t_newLines u_t_turns u_t_shortest u_t_orders u_t_rowNumber u_t_ties s_t_n : Int32) (r_t_child r_t_childBack r_t_lineKind r_t_lineLong r_t_lineWord r_t_lines r_t_weds r_t_wedsBack : jA)  (C : jCx p s m args c cX12_firstBroken 2 gX12_firstBroken RX12 G D (jT cI cB cZ) A) : ∀ (n : Nat) (x1 : Int32) {eo : (Int32) ⊕ ((Unit))}, jI (fun z => f_X12_firstBroken_b2 s_t_n r_t_child r_t_childBack r_t_lineKind r_t_lineLong r_t_lineWord r_t_lines r_t_weds r_t_wedsBack z) n x1 = some eo → ((∀ y0, eo = Sum.inl y0 → ∀ (H : Heap) (locs : List Loc) (ls : Array Slot), va_P D vwCl (w_X12_firstBroken cI cB cZ a_t aX u_t_code u_t_ahead u_t_length u_t_begins u_t_sort u_t_value u_t_letters u_t_word u_t_wrongAt u_t_laterFault u_t_laterPlace u_t_newClasses u_t_newLines u_t_turns u_t_shortest u_t_orders u_t_rowNumber u_t_ties s_t_n r_t_child r_t_childBack r_t_lineKind r_t_lineLong r_t_lineWord r_t_lines r_t_weds r_t_wedsBack) H → va_D A (w_X12_firstBroken cI cB cZ a_t aX u_t_code u_t_ahead u_t_length u_t_begins u_t_sort u_t_value u_t_letters u_t_word u_t_wrongAt u_t_laterFault u_t_laterPlace u_t_newClasses u_t_newLines u_t_turns u_t_shortest u_t_orders u_t_rowNumber u_t_ties s_t_n r_t_child r_t_childBack r_t_lineKind r_t_lineLong r_t_lineWord r_t_lines r_t_weds r_t_wedsBack) → va_S A s.heap H locs → lv_has ls 2 [(1, .int y0)] → W p l e rX12_firstBroken s m args below meth c H locs 0 0 Q (F0 m 20 ls [])) ∧ (∀ z0, eo = Sum.inr z0 → ∀ (H : Heap) (locs : List Loc) (ls : Array Slot), va_P D vwCl (w_X12_firstBroken cI cB cZ a_t aX u_t_code u_t_ahead u_t_length u_t_begins u_t_sort u_t_value u_t_letters u_t_word u_t_wrongAt u_t_laterFault u_t_laterPlace u_t_newClasses u_t_newLines u_t_turns u_t_shortest u_t_orders u_t_rowNumber u_t_ties s_t_n r_t_child r_t_childBack r_t_lineKind r_t_lineLong r_t_lineWord r_t_lines r_t_weds r_t_wedsBack) H → va_D A (w_X12_firstBroken cI cB cZ a_t aX u_t_code u_t_ahead u_t_length u_t_begins u_t_sort u_t_value u_t_letters u_t_word u_t_wrongAt u_t_laterFault u_t_laterPlace u_t_newClasses u_t_newLines u_t_turns u_t_shortest u_t_orders u_t_rowNumber u_t_ties s_t_n r_t_child r_t_childBack r_t_lineKind r_t_lineLong r_t_lineWord r_t_lines r_t_weds r_t_wedsBack) → va_S A s.heap H locs → lv_has ls 2 [] → W p l e rX12_firstBroken s m args below meth c H locs 0 0 Q (F0 m 28 ls []))) → ∀ (H : Heap) (locs : List Loc) (ls : Array Slot), va_P D vwCl (w_X12_firstBroken cI cB cZ a_t aX u_t_code u_t_ahead u_t_length u_t_begins u_t_sort u_t_value u_t_letters u_t_word u_t_wrongAt u_t_laterFault u_t_laterPlace u_t_newClasses u_t_newLines u_t_turns u_t_shortest u_t_orders u_t_rowNumber u_t_ties s_t_n r_t_child r_t_childBack r_t_lineKind r_t_lineLong r_t_lineWord r_t_lines r_t_weds r_t_wedsBack) H → va_D A (w_X12_firstBroken cI cB cZ a_t aX u_t_code u_t_ahead u_t_length u_t_begins u_t_sort u_t_value u_t_letters u_t_word u_t_wrongAt u_t_laterFault u_t_laterPlace u_t_newClasses u_t_newLines u_t_turns u_t_shortest u_t_orders u_t_rowNumber u_t_ties s_t_n r_t_child r_t_childBack r_t_lineKind r_t_lineLong r_t_lineWord r_t_lines r_t_weds r_t_wedsBack) → va_S A s.heap H locs → lv_has ls 2 [(0, .ref a_t), (1, .int x1)] → W p l e rX12_firstBroken s m args below meth c H locs 0 0 Q (F0 m 2 ls []) := by
  intro n
  induction n with
  | zero =>
    intro x1 eo hf
    exact (jI_zero hf).elim
  | succ n ih =>
    intro x1 eo hf K H locs ls hP hD hS hl
    obtain ⟨o, hb1, ho⟩ := jI_some hf
    rcases ho with ⟨z, rfl, hf2⟩ | rfl
    · exact t_X12_firstBroken_b2 G D cI cB cZ a_t aX u_t_code u_t_ahead u_t_length u_t_begins u_t_sort u_t_value u_t_letters u_t_word u_t_wrongAt u_t_laterFault u_t_laterPlace u_t_newClasses u_t_newLines u_t_turns u_t_shortest u_t_orders u_t_rowNumber u_t_ties s_t_n r_t_child r_t_childBack r_t_lineKind r_t_lineLong r_t_lineWord r_t_lines r_t_weds r_t_wedsBack x1 C hb1 ⟨fun z2 hz H locs ls hP hD hS hl => by cases hz; exact ih z hf2 K H locs ls hP hD hS hl, fun z2 hz => by cases hz⟩ hP hD hS hl
    · exact t_X12_firstBroken_b2 G D cI cB cZ a_t aX u_t_code u_t_ahead u_t_length u_t_begins u_t_sort u_t_value u_t_letters u_t_word u_t_wrongAt u_t_laterFault u_t_laterPlace u_t_newClasses u_t_newLines u_t_turns u_t_shortest u_t_orders u_t_rowNumber u_t_ties s_t_n r_t_child r_t_childBack r_t_lineKind r_t_lineLong r_t_lineWord r_t_lines r_t_weds r_t_wedsBack x1 C hb1 ⟨fun z2 hz => (by cases hz), fun z2 hz => by cases hz; exact K⟩ hP hD hS hl
def f_X12_firstBroken (s_t_n : Int32) (r_t_child r_t_childBack r_t_lineKind r_t_lineLong r_t_lineWord r_t_lines r_t_weds r_t_wedsBack : jA) : Option (Int32) :=
  jM (f_X12_firstBroken_l2 s_t_n r_t_child r_t_childBack r_t_lineKind r_t_lineLong r_t_lineWord r_t_lines r_t_weds r_t_wedsBack (0 : Int32)) fun e5 =>
  Sum.elim (fun y6 =>
  some y6) (fun w7 =>
  some (-1 : Int32)) e5
set_option maxHeartbeats 4000000 in
set_option maxRecDepth 100000 in
theorem t_X12_firstBroken {p : Program} {l : Launch} {e : Env} {s : State} {m : MethodId} {args : Array Value} {below : List Frame} {meth : Method} {c : Code} {A : Nat → Prop} {Q : State → Prop} (G : jGt) (D : va_G) (cI cB cZ : ClassId) (a_t : Nat) (aX : Nat → Nat) (u_t_code u_t_ahead u_t_length u_t_begins u_t_sort u_t_value u_t_letters : Int32) (u_t_word : Int64) (u_t_wrongAt u_t_laterFault u_t_laterPlace u_t_newClasses u_t_newLines u_t_turns u_t_shortest u_t_orders u_t_rowNumber u_t_ties s_t_n : Int32) (r_t_child r_t_childBack r_t_lineKind r_t_lineLong r_t_lineWord r_t_lines r_t_weds r_t_wedsBack : jA)  (C : jCx p s m args c cX12_firstBroken 2 gX12_firstBroken RX12 G D (jT cI cB cZ) A) {o : Int32} (hf : f_X12_firstBroken s_t_n r_t_child r_t_childBack r_t_lineKind r_t_lineLong r_t_lineWord r_t_lines r_t_weds r_t_wedsBack = some o) (K : ∀ (H : Heap) (locs : List Loc) (pc : Nat) (ls : Array Slot), va_P D vwCl (w_X12_firstBroken cI cB cZ a_t aX u_t_code u_t_ahead u_t_length u_t_begins u_t_sort u_t_value u_t_letters u_t_word u_t_wrongAt u_t_laterFault u_t_laterPlace u_t_newClasses u_t_newLines u_t_turns u_t_shortest u_t_orders u_t_rowNumber u_t_ties s_t_n r_t_child r_t_childBack r_t_lineKind r_t_lineLong r_t_lineWord r_t_lines r_t_weds r_t_wedsBack) H → va_S A s.heap H locs → decode cX12_firstBroken pc = .ok (.ireturn, 1) → W p l e rX12_firstBroken s m args below meth c H locs 0 0 Q (F0 m pc ls [.int o])) {H : Heap} {locs : List Loc} {ls : Array Slot} (hP : va_P D vwCl (w_X12_firstBroken cI cB cZ a_t aX u_t_code u_t_ahead u_t_length u_t_begins u_t_sort u_t_value u_t_letters u_t_word u_t_wrongAt u_t_laterFault u_t_laterPlace u_t_newClasses u_t_newLines u_t_turns u_t_shortest u_t_orders u_t_rowNumber u_t_ties s_t_n r_t_child r_t_childBack r_t_lineKind r_t_lineLong r_t_lineWord r_t_lines r_t_weds r_t_wedsBack) H) (hD : va_D A (w_X12_firstBroken cI cB cZ a_t aX u_t_code u_t_ahead u_t_length u_t_begins u_t_sort u_t_value u_t_letters u_t_word u_t_wrongAt u_t_laterFault u_t_laterPlace u_t_newClasses u_t_newLines u_t_turns u_t_shortest u_t_orders u_t_rowNumber u_t_ties s_t_n r_t_child r_t_childBack r_t_lineKind r_t_lineLong r_t_lineWord r_t_lines r_t_weds r_t_wedsBack)) (hS : va_S A s.heap H locs) (hl : lv_has ls 2 [(0, .ref a_t)]) : W p l e rX12_firstBroken s m args below meth c H locs 0 0 Q (F0 m 0 ls []) := by
  obtain ⟨⟨hx, hb, hml, hown, hts⟩, hK, hN, hA⟩ := C
  have C : jCx p s m args c cX12_firstBroken 2 gX12_firstBroken RX12 G D (jT cI cB cZ) A := ⟨⟨hx, hb, hml, hown, hts⟩, hK, hN, hA⟩
  unfold f_X12_firstBroken at hf
  refine lv_iconst (v := (0 : Int32)) hx hb dX12_firstBroken_0 (by decide) ?_
  refine lv_istore_n (lv' := [(1, .int (0 : Int32)), (0, .ref a_t)]) hx hb dX12_firstBroken_1 rfl hl (by decide) rfl (fun ls hl => ?_)
  obtain ⟨e5, hg5, hf⟩ := jM_some hf
  refine t_X12_firstBroken_l2 G D cI cB cZ a_t aX u_t_code u_t_ahead u_t_length u_t_begins u_t_sort u_t_value u_t_letters u_t_word u_t_wrongAt u_t_laterFault u_t_laterPlace u_t_newClasses u_t_newLines u_t_turns u_t_shortest u_t_orders u_t_rowNumber u_t_ties s_t_n r_t_child r_t_childBack r_t_lineKind r_t_lineLong r_t_lineWord r_t_lines r_t_weds r_t_wedsBack  C jF (0 : Int32) hg5 ?_ _ _ _ hP hD hS (lv_sub hl [1, 0] rfl)
  refine ⟨fun y6 hy => ?_, fun w7 hy => ?_⟩
  · replace hf := jE_l hy hf
    intro H locs ls hP hD hS hl
    refine lv_iload_n hx hb dX12_firstBroken_20 rfl (lv_at hl 0 rfl) ?_
    have ho := Option.some.inj hf
    subst ho
    exact K _ _ _ _ hP hS dX12_firstBroken_21
  · replace hf := jE_r hy hf
    intro H locs ls hP hD hS hl
    refine lv_iconst (v := (-1 : Int32)) hx hb dX12_firstBroken_28 (by decide) ?_
    have ho := Option.some.inj hf
    subst ho
    exact K _ _ _ _ hP hS dX12_firstBroken_29
set_option maxHeartbeats 4000000 in
set_option maxRecDepth 100000 in
theorem c_X12_firstBroken (l : Launch) (G : jGt) (D : va_G) (cI cB cZ : ClassId) (a_t : Nat) (aX : Nat → Nat) (u_t_code u_t_ahead u_t_length u_t_begins u_t_sort u_t_value u_t_letters : Int32) (u_t_word : Int64) (u_t_wrongAt u_t_laterFault u_t_laterPlace u_t_newClasses u_t_newLines u_t_turns u_t_shortest u_t_orders u_t_rowNumber u_t_ties s_t_n : Int32) (r_t_child r_t_childBack r_t_lineKind r_t_lineLong r_t_lineWord r_t_lines r_t_weds r_t_wedsBack : jA)  {o : Int32} (hf : f_X12_firstBroken s_t_n r_t_child r_t_childBack r_t_lineKind r_t_lineLong r_t_lineWord r_t_lines r_t_weds r_t_wedsBack = some o) : jMi l yX12_firstBroken gX12_firstBroken rX12_firstBroken G D (jT cI cB cZ) [.ref a_t] (w_X12_firstBroken cI cB cZ a_t aX u_t_code u_t_ahead u_t_length u_t_begins u_t_sort u_t_value u_t_letters u_t_word u_t_wrongAt u_t_laterFault u_t_laterPlace u_t_newClasses u_t_newLines u_t_turns u_t_shortest u_t_orders u_t_rowNumber u_t_ties s_t_n r_t_child r_t_childBack r_t_lineKind r_t_lineLong r_t_lineWord r_t_lines r_t_weds r_t_wedsBack) (w_X12_firstBroken cI cB cZ a_t aX u_t_code u_t_ahead u_t_length u_t_begins u_t_sort u_t_value u_t_letters u_t_word u_t_wrongAt u_t_laterFault u_t_laterPlace u_t_newClasses u_t_newLines u_t_turns u_t_shortest u_t_orders u_t_rowNumber u_t_ties s_t_n r_t_child r_t_childBack r_t_lineKind r_t_lineLong r_t_lineWord r_t_lines r_t_weds r_t_wedsBack) o := by
  refine jmk_i RX12 rfl (by decide +kernel) rfl (Nat.le_of_ble_eq_true rfl) rfl ?_
  intro p e s m args below meth c ls A Q C hP hD hS hl K
  exact t_X12_firstBroken G D cI cB cZ a_t aX u_t_code u_t_ahead u_t_length u_t_begins u_t_sort u_t_value u_t_letters u_t_word u_t_wrongAt u_t_laterFault u_t_laterPlace u_t_newClasses u_t_newLines u_t_turns u_t_shortest u_t_orders u_t_rowNumber u_t_ties s_t_n r_t_child r_t_childBack r_t_lineKind r_t_lineLong r_t_lineWord r_t_lines r_t_weds r_t_wedsBack  C hf K hP hD hS hl
abbrev rX12_isLawful : Room := { frames := 5, cells := 0, slots := 0, locals := 122 }
abbrev gX12_isLawful : List Cond := wG yX12_isLawful cX12_isLawful 1 (some .boolean)
def w_X12_isLawful (cI cB cZ : ClassId) (a_t : Nat) (aX : Nat → Nat) (u_t_code u_t_ahead u_t_length u_t_begins u_t_sort u_t_value u_t_letters : Int32) (u_t_word : Int64) (u_t_wrongAt u_t_laterFault u_t_laterPlace u_t_newClasses u_t_newLines u_t_turns u_t_shortest u_t_orders u_t_rowNumber u_t_ties s_t_n : Int32) (r_t_child r_t_childBack r_t_lineKind r_t_lineLong r_t_lineWord r_t_lines r_t_weds r_t_wedsBack : jA) : va_W := [(a_t, .inr (11, (oX12 aX u_t_code s_t_n u_t_ahead u_t_length u_t_begins u_t_sort u_t_value u_t_letters u_t_word u_t_wrongAt u_t_laterFault u_t_laterPlace u_t_newClasses u_t_newLines u_t_turns u_t_shortest u_t_orders u_t_rowNumber u_t_ties))), ((aX 33), .inl (cI, r_t_child.1, .inl r_t_child.2)), ((aX 35), .inl (cI, r_t_childBack.1, .inl r_t_childBack.2)), ((aX 9), .inl (cI, r_t_lineKind.1, .inl r_t_lineKind.2)), ((aX 11), .inl (cI, r_t_lineLong.1, .inl r_t_lineLong.2)), ((aX 10), .inl (cB, r_t_lineWord.1, .inl r_t_lineWord.2)), ((aX 8), .inl (cI, r_t_lines.1, .inl r_t_lines.2)), ((aX 32), .inl (cI, r_t_weds.1, .inl r_t_weds.2)), ((aX 34), .inl (cI, r_t_wedsBack.1, .inl r_t_wedsBack.2))]
def f_X12_isLawful (s_t_n : Int32) (r_t_child r_t_childBack r_t_lineKind r_t_lineLong r_t_lineWord r_t_lines r_t_weds r_t_wedsBack : jA) : Option (Int32) :=
  jM (f_X12_isProper s_t_n r_t_child r_t_weds) fun r1 =>
  if r1 = 0 then
  some (0 : Int32)
  else
  jM (f_X12_firstBroken s_t_n r_t_child r_t_childBack r_t_lineKind r_t_lineLong r_t_lineWord r_t_lines r_t_weds r_t_wedsBack) fun r3 =>
  if r3 = (-1 : Int32) then
  some (1 : Int32)
  else
  some (0 : Int32)
set_option maxHeartbeats 4000000 in
set_option maxRecDepth 100000 in
theorem t_X12_isLawful {p : Program} {l : Launch} {e : Env} {s : State} {m : MethodId} {args : Array Value} {below : List Frame} {meth : Method} {c : Code} {A : Nat → Prop} {Q : State → Prop} (G : jGt) (D : va_G) (cI cB cZ : ClassId) (a_t : Nat) (aX : Nat → Nat) (u_t_code u_t_ahead u_t_length u_t_begins u_t_sort u_t_value u_t_letters : Int32) (u_t_word : Int64) (u_t_wrongAt u_t_laterFault u_t_laterPlace u_t_newClasses u_t_newLines u_t_turns u_t_shortest u_t_orders u_t_rowNumber u_t_ties s_t_n : Int32) (r_t_child r_t_childBack r_t_lineKind r_t_lineLong r_t_lineWord r_t_lines r_t_weds r_t_wedsBack : jA)  (C : jCx p s m args c cX12_isLawful 1 gX12_isLawful RX12 G D (jT cI cB cZ) A) {o : Int32} (hf : f_X12_isLawful s_t_n r_t_child r_t_childBack r_t_lineKind r_t_lineLong r_t_lineWord r_t_lines r_t_weds r_t_wedsBack = some o) (K : ∀ (H : Heap) (locs : List Loc) (pc : Nat) (ls : Array Slot), (o = 0 ∨ o = 1) → va_P D vwCl (w_X12_isLawful cI cB cZ a_t aX u_t_code u_t_ahead u_t_length u_t_begins u_t_sort u_t_value u_t_letters u_t_word u_t_wrongAt u_t_laterFault u_t_laterPlace u_t_newClasses u_t_newLines u_t_turns u_t_shortest u_t_orders u_t_rowNumber u_t_ties s_t_n r_t_child r_t_childBack r_t_lineKind r_t_lineLong r_t_lineWord r_t_lines r_t_weds r_t_wedsBack) H → va_S A s.heap H locs → decode cX12_isLawful pc = .ok (.ireturn, 1) → W p l e rX12_isLawful s m args below meth c H locs 0 0 Q (F0 m pc ls [.int o])) {H : Heap} {locs : List Loc} {ls : Array Slot} (hP : va_P D vwCl (w_X12_isLawful cI cB cZ a_t aX u_t_code u_t_ahead u_t_length u_t_begins u_t_sort u_t_value u_t_letters u_t_word u_t_wrongAt u_t_laterFault u_t_laterPlace u_t_newClasses u_t_newLines u_t_turns u_t_shortest u_t_orders u_t_rowNumber u_t_ties s_t_n r_t_child r_t_childBack r_t_lineKind r_t_lineLong r_t_lineWord r_t_lines r_t_weds r_t_wedsBack) H) (hD : va_D A (w_X12_isLawful cI cB cZ a_t aX u_t_code u_t_ahead u_t_length u_t_begins u_t_sort u_t_value u_t_letters u_t_word u_t_wrongAt u_t_laterFault u_t_laterPlace u_t_newClasses u_t_newLines u_t_turns u_t_shortest u_t_orders u_t_rowNumber u_t_ties s_t_n r_t_child r_t_childBack r_t_lineKind r_t_lineLong r_t_lineWord r_t_lines r_t_weds r_t_wedsBack)) (hS : va_S A s.heap H locs) (hl : lv_has ls 1 [(0, .ref a_t)]) : W p l e rX12_isLawful s m args below meth c H locs 0 0 Q (F0 m 0 ls []) := by
  obtain ⟨⟨hx, hb, hml, hown, hts⟩, hK, hN, hA⟩ := C
  have C : jCx p s m args c cX12_isLawful 1 gX12_isLawful RX12 G D (jT cI cB cZ) A := ⟨⟨hx, hb, hml, hown, hts⟩, hK, hN, hA⟩
  unfold f_X12_isLawful at hf
  refine lv_aload_n hx hb dX12_isLawful_0 rfl (lv_at hl 0 rfl) ?_
  obtain ⟨r1, hgr1, hf⟩ := jM_some hf
  refine jcV_i0 (As := []) (rest := []) ⟨hx, hb, hml, hown, hts⟩ hK hN hA (c_X12_isProper l G D cI cB cZ a_t aX u_t_code u_t_ahead u_t_length u_t_begins u_t_sort u_t_value u_t_letters u_t_word u_t_wrongAt u_t_laterFault u_t_laterPlace u_t_newClasses u_t_newLines u_t_turns u_t_shortest u_t_orders u_t_rowNumber u_t_ties s_t_n r_t_child r_t_weds hgr1) (cwV 0 hts (wG_V k_ml_X12_219 k_im_X12_isProper k_se_X12_isProper k_in_X12 k_co_X12_isProper) rfl rfl rfl hd_X12_isProper ⟨Nat.le_of_ble_eq_true rfl, Nat.le_of_ble_eq_true rfl⟩) hP hD hS [0, 1, 7] rfl rfl rfl (ci := 11) rfl 0 rfl rfl rfl hl.1 rfl (Nat.le_of_ble_eq_true rfl) dX12_isLawful_1 ⟨Nat.le_of_ble_eq_true rfl, Nat.le_of_ble_eq_true rfl⟩ (fun H locs hP hD hS => ?_)
  refine lv_if_eq (tgt := 19) hx hb dX12_isLawful_4 (by decide) (fun c2 => ?_) (fun c2 => ?_)
  · replace hf := jif_t c2 hf
    refine lv_iconst (v := (0 : Int32)) hx hb dX12_isLawful_19 (by decide) ?_
    have ho := Option.some.inj hf
    subst ho
    exact K _ _ _ _ (Or.inl rfl) hP hS dX12_isLawful_20
  · replace hf := jif_f c2 hf
    refine lv_aload_n hx hb dX12_isLawful_7 rfl (lv_at hl 0 rfl) ?_
    obtain ⟨r3, hgr3, hf⟩ := jM_some hf
    refine jcV_i0 (As := []) (rest := []) ⟨hx, hb, hml, hown, hts⟩ hK hN hA (c_X12_firstBroken l G D cI cB cZ a_t aX u_t_code u_t_ahead u_t_length u_t_begins u_t_sort u_t_value u_t_letters u_t_word u_t_wrongAt u_t_laterFault u_t_laterPlace u_t_newClasses u_t_newLines u_t_turns u_t_shortest u_t_orders u_t_rowNumber u_t_ties s_t_n r_t_child r_t_childBack r_t_lineKind r_t_lineLong r_t_lineWord r_t_lines r_t_weds r_t_wedsBack hgr3) (cwV 0 hts (wG_V k_ml_X12_223 k_im_X12_firstBroken k_se_X12_firstBroken k_in_X12 k_co_X12_firstBroken) rfl rfl rfl hd_X12_firstBroken ⟨Nat.le_of_ble_eq_true rfl, Nat.le_of_ble_eq_true rfl⟩) hP hD hS [0, 1, 2, 3, 4, 5, 6, 7, 8] rfl rfl rfl (ci := 11) rfl 0 rfl rfl rfl hl.1 rfl (Nat.le_of_ble_eq_true rfl) dX12_isLawful_8 ⟨Nat.le_of_ble_eq_true rfl, Nat.le_of_ble_eq_true rfl⟩ (fun H locs hP hD hS => ?_)
    refine lv_iconst (v := (-1 : Int32)) hx hb dX12_isLawful_11 (by decide) ?_
    refine lv_icmp_ne (tgt := 19) hx hb dX12_isLawful_12 (by decide) (fun c4 => ?_) (fun c4 => ?_)
    · replace hf := jif_f c4 hf
      refine lv_iconst (v := (0 : Int32)) hx hb dX12_isLawful_19 (by decide) ?_
      have ho := Option.some.inj hf
      subst ho
      exact K _ _ _ _ (Or.inl rfl) hP hS dX12_isLawful_20
    · replace hf := jif_t c4 hf
      refine lv_iconst (v := (1 : Int32)) hx hb dX12_isLawful_15 (by decide) ?_
      refine lv_goto (tgt := 20) hx hb dX12_isLawful_16 (by decide) ?_
      have ho := Option.some.inj hf
      subst ho
      exact K _ _ _ _ (Or.inr rfl) hP hS dX12_isLawful_20
set_option maxHeartbeats 4000000 in
set_option maxRecDepth 100000 in
theorem c_X12_isLawful (l : Launch) (G : jGt) (D : va_G) (cI cB cZ : ClassId) (a_t : Nat) (aX : Nat → Nat) (u_t_code u_t_ahead u_t_length u_t_begins u_t_sort u_t_value u_t_letters : Int32) (u_t_word : Int64) (u_t_wrongAt u_t_laterFault u_t_laterPlace u_t_newClasses u_t_newLines u_t_turns u_t_shortest u_t_orders u_t_rowNumber u_t_ties s_t_n : Int32) (r_t_child r_t_childBack r_t_lineKind r_t_lineLong r_t_lineWord r_t_lines r_t_weds r_t_wedsBack : jA)  {o : Int32} (hf : f_X12_isLawful s_t_n r_t_child r_t_childBack r_t_lineKind r_t_lineLong r_t_lineWord r_t_lines r_t_weds r_t_wedsBack = some o) : jMi l yX12_isLawful gX12_isLawful rX12_isLawful G D (jT cI cB cZ) [.ref a_t] (w_X12_isLawful cI cB cZ a_t aX u_t_code u_t_ahead u_t_length u_t_begins u_t_sort u_t_value u_t_letters u_t_word u_t_wrongAt u_t_laterFault u_t_laterPlace u_t_newClasses u_t_newLines u_t_turns u_t_shortest u_t_orders u_t_rowNumber u_t_ties s_t_n r_t_child r_t_childBack r_t_lineKind r_t_lineLong r_t_lineWord r_t_lines r_t_weds r_t_wedsBack) (w_X12_isLawful cI cB cZ a_t aX u_t_code u_t_ahead u_t_length u_t_begins u_t_sort u_t_value u_t_letters u_t_word u_t_wrongAt u_t_laterFault u_t_laterPlace u_t_newClasses u_t_newLines u_t_turns u_t_shortest u_t_orders u_t_rowNumber u_t_ties s_t_n r_t_child r_t_childBack r_t_lineKind r_t_lineLong r_t_lineWord r_t_lines r_t_weds r_t_wedsBack) o := by
  refine jmk_z RX12 rfl (by decide +kernel) rfl (Nat.le_of_ble_eq_true rfl) rfl ?_
  intro p e s m args below meth c ls A Q C hP hD hS hl K
  exact t_X12_isLawful G D cI cB cZ a_t aX u_t_code u_t_ahead u_t_length u_t_begins u_t_sort u_t_value u_t_letters u_t_word u_t_wrongAt u_t_laterFault u_t_laterPlace u_t_newClasses u_t_newLines u_t_turns u_t_shortest u_t_orders u_t_rowNumber u_t_ties s_t_n r_t_child r_t_childBack r_t_lineKind r_t_lineLong r_t_lineWord r_t_lines r_t_weds r_t_wedsBack  C hf K hP hD hS hl
abbrev rX12_four : Room := { frames := 0, cells := 0, slots := 0, locals := 0 }
abbrev gX12_four : List Cond := wG yX12_four cX12_four 3 none
def w_X12_four (cI cB cZ : ClassId) (a_t : Nat) (aX : Nat → Nat) (u_t_code u_t_n u_t_ahead u_t_length u_t_begins u_t_sort u_t_value u_t_letters : Int32) (u_t_word : Int64) (u_t_wrongAt u_t_laterFault u_t_laterPlace u_t_newClasses u_t_newLines u_t_turns u_t_shortest u_t_orders u_t_rowNumber u_t_ties : Int32) (r_t_size r_t_tape : jA) : va_W := [(a_t, .inr (11, (oX12 aX u_t_code u_t_n u_t_ahead u_t_length u_t_begins u_t_sort u_t_value u_t_letters u_t_word u_t_wrongAt u_t_laterFault u_t_laterPlace u_t_newClasses u_t_newLines u_t_turns u_t_shortest u_t_orders u_t_rowNumber u_t_ties))), ((aX 2), .inl (cI, r_t_size.1, .inl r_t_size.2)), ((aX 1), .inl (cB, r_t_tape.1, .inl r_t_tape.2))]
def f_X12_four_b3 (r_t_size r_t_tape : jA) (x1 x2 : Int32) : Option ((jA × jA × Int32) ⊕ ((jA × jA))) :=
  if x2 < 0 then
  some (Sum.inr (r_t_size, r_t_tape))
  else
  jL r_t_size (0 : Int32) fun v2 =>
  jS r_t_tape v2 (((x1 >>> (x2 &&& 31)).toInt8.toInt32).toInt8.toInt32) fun q3 =>
  jL r_t_size (0 : Int32) fun v4 =>
  jS r_t_size (0 : Int32) (v4 + (1 : Int32)) fun q5 =>
  some (Sum.inl (q5, q3, (x2 + (-8))))
set_option maxHeartbeats 4000000 in
set_option maxRecDepth 100000 in
theorem t_X12_four_b3 {p : Program} {l : Launch} {e : Env} {s : State} {m : MethodId} {args : Array Value} {below : List Frame} {meth : Method} {c : Code} {A : Nat → Prop} {Q : State → Prop} (G : jGt) (D : va_G) (cI cB cZ : ClassId) (a_t : Nat) (aX : Nat → Nat) (u_t_code u_t_n u_t_ahead u_t_length u_t_begins u_t_sort u_t_value u_t_letters : Int32) (u_t_word : Int64) (u_t_wrongAt u_t_laterFault u_t_laterPlace u_t_newClasses u_t_newLines u_t_turns u_t_shortest u_t_orders u_t_rowNumber u_t_ties : Int32) (r_t_size r_t_tape : jA) (x1 x2 : Int32) (C : jCx p s m args c cX12_four 3 gX12_four RX12 G D (jT cI cB cZ) A) {o : (jA × jA × Int32) ⊕ ((jA × jA))} (hf : f_X12_four_b3 r_t_size r_t_tape x1 x2 = some o) (K : (∀ z, o = Sum.inl z → ∀ (H : Heap) (locs : List Loc) (ls : Array Slot), va_P D vwCl (w_X12_four cI cB cZ a_t aX u_t_code u_t_n u_t_ahead u_t_length u_t_begins u_t_sort u_t_value u_t_letters u_t_word u_t_wrongAt u_t_laterFault u_t_laterPlace u_t_newClasses u_t_newLines u_t_turns u_t_shortest u_t_orders u_t_rowNumber u_t_ties z.1 z.2.1) H → va_D A (w_X12_four cI cB cZ a_t aX u_t_code u_t_n u_t_ahead u_t_length u_t_begins u_t_sort u_t_value u_t_letters u_t_word u_t_wrongAt u_t_laterFault u_t_laterPlace u_t_newClasses u_t_newLines u_t_turns u_t_shortest u_t_orders u_t_rowNumber u_t_ties z.1 z.2.1) → va_S A s.heap H locs → lv_has ls 3 [(0, .ref a_t), (1, .int x1), (2, .int z.2.2)] → W p l e rX12_four s m args below meth c H locs 0 0 Q (F0 m 3 ls [])) ∧ (∀ z, o = Sum.inr z → ∀ (H : Heap) (locs : List Loc) (ls : Array Slot), va_P D vwCl (w_X12_four cI cB cZ a_t aX u_t_code u_t_n u_t_ahead u_t_length u_t_begins u_t_sort u_t_value u_t_letters u_t_word u_t_wrongAt u_t_laterFault u_t_laterPlace u_t_newClasses u_t_newLines u_t_turns u_t_shortest u_t_orders u_t_rowNumber u_t_ties z.1 z.2) H → va_D A (w_X12_four cI cB cZ a_t aX u_t_code u_t_n u_t_ahead u_t_length u_t_begins u_t_sort u_t_value u_t_letters u_t_word u_t_wrongAt u_t_laterFault u_t_laterPlace u_t_newClasses u_t_newLines u_t_turns u_t_shortest u_t_orders u_t_rowNumber u_t_ties z.1 z.2) → va_S A s.heap H locs → lv_has ls 3 [] → W p l e rX12_four s m args below meth c H locs 0 0 Q (F0 m 38 ls []))) {H : Heap} {locs : List Loc} {ls : Array Slot} (hP : va_P D vwCl (w_X12_four cI cB cZ a_t aX u_t_code u_t_n u_t_ahead u_t_length u_t_begins u_t_sort u_t_value u_t_letters u_t_word u_t_wrongAt u_t_laterFault u_t_laterPlace u_t_newClasses u_t_newLines u_t_turns u_t_shortest u_t_orders u_t_rowNumber u_t_ties r_t_size r_t_tape) H) (hD : va_D A (w_X12_four cI cB cZ a_t aX u_t_code u_t_n u_t_ahead u_t_length u_t_begins u_t_sort u_t_value u_t_letters u_t_word u_t_wrongAt u_t_laterFault u_t_laterPlace u_t_newClasses u_t_newLines u_t_turns u_t_shortest u_t_orders u_t_rowNumber u_t_ties r_t_size r_t_tape)) (hS : va_S A s.heap H locs) (hl : lv_has ls 3 [(0, .ref a_t), (1, .int x1), (2, .int x2)]) : W p l e rX12_four s m args below meth c H locs 0 0 Q (F0 m 3 ls []) := by
  obtain ⟨⟨hx, hb, hml, hown, hts⟩, hK, hN, hA⟩ := C
  have C : jCx p s m args c cX12_four 3 gX12_four RX12 G D (jT cI cB cZ) A := ⟨⟨hx, hb, hml, hown, hts⟩, hK, hN, hA⟩
  unfold f_X12_four_b3 at hf
  refine lv_iload_n hx hb dX12_four_3 rfl (lv_at hl 2 rfl) ?_
  refine lv_if_lt (tgt := 38) hx hb dX12_four_4 (by decide) (fun c1 => ?_) (fun c1 => ?_)
  · replace hf := jif_t c1 hf
    have ho := Option.some.inj hf
    exact (K.2 _ ho.symm) _ _ _ hP hD hS (lv_sub hl [] rfl)
  · replace hf := jif_f c1 hf
    refine lv_aload_n hx hb dX12_four_7 rfl (lv_at hl 0 rfl) ?_
    refine va_get (D := D) (ci := 11) (v := .ref (aX 1)) (C := RX12) (T := TX12) (N := 74) hx hb hts iw_X12 hown hK hP 0 rfl rfl 1 (by decide) (hts _ (wG_in k_fl_X12_7 rfl)) (fun _ h9 => h9) rfl dX12_four_8 ?_
    refine lv_aload_n hx hb dX12_four_11 rfl (lv_at hl 0 rfl) ?_
    refine va_get (D := D) (ci := 11) (v := .ref (aX 2)) (C := RX12) (T := TX12) (N := 74) hx hb hts iw_X12 hown hK hP 0 rfl rfl 2 (by decide) (hts _ (wG_in k_fl_X12_13 rfl)) (fun _ h9 => h9) rfl dX12_four_12 ?_
    refine lv_iconst (v := (0 : Int32)) hx hb dX12_four_15 (by decide) ?_
    obtain ⟨v2, hv2, iv2, hf⟩ := jL_some hf
    refine ja_iald (P := r_t_size) hx hb hK hP 1 0 rfl rfl hv2 iv2 dX12_four_16 ?_
    refine lv_iload_n hx hb dX12_four_17 rfl (lv_at hl 1 rfl) ?_
    refine lv_iload_n hx hb dX12_four_18 rfl (lv_at hl 2 rfl) ?_
    refine lv_ishr hx hb dX12_four_19 ?_
    refine lv_i2b hx hb dX12_four_20 rfl ?_
    obtain ⟨q3, hq3, iq3, hf⟩ := jS_some hf
    refine ja_bast (P := r_t_tape) (P' := q3) hx hb hK hP hD hS 2 1 rfl rfl hq3 iq3 dX12_four_21 (fun H locs hP hD hS => ?_)
    have hP : va_P D vwCl (w_X12_four cI cB cZ a_t aX u_t_code u_t_n u_t_ahead u_t_length u_t_begins u_t_sort u_t_value u_t_letters u_t_word u_t_wrongAt u_t_laterFault u_t_laterPlace u_t_newClasses u_t_newLines u_t_turns u_t_shortest u_t_orders u_t_rowNumber u_t_ties r_t_size q3) H := hP
    have hD : va_D A (w_X12_four cI cB cZ a_t aX u_t_code u_t_n u_t_ahead u_t_length u_t_begins u_t_sort u_t_value u_t_letters u_t_word u_t_wrongAt u_t_laterFault u_t_laterPlace u_t_newClasses u_t_newLines u_t_turns u_t_shortest u_t_orders u_t_rowNumber u_t_ties r_t_size q3) := hD
    refine lv_aload_n hx hb dX12_four_22 rfl (lv_at hl 0 rfl) ?_
    refine va_get (D := D) (ci := 11) (v := .ref (aX 2)) (C := RX12) (T := TX12) (N := 74) hx hb hts iw_X12 hown hK hP 0 rfl rfl 2 (by decide) (hts _ (wG_in k_fl_X12_13 rfl)) (fun _ h9 => h9) rfl dX12_four_23 ?_
    refine lv_iconst (v := (0 : Int32)) hx hb dX12_four_26 (by decide) ?_
    refine lv_dup2_11 hx hb dX12_four_27 rfl rfl ?_
    obtain ⟨v4, hv4, iv4, hf⟩ := jL_some hf
    refine ja_iald (P := r_t_size) hx hb hK hP 1 0 rfl rfl hv4 iv4 dX12_four_28 ?_
    refine lv_iconst (v := (1 : Int32)) hx hb dX12_four_29 (by decide) ?_
    refine lv_iadd hx hb dX12_four_30 ?_
    obtain ⟨q5, hq5, iq5, hf⟩ := jS_some hf
    refine ja_iast (P := r_t_size) (P' := q5) hx hb hK hP hD hS 1 0 rfl rfl hq5 iq5 dX12_four_31 (fun H locs hP hD hS => ?_)
    have hP : va_P D vwCl (w_X12_four cI cB cZ a_t aX u_t_code u_t_n u_t_ahead u_t_length u_t_begins u_t_sort u_t_value u_t_letters u_t_word u_t_wrongAt u_t_laterFault u_t_laterPlace u_t_newClasses u_t_newLines u_t_turns u_t_shortest u_t_orders u_t_rowNumber u_t_ties q5 q3) H := hP
    have hD : va_D A (w_X12_four cI cB cZ a_t aX u_t_code u_t_n u_t_ahead u_t_length u_t_begins u_t_sort u_t_value u_t_letters u_t_word u_t_wrongAt u_t_laterFault u_t_laterPlace u_t_newClasses u_t_newLines u_t_turns u_t_shortest u_t_orders u_t_rowNumber u_t_ties q5 q3) := hD
    refine lv_iinc (v := (x2 + (-8))) (lv' := [(2, .int (x2 + (-8))), (0, .ref a_t), (1, .int x1)]) hx hb dX12_four_32 hl (k := 2) rfl (by first | rfl | decide) (by decide) rfl (fun ls hl => ?_)
    refine lv_goto (tgt := 3) hx hb dX12_four_35 (by decide) ?_
    have ho := Option.some.inj hf
    exact K.1 _ ho.symm _ _ _ hP hD hS (lv_sub hl [1, 2, 0] rfl)
def f_X12_four_l3 (x1 : Int32) (r_t_size r_t_tape : jA) (x2 : Int32) : Option ((jA × jA)) :=
  jI (fun z => f_X12_four_b3 z.1 z.2.1 x1 z.2.2) jF (r_t_size, r_t_tape, x2)
set_option maxHeartbeats 4000000 in
set_option maxRecDepth 100000 in
theorem t_X12_four_l3 {p : Program} {l : Launch} {e : Env} {s : State} {m : MethodId} {args : Array Value} {below : List Frame} {meth : Method} {c : Code} {A : Nat → Prop} {Q : State → Prop} (G : jGt) (D : va_G) (cI cB cZ : ClassId) (a_t : Nat) (aX : Nat → Nat) (u_t_code u_t_n u_t_ahead u_t_length u_t_begins u_t_sort u_t_value u_t_letters : Int32) (u_t_word : Int64) (u_t_wrongAt u_t_laterFault u_t_laterPlace u_t_newClasses u_t_newLines u_t_turns u_t_shortest u_t_orders u_t_rowNumber u_t_ties : Int32) (x1 : Int32) (C : jCx p s m args c cX12_four 3 gX12_four RX12 G D (jT cI cB cZ) A) : ∀ (n : Nat) (r_t_size r_t_tape : jA) (x2 : Int32) {eo : (jA × jA)}, jI (fun z => f_X12_four_b3 z.1 z.2.1 x1 z.2.2) n (r_t_size, r_t_tape, x2) = some eo → (∀ (H : Heap) (locs : List Loc) (ls : Array Slot), va_P D vwCl (w_X12_four cI cB cZ a_t aX u_t_code u_t_n u_t_ahead u_t_length u_t_begins u_t_sort u_t_value u_t_letters u_t_word u_t_wrongAt u_t_laterFault u_t_laterPlace u_t_newClasses u_t_newLines u_t_turns u_t_shortest u_t_orders u_t_rowNumber u_t_ties eo.1 eo.2) H → va_D A (w_X12_four cI cB cZ a_t aX u_t_code u_t_n u_t_ahead u_t_length u_t_begins u_t_sort u_t_value u_t_letters u_t_word u_t_wrongAt u_t_laterFault u_t_laterPlace u_t_newClasses u_t_newLines u_t_turns u_t_shortest u_t_orders u_t_rowNumber u_t_ties eo.1 eo.2) → va_S A s.heap H locs → lv_has ls 3 [] → W p l e rX12_four s m args below meth c H locs 0 0 Q (F0 m 38 ls [])) → ∀ (H : Heap) (locs : List Loc) (ls : Array Slot), va_P D vwCl (w_X12_four cI cB cZ a_t aX u_t_code u_t_n u_t_ahead u_t_length u_t_begins u_t_sort u_t_value u_t_letters u_t_word u_t_wrongAt u_t_laterFault u_t_laterPlace u_t_newClasses u_t_newLines u_t_turns u_t_shortest u_t_orders u_t_rowNumber u_t_ties r_t_size r_t_tape) H → va_D A (w_X12_four cI cB cZ a_t aX u_t_code u_t_n u_t_ahead u_t_length u_t_begins u_t_sort u_t_value u_t_letters u_t_word u_t_wrongAt u_t_laterFault u_t_laterPlace u_t_newClasses u_t_newLines u_t_turns u_t_shortest u_t_orders u_t_rowNumber u_t_ties r_t_size r_t_tape) → va_S A s.heap H locs → lv_has ls 3 [(0, .ref a_t), (1, .int x1), (2, .int x2)] → W p l e rX12_four s m args below meth c H locs 0 0 Q (F0 m 3 ls []) := by
  intro n
  induction n with
  | zero =>
    intro r_t_size r_t_tape x2 eo hf
    exact (jI_zero hf).elim
  | succ n ih =>
    intro r_t_size r_t_tape x2 eo hf K H locs ls hP hD hS hl
    obtain ⟨o, hb1, ho⟩ := jI_some hf
    rcases ho with ⟨z, rfl, hf2⟩ | rfl
    · exact t_X12_four_b3 G D cI cB cZ a_t aX u_t_code u_t_n u_t_ahead u_t_length u_t_begins u_t_sort u_t_value u_t_letters u_t_word u_t_wrongAt u_t_laterFault u_t_laterPlace u_t_newClasses u_t_newLines u_t_turns u_t_shortest u_t_orders u_t_rowNumber u_t_ties r_t_size r_t_tape x1 x2 C hb1 ⟨fun z2 hz H locs ls hP hD hS hl => by cases hz; exact ih z.1 z.2.1 z.2.2 hf2 K H locs ls hP hD hS hl, fun z2 hz => by cases hz⟩ hP hD hS hl
    · exact t_X12_four_b3 G D cI cB cZ a_t aX u_t_code u_t_n u_t_ahead u_t_length u_t_begins u_t_sort u_t_value u_t_letters u_t_word u_t_wrongAt u_t_laterFault u_t_laterPlace u_t_newClasses u_t_newLines u_t_turns u_t_shortest u_t_orders u_t_rowNumber u_t_ties r_t_size r_t_tape x1 x2 C hb1 ⟨fun z2 hz => (by cases hz), fun z2 hz => by cases hz; exact K⟩ hP hD hS hl
def f_X12_four (r_t_size r_t_tape : jA) (x1 : Int32) : Option (jA × jA) :=
  jM (f_X12_four_l3 x1 r_t_size r_t_tape (24 : Int32)) fun e6 =>
  some (e6.1, e6.2)
set_option maxHeartbeats 4000000 in
set_option maxRecDepth 100000 in
theorem t_X12_four {p : Program} {l : Launch} {e : Env} {s : State} {m : MethodId} {args : Array Value} {below : List Frame} {meth : Method} {c : Code} {A : Nat → Prop} {Q : State → Prop} (G : jGt) (D : va_G) (cI cB cZ : ClassId) (a_t : Nat) (aX : Nat → Nat) (u_t_code u_t_n u_t_ahead u_t_length u_t_begins u_t_sort u_t_value u_t_letters : Int32) (u_t_word : Int64) (u_t_wrongAt u_t_laterFault u_t_laterPlace u_t_newClasses u_t_newLines u_t_turns u_t_shortest u_t_orders u_t_rowNumber u_t_ties : Int32) (r_t_size r_t_tape : jA) (x1 : Int32) (C : jCx p s m args c cX12_four 3 gX12_four RX12 G D (jT cI cB cZ) A) {o : jA × jA} (hf : f_X12_four r_t_size r_t_tape x1 = some o) (K : ∀ (H : Heap) (locs : List Loc) (pc : Nat) (ls : Array Slot), va_P D vwCl (w_X12_four cI cB cZ a_t aX u_t_code u_t_n u_t_ahead u_t_length u_t_begins u_t_sort u_t_value u_t_letters u_t_word u_t_wrongAt u_t_laterFault u_t_laterPlace u_t_newClasses u_t_newLines u_t_turns u_t_shortest u_t_orders u_t_rowNumber u_t_ties o.1 o.2) H → va_S A s.heap H locs → decode cX12_four pc = .ok (.return_, 1) → W p l e rX12_four s m args below meth c H locs 0 0 Q (F0 m pc ls [])) {H : Heap} {locs : List Loc} {ls : Array Slot} (hP : va_P D vwCl (w_X12_four cI cB cZ a_t aX u_t_code u_t_n u_t_ahead u_t_length u_t_begins u_t_sort u_t_value u_t_letters u_t_word u_t_wrongAt u_t_laterFault u_t_laterPlace u_t_newClasses u_t_newLines u_t_turns u_t_shortest u_t_orders u_t_rowNumber u_t_ties r_t_size r_t_tape) H) (hD : va_D A (w_X12_four cI cB cZ a_t aX u_t_code u_t_n u_t_ahead u_t_length u_t_begins u_t_sort u_t_value u_t_letters u_t_word u_t_wrongAt u_t_laterFault u_t_laterPlace u_t_newClasses u_t_newLines u_t_turns u_t_shortest u_t_orders u_t_rowNumber u_t_ties r_t_size r_t_tape)) (hS : va_S A s.heap H locs) (hl : lv_has ls 3 [(0, .ref a_t), (1, .int x1)]) : W p l e rX12_four s m args below meth c H locs 0 0 Q (F0 m 0 ls []) := by
  obtain ⟨⟨hx, hb, hml, hown, hts⟩, hK, hN, hA⟩ := C
  have C : jCx p s m args c cX12_four 3 gX12_four RX12 G D (jT cI cB cZ) A := ⟨⟨hx, hb, hml, hown, hts⟩, hK, hN, hA⟩
  unfold f_X12_four at hf
  refine lv_bipush (v := (24 : Int32)) hx hb dX12_four_0 (by decide) ?_
  refine lv_istore_n (lv' := [(2, .int (24 : Int32)), (0, .ref a_t), (1, .int x1)]) hx hb dX12_four_2 rfl hl (by decide) rfl (fun ls hl => ?_)
  obtain ⟨e6, hg6, hf⟩ := jM_some hf
  refine t_X12_four_l3 G D cI cB cZ a_t aX u_t_code u_t_n u_t_ahead u_t_length u_t_begins u_t_sort u_t_value u_t_letters u_t_word u_t_wrongAt u_t_laterFault u_t_laterPlace u_t_newClasses u_t_newLines u_t_turns u_t_shortest u_t_orders u_t_rowNumber u_t_ties x1 C jF r_t_size r_t_tape (24 : Int32) hg6 ?_ _ _ _ hP hD hS (lv_sub hl [1, 2, 0] rfl)
  intro H locs ls hP hD hS hl
  have ho := Option.some.inj hf
  subst ho
  exact K _ _ _ _ hP hS dX12_four_38
set_option maxHeartbeats 4000000 in
set_option maxRecDepth 100000 in
theorem c_X12_four (l : Launch) (G : jGt) (D : va_G) (cI cB cZ : ClassId) (a_t : Nat) (aX : Nat → Nat) (u_t_code u_t_n u_t_ahead u_t_length u_t_begins u_t_sort u_t_value u_t_letters : Int32) (u_t_word : Int64) (u_t_wrongAt u_t_laterFault u_t_laterPlace u_t_newClasses u_t_newLines u_t_turns u_t_shortest u_t_orders u_t_rowNumber u_t_ties : Int32) (r_t_size r_t_tape : jA) (x1 : Int32) {o : jA × jA} (hf : f_X12_four r_t_size r_t_tape x1 = some o) : jMv l yX12_four gX12_four rX12_four G D (jT cI cB cZ) [.ref a_t, .int x1] (w_X12_four cI cB cZ a_t aX u_t_code u_t_n u_t_ahead u_t_length u_t_begins u_t_sort u_t_value u_t_letters u_t_word u_t_wrongAt u_t_laterFault u_t_laterPlace u_t_newClasses u_t_newLines u_t_turns u_t_shortest u_t_orders u_t_rowNumber u_t_ties r_t_size r_t_tape) (w_X12_four cI cB cZ a_t aX u_t_code u_t_n u_t_ahead u_t_length u_t_begins u_t_sort u_t_value u_t_letters u_t_word u_t_wrongAt u_t_laterFault u_t_laterPlace u_t_newClasses u_t_newLines u_t_turns u_t_shortest u_t_orders u_t_rowNumber u_t_ties o.1 o.2) := by
  refine jmk_v RX12 rfl (by decide +kernel) rfl (Nat.le_of_ble_eq_true rfl) rfl ?_
  intro p e s m args below meth c ls A Q C hP hD hS hl K
  exact t_X12_four G D cI cB cZ a_t aX u_t_code u_t_n u_t_ahead u_t_length u_t_begins u_t_sort u_t_value u_t_letters u_t_word u_t_wrongAt u_t_laterFault u_t_laterPlace u_t_newClasses u_t_newLines u_t_turns u_t_shortest u_t_orders u_t_rowNumber u_t_ties r_t_size r_t_tape x1 C hf K hP hD hS hl
abbrev rX12_feed : Room := { frames := 1, cells := 0, slots := 0, locals := 22 }
abbrev gX12_feed : List Cond := wG yX12_feed cX12_feed 6 (some .int)
def w_X12_feed (cI cB cZ : ClassId) (a_t : Nat) (aX : Nat → Nat) (u_t_n u_t_ahead u_t_length u_t_begins u_t_sort u_t_value u_t_letters : Int32) (u_t_word : Int64) (u_t_wrongAt u_t_laterFault u_t_laterPlace u_t_newClasses u_t_newLines u_t_turns u_t_shortest u_t_orders u_t_rowNumber u_t_ties s_t_code : Int32) (r_t_size r_t_tape : jA) : va_W := [(a_t, .inr (11, (oX12 aX s_t_code u_t_n u_t_ahead u_t_length u_t_begins u_t_sort u_t_value u_t_letters u_t_word u_t_wrongAt u_t_laterFault u_t_laterPlace u_t_newClasses u_t_newLines u_t_turns u_t_shortest u_t_orders u_t_rowNumber u_t_ties))), ((aX 2), .inl (cI, r_t_size.1, .inl r_t_size.2)), ((aX 1), .inl (cB, r_t_tape.1, .inl r_t_tape.2))]
def f_X12_feed (s_t_code : Int32) (r_t_size r_t_tape : jA) (x1 x2 x3 x4 x5 : Int32) : Option (Int32 × Int32 × jA × jA) :=
  jL r_t_size (0 : Int32) fun v1 =>
  if (v1 + (20 : Int32)) ≤ (400 : Int32) then
  jM (f_X12_four r_t_size r_t_tape x1) fun r3 =>
  jM (f_X12_four r3.1 r3.2 x2) fun r4 =>
  jM (f_X12_four r4.1 r4.2 x3) fun r5 =>
  jM (f_X12_four r5.1 r5.2 x4) fun r6 =>
  jM (f_X12_four r6.1 r6.2 x5) fun r7 =>
  jL r7.1 (0 : Int32) fun v8 =>
  some (v8, (0 : Int32), r7.1, r7.2)
  else
  some ((-1 : Int32), (0 : Int32), r_t_size, r_t_tape)
set_option maxHeartbeats 4000000 in
set_option maxRecDepth 100000 in
theorem t_X12_feed {p : Program} {l : Launch} {e : Env} {s : State} {m : MethodId} {args : Array Value} {below : List Frame} {meth : Method} {c : Code} {A : Nat → Prop} {Q : State → Prop} (G : jGt) (D : va_G) (cI cB cZ : ClassId) (a_t : Nat) (aX : Nat → Nat) (u_t_n u_t_ahead u_t_length u_t_begins u_t_sort u_t_value u_t_letters : Int32) (u_t_word : Int64) (u_t_wrongAt u_t_laterFault u_t_laterPlace u_t_newClasses u_t_newLines u_t_turns u_t_shortest u_t_orders u_t_rowNumber u_t_ties : Int32) (s_t_code : Int32) (r_t_size r_t_tape : jA) (x1 x2 x3 x4 x5 : Int32) (C : jCx p s m args c cX12_feed 6 gX12_feed RX12 G D (jT cI cB cZ) A) {o : Int32 × Int32 × jA × jA} (hf : f_X12_feed s_t_code r_t_size r_t_tape x1 x2 x3 x4 x5 = some o) (K : ∀ (H : Heap) (locs : List Loc) (pc : Nat) (ls : Array Slot), va_P D vwCl (w_X12_feed cI cB cZ a_t aX u_t_n u_t_ahead u_t_length u_t_begins u_t_sort u_t_value u_t_letters u_t_word u_t_wrongAt u_t_laterFault u_t_laterPlace u_t_newClasses u_t_newLines u_t_turns u_t_shortest u_t_orders u_t_rowNumber u_t_ties o.2.1 o.2.2.1 o.2.2.2) H → va_S A s.heap H locs → decode cX12_feed pc = .ok (.ireturn, 1) → W p l e rX12_feed s m args below meth c H locs 0 0 Q (F0 m pc ls [.int o.1])) {H : Heap} {locs : List Loc} {ls : Array Slot} (hP : va_P D vwCl (w_X12_feed cI cB cZ a_t aX u_t_n u_t_ahead u_t_length u_t_begins u_t_sort u_t_value u_t_letters u_t_word u_t_wrongAt u_t_laterFault u_t_laterPlace u_t_newClasses u_t_newLines u_t_turns u_t_shortest u_t_orders u_t_rowNumber u_t_ties s_t_code r_t_size r_t_tape) H) (hD : va_D A (w_X12_feed cI cB cZ a_t aX u_t_n u_t_ahead u_t_length u_t_begins u_t_sort u_t_value u_t_letters u_t_word u_t_wrongAt u_t_laterFault u_t_laterPlace u_t_newClasses u_t_newLines u_t_turns u_t_shortest u_t_orders u_t_rowNumber u_t_ties s_t_code r_t_size r_t_tape)) (hS : va_S A s.heap H locs) (hl : lv_has ls 6 [(0, .ref a_t), (1, .int x1), (2, .int x2), (3, .int x3), (4, .int x4), (5, .int x5)]) : W p l e rX12_feed s m args below meth c H locs 0 0 Q (F0 m 0 ls []) := by
  obtain ⟨⟨hx, hb, hml, hown, hts⟩, hK, hN, hA⟩ := C
  have C : jCx p s m args c cX12_feed 6 gX12_feed RX12 G D (jT cI cB cZ) A := ⟨⟨hx, hb, hml, hown, hts⟩, hK, hN, hA⟩
  unfold f_X12_feed at hf
  refine lv_aload_n hx hb dX12_feed_0 rfl (lv_at hl 0 rfl) ?_
  refine lv_iconst (v := (0 : Int32)) hx hb dX12_feed_1 (by decide) ?_
  refine va_put (D := D) (ci := 11) (v := .int (0 : Int32)) (ty := .int) (C := RX12) (T := TX12) (N := 74) hx hb hts iw_X12 tyX12 tyX12_ok nmX12 hown hK hP hD hS 0 rfl rfl 0 (by decide) (hts _ (wG_in k_fl_X12_177 rfl)) (fun _ h9 => h9) rfl (tyX12_ok 0 (by decide)) rfl rfl (Nat.le_of_ble_eq_true rfl) dX12_feed_2 (fun H locs hP hD hS => ?_)
  have hP : va_P D vwCl (w_X12_feed cI cB cZ a_t aX u_t_n u_t_ahead u_t_length u_t_begins u_t_sort u_t_value u_t_letters u_t_word u_t_wrongAt u_t_laterFault u_t_laterPlace u_t_newClasses u_t_newLines u_t_turns u_t_shortest u_t_orders u_t_rowNumber u_t_ties (0 : Int32) r_t_size r_t_tape) H := hP
  have hD : va_D A (w_X12_feed cI cB cZ a_t aX u_t_n u_t_ahead u_t_length u_t_begins u_t_sort u_t_value u_t_letters u_t_word u_t_wrongAt u_t_laterFault u_t_laterPlace u_t_newClasses u_t_newLines u_t_turns u_t_shortest u_t_orders u_t_rowNumber u_t_ties (0 : Int32) r_t_size r_t_tape) := hD
  refine lv_aload_n hx hb dX12_feed_5 rfl (lv_at hl 0 rfl) ?_
  refine va_get (D := D) (ci := 11) (v := .ref (aX 2)) (C := RX12) (T := TX12) (N := 74) hx hb hts iw_X12 hown hK hP 0 rfl rfl 2 (by decide) (hts _ (wG_in k_fl_X12_13 rfl)) (fun _ h9 => h9) rfl dX12_feed_6 ?_
  refine lv_iconst (v := (0 : Int32)) hx hb dX12_feed_9 (by decide) ?_
  obtain ⟨v1, hv1, iv1, hf⟩ := jL_some hf
  refine ja_iald (P := r_t_size) hx hb hK hP 1 0 rfl rfl hv1 iv1 dX12_feed_10 ?_
  refine lv_bipush (v := (20 : Int32)) hx hb dX12_feed_11 (by decide) ?_
  refine lv_iadd hx hb dX12_feed_13 ?_
  refine lv_sipush (v := (400 : Int32)) hx hb dX12_feed_14 (by decide) ?_
  refine lv_icmp_le (tgt := 22) hx hb dX12_feed_17 (by decide) (fun c2 => ?_) (fun c2 => ?_)
  · replace hf := jif_t c2 hf
    refine lv_aload_n hx hb dX12_feed_22 rfl (lv_at hl 0 rfl) ?_
    refine lv_iload_n hx hb dX12_feed_23 rfl (lv_at hl 1 rfl) ?_
    obtain ⟨r3, hgr3, hf⟩ := jM_some hf
    refine jcV_v (As := [.int x1]) (rest := []) ⟨hx, hb, hml, hown, hts⟩ hK hN hA (c_X12_four l G D cI cB cZ a_t aX (0 : Int32) u_t_n u_t_ahead u_t_length u_t_begins u_t_sort u_t_value u_t_letters u_t_word u_t_wrongAt u_t_laterFault u_t_laterPlace u_t_newClasses u_t_newLines u_t_turns u_t_shortest u_t_orders u_t_rowNumber u_t_ties r_t_size r_t_tape x1 hgr3) (cwV 1 hts (wG_V k_ml_X12_227 k_im_X12_four k_se_X12_four k_in_X12 k_co_X12_four) rfl rfl rfl hd_X12_four ⟨Nat.le_of_ble_eq_true rfl, Nat.le_of_ble_eq_true rfl⟩) hP hD hS [0, 1, 2] rfl rfl rfl (ci := 11) rfl 0 rfl rfl rfl hl.1 rfl (Nat.le_of_ble_eq_true rfl) dX12_feed_24 ⟨Nat.le_of_ble_eq_true rfl, Nat.le_of_ble_eq_true rfl⟩ (fun H locs hP hD hS => ?_)
    have hP : va_P D vwCl (w_X12_feed cI cB cZ a_t aX u_t_n u_t_ahead u_t_length u_t_begins u_t_sort u_t_value u_t_letters u_t_word u_t_wrongAt u_t_laterFault u_t_laterPlace u_t_newClasses u_t_newLines u_t_turns u_t_shortest u_t_orders u_t_rowNumber u_t_ties (0 : Int32) r3.1 r3.2) H := hP
    have hD : va_D A (w_X12_feed cI cB cZ a_t aX u_t_n u_t_ahead u_t_length u_t_begins u_t_sort u_t_value u_t_letters u_t_word u_t_wrongAt u_t_laterFault u_t_laterPlace u_t_newClasses u_t_newLines u_t_turns u_t_shortest u_t_orders u_t_rowNumber u_t_ties (0 : Int32) r3.1 r3.2) := hD
    refine lv_aload_n hx hb dX12_feed_27 rfl (lv_at hl 0 rfl) ?_
    refine lv_iload_n hx hb dX12_feed_28 rfl (lv_at hl 2 rfl) ?_
    obtain ⟨r4, hgr4, hf⟩ := jM_some hf
    refine jcV_v (As := [.int x2]) (rest := []) ⟨hx, hb, hml, hown, hts⟩ hK hN hA (c_X12_four l G D cI cB cZ a_t aX (0 : Int32) u_t_n u_t_ahead u_t_length u_t_begins u_t_sort u_t_value u_t_letters u_t_word u_t_wrongAt u_t_laterFault u_t_laterPlace u_t_newClasses u_t_newLines u_t_turns u_t_shortest u_t_orders u_t_rowNumber u_t_ties r3.1 r3.2 x2 hgr4) (cwV 1 hts (wG_V k_ml_X12_227 k_im_X12_four k_se_X12_four k_in_X12 k_co_X12_four) rfl rfl rfl hd_X12_four ⟨Nat.le_of_ble_eq_true rfl, Nat.le_of_ble_eq_true rfl⟩) hP hD hS [0, 1, 2] rfl rfl rfl (ci := 11) rfl 0 rfl rfl rfl hl.1 rfl (Nat.le_of_ble_eq_true rfl) dX12_feed_29 ⟨Nat.le_of_ble_eq_true rfl, Nat.le_of_ble_eq_true rfl⟩ (fun H locs hP hD hS => ?_)
    have hP : va_P D vwCl (w_X12_feed cI cB cZ a_t aX u_t_n u_t_ahead u_t_length u_t_begins u_t_sort u_t_value u_t_letters u_t_word u_t_wrongAt u_t_laterFault u_t_laterPlace u_t_newClasses u_t_newLines u_t_turns u_t_shortest u_t_orders u_t_rowNumber u_t_ties (0 : Int32) r4.1 r4.2) H := hP
    have hD : va_D A (w_X12_feed cI cB cZ a_t aX u_t_n u_t_ahead u_t_length u_t_begins u_t_sort u_t_value u_t_letters u_t_word u_t_wrongAt u_t_laterFault u_t_laterPlace u_t_newClasses u_t_newLines u_t_turns u_t_shortest u_t_orders u_t_rowNumber u_t_ties (0 : Int32) r4.1 r4.2) := hD
    refine lv_aload_n hx hb dX12_feed_32 rfl (lv_at hl 0 rfl) ?_
    refine lv_iload_n hx hb dX12_feed_33 rfl (lv_at hl 3 rfl) ?_
    obtain ⟨r5, hgr5, hf⟩ := jM_some hf
    refine jcV_v (As := [.int x3]) (rest := []) ⟨hx, hb, hml, hown, hts⟩ hK hN hA (c_X12_four l G D cI cB cZ a_t aX (0 : Int32) u_t_n u_t_ahead u_t_length u_t_begins u_t_sort u_t_value u_t_letters u_t_word u_t_wrongAt u_t_laterFault u_t_laterPlace u_t_newClasses u_t_newLines u_t_turns u_t_shortest u_t_orders u_t_rowNumber u_t_ties r4.1 r4.2 x3 hgr5) (cwV 1 hts (wG_V k_ml_X12_227 k_im_X12_four k_se_X12_four k_in_X12 k_co_X12_four) rfl rfl rfl hd_X12_four ⟨Nat.le_of_ble_eq_true rfl, Nat.le_of_ble_eq_true rfl⟩) hP hD hS [0, 1, 2] rfl rfl rfl (ci := 11) rfl 0 rfl rfl rfl hl.1 rfl (Nat.le_of_ble_eq_true rfl) dX12_feed_34 ⟨Nat.le_of_ble_eq_true rfl, Nat.le_of_ble_eq_true rfl⟩ (fun H locs hP hD hS => ?_)
    have hP : va_P D vwCl (w_X12_feed cI cB cZ a_t aX u_t_n u_t_ahead u_t_length u_t_begins u_t_sort u_t_value u_t_letters u_t_word u_t_wrongAt u_t_laterFault u_t_laterPlace u_t_newClasses u_t_newLines u_t_turns u_t_shortest u_t_orders u_t_rowNumber u_t_ties (0 : Int32) r5.1 r5.2) H := hP
    have hD : va_D A (w_X12_feed cI cB cZ a_t aX u_t_n u_t_ahead u_t_length u_t_begins u_t_sort u_t_value u_t_letters u_t_word u_t_wrongAt u_t_laterFault u_t_laterPlace u_t_newClasses u_t_newLines u_t_turns u_t_shortest u_t_orders u_t_rowNumber u_t_ties (0 : Int32) r5.1 r5.2) := hD
    refine lv_aload_n hx hb dX12_feed_37 rfl (lv_at hl 0 rfl) ?_
    refine lv_iload hx hb dX12_feed_38 (lv_at hl 4 rfl) ?_
    obtain ⟨r6, hgr6, hf⟩ := jM_some hf
    refine jcV_v (As := [.int x4]) (rest := []) ⟨hx, hb, hml, hown, hts⟩ hK hN hA (c_X12_four l G D cI cB cZ a_t aX (0 : Int32) u_t_n u_t_ahead u_t_length u_t_begins u_t_sort u_t_value u_t_letters u_t_word u_t_wrongAt u_t_laterFault u_t_laterPlace u_t_newClasses u_t_newLines u_t_turns u_t_shortest u_t_orders u_t_rowNumber u_t_ties r5.1 r5.2 x4 hgr6) (cwV 1 hts (wG_V k_ml_X12_227 k_im_X12_four k_se_X12_four k_in_X12 k_co_X12_four) rfl rfl rfl hd_X12_four ⟨Nat.le_of_ble_eq_true rfl, Nat.le_of_ble_eq_true rfl⟩) hP hD hS [0, 1, 2] rfl rfl rfl (ci := 11) rfl 0 rfl rfl rfl hl.1 rfl (Nat.le_of_ble_eq_true rfl) dX12_feed_40 ⟨Nat.le_of_ble_eq_true rfl, Nat.le_of_ble_eq_true rfl⟩ (fun H locs hP hD hS => ?_)
    have hP : va_P D vwCl (w_X12_feed cI cB cZ a_t aX u_t_n u_t_ahead u_t_length u_t_begins u_t_sort u_t_value u_t_letters u_t_word u_t_wrongAt u_t_laterFault u_t_laterPlace u_t_newClasses u_t_newLines u_t_turns u_t_shortest u_t_orders u_t_rowNumber u_t_ties (0 : Int32) r6.1 r6.2) H := hP
    have hD : va_D A (w_X12_feed cI cB cZ a_t aX u_t_n u_t_ahead u_t_length u_t_begins u_t_sort u_t_value u_t_letters u_t_word u_t_wrongAt u_t_laterFault u_t_laterPlace u_t_newClasses u_t_newLines u_t_turns u_t_shortest u_t_orders u_t_rowNumber u_t_ties (0 : Int32) r6.1 r6.2) := hD
    refine lv_aload_n hx hb dX12_feed_43 rfl (lv_at hl 0 rfl) ?_
    refine lv_iload hx hb dX12_feed_44 (lv_at hl 5 rfl) ?_
    obtain ⟨r7, hgr7, hf⟩ := jM_some hf
    refine jcV_v (As := [.int x5]) (rest := []) ⟨hx, hb, hml, hown, hts⟩ hK hN hA (c_X12_four l G D cI cB cZ a_t aX (0 : Int32) u_t_n u_t_ahead u_t_length u_t_begins u_t_sort u_t_value u_t_letters u_t_word u_t_wrongAt u_t_laterFault u_t_laterPlace u_t_newClasses u_t_newLines u_t_turns u_t_shortest u_t_orders u_t_rowNumber u_t_ties r6.1 r6.2 x5 hgr7) (cwV 1 hts (wG_V k_ml_X12_227 k_im_X12_four k_se_X12_four k_in_X12 k_co_X12_four) rfl rfl rfl hd_X12_four ⟨Nat.le_of_ble_eq_true rfl, Nat.le_of_ble_eq_true rfl⟩) hP hD hS [0, 1, 2] rfl rfl rfl (ci := 11) rfl 0 rfl rfl rfl hl.1 rfl (Nat.le_of_ble_eq_true rfl) dX12_feed_46 ⟨Nat.le_of_ble_eq_true rfl, Nat.le_of_ble_eq_true rfl⟩ (fun H locs hP hD hS => ?_)
    have hP : va_P D vwCl (w_X12_feed cI cB cZ a_t aX u_t_n u_t_ahead u_t_length u_t_begins u_t_sort u_t_value u_t_letters u_t_word u_t_wrongAt u_t_laterFault u_t_laterPlace u_t_newClasses u_t_newLines u_t_turns u_t_shortest u_t_orders u_t_rowNumber u_t_ties (0 : Int32) r7.1 r7.2) H := hP
    have hD : va_D A (w_X12_feed cI cB cZ a_t aX u_t_n u_t_ahead u_t_length u_t_begins u_t_sort u_t_value u_t_letters u_t_word u_t_wrongAt u_t_laterFault u_t_laterPlace u_t_newClasses u_t_newLines u_t_turns u_t_shortest u_t_orders u_t_rowNumber u_t_ties (0 : Int32) r7.1 r7.2) := hD
    refine lv_aload_n hx hb dX12_feed_49 rfl (lv_at hl 0 rfl) ?_
    refine va_get (D := D) (ci := 11) (v := .ref (aX 2)) (C := RX12) (T := TX12) (N := 74) hx hb hts iw_X12 hown hK hP 0 rfl rfl 2 (by decide) (hts _ (wG_in k_fl_X12_13 rfl)) (fun _ h9 => h9) rfl dX12_feed_50 ?_
    refine lv_iconst (v := (0 : Int32)) hx hb dX12_feed_53 (by decide) ?_
    obtain ⟨v8, hv8, iv8, hf⟩ := jL_some hf
    refine ja_iald (P := r7.1) hx hb hK hP 1 0 rfl rfl hv8 iv8 dX12_feed_54 ?_
    have ho := Option.some.inj hf
    subst ho
    exact K _ _ _ _ hP hS dX12_feed_55
  · replace hf := jif_f c2 hf
    refine lv_iconst (v := (-1 : Int32)) hx hb dX12_feed_20 (by decide) ?_
    have ho := Option.some.inj hf
    subst ho
    exact K _ _ _ _ hP hS dX12_feed_21
set_option maxHeartbeats 4000000 in
set_option maxRecDepth 100000 in
theorem c_X12_feed (l : Launch) (G : jGt) (D : va_G) (cI cB cZ : ClassId) (a_t : Nat) (aX : Nat → Nat) (u_t_n u_t_ahead u_t_length u_t_begins u_t_sort u_t_value u_t_letters : Int32) (u_t_word : Int64) (u_t_wrongAt u_t_laterFault u_t_laterPlace u_t_newClasses u_t_newLines u_t_turns u_t_shortest u_t_orders u_t_rowNumber u_t_ties : Int32) (s_t_code : Int32) (r_t_size r_t_tape : jA) (x1 x2 x3 x4 x5 : Int32) {o : Int32 × Int32 × jA × jA} (hf : f_X12_feed s_t_code r_t_size r_t_tape x1 x2 x3 x4 x5 = some o) : jMi l yX12_feed gX12_feed rX12_feed G D (jT cI cB cZ) [.ref a_t, .int x1, .int x2, .int x3, .int x4, .int x5] (w_X12_feed cI cB cZ a_t aX u_t_n u_t_ahead u_t_length u_t_begins u_t_sort u_t_value u_t_letters u_t_word u_t_wrongAt u_t_laterFault u_t_laterPlace u_t_newClasses u_t_newLines u_t_turns u_t_shortest u_t_orders u_t_rowNumber u_t_ties s_t_code r_t_size r_t_tape) (w_X12_feed cI cB cZ a_t aX u_t_n u_t_ahead u_t_length u_t_begins u_t_sort u_t_value u_t_letters u_t_word u_t_wrongAt u_t_laterFault u_t_laterPlace u_t_newClasses u_t_newLines u_t_turns u_t_shortest u_t_orders u_t_rowNumber u_t_ties o.2.1 o.2.2.1 o.2.2.2) o.1 := by
  refine jmk_i RX12 rfl (by decide +kernel) rfl (Nat.le_of_ble_eq_true rfl) rfl ?_
  intro p e s m args below meth c ls A Q C hP hD hS hl K
  exact t_X12_feed G D cI cB cZ a_t aX u_t_n u_t_ahead u_t_length u_t_begins u_t_sort u_t_value u_t_letters u_t_word u_t_wrongAt u_t_laterFault u_t_laterPlace u_t_newClasses u_t_newLines u_t_turns u_t_shortest u_t_orders u_t_rowNumber u_t_ties s_t_code r_t_size r_t_tape x1 x2 x3 x4 x5 C hf K hP hD hS hl
abbrev rX12_end : Room := { frames := 1, cells := 0, slots := 0, locals := 22 }
abbrev gX12_end : List Cond := wG yX12_end cX12_end 2 (some .int)
def w_X12_end (cI cB cZ : ClassId) (a_t : Nat) (aX : Nat → Nat) (u_t_n u_t_ahead u_t_length u_t_begins u_t_sort u_t_value u_t_letters : Int32) (u_t_word : Int64) (u_t_wrongAt u_t_laterFault u_t_laterPlace u_t_newClasses u_t_newLines u_t_turns u_t_shortest u_t_orders u_t_rowNumber u_t_ties s_t_code : Int32) (r_t_size : jA) : va_W := [(a_t, .inr (11, (oX12 aX s_t_code u_t_n u_t_ahead u_t_length u_t_begins u_t_sort u_t_value u_t_letters u_t_word u_t_wrongAt u_t_laterFault u_t_laterPlace u_t_newClasses u_t_newLines u_t_turns u_t_shortest u_t_orders u_t_rowNumber u_t_ties))), ((aX 2), .inl (cI, r_t_size.1, .inl r_t_size.2))]
def f_X12_end (s_t_code : Int32) (r_t_size : jA) (x1 : Int32) : Option (Int32 × Int32 × jA) :=
  jL r_t_size (0 : Int32) fun v1 =>
  jM (f_X12_in x1 (0 : Int32) v1) fun r2 =>
  if r2 = 0 then
  some ((-1 : Int32), (0 : Int32), r_t_size)
  else
  jS r_t_size (0 : Int32) x1 fun q4 =>
  some (x1, (0 : Int32), q4)
set_option maxHeartbeats 4000000 in
set_option maxRecDepth 100000 in
theorem t_X12_end {p : Program} {l : Launch} {e : Env} {s : State} {m : MethodId} {args : Array Value} {below : List Frame} {meth : Method} {c : Code} {A : Nat → Prop} {Q : State → Prop} (G : jGt) (D : va_G) (cI cB cZ : ClassId) (a_t : Nat) (aX : Nat → Nat) (u_t_n u_t_ahead u_t_length u_t_begins u_t_sort u_t_value u_t_letters : Int32) (u_t_word : Int64) (u_t_wrongAt u_t_laterFault u_t_laterPlace u_t_newClasses u_t_newLines u_t_turns u_t_shortest u_t_orders u_t_rowNumber u_t_ties : Int32) (s_t_code : Int32) (r_t_size : jA) (x1 : Int32) (C : jCx p s m args c cX12_end 2 gX12_end RX12 G D (jT cI cB cZ) A) {o : Int32 × Int32 × jA} (hf : f_X12_end s_t_code r_t_size x1 = some o) (K : ∀ (H : Heap) (locs : List Loc) (pc : Nat) (ls : Array Slot), va_P D vwCl (w_X12_end cI cB cZ a_t aX u_t_n u_t_ahead u_t_length u_t_begins u_t_sort u_t_value u_t_letters u_t_word u_t_wrongAt u_t_laterFault u_t_laterPlace u_t_newClasses u_t_newLines u_t_turns u_t_shortest u_t_orders u_t_rowNumber u_t_ties o.2.1 o.2.2) H → va_S A s.heap H locs → decode cX12_end pc = .ok (.ireturn, 1) → W p l e rX12_end s m args below meth c H locs 0 0 Q (F0 m pc ls [.int o.1])) {H : Heap} {locs : List Loc} {ls : Array Slot} (hP : va_P D vwCl (w_X12_end cI cB cZ a_t aX u_t_n u_t_ahead u_t_length u_t_begins u_t_sort u_t_value u_t_letters u_t_word u_t_wrongAt u_t_laterFault u_t_laterPlace u_t_newClasses u_t_newLines u_t_turns u_t_shortest u_t_orders u_t_rowNumber u_t_ties s_t_code r_t_size) H) (hD : va_D A (w_X12_end cI cB cZ a_t aX u_t_n u_t_ahead u_t_length u_t_begins u_t_sort u_t_value u_t_letters u_t_word u_t_wrongAt u_t_laterFault u_t_laterPlace u_t_newClasses u_t_newLines u_t_turns u_t_shortest u_t_orders u_t_rowNumber u_t_ties s_t_code r_t_size)) (hS : va_S A s.heap H locs) (hl : lv_has ls 2 [(0, .ref a_t), (1, .int x1)]) : W p l e rX12_end s m args below meth c H locs 0 0 Q (F0 m 0 ls []) := by
  obtain ⟨⟨hx, hb, hml, hown, hts⟩, hK, hN, hA⟩ := C
  have C : jCx p s m args c cX12_end 2 gX12_end RX12 G D (jT cI cB cZ) A := ⟨⟨hx, hb, hml, hown, hts⟩, hK, hN, hA⟩
  unfold f_X12_end at hf
  refine lv_aload_n hx hb dX12_end_0 rfl (lv_at hl 0 rfl) ?_
  refine lv_iconst (v := (0 : Int32)) hx hb dX12_end_1 (by decide) ?_
  refine va_put (D := D) (ci := 11) (v := .int (0 : Int32)) (ty := .int) (C := RX12) (T := TX12) (N := 74) hx hb hts iw_X12 tyX12 tyX12_ok nmX12 hown hK hP hD hS 0 rfl rfl 0 (by decide) (hts _ (wG_in k_fl_X12_177 rfl)) (fun _ h9 => h9) rfl (tyX12_ok 0 (by decide)) rfl rfl (Nat.le_of_ble_eq_true rfl) dX12_end_2 (fun H locs hP hD hS => ?_)
  have hP : va_P D vwCl (w_X12_end cI cB cZ a_t aX u_t_n u_t_ahead u_t_length u_t_begins u_t_sort u_t_value u_t_letters u_t_word u_t_wrongAt u_t_laterFault u_t_laterPlace u_t_newClasses u_t_newLines u_t_turns u_t_shortest u_t_orders u_t_rowNumber u_t_ties (0 : Int32) r_t_size) H := hP
  have hD : va_D A (w_X12_end cI cB cZ a_t aX u_t_n u_t_ahead u_t_length u_t_begins u_t_sort u_t_value u_t_letters u_t_word u_t_wrongAt u_t_laterFault u_t_laterPlace u_t_newClasses u_t_newLines u_t_turns u_t_shortest u_t_orders u_t_rowNumber u_t_ties (0 : Int32) r_t_size) := hD
  refine lv_iload_n hx hb dX12_end_5 rfl (lv_at hl 1 rfl) ?_
  refine lv_iconst (v := (0 : Int32)) hx hb dX12_end_6 (by decide) ?_
  refine lv_aload_n hx hb dX12_end_7 rfl (lv_at hl 0 rfl) ?_
  refine va_get (D := D) (ci := 11) (v := .ref (aX 2)) (C := RX12) (T := TX12) (N := 74) hx hb hts iw_X12 hown hK hP 0 rfl rfl 2 (by decide) (hts _ (wG_in k_fl_X12_13 rfl)) (fun _ h9 => h9) rfl dX12_end_8 ?_
  refine lv_iconst (v := (0 : Int32)) hx hb dX12_end_11 (by decide) ?_
  obtain ⟨v1, hv1, iv1, hf⟩ := jL_some hf
  refine ja_iald (P := r_t_size) hx hb hK hP 1 0 rfl rfl hv1 iv1 dX12_end_12 ?_
  obtain ⟨r2, hgr2, hf⟩ := jM_some hf
  refine jcS_i0 (As := [.int x1, .int (0 : Int32), .int v1]) (rest := []) ⟨hx, hb, hml, hown, hts⟩ hK hN hA (c_X12_in l G D cI cB cZ x1 (0 : Int32) v1 hgr2) (va_cwS 3 hts (wG_S k_ml_X12_231 k_st_X12_in k_in_X12 k_co_X12_in) rfl rfl rfl hd_X12_in.2 ⟨Nat.le_of_ble_eq_true rfl, Nat.le_of_ble_eq_true rfl⟩) hP hD hS [] rfl rfl rfl rfl hl.1 rfl (Nat.le_of_ble_eq_true rfl) dX12_end_13 ⟨Nat.le_of_ble_eq_true rfl, Nat.le_of_ble_eq_true rfl⟩ (fun H locs hP hD hS => ?_)
  refine lv_if_ne (tgt := 21) hx hb dX12_end_16 (by decide) (fun c3 => ?_) (fun c3 => ?_)
  · replace hf := jif_f c3 hf
    refine lv_aload_n hx hb dX12_end_21 rfl (lv_at hl 0 rfl) ?_
    refine va_get (D := D) (ci := 11) (v := .ref (aX 2)) (C := RX12) (T := TX12) (N := 74) hx hb hts iw_X12 hown hK hP 0 rfl rfl 2 (by decide) (hts _ (wG_in k_fl_X12_13 rfl)) (fun _ h9 => h9) rfl dX12_end_22 ?_
    refine lv_iconst (v := (0 : Int32)) hx hb dX12_end_25 (by decide) ?_
    refine lv_iload_n hx hb dX12_end_26 rfl (lv_at hl 1 rfl) ?_
    obtain ⟨q4, hq4, iq4, hf⟩ := jS_some hf
    refine ja_iast (P := r_t_size) (P' := q4) hx hb hK hP hD hS 1 0 rfl rfl hq4 iq4 dX12_end_27 (fun H locs hP hD hS => ?_)
    have hP : va_P D vwCl (w_X12_end cI cB cZ a_t aX u_t_n u_t_ahead u_t_length u_t_begins u_t_sort u_t_value u_t_letters u_t_word u_t_wrongAt u_t_laterFault u_t_laterPlace u_t_newClasses u_t_newLines u_t_turns u_t_shortest u_t_orders u_t_rowNumber u_t_ties (0 : Int32) q4) H := hP
    have hD : va_D A (w_X12_end cI cB cZ a_t aX u_t_n u_t_ahead u_t_length u_t_begins u_t_sort u_t_value u_t_letters u_t_word u_t_wrongAt u_t_laterFault u_t_laterPlace u_t_newClasses u_t_newLines u_t_turns u_t_shortest u_t_orders u_t_rowNumber u_t_ties (0 : Int32) q4) := hD
    refine lv_iload_n hx hb dX12_end_28 rfl (lv_at hl 1 rfl) ?_
    have ho := Option.some.inj hf
    subst ho
    exact K _ _ _ _ hP hS dX12_end_29
  · replace hf := jif_t c3 hf
    refine lv_iconst (v := (-1 : Int32)) hx hb dX12_end_19 (by decide) ?_
    have ho := Option.some.inj hf
    subst ho
    exact K _ _ _ _ hP hS dX12_end_20
set_option maxHeartbeats 4000000 in
set_option maxRecDepth 100000 in
theorem c_X12_end (l : Launch) (G : jGt) (D : va_G) (cI cB cZ : ClassId) (a_t : Nat) (aX : Nat → Nat) (u_t_n u_t_ahead u_t_length u_t_begins u_t_sort u_t_value u_t_letters : Int32) (u_t_word : Int64) (u_t_wrongAt u_t_laterFault u_t_laterPlace u_t_newClasses u_t_newLines u_t_turns u_t_shortest u_t_orders u_t_rowNumber u_t_ties : Int32) (s_t_code : Int32) (r_t_size : jA) (x1 : Int32) {o : Int32 × Int32 × jA} (hf : f_X12_end s_t_code r_t_size x1 = some o) : jMi l yX12_end gX12_end rX12_end G D (jT cI cB cZ) [.ref a_t, .int x1] (w_X12_end cI cB cZ a_t aX u_t_n u_t_ahead u_t_length u_t_begins u_t_sort u_t_value u_t_letters u_t_word u_t_wrongAt u_t_laterFault u_t_laterPlace u_t_newClasses u_t_newLines u_t_turns u_t_shortest u_t_orders u_t_rowNumber u_t_ties s_t_code r_t_size) (w_X12_end cI cB cZ a_t aX u_t_n u_t_ahead u_t_length u_t_begins u_t_sort u_t_value u_t_letters u_t_word u_t_wrongAt u_t_laterFault u_t_laterPlace u_t_newClasses u_t_newLines u_t_turns u_t_shortest u_t_orders u_t_rowNumber u_t_ties o.2.1 o.2.2) o.1 := by
  refine jmk_i RX12 rfl (by decide +kernel) rfl (Nat.le_of_ble_eq_true rfl) rfl ?_
  intro p e s m args below meth c ls A Q C hP hD hS hl K
  exact t_X12_end G D cI cB cZ a_t aX u_t_n u_t_ahead u_t_length u_t_begins u_t_sort u_t_value u_t_letters u_t_word u_t_wrongAt u_t_laterFault u_t_laterPlace u_t_newClasses u_t_newLines u_t_turns u_t_shortest u_t_orders u_t_rowNumber u_t_ties s_t_code r_t_size x1 C hf K hP hD hS hl
abbrev rX12_see : Room := { frames := 0, cells := 0, slots := 0, locals := 0 }
abbrev gX12_see : List Cond := wG yX12_see cX12_see 1 (some .int)
def w_X12_see (cI cB cZ : ClassId) (a_t : Nat) (aX : Nat → Nat) (u_t_code u_t_n u_t_begins u_t_sort u_t_value u_t_letters : Int32) (u_t_word : Int64) (u_t_wrongAt u_t_laterFault u_t_laterPlace u_t_newClasses u_t_newLines u_t_turns u_t_shortest u_t_orders u_t_rowNumber u_t_ties s_t_ahead s_t_length : Int32) (r_t_tape : jA) : va_W := [(a_t, .inr (11, (oX12 aX u_t_code u_t_n s_t_ahead s_t_length u_t_begins u_t_sort u_t_value u_t_letters u_t_word u_t_wrongAt u_t_laterFault u_t_laterPlace u_t_newClasses u_t_newLines u_t_turns u_t_shortest u_t_orders u_t_rowNumber u_t_ties))), ((aX 1), .inl (cB, r_t_tape.1, .inl r_t_tape.2))]
def f_X12_see (s_t_ahead s_t_length : Int32) (r_t_tape : jA) : Option (Int32) :=
  if s_t_length ≤ s_t_ahead then
  some (-1 : Int32)
  else
  jL r_t_tape s_t_ahead fun v2 =>
  some (v2 &&& (255 : Int32))
set_option maxHeartbeats 4000000 in
set_option maxRecDepth 100000 in
theorem t_X12_see {p : Program} {l : Launch} {e : Env} {s : State} {m : MethodId} {args : Array Value} {below : List Frame} {meth : Method} {c : Code} {A : Nat → Prop} {Q : State → Prop} (G : jGt) (D : va_G) (cI cB cZ : ClassId) (a_t : Nat) (aX : Nat → Nat) (u_t_code u_t_n u_t_begins u_t_sort u_t_value u_t_letters : Int32) (u_t_word : Int64) (u_t_wrongAt u_t_laterFault u_t_laterPlace u_t_newClasses u_t_newLines u_t_turns u_t_shortest u_t_orders u_t_rowNumber u_t_ties s_t_ahead s_t_length : Int32) (r_t_tape : jA)  (C : jCx p s m args c cX12_see 1 gX12_see RX12 G D (jT cI cB cZ) A) {o : Int32} (hf : f_X12_see s_t_ahead s_t_length r_t_tape = some o) (K : ∀ (H : Heap) (locs : List Loc) (pc : Nat) (ls : Array Slot), va_P D vwCl (w_X12_see cI cB cZ a_t aX u_t_code u_t_n u_t_begins u_t_sort u_t_value u_t_letters u_t_word u_t_wrongAt u_t_laterFault u_t_laterPlace u_t_newClasses u_t_newLines u_t_turns u_t_shortest u_t_orders u_t_rowNumber u_t_ties s_t_ahead s_t_length r_t_tape) H → va_S A s.heap H locs → decode cX12_see pc = .ok (.ireturn, 1) → W p l e rX12_see s m args below meth c H locs 0 0 Q (F0 m pc ls [.int o])) {H : Heap} {locs : List Loc} {ls : Array Slot} (hP : va_P D vwCl (w_X12_see cI cB cZ a_t aX u_t_code u_t_n u_t_begins u_t_sort u_t_value u_t_letters u_t_word u_t_wrongAt u_t_laterFault u_t_laterPlace u_t_newClasses u_t_newLines u_t_turns u_t_shortest u_t_orders u_t_rowNumber u_t_ties s_t_ahead s_t_length r_t_tape) H) (hD : va_D A (w_X12_see cI cB cZ a_t aX u_t_code u_t_n u_t_begins u_t_sort u_t_value u_t_letters u_t_word u_t_wrongAt u_t_laterFault u_t_laterPlace u_t_newClasses u_t_newLines u_t_turns u_t_shortest u_t_orders u_t_rowNumber u_t_ties s_t_ahead s_t_length r_t_tape)) (hS : va_S A s.heap H locs) (hl : lv_has ls 1 [(0, .ref a_t)]) : W p l e rX12_see s m args below meth c H locs 0 0 Q (F0 m 0 ls []) := by
  obtain ⟨⟨hx, hb, hml, hown, hts⟩, hK, hN, hA⟩ := C
  have C : jCx p s m args c cX12_see 1 gX12_see RX12 G D (jT cI cB cZ) A := ⟨⟨hx, hb, hml, hown, hts⟩, hK, hN, hA⟩
  unfold f_X12_see at hf
  refine lv_aload_n hx hb dX12_see_0 rfl (lv_at hl 0 rfl) ?_
  refine va_get (D := D) (ci := 11) (v := .int s_t_ahead) (C := RX12) (T := TX12) (N := 74) hx hb hts iw_X12 hown hK hP 0 rfl rfl 36 (by decide) (hts _ (wG_in k_fl_X12_235 rfl)) (fun _ h9 => h9) rfl dX12_see_1 ?_
  refine lv_aload_n hx hb dX12_see_4 rfl (lv_at hl 0 rfl) ?_
  refine va_get (D := D) (ci := 11) (v := .int s_t_length) (C := RX12) (T := TX12) (N := 74) hx hb hts iw_X12 hown hK hP 0 rfl rfl 37 (by decide) (hts _ (wG_in k_fl_X12_238 rfl)) (fun _ h9 => h9) rfl dX12_see_5 ?_
  refine lv_icmp_ge (tgt := 27) hx hb dX12_see_8 (by decide) (fun c1 => ?_) (fun c1 => ?_)
  · replace hf := jif_t c1 hf
    refine lv_iconst (v := (-1 : Int32)) hx hb dX12_see_27 (by decide) ?_
    have ho := Option.some.inj hf
    subst ho
    exact K _ _ _ _ hP hS dX12_see_28
  · replace hf := jif_f c1 hf
    refine lv_aload_n hx hb dX12_see_11 rfl (lv_at hl 0 rfl) ?_
    refine va_get (D := D) (ci := 11) (v := .ref (aX 1)) (C := RX12) (T := TX12) (N := 74) hx hb hts iw_X12 hown hK hP 0 rfl rfl 1 (by decide) (hts _ (wG_in k_fl_X12_7 rfl)) (fun _ h9 => h9) rfl dX12_see_12 ?_
    refine lv_aload_n hx hb dX12_see_15 rfl (lv_at hl 0 rfl) ?_
    refine va_get (D := D) (ci := 11) (v := .int s_t_ahead) (C := RX12) (T := TX12) (N := 74) hx hb hts iw_X12 hown hK hP 0 rfl rfl 36 (by decide) (hts _ (wG_in k_fl_X12_235 rfl)) (fun _ h9 => h9) rfl dX12_see_16 ?_
    obtain ⟨v2, hv2, iv2, hf⟩ := jL_some hf
    refine ja_bald (P := r_t_tape) hx hb hK hP 1 1 rfl rfl hv2 iv2 dX12_see_19 ?_
    refine lv_sipush (v := (255 : Int32)) hx hb dX12_see_20 (by decide) ?_
    refine lv_iand hx hb dX12_see_23 ?_
    refine lv_goto (tgt := 28) hx hb dX12_see_24 (by decide) ?_
    have ho := Option.some.inj hf
    subst ho
    exact K _ _ _ _ hP hS dX12_see_28
set_option maxHeartbeats 4000000 in
set_option maxRecDepth 100000 in
theorem c_X12_see (l : Launch) (G : jGt) (D : va_G) (cI cB cZ : ClassId) (a_t : Nat) (aX : Nat → Nat) (u_t_code u_t_n u_t_begins u_t_sort u_t_value u_t_letters : Int32) (u_t_word : Int64) (u_t_wrongAt u_t_laterFault u_t_laterPlace u_t_newClasses u_t_newLines u_t_turns u_t_shortest u_t_orders u_t_rowNumber u_t_ties s_t_ahead s_t_length : Int32) (r_t_tape : jA)  {o : Int32} (hf : f_X12_see s_t_ahead s_t_length r_t_tape = some o) : jMi l yX12_see gX12_see rX12_see G D (jT cI cB cZ) [.ref a_t] (w_X12_see cI cB cZ a_t aX u_t_code u_t_n u_t_begins u_t_sort u_t_value u_t_letters u_t_word u_t_wrongAt u_t_laterFault u_t_laterPlace u_t_newClasses u_t_newLines u_t_turns u_t_shortest u_t_orders u_t_rowNumber u_t_ties s_t_ahead s_t_length r_t_tape) (w_X12_see cI cB cZ a_t aX u_t_code u_t_n u_t_begins u_t_sort u_t_value u_t_letters u_t_word u_t_wrongAt u_t_laterFault u_t_laterPlace u_t_newClasses u_t_newLines u_t_turns u_t_shortest u_t_orders u_t_rowNumber u_t_ties s_t_ahead s_t_length r_t_tape) o := by
  refine jmk_i RX12 rfl (by decide +kernel) rfl (Nat.le_of_ble_eq_true rfl) rfl ?_
  intro p e s m args below meth c ls A Q C hP hD hS hl K
  exact t_X12_see G D cI cB cZ a_t aX u_t_code u_t_n u_t_begins u_t_sort u_t_value u_t_letters u_t_word u_t_wrongAt u_t_laterFault u_t_laterPlace u_t_newClasses u_t_newLines u_t_turns u_t_shortest u_t_orders u_t_rowNumber u_t_ties s_t_ahead s_t_length r_t_tape  C hf K hP hD hS hl
abbrev rX12_token : Room := { frames := 1, cells := 0, slots := 0, locals := 22 }
abbrev gX12_token : List Cond := wG yX12_token cX12_token 3 none
def w_X12_token (cI cB cZ : ClassId) (a_t : Nat) (aX : Nat → Nat) (u_t_code u_t_n u_t_wrongAt u_t_laterFault u_t_laterPlace u_t_newClasses u_t_newLines u_t_turns u_t_shortest u_t_orders u_t_rowNumber u_t_ties s_t_ahead s_t_begins s_t_length s_t_letters s_t_sort s_t_value : Int32) (s_t_word : Int64) (r_t_tape : jA) : va_W := [(a_t, .inr (11, (oX12 aX u_t_code u_t_n s_t_ahead s_t_length s_t_begins s_t_sort s_t_value s_t_letters s_t_word u_t_wrongAt u_t_laterFault u_t_laterPlace u_t_newClasses u_t_newLines u_t_turns u_t_shortest u_t_orders u_t_rowNumber u_t_ties))), ((aX 1), .inl (cB, r_t_tape.1, .inl r_t_tape.2))]
def f_X12_token_j18 (s_t_ahead s_t_begins s_t_letters s_t_sort s_t_value : Int32) (s_t_word : Int64) : Option ((Int32) ⊕ ((Int32))) :=
  jV (s_t_ahead + (1 : Int32)) fun v3 =>
  some (Sum.inl v3)
set_option maxHeartbeats 4000000 in
set_option maxRecDepth 100000 in
theorem t_X12_token_j18 {p : Program} {l : Launch} {e : Env} {s : State} {m : MethodId} {args : Array Value} {below : List Frame} {meth : Method} {c : Code} {A : Nat → Prop} {Q : State → Prop} (G : jGt) (D : va_G) (cI cB cZ : ClassId) (a_t : Nat) (aX : Nat → Nat) (u_t_code u_t_n u_t_wrongAt u_t_laterFault u_t_laterPlace u_t_newClasses u_t_newLines u_t_turns u_t_shortest u_t_orders u_t_rowNumber u_t_ties s_t_length : Int32) (r_t_tape : jA) (s_t_ahead s_t_begins s_t_letters s_t_sort s_t_value : Int32) (s_t_word : Int64) (C : jCx p s m args c cX12_token 3 gX12_token RX12 G D (jT cI cB cZ) A) {o : (Int32) ⊕ ((Int32))} (hf : f_X12_token_j18 s_t_ahead s_t_begins s_t_letters s_t_sort s_t_value s_t_word = some o) (K : (∀ z, o = Sum.inl z → ∀ (H : Heap) (locs : List Loc) (ls : Array Slot), va_P D vwCl (w_X12_token cI cB cZ a_t aX u_t_code u_t_n u_t_wrongAt u_t_laterFault u_t_laterPlace u_t_newClasses u_t_newLines u_t_turns u_t_shortest u_t_orders u_t_rowNumber u_t_ties z s_t_begins s_t_length s_t_letters s_t_sort s_t_value s_t_word r_t_tape) H → va_D A (w_X12_token cI cB cZ a_t aX u_t_code u_t_n u_t_wrongAt u_t_laterFault u_t_laterPlace u_t_newClasses u_t_newLines u_t_turns u_t_shortest u_t_orders u_t_rowNumber u_t_ties z s_t_begins s_t_length s_t_letters s_t_sort s_t_value s_t_word r_t_tape) → va_S A s.heap H locs → lv_has ls 3 [(0, .ref a_t)] → W p l e rX12_token s m args below meth c H locs 0 0 Q (F0 m 0 ls [])) ∧ (∀ z, o = Sum.inr z → ∀ (H : Heap) (locs : List Loc) (ls : Array Slot), va_P D vwCl (w_X12_token cI cB cZ a_t aX u_t_code u_t_n u_t_wrongAt u_t_laterFault u_t_laterPlace u_t_newClasses u_t_newLines u_t_turns u_t_shortest u_t_orders u_t_rowNumber u_t_ties z s_t_begins s_t_length s_t_letters s_t_sort s_t_value s_t_word r_t_tape) H → va_D A (w_X12_token cI cB cZ a_t aX u_t_code u_t_n u_t_wrongAt u_t_laterFault u_t_laterPlace u_t_newClasses u_t_newLines u_t_turns u_t_shortest u_t_orders u_t_rowNumber u_t_ties z s_t_begins s_t_length s_t_letters s_t_sort s_t_value s_t_word r_t_tape) → va_S A s.heap H locs → lv_has ls 3 [(0, .ref a_t)] → W p l e rX12_token s m args below meth c H locs 0 0 Q (F0 m 31 ls []))) {H : Heap} {locs : List Loc} {ls : Array Slot} (hP : va_P D vwCl (w_X12_token cI cB cZ a_t aX u_t_code u_t_n u_t_wrongAt u_t_laterFault u_t_laterPlace u_t_newClasses u_t_newLines u_t_turns u_t_shortest u_t_orders u_t_rowNumber u_t_ties s_t_ahead s_t_begins s_t_length s_t_letters s_t_sort s_t_value s_t_word r_t_tape) H) (hD : va_D A (w_X12_token cI cB cZ a_t aX u_t_code u_t_n u_t_wrongAt u_t_laterFault u_t_laterPlace u_t_newClasses u_t_newLines u_t_turns u_t_shortest u_t_orders u_t_rowNumber u_t_ties s_t_ahead s_t_begins s_t_length s_t_letters s_t_sort s_t_value s_t_word r_t_tape)) (hS : va_S A s.heap H locs) (hl : lv_has ls 3 [(0, .ref a_t)]) : W p l e rX12_token s m args below meth c H locs 0 0 Q (F0 m 18 ls []) := by
  obtain ⟨⟨hx, hb, hml, hown, hts⟩, hK, hN, hA⟩ := C
  have C : jCx p s m args c cX12_token 3 gX12_token RX12 G D (jT cI cB cZ) A := ⟨⟨hx, hb, hml, hown, hts⟩, hK, hN, hA⟩
  unfold f_X12_token_j18 at hf
  refine lv_aload_n hx hb dX12_token_18 rfl (lv_at hl 0 rfl) ?_
  refine lv_dup hx hb dX12_token_19 rfl ?_
  refine va_get (D := D) (ci := 11) (v := .int s_t_ahead) (C := RX12) (T := TX12) (N := 74) hx hb hts iw_X12 hown hK hP 0 rfl rfl 36 (by decide) (hts _ (wG_in k_fl_X12_235 rfl)) (fun _ h9 => h9) rfl dX12_token_20 ?_
  refine lv_iconst (v := (1 : Int32)) hx hb dX12_token_23 (by decide) ?_
  refine lv_iadd hx hb dX12_token_24 ?_
  obtain ⟨v3, hv3, hf⟩ := jV_some hf
  refine jtop hv3 ?_
  refine va_put (D := D) (ci := 11) (v := .int v3) (ty := .int) (C := RX12) (T := TX12) (N := 74) hx hb hts iw_X12 tyX12 tyX12_ok nmX12 hown hK hP hD hS 0 rfl rfl 36 (by decide) (hts _ (wG_in k_fl_X12_235 rfl)) (fun _ h9 => h9) rfl (tyX12_ok 36 (by decide)) rfl rfl (Nat.le_of_ble_eq_true rfl) dX12_token_25 (fun H locs hP hD hS => ?_)
  have hP : va_P D vwCl (w_X12_token cI cB cZ a_t aX u_t_code u_t_n u_t_wrongAt u_t_laterFault u_t_laterPlace u_t_newClasses u_t_newLines u_t_turns u_t_shortest u_t_orders u_t_rowNumber u_t_ties v3 s_t_begins s_t_length s_t_letters s_t_sort s_t_value s_t_word r_t_tape) H := hP
  have hD : va_D A (w_X12_token cI cB cZ a_t aX u_t_code u_t_n u_t_wrongAt u_t_laterFault u_t_laterPlace u_t_newClasses u_t_newLines u_t_turns u_t_shortest u_t_orders u_t_rowNumber u_t_ties v3 s_t_begins s_t_length s_t_letters s_t_sort s_t_value s_t_word r_t_tape) := hD
  refine lv_goto (tgt := 0) hx hb dX12_token_28 (by decide) ?_
  have ho := Option.some.inj hf
  exact K.1 _ ho.symm _ _ _ hP hD hS (lv_sub hl [0] rfl)
def f_X12_token_b0 (s_t_length : Int32) (r_t_tape : jA) (s_t_ahead s_t_begins s_t_letters s_t_sort s_t_value : Int32) (s_t_word : Int64) : Option ((Int32) ⊕ ((Int32))) :=
  jM (f_X12_see s_t_ahead s_t_length r_t_tape) fun r1 =>
  if r1 = (10 : Int32) then
  f_X12_token_j18 s_t_ahead s_t_begins s_t_letters s_t_sort s_t_value s_t_word
  else
  jM (f_X12_see s_t_ahead s_t_length r_t_tape) fun r4 =>
  if r4 = (32 : Int32) then
  f_X12_token_j18 s_t_ahead s_t_begins s_t_letters s_t_sort s_t_value s_t_word
  else
  some (Sum.inr s_t_ahead)
set_option maxHeartbeats 4000000 in
set_option maxRecDepth 100000 in
theorem t_X12_token_b0 {p : Program} {l : Launch} {e : Env} {s : State} {m : MethodId} {args : Array Value} {below : List Frame} {meth : Method} {c : Code} {A : Nat → Prop} {Q : State → Prop} (G : jGt) (D : va_G) (cI cB cZ : ClassId) (a_t : Nat) (aX : Nat → Nat) (u_t_code u_t_n u_t_wrongAt u_t_laterFault u_t_laterPlace u_t_newClasses u_t_newLines u_t_turns u_t_shortest u_t_orders u_t_rowNumber u_t_ties s_t_length : Int32) (r_t_tape : jA) (s_t_ahead s_t_begins s_t_letters s_t_sort s_t_value : Int32) (s_t_word : Int64) (C : jCx p s m args c cX12_token 3 gX12_token RX12 G D (jT cI cB cZ) A) {o : (Int32) ⊕ ((Int32))} (hf : f_X12_token_b0 s_t_length r_t_tape s_t_ahead s_t_begins s_t_letters s_t_sort s_t_value s_t_word = some o) (K : (∀ z, o = Sum.inl z → ∀ (H : Heap) (locs : List Loc) (ls : Array Slot), va_P D vwCl (w_X12_token cI cB cZ a_t aX u_t_code u_t_n u_t_wrongAt u_t_laterFault u_t_laterPlace u_t_newClasses u_t_newLines u_t_turns u_t_shortest u_t_orders u_t_rowNumber u_t_ties z s_t_begins s_t_length s_t_letters s_t_sort s_t_value s_t_word r_t_tape) H → va_D A (w_X12_token cI cB cZ a_t aX u_t_code u_t_n u_t_wrongAt u_t_laterFault u_t_laterPlace u_t_newClasses u_t_newLines u_t_turns u_t_shortest u_t_orders u_t_rowNumber u_t_ties z s_t_begins s_t_length s_t_letters s_t_sort s_t_value s_t_word r_t_tape) → va_S A s.heap H locs → lv_has ls 3 [(0, .ref a_t)] → W p l e rX12_token s m args below meth c H locs 0 0 Q (F0 m 0 ls [])) ∧ (∀ z, o = Sum.inr z → ∀ (H : Heap) (locs : List Loc) (ls : Array Slot), va_P D vwCl (w_X12_token cI cB cZ a_t aX u_t_code u_t_n u_t_wrongAt u_t_laterFault u_t_laterPlace u_t_newClasses u_t_newLines u_t_turns u_t_shortest u_t_orders u_t_rowNumber u_t_ties z s_t_begins s_t_length s_t_letters s_t_sort s_t_value s_t_word r_t_tape) H → va_D A (w_X12_token cI cB cZ a_t aX u_t_code u_t_n u_t_wrongAt u_t_laterFault u_t_laterPlace u_t_newClasses u_t_newLines u_t_turns u_t_shortest u_t_orders u_t_rowNumber u_t_ties z s_t_begins s_t_length s_t_letters s_t_sort s_t_value s_t_word r_t_tape) → va_S A s.heap H locs → lv_has ls 3 [(0, .ref a_t)] → W p l e rX12_token s m args below meth c H locs 0 0 Q (F0 m 31 ls []))) {H : Heap} {locs : List Loc} {ls : Array Slot} (hP : va_P D vwCl (w_X12_token cI cB cZ a_t aX u_t_code u_t_n u_t_wrongAt u_t_laterFault u_t_laterPlace u_t_newClasses u_t_newLines u_t_turns u_t_shortest u_t_orders u_t_rowNumber u_t_ties s_t_ahead s_t_begins s_t_length s_t_letters s_t_sort s_t_value s_t_word r_t_tape) H) (hD : va_D A (w_X12_token cI cB cZ a_t aX u_t_code u_t_n u_t_wrongAt u_t_laterFault u_t_laterPlace u_t_newClasses u_t_newLines u_t_turns u_t_shortest u_t_orders u_t_rowNumber u_t_ties s_t_ahead s_t_begins s_t_length s_t_letters s_t_sort s_t_value s_t_word r_t_tape)) (hS : va_S A s.heap H locs) (hl : lv_has ls 3 [(0, .ref a_t)]) : W p l e rX12_token s m args below meth c H locs 0 0 Q (F0 m 0 ls []) := by
  obtain ⟨⟨hx, hb, hml, hown, hts⟩, hK, hN, hA⟩ := C
  have C : jCx p s m args c cX12_token 3 gX12_token RX12 G D (jT cI cB cZ) A := ⟨⟨hx, hb, hml, hown, hts⟩, hK, hN, hA⟩
  unfold f_X12_token_b0 at hf
  refine lv_aload_n hx hb dX12_token_0 rfl (lv_at hl 0 rfl) ?_
  obtain ⟨r1, hgr1, hf⟩ := jM_some hf
  refine jcV_i0 (As := []) (rest := []) ⟨hx, hb, hml, hown, hts⟩ hK hN hA (c_X12_see l G D cI cB cZ a_t aX u_t_code u_t_n s_t_begins s_t_sort s_t_value s_t_letters s_t_word u_t_wrongAt u_t_laterFault u_t_laterPlace u_t_newClasses u_t_newLines u_t_turns u_t_shortest u_t_orders u_t_rowNumber u_t_ties s_t_ahead s_t_length r_t_tape hgr1) (cwV 0 hts (wG_V k_ml_X12_241 k_im_X12_see k_se_X12_see k_in_X12 k_co_X12_see) rfl rfl rfl hd_X12_see ⟨Nat.le_of_ble_eq_true rfl, Nat.le_of_ble_eq_true rfl⟩) hP hD hS [0, 1] rfl rfl rfl (ci := 11) rfl 0 rfl rfl rfl hl.1 rfl (Nat.le_of_ble_eq_true rfl) dX12_token_1 ⟨Nat.le_of_ble_eq_true rfl, Nat.le_of_ble_eq_true rfl⟩ (fun H locs hP hD hS => ?_)
  refine lv_bipush (v := (10 : Int32)) hx hb dX12_token_4 (by decide) ?_
  refine lv_icmp_eq (tgt := 18) hx hb dX12_token_6 (by decide) (fun c2 => ?_) (fun c2 => ?_)
  · replace hf := jif_t c2 hf
    exact t_X12_token_j18 G D cI cB cZ a_t aX u_t_code u_t_n u_t_wrongAt u_t_laterFault u_t_laterPlace u_t_newClasses u_t_newLines u_t_turns u_t_shortest u_t_orders u_t_rowNumber u_t_ties s_t_length r_t_tape s_t_ahead s_t_begins s_t_letters s_t_sort s_t_value s_t_word C hf K hP hD hS (lv_sub hl [0] rfl)
  · replace hf := jif_f c2 hf
    refine lv_aload_n hx hb dX12_token_9 rfl (lv_at hl 0 rfl) ?_
    obtain ⟨r4, hgr4, hf⟩ := jM_some hf
    refine jcV_i0 (As := []) (rest := []) ⟨hx, hb, hml, hown, hts⟩ hK hN hA (c_X12_see l G D cI cB cZ a_t aX u_t_code u_t_n s_t_begins s_t_sort s_t_value s_t_letters s_t_word u_t_wrongAt u_t_laterFault u_t_laterPlace u_t_newClasses u_t_newLines u_t_turns u_t_shortest u_t_orders u_t_rowNumber u_t_ties s_t_ahead s_t_length r_t_tape hgr4) (cwV 0 hts (wG_V k_ml_X12_241 k_im_X12_see k_se_X12_see k_in_X12 k_co_X12_see) rfl rfl rfl hd_X12_see ⟨Nat.le_of_ble_eq_true rfl, Nat.le_of_ble_eq_true rfl⟩) hP hD hS [0, 1] rfl rfl rfl (ci := 11) rfl 0 rfl rfl rfl hl.1 rfl (Nat.le_of_ble_eq_true rfl) dX12_token_10 ⟨Nat.le_of_ble_eq_true rfl, Nat.le_of_ble_eq_true rfl⟩ (fun H locs hP hD hS => ?_)
    refine lv_bipush (v := (32 : Int32)) hx hb dX12_token_13 (by decide) ?_
    refine lv_icmp_ne (tgt := 31) hx hb dX12_token_15 (by decide) (fun c5 => ?_) (fun c5 => ?_)
    · replace hf := jif_f c5 hf
      have ho := Option.some.inj hf
      exact (K.2 _ ho.symm) _ _ _ hP hD hS (lv_sub hl [0] rfl)
    · replace hf := jif_t c5 hf
      exact t_X12_token_j18 G D cI cB cZ a_t aX u_t_code u_t_n u_t_wrongAt u_t_laterFault u_t_laterPlace u_t_newClasses u_t_newLines u_t_turns u_t_shortest u_t_orders u_t_rowNumber u_t_ties s_t_length r_t_tape s_t_ahead s_t_begins s_t_letters s_t_sort s_t_value s_t_word C hf K hP hD hS (lv_sub hl [0] rfl)
def f_X12_token_l0 (s_t_length : Int32) (r_t_tape : jA) (s_t_begins s_t_letters s_t_sort s_t_value : Int32) (s_t_word : Int64) (s_t_ahead : Int32) : Option ((Int32)) :=
  jI (fun z => f_X12_token_b0 s_t_length r_t_tape z s_t_begins s_t_letters s_t_sort s_t_value s_t_word) jF s_t_ahead
set_option maxHeartbeats 4000000 in
set_option maxRecDepth 100000 in
theorem t_X12_token_l0 {p : Program} {l : Launch} {e : Env} {s : State} {m : MethodId} {args : Array Value} {below : List Frame} {meth : Method} {c : Code} {A : Nat → Prop} {Q : State → Prop} (G : jGt) (D : va_G) (cI cB cZ : ClassId) (a_t : Nat) (aX : Nat → Nat) (u_t_code u_t_n u_t_wrongAt u_t_laterFault u_t_laterPlace u_t_newClasses u_t_newLines u_t_turns u_t_shortest u_t_orders u_t_rowNumber u_t_ties s_t_length : Int32) (r_t_tape : jA) (s_t_begins s_t_letters s_t_sort s_t_value : Int32) (s_t_word : Int64) (C : jCx p s m args c cX12_token 3 gX12_token RX12 G D (jT cI cB cZ) A) : ∀ (n : Nat) (s_t_ahead : Int32) {eo : (Int32)}, jI (fun z => f_X12_token_b0 s_t_length r_t_tape z s_t_begins s_t_letters s_t_sort s_t_value s_t_word) n s_t_ahead = some eo → (∀ (H : Heap) (locs : List Loc) (ls : Array Slot), va_P D vwCl (w_X12_token cI cB cZ a_t aX u_t_code u_t_n u_t_wrongAt u_t_laterFault u_t_laterPlace u_t_newClasses u_t_newLines u_t_turns u_t_shortest u_t_orders u_t_rowNumber u_t_ties eo s_t_begins s_t_length s_t_letters s_t_sort s_t_value s_t_word r_t_tape) H → va_D A (w_X12_token cI cB cZ a_t aX u_t_code u_t_n u_t_wrongAt u_t_laterFault u_t_laterPlace u_t_newClasses u_t_newLines u_t_turns u_t_shortest u_t_orders u_t_rowNumber u_t_ties eo s_t_begins s_t_length s_t_letters s_t_sort s_t_value s_t_word r_t_tape) → va_S A s.heap H locs → lv_has ls 3 [(0, .ref a_t)] → W p l e rX12_token s m args below meth c H locs 0 0 Q (F0 m 31 ls [])) → ∀ (H : Heap) (locs : List Loc) (ls : Array Slot), va_P D vwCl (w_X12_token cI cB cZ a_t aX u_t_code u_t_n u_t_wrongAt u_t_laterFault u_t_laterPlace u_t_newClasses u_t_newLines u_t_turns u_t_shortest u_t_orders u_t_rowNumber u_t_ties s_t_ahead s_t_begins s_t_length s_t_letters s_t_sort s_t_value s_t_word r_t_tape) H → va_D A (w_X12_token cI cB cZ a_t aX u_t_code u_t_n u_t_wrongAt u_t_laterFault u_t_laterPlace u_t_newClasses u_t_newLines u_t_turns u_t_shortest u_t_orders u_t_rowNumber u_t_ties s_t_ahead s_t_begins s_t_length s_t_letters s_t_sort s_t_value s_t_word r_t_tape) → va_S A s.heap H locs → lv_has ls 3 [(0, .ref a_t)] → W p l e rX12_token s m args below meth c H locs 0 0 Q (F0 m 0 ls []) := by
  intro n
  induction n with
  | zero =>
    intro s_t_ahead eo hf
    exact (jI_zero hf).elim
  | succ n ih =>
    intro s_t_ahead eo hf K H locs ls hP hD hS hl
    obtain ⟨o, hb1, ho⟩ := jI_some hf
    rcases ho with ⟨z, rfl, hf2⟩ | rfl
    · exact t_X12_token_b0 G D cI cB cZ a_t aX u_t_code u_t_n u_t_wrongAt u_t_laterFault u_t_laterPlace u_t_newClasses u_t_newLines u_t_turns u_t_shortest u_t_orders u_t_rowNumber u_t_ties s_t_length r_t_tape s_t_ahead s_t_begins s_t_letters s_t_sort s_t_value s_t_word C hb1 ⟨fun z2 hz H locs ls hP hD hS hl => by cases hz; exact ih z hf2 K H locs ls hP hD hS hl, fun z2 hz => by cases hz⟩ hP hD hS hl
    · exact t_X12_token_b0 G D cI cB cZ a_t aX u_t_code u_t_n u_t_wrongAt u_t_laterFault u_t_laterPlace u_t_newClasses u_t_newLines u_t_turns u_t_shortest u_t_orders u_t_rowNumber u_t_ties s_t_length r_t_tape s_t_ahead s_t_begins s_t_letters s_t_sort s_t_value s_t_word C hb1 ⟨fun z2 hz => (by cases hz), fun z2 hz => by cases hz; exact K⟩ hP hD hS hl
def f_X12_token_j283 (s_t_ahead s_t_begins s_t_letters s_t_sort s_t_value : Int32) (s_t_word : Int64) (k1 : Int32) : Option (Int32 × Int32 × Int32 × Int32 × Int32 × Int64) :=
  some (s_t_ahead, s_t_begins, s_t_letters, k1, s_t_value, s_t_word)
set_option maxHeartbeats 4000000 in
set_option maxRecDepth 100000 in
theorem t_X12_token_j283 {p : Program} {l : Launch} {e : Env} {s : State} {m : MethodId} {args : Array Value} {below : List Frame} {meth : Method} {c : Code} {A : Nat → Prop} {Q : State → Prop} (G : jGt) (D : va_G) (cI cB cZ : ClassId) (a_t : Nat) (aX : Nat → Nat) (u_t_code u_t_n u_t_wrongAt u_t_laterFault u_t_laterPlace u_t_newClasses u_t_newLines u_t_turns u_t_shortest u_t_orders u_t_rowNumber u_t_ties s_t_length : Int32) (r_t_tape : jA) (s_t_ahead s_t_begins s_t_letters s_t_sort s_t_value : Int32) (s_t_word : Int64) (k1 : Int32) (C : jCx p s m args c cX12_token 3 gX12_token RX12 G D (jT cI cB cZ) A) {o : Int32 × Int32 × Int32 × Int32 × Int32 × Int64} (hf : f_X12_token_j283 s_t_ahead s_t_begins s_t_letters s_t_sort s_t_value s_t_word k1 = some o) (K : ∀ (H : Heap) (locs : List Loc) (pc : Nat) (ls : Array Slot), va_P D vwCl (w_X12_token cI cB cZ a_t aX u_t_code u_t_n u_t_wrongAt u_t_laterFault u_t_laterPlace u_t_newClasses u_t_newLines u_t_turns u_t_shortest u_t_orders u_t_rowNumber u_t_ties o.1 o.2.1 s_t_length o.2.2.1 o.2.2.2.1 o.2.2.2.2.1 o.2.2.2.2.2 r_t_tape) H → va_S A s.heap H locs → decode cX12_token pc = .ok (.return_, 1) → W p l e rX12_token s m args below meth c H locs 0 0 Q (F0 m pc ls [])) {H : Heap} {locs : List Loc} {ls : Array Slot} (hP : va_P D vwCl (w_X12_token cI cB cZ a_t aX u_t_code u_t_n u_t_wrongAt u_t_laterFault u_t_laterPlace u_t_newClasses u_t_newLines u_t_turns u_t_shortest u_t_orders u_t_rowNumber u_t_ties s_t_ahead s_t_begins s_t_length s_t_letters s_t_sort s_t_value s_t_word r_t_tape) H) (hD : va_D A (w_X12_token cI cB cZ a_t aX u_t_code u_t_n u_t_wrongAt u_t_laterFault u_t_laterPlace u_t_newClasses u_t_newLines u_t_turns u_t_shortest u_t_orders u_t_rowNumber u_t_ties s_t_ahead s_t_begins s_t_length s_t_letters s_t_sort s_t_value s_t_word r_t_tape)) (hS : va_S A s.heap H locs) (hl : lv_has ls 3 []) : W p l e rX12_token s m args below meth c H locs 0 0 Q (F0 m 283 ls [.int k1, .ref a_t]) := by
  obtain ⟨⟨hx, hb, hml, hown, hts⟩, hK, hN, hA⟩ := C
  have C : jCx p s m args c cX12_token 3 gX12_token RX12 G D (jT cI cB cZ) A := ⟨⟨hx, hb, hml, hown, hts⟩, hK, hN, hA⟩
  unfold f_X12_token_j283 at hf
  refine va_put (D := D) (ci := 11) (v := .int k1) (ty := .int) (C := RX12) (T := TX12) (N := 74) hx hb hts iw_X12 tyX12 tyX12_ok nmX12 hown hK hP hD hS 0 rfl rfl 39 (by decide) (hts _ (wG_in k_fl_X12_257 rfl)) (fun _ h9 => h9) rfl (tyX12_ok 39 (by decide)) rfl rfl (Nat.le_of_ble_eq_true rfl) dX12_token_283 (fun H locs hP hD hS => ?_)
  have hP : va_P D vwCl (w_X12_token cI cB cZ a_t aX u_t_code u_t_n u_t_wrongAt u_t_laterFault u_t_laterPlace u_t_newClasses u_t_newLines u_t_turns u_t_shortest u_t_orders u_t_rowNumber u_t_ties s_t_ahead s_t_begins s_t_length s_t_letters k1 s_t_value s_t_word r_t_tape) H := hP
  have hD : va_D A (w_X12_token cI cB cZ a_t aX u_t_code u_t_n u_t_wrongAt u_t_laterFault u_t_laterPlace u_t_newClasses u_t_newLines u_t_turns u_t_shortest u_t_orders u_t_rowNumber u_t_ties s_t_ahead s_t_begins s_t_length s_t_letters k1 s_t_value s_t_word r_t_tape) := hD
  have ho := Option.some.inj hf
  subst ho
  exact K _ _ _ _ hP hS dX12_token_286
def f_X12_token_j225 (s_t_ahead s_t_begins s_t_letters s_t_sort s_t_value : Int32) (s_t_word : Int64) (x2 k1 : Int32) : Option ((Int32 × Int32 × Int32) ⊕ ((Int32 × Int32 × Int32))) :=
  jV (s_t_ahead + (1 : Int32)) fun v19 =>
  some (Sum.inl (v19, k1, (x2 + 1)))
set_option maxHeartbeats 4000000 in
set_option maxRecDepth 100000 in
theorem t_X12_token_j225 {p : Program} {l : Launch} {e : Env} {s : State} {m : MethodId} {args : Array Value} {below : List Frame} {meth : Method} {c : Code} {A : Nat → Prop} {Q : State → Prop} (G : jGt) (D : va_G) (cI cB cZ : ClassId) (a_t : Nat) (aX : Nat → Nat) (u_t_code u_t_n u_t_wrongAt u_t_laterFault u_t_laterPlace u_t_newClasses u_t_newLines u_t_turns u_t_shortest u_t_orders u_t_rowNumber u_t_ties s_t_length : Int32) (r_t_tape : jA) (s_t_ahead s_t_begins s_t_letters s_t_sort s_t_value : Int32) (s_t_word : Int64) (x2 k1 : Int32) (C : jCx p s m args c cX12_token 3 gX12_token RX12 G D (jT cI cB cZ) A) {o : (Int32 × Int32 × Int32) ⊕ ((Int32 × Int32 × Int32))} (hf : f_X12_token_j225 s_t_ahead s_t_begins s_t_letters s_t_sort s_t_value s_t_word x2 k1 = some o) (K : (∀ z, o = Sum.inl z → ∀ (H : Heap) (locs : List Loc) (ls : Array Slot), va_P D vwCl (w_X12_token cI cB cZ a_t aX u_t_code u_t_n u_t_wrongAt u_t_laterFault u_t_laterPlace u_t_newClasses u_t_newLines u_t_turns u_t_shortest u_t_orders u_t_rowNumber u_t_ties z.1 s_t_begins s_t_length s_t_letters s_t_sort z.2.1 s_t_word r_t_tape) H → va_D A (w_X12_token cI cB cZ a_t aX u_t_code u_t_n u_t_wrongAt u_t_laterFault u_t_laterPlace u_t_newClasses u_t_newLines u_t_turns u_t_shortest u_t_orders u_t_rowNumber u_t_ties z.1 s_t_begins s_t_length s_t_letters s_t_sort z.2.1 s_t_word r_t_tape) → va_S A s.heap H locs → lv_has ls 3 [(0, .ref a_t), (2, .int z.2.2)] → W p l e rX12_token s m args below meth c H locs 0 0 Q (F0 m 183 ls [])) ∧ (∀ z, o = Sum.inr z → ∀ (H : Heap) (locs : List Loc) (ls : Array Slot), va_P D vwCl (w_X12_token cI cB cZ a_t aX u_t_code u_t_n u_t_wrongAt u_t_laterFault u_t_laterPlace u_t_newClasses u_t_newLines u_t_turns u_t_shortest u_t_orders u_t_rowNumber u_t_ties z.1 s_t_begins s_t_length s_t_letters s_t_sort z.2.1 s_t_word r_t_tape) H → va_D A (w_X12_token cI cB cZ a_t aX u_t_code u_t_n u_t_wrongAt u_t_laterFault u_t_laterPlace u_t_newClasses u_t_newLines u_t_turns u_t_shortest u_t_orders u_t_rowNumber u_t_ties z.1 s_t_begins s_t_length s_t_letters s_t_sort z.2.1 s_t_word r_t_tape) → va_S A s.heap H locs → lv_has ls 3 [(0, .ref a_t), (2, .int z.2.2)] → W p l e rX12_token s m args below meth c H locs 0 0 Q (F0 m 244 ls []))) {H : Heap} {locs : List Loc} {ls : Array Slot} (hP : va_P D vwCl (w_X12_token cI cB cZ a_t aX u_t_code u_t_n u_t_wrongAt u_t_laterFault u_t_laterPlace u_t_newClasses u_t_newLines u_t_turns u_t_shortest u_t_orders u_t_rowNumber u_t_ties s_t_ahead s_t_begins s_t_length s_t_letters s_t_sort s_t_value s_t_word r_t_tape) H) (hD : va_D A (w_X12_token cI cB cZ a_t aX u_t_code u_t_n u_t_wrongAt u_t_laterFault u_t_laterPlace u_t_newClasses u_t_newLines u_t_turns u_t_shortest u_t_orders u_t_rowNumber u_t_ties s_t_ahead s_t_begins s_t_length s_t_letters s_t_sort s_t_value s_t_word r_t_tape)) (hS : va_S A s.heap H locs) (hl : lv_has ls 3 [(0, .ref a_t), (2, .int x2)]) : W p l e rX12_token s m args below meth c H locs 0 0 Q (F0 m 225 ls [.int k1, .ref a_t]) := by
  obtain ⟨⟨hx, hb, hml, hown, hts⟩, hK, hN, hA⟩ := C
  have C : jCx p s m args c cX12_token 3 gX12_token RX12 G D (jT cI cB cZ) A := ⟨⟨hx, hb, hml, hown, hts⟩, hK, hN, hA⟩
  unfold f_X12_token_j225 at hf
  refine va_put (D := D) (ci := 11) (v := .int k1) (ty := .int) (C := RX12) (T := TX12) (N := 74) hx hb hts iw_X12 tyX12 tyX12_ok nmX12 hown hK hP hD hS 0 rfl rfl 40 (by decide) (hts _ (wG_in k_fl_X12_247 rfl)) (fun _ h9 => h9) rfl (tyX12_ok 40 (by decide)) rfl rfl (Nat.le_of_ble_eq_true rfl) dX12_token_225 (fun H locs hP hD hS => ?_)
  have hP : va_P D vwCl (w_X12_token cI cB cZ a_t aX u_t_code u_t_n u_t_wrongAt u_t_laterFault u_t_laterPlace u_t_newClasses u_t_newLines u_t_turns u_t_shortest u_t_orders u_t_rowNumber u_t_ties s_t_ahead s_t_begins s_t_length s_t_letters s_t_sort k1 s_t_word r_t_tape) H := hP
  have hD : va_D A (w_X12_token cI cB cZ a_t aX u_t_code u_t_n u_t_wrongAt u_t_laterFault u_t_laterPlace u_t_newClasses u_t_newLines u_t_turns u_t_shortest u_t_orders u_t_rowNumber u_t_ties s_t_ahead s_t_begins s_t_length s_t_letters s_t_sort k1 s_t_word r_t_tape) := hD
  refine lv_aload_n hx hb dX12_token_228 rfl (lv_at hl 0 rfl) ?_
  refine lv_dup hx hb dX12_token_229 rfl ?_
  refine va_get (D := D) (ci := 11) (v := .int s_t_ahead) (C := RX12) (T := TX12) (N := 74) hx hb hts iw_X12 hown hK hP 0 rfl rfl 36 (by decide) (hts _ (wG_in k_fl_X12_235 rfl)) (fun _ h9 => h9) rfl dX12_token_230 ?_
  refine lv_iconst (v := (1 : Int32)) hx hb dX12_token_233 (by decide) ?_
  refine lv_iadd hx hb dX12_token_234 ?_
  obtain ⟨v19, hv19, hf⟩ := jV_some hf
  refine jtop hv19 ?_
  refine va_put (D := D) (ci := 11) (v := .int v19) (ty := .int) (C := RX12) (T := TX12) (N := 74) hx hb hts iw_X12 tyX12 tyX12_ok nmX12 hown hK hP hD hS 0 rfl rfl 36 (by decide) (hts _ (wG_in k_fl_X12_235 rfl)) (fun _ h9 => h9) rfl (tyX12_ok 36 (by decide)) rfl rfl (Nat.le_of_ble_eq_true rfl) dX12_token_235 (fun H locs hP hD hS => ?_)
  have hP : va_P D vwCl (w_X12_token cI cB cZ a_t aX u_t_code u_t_n u_t_wrongAt u_t_laterFault u_t_laterPlace u_t_newClasses u_t_newLines u_t_turns u_t_shortest u_t_orders u_t_rowNumber u_t_ties v19 s_t_begins s_t_length s_t_letters s_t_sort k1 s_t_word r_t_tape) H := hP
  have hD : va_D A (w_X12_token cI cB cZ a_t aX u_t_code u_t_n u_t_wrongAt u_t_laterFault u_t_laterPlace u_t_newClasses u_t_newLines u_t_turns u_t_shortest u_t_orders u_t_rowNumber u_t_ties v19 s_t_begins s_t_length s_t_letters s_t_sort k1 s_t_word r_t_tape) := hD
  refine lv_iinc (v := (x2 + 1)) (lv' := [(2, .int (x2 + 1)), (0, .ref a_t)]) hx hb dX12_token_238 hl (k := 1) rfl (by first | rfl | decide) (by decide) rfl (fun ls hl => ?_)
  refine lv_goto (tgt := 183) hx hb dX12_token_241 (by decide) ?_
  have ho := Option.some.inj hf
  exact K.1 _ ho.symm _ _ _ hP hD hS (lv_sub hl [1, 0] rfl)
def f_X12_token_b183 (s_t_length : Int32) (r_t_tape : jA) (s_t_ahead s_t_begins s_t_letters s_t_sort s_t_value : Int32) (s_t_word : Int64) (x2 : Int32) : Option ((Int32 × Int32 × Int32) ⊕ ((Int32 × Int32 × Int32))) :=
  jM (f_X12_see s_t_ahead s_t_length r_t_tape) fun r15 =>
  jM (f_X12_in r15 (48 : Int32) (57 : Int32)) fun r16 =>
  if r16 = 0 then
  some (Sum.inr (s_t_ahead, s_t_value, x2))
  else
  if (4 : Int32) ≤ x2 then
  f_X12_token_j225 s_t_ahead s_t_begins s_t_letters s_t_sort s_t_value s_t_word x2 s_t_value
  else
  jM (f_X12_see s_t_ahead s_t_length r_t_tape) fun r20 =>
  f_X12_token_j225 s_t_ahead s_t_begins s_t_letters s_t_sort s_t_value s_t_word x2 ((((10 : Int32) * s_t_value) + r20) - (48 : Int32))
set_option maxHeartbeats 4000000 in
set_option maxRecDepth 100000 in
theorem t_X12_token_b183 {p : Program} {l : Launch} {e : Env} {s : State} {m : MethodId} {args : Array Value} {below : List Frame} {meth : Method} {c : Code} {A : Nat → Prop} {Q : State → Prop} (G : jGt) (D : va_G) (cI cB cZ : ClassId) (a_t : Nat) (aX : Nat → Nat) (u_t_code u_t_n u_t_wrongAt u_t_laterFault u_t_laterPlace u_t_newClasses u_t_newLines u_t_turns u_t_shortest u_t_orders u_t_rowNumber u_t_ties s_t_length : Int32) (r_t_tape : jA) (s_t_ahead s_t_begins s_t_letters s_t_sort s_t_value : Int32) (s_t_word : Int64) (x2 : Int32) (C : jCx p s m args c cX12_token 3 gX12_token RX12 G D (jT cI cB cZ) A) {o : (Int32 × Int32 × Int32) ⊕ ((Int32 × Int32 × Int32))} (hf : f_X12_token_b183 s_t_length r_t_tape s_t_ahead s_t_begins s_t_letters s_t_sort s_t_value s_t_word x2 = some o) (K : (∀ z, o = Sum.inl z → ∀ (H : Heap) (locs : List Loc) (ls : Array Slot), va_P D vwCl (w_X12_token cI cB cZ a_t aX u_t_code u_t_n u_t_wrongAt u_t_laterFault u_t_laterPlace u_t_newClasses u_t_newLines u_t_turns u_t_shortest u_t_orders u_t_rowNumber u_t_ties z.1 s_t_begins s_t_length s_t_letters s_t_sort z.2.1 s_t_word r_t_tape) H → va_D A (w_X12_token cI cB cZ a_t aX u_t_code u_t_n u_t_wrongAt u_t_laterFault u_t_laterPlace u_t_newClasses u_t_newLines u_t_turns u_t_shortest u_t_orders u_t_rowNumber u_t_ties z.1 s_t_begins s_t_length s_t_letters s_t_sort z.2.1 s_t_word r_t_tape) → va_S A s.heap H locs → lv_has ls 3 [(0, .ref a_t), (2, .int z.2.2)] → W p l e rX12_token s m args below meth c H locs 0 0 Q (F0 m 183 ls [])) ∧ (∀ z, o = Sum.inr z → ∀ (H : Heap) (locs : List Loc) (ls : Array Slot), va_P D vwCl (w_X12_token cI cB cZ a_t aX u_t_code u_t_n u_t_wrongAt u_t_laterFault u_t_laterPlace u_t_newClasses u_t_newLines u_t_turns u_t_shortest u_t_orders u_t_rowNumber u_t_ties z.1 s_t_begins s_t_length s_t_letters s_t_sort z.2.1 s_t_word r_t_tape) H → va_D A (w_X12_token cI cB cZ a_t aX u_t_code u_t_n u_t_wrongAt u_t_laterFault u_t_laterPlace u_t_newClasses u_t_newLines u_t_turns u_t_shortest u_t_orders u_t_rowNumber u_t_ties z.1 s_t_begins s_t_length s_t_letters s_t_sort z.2.1 s_t_word r_t_tape) → va_S A s.heap H locs → lv_has ls 3 [(0, .ref a_t), (2, .int z.2.2)] → W p l e rX12_token s m args below meth c H locs 0 0 Q (F0 m 244 ls []))) {H : Heap} {locs : List Loc} {ls : Array Slot} (hP : va_P D vwCl (w_X12_token cI cB cZ a_t aX u_t_code u_t_n u_t_wrongAt u_t_laterFault u_t_laterPlace u_t_newClasses u_t_newLines u_t_turns u_t_shortest u_t_orders u_t_rowNumber u_t_ties s_t_ahead s_t_begins s_t_length s_t_letters s_t_sort s_t_value s_t_word r_t_tape) H) (hD : va_D A (w_X12_token cI cB cZ a_t aX u_t_code u_t_n u_t_wrongAt u_t_laterFault u_t_laterPlace u_t_newClasses u_t_newLines u_t_turns u_t_shortest u_t_orders u_t_rowNumber u_t_ties s_t_ahead s_t_begins s_t_length s_t_letters s_t_sort s_t_value s_t_word r_t_tape)) (hS : va_S A s.heap H locs) (hl : lv_has ls 3 [(0, .ref a_t), (2, .int x2)]) : W p l e rX12_token s m args below meth c H locs 0 0 Q (F0 m 183 ls []) := by
  obtain ⟨⟨hx, hb, hml, hown, hts⟩, hK, hN, hA⟩ := C
  have C : jCx p s m args c cX12_token 3 gX12_token RX12 G D (jT cI cB cZ) A := ⟨⟨hx, hb, hml, hown, hts⟩, hK, hN, hA⟩
  unfold f_X12_token_b183 at hf
  refine lv_aload_n hx hb dX12_token_183 rfl (lv_at hl 0 rfl) ?_
  obtain ⟨r15, hgr15, hf⟩ := jM_some hf
  refine jcV_i0 (As := []) (rest := []) ⟨hx, hb, hml, hown, hts⟩ hK hN hA (c_X12_see l G D cI cB cZ a_t aX u_t_code u_t_n s_t_begins s_t_sort s_t_value s_t_letters s_t_word u_t_wrongAt u_t_laterFault u_t_laterPlace u_t_newClasses u_t_newLines u_t_turns u_t_shortest u_t_orders u_t_rowNumber u_t_ties s_t_ahead s_t_length r_t_tape hgr15) (cwV 0 hts (wG_V k_ml_X12_241 k_im_X12_see k_se_X12_see k_in_X12 k_co_X12_see) rfl rfl rfl hd_X12_see ⟨Nat.le_of_ble_eq_true rfl, Nat.le_of_ble_eq_true rfl⟩) hP hD hS [0, 1] rfl rfl rfl (ci := 11) rfl 0 rfl rfl rfl hl.1 rfl (Nat.le_of_ble_eq_true rfl) dX12_token_184 ⟨Nat.le_of_ble_eq_true rfl, Nat.le_of_ble_eq_true rfl⟩ (fun H locs hP hD hS => ?_)
  refine lv_bipush (v := (48 : Int32)) hx hb dX12_token_187 (by decide) ?_
  refine lv_bipush (v := (57 : Int32)) hx hb dX12_token_189 (by decide) ?_
  obtain ⟨r16, hgr16, hf⟩ := jM_some hf
  refine jcS_i0 (As := [.int r15, .int (48 : Int32), .int (57 : Int32)]) (rest := []) ⟨hx, hb, hml, hown, hts⟩ hK hN hA (c_X12_in l G D cI cB cZ r15 (48 : Int32) (57 : Int32) hgr16) (va_cwS 3 hts (wG_S k_ml_X12_231 k_st_X12_in k_in_X12 k_co_X12_in) rfl rfl rfl hd_X12_in.2 ⟨Nat.le_of_ble_eq_true rfl, Nat.le_of_ble_eq_true rfl⟩) hP hD hS [] rfl rfl rfl rfl hl.1 rfl (Nat.le_of_ble_eq_true rfl) dX12_token_191 ⟨Nat.le_of_ble_eq_true rfl, Nat.le_of_ble_eq_true rfl⟩ (fun H locs hP hD hS => ?_)
  refine lv_if_eq (tgt := 244) hx hb dX12_token_194 (by decide) (fun c17 => ?_) (fun c17 => ?_)
  · replace hf := jif_t c17 hf
    have ho := Option.some.inj hf
    exact (K.2 _ ho.symm) _ _ _ hP hD hS (lv_sub hl [0, 1] rfl)
  · replace hf := jif_f c17 hf
    refine lv_aload_n hx hb dX12_token_197 rfl (lv_at hl 0 rfl) ?_
    refine lv_iload_n hx hb dX12_token_198 rfl (lv_at hl 1 rfl) ?_
    refine lv_iconst (v := (4 : Int32)) hx hb dX12_token_199 (by decide) ?_
    refine lv_icmp_ge (tgt := 221) hx hb dX12_token_200 (by decide) (fun c18 => ?_) (fun c18 => ?_)
    · replace hf := jif_t c18 hf
      refine lv_aload_n hx hb dX12_token_221 rfl (lv_at hl 0 rfl) ?_
      refine va_get (D := D) (ci := 11) (v := .int s_t_value) (C := RX12) (T := TX12) (N := 74) hx hb hts iw_X12 hown hK hP 0 rfl rfl 40 (by decide) (hts _ (wG_in k_fl_X12_247 rfl)) (fun _ h9 => h9) rfl dX12_token_222 ?_
      exact t_X12_token_j225 G D cI cB cZ a_t aX u_t_code u_t_n u_t_wrongAt u_t_laterFault u_t_laterPlace u_t_newClasses u_t_newLines u_t_turns u_t_shortest u_t_orders u_t_rowNumber u_t_ties s_t_length r_t_tape s_t_ahead s_t_begins s_t_letters s_t_sort s_t_value s_t_word x2 s_t_value C hf K hP hD hS (lv_sub hl [0, 1] rfl)
    · replace hf := jif_f c18 hf
      refine lv_bipush (v := (10 : Int32)) hx hb dX12_token_203 (by decide) ?_
      refine lv_aload_n hx hb dX12_token_205 rfl (lv_at hl 0 rfl) ?_
      refine va_get (D := D) (ci := 11) (v := .int s_t_value) (C := RX12) (T := TX12) (N := 74) hx hb hts iw_X12 hown hK hP 0 rfl rfl 40 (by decide) (hts _ (wG_in k_fl_X12_247 rfl)) (fun _ h9 => h9) rfl dX12_token_206 ?_
      refine lv_imul hx hb dX12_token_209 ?_
      refine lv_aload_n hx hb dX12_token_210 rfl (lv_at hl 0 rfl) ?_
      obtain ⟨r20, hgr20, hf⟩ := jM_some hf
      refine jcV_i0 (As := []) (rest := [.int ((10 : Int32) * s_t_value), .ref a_t]) ⟨hx, hb, hml, hown, hts⟩ hK hN hA (c_X12_see l G D cI cB cZ a_t aX u_t_code u_t_n s_t_begins s_t_sort s_t_value s_t_letters s_t_word u_t_wrongAt u_t_laterFault u_t_laterPlace u_t_newClasses u_t_newLines u_t_turns u_t_shortest u_t_orders u_t_rowNumber u_t_ties s_t_ahead s_t_length r_t_tape hgr20) (cwV 0 hts (wG_V k_ml_X12_241 k_im_X12_see k_se_X12_see k_in_X12 k_co_X12_see) rfl rfl rfl hd_X12_see ⟨Nat.le_of_ble_eq_true rfl, Nat.le_of_ble_eq_true rfl⟩) hP hD hS [0, 1] rfl rfl rfl (ci := 11) rfl 0 rfl rfl rfl hl.1 rfl (Nat.le_of_ble_eq_true rfl) dX12_token_211 ⟨Nat.le_of_ble_eq_true rfl, Nat.le_of_ble_eq_true rfl⟩ (fun H locs hP hD hS => ?_)
      refine lv_iadd hx hb dX12_token_214 ?_
      refine lv_bipush (v := (48 : Int32)) hx hb dX12_token_215 (by decide) ?_
      refine lv_isub hx hb dX12_token_217 ?_
      refine lv_goto (tgt := 225) hx hb dX12_token_218 (by decide) ?_
      exact t_X12_token_j225 G D cI cB cZ a_t aX u_t_code u_t_n u_t_wrongAt u_t_laterFault u_t_laterPlace u_t_newClasses u_t_newLines u_t_turns u_t_shortest u_t_orders u_t_rowNumber u_t_ties s_t_length r_t_tape s_t_ahead s_t_begins s_t_letters s_t_sort s_t_value s_t_word x2 ((((10 : Int32) * s_t_value) + r20) - (48 : Int32)) C hf K hP hD hS (lv_sub hl [0, 1] rfl)
def f_X12_token_l183 (s_t_length : Int32) (r_t_tape : jA) (s_t_begins s_t_letters s_t_sort : Int32) (s_t_word : Int64) (s_t_ahead s_t_value x2 : Int32) : Option ((Int32 × Int32 × Int32)) :=
  jI (fun z => f_X12_token_b183 s_t_length r_t_tape z.1 s_t_begins s_t_letters s_t_sort z.2.1 s_t_word z.2.2) jF (s_t_ahead, s_t_value, x2)
set_option maxHeartbeats 4000000 in
set_option maxRecDepth 100000 in
theorem t_X12_token_l183 {p : Program} {l : Launch} {e : Env} {s : State} {m : MethodId} {args : Array Value} {below : List Frame} {meth : Method} {c : Code} {A : Nat → Prop} {Q : State → Prop} (G : jGt) (D : va_G) (cI cB cZ : ClassId) (a_t : Nat) (aX : Nat → Nat) (u_t_code u_t_n u_t_wrongAt u_t_laterFault u_t_laterPlace u_t_newClasses u_t_newLines u_t_turns u_t_shortest u_t_orders u_t_rowNumber u_t_ties s_t_length : Int32) (r_t_tape : jA) (s_t_begins s_t_letters s_t_sort : Int32) (s_t_word : Int64) (C : jCx p s m args c cX12_token 3 gX12_token RX12 G D (jT cI cB cZ) A) : ∀ (n : Nat) (s_t_ahead s_t_value x2 : Int32) {eo : (Int32 × Int32 × Int32)}, jI (fun z => f_X12_token_b183 s_t_length r_t_tape z.1 s_t_begins s_t_letters s_t_sort z.2.1 s_t_word z.2.2) n (s_t_ahead, s_t_value, x2) = some eo → (∀ (H : Heap) (locs : List Loc) (ls : Array Slot), va_P D vwCl (w_X12_token cI cB cZ a_t aX u_t_code u_t_n u_t_wrongAt u_t_laterFault u_t_laterPlace u_t_newClasses u_t_newLines u_t_turns u_t_shortest u_t_orders u_t_rowNumber u_t_ties eo.1 s_t_begins s_t_length s_t_letters s_t_sort eo.2.1 s_t_word r_t_tape) H → va_D A (w_X12_token cI cB cZ a_t aX u_t_code u_t_n u_t_wrongAt u_t_laterFault u_t_laterPlace u_t_newClasses u_t_newLines u_t_turns u_t_shortest u_t_orders u_t_rowNumber u_t_ties eo.1 s_t_begins s_t_length s_t_letters s_t_sort eo.2.1 s_t_word r_t_tape) → va_S A s.heap H locs → lv_has ls 3 [(0, .ref a_t), (2, .int eo.2.2)] → W p l e rX12_token s m args below meth c H locs 0 0 Q (F0 m 244 ls [])) → ∀ (H : Heap) (locs : List Loc) (ls : Array Slot), va_P D vwCl (w_X12_token cI cB cZ a_t aX u_t_code u_t_n u_t_wrongAt u_t_laterFault u_t_laterPlace u_t_newClasses u_t_newLines u_t_turns u_t_shortest u_t_orders u_t_rowNumber u_t_ties s_t_ahead s_t_begins s_t_length s_t_letters s_t_sort s_t_value s_t_word r_t_tape) H → va_D A (w_X12_token cI cB cZ a_t aX u_t_code u_t_n u_t_wrongAt u_t_laterFault u_t_laterPlace u_t_newClasses u_t_newLines u_t_turns u_t_shortest u_t_orders u_t_rowNumber u_t_ties s_t_ahead s_t_begins s_t_length s_t_letters s_t_sort s_t_value s_t_word r_t_tape) → va_S A s.heap H locs → lv_has ls 3 [(0, .ref a_t), (2, .int x2)] → W p l e rX12_token s m args below meth c H locs 0 0 Q (F0 m 183 ls []) := by
  intro n
  induction n with
  | zero =>
    intro s_t_ahead s_t_value x2 eo hf
    exact (jI_zero hf).elim
  | succ n ih =>
    intro s_t_ahead s_t_value x2 eo hf K H locs ls hP hD hS hl
    obtain ⟨o, hb1, ho⟩ := jI_some hf
    rcases ho with ⟨z, rfl, hf2⟩ | rfl
    · exact t_X12_token_b183 G D cI cB cZ a_t aX u_t_code u_t_n u_t_wrongAt u_t_laterFault u_t_laterPlace u_t_newClasses u_t_newLines u_t_turns u_t_shortest u_t_orders u_t_rowNumber u_t_ties s_t_length r_t_tape s_t_ahead s_t_begins s_t_letters s_t_sort s_t_value s_t_word x2 C hb1 ⟨fun z2 hz H locs ls hP hD hS hl => by cases hz; exact ih z.1 z.2.1 z.2.2 hf2 K H locs ls hP hD hS hl, fun z2 hz => by cases hz⟩ hP hD hS hl
    · exact t_X12_token_b183 G D cI cB cZ a_t aX u_t_code u_t_n u_t_wrongAt u_t_laterFault u_t_laterPlace u_t_newClasses u_t_newLines u_t_turns u_t_shortest u_t_orders u_t_rowNumber u_t_ties s_t_length r_t_tape s_t_ahead s_t_begins s_t_letters s_t_sort s_t_value s_t_word x2 C hb1 ⟨fun z2 hz => (by cases hz), fun z2 hz => by cases hz; exact K⟩ hP hD hS hl
def f_X12_token_j255 (s_t_ahead s_t_begins s_t_letters s_t_sort s_t_value : Int32) (s_t_word : Int64) (k1 : Int32) : Option (Int32 × Int32 × Int32 × Int32 × Int32 × Int64) :=
  some (s_t_ahead, s_t_begins, s_t_letters, k1, s_t_value, s_t_word)
set_option maxHeartbeats 4000000 in
set_option maxRecDepth 100000 in
theorem t_X12_token_j255 {p : Program} {l : Launch} {e : Env} {s : State} {m : MethodId} {args : Array Value} {below : List Frame} {meth : Method} {c : Code} {A : Nat → Prop} {Q : State → Prop} (G : jGt) (D : va_G) (cI cB cZ : ClassId) (a_t : Nat) (aX : Nat → Nat) (u_t_code u_t_n u_t_wrongAt u_t_laterFault u_t_laterPlace u_t_newClasses u_t_newLines u_t_turns u_t_shortest u_t_orders u_t_rowNumber u_t_ties s_t_length : Int32) (r_t_tape : jA) (s_t_ahead s_t_begins s_t_letters s_t_sort s_t_value : Int32) (s_t_word : Int64) (k1 : Int32) (C : jCx p s m args c cX12_token 3 gX12_token RX12 G D (jT cI cB cZ) A) {o : Int32 × Int32 × Int32 × Int32 × Int32 × Int64} (hf : f_X12_token_j255 s_t_ahead s_t_begins s_t_letters s_t_sort s_t_value s_t_word k1 = some o) (K : ∀ (H : Heap) (locs : List Loc) (pc : Nat) (ls : Array Slot), va_P D vwCl (w_X12_token cI cB cZ a_t aX u_t_code u_t_n u_t_wrongAt u_t_laterFault u_t_laterPlace u_t_newClasses u_t_newLines u_t_turns u_t_shortest u_t_orders u_t_rowNumber u_t_ties o.1 o.2.1 s_t_length o.2.2.1 o.2.2.2.1 o.2.2.2.2.1 o.2.2.2.2.2 r_t_tape) H → va_S A s.heap H locs → decode cX12_token pc = .ok (.return_, 1) → W p l e rX12_token s m args below meth c H locs 0 0 Q (F0 m pc ls [])) {H : Heap} {locs : List Loc} {ls : Array Slot} (hP : va_P D vwCl (w_X12_token cI cB cZ a_t aX u_t_code u_t_n u_t_wrongAt u_t_laterFault u_t_laterPlace u_t_newClasses u_t_newLines u_t_turns u_t_shortest u_t_orders u_t_rowNumber u_t_ties s_t_ahead s_t_begins s_t_length s_t_letters s_t_sort s_t_value s_t_word r_t_tape) H) (hD : va_D A (w_X12_token cI cB cZ a_t aX u_t_code u_t_n u_t_wrongAt u_t_laterFault u_t_laterPlace u_t_newClasses u_t_newLines u_t_turns u_t_shortest u_t_orders u_t_rowNumber u_t_ties s_t_ahead s_t_begins s_t_length s_t_letters s_t_sort s_t_value s_t_word r_t_tape)) (hS : va_S A s.heap H locs) (hl : lv_has ls 3 []) : W p l e rX12_token s m args below meth c H locs 0 0 Q (F0 m 255 ls [.int k1, .ref a_t]) := by
  obtain ⟨⟨hx, hb, hml, hown, hts⟩, hK, hN, hA⟩ := C
  have C : jCx p s m args c cX12_token 3 gX12_token RX12 G D (jT cI cB cZ) A := ⟨⟨hx, hb, hml, hown, hts⟩, hK, hN, hA⟩
  unfold f_X12_token_j255 at hf
  refine va_put (D := D) (ci := 11) (v := .int k1) (ty := .int) (C := RX12) (T := TX12) (N := 74) hx hb hts iw_X12 tyX12 tyX12_ok nmX12 hown hK hP hD hS 0 rfl rfl 39 (by decide) (hts _ (wG_in k_fl_X12_257 rfl)) (fun _ h9 => h9) rfl (tyX12_ok 39 (by decide)) rfl rfl (Nat.le_of_ble_eq_true rfl) dX12_token_255 (fun H locs hP hD hS => ?_)
  have hP : va_P D vwCl (w_X12_token cI cB cZ a_t aX u_t_code u_t_n u_t_wrongAt u_t_laterFault u_t_laterPlace u_t_newClasses u_t_newLines u_t_turns u_t_shortest u_t_orders u_t_rowNumber u_t_ties s_t_ahead s_t_begins s_t_length s_t_letters k1 s_t_value s_t_word r_t_tape) H := hP
  have hD : va_D A (w_X12_token cI cB cZ a_t aX u_t_code u_t_n u_t_wrongAt u_t_laterFault u_t_laterPlace u_t_newClasses u_t_newLines u_t_turns u_t_shortest u_t_orders u_t_rowNumber u_t_ties s_t_ahead s_t_begins s_t_length s_t_letters k1 s_t_value s_t_word r_t_tape) := hD
  refine lv_goto (tgt := 286) hx hb dX12_token_258 (by decide) ?_
  have ho := Option.some.inj hf
  subst ho
  exact K _ _ _ _ hP hS dX12_token_286
def f_X12_token_b84 (s_t_length : Int32) (r_t_tape : jA) (s_t_ahead s_t_begins s_t_letters s_t_sort s_t_value : Int32) (s_t_word : Int64) : Option ((Int32 × Int32 × Int64) ⊕ ((Int32 × Int32 × Int64))) :=
  jM (f_X12_see s_t_ahead s_t_length r_t_tape) fun r23 =>
  jM (f_X12_in r23 (97 : Int32) (122 : Int32)) fun r24 =>
  if r24 = 0 then
  some (Sum.inr (s_t_ahead, s_t_letters, s_t_word))
  else
  jM (f_X12_see s_t_ahead s_t_length r_t_tape) fun r26 =>
  jV ((s_t_word <<< ((8 : Int32).toInt64 &&& 63)) ||| (r26.toInt64)) fun v27 =>
  jV (s_t_ahead + (1 : Int32)) fun v28 =>
  jV (s_t_letters + (1 : Int32)) fun v29 =>
  some (Sum.inl (v28, v29, v27))
set_option maxHeartbeats 4000000 in
set_option maxRecDepth 100000 in
theorem t_X12_token_b84 {p : Program} {l : Launch} {e : Env} {s : State} {m : MethodId} {args : Array Value} {below : List Frame} {meth : Method} {c : Code} {A : Nat → Prop} {Q : State → Prop} (G : jGt) (D : va_G) (cI cB cZ : ClassId) (a_t : Nat) (aX : Nat → Nat) (u_t_code u_t_n u_t_wrongAt u_t_laterFault u_t_laterPlace u_t_newClasses u_t_newLines u_t_turns u_t_shortest u_t_orders u_t_rowNumber u_t_ties s_t_length : Int32) (r_t_tape : jA) (s_t_ahead s_t_begins s_t_letters s_t_sort s_t_value : Int32) (s_t_word : Int64) (C : jCx p s m args c cX12_token 3 gX12_token RX12 G D (jT cI cB cZ) A) {o : (Int32 × Int32 × Int64) ⊕ ((Int32 × Int32 × Int64))} (hf : f_X12_token_b84 s_t_length r_t_tape s_t_ahead s_t_begins s_t_letters s_t_sort s_t_value s_t_word = some o) (K : (∀ z, o = Sum.inl z → ∀ (H : Heap) (locs : List Loc) (ls : Array Slot), va_P D vwCl (w_X12_token cI cB cZ a_t aX u_t_code u_t_n u_t_wrongAt u_t_laterFault u_t_laterPlace u_t_newClasses u_t_newLines u_t_turns u_t_shortest u_t_orders u_t_rowNumber u_t_ties z.1 s_t_begins s_t_length z.2.1 s_t_sort s_t_value z.2.2 r_t_tape) H → va_D A (w_X12_token cI cB cZ a_t aX u_t_code u_t_n u_t_wrongAt u_t_laterFault u_t_laterPlace u_t_newClasses u_t_newLines u_t_turns u_t_shortest u_t_orders u_t_rowNumber u_t_ties z.1 s_t_begins s_t_length z.2.1 s_t_sort s_t_value z.2.2 r_t_tape) → va_S A s.heap H locs → lv_has ls 3 [(0, .ref a_t)] → W p l e rX12_token s m args below meth c H locs 0 0 Q (F0 m 84 ls [])) ∧ (∀ z, o = Sum.inr z → ∀ (H : Heap) (locs : List Loc) (ls : Array Slot), va_P D vwCl (w_X12_token cI cB cZ a_t aX u_t_code u_t_n u_t_wrongAt u_t_laterFault u_t_laterPlace u_t_newClasses u_t_newLines u_t_turns u_t_shortest u_t_orders u_t_rowNumber u_t_ties z.1 s_t_begins s_t_length z.2.1 s_t_sort s_t_value z.2.2 r_t_tape) H → va_D A (w_X12_token cI cB cZ a_t aX u_t_code u_t_n u_t_wrongAt u_t_laterFault u_t_laterPlace u_t_newClasses u_t_newLines u_t_turns u_t_shortest u_t_orders u_t_rowNumber u_t_ties z.1 s_t_begins s_t_length z.2.1 s_t_sort s_t_value z.2.2 r_t_tape) → va_S A s.heap H locs → lv_has ls 3 [(0, .ref a_t)] → W p l e rX12_token s m args below meth c H locs 0 0 Q (F0 m 138 ls []))) {H : Heap} {locs : List Loc} {ls : Array Slot} (hP : va_P D vwCl (w_X12_token cI cB cZ a_t aX u_t_code u_t_n u_t_wrongAt u_t_laterFault u_t_laterPlace u_t_newClasses u_t_newLines u_t_turns u_t_shortest u_t_orders u_t_rowNumber u_t_ties s_t_ahead s_t_begins s_t_length s_t_letters s_t_sort s_t_value s_t_word r_t_tape) H) (hD : va_D A (w_X12_token cI cB cZ a_t aX u_t_code u_t_n u_t_wrongAt u_t_laterFault u_t_laterPlace u_t_newClasses u_t_newLines u_t_turns u_t_shortest u_t_orders u_t_rowNumber u_t_ties s_t_ahead s_t_begins s_t_length s_t_letters s_t_sort s_t_value s_t_word r_t_tape)) (hS : va_S A s.heap H locs) (hl : lv_has ls 3 [(0, .ref a_t)]) : W p l e rX12_token s m args below meth c H locs 0 0 Q (F0 m 84 ls []) := by
  obtain ⟨⟨hx, hb, hml, hown, hts⟩, hK, hN, hA⟩ := C
  have C : jCx p s m args c cX12_token 3 gX12_token RX12 G D (jT cI cB cZ) A := ⟨⟨hx, hb, hml, hown, hts⟩, hK, hN, hA⟩
  unfold f_X12_token_b84 at hf
  refine lv_aload_n hx hb dX12_token_84 rfl (lv_at hl 0 rfl) ?_
  obtain ⟨r23, hgr23, hf⟩ := jM_some hf
  refine jcV_i0 (As := []) (rest := []) ⟨hx, hb, hml, hown, hts⟩ hK hN hA (c_X12_see l G D cI cB cZ a_t aX u_t_code u_t_n s_t_begins s_t_sort s_t_value s_t_letters s_t_word u_t_wrongAt u_t_laterFault u_t_laterPlace u_t_newClasses u_t_newLines u_t_turns u_t_shortest u_t_orders u_t_rowNumber u_t_ties s_t_ahead s_t_length r_t_tape hgr23) (cwV 0 hts (wG_V k_ml_X12_241 k_im_X12_see k_se_X12_see k_in_X12 k_co_X12_see) rfl rfl rfl hd_X12_see ⟨Nat.le_of_ble_eq_true rfl, Nat.le_of_ble_eq_true rfl⟩) hP hD hS [0, 1] rfl rfl rfl (ci := 11) rfl 0 rfl rfl rfl hl.1 rfl (Nat.le_of_ble_eq_true rfl) dX12_token_85 ⟨Nat.le_of_ble_eq_true rfl, Nat.le_of_ble_eq_true rfl⟩ (fun H locs hP hD hS => ?_)
  refine lv_bipush (v := (97 : Int32)) hx hb dX12_token_88 (by decide) ?_
  refine lv_bipush (v := (122 : Int32)) hx hb dX12_token_90 (by decide) ?_
  obtain ⟨r24, hgr24, hf⟩ := jM_some hf
  refine jcS_i0 (As := [.int r23, .int (97 : Int32), .int (122 : Int32)]) (rest := []) ⟨hx, hb, hml, hown, hts⟩ hK hN hA (c_X12_in l G D cI cB cZ r23 (97 : Int32) (122 : Int32) hgr24) (va_cwS 3 hts (wG_S k_ml_X12_231 k_st_X12_in k_in_X12 k_co_X12_in) rfl rfl rfl hd_X12_in.2 ⟨Nat.le_of_ble_eq_true rfl, Nat.le_of_ble_eq_true rfl⟩) hP hD hS [] rfl rfl rfl rfl hl.1 rfl (Nat.le_of_ble_eq_true rfl) dX12_token_92 ⟨Nat.le_of_ble_eq_true rfl, Nat.le_of_ble_eq_true rfl⟩ (fun H locs hP hD hS => ?_)
  refine lv_if_eq (tgt := 138) hx hb dX12_token_95 (by decide) (fun c25 => ?_) (fun c25 => ?_)
  · replace hf := jif_t c25 hf
    have ho := Option.some.inj hf
    exact (K.2 _ ho.symm) _ _ _ hP hD hS (lv_sub hl [0] rfl)
  · replace hf := jif_f c25 hf
    refine lv_aload_n hx hb dX12_token_98 rfl (lv_at hl 0 rfl) ?_
    refine lv_aload_n hx hb dX12_token_99 rfl (lv_at hl 0 rfl) ?_
    refine va_get (D := D) (ci := 11) (v := .long s_t_word) (C := RX12) (T := TX12) (N := 74) hx hb hts iw_X12 hown hK hP 0 rfl rfl 42 (by decide) (hts _ (wG_in k_fl_X12_250 rfl)) (fun _ h9 => h9) rfl dX12_token_100 ?_
    refine lv_bipush (v := (8 : Int32)) hx hb dX12_token_103 (by decide) ?_
    refine lv_lshl hx hb dX12_token_105 rfl ?_
    refine lv_aload_n hx hb dX12_token_106 rfl (lv_at hl 0 rfl) ?_
    obtain ⟨r26, hgr26, hf⟩ := jM_some hf
    refine jcV_i0 (As := []) (rest := [.long (s_t_word <<< ((8 : Int32).toInt64 &&& 63)), .ref a_t]) ⟨hx, hb, hml, hown, hts⟩ hK hN hA (c_X12_see l G D cI cB cZ a_t aX u_t_code u_t_n s_t_begins s_t_sort s_t_value s_t_letters s_t_word u_t_wrongAt u_t_laterFault u_t_laterPlace u_t_newClasses u_t_newLines u_t_turns u_t_shortest u_t_orders u_t_rowNumber u_t_ties s_t_ahead s_t_length r_t_tape hgr26) (cwV 0 hts (wG_V k_ml_X12_241 k_im_X12_see k_se_X12_see k_in_X12 k_co_X12_see) rfl rfl rfl hd_X12_see ⟨Nat.le_of_ble_eq_true rfl, Nat.le_of_ble_eq_true rfl⟩) hP hD hS [0, 1] rfl rfl rfl (ci := 11) rfl 0 rfl rfl rfl hl.1 rfl (Nat.le_of_ble_eq_true rfl) dX12_token_107 ⟨Nat.le_of_ble_eq_true rfl, Nat.le_of_ble_eq_true rfl⟩ (fun H locs hP hD hS => ?_)
    refine lv_i2l hx hb dX12_token_110 rfl ?_
    refine lv_lor hx hb dX12_token_111 ?_
    obtain ⟨v27, hv27, hf⟩ := jV_some hf
    refine jtopl hv27 ?_
    refine va_put (D := D) (ci := 11) (v := .long v27) (ty := .long) (C := RX12) (T := TX12) (N := 74) hx hb hts iw_X12 tyX12 tyX12_ok nmX12 hown hK hP hD hS 0 rfl rfl 42 (by decide) (hts _ (wG_in k_fl_X12_250 rfl)) (fun _ h9 => h9) rfl (tyX12_ok 42 (by decide)) rfl rfl (Nat.le_of_ble_eq_true rfl) dX12_token_112 (fun H locs hP hD hS => ?_)
    have hP : va_P D vwCl (w_X12_token cI cB cZ a_t aX u_t_code u_t_n u_t_wrongAt u_t_laterFault u_t_laterPlace u_t_newClasses u_t_newLines u_t_turns u_t_shortest u_t_orders u_t_rowNumber u_t_ties s_t_ahead s_t_begins s_t_length s_t_letters s_t_sort s_t_value v27 r_t_tape) H := hP
    have hD : va_D A (w_X12_token cI cB cZ a_t aX u_t_code u_t_n u_t_wrongAt u_t_laterFault u_t_laterPlace u_t_newClasses u_t_newLines u_t_turns u_t_shortest u_t_orders u_t_rowNumber u_t_ties s_t_ahead s_t_begins s_t_length s_t_letters s_t_sort s_t_value v27 r_t_tape) := hD
    refine lv_aload_n hx hb dX12_token_115 rfl (lv_at hl 0 rfl) ?_
    refine lv_dup hx hb dX12_token_116 rfl ?_
    refine va_get (D := D) (ci := 11) (v := .int s_t_ahead) (C := RX12) (T := TX12) (N := 74) hx hb hts iw_X12 hown hK hP 0 rfl rfl 36 (by decide) (hts _ (wG_in k_fl_X12_235 rfl)) (fun _ h9 => h9) rfl dX12_token_117 ?_
    refine lv_iconst (v := (1 : Int32)) hx hb dX12_token_120 (by decide) ?_
    refine lv_iadd hx hb dX12_token_121 ?_
    obtain ⟨v28, hv28, hf⟩ := jV_some hf
    refine jtop hv28 ?_
    refine va_put (D := D) (ci := 11) (v := .int v28) (ty := .int) (C := RX12) (T := TX12) (N := 74) hx hb hts iw_X12 tyX12 tyX12_ok nmX12 hown hK hP hD hS 0 rfl rfl 36 (by decide) (hts _ (wG_in k_fl_X12_235 rfl)) (fun _ h9 => h9) rfl (tyX12_ok 36 (by decide)) rfl rfl (Nat.le_of_ble_eq_true rfl) dX12_token_122 (fun H locs hP hD hS => ?_)
    have hP : va_P D vwCl (w_X12_token cI cB cZ a_t aX u_t_code u_t_n u_t_wrongAt u_t_laterFault u_t_laterPlace u_t_newClasses u_t_newLines u_t_turns u_t_shortest u_t_orders u_t_rowNumber u_t_ties v28 s_t_begins s_t_length s_t_letters s_t_sort s_t_value v27 r_t_tape) H := hP
    have hD : va_D A (w_X12_token cI cB cZ a_t aX u_t_code u_t_n u_t_wrongAt u_t_laterFault u_t_laterPlace u_t_newClasses u_t_newLines u_t_turns u_t_shortest u_t_orders u_t_rowNumber u_t_ties v28 s_t_begins s_t_length s_t_letters s_t_sort s_t_value v27 r_t_tape) := hD
    refine lv_aload_n hx hb dX12_token_125 rfl (lv_at hl 0 rfl) ?_
    refine lv_dup hx hb dX12_token_126 rfl ?_
    refine va_get (D := D) (ci := 11) (v := .int s_t_letters) (C := RX12) (T := TX12) (N := 74) hx hb hts iw_X12 hown hK hP 0 rfl rfl 41 (by decide) (hts _ (wG_in k_fl_X12_254 rfl)) (fun _ h9 => h9) rfl dX12_token_127 ?_
    refine lv_iconst (v := (1 : Int32)) hx hb dX12_token_130 (by decide) ?_
    refine lv_iadd hx hb dX12_token_131 ?_
    obtain ⟨v29, hv29, hf⟩ := jV_some hf
    refine jtop hv29 ?_
    refine va_put (D := D) (ci := 11) (v := .int v29) (ty := .int) (C := RX12) (T := TX12) (N := 74) hx hb hts iw_X12 tyX12 tyX12_ok nmX12 hown hK hP hD hS 0 rfl rfl 41 (by decide) (hts _ (wG_in k_fl_X12_254 rfl)) (fun _ h9 => h9) rfl (tyX12_ok 41 (by decide)) rfl rfl (Nat.le_of_ble_eq_true rfl) dX12_token_132 (fun H locs hP hD hS => ?_)
    have hP : va_P D vwCl (w_X12_token cI cB cZ a_t aX u_t_code u_t_n u_t_wrongAt u_t_laterFault u_t_laterPlace u_t_newClasses u_t_newLines u_t_turns u_t_shortest u_t_orders u_t_rowNumber u_t_ties v28 s_t_begins s_t_length v29 s_t_sort s_t_value v27 r_t_tape) H := hP
    have hD : va_D A (w_X12_token cI cB cZ a_t aX u_t_code u_t_n u_t_wrongAt u_t_laterFault u_t_laterPlace u_t_newClasses u_t_newLines u_t_turns u_t_shortest u_t_orders u_t_rowNumber u_t_ties v28 s_t_begins s_t_length v29 s_t_sort s_t_value v27 r_t_tape) := hD
    refine lv_goto (tgt := 84) hx hb dX12_token_135 (by decide) ?_
    have ho := Option.some.inj hf
    exact K.1 _ ho.symm _ _ _ hP hD hS (lv_sub hl [0] rfl)
def f_X12_token_l84 (s_t_length : Int32) (r_t_tape : jA) (s_t_begins s_t_sort s_t_value s_t_ahead s_t_letters : Int32) (s_t_word : Int64) : Option ((Int32 × Int32 × Int64)) :=
  jI (fun z => f_X12_token_b84 s_t_length r_t_tape z.1 s_t_begins z.2.1 s_t_sort s_t_value z.2.2) jF (s_t_ahead, s_t_letters, s_t_word)
set_option maxHeartbeats 4000000 in
set_option maxRecDepth 100000 in
theorem t_X12_token_l84 {p : Program} {l : Launch} {e : Env} {s : State} {m : MethodId} {args : Array Value} {below : List Frame} {meth : Method} {c : Code} {A : Nat → Prop} {Q : State → Prop} (G : jGt) (D : va_G) (cI cB cZ : ClassId) (a_t : Nat) (aX : Nat → Nat) (u_t_code u_t_n u_t_wrongAt u_t_laterFault u_t_laterPlace u_t_newClasses u_t_newLines u_t_turns u_t_shortest u_t_orders u_t_rowNumber u_t_ties s_t_length : Int32) (r_t_tape : jA) (s_t_begins s_t_sort s_t_value : Int32) (C : jCx p s m args c cX12_token 3 gX12_token RX12 G D (jT cI cB cZ) A) : ∀ (n : Nat) (s_t_ahead s_t_letters : Int32) (s_t_word : Int64) {eo : (Int32 × Int32 × Int64)}, jI (fun z => f_X12_token_b84 s_t_length r_t_tape z.1 s_t_begins z.2.1 s_t_sort s_t_value z.2.2) n (s_t_ahead, s_t_letters, s_t_word) = some eo → (∀ (H : Heap) (locs : List Loc) (ls : Array Slot), va_P D vwCl (w_X12_token cI cB cZ a_t aX u_t_code u_t_n u_t_wrongAt u_t_laterFault u_t_laterPlace u_t_newClasses u_t_newLines u_t_turns u_t_shortest u_t_orders u_t_rowNumber u_t_ties eo.1 s_t_begins s_t_length eo.2.1 s_t_sort s_t_value eo.2.2 r_t_tape) H → va_D A (w_X12_token cI cB cZ a_t aX u_t_code u_t_n u_t_wrongAt u_t_laterFault u_t_laterPlace u_t_newClasses u_t_newLines u_t_turns u_t_shortest u_t_orders u_t_rowNumber u_t_ties eo.1 s_t_begins s_t_length eo.2.1 s_t_sort s_t_value eo.2.2 r_t_tape) → va_S A s.heap H locs → lv_has ls 3 [(0, .ref a_t)] → W p l e rX12_token s m args below meth c H locs 0 0 Q (F0 m 138 ls [])) → ∀ (H : Heap) (locs : List Loc) (ls : Array Slot), va_P D vwCl (w_X12_token cI cB cZ a_t aX u_t_code u_t_n u_t_wrongAt u_t_laterFault u_t_laterPlace u_t_newClasses u_t_newLines u_t_turns u_t_shortest u_t_orders u_t_rowNumber u_t_ties s_t_ahead s_t_begins s_t_length s_t_letters s_t_sort s_t_value s_t_word r_t_tape) H → va_D A (w_X12_token cI cB cZ a_t aX u_t_code u_t_n u_t_wrongAt u_t_laterFault u_t_laterPlace u_t_newClasses u_t_newLines u_t_turns u_t_shortest u_t_orders u_t_rowNumber u_t_ties s_t_ahead s_t_begins s_t_length s_t_letters s_t_sort s_t_value s_t_word r_t_tape) → va_S A s.heap H locs → lv_has ls 3 [(0, .ref a_t)] → W p l e rX12_token s m args below meth c H locs 0 0 Q (F0 m 84 ls []) := by
  intro n
  induction n with
  | zero =>
    intro s_t_ahead s_t_letters s_t_word eo hf
    exact (jI_zero hf).elim
  | succ n ih =>
    intro s_t_ahead s_t_letters s_t_word eo hf K H locs ls hP hD hS hl
    obtain ⟨o, hb1, ho⟩ := jI_some hf
    rcases ho with ⟨z, rfl, hf2⟩ | rfl
    · exact t_X12_token_b84 G D cI cB cZ a_t aX u_t_code u_t_n u_t_wrongAt u_t_laterFault u_t_laterPlace u_t_newClasses u_t_newLines u_t_turns u_t_shortest u_t_orders u_t_rowNumber u_t_ties s_t_length r_t_tape s_t_ahead s_t_begins s_t_letters s_t_sort s_t_value s_t_word C hb1 ⟨fun z2 hz H locs ls hP hD hS hl => by cases hz; exact ih z.1 z.2.1 z.2.2 hf2 K H locs ls hP hD hS hl, fun z2 hz => by cases hz⟩ hP hD hS hl
    · exact t_X12_token_b84 G D cI cB cZ a_t aX u_t_code u_t_n u_t_wrongAt u_t_laterFault u_t_laterPlace u_t_newClasses u_t_newLines u_t_turns u_t_shortest u_t_orders u_t_rowNumber u_t_ties s_t_length r_t_tape s_t_ahead s_t_begins s_t_letters s_t_sort s_t_value s_t_word C hb1 ⟨fun z2 hz => (by cases hz), fun z2 hz => by cases hz; exact K⟩ hP hD hS hl
def f_X12_token_j156 (s_t_ahead s_t_begins s_t_letters s_t_sort s_t_value : Int32) (s_t_word k1 : Int64) : Option (Int32 × Int32 × Int32 × Int32 × Int32 × Int64) :=
  some (s_t_ahead, s_t_begins, s_t_letters, (2 : Int32), s_t_value, k1)
set_option maxHeartbeats 4000000 in
set_option maxRecDepth 100000 in
theorem t_X12_token_j156 {p : Program} {l : Launch} {e : Env} {s : State} {m : MethodId} {args : Array Value} {below : List Frame} {meth : Method} {c : Code} {A : Nat → Prop} {Q : State → Prop} (G : jGt) (D : va_G) (cI cB cZ : ClassId) (a_t : Nat) (aX : Nat → Nat) (u_t_code u_t_n u_t_wrongAt u_t_laterFault u_t_laterPlace u_t_newClasses u_t_newLines u_t_turns u_t_shortest u_t_orders u_t_rowNumber u_t_ties s_t_length : Int32) (r_t_tape : jA) (s_t_ahead s_t_begins s_t_letters s_t_sort s_t_value : Int32) (s_t_word k1 : Int64) (C : jCx p s m args c cX12_token 3 gX12_token RX12 G D (jT cI cB cZ) A) {o : Int32 × Int32 × Int32 × Int32 × Int32 × Int64} (hf : f_X12_token_j156 s_t_ahead s_t_begins s_t_letters s_t_sort s_t_value s_t_word k1 = some o) (K : ∀ (H : Heap) (locs : List Loc) (pc : Nat) (ls : Array Slot), va_P D vwCl (w_X12_token cI cB cZ a_t aX u_t_code u_t_n u_t_wrongAt u_t_laterFault u_t_laterPlace u_t_newClasses u_t_newLines u_t_turns u_t_shortest u_t_orders u_t_rowNumber u_t_ties o.1 o.2.1 s_t_length o.2.2.1 o.2.2.2.1 o.2.2.2.2.1 o.2.2.2.2.2 r_t_tape) H → va_S A s.heap H locs → decode cX12_token pc = .ok (.return_, 1) → W p l e rX12_token s m args below meth c H locs 0 0 Q (F0 m pc ls [])) {H : Heap} {locs : List Loc} {ls : Array Slot} (hP : va_P D vwCl (w_X12_token cI cB cZ a_t aX u_t_code u_t_n u_t_wrongAt u_t_laterFault u_t_laterPlace u_t_newClasses u_t_newLines u_t_turns u_t_shortest u_t_orders u_t_rowNumber u_t_ties s_t_ahead s_t_begins s_t_length s_t_letters s_t_sort s_t_value s_t_word r_t_tape) H) (hD : va_D A (w_X12_token cI cB cZ a_t aX u_t_code u_t_n u_t_wrongAt u_t_laterFault u_t_laterPlace u_t_newClasses u_t_newLines u_t_turns u_t_shortest u_t_orders u_t_rowNumber u_t_ties s_t_ahead s_t_begins s_t_length s_t_letters s_t_sort s_t_value s_t_word r_t_tape)) (hS : va_S A s.heap H locs) (hl : lv_has ls 3 [(0, .ref a_t)]) : W p l e rX12_token s m args below meth c H locs 0 0 Q (F0 m 156 ls [.long k1, .ref a_t]) := by
  obtain ⟨⟨hx, hb, hml, hown, hts⟩, hK, hN, hA⟩ := C
  have C : jCx p s m args c cX12_token 3 gX12_token RX12 G D (jT cI cB cZ) A := ⟨⟨hx, hb, hml, hown, hts⟩, hK, hN, hA⟩
  unfold f_X12_token_j156 at hf
  refine va_put (D := D) (ci := 11) (v := .long k1) (ty := .long) (C := RX12) (T := TX12) (N := 74) hx hb hts iw_X12 tyX12 tyX12_ok nmX12 hown hK hP hD hS 0 rfl rfl 42 (by decide) (hts _ (wG_in k_fl_X12_250 rfl)) (fun _ h9 => h9) rfl (tyX12_ok 42 (by decide)) rfl rfl (Nat.le_of_ble_eq_true rfl) dX12_token_156 (fun H locs hP hD hS => ?_)
  have hP : va_P D vwCl (w_X12_token cI cB cZ a_t aX u_t_code u_t_n u_t_wrongAt u_t_laterFault u_t_laterPlace u_t_newClasses u_t_newLines u_t_turns u_t_shortest u_t_orders u_t_rowNumber u_t_ties s_t_ahead s_t_begins s_t_length s_t_letters s_t_sort s_t_value k1 r_t_tape) H := hP
  have hD : va_D A (w_X12_token cI cB cZ a_t aX u_t_code u_t_n u_t_wrongAt u_t_laterFault u_t_laterPlace u_t_newClasses u_t_newLines u_t_turns u_t_shortest u_t_orders u_t_rowNumber u_t_ties s_t_ahead s_t_begins s_t_length s_t_letters s_t_sort s_t_value k1 r_t_tape) := hD
  refine lv_aload_n hx hb dX12_token_159 rfl (lv_at hl 0 rfl) ?_
  refine lv_iconst (v := (2 : Int32)) hx hb dX12_token_160 (by decide) ?_
  refine va_put (D := D) (ci := 11) (v := .int (2 : Int32)) (ty := .int) (C := RX12) (T := TX12) (N := 74) hx hb hts iw_X12 tyX12 tyX12_ok nmX12 hown hK hP hD hS 0 rfl rfl 39 (by decide) (hts _ (wG_in k_fl_X12_257 rfl)) (fun _ h9 => h9) rfl (tyX12_ok 39 (by decide)) rfl rfl (Nat.le_of_ble_eq_true rfl) dX12_token_161 (fun H locs hP hD hS => ?_)
  have hP : va_P D vwCl (w_X12_token cI cB cZ a_t aX u_t_code u_t_n u_t_wrongAt u_t_laterFault u_t_laterPlace u_t_newClasses u_t_newLines u_t_turns u_t_shortest u_t_orders u_t_rowNumber u_t_ties s_t_ahead s_t_begins s_t_length s_t_letters (2 : Int32) s_t_value k1 r_t_tape) H := hP
  have hD : va_D A (w_X12_token cI cB cZ a_t aX u_t_code u_t_n u_t_wrongAt u_t_laterFault u_t_laterPlace u_t_newClasses u_t_newLines u_t_turns u_t_shortest u_t_orders u_t_rowNumber u_t_ties s_t_ahead s_t_begins s_t_length s_t_letters (2 : Int32) s_t_value k1 r_t_tape) := hD
  refine lv_goto (tgt := 286) hx hb dX12_token_164 (by decide) ?_
  have ho := Option.some.inj hf
  subst ho
  exact K _ _ _ _ hP hS dX12_token_286
def f_X12_token (s_t_length : Int32) (r_t_tape : jA) (s_t_ahead s_t_begins s_t_letters s_t_sort s_t_value : Int32) (s_t_word : Int64) : Option (Int32 × Int32 × Int32 × Int32 × Int32 × Int64) :=
  jM (f_X12_token_l0 s_t_length r_t_tape s_t_begins s_t_letters s_t_sort s_t_value s_t_word s_t_ahead) fun e6 =>
  jM (f_X12_see e6 s_t_length r_t_tape) fun r7 =>
  if 0 ≤ r7 then
  jM (f_X12_in r7 (97 : Int32) (122 : Int32)) fun r9 =>
  if r9 = 0 then
  jM (f_X12_in r7 (48 : Int32) (57 : Int32)) fun r11 =>
  if r11 = 0 then
  jV (e6 + (1 : Int32)) fun v13 =>
  if r7 = (59 : Int32) then
  f_X12_token_j283 v13 e6 (0 : Int32) s_t_sort r7 (0 : Int64) (4 : Int32)
  else
  f_X12_token_j283 v13 e6 (0 : Int32) s_t_sort r7 (0 : Int64) (1 : Int32)
  else
  jM (f_X12_token_l183 s_t_length r_t_tape e6 (0 : Int32) s_t_sort (0 : Int64) e6 (0 : Int32) (0 : Int32)) fun e21 =>
  if e21.2.2 ≤ (4 : Int32) then
  f_X12_token_j255 e21.1 e6 (0 : Int32) s_t_sort e21.2.1 (0 : Int64) (3 : Int32)
  else
  f_X12_token_j255 e21.1 e6 (0 : Int32) s_t_sort e21.2.1 (0 : Int64) (1 : Int32)
  else
  jM (f_X12_token_l84 s_t_length r_t_tape e6 s_t_sort r7 e6 (0 : Int32) (0 : Int64)) fun e30 =>
  if e30.2.1 ≤ (8 : Int32) then
  f_X12_token_j156 e30.1 e6 e30.2.1 s_t_sort r7 e30.2.2 e30.2.2
  else
  f_X12_token_j156 e30.1 e6 e30.2.1 s_t_sort r7 e30.2.2 (0 : Int64)
  else
  some (e6, e6, (0 : Int32), (0 : Int32), r7, (0 : Int64))
set_option maxHeartbeats 4000000 in
set_option maxRecDepth 100000 in
theorem t_X12_token {p : Program} {l : Launch} {e : Env} {s : State} {m : MethodId} {args : Array Value} {below : List Frame} {meth : Method} {c : Code} {A : Nat → Prop} {Q : State → Prop} (G : jGt) (D : va_G) (cI cB cZ : ClassId) (a_t : Nat) (aX : Nat → Nat) (u_t_code u_t_n u_t_wrongAt u_t_laterFault u_t_laterPlace u_t_newClasses u_t_newLines u_t_turns u_t_shortest u_t_orders u_t_rowNumber u_t_ties s_t_length : Int32) (r_t_tape : jA) (s_t_ahead s_t_begins s_t_letters s_t_sort s_t_value : Int32) (s_t_word : Int64) (C : jCx p s m args c cX12_token 3 gX12_token RX12 G D (jT cI cB cZ) A) {o : Int32 × Int32 × Int32 × Int32 × Int32 × Int64} (hf : f_X12_token s_t_length r_t_tape s_t_ahead s_t_begins s_t_letters s_t_sort s_t_value s_t_word = some o) (K : ∀ (H : Heap) (locs : List Loc) (pc : Nat) (ls : Array Slot), va_P D vwCl (w_X12_token cI cB cZ a_t aX u_t_code u_t_n u_t_wrongAt u_t_laterFault u_t_laterPlace u_t_newClasses u_t_newLines u_t_turns u_t_shortest u_t_orders u_t_rowNumber u_t_ties o.1 o.2.1 s_t_length o.2.2.1 o.2.2.2.1 o.2.2.2.2.1 o.2.2.2.2.2 r_t_tape) H → va_S A s.heap H locs → decode cX12_token pc = .ok (.return_, 1) → W p l e rX12_token s m args below meth c H locs 0 0 Q (F0 m pc ls [])) {H : Heap} {locs : List Loc} {ls : Array Slot} (hP : va_P D vwCl (w_X12_token cI cB cZ a_t aX u_t_code u_t_n u_t_wrongAt u_t_laterFault u_t_laterPlace u_t_newClasses u_t_newLines u_t_turns u_t_shortest u_t_orders u_t_rowNumber u_t_ties s_t_ahead s_t_begins s_t_length s_t_letters s_t_sort s_t_value s_t_word r_t_tape) H) (hD : va_D A (w_X12_token cI cB cZ a_t aX u_t_code u_t_n u_t_wrongAt u_t_laterFault u_t_laterPlace u_t_newClasses u_t_newLines u_t_turns u_t_shortest u_t_orders u_t_rowNumber u_t_ties s_t_ahead s_t_begins s_t_length s_t_letters s_t_sort s_t_value s_t_word r_t_tape)) (hS : va_S A s.heap H locs) (hl : lv_has ls 3 [(0, .ref a_t)]) : W p l e rX12_token s m args below meth c H locs 0 0 Q (F0 m 0 ls []) := by
  obtain ⟨⟨hx, hb, hml, hown, hts⟩, hK, hN, hA⟩ := C
  have C : jCx p s m args c cX12_token 3 gX12_token RX12 G D (jT cI cB cZ) A := ⟨⟨hx, hb, hml, hown, hts⟩, hK, hN, hA⟩
  unfold f_X12_token at hf
  obtain ⟨e6, hg6, hf⟩ := jM_some hf
  refine t_X12_token_l0 G D cI cB cZ a_t aX u_t_code u_t_n u_t_wrongAt u_t_laterFault u_t_laterPlace u_t_newClasses u_t_newLines u_t_turns u_t_shortest u_t_orders u_t_rowNumber u_t_ties s_t_length r_t_tape s_t_begins s_t_letters s_t_sort s_t_value s_t_word C jF s_t_ahead hg6 ?_ _ _ _ hP hD hS (lv_sub hl [0] rfl)
  intro H locs ls hP hD hS hl
  refine lv_aload_n hx hb dX12_token_31 rfl (lv_at hl 0 rfl) ?_
  refine lv_aload_n hx hb dX12_token_32 rfl (lv_at hl 0 rfl) ?_
  refine va_get (D := D) (ci := 11) (v := .int e6) (C := RX12) (T := TX12) (N := 74) hx hb hts iw_X12 hown hK hP 0 rfl rfl 36 (by decide) (hts _ (wG_in k_fl_X12_235 rfl)) (fun _ h9 => h9) rfl dX12_token_33 ?_
  refine va_put (D := D) (ci := 11) (v := .int e6) (ty := .int) (C := RX12) (T := TX12) (N := 74) hx hb hts iw_X12 tyX12 tyX12_ok nmX12 hown hK hP hD hS 0 rfl rfl 38 (by decide) (hts _ (wG_in k_fl_X12_244 rfl)) (fun _ h9 => h9) rfl (tyX12_ok 38 (by decide)) rfl rfl (Nat.le_of_ble_eq_true rfl) dX12_token_36 (fun H locs hP hD hS => ?_)
  have hP : va_P D vwCl (w_X12_token cI cB cZ a_t aX u_t_code u_t_n u_t_wrongAt u_t_laterFault u_t_laterPlace u_t_newClasses u_t_newLines u_t_turns u_t_shortest u_t_orders u_t_rowNumber u_t_ties e6 e6 s_t_length s_t_letters s_t_sort s_t_value s_t_word r_t_tape) H := hP
  have hD : va_D A (w_X12_token cI cB cZ a_t aX u_t_code u_t_n u_t_wrongAt u_t_laterFault u_t_laterPlace u_t_newClasses u_t_newLines u_t_turns u_t_shortest u_t_orders u_t_rowNumber u_t_ties e6 e6 s_t_length s_t_letters s_t_sort s_t_value s_t_word r_t_tape) := hD
  refine lv_aload_n hx hb dX12_token_39 rfl (lv_at hl 0 rfl) ?_
  obtain ⟨r7, hgr7, hf⟩ := jM_some hf
  refine jcV_i0 (As := []) (rest := []) ⟨hx, hb, hml, hown, hts⟩ hK hN hA (c_X12_see l G D cI cB cZ a_t aX u_t_code u_t_n e6 s_t_sort s_t_value s_t_letters s_t_word u_t_wrongAt u_t_laterFault u_t_laterPlace u_t_newClasses u_t_newLines u_t_turns u_t_shortest u_t_orders u_t_rowNumber u_t_ties e6 s_t_length r_t_tape hgr7) (cwV 0 hts (wG_V k_ml_X12_241 k_im_X12_see k_se_X12_see k_in_X12 k_co_X12_see) rfl rfl rfl hd_X12_see ⟨Nat.le_of_ble_eq_true rfl, Nat.le_of_ble_eq_true rfl⟩) hP hD hS [0, 1] rfl rfl rfl (ci := 11) rfl 0 rfl rfl rfl hl.1 rfl (Nat.le_of_ble_eq_true rfl) dX12_token_40 ⟨Nat.le_of_ble_eq_true rfl, Nat.le_of_ble_eq_true rfl⟩ (fun H locs hP hD hS => ?_)
  refine lv_istore_n (lv' := [(1, .int r7), (0, .ref a_t)]) hx hb dX12_token_43 rfl hl (by decide) rfl (fun ls hl => ?_)
  refine lv_aload_n hx hb dX12_token_44 rfl (lv_at hl 1 rfl) ?_
  refine lv_iload_n hx hb dX12_token_45 rfl (lv_at hl 0 rfl) ?_
  refine va_put (D := D) (ci := 11) (v := .int r7) (ty := .int) (C := RX12) (T := TX12) (N := 74) hx hb hts iw_X12 tyX12 tyX12_ok nmX12 hown hK hP hD hS 0 rfl rfl 40 (by decide) (hts _ (wG_in k_fl_X12_247 rfl)) (fun _ h9 => h9) rfl (tyX12_ok 40 (by decide)) rfl rfl (Nat.le_of_ble_eq_true rfl) dX12_token_46 (fun H locs hP hD hS => ?_)
  have hP : va_P D vwCl (w_X12_token cI cB cZ a_t aX u_t_code u_t_n u_t_wrongAt u_t_laterFault u_t_laterPlace u_t_newClasses u_t_newLines u_t_turns u_t_shortest u_t_orders u_t_rowNumber u_t_ties e6 e6 s_t_length s_t_letters s_t_sort r7 s_t_word r_t_tape) H := hP
  have hD : va_D A (w_X12_token cI cB cZ a_t aX u_t_code u_t_n u_t_wrongAt u_t_laterFault u_t_laterPlace u_t_newClasses u_t_newLines u_t_turns u_t_shortest u_t_orders u_t_rowNumber u_t_ties e6 e6 s_t_length s_t_letters s_t_sort r7 s_t_word r_t_tape) := hD
  refine lv_aload_n hx hb dX12_token_49 rfl (lv_at hl 1 rfl) ?_
  refine lv_lconst (v := (0 : Int64)) hx hb dX12_token_50 (by decide) ?_
  refine va_put (D := D) (ci := 11) (v := .long (0 : Int64)) (ty := .long) (C := RX12) (T := TX12) (N := 74) hx hb hts iw_X12 tyX12 tyX12_ok nmX12 hown hK hP hD hS 0 rfl rfl 42 (by decide) (hts _ (wG_in k_fl_X12_250 rfl)) (fun _ h9 => h9) rfl (tyX12_ok 42 (by decide)) rfl rfl (Nat.le_of_ble_eq_true rfl) dX12_token_51 (fun H locs hP hD hS => ?_)
  have hP : va_P D vwCl (w_X12_token cI cB cZ a_t aX u_t_code u_t_n u_t_wrongAt u_t_laterFault u_t_laterPlace u_t_newClasses u_t_newLines u_t_turns u_t_shortest u_t_orders u_t_rowNumber u_t_ties e6 e6 s_t_length s_t_letters s_t_sort r7 (0 : Int64) r_t_tape) H := hP
  have hD : va_D A (w_X12_token cI cB cZ a_t aX u_t_code u_t_n u_t_wrongAt u_t_laterFault u_t_laterPlace u_t_newClasses u_t_newLines u_t_turns u_t_shortest u_t_orders u_t_rowNumber u_t_ties e6 e6 s_t_length s_t_letters s_t_sort r7 (0 : Int64) r_t_tape) := hD
  refine lv_aload_n hx hb dX12_token_54 rfl (lv_at hl 1 rfl) ?_
  refine lv_iconst (v := (0 : Int32)) hx hb dX12_token_55 (by decide) ?_
  refine va_put (D := D) (ci := 11) (v := .int (0 : Int32)) (ty := .int) (C := RX12) (T := TX12) (N := 74) hx hb hts iw_X12 tyX12 tyX12_ok nmX12 hown hK hP hD hS 0 rfl rfl 41 (by decide) (hts _ (wG_in k_fl_X12_254 rfl)) (fun _ h9 => h9) rfl (tyX12_ok 41 (by decide)) rfl rfl (Nat.le_of_ble_eq_true rfl) dX12_token_56 (fun H locs hP hD hS => ?_)
  have hP : va_P D vwCl (w_X12_token cI cB cZ a_t aX u_t_code u_t_n u_t_wrongAt u_t_laterFault u_t_laterPlace u_t_newClasses u_t_newLines u_t_turns u_t_shortest u_t_orders u_t_rowNumber u_t_ties e6 e6 s_t_length (0 : Int32) s_t_sort r7 (0 : Int64) r_t_tape) H := hP
  have hD : va_D A (w_X12_token cI cB cZ a_t aX u_t_code u_t_n u_t_wrongAt u_t_laterFault u_t_laterPlace u_t_newClasses u_t_newLines u_t_turns u_t_shortest u_t_orders u_t_rowNumber u_t_ties e6 e6 s_t_length (0 : Int32) s_t_sort r7 (0 : Int64) r_t_tape) := hD
  refine lv_iconst (v := (0 : Int32)) hx hb dX12_token_59 (by decide) ?_
  refine lv_istore_n (lv' := [(2, .int (0 : Int32)), (1, .int r7), (0, .ref a_t)]) hx hb dX12_token_60 rfl hl (by decide) rfl (fun ls hl => ?_)
  refine lv_iload_n hx hb dX12_token_61 rfl (lv_at hl 1 rfl) ?_
  refine lv_if_ge (tgt := 73) hx hb dX12_token_62 (by decide) (fun c8 => ?_) (fun c8 => ?_)
  · replace hf := jif_t c8 hf
    refine lv_iload_n hx hb dX12_token_73 rfl (lv_at hl 1 rfl) ?_
    refine lv_bipush (v := (97 : Int32)) hx hb dX12_token_74 (by decide) ?_
    refine lv_bipush (v := (122 : Int32)) hx hb dX12_token_76 (by decide) ?_
    obtain ⟨r9, hgr9, hf⟩ := jM_some hf
    refine jcS_i0 (As := [.int r7, .int (97 : Int32), .int (122 : Int32)]) (rest := []) ⟨hx, hb, hml, hown, hts⟩ hK hN hA (c_X12_in l G D cI cB cZ r7 (97 : Int32) (122 : Int32) hgr9) (va_cwS 3 hts (wG_S k_ml_X12_231 k_st_X12_in k_in_X12 k_co_X12_in) rfl rfl rfl hd_X12_in.2 ⟨Nat.le_of_ble_eq_true rfl, Nat.le_of_ble_eq_true rfl⟩) hP hD hS [] rfl rfl rfl rfl hl.1 rfl (Nat.le_of_ble_eq_true rfl) dX12_token_78 ⟨Nat.le_of_ble_eq_true rfl, Nat.le_of_ble_eq_true rfl⟩ (fun H locs hP hD hS => ?_)
    refine lv_if_eq (tgt := 167) hx hb dX12_token_81 (by decide) (fun c10 => ?_) (fun c10 => ?_)
    · replace hf := jif_t c10 hf
      refine lv_iload_n hx hb dX12_token_167 rfl (lv_at hl 1 rfl) ?_
      refine lv_bipush (v := (48 : Int32)) hx hb dX12_token_168 (by decide) ?_
      refine lv_bipush (v := (57 : Int32)) hx hb dX12_token_170 (by decide) ?_
      obtain ⟨r11, hgr11, hf⟩ := jM_some hf
      refine jcS_i0 (As := [.int r7, .int (48 : Int32), .int (57 : Int32)]) (rest := []) ⟨hx, hb, hml, hown, hts⟩ hK hN hA (c_X12_in l G D cI cB cZ r7 (48 : Int32) (57 : Int32) hgr11) (va_cwS 3 hts (wG_S k_ml_X12_231 k_st_X12_in k_in_X12 k_co_X12_in) rfl rfl rfl hd_X12_in.2 ⟨Nat.le_of_ble_eq_true rfl, Nat.le_of_ble_eq_true rfl⟩) hP hD hS [] rfl rfl rfl rfl hl.1 rfl (Nat.le_of_ble_eq_true rfl) dX12_token_172 ⟨Nat.le_of_ble_eq_true rfl, Nat.le_of_ble_eq_true rfl⟩ (fun H locs hP hD hS => ?_)
      refine lv_if_eq (tgt := 261) hx hb dX12_token_175 (by decide) (fun c12 => ?_) (fun c12 => ?_)
      · replace hf := jif_t c12 hf
        refine lv_aload_n hx hb dX12_token_261 rfl (lv_at hl 2 rfl) ?_
        refine lv_dup hx hb dX12_token_262 rfl ?_
        refine va_get (D := D) (ci := 11) (v := .int e6) (C := RX12) (T := TX12) (N := 74) hx hb hts iw_X12 hown hK hP 0 rfl rfl 36 (by decide) (hts _ (wG_in k_fl_X12_235 rfl)) (fun _ h9 => h9) rfl dX12_token_263 ?_
        refine lv_iconst (v := (1 : Int32)) hx hb dX12_token_266 (by decide) ?_
        refine lv_iadd hx hb dX12_token_267 ?_
        obtain ⟨v13, hv13, hf⟩ := jV_some hf
        refine jtop hv13 ?_
        refine va_put (D := D) (ci := 11) (v := .int v13) (ty := .int) (C := RX12) (T := TX12) (N := 74) hx hb hts iw_X12 tyX12 tyX12_ok nmX12 hown hK hP hD hS 0 rfl rfl 36 (by decide) (hts _ (wG_in k_fl_X12_235 rfl)) (fun _ h9 => h9) rfl (tyX12_ok 36 (by decide)) rfl rfl (Nat.le_of_ble_eq_true rfl) dX12_token_268 (fun H locs hP hD hS => ?_)
        have hP : va_P D vwCl (w_X12_token cI cB cZ a_t aX u_t_code u_t_n u_t_wrongAt u_t_laterFault u_t_laterPlace u_t_newClasses u_t_newLines u_t_turns u_t_shortest u_t_orders u_t_rowNumber u_t_ties v13 e6 s_t_length (0 : Int32) s_t_sort r7 (0 : Int64) r_t_tape) H := hP
        have hD : va_D A (w_X12_token cI cB cZ a_t aX u_t_code u_t_n u_t_wrongAt u_t_laterFault u_t_laterPlace u_t_newClasses u_t_newLines u_t_turns u_t_shortest u_t_orders u_t_rowNumber u_t_ties v13 e6 s_t_length (0 : Int32) s_t_sort r7 (0 : Int64) r_t_tape) := hD
        refine lv_aload_n hx hb dX12_token_271 rfl (lv_at hl 2 rfl) ?_
        refine lv_iload_n hx hb dX12_token_272 rfl (lv_at hl 1 rfl) ?_
        refine lv_bipush (v := (59 : Int32)) hx hb dX12_token_273 (by decide) ?_
        refine lv_icmp_ne (tgt := 282) hx hb dX12_token_275 (by decide) (fun c14 => ?_) (fun c14 => ?_)
        · replace hf := jif_f c14 hf
          refine lv_iconst (v := (1 : Int32)) hx hb dX12_token_282 (by decide) ?_
          exact t_X12_token_j283 G D cI cB cZ a_t aX u_t_code u_t_n u_t_wrongAt u_t_laterFault u_t_laterPlace u_t_newClasses u_t_newLines u_t_turns u_t_shortest u_t_orders u_t_rowNumber u_t_ties s_t_length r_t_tape v13 e6 (0 : Int32) s_t_sort r7 (0 : Int64) (1 : Int32) C hf K hP hD hS (lv_sub hl [] rfl)
        · replace hf := jif_t c14 hf
          refine lv_iconst (v := (4 : Int32)) hx hb dX12_token_278 (by decide) ?_
          refine lv_goto (tgt := 283) hx hb dX12_token_279 (by decide) ?_
          exact t_X12_token_j283 G D cI cB cZ a_t aX u_t_code u_t_n u_t_wrongAt u_t_laterFault u_t_laterPlace u_t_newClasses u_t_newLines u_t_turns u_t_shortest u_t_orders u_t_rowNumber u_t_ties s_t_length r_t_tape v13 e6 (0 : Int32) s_t_sort r7 (0 : Int64) (4 : Int32) C hf K hP hD hS (lv_sub hl [] rfl)
      · replace hf := jif_f c12 hf
        refine lv_aload_n hx hb dX12_token_178 rfl (lv_at hl 2 rfl) ?_
        refine lv_iconst (v := (0 : Int32)) hx hb dX12_token_179 (by decide) ?_
        refine va_put (D := D) (ci := 11) (v := .int (0 : Int32)) (ty := .int) (C := RX12) (T := TX12) (N := 74) hx hb hts iw_X12 tyX12 tyX12_ok nmX12 hown hK hP hD hS 0 rfl rfl 40 (by decide) (hts _ (wG_in k_fl_X12_247 rfl)) (fun _ h9 => h9) rfl (tyX12_ok 40 (by decide)) rfl rfl (Nat.le_of_ble_eq_true rfl) dX12_token_180 (fun H locs hP hD hS => ?_)
        have hP : va_P D vwCl (w_X12_token cI cB cZ a_t aX u_t_code u_t_n u_t_wrongAt u_t_laterFault u_t_laterPlace u_t_newClasses u_t_newLines u_t_turns u_t_shortest u_t_orders u_t_rowNumber u_t_ties e6 e6 s_t_length (0 : Int32) s_t_sort (0 : Int32) (0 : Int64) r_t_tape) H := hP
        have hD : va_D A (w_X12_token cI cB cZ a_t aX u_t_code u_t_n u_t_wrongAt u_t_laterFault u_t_laterPlace u_t_newClasses u_t_newLines u_t_turns u_t_shortest u_t_orders u_t_rowNumber u_t_ties e6 e6 s_t_length (0 : Int32) s_t_sort (0 : Int32) (0 : Int64) r_t_tape) := hD
        obtain ⟨e21, hg21, hf⟩ := jM_some hf
        refine t_X12_token_l183 G D cI cB cZ a_t aX u_t_code u_t_n u_t_wrongAt u_t_laterFault u_t_laterPlace u_t_newClasses u_t_newLines u_t_turns u_t_shortest u_t_orders u_t_rowNumber u_t_ties s_t_length r_t_tape e6 (0 : Int32) s_t_sort (0 : Int64) C jF e6 (0 : Int32) (0 : Int32) hg21 ?_ _ _ _ hP hD hS (lv_sub hl [2, 0] rfl)
        intro H locs ls hP hD hS hl
        refine lv_aload_n hx hb dX12_token_244 rfl (lv_at hl 0 rfl) ?_
        refine lv_iload_n hx hb dX12_token_245 rfl (lv_at hl 1 rfl) ?_
        refine lv_iconst (v := (4 : Int32)) hx hb dX12_token_246 (by decide) ?_
        refine lv_icmp_le (tgt := 254) hx hb dX12_token_247 (by decide) (fun c22 => ?_) (fun c22 => ?_)
        · replace hf := jif_t c22 hf
          refine lv_iconst (v := (3 : Int32)) hx hb dX12_token_254 (by decide) ?_
          exact t_X12_token_j255 G D cI cB cZ a_t aX u_t_code u_t_n u_t_wrongAt u_t_laterFault u_t_laterPlace u_t_newClasses u_t_newLines u_t_turns u_t_shortest u_t_orders u_t_rowNumber u_t_ties s_t_length r_t_tape e21.1 e6 (0 : Int32) s_t_sort e21.2.1 (0 : Int64) (3 : Int32) C hf K hP hD hS (lv_sub hl [] rfl)
        · replace hf := jif_f c22 hf
          refine lv_iconst (v := (1 : Int32)) hx hb dX12_token_250 (by decide) ?_
          refine lv_goto (tgt := 255) hx hb dX12_token_251 (by decide) ?_
          exact t_X12_token_j255 G D cI cB cZ a_t aX u_t_code u_t_n u_t_wrongAt u_t_laterFault u_t_laterPlace u_t_newClasses u_t_newLines u_t_turns u_t_shortest u_t_orders u_t_rowNumber u_t_ties s_t_length r_t_tape e21.1 e6 (0 : Int32) s_t_sort e21.2.1 (0 : Int64) (1 : Int32) C hf K hP hD hS (lv_sub hl [] rfl)
    · replace hf := jif_f c10 hf
      obtain ⟨e30, hg30, hf⟩ := jM_some hf
      refine t_X12_token_l84 G D cI cB cZ a_t aX u_t_code u_t_n u_t_wrongAt u_t_laterFault u_t_laterPlace u_t_newClasses u_t_newLines u_t_turns u_t_shortest u_t_orders u_t_rowNumber u_t_ties s_t_length r_t_tape e6 s_t_sort r7 C jF e6 (0 : Int32) (0 : Int64) hg30 ?_ _ _ _ hP hD hS (lv_sub hl [2] rfl)
      intro H locs ls hP hD hS hl
      refine lv_aload_n hx hb dX12_token_138 rfl (lv_at hl 0 rfl) ?_
      refine lv_aload_n hx hb dX12_token_139 rfl (lv_at hl 0 rfl) ?_
      refine va_get (D := D) (ci := 11) (v := .int e30.2.1) (C := RX12) (T := TX12) (N := 74) hx hb hts iw_X12 hown hK hP 0 rfl rfl 41 (by decide) (hts _ (wG_in k_fl_X12_254 rfl)) (fun _ h9 => h9) rfl dX12_token_140 ?_
      refine lv_bipush (v := (8 : Int32)) hx hb dX12_token_143 (by decide) ?_
      refine lv_icmp_le (tgt := 152) hx hb dX12_token_145 (by decide) (fun c31 => ?_) (fun c31 => ?_)
      · replace hf := jif_t c31 hf
        refine lv_aload_n hx hb dX12_token_152 rfl (lv_at hl 0 rfl) ?_
        refine va_get (D := D) (ci := 11) (v := .long e30.2.2) (C := RX12) (T := TX12) (N := 74) hx hb hts iw_X12 hown hK hP 0 rfl rfl 42 (by decide) (hts _ (wG_in k_fl_X12_250 rfl)) (fun _ h9 => h9) rfl dX12_token_153 ?_
        exact t_X12_token_j156 G D cI cB cZ a_t aX u_t_code u_t_n u_t_wrongAt u_t_laterFault u_t_laterPlace u_t_newClasses u_t_newLines u_t_turns u_t_shortest u_t_orders u_t_rowNumber u_t_ties s_t_length r_t_tape e30.1 e6 e30.2.1 s_t_sort r7 e30.2.2 e30.2.2 C hf K hP hD hS (lv_sub hl [0] rfl)
      · replace hf := jif_f c31 hf
        refine lv_lconst (v := (0 : Int64)) hx hb dX12_token_148 (by decide) ?_
        refine lv_goto (tgt := 156) hx hb dX12_token_149 (by decide) ?_
        exact t_X12_token_j156 G D cI cB cZ a_t aX u_t_code u_t_n u_t_wrongAt u_t_laterFault u_t_laterPlace u_t_newClasses u_t_newLines u_t_turns u_t_shortest u_t_orders u_t_rowNumber u_t_ties s_t_length r_t_tape e30.1 e6 e30.2.1 s_t_sort r7 e30.2.2 (0 : Int64) C hf K hP hD hS (lv_sub hl [0] rfl)
  · replace hf := jif_f c8 hf
    refine lv_aload_n hx hb dX12_token_65 rfl (lv_at hl 2 rfl) ?_
    refine lv_iconst (v := (0 : Int32)) hx hb dX12_token_66 (by decide) ?_
    refine va_put (D := D) (ci := 11) (v := .int (0 : Int32)) (ty := .int) (C := RX12) (T := TX12) (N := 74) hx hb hts iw_X12 tyX12 tyX12_ok nmX12 hown hK hP hD hS 0 rfl rfl 39 (by decide) (hts _ (wG_in k_fl_X12_257 rfl)) (fun _ h9 => h9) rfl (tyX12_ok 39 (by decide)) rfl rfl (Nat.le_of_ble_eq_true rfl) dX12_token_67 (fun H locs hP hD hS => ?_)
    have hP : va_P D vwCl (w_X12_token cI cB cZ a_t aX u_t_code u_t_n u_t_wrongAt u_t_laterFault u_t_laterPlace u_t_newClasses u_t_newLines u_t_turns u_t_shortest u_t_orders u_t_rowNumber u_t_ties e6 e6 s_t_length (0 : Int32) (0 : Int32) r7 (0 : Int64) r_t_tape) H := hP
    have hD : va_D A (w_X12_token cI cB cZ a_t aX u_t_code u_t_n u_t_wrongAt u_t_laterFault u_t_laterPlace u_t_newClasses u_t_newLines u_t_turns u_t_shortest u_t_orders u_t_rowNumber u_t_ties e6 e6 s_t_length (0 : Int32) (0 : Int32) r7 (0 : Int64) r_t_tape) := hD
    refine lv_goto (tgt := 286) hx hb dX12_token_70 (by decide) ?_
    have ho := Option.some.inj hf
    subst ho
    exact K _ _ _ _ hP hS dX12_token_286
set_option maxHeartbeats 4000000 in
set_option maxRecDepth 100000 in
theorem c_X12_token (l : Launch) (G : jGt) (D : va_G) (cI cB cZ : ClassId) (a_t : Nat) (aX : Nat → Nat) (u_t_code u_t_n u_t_wrongAt u_t_laterFault u_t_laterPlace u_t_newClasses u_t_newLines u_t_turns u_t_shortest u_t_orders u_t_rowNumber u_t_ties s_t_length : Int32) (r_t_tape : jA) (s_t_ahead s_t_begins s_t_letters s_t_sort s_t_value : Int32) (s_t_word : Int64) {o : Int32 × Int32 × Int32 × Int32 × Int32 × Int64} (hf : f_X12_token s_t_length r_t_tape s_t_ahead s_t_begins s_t_letters s_t_sort s_t_value s_t_word = some o) : jMv l yX12_token gX12_token rX12_token G D (jT cI cB cZ) [.ref a_t] (w_X12_token cI cB cZ a_t aX u_t_code u_t_n u_t_wrongAt u_t_laterFault u_t_laterPlace u_t_newClasses u_t_newLines u_t_turns u_t_shortest u_t_orders u_t_rowNumber u_t_ties s_t_ahead s_t_begins s_t_length s_t_letters s_t_sort s_t_value s_t_word r_t_tape) (w_X12_token cI cB cZ a_t aX u_t_code u_t_n u_t_wrongAt u_t_laterFault u_t_laterPlace u_t_newClasses u_t_newLines u_t_turns u_t_shortest u_t_orders u_t_rowNumber u_t_ties o.1 o.2.1 s_t_length o.2.2.1 o.2.2.2.1 o.2.2.2.2.1 o.2.2.2.2.2 r_t_tape) := by
  refine jmk_v RX12 rfl (by decide +kernel) rfl (Nat.le_of_ble_eq_true rfl) rfl ?_
  intro p e s m args below meth c ls A Q C hP hD hS hl K
  exact t_X12_token G D cI cB cZ a_t aX u_t_code u_t_n u_t_wrongAt u_t_laterFault u_t_laterPlace u_t_newClasses u_t_newLines u_t_turns u_t_shortest u_t_orders u_t_rowNumber u_t_ties s_t_length r_t_tape s_t_ahead s_t_begins s_t_letters s_t_sort s_t_value s_t_word C hf K hP hD hS hl

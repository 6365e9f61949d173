/-! the law's loop -/
theorem d_lsw : decode code 33 = .ok (.tableswitch 1170 0 36 #[163, 226, 249, 262, 275, 298, 321, 344, 393, 416, 429, 462, 495, 528, 561, 584, 597, 620, 643, 676, 699, 722, 765, 788, 831, 864, 897, 920, 943, 976, 1009, 1032, 1045, 1068, 1101, 1124, 1147], 163) := by decide +kernel
section LAWD
variable {p : Program} {l : Launch} {e : Env} {s : State} {m : MethodId} {below : List Frame} {meth : Method} {c : Code} {b L : Nat} {xs : Nat → Int32} {rf : Nat} {G : jGt} {D : va_G} {cI cB cZ cS cC cJ : ClassId} {h : Nat → Nat} {aX : Nat → Nat}
theorem lw_sub6 {L i : Nat} (hL : L ≤ 3072) (hi : i ≤ L) (h : ¬ Int32.ofNat L - 6 < nI i) : i + 6 ≤ L := by
  rcases Nat.lt_or_ge L 6 with g | g
  · refine absurd ?_ h
    rw [Int32.lt_iff_toInt_lt, nI_toInt (by omega)]
    rcases (show L = 0 ∨ L = 1 ∨ L = 2 ∨ L = 3 ∨ L = 4 ∨ L = 5 by omega) with rfl | rfl | rfl | rfl | rfl | rfl
    · exact Int.lt_of_lt_of_le (by decide : (Int32.ofNat 0 - 6).toInt < 0) (Int.natCast_nonneg _)
    · exact Int.lt_of_lt_of_le (by decide : (Int32.ofNat 1 - 6).toInt < 0) (Int.natCast_nonneg _)
    · exact Int.lt_of_lt_of_le (by decide : (Int32.ofNat 2 - 6).toInt < 0) (Int.natCast_nonneg _)
    · exact Int.lt_of_lt_of_le (by decide : (Int32.ofNat 3 - 6).toInt < 0) (Int.natCast_nonneg _)
    · exact Int.lt_of_lt_of_le (by decide : (Int32.ofNat 4 - 6).toInt < 0) (Int.natCast_nonneg _)
    · exact Int.lt_of_lt_of_le (by decide : (Int32.ofNat 5 - 6).toInt < 0) (Int.natCast_nonneg _)
  · have e : Int32.ofNat L - 6 = nI (L - 6) := qn_sub (a := L) (b := 6) g
    rw [e, nI_ltI (by omega) (by omega)] at h
    omega
theorem lw_head {H : Heap} {locs : List Loc} {cells slots i : Nat} {ls : Array Slot} {a : Nat} (hL : L ≤ 3072) (C0 : lw_At p s m meth c b L xs) (hi : i ≤ L) (hl : lv_has ls 4 [(0, .ref b), (1, .ref a), (2, .ref rf), (3, .int (nI i))]) (hS : va_S (fun q : Nat => s.heap.size ≤ q) s.heap H locs) (hf : cells ≤ 600000 ∧ slots ≤ 7302250) (kk : i + 6 ≤ L → W p l e room_1 s m #[Value.ref b] below meth c H locs cells slots (lw_Z below #[Value.ref b] s) (F0 m 27 ls [])) : W p l e room_1 s m #[Value.ref b] below meth c H locs cells slots (lw_Z below #[Value.ref b] s) (F0 m 18 ls []) := by
  obtain ⟨hx, hb, hr, hml, hown, hts, hX, hbl, hlocks, hgv⟩ := C0
  have hbA : ¬ (fun q : Nat => s.heap.size ≤ q) b := Nat.not_le.mpr hbl
  refine lv_iload_n (pc := 18) (k := 3) hx hb (by decide +kernel) rfl (lv_at hl 3 rfl) ?_
  refine lv_aload_n (pc := 19) (k := 0) hx hb (by decide +kernel) rfl (lv_at hl 0 rfl) ?_
  refine va_slen (pc := 20) hx hb hX hbl hbA hS (by decide +kernel) ?_
  refine lv_bipush (pc := 21) (n := 6) (v := 6) hx hb (by decide +kernel) (by decide) ?_
  refine lv_isub (pc := 23) hx hb (by decide +kernel) ?_
  refine lv_icmp_gt (pc := 24) (off := 1185) (tgt := 1209) hx hb (by decide +kernel) (by decide) (fun _ => ?_) (fun h => kk (lw_sub6 hL hi h))
  refine lv_iconst (pc := 1209) (n := 1) (v := 1) hx hb (by decide +kernel) (by decide) ?_
  refine va_forget (fun q hq => hS.2.2 q hq) ?_
  refine W.widen (k := 600000) (n := 7302250) hf.1 hf.2 ?_
  exact lw_ret hx hb hr hlocks (by decide +kernel)
theorem lw_next {H : Heap} {locs : List Loc} {cells slots i : Nat} {ls : Array Slot} {a : Nat} (C0 : lw_At p s m meth c b L xs) (hl : lv_has ls 4 [(0, .ref b), (1, .ref a), (2, .ref rf), (3, .int (nI i))]) (kk : ∀ ls', lv_has ls' 4 [(0, .ref b), (1, .ref a), (2, .ref rf), (3, .int (nI (i + 6)))] → W p l e room_1 s m #[Value.ref b] below meth c H locs cells slots (lw_Z below #[Value.ref b] s) (F0 m 18 ls' [])) : W p l e room_1 s m #[Value.ref b] below meth c H locs cells slots (lw_Z below #[Value.ref b] s) (F0 m 1203 ls []) := by
  obtain ⟨hx, hb, -⟩ := C0
  refine lv_iinc (pc := 1203) (i := 3) (n := 6) (v := nI (i + 6)) (lv' := [(3, .int (nI (i + 6))), (0, .ref b), (1, .ref a), (2, .ref rf)]) hx hb (by decide +kernel) hl (k := 3) rfl (nI_add i 6) (by decide) rfl (fun ls' hl' => ?_)
  refine lv_goto (pc := 1206) (off := -1188) (tgt := 18) hx hb (by decide +kernel) (by decide) ?_
  exact kk ls' (lv_sub hl' [1, 2, 3, 0] rfl)
theorem lw_case {H : Heap} {locs : List Loc} {cells slots i : Nat} {ls : Array Slot} {v : Value} {I : Nat → Option zIm} {Cn : Nat → Option zCn} {X : Nat → Int32} {Y : Nat → Nat → Int32} {N : Nat → Int32} {w0 : Int64} {T : Nat → Nat → Int32} (hL : L ≤ 3072) (C0 : lw_At p s m meth c b L xs) (hK : va_K D vwCl (jTx cI cB cZ cS cC cJ) s) (hN : jN G s) (hG : G.1 ≤ s.heap.size) (hi : i + 5 < L) (hl : lv_has ls 4 [(0, .ref b), (1, .ref (h 0)), (2, .ref rf), (3, .int (nI i))]) (hP : va_P D vwCl (wRf cI cB cZ rf aX N w0 T ++ wAl cI cB cZ cS cC cJ h v I Cn X Y) H) (hD : va_D (fun q : Nat => s.heap.size ≤ q) (wRf cI cB cZ rf aX N w0 T ++ wAl cI cB cZ cS cC cJ h v I Cn X Y)) (hS : va_S (fun q : Nat => s.heap.size ≤ q) s.heap H locs) (hA : qAll I Cn X Y T) (hf : cells + 48 ≤ 600000 ∧ slots + 1740 ≤ 7302250) (kk : jK p l e s m below meth c b (lw_Z below #[Value.ref b] s) D cI cB cZ cS cC cJ h rf aX ls (cells + 48) (slots + 1740) 1203) : W p l e room_1 s m #[Value.ref b] below meth c H locs cells slots (lw_Z below #[Value.ref b] s) (F0 m 27 ls []) := by
  obtain ⟨hx, hb, hr, hml, hown, hts, hX, hbl, hlocks, hgv⟩ := id C0
  have hbA : ¬ (fun q : Nat => s.heap.size ≤ q) b := Nat.not_le.mpr hbl
  refine lv_aload_n (pc := 27) (k := 0) hx hb (by decide +kernel) rfl (lv_at hl 0 rfl) ?_
  refine lv_iload_n (pc := 28) (k := 3) hx hb (by decide +kernel) rfl (lv_at hl 3 rfl) ?_
  refine va_sld (pc := 29) hx hb hX hbl hbA hS (vp_in_nI (by omega) (by omega)) (by decide +kernel) ?_
  refine lv_bipush (pc := 30) (n := 63) (v := 63) hx hb (by decide +kernel) (by decide) ?_
  refine lv_iand (pc := 32) hx hb (by decide +kernel) ?_
  generalize xs (nI i).toNatClampNeg &&& 63 = x
  rcases qn_inout x 37 with ⟨k, hk, -, rfl⟩ | hout
  · rcases (show k = 0 ∨ k = 1 ∨ k = 2 ∨ k = 3 ∨ k = 4 ∨ k = 5 ∨ k = 6 ∨ k = 7 ∨ k = 8 ∨ k = 9 ∨ k = 10 ∨ k = 11 ∨ k = 12 ∨ k = 13 ∨ k = 14 ∨ k = 15 ∨ k = 16 ∨ k = 17 ∨ k = 18 ∨ k = 19 ∨ k = 20 ∨ k = 21 ∨ k = 22 ∨ k = 23 ∨ k = 24 ∨ k = 25 ∨ k = 26 ∨ k = 27 ∨ k = 28 ∨ k = 29 ∨ k = 30 ∨ k = 31 ∨ k = 32 ∨ k = 33 ∨ k = 34 ∨ k = 35 ∨ k = 36 by omega) with rfl | rfl | rfl | rfl | rfl | rfl | rfl | rfl | rfl | rfl | rfl | rfl | rfl | rfl | rfl | rfl | rfl | rfl | rfl | rfl | rfl | rfl | rfl | rfl | rfl | rfl | rfl | rfl | rfl | rfl | rfl | rfl | rfl | rfl | rfl | rfl | rfl
    · exact lv_tableIn (pc := 33) (off := 163) (tgt := 196) hx hb d_lsw (by decide +kernel) (by decide +kernel) (by decide +kernel) (by decide) (lw_c0 hL C0 hK hN hG hi hl hP hD hS hA hf kk)
    · exact lv_tableIn (pc := 33) (off := 226) (tgt := 259) hx hb d_lsw (by decide +kernel) (by decide +kernel) (by decide +kernel) (by decide) (lw_c1 hL C0 hK hN hG hi hl hP hD hS hA hf kk)
    · exact lv_tableIn (pc := 33) (off := 249) (tgt := 282) hx hb d_lsw (by decide +kernel) (by decide +kernel) (by decide +kernel) (by decide) (lw_c2 hL C0 hK hN hG hi hl hP hD hS hA hf kk)
    · exact lv_tableIn (pc := 33) (off := 262) (tgt := 295) hx hb d_lsw (by decide +kernel) (by decide +kernel) (by decide +kernel) (by decide) (lw_c3 hL C0 hK hN hG hi hl hP hD hS hA hf kk)
    · exact lv_tableIn (pc := 33) (off := 275) (tgt := 308) hx hb d_lsw (by decide +kernel) (by decide +kernel) (by decide +kernel) (by decide) (lw_c4 hL C0 hK hN hG hi hl hP hD hS hA hf kk)
    · exact lv_tableIn (pc := 33) (off := 298) (tgt := 331) hx hb d_lsw (by decide +kernel) (by decide +kernel) (by decide +kernel) (by decide) (lw_c5 hL C0 hK hN hG hi hl hP hD hS hA hf kk)
    · exact lv_tableIn (pc := 33) (off := 321) (tgt := 354) hx hb d_lsw (by decide +kernel) (by decide +kernel) (by decide +kernel) (by decide) (lw_c6 hL C0 hK hN hG hi hl hP hD hS hA hf kk)
    · exact lv_tableIn (pc := 33) (off := 344) (tgt := 377) hx hb d_lsw (by decide +kernel) (by decide +kernel) (by decide +kernel) (by decide) (lw_c7 hL C0 hK hN hG hi hl hP hD hS hA hf kk)
    · exact lv_tableIn (pc := 33) (off := 393) (tgt := 426) hx hb d_lsw (by decide +kernel) (by decide +kernel) (by decide +kernel) (by decide) (lw_c8 hL C0 hK hN hG hi hl hP hD hS hA hf kk)
    · exact lv_tableIn (pc := 33) (off := 416) (tgt := 449) hx hb d_lsw (by decide +kernel) (by decide +kernel) (by decide +kernel) (by decide) (lw_c9 hL C0 hK hN hG hi hl hP hD hS hA hf kk)
    · exact lv_tableIn (pc := 33) (off := 429) (tgt := 462) hx hb d_lsw (by decide +kernel) (by decide +kernel) (by decide +kernel) (by decide) (lw_c10 hL C0 hK hN hG hi hl hP hD hS hA hf kk)
    · exact lv_tableIn (pc := 33) (off := 462) (tgt := 495) hx hb d_lsw (by decide +kernel) (by decide +kernel) (by decide +kernel) (by decide) (lw_c11 hL C0 hK hN hG hi hl hP hD hS hA hf kk)
    · exact lv_tableIn (pc := 33) (off := 495) (tgt := 528) hx hb d_lsw (by decide +kernel) (by decide +kernel) (by decide +kernel) (by decide) (lw_c12 hL C0 hK hN hG hi hl hP hD hS hA hf kk)
    · exact lv_tableIn (pc := 33) (off := 528) (tgt := 561) hx hb d_lsw (by decide +kernel) (by decide +kernel) (by decide +kernel) (by decide) (lw_c13 hL C0 hK hN hG hi hl hP hD hS hA hf kk)
    · exact lv_tableIn (pc := 33) (off := 561) (tgt := 594) hx hb d_lsw (by decide +kernel) (by decide +kernel) (by decide +kernel) (by decide) (lw_c14 hL C0 hK hN hG hi hl hP hD hS hA hf kk)
    · exact lv_tableIn (pc := 33) (off := 584) (tgt := 617) hx hb d_lsw (by decide +kernel) (by decide +kernel) (by decide +kernel) (by decide) (lw_c15 hL C0 hK hN hG hi hl hP hD hS hA hf kk)
    · exact lv_tableIn (pc := 33) (off := 597) (tgt := 630) hx hb d_lsw (by decide +kernel) (by decide +kernel) (by decide +kernel) (by decide) (lw_c16 hL C0 hK hN hG hi hl hP hD hS hA hf kk)
    · exact lv_tableIn (pc := 33) (off := 620) (tgt := 653) hx hb d_lsw (by decide +kernel) (by decide +kernel) (by decide +kernel) (by decide) (lw_c17 hL C0 hK hN hG hi hl hP hD hS hA hf kk)
    · exact lv_tableIn (pc := 33) (off := 643) (tgt := 676) hx hb d_lsw (by decide +kernel) (by decide +kernel) (by decide +kernel) (by decide) (lw_c18 hL C0 hK hN hG hi hl hP hD hS hA hf kk)
    · exact lv_tableIn (pc := 33) (off := 676) (tgt := 709) hx hb d_lsw (by decide +kernel) (by decide +kernel) (by decide +kernel) (by decide) (lw_c19 hL C0 hK hN hG hi hl hP hD hS hA hf kk)
    · exact lv_tableIn (pc := 33) (off := 699) (tgt := 732) hx hb d_lsw (by decide +kernel) (by decide +kernel) (by decide +kernel) (by decide) (lw_c20 hL C0 hK hN hG hi hl hP hD hS hA hf kk)
    · exact lv_tableIn (pc := 33) (off := 722) (tgt := 755) hx hb d_lsw (by decide +kernel) (by decide +kernel) (by decide +kernel) (by decide) (lw_c21 hL C0 hK hN hG hi hl hP hD hS hA hf kk)
    · exact lv_tableIn (pc := 33) (off := 765) (tgt := 798) hx hb d_lsw (by decide +kernel) (by decide +kernel) (by decide +kernel) (by decide) (lw_c22 hL C0 hK hN hG hi hl hP hD hS hA hf kk)
    · exact lv_tableIn (pc := 33) (off := 788) (tgt := 821) hx hb d_lsw (by decide +kernel) (by decide +kernel) (by decide +kernel) (by decide) (lw_c23 hL C0 hK hN hG hi hl hP hD hS hA hf kk)
    · exact lv_tableIn (pc := 33) (off := 831) (tgt := 864) hx hb d_lsw (by decide +kernel) (by decide +kernel) (by decide +kernel) (by decide) (lw_c24 hL C0 hK hN hG hi hl hP hD hS hA hf kk)
    · exact lv_tableIn (pc := 33) (off := 864) (tgt := 897) hx hb d_lsw (by decide +kernel) (by decide +kernel) (by decide +kernel) (by decide) (lw_c25 hL C0 hK hN hG hi hl hP hD hS hA hf kk)
    · exact lv_tableIn (pc := 33) (off := 897) (tgt := 930) hx hb d_lsw (by decide +kernel) (by decide +kernel) (by decide +kernel) (by decide) (lw_c26 hL C0 hK hN hG hi hl hP hD hS hA hf kk)
    · exact lv_tableIn (pc := 33) (off := 920) (tgt := 953) hx hb d_lsw (by decide +kernel) (by decide +kernel) (by decide +kernel) (by decide) (lw_c27 hL C0 hK hN hG hi hl hP hD hS hA hf kk)
    · exact lv_tableIn (pc := 33) (off := 943) (tgt := 976) hx hb d_lsw (by decide +kernel) (by decide +kernel) (by decide +kernel) (by decide) (lw_c28 hL C0 hK hN hG hi hl hP hD hS hA hf kk)
    · exact lv_tableIn (pc := 33) (off := 976) (tgt := 1009) hx hb d_lsw (by decide +kernel) (by decide +kernel) (by decide +kernel) (by decide) (lw_c29 hL C0 hK hN hG hi hl hP hD hS hA hf kk)
    · exact lv_tableIn (pc := 33) (off := 1009) (tgt := 1042) hx hb d_lsw (by decide +kernel) (by decide +kernel) (by decide +kernel) (by decide) (lw_c30 hL C0 hK hN hG hi hl hP hD hS hA hf kk)
    · exact lv_tableIn (pc := 33) (off := 1032) (tgt := 1065) hx hb d_lsw (by decide +kernel) (by decide +kernel) (by decide +kernel) (by decide) (lw_c31 hL C0 hK hN hG hi hl hP hD hS hA hf kk)
    · exact lv_tableIn (pc := 33) (off := 1045) (tgt := 1078) hx hb d_lsw (by decide +kernel) (by decide +kernel) (by decide +kernel) (by decide) (lw_c32 hL C0 hK hN hG hi hl hP hD hS hA hf kk)
    · exact lv_tableIn (pc := 33) (off := 1068) (tgt := 1101) hx hb d_lsw (by decide +kernel) (by decide +kernel) (by decide +kernel) (by decide) (lw_c33 hL C0 hK hN hG hi hl hP hD hS hA hf kk)
    · exact lv_tableIn (pc := 33) (off := 1101) (tgt := 1134) hx hb d_lsw (by decide +kernel) (by decide +kernel) (by decide +kernel) (by decide) (lw_c34 hL C0 hK hN hG hi hl hP hD hS hA hf kk)
    · exact lv_tableIn (pc := 33) (off := 1124) (tgt := 1157) hx hb d_lsw (by decide +kernel) (by decide +kernel) (by decide +kernel) (by decide) (lw_c35 hL C0 hK hN hG hi hl hP hD hS hA hf kk)
    · exact lv_tableIn (pc := 33) (off := 1147) (tgt := 1180) hx hb d_lsw (by decide +kernel) (by decide +kernel) (by decide +kernel) (by decide) (lw_c36 hL C0 hK hN hG hi hl hP hD hS hA hf kk)
  · refine lv_tableOut (pc := 33) (tgt := 1203) hx hb d_lsw ?_ (by decide) ?_
    · rcases hout with hq | ⟨j, hj, hj2, rfl⟩
      · exact Or.inl (Int32.lt_iff_toInt_lt.mp hq)
      · refine Or.inr ?_
        rw [nI_toInt hj2]
        omega
    · exact W.widen (Nat.le_add_right _ _) (Nat.le_add_right _ _) (kk H locs v I Cn X Y N w0 T hP hD hS hA)
theorem lw_loop (hL : L ≤ 3072) (C0 : lw_At p s m meth c b L xs) (hK : va_K D vwCl (jTx cI cB cZ cS cC cJ) s) (hN : jN G s) (hG : G.1 ≤ s.heap.size) : ∀ (n j : Nat), L ≤ 6 * j + 6 * n + 5 → 6 * j ≤ L → ∀ (ls : Array Slot), lv_has ls 4 [(0, .ref b), (1, .ref (h 0)), (2, .ref rf), (3, .int (nI (6 * j)))] → jK p l e s m below meth c b (lw_Z below #[Value.ref b] s) D cI cB cZ cS cC cJ h rf aX ls (200 + 48 * j) (30000 + 1740 * j) 18 := by
  intro n
  induction n with
  | zero =>
    intro j h1 h2 ls hl H locs v I Cn X Y N w0 T hP hD hS hA
    exact lw_head hL C0 h2 hl hS ⟨by omega, by omega⟩ (fun g => absurd g (by omega))
  | succ n ih =>
    intro j h1 h2 ls hl H locs v I Cn X Y N w0 T hP hD hS hA
    refine lw_head hL C0 h2 hl hS ⟨by omega, by omega⟩ (fun g => ?_)
    refine lw_case hL C0 hK hN hG (by omega) hl hP hD hS hA ⟨by omega, by omega⟩ ?_
    intro H1 locs1 v1 I1 Cn1 X1 Y1 N1 w1 T1 hP1 hD1 hS1 hA1
    refine lw_next C0 hl (fun ls' hl' => ?_)
    have q := ih (j + 1) (by omega) (by omega) ls' hl' H1 locs1 v1 I1 Cn1 X1 Y1 N1 w1 T1 hP1 hD1 hS1 hA1
    exact W.widen (by omega) (by omega) q
end LAWD

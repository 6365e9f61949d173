/-! the law from its entry -/
def hA0 (a : Nat) (q : zHa) : Nat → Nat := fun k => match k with
  | 0 => a
  | 1 => q.1.1
  | 2 => q.2.1 0
  | 3 => q.2.1 1
  | 4 => q.2.1 2
  | 5 => q.2.1 3
  | 6 => q.2.1 4
  | 7 => q.2.1 5
  | 8 => q.2.1 6
  | 9 => q.2.1 7
  | 10 => q.2.1 8
  | 11 => q.2.1 9
  | 12 => q.2.1 10
  | 13 => q.2.1 11
  | 14 => q.2.1 12
  | 15 => q.2.1 13
  | 16 => q.2.1 14
  | 17 => q.2.1 15
  | 18 => q.2.1 16
  | 19 => q.2.1 17
  | 20 => q.2.1 18
  | 21 => q.2.1 19
  | 22 => q.2.1 20
  | 23 => q.2.1 21
  | 24 => q.2.1 22
  | 25 => q.1.2.1
  | 26 => q.1.2.2.1
  | 27 => q.2.2.1 0
  | 28 => q.2.2.1 1
  | 29 => q.2.2.1 2
  | 30 => q.2.2.1 3
  | 31 => q.2.2.1 4
  | 32 => q.2.2.1 5
  | 33 => q.2.2.1 6
  | 34 => q.2.2.1 7
  | 35 => q.2.2.1 8
  | 36 => q.2.2.1 9
  | 37 => q.1.2.2.2.1
  | 38 => q.2.2.2.1 0
  | 39 => q.2.2.2.1 1
  | 40 => q.2.2.2.1 2
  | 41 => q.2.2.2.1 3
  | 42 => q.2.2.2.1 4
  | 43 => q.2.2.2.1 5
  | 44 => q.2.2.2.1 6
  | 45 => q.2.2.2.1 7
  | 46 => q.2.2.2.1 8
  | 47 => q.2.2.2.1 9
  | 48 => q.2.2.2.1 10
  | 49 => q.2.2.2.1 11
  | 50 => q.2.2.2.1 12
  | 51 => q.1.2.2.2.2.1
  | 52 => q.2.2.2.2 0
  | 53 => q.2.2.2.2 1
  | 54 => q.2.2.2.2 2
  | 55 => q.2.2.2.2 3
  | 56 => q.2.2.2.2 4
  | 57 => q.2.2.2.2 5
  | 58 => q.2.2.2.2 6
  | _ => q.1.2.2.2.2.2
def xA0 : Nat → Int32 := fun k => match k with
  | 3 => -1
  | 9 => -1
  | _ => 0
set_option maxRecDepth 20000 in
theorem wHo_x {cI cB cZ cS cC cJ : ClassId} {a : Nat} {q : zHa} : wHo cS cC a q.1 (fun _ => none) (fun _ => none) (wSt cI cB q.1.1 q.2.1 zSt0) (wTx cI cB q.1.2.2.1 q.2.2.1 zTx0) (wTu cI cZ cJ q.1.2.2.2.1 q.2.2.2.1 zTu0) (wKi cI q.1.2.2.2.2.1 q.2.2.2.2 zKi0) = wAl cI cB cZ cS cC cJ (hA0 a q) .null (fun _ => none) (fun _ => none) xA0 (fun _ _ => 0) := rfl
set_option maxRecDepth 20000 in
theorem wM0_x {cI cB cZ : ClassId} {rf : Nat} {qs : Nat → Nat} : wM0 cI cB cZ rf qs = wRf cI cB cZ rf qs (fun _ => 0) 0 R0 := rfl
theorem qAll_0 : qAll (fun _ => none) (fun _ => none) xA0 (fun _ _ => 0) R0 := by
  refine ⟨?_, fun k _ => Or.inl ⟨rfl, rfl⟩, fun j _ z hz => by cases hz⟩
  have hs : qSv 0 (vN xA0 (fun _ _ => 0)) R0 := v_first
  obtain ⟨tl2, n2, lc2, wc2, c2, w2, t2, d2, W2, C2, V2, U2, lt2, ws2, la2, lb2, wl2, f_tl, f_n, f_lc, f_wc, f_c, f_w, f_t, f_d, gTp, gF, gFp, gXw, gRw, gLw, gWd, gPL⟩ := hs
  obtain ⟨W3, C3, V3, U3, g1, g2, g3, -, -, -⟩ := nz_sys gXw gRw
  exact ⟨tl2, n2, lc2, wc2, c2, w2, t2, d2, W3, C3, V3, U3, lt2, ws2, la2, lb2, wl2, f_tl, f_n, f_lc, f_wc, f_c, f_w, f_t, f_d, gTp, gF, gFp, g1, g2, gLw, gWd, gPL, g3, Or.inl nI_0.symm, v_firstT⟩
section LAWS
variable {p : Program} {l : Launch} {e : Env} {R : Room} {s : State} {m : MethodId} {args : Array Value} {below : List Frame} {meth : Method} {c : Code} {H : Heap} {locs : List Loc} {cells slots : Nat} {Q : State → Prop}
variable {cc bytes : ByteArray} {nL maxL index n pc : Nat} {ls : Array Slot} {Ts ws : List Cond} {own : String} {y : MethodName} {rm : Room} {b : Addr} {rest st0 : List Value} {G : jGt} {D : va_G} {A : Nat → Prop} {B w0 : va_W} {tys : List (ClassId × FieldType)} {mc ms : Nat}
theorem jcB_KS {S1 : Type} {c1 : S1 → va_W} {E : State → Prop} (hE : ∀ u U : State, u.vm.Alike U.vm → E u → E U) (hEs : E s) (S : CallFix p m c cc nL s args Ts own) (hK : va_K D vwCl tys s) (hN : jN G s) (hA : (∀ q, s.heap.size ≤ q → A q) ∧ ∀ q, A q → G.1 ≤ q) {As : List Value} (hM : jMkS l y ws rm G D tys (.ref b :: As) E w0 c1 mc ms) (cw : CallB R s args own index y bytes maxL none ws rm mc ms n ∧ y.name = "<init>" ∧ (Cond.instanceMethod y).before args s = true) (hP : va_P D vwCl (B ++ w0) H) (hD : va_D A (B ++ w0)) (hS : va_S A s.heap H locs) (hn : As.length = n) (hsz : ls.size = nL) (hst : st0 = As.reverse ++ .ref b :: rest) (hrest : (rest.map fun v => v.category).sum ≤ 8) (hdg : decode cc pc = .ok (.invokespecial index, 3)) (hf : cells + mc ≤ R.cells ∧ slots + ms ≤ R.slots)
    (kk : ∀ (qs : S1) (H1 : Heap) (locs1 : List Loc), va_P D vwCl (B ++ c1 qs) H1 → va_D A (B ++ c1 qs) → va_S A s.heap H1 locs1 → W p l e R s m args below meth c H1 locs1 (cells + mc) (slots + ms) Q (F0 m (pc + 3) ls rest)) : W p l e R s m args below meth c H locs cells slots Q (F0 m pc ls st0) := by
  have hFc := va_free hD hS hA.1 _ jb_l
  refine va_callv (va_runI S (hM H.size) cw ⟨jblindS hE, fun U hU hW => ⟨(jpre jb_l (jb_nd _ _) hP hD hS hK hN hA.2 U hU hW).1, (jpre (av := .ref b :: As) jb_l (jb_nd _ _) hP hD hS hK hN hA.2 U hU hW).2, hE s U hW.alike hEs⟩⟩ rfl hn hsz hst (lv_room hrest) hdg hf) hS (fun q _ h => hFc q h) hFc (fun qs t H1 locs1 ht hvm hw hB hz1 hk1 hS1 => ?_)
  obtain ⟨hP1, hD1⟩ := hB
  rw [ht] at hP1
  obtain ⟨g1, g2⟩ := va_join hP hD _ _ jb_l jb_r (jb_nd _ _) jb_dis hk1 hFc hP1 hD1
  exact kk qs H1 locs1 g1 g2 hS1
end LAWS
set_option maxHeartbeats 4000000 in
set_option maxRecDepth 100000 in
theorem whole_start {p : Program} {e : Env} {s : State} {m : MethodId} {below : List Frame} {meth : Method} {c : Code} (l : Launch) {b L : Nat} {xs : Nat → Int32} (hL : L ≤ 3072) (C0 : lw_At p s m meth c b L xs) : W p l e room_1 s m #[Value.ref b] below meth c s.heap [] 0 0 (lw_Z below #[Value.ref b] s) (entryFrame m ([Value.ref b] : List Value).toArray 4) := by
  obtain ⟨hx, hb, hr, hml, hown, hts, hX, hbl, hlocks, hgv⟩ := id C0
  obtain ⟨G, hG, hN⟩ := lw_strs hts hgv
  obtain ⟨D, cI, cB, cZ, cS, cC, cJ, hK, hEE⟩ := lw_ctx hts
  have hA1 : ∀ q : Nat, s.heap.size ≤ q → (fun q : Nat => s.heap.size ≤ q) q := fun _ h => h
  have hA : (∀ q : Nat, s.heap.size ≤ q → (fun q : Nat => s.heap.size ≤ q) q) ∧ ∀ q : Nat, (fun q : Nat => s.heap.size ≤ q) q → G.1 ≤ q := ⟨hA1, fun _ h => by rw [hG]; exact h⟩
  have hS : va_S (fun q : Nat => s.heap.size ≤ q) s.heap s.heap [] := va_S.rf
  have hP : va_P D vwCl [] s.heap := fun k q h => by simp at h
  have hD : va_D (fun q : Nat => s.heap.size ≤ q) [] := ⟨fun i j p q h => by simp at h, fun k q h => by simp at h⟩
  have hl := lv_entry ([.ref b]) (n := 4) (Nat.le_of_ble_eq_true rfl)
  rw [lg_entry_eq]
  generalize (lg_sl ([.ref b]) ++ List.replicate (4 - (lg_sl ([.ref b])).length) Slot.unset).toArray = ls at hl ⊢
  have hl : lv_has ls 4 [(0, .ref b)] := hl
  refine va_new (pc := 0) (ci := 10) (fs := [.null, .null, .null, .null, .null, .null]) (C := RX11) (T := TX11) (N := 6) hx hb hts (fun w hw => wG_sub k_co_X11_feed w (iw_X11 w hw)) tyX11 tyX11_ok hown (hts _ k_cl_L_7) (hts _ k_ib_X11) (hts _ k_in_X11) hK hP hD hS hA1 rfl (fun j hj => match j, hj with | 0, _ => rfl | 1, _ => rfl | 2, _ => rfl | 3, _ => rfl | 4, _ => rfl | 5, _ => rfl | (k + 6), h => absurd h (by omega)) (Nat.le_of_ble_eq_true rfl) (Nat.le_of_ble_eq_true rfl) (by decide +kernel) (fun a H hP hD hS => ?_)
  refine lv_dup (pc := 3) hx hb (by decide +kernel) rfl ?_
  refine jcB_KS (R := room_1) (pc := 4) (As := []) (rest := [.ref a]) jEE_moved hEE ⟨hx, hb, hml, hown, hts⟩ hK hN hA (c_house jgrid l G D cI cB cZ cS cC cJ a zSt0_eq zTx0_eq zKi0_eq) (cwI 0 hts (wG_gd k_co_X11_init) rfl rfl rfl (hts _ k_in_X11) (hts _ k_ml_L_9) (hts _ k_im_X11_init) rfl hd_X11_init.2 ⟨Nat.le_of_ble_eq_true rfl, Nat.le_of_ble_eq_true rfl⟩) hP hD hS rfl hl.1 rfl (Nat.le_of_ble_eq_true rfl) (by decide +kernel) ⟨Nat.le_of_ble_eq_true rfl, Nat.le_of_ble_eq_true rfl⟩ (fun q H locs hP hD hS => ?_)
  rw [wHo_x] at hP hD
  refine lv_astore_n (pc := 7) (k := 1) (lv' := [(1, .ref a), (0, .ref b)]) hx hb (by decide +kernel) rfl hl (by decide) rfl (fun ls hl => ?_)
  refine va_new (pc := 8) (ci := 11) (fs := [.int 0, .null, .null, .null, .null, .null, .null, .null, .null, .null, .null, .null, .null, .null, .null, .null, .null, .null, .null, .null, .null, .null, .null, .null, .null, .null, .null, .null, .null, .null, .null, .int 0, .null, .null, .null, .null, .int 0, .int 0, .int 0, .int 0, .int 0, .int 0, .long 0, .int 0, .int 0, .int 0, .int 0, .null, .null, .int 0, .null, .null, .null, .null, .int 0, .null, .null, .null, .null, .int 0, .null, .null, .null, .int 0, .null, .int 0, .int 0, .null, .null, .null, .null, .null, .null, .null]) (C := RX12) (T := TX12) (N := 74) hx hb hts (fun w hw => wG_sub k_co_X11_feed w (iw_X12 w hw)) tyX12 tyX12_ok hown (hts _ k_cl_L_10) (hts _ k_ib_X12) (hts _ k_in_X12) hK hP hD hS hA1 rfl (fun j hj => match j, hj with | 0, _ => rfl | 1, _ => rfl | 2, _ => rfl | 3, _ => rfl | 4, _ => rfl | 5, _ => rfl | 6, _ => rfl | 7, _ => rfl | 8, _ => rfl | 9, _ => rfl | 10, _ => rfl | 11, _ => rfl | 12, _ => rfl | 13, _ => rfl | 14, _ => rfl | 15, _ => rfl | 16, _ => rfl | 17, _ => rfl | 18, _ => rfl | 19, _ => rfl | 20, _ => rfl | 21, _ => rfl | 22, _ => rfl | 23, _ => rfl | 24, _ => rfl | 25, _ => rfl | 26, _ => rfl | 27, _ => rfl | 28, _ => rfl | 29, _ => rfl | 30, _ => rfl | 31, _ => rfl | 32, _ => rfl | 33, _ => rfl | 34, _ => rfl | 35, _ => rfl | 36, _ => rfl | 37, _ => rfl | 38, _ => rfl | 39, _ => rfl | 40, _ => rfl | 41, _ => rfl | 42, _ => rfl | 43, _ => rfl | 44, _ => rfl | 45, _ => rfl | 46, _ => rfl | 47, _ => rfl | 48, _ => rfl | 49, _ => rfl | 50, _ => rfl | 51, _ => rfl | 52, _ => rfl | 53, _ => rfl | 54, _ => rfl | 55, _ => rfl | 56, _ => rfl | 57, _ => rfl | 58, _ => rfl | 59, _ => rfl | 60, _ => rfl | 61, _ => rfl | 62, _ => rfl | 63, _ => rfl | 64, _ => rfl | 65, _ => rfl | 66, _ => rfl | 67, _ => rfl | 68, _ => rfl | 69, _ => rfl | 70, _ => rfl | 71, _ => rfl | 72, _ => rfl | 73, _ => rfl | (k + 74), h => absurd h (by omega)) (Nat.le_of_ble_eq_true rfl) (Nat.le_of_ble_eq_true rfl) (by decide +kernel) (fun rf H hP hD hS => ?_)
  refine lv_dup (pc := 11) hx hb (by decide +kernel) rfl ?_
  refine jcB_K (R := room_1) (pc := 12) (As := []) (rest := [.ref rf]) ⟨hx, hb, hml, hown, hts⟩ (hK.sub [0, 1, 2] rfl) hN hA (c_X12_init l G D cI cB cZ rf) (cwI 0 hts (wG_gd k_co_X12_init) rfl rfl rfl (hts _ k_in_X12) (hts _ k_ml_L_12) (hts _ k_im_X12_init) rfl hd_X12_init.2 ⟨Nat.le_of_ble_eq_true rfl, Nat.le_of_ble_eq_true rfl⟩) hP hD hS rfl hl.1 rfl (Nat.le_of_ble_eq_true rfl) (by decide +kernel) ⟨Nat.le_of_ble_eq_true rfl, Nat.le_of_ble_eq_true rfl⟩ (fun aX H locs hP hD hS => ?_)
  rw [wM0_x] at hP hD
  refine lv_astore_n (pc := 15) (k := 2) (lv' := [(2, .ref rf), (1, .ref a), (0, .ref b)]) hx hb (by decide +kernel) rfl hl (by decide) rfl (fun ls hl => ?_)
  refine lv_iconst (pc := 16) (n := 0) (v := 0) hx hb (by decide +kernel) (by decide) ?_
  refine lv_istore_n (pc := 17) (k := 3) (lv' := [(3, .int 0), (2, .ref rf), (1, .ref a), (0, .ref b)]) hx hb (by decide +kernel) rfl hl (by decide) rfl (fun ls hl => ?_)
  have e2 : (([] ++ wAl cI cB cZ cS cC cJ (hA0 a q) .null (fun _ => none) (fun _ => none) xA0 (fun _ _ => 0)) ++ wRf cI cB cZ rf aX (fun _ => 0) 0 R0).Perm (wRf cI cB cZ rf aX (fun _ => 0) 0 R0 ++ wAl cI cB cZ cS cC cJ (hA0 a q) .null (fun _ => none) (fun _ => none) xA0 (fun _ _ => 0)) := List.perm_append_comm
  have g := lw_loop (l := l) (e := e) (below := below) (h := hA0 a q) (rf := rf) (aX := aX) hL C0 hK hN (Nat.le_of_eq hG) 512 0 (by omega) (by omega) ls (lv_sub hl [3, 2, 1, 0] rfl) H locs .null (fun _ => none) (fun _ => none) xA0 (fun _ _ => 0) (fun _ => 0) 0 R0 (jP_perm e2 hP) (jD_perm e2 hD) hS qAll_0
  exact W.widen (Nat.le_of_ble_eq_true rfl) (Nat.le_of_ble_eq_true rfl) g

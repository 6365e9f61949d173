/-! systems, kinds, kind: both sides -/
theorem qAll_T {I : Nat → Option zIm} {Cn : Nat → Option zCn} {X : Nat → Int32} {Y T T' : Nat → Nat → Int32} (hA : qAll I Cn X Y T) (hI : qIv X Y T') (hk : qKp T T') (h5 : T' 54 = T 54) : qAll I Cn X Y T' := by
  refine ⟨hI, fun k hk3 => ?_, hA.2.2⟩
  rcases hA.2.1 k hk3 with ⟨e1, e2⟩ | ⟨z, e1, e2, e3⟩
  · exact Or.inl ⟨e1, by rw [h5]; exact e2⟩
  · exact Or.inr ⟨z, e1, by rw [h5]; exact e2, qKp_use hk (by omega) e3⟩
theorem qAll_C {I : Nat → Option zIm} {Cn : Nat → Option zCn} {X : Nat → Int32} {Y T : Nat → Nat → Int32} {j : Nat} {z : zCn} (hA : qAll I Cn X Y T) (hq : qCv (j + 2) z.2.2) : qAll I (jw1 Cn j (some z)) X Y T := by
  refine ⟨hA.1, hA.2.1, fun i hi z' e => ?_⟩
  by_cases g : i = j
  · subst g
    rw [jw1_e] at e
    cases e
    exact hq
  · rw [jw1_n g] at e
    exact hA.2.2 i hi z' e
set_option maxRecDepth 20000 in
set_option maxHeartbeats 1000000 in
theorem cen_b {l : Launch} {y : MethodName} {bytes : ByteArray} {maxL : Nat} {ret : Option FieldType} {G : jGt} {D : va_G} {cI cB cZ cS cC cJ : ClassId} {av : List Value} {r : Int32} {h : Nat → Nat} {v : Value} {I : Nat → Option zIm} {Cn : Nat → Option zCn} {X : Nat → Int32} {Y T : Nat → Nat → Int32} {rm : Room} {j : Nat} (hj : j < 4) {b : Nat} {qt : Nat → Nat} {yy o : zCe} (hz : Cn j = some (b, qt, yy)) (h3 : rm.frames + 1 ≤ 12 ∧ 8 + (maxL + 11) + rm.locals ≤ 438) (hc : rm.cells = 0 ∧ rm.slots = 0) (hM : jMq l y (wG y bytes maxL ret) rm G D (jTx cI cB cZ cS cC cJ) av (wHc cC (h 0) (h 1) (h 59) (.ref (h 25)) (.ref (h 26)) (.ref (h 37)) (.ref (h 51)) (fO Cn) ++ (wNl (h 1) (h 9) (.ref (h 2)) (.ref (h 4)) (.ref (h 13)) (.ref (h 24)) (X 0) ++ (wLa cI (fun k => h (2 + k)) (zOf (vN X Y)) ++ wCe cI b qt yy))) (fun _ => wHc cC (h 0) (h 1) (h 59) (.ref (h 25)) (.ref (h 26)) (.ref (h 37)) (.ref (h 51)) (fO Cn) ++ (wNl (h 1) (h 9) (.ref (h 2)) (.ref (h 4)) (.ref (h 13)) (.ref (h 24)) (X 0) ++ (wLa cI (fun k => h (2 + k)) (zOf (vN X Y)) ++ wCe cI b qt o))) r 0 0) (hq : qCv (j + 2) o) (hA : qAll I Cn X Y T) : jStp l y bytes maxL ret G D cI cB cZ cS cC cJ av (wAl cI cB cZ cS cC cJ h v I Cn X Y) r (fun u => ∃ v' I' Cn' X' Y', u.Perm (wAl cI cB cZ cS cC cJ h v' I' Cn' X' Y') ∧ qAll I' Cn' X' Y' T) := by
  refine ⟨_, wIm cI cB I ++ (wBl ([0, 1, 2, 3].erase j) (fun i => wC1 cI (Cn i)) ++ rsC.map (hC cI cB cZ cS cC cJ h v (fO I) (fO Cn) X Y)), _, rm, fun _ h => h, ?_, h3.1, h3.2, Or.inr ⟨_, 0, 0, hc.1, hc.2, Nat.zero_le _, Nat.zero_le _, hM, fun qs => ⟨v, I, jw1 Cn j (some (b, qt, o)), X, Y, ?_, qAll_C hA hq⟩⟩⟩
  · have g := j_shufB0 (M := wIm cI cB I) (wCn_q (cI := cI) (I := Cn) hj) (hp_C cI cB cZ cS cC cJ h v (fO I) (fO Cn) X Y)
    rw [hz] at g
    simpa only [wAl, wC1, List.append_nil, List.append_assoc] using g
  · have g := j_shufB0 (M := wIm cI cB I) (wCn_p (cI := cI) (I := Cn) hj (some (b, qt, o))) (hp_C cI cB cZ cS cC cJ h v (fO I) (fO (jw1 Cn j (some (b, qt, o)))) X Y)
    refine List.Perm.trans ?_ g.symm
    rw [fO_same (z' := (b, qt, o)) hz rfl]
    simp only [wC1, List.append_nil, List.append_assoc]
    exact List.Perm.refl _
set_option maxRecDepth 20000 in
set_option maxHeartbeats 1000000 in
theorem cen_c {l : Launch} {y : MethodName} {bytes : ByteArray} {maxL : Nat} {ret : Option FieldType} {G : jGt} {D : va_G} {cI cB cZ cS cC cJ : ClassId} {av : List Value} {r : Int32} {h : Nat → Nat} {v : Value} {I : Nat → Option zIm} {Cn : Nat → Option zCn} {X : Nat → Int32} {Y T : Nat → Nat → Int32} {rm : Room} {j : Nat} (hj : j < 4) {o : zCe} (hz : Cn j = none) (h3 : rm.frames + 1 ≤ 12 ∧ 8 + (maxL + 11) + rm.locals ≤ 438) (hc : rm.cells = 16 ∧ rm.slots = 600) (hM : jMq l y (wG y bytes maxL ret) rm G D (jTx cI cB cZ cS cC cJ) av (wHc cC (h 0) (h 1) (h 59) (.ref (h 25)) (.ref (h 26)) (.ref (h 37)) (.ref (h 51)) (fO Cn) ++ (wNl (h 1) (h 9) (.ref (h 2)) (.ref (h 4)) (.ref (h 13)) (.ref (h 24)) (X 0) ++ wLa cI (fun k => h (2 + k)) (zOf (vN X Y)))) (fun qt => wHc cC (h 0) (h 1) (h 59) (.ref (h 25)) (.ref (h 26)) (.ref (h 37)) (.ref (h 51)) (va_up (fO Cn) j (some (qt 0))) ++ (wNl (h 1) (h 9) (.ref (h 2)) (.ref (h 4)) (.ref (h 13)) (.ref (h 24)) (X 0) ++ (wLa cI (fun k => h (2 + k)) (zOf (vN X Y)) ++ wCe cI (qt 0) (fun j => qt (j + 1)) o))) r 16 600) (hq : qCv (j + 2) o) (hA : qAll I Cn X Y T) : jStp l y bytes maxL ret G D cI cB cZ cS cC cJ av (wAl cI cB cZ cS cC cJ h v I Cn X Y) r (fun u => ∃ v' I' Cn' X' Y', u.Perm (wAl cI cB cZ cS cC cJ h v' I' Cn' X' Y') ∧ qAll I' Cn' X' Y' T) := by
  refine ⟨_, wIm cI cB I ++ (wBl ([0, 1, 2, 3].erase j) (fun i => wC1 cI (Cn i)) ++ rsC.map (hC cI cB cZ cS cC cJ h v (fO I) (fO Cn) X Y)), _, rm, fun _ h => h, ?_, h3.1, h3.2, Or.inr ⟨_, 16, 600, hc.1, hc.2, Nat.le_of_ble_eq_true rfl, Nat.le_of_ble_eq_true rfl, hM, fun qs => ⟨v, I, jw1 Cn j (some (qs 0, (fun j => qs (j + 1)), o)), X, Y, ?_, qAll_C hA hq⟩⟩⟩
  · have g := j_shufB0 (M := wIm cI cB I) (wCn_q (cI := cI) (I := Cn) hj) (hp_C cI cB cZ cS cC cJ h v (fO I) (fO Cn) X Y)
    rw [hz] at g
    simpa only [wAl, wC1, List.append_nil, List.append_assoc] using g
  · have g := j_shufB0 (M := wIm cI cB I) (wCn_p (cI := cI) (I := Cn) hj (some (qs 0, (fun j => qs (j + 1)), o))) (hp_C cI cB cZ cS cC cJ h v (fO I) (fO (jw1 Cn j (some (qs 0, (fun j => qs (j + 1)), o)))) X Y)
    refine List.Perm.trans ?_ g.symm
    rw [fO_up]
    have e : (rsC.map (hC cI cB cZ cS cC cJ h v (fO I) (va_up (fO Cn) j (some (qs 0))) X Y)) = rsC.map (hC cI cB cZ cS cC cJ h v (fO I) (fO Cn) X Y) := rfl
    rw [e]
    simp only [wC1, List.append_nil, List.append_assoc]
    exact List.Perm.refl _
set_option maxRecDepth 20000 in
set_option maxHeartbeats 1000000 in
theorem v_judge {n : Nat} (h2 : 2 ≤ n) (h5 : n ≤ 5) {X : Nat → Int32} {Y T : Nat → Nat → Int32} {y : zCe} (hI : qIv X Y T) (hy : qCv n y) : ∃ (o : zCe) (lc : Nat) (lt : Nat → Nat) (la lb : Nat → List Nat) (lfc lfs : Int32) (wv cd sh lf : Nat → Int32), zJd (zOf (vN X Y)) y = some o ∧ qCv n o ∧ qLw 0 lc lt la lb (Y 3) (Y 1) (Y 2) (T 7) (T 8) (T 9) (T 10) ∧ o.2.2.2.1 = lfc ∧ o.2.2.2.2.1 = lfs ∧ qRs n lc lt la lb lfc lfs lf ∧ qKs n (qfa n) (cO n) (qfa n * qfa n) wv cd sh ∧ ∀ x z, zRo o x z = f_X0_rowEntry lfc (nI n) (64, cd) (64, lf) (64, wv) x z := by
  obtain ⟨tl, n9, lc, wc, c, w, t, d, W, C, V, U, lt, ws, la, lb, wl, e_tl, e_n, e_lc, e_wc, e_c, e_w, e_t, e_d, hTp, hF, hFp, hXw, hRw, hLw, hWd, hPL, hSN, hKN, hTN⟩ := hI
  obtain ⟨jd, kc, kd, lfc, lfs, oc, sz, cjc, cz, cd, ks, lf, od, sh, wv, cj1, cj2, cj3, ch, fa, hu, wi, rfl, k1, k2, k3, k4⟩ := hy
  subst k1 k2
  obtain ⟨lfc', lfs', cjc', lf', cz', cj1', cj2', cj3', ch', fa', hu', wi', q1, q2, q3⟩ := q_judge (cz := cz) (ch := ch) (fa := fa) (hu := hu) (wi := wi) h2 h5 hLw k3 k4
  refine ⟨zJu (jd, kc, nI (qJJ n), lfc, lfs, oc, nI n, (64, cd), cjc, (120, ks), (64, lf), (120, od), (64, sh), cz, (64, wv), (16, cj1), (16, cj2), (16, cj3), (8, ch), (8, fa), (8, hu), (8, wi)) (nI 1, lfc', lfs', cjc', (64, lf'), cz', (16, cj1'), (16, cj2'), (16, cj3'), (8, ch'), (8, fa'), (8, hu'), (8, wi')), lc, lt, la, lb, lfc', lfs', wv, cd, sh, lf', ?_, ⟨nI 1, kc, nI (qJJ n), lfc', lfs', oc, nI n, cjc', cz', cd, ks, lf', od, sh, wv, cj1', cj2', cj3', ch', fa', hu', wi', rfl, rfl, rfl, k3, q3⟩, hLw, rfl, rfl, q2, k3, fun _ _ => rfl⟩
  rw [← e_lc] at q1
  exact jM_at q1 _
theorem v_cnew {n : Nat} (h2 : 2 ≤ n) (h5 : n ≤ 5) : ∃ y, f_X0_init (nI n) = some y ∧ qCv n y := by
  obtain ⟨kc, cz, cd, ks, od, sh, wv, ch, fa, hu, wi, h1, h3⟩ := q_init h2 h5
  exact ⟨_, h1, ⟨_, _, _, _, _, _, _, _, _, _, _, _, _, _, _, _, _, _, _, _, _, _, rfl, rfl, rfl, h3, Or.inl rfl⟩⟩
theorem c_in {j : Nat} (hj : j < 4) : ¬ nI (j + 2) < 2 ∧ ¬ 5 < nI (j + 2) ∧ nI (j + 2) - 2 < 4 ∧ vp_in (nI (j + 2) - 2) 4 ∧ (nI (j + 2) - 2).toNatClampNeg = j := by
  have e : nI (j + 2) - 2 = nI j := (qn_sub (a := j + 2) (b := 2) (by omega)).trans (congrArg nI (by omega))
  rw [e]
  exact ⟨nI_nlt (b := 2) (by omega) (by omega), nI_nlt (a := 5) (by omega) (by omega), nI_lt (b := 4) hj (by omega), vp_in_nI hj (by omega), nI_clamp (by omega)⟩
theorem c_out {x : Int32} : (∃ j, j < 4 ∧ x = nI (j + 2)) ∨ ((¬ x < 2 → ¬ 5 < x → ¬ x - 2 < 4) ∧ ∀ n, 2 ≤ n → n ≤ 5 → x ≠ nI n) := by
  rcases qn_inout x 6 with ⟨j, hj, -, rfl⟩ | hq | ⟨j, hj, hj2, rfl⟩
  · by_cases h : 2 ≤ j
    · exact Or.inl ⟨j - 2, by omega, congrArg nI (by omega)⟩
    · exact Or.inr ⟨fun g => absurd (nI_lt (b := 2) (by omega) (by omega)) g, fun n h1 h3 e => by have := (nI_eq (by omega) (by omega)).mp e; omega⟩
  · refine Or.inr ⟨fun g => absurd (Int32.lt_trans hq (by decide : nI 0 < 2)) g, fun n h1 h3 e => ?_⟩
    rw [e] at hq
    exact nI_pos (by omega) hq
  · exact Or.inr ⟨fun _ g => absurd (nI_lt (a := 5) (by omega) hj2) g, fun n h1 h3 e => by have := (nI_eq (by omega) (by omega)).mp e; omega⟩
theorem jstp_mkq {l : Launch} {y : MethodName} {bytes : ByteArray} {maxL : Nat} {ret : Option FieldType} {G : jGt} {D : va_G} {cI cB cZ cS cC cJ : ClassId} {av : List Value} {r : Int32} {h0 : Nat → Nat × va_E} {u0 : va_W} {rm : Room} (is rs cs : List Nat) (hM : jMq l y (wG y bytes maxL ret) rm G D (jTx cI cB cZ cS cC cJ) av u0 (fun _ => u0) r 0 0) (hp : is.isPerm (rs ++ cs) = true) (e0 : cs.map h0 = u0) (h3 : rm.frames + 1 ≤ 12 ∧ 8 + (maxL + 11) + rm.locals ≤ 438) (hc : rm.cells = 0 ∧ rm.slots = 0) : jStp l y bytes maxL ret G D cI cB cZ cS cC cJ av (is.map h0) r (fun w => w.Perm (is.map h0)) := by
  have hq := List.isPerm_iff.mp hp
  have g : (is.map h0).Perm (rs.map h0 ++ u0) := by
    rw [← e0, ← List.map_append]
    exact hq.map h0
  exact ⟨_, rs.map h0, u0, rm, fun _ h => h, g, h3.1, h3.2, Or.inr ⟨_, 0, 0, hc.1, hc.2, Nat.zero_le _, Nat.zero_le _, hM, fun _ => g.symm⟩⟩
set_option maxRecDepth 20000 in
theorem hX_systemsa (l : Launch) (G : jGt) (D : va_G) (cI cB cZ cS cC cJ : ClassId) {h : Nat → Nat} {v : Value} {f g : Nat → Option Nat} {X : Nat → Int32} {Y : Nat → Nat → Int32} (x1 : Int32) (hh : ¬ x1 < 2 → ¬ 5 < x1 → ¬ x1 - 2 < 4) : jStp l yX11_systems cX11_systems 3 (some .int) G D cI cB cZ cS cC cJ [.ref (h 0), .int x1] (wHx cI cB cZ cS cC cJ h v f g X Y) (-1) (fun w => w.Perm (wHx cI cB cZ cS cC cJ h v f g X Y)) :=
  jstp_mkq (h0 := hC cI cB cZ cS cC cJ h v f g X Y) hix [1, 2, 3, 4, 5, 6, 7, 8, 9, 10, 11, 12, 13, 14, 15, 16, 17, 18, 19, 20, 21, 22, 23, 24, 25, 26, 27, 28, 29, 30, 31, 32, 33, 34, 35, 36, 37, 38, 39, 40, 41, 42, 43, 44, 45, 46, 47, 48, 49, 50, 51, 52, 53, 54, 55, 56, 57, 58] [0, 59] (c_X11_systemsa l G D cI cB cZ cS cC cJ (h 0) (h 1) (h 59) (.ref (h 25)) (.ref (h 26)) (.ref (h 37)) (.ref (h 51)) g x1 hh) (by decide +kernel) rfl ⟨Nat.le_of_ble_eq_true rfl, Nat.le_of_ble_eq_true rfl⟩ ⟨rfl, rfl⟩
set_option maxRecDepth 20000 in
set_option maxHeartbeats 1000000 in
theorem st_systems {l : Launch} {G : jGt} {D : va_G} {cI cB cZ cS cC cJ : ClassId} {h : Nat → Nat} {rf : Nat} {aX : Nat → Nat} {v : Value} {I : Nat → Option zIm} {Cn : Nat → Option zCn} {X : Nat → Int32} {Y : Nat → Nat → Int32} {N : Nat → Int32} {w0 : Int64} {T : Nat → Nat → Int32} (x1 : Int32) (hA : qAll I Cn X Y T) : jGen l G D cI cB cZ cS cC cJ yX11_systems cX11_systems 3 (some .int) yX12_systems cX12_systems 2 (some .int) [.int x1] h rf aX v I Cn X Y N w0 T := by
  rcases c_out (x := x1) with ⟨j, hj, rfl⟩ | ⟨ho, hn⟩
  · obtain ⟨c0, c1, c2, c3, c4⟩ := c_in hj
    rcases hz : Cn j with _ | ⟨b, qt, y⟩
    · obtain ⟨y, f1, f2⟩ := v_cnew (n := j + 2) (by omega) (by omega)
      obtain ⟨o, lc, lt, la, lb, lfc, lfs, wv, cd, sh, lf, u1, u2, u3, u4, u5, u6, u7, u8⟩ := v_judge (n := j + 2) (by omega) (by omega) hA.1 f2
      obtain ⟨R_n', R_orders', R_rowNumber', R_child', R_childBack', R_order', R_weds', R_wedsBack', m1⟩ := q_systemsR (ts := Y 3) (tf := Y 1) (t2 := Y 2) (R_lineKind := T 8) (R_lineLong := T 9) (R_lineWord := T 10) (R_lines := T 7) (R_code := N 0) (R_n := N 1) (R_orders := N 15) (R_rowNumber := N 16) (R_child := T 31) (R_childBack := T 33) (R_order := T 47) (R_weds := T 30) (R_wedsBack := T 32) (n := j + 2) (by omega) (by omega) u3
      have hg : fO Cn (nI (j + 2) - 2).toNatClampNeg = none := by rw [c4]; unfold fO; rw [hz]; rfl
      have hM := c_X11_systemsc l G D cI cB cZ cS cC cJ (h 0) (h 1) (h 59) (.ref (h 25)) (.ref (h 26)) (.ref (h 37)) (.ref (h 51)) (fO Cn) (.ref (h 2)) (.ref (h 4)) (.ref (h 13)) (.ref (h 24)) (X 0) (nI (j + 2)) (fun k => h (2 + k)) (zOf (vN X Y)) c0 c1 c2 c3 hg f1 u1
      rw [c4] at hM
      rw [show o.2.2.2.2.1 = _ from u5.trans u6.2.1] at hM
      refine ⟨_, _, _, _, cen_c hj hz ⟨Nat.le_of_ble_eq_true rfl, Nat.le_of_ble_eq_true rfl⟩ ⟨rfl, rfl⟩ hM u2 (qAll_T hA ?_ (kp_t (Nat.le_of_ble_eq_true rfl) (kp_t (Nat.le_of_ble_eq_true rfl) (kp_t (Nat.le_of_ble_eq_true rfl) (kp_t (Nat.le_of_ble_eq_true rfl) (kp_t (Nat.le_of_ble_eq_true rfl) kp_0))))) rfl), hR_systems l G D cI cB cZ cS cC cJ (nI (j + 2)) m1⟩
      obtain ⟨tl, n, lc, wc, c, w, t, d, W, C, V, U, lt, ws, la, lb, wl, e_tl, e_n, e_lc, e_wc, e_c, e_w, e_t, e_d, hTp, hF, hFp, hXw, hRw, hLw, hWd, hPL, hSN, hKN, hTN⟩ := hA.1
      exact ⟨tl, n, lc, wc, c, w, t, d, W, C, V, U, lt, ws, la, lb, wl, e_tl, e_n, e_lc, e_wc, e_c, e_w, e_t, e_d, hTp, hF, hFp, hXw, hRw, hLw, hWd, hPL, hSN, hKN, hTN⟩
    · have f2 := hA.2.2 j hj _ hz
      obtain ⟨o, lc, lt, la, lb, lfc, lfs, wv, cd, sh, lf, u1, u2, u3, u4, u5, u6, u7, u8⟩ := v_judge (n := j + 2) (by omega) (by omega) hA.1 f2
      obtain ⟨R_n', R_orders', R_rowNumber', R_child', R_childBack', R_order', R_weds', R_wedsBack', m1⟩ := q_systemsR (ts := Y 3) (tf := Y 1) (t2 := Y 2) (R_lineKind := T 8) (R_lineLong := T 9) (R_lineWord := T 10) (R_lines := T 7) (R_code := N 0) (R_n := N 1) (R_orders := N 15) (R_rowNumber := N 16) (R_child := T 31) (R_childBack := T 33) (R_order := T 47) (R_weds := T 30) (R_wedsBack := T 32) (n := j + 2) (by omega) (by omega) u3
      have hg : fO Cn (nI (j + 2) - 2).toNatClampNeg = some b := by rw [c4]; unfold fO; rw [hz]; rfl
      have hM := c_X11_systemsb l G D cI cB cZ cS cC cJ (h 0) (h 1) (h 59) (.ref (h 25)) (.ref (h 26)) (.ref (h 37)) (.ref (h 51)) (fO Cn) (.ref (h 2)) (.ref (h 4)) (.ref (h 13)) (.ref (h 24)) (X 0) (nI (j + 2)) b (fun k => h (2 + k)) qt (zOf (vN X Y)) y c0 c1 c2 c3 hg u1
      rw [show o.2.2.2.2.1 = _ from u5.trans u6.2.1] at hM
      refine ⟨_, _, _, _, cen_b hj hz ⟨Nat.le_of_ble_eq_true rfl, Nat.le_of_ble_eq_true rfl⟩ ⟨rfl, rfl⟩ hM u2 (qAll_T hA ?_ (kp_t (Nat.le_of_ble_eq_true rfl) (kp_t (Nat.le_of_ble_eq_true rfl) (kp_t (Nat.le_of_ble_eq_true rfl) (kp_t (Nat.le_of_ble_eq_true rfl) (kp_t (Nat.le_of_ble_eq_true rfl) kp_0))))) rfl), hR_systems l G D cI cB cZ cS cC cJ (nI (j + 2)) m1⟩
      obtain ⟨tl, n, lc, wc, c, w, t, d, W, C, V, U, lt, ws, la, lb, wl, e_tl, e_n, e_lc, e_wc, e_c, e_w, e_t, e_d, hTp, hF, hFp, hXw, hRw, hLw, hWd, hPL, hSN, hKN, hTN⟩ := hA.1
      exact ⟨tl, n, lc, wc, c, w, t, d, W, C, V, U, lt, ws, la, lb, wl, e_tl, e_n, e_lc, e_wc, e_c, e_w, e_t, e_d, hTp, hF, hFp, hXw, hRw, hLw, hWd, hPL, hSN, hKN, hTN⟩
  · have m1 := (q_censusR_out (R_lineKind := T 8) (R_lineLong := T 9) (R_lineWord := T 10) (R_lines := T 7) (R_code := N 0) (R_n := N 1) (R_orders := N 15) (R_rowNumber := N 16) (R_child := T 31) (R_childBack := T 33) (R_order := T 47) (R_weds := T 30) (R_wedsBack := T 32) (x := x1) hn 0 0).2.1
    refine jGen_of hA ⟨_, _, _, _, _, _, _, hX_systemsa l G D cI cB cZ cS cC cJ x1 ho, hR_systems l G D cI cB cZ cS cC cJ x1 m1, ?_, (kp_t (Nat.le_of_ble_eq_true rfl) (kp_t (Nat.le_of_ble_eq_true rfl) (kp_t (Nat.le_of_ble_eq_true rfl) (kp_t (Nat.le_of_ble_eq_true rfl) (kp_t (Nat.le_of_ble_eq_true rfl) kp_0))))), rfl⟩
    obtain ⟨tl, n, lc, wc, c, w, t, d, W, C, V, U, lt, ws, la, lb, wl, e_tl, e_n, e_lc, e_wc, e_c, e_w, e_t, e_d, hTp, hF, hFp, hXw, hRw, hLw, hWd, hPL, hSN, hKN, hTN⟩ := hA.1
    exact ⟨tl, n, lc, wc, c, w, t, d, W, C, V, U, lt, ws, la, lb, wl, e_tl, e_n, e_lc, e_wc, e_c, e_w, e_t, e_d, hTp, hF, hFp, hXw, hRw, hLw, hWd, hPL, hSN, hKN, hTN⟩
set_option maxRecDepth 20000 in
theorem hX_kindsa (l : Launch) (G : jGt) (D : va_G) (cI cB cZ cS cC cJ : ClassId) {h : Nat → Nat} {v : Value} {f g : Nat → Option Nat} {X : Nat → Int32} {Y : Nat → Nat → Int32} (x1 : Int32) (hh : ¬ x1 < 2 → ¬ 5 < x1 → ¬ x1 - 2 < 4) : jStp l yX11_kinds cX11_kinds 3 (some .int) G D cI cB cZ cS cC cJ [.ref (h 0), .int x1] (wHx cI cB cZ cS cC cJ h v f g X Y) (-1) (fun w => w.Perm (wHx cI cB cZ cS cC cJ h v f g X Y)) :=
  jstp_mkq (h0 := hC cI cB cZ cS cC cJ h v f g X Y) hix [1, 2, 3, 4, 5, 6, 7, 8, 9, 10, 11, 12, 13, 14, 15, 16, 17, 18, 19, 20, 21, 22, 23, 24, 25, 26, 27, 28, 29, 30, 31, 32, 33, 34, 35, 36, 37, 38, 39, 40, 41, 42, 43, 44, 45, 46, 47, 48, 49, 50, 51, 52, 53, 54, 55, 56, 57, 58] [0, 59] (c_X11_kindsa l G D cI cB cZ cS cC cJ (h 0) (h 1) (h 59) (.ref (h 25)) (.ref (h 26)) (.ref (h 37)) (.ref (h 51)) g x1 hh) (by decide +kernel) rfl ⟨Nat.le_of_ble_eq_true rfl, Nat.le_of_ble_eq_true rfl⟩ ⟨rfl, rfl⟩
set_option maxRecDepth 20000 in
set_option maxHeartbeats 1000000 in
theorem st_kinds {l : Launch} {G : jGt} {D : va_G} {cI cB cZ cS cC cJ : ClassId} {h : Nat → Nat} {rf : Nat} {aX : Nat → Nat} {v : Value} {I : Nat → Option zIm} {Cn : Nat → Option zCn} {X : Nat → Int32} {Y : Nat → Nat → Int32} {N : Nat → Int32} {w0 : Int64} {T : Nat → Nat → Int32} (x1 : Int32) (hA : qAll I Cn X Y T) : jGen l G D cI cB cZ cS cC cJ yX11_kinds cX11_kinds 3 (some .int) yX12_kinds cX12_kinds 2 (some .int) [.int x1] h rf aX v I Cn X Y N w0 T := by
  rcases c_out (x := x1) with ⟨j, hj, rfl⟩ | ⟨ho, hn⟩
  · obtain ⟨c0, c1, c2, c3, c4⟩ := c_in hj
    rcases hz : Cn j with _ | ⟨b, qt, y⟩
    · obtain ⟨y, f1, f2⟩ := v_cnew (n := j + 2) (by omega) (by omega)
      obtain ⟨o, lc, lt, la, lb, lfc, lfs, wv, cd, sh, lf, u1, u2, u3, u4, u5, u6, u7, u8⟩ := v_judge (n := j + 2) (by omega) (by omega) hA.1 f2
      obtain ⟨R_n', R_orders', R_rowNumber', R_child', R_childBack', R_order', R_weds', R_wedsBack', m1⟩ := q_kindsR (ts := Y 3) (tf := Y 1) (t2 := Y 2) (R_lineKind := T 8) (R_lineLong := T 9) (R_lineWord := T 10) (R_lines := T 7) (R_code := N 0) (R_n := N 1) (R_orders := N 15) (R_rowNumber := N 16) (R_child := T 31) (R_childBack := T 33) (R_order := T 47) (R_weds := T 30) (R_wedsBack := T 32) (n := j + 2) (by omega) (by omega) u3
      have hg : fO Cn (nI (j + 2) - 2).toNatClampNeg = none := by rw [c4]; unfold fO; rw [hz]; rfl
      have hM := c_X11_kindsc l G D cI cB cZ cS cC cJ (h 0) (h 1) (h 59) (.ref (h 25)) (.ref (h 26)) (.ref (h 37)) (.ref (h 51)) (fO Cn) (.ref (h 2)) (.ref (h 4)) (.ref (h 13)) (.ref (h 24)) (X 0) (nI (j + 2)) (fun k => h (2 + k)) (zOf (vN X Y)) c0 c1 c2 c3 hg f1 u1
      rw [c4] at hM
      rw [show o.2.2.2.1 = _ from u4.trans u6.1] at hM
      refine ⟨_, _, _, _, cen_c hj hz ⟨Nat.le_of_ble_eq_true rfl, Nat.le_of_ble_eq_true rfl⟩ ⟨rfl, rfl⟩ hM u2 (qAll_T hA ?_ (kp_t (Nat.le_of_ble_eq_true rfl) (kp_t (Nat.le_of_ble_eq_true rfl) (kp_t (Nat.le_of_ble_eq_true rfl) (kp_t (Nat.le_of_ble_eq_true rfl) (kp_t (Nat.le_of_ble_eq_true rfl) kp_0))))) rfl), hR_kinds l G D cI cB cZ cS cC cJ (nI (j + 2)) m1⟩
      obtain ⟨tl, n, lc, wc, c, w, t, d, W, C, V, U, lt, ws, la, lb, wl, e_tl, e_n, e_lc, e_wc, e_c, e_w, e_t, e_d, hTp, hF, hFp, hXw, hRw, hLw, hWd, hPL, hSN, hKN, hTN⟩ := hA.1
      exact ⟨tl, n, lc, wc, c, w, t, d, W, C, V, U, lt, ws, la, lb, wl, e_tl, e_n, e_lc, e_wc, e_c, e_w, e_t, e_d, hTp, hF, hFp, hXw, hRw, hLw, hWd, hPL, hSN, hKN, hTN⟩
    · have f2 := hA.2.2 j hj _ hz
      obtain ⟨o, lc, lt, la, lb, lfc, lfs, wv, cd, sh, lf, u1, u2, u3, u4, u5, u6, u7, u8⟩ := v_judge (n := j + 2) (by omega) (by omega) hA.1 f2
      obtain ⟨R_n', R_orders', R_rowNumber', R_child', R_childBack', R_order', R_weds', R_wedsBack', m1⟩ := q_kindsR (ts := Y 3) (tf := Y 1) (t2 := Y 2) (R_lineKind := T 8) (R_lineLong := T 9) (R_lineWord := T 10) (R_lines := T 7) (R_code := N 0) (R_n := N 1) (R_orders := N 15) (R_rowNumber := N 16) (R_child := T 31) (R_childBack := T 33) (R_order := T 47) (R_weds := T 30) (R_wedsBack := T 32) (n := j + 2) (by omega) (by omega) u3
      have hg : fO Cn (nI (j + 2) - 2).toNatClampNeg = some b := by rw [c4]; unfold fO; rw [hz]; rfl
      have hM := c_X11_kindsb l G D cI cB cZ cS cC cJ (h 0) (h 1) (h 59) (.ref (h 25)) (.ref (h 26)) (.ref (h 37)) (.ref (h 51)) (fO Cn) (.ref (h 2)) (.ref (h 4)) (.ref (h 13)) (.ref (h 24)) (X 0) (nI (j + 2)) b (fun k => h (2 + k)) qt (zOf (vN X Y)) y c0 c1 c2 c3 hg u1
      rw [show o.2.2.2.1 = _ from u4.trans u6.1] at hM
      refine ⟨_, _, _, _, cen_b hj hz ⟨Nat.le_of_ble_eq_true rfl, Nat.le_of_ble_eq_true rfl⟩ ⟨rfl, rfl⟩ hM u2 (qAll_T hA ?_ (kp_t (Nat.le_of_ble_eq_true rfl) (kp_t (Nat.le_of_ble_eq_true rfl) (kp_t (Nat.le_of_ble_eq_true rfl) (kp_t (Nat.le_of_ble_eq_true rfl) (kp_t (Nat.le_of_ble_eq_true rfl) kp_0))))) rfl), hR_kinds l G D cI cB cZ cS cC cJ (nI (j + 2)) m1⟩
      obtain ⟨tl, n, lc, wc, c, w, t, d, W, C, V, U, lt, ws, la, lb, wl, e_tl, e_n, e_lc, e_wc, e_c, e_w, e_t, e_d, hTp, hF, hFp, hXw, hRw, hLw, hWd, hPL, hSN, hKN, hTN⟩ := hA.1
      exact ⟨tl, n, lc, wc, c, w, t, d, W, C, V, U, lt, ws, la, lb, wl, e_tl, e_n, e_lc, e_wc, e_c, e_w, e_t, e_d, hTp, hF, hFp, hXw, hRw, hLw, hWd, hPL, hSN, hKN, hTN⟩
  · have m1 := (q_censusR_out (R_lineKind := T 8) (R_lineLong := T 9) (R_lineWord := T 10) (R_lines := T 7) (R_code := N 0) (R_n := N 1) (R_orders := N 15) (R_rowNumber := N 16) (R_child := T 31) (R_childBack := T 33) (R_order := T 47) (R_weds := T 30) (R_wedsBack := T 32) (x := x1) hn 0 0).2.2
    refine jGen_of hA ⟨_, _, _, _, _, _, _, hX_kindsa l G D cI cB cZ cS cC cJ x1 ho, hR_kinds l G D cI cB cZ cS cC cJ x1 m1, ?_, (kp_t (Nat.le_of_ble_eq_true rfl) (kp_t (Nat.le_of_ble_eq_true rfl) (kp_t (Nat.le_of_ble_eq_true rfl) (kp_t (Nat.le_of_ble_eq_true rfl) (kp_t (Nat.le_of_ble_eq_true rfl) kp_0))))), rfl⟩
    obtain ⟨tl, n, lc, wc, c, w, t, d, W, C, V, U, lt, ws, la, lb, wl, e_tl, e_n, e_lc, e_wc, e_c, e_w, e_t, e_d, hTp, hF, hFp, hXw, hRw, hLw, hWd, hPL, hSN, hKN, hTN⟩ := hA.1
    exact ⟨tl, n, lc, wc, c, w, t, d, W, C, V, U, lt, ws, la, lb, wl, e_tl, e_n, e_lc, e_wc, e_c, e_w, e_t, e_d, hTp, hF, hFp, hXw, hRw, hLw, hWd, hPL, hSN, hKN, hTN⟩
set_option maxRecDepth 20000 in
theorem hX_kinda (l : Launch) (G : jGt) (D : va_G) (cI cB cZ cS cC cJ : ClassId) {h : Nat → Nat} {v : Value} {f g : Nat → Option Nat} {X : Nat → Int32} {Y : Nat → Nat → Int32} (x1 x2 x3 : Int32) (hh : ¬ x1 < 2 → ¬ 5 < x1 → ¬ x1 - 2 < 4) : jStp l yX11_kind cX11_kind 5 (some .int) G D cI cB cZ cS cC cJ [.ref (h 0), .int x1, .int x2, .int x3] (wHx cI cB cZ cS cC cJ h v f g X Y) (-1) (fun w => w.Perm (wHx cI cB cZ cS cC cJ h v f g X Y)) :=
  jstp_mkq (h0 := hC cI cB cZ cS cC cJ h v f g X Y) hix [1, 2, 3, 4, 5, 6, 7, 8, 9, 10, 11, 12, 13, 14, 15, 16, 17, 18, 19, 20, 21, 22, 23, 24, 25, 26, 27, 28, 29, 30, 31, 32, 33, 34, 35, 36, 37, 38, 39, 40, 41, 42, 43, 44, 45, 46, 47, 48, 49, 50, 51, 52, 53, 54, 55, 56, 57, 58] [0, 59] (c_X11_kinda l G D cI cB cZ cS cC cJ (h 0) (h 1) (h 59) (.ref (h 25)) (.ref (h 26)) (.ref (h 37)) (.ref (h 51)) g x1 x2 x3 hh) (by decide +kernel) rfl ⟨Nat.le_of_ble_eq_true rfl, Nat.le_of_ble_eq_true rfl⟩ ⟨rfl, rfl⟩
set_option maxRecDepth 20000 in
set_option maxHeartbeats 1000000 in
theorem st_kind {l : Launch} {G : jGt} {D : va_G} {cI cB cZ cS cC cJ : ClassId} {h : Nat → Nat} {rf : Nat} {aX : Nat → Nat} {v : Value} {I : Nat → Option zIm} {Cn : Nat → Option zCn} {X : Nat → Int32} {Y : Nat → Nat → Int32} {N : Nat → Int32} {w0 : Int64} {T : Nat → Nat → Int32} (x1 x2 x3 : Int32) (hA : qAll I Cn X Y T) : jGen l G D cI cB cZ cS cC cJ yX11_kind cX11_kind 5 (some .int) yX12_kind cX12_kind 5 (some .int) [.int x1, .int x2, .int x3] h rf aX v I Cn X Y N w0 T := by
  rcases c_out (x := x1) with ⟨j, hj, rfl⟩ | ⟨ho, hn⟩
  · obtain ⟨c0, c1, c2, c3, c4⟩ := c_in hj
    rcases hz : Cn j with _ | ⟨b, qt, y⟩
    · obtain ⟨y, f1, f2⟩ := v_cnew (n := j + 2) (by omega) (by omega)
      obtain ⟨o, lc, lt, la, lb, lfc, lfs, wv, cd, sh, lf, u1, u2, u3, u4, u5, u6, u7, u8⟩ := v_judge (n := j + 2) (by omega) (by omega) hA.1 f2
      obtain ⟨r, R_n', R_orders', R_rowNumber', R_child', R_childBack', R_order', R_weds', R_wedsBack', m0, m1⟩ := q_kindR (ts := Y 3) (tf := Y 1) (t2 := Y 2) (R_lineKind := T 8) (R_lineLong := T 9) (R_lineWord := T 10) (R_lines := T 7) (R_code := N 0) (R_n := N 1) (R_orders := N 15) (R_rowNumber := N 16) (R_child := T 31) (R_childBack := T 33) (R_order := T 47) (R_weds := T 30) (R_wedsBack := T 32) (by omega) (by omega) u3 u7 u6 x2 x3
      have hg : fO Cn (nI (j + 2) - 2).toNatClampNeg = none := by rw [c4]; unfold fO; rw [hz]; rfl
      have hM := c_X11_kindc l G D cI cB cZ cS cC cJ (h 0) (h 1) (h 59) (.ref (h 25)) (.ref (h 26)) (.ref (h 37)) (.ref (h 51)) (fO Cn) (.ref (h 2)) (.ref (h 4)) (.ref (h 13)) (.ref (h 24)) (X 0) (nI (j + 2)) x2 x3 (fun k => h (2 + k)) (zOf (vN X Y)) c0 c1 c2 c3 hg f1 u1 ((u8 x2 x3).trans m0)
      rw [c4] at hM
      refine ⟨_, _, _, _, cen_c hj hz ⟨Nat.le_of_ble_eq_true rfl, Nat.le_of_ble_eq_true rfl⟩ ⟨rfl, rfl⟩ hM u2 (qAll_T hA ?_ (kp_t (Nat.le_of_ble_eq_true rfl) (kp_t (Nat.le_of_ble_eq_true rfl) (kp_t (Nat.le_of_ble_eq_true rfl) (kp_t (Nat.le_of_ble_eq_true rfl) (kp_t (Nat.le_of_ble_eq_true rfl) kp_0))))) rfl), hR_kind l G D cI cB cZ cS cC cJ (nI (j + 2)) x2 x3 m1⟩
      obtain ⟨tl, n, lc, wc, c, w, t, d, W, C, V, U, lt, ws, la, lb, wl, e_tl, e_n, e_lc, e_wc, e_c, e_w, e_t, e_d, hTp, hF, hFp, hXw, hRw, hLw, hWd, hPL, hSN, hKN, hTN⟩ := hA.1
      exact ⟨tl, n, lc, wc, c, w, t, d, W, C, V, U, lt, ws, la, lb, wl, e_tl, e_n, e_lc, e_wc, e_c, e_w, e_t, e_d, hTp, hF, hFp, hXw, hRw, hLw, hWd, hPL, hSN, hKN, hTN⟩
    · have f2 := hA.2.2 j hj _ hz
      obtain ⟨o, lc, lt, la, lb, lfc, lfs, wv, cd, sh, lf, u1, u2, u3, u4, u5, u6, u7, u8⟩ := v_judge (n := j + 2) (by omega) (by omega) hA.1 f2
      obtain ⟨r, R_n', R_orders', R_rowNumber', R_child', R_childBack', R_order', R_weds', R_wedsBack', m0, m1⟩ := q_kindR (ts := Y 3) (tf := Y 1) (t2 := Y 2) (R_lineKind := T 8) (R_lineLong := T 9) (R_lineWord := T 10) (R_lines := T 7) (R_code := N 0) (R_n := N 1) (R_orders := N 15) (R_rowNumber := N 16) (R_child := T 31) (R_childBack := T 33) (R_order := T 47) (R_weds := T 30) (R_wedsBack := T 32) (by omega) (by omega) u3 u7 u6 x2 x3
      have hg : fO Cn (nI (j + 2) - 2).toNatClampNeg = some b := by rw [c4]; unfold fO; rw [hz]; rfl
      have hM := c_X11_kindb l G D cI cB cZ cS cC cJ (h 0) (h 1) (h 59) (.ref (h 25)) (.ref (h 26)) (.ref (h 37)) (.ref (h 51)) (fO Cn) (.ref (h 2)) (.ref (h 4)) (.ref (h 13)) (.ref (h 24)) (X 0) (nI (j + 2)) x2 x3 b (fun k => h (2 + k)) qt (zOf (vN X Y)) y c0 c1 c2 c3 hg u1 ((u8 x2 x3).trans m0)
      refine ⟨_, _, _, _, cen_b hj hz ⟨Nat.le_of_ble_eq_true rfl, Nat.le_of_ble_eq_true rfl⟩ ⟨rfl, rfl⟩ hM u2 (qAll_T hA ?_ (kp_t (Nat.le_of_ble_eq_true rfl) (kp_t (Nat.le_of_ble_eq_true rfl) (kp_t (Nat.le_of_ble_eq_true rfl) (kp_t (Nat.le_of_ble_eq_true rfl) (kp_t (Nat.le_of_ble_eq_true rfl) kp_0))))) rfl), hR_kind l G D cI cB cZ cS cC cJ (nI (j + 2)) x2 x3 m1⟩
      obtain ⟨tl, n, lc, wc, c, w, t, d, W, C, V, U, lt, ws, la, lb, wl, e_tl, e_n, e_lc, e_wc, e_c, e_w, e_t, e_d, hTp, hF, hFp, hXw, hRw, hLw, hWd, hPL, hSN, hKN, hTN⟩ := hA.1
      exact ⟨tl, n, lc, wc, c, w, t, d, W, C, V, U, lt, ws, la, lb, wl, e_tl, e_n, e_lc, e_wc, e_c, e_w, e_t, e_d, hTp, hF, hFp, hXw, hRw, hLw, hWd, hPL, hSN, hKN, hTN⟩
  · have m1 := (q_censusR_out (R_lineKind := T 8) (R_lineLong := T 9) (R_lineWord := T 10) (R_lines := T 7) (R_code := N 0) (R_n := N 1) (R_orders := N 15) (R_rowNumber := N 16) (R_child := T 31) (R_childBack := T 33) (R_order := T 47) (R_weds := T 30) (R_wedsBack := T 32) (x := x1) hn x2 x3).1
    refine jGen_of hA ⟨_, _, _, _, _, _, _, hX_kinda l G D cI cB cZ cS cC cJ x1 x2 x3 ho, hR_kind l G D cI cB cZ cS cC cJ x1 x2 x3 m1, ?_, (kp_t (Nat.le_of_ble_eq_true rfl) (kp_t (Nat.le_of_ble_eq_true rfl) (kp_t (Nat.le_of_ble_eq_true rfl) (kp_t (Nat.le_of_ble_eq_true rfl) (kp_t (Nat.le_of_ble_eq_true rfl) kp_0))))), rfl⟩
    obtain ⟨tl, n, lc, wc, c, w, t, d, W, C, V, U, lt, ws, la, lb, wl, e_tl, e_n, e_lc, e_wc, e_c, e_w, e_t, e_d, hTp, hF, hFp, hXw, hRw, hLw, hWd, hPL, hSN, hKN, hTN⟩ := hA.1
    exact ⟨tl, n, lc, wc, c, w, t, d, W, C, V, U, lt, ws, la, lb, wl, e_tl, e_n, e_lc, e_wc, e_c, e_w, e_t, e_d, hTp, hF, hFp, hXw, hRw, hLw, hWd, hPL, hSN, hKN, hTN⟩

/-! image and again: both sides -/
theorem x_out3 {x : Int32} (h : qOut 3 x) : (x < 0 ∨ ¬ x < 3) ∧ (x < 0 ∨ 2 < x) ∧ (x < 0 ∨ 3 ≤ x) := by
  rcases h with h | ⟨j, h1, h2, rfl⟩
  · exact ⟨Or.inl h, Or.inl h, Or.inl h⟩
  · exact ⟨Or.inr (nI_nlt (b := 3) h1 h2), Or.inr (nI_lt (a := 2) (by omega) h2), Or.inr (nI_le (a := 3) h1 h2)⟩
theorem qR_u {n : Nat} {f : Nat → Int32} {W W' : Nat → Nat} (h8 : n ≤ 8) (r1 : qR 0 n f W) (r2 : qR 0 n f W') (b1 : ∀ i, i < n → W i < n) (b2 : ∀ i, i < n → W' i < n) (z1 : qNz n W) (z2 : qNz n W') : W' = W := by
  funext i
  by_cases hi : i < n
  · have e : nI (W' i) = nI (W i) := (r2 i hi).symm.trans (r1 i hi)
    have := b1 i hi
    have := b2 i hi
    exact (nI_eq (by omega) (by omega)).mp e
  · rw [z1 i (by omega), z2 i (by omega)]
theorem qIv_s {X : Nat → Int32} {Y T : Nat → Nat → Int32} (hI : qIv X Y T) : qSv 0 (vN X Y) T := by
  obtain ⟨tl, n, lc, wc, c, w, t, d, W, C, V, U, lt, ws, la, lb, wl, e_tl, e_n, e_lc, e_wc, e_c, e_w, e_t, e_d, hTp, hF, hFp, hXw, hRw, hLw, hWd, hPL, hSN, hKN, hTN⟩ := hI
  exact ⟨tl, n, lc, wc, c, w, t, d, W, C, V, U, lt, ws, la, lb, wl, e_tl, e_n, e_lc, e_wc, e_c, e_w, e_t, e_d, hTp, hF, hFp, hXw, hRw, hLw, hWd, hPL⟩
theorem qIv_mv {X : Nat → Int32} {Y T T' : Nat → Nat → Int32} (hI : qIv X Y T) (hs : qSv 0 (vN X Y) T') : qIv X Y T' := by
  obtain ⟨tl, n, lc, wc, c, w, t, d, W, C, V, U, lt, ws, la, lb, wl, e_tl, e_n, e_lc, e_wc, e_c, e_w, e_t, e_d, hTp, hF, hFp, hXw, hRw, hLw, hWd, hPL, hSN, hKN, hTN⟩ := hI
  obtain ⟨tl2, n2, lc2, wc2, c2, w2, t2, d2, W2, C2, V2, U2, lt2, ws2, la2, lb2, wl2, f_tl, f_n, f_lc, f_wc, f_c, f_w, f_t, f_d, gTp, gF, gFp, gXw, gRw, gLw, gWd, gPL⟩ := hs
  have h8 := hXw.1.1
  have g8 := gXw.1.1
  have a1 := hPL.1
  have a2 := hPL.2.1
  have a3 := hPL.2.2.1
  have b1 := gPL.1
  have b2 := gPL.2.1
  have b3 := gPL.2.2.1
  have en : n = n2 := (nI_eq (by omega) (by omega)).mp (e_n.symm.trans f_n)
  have ec : c = c2 := (nI_eq (by omega) (by omega)).mp (e_c.symm.trans f_c)
  have ew : w = w2 := (nI_eq (by omega) (by omega)).mp (e_w.symm.trans f_w)
  have et : t = t2 := (nI_eq (by omega) (by omega)).mp (e_t.symm.trans f_t)
  subst en ec ew et
  obtain ⟨W3, C3, V3, U3, g1, g2, g3, -, -, -⟩ := nz_sys gXw gRw
  have eW : W3 = W := qR_u h8 hXw.2.1 g1.2.1 hXw.1.2.1.1 g1.1.2.1.1 hSN.2.1 g3.2.1
  have eC : C3 = C := qR_u h8 hXw.2.2.1 g1.2.2.1 hXw.1.2.2.1.1 g1.1.2.2.1.1 hSN.2.2.1 g3.2.2.1
  have eV : V3 = V := qR_u h8 hXw.2.2.2.1 g1.2.2.2.1 (fun i hi => (hXw.1.2.2.2.1 i hi).1) (fun i hi => (g1.1.2.2.2.1 i hi).1) hSN.2.2.2.1 g3.2.2.2.1
  subst eW eC eV
  exact ⟨tl2, n, lc2, wc2, c, w, t, d2, W3, C3, V3, U3, lt2, ws2, la2, lb2, wl2, f_tl, f_n, f_lc, f_wc, f_c, f_w, f_t, f_d, gTp, gF, gFp, g1, g2, gLw, gWd, gPL, g3, hKN, hTN⟩
theorem qIv_new {X : Nat → Int32} {Y T T' : Nat → Nat → Int32} {o : vSt} (hI : qIv X Y T) (hs : qSv 0 o T') : qIv (xO X o) (yO Y o) T' := by
  obtain ⟨tl, n, lc, wc, c, w, t, d, W, C, V, U, lt, ws, la, lb, wl, e_tl, e_n, e_lc, e_wc, e_c, e_w, e_t, e_d, hTp, hF, hFp, hXw, hRw, hLw, hWd, hPL, hSN, hKN, hTN⟩ := hI
  obtain ⟨tl2, n2, lc2, wc2, c2, w2, t2, d2, W2, C2, V2, U2, lt2, ws2, la2, lb2, wl2, f_tl, f_n, f_lc, f_wc, f_c, f_w, f_t, f_d, gTp, gF, gFp, gXw, gRw, gLw, gWd, gPL⟩ := hs
  obtain ⟨W3, C3, V3, U3, g1, g2, g3, -, -, -⟩ := nz_sys gXw gRw
  exact ⟨tl2, n2, lc2, wc2, c2, w2, t2, d2, W3, C3, V3, U3, lt2, ws2, la2, lb2, wl2, f_tl, f_n, f_lc, f_wc, f_c, f_w, f_t, f_d, gTp, gF, gFp, g1, g2, gLw, gWd, gPL, g3, Or.inl nI_0.symm, hTN⟩
set_option maxRecDepth 20000 in
theorem hX_imagea (l : Launch) (G : jGt) (D : va_G) (cI cB cZ cS cC cJ : ClassId) {h : Nat → Nat} {v : Value} {f g : Nat → Option Nat} {X : Nat → Int32} {Y : Nat → Nat → Int32} (x1 : Int32) (hh : x1 < 0 ∨ ¬ x1 < 3) : jStp l yX11_image cX11_image 2 (some .boolean) G D cI cB cZ cS cC cJ [.ref (h 0), .int x1] (wHx cI cB cZ cS cC cJ h v f g X Y) 0 (fun w => w.Perm (wHx cI cB cZ cS cC cJ h v f g X Y)) :=
  jstp_mk (h0 := hC cI cB cZ cS cC cJ h v f g X Y) (h1 := hC cI cB cZ cS cC cJ h v f g X Y) hix [1, 2, 3, 4, 5, 6, 7, 8, 9, 10, 11, 12, 13, 14, 15, 16, 17, 18, 19, 20, 21, 22, 23, 24, 26, 27, 28, 29, 30, 31, 32, 33, 34, 35, 36, 37, 38, 39, 40, 41, 42, 43, 44, 45, 46, 47, 48, 49, 50, 51, 52, 53, 54, 55, 56, 57, 58, 59] [0, 25] (c_X11_imagea l G D cI cB cZ cS cC cJ (h 0) (h 1) (h 25) (.ref (h 26)) (.ref (h 37)) (.ref (h 51)) (.ref (h 59)) f x1 hh) (fun _ h => h) (by decide +kernel) rfl rfl rfl ⟨Nat.le_of_ble_eq_true rfl, Nat.le_of_ble_eq_true rfl⟩ ⟨rfl, rfl⟩

set_option maxRecDepth 20000 in
theorem hX_againa (l : Launch) (G : jGt) (D : va_G) (cI cB cZ cS cC cJ : ClassId) {h : Nat → Nat} {v : Value} {f g : Nat → Option Nat} {X : Nat → Int32} {Y : Nat → Nat → Int32} (x1 : Int32) (hh : ¬ x1 < 0 → ¬ 3 ≤ x1 → vp_in x1 3 ∧ f x1.toNatClampNeg = none) : jStp l yX11_again cX11_again 2 (some .boolean) G D cI cB cZ cS cC cJ [.ref (h 0), .int x1] (wHx cI cB cZ cS cC cJ h v f g X Y) 0 (fun w => w.Perm (wHx cI cB cZ cS cC cJ h v f g X Y)) :=
  jstp_mk (h0 := hC cI cB cZ cS cC cJ h v f g X Y) (h1 := hC cI cB cZ cS cC cJ h v f g X Y) hix [1, 2, 3, 4, 5, 6, 7, 8, 9, 10, 11, 12, 13, 14, 15, 16, 17, 18, 19, 20, 21, 22, 23, 24, 26, 27, 28, 29, 30, 31, 32, 33, 34, 35, 36, 37, 38, 39, 40, 41, 42, 43, 44, 45, 46, 47, 48, 49, 50, 51, 52, 53, 54, 55, 56, 57, 58, 59] [0, 25] (c_X11_againa l G D cI cB cZ cS cC cJ (h 0) (h 1) (h 25) (.ref (h 26)) (.ref (h 37)) (.ref (h 51)) (.ref (h 59)) f x1 hh) (fun _ h => h) (by decide +kernel) rfl rfl rfl ⟨Nat.le_of_ble_eq_true rfl, Nat.le_of_ble_eq_true rfl⟩ ⟨rfl, rfl⟩

theorem rI_out {N : Nat → Int32} {T : Nat → Nat → Int32} {x1 : Int32} (h : x1 < 0 ∨ 2 < x1) : f_X12_image (N 0) (32, T 6) (4, T 4) (4, T 18) (96, T 22) (4, T 2) (4, T 3) (96, T 24) (3, T 54) (64, T 8) (128, T 9) (1024, T 10) (4, T 7) (96, T 21) (96, T 23) (4, T 15) (96, T 20) (4, T 0) (1600, T 1) (4, T 17) (240, T 28) (240, T 29) (240, T 27) (4, T 19) (96, T 26) (4, T 16) (32, T 5) (96, T 25) (256, T 14) (32, T 13) (32, T 12) (4, T 11) x1 = some (0, 0, (32, T 6), (4, T 4), (4, T 18), (96, T 22), (4, T 2), (4, T 3), (96, T 24), (3, T 54), (64, T 8), (128, T 9), (1024, T 10), (4, T 7), (96, T 21), (96, T 23), (4, T 15), (96, T 20), (4, T 0), (1600, T 1), (4, T 17), (240, T 28), (240, T 29), (240, T 27), (4, T 19), (96, T 26), (4, T 16), (32, T 5), (96, T 25), (256, T 14), (32, T 13), (32, T 12), (4, T 11)) := by
  unfold f_X12_image
  rw [jM_at (X12_in_no h), if_pos rfl]
theorem rI_in {N : Nat → Int32} {T R1 : Nat → Nat → Int32} {k : Nat} (hk : k < 3) (hc : rCp T (nI 0) (nI (k + 1)) = some (rTu R1)) : f_X12_image (N 0) (32, T 6) (4, T 4) (4, T 18) (96, T 22) (4, T 2) (4, T 3) (96, T 24) (3, T 54) (64, T 8) (128, T 9) (1024, T 10) (4, T 7) (96, T 21) (96, T 23) (4, T 15) (96, T 20) (4, T 0) (1600, T 1) (4, T 17) (240, T 28) (240, T 29) (240, T 27) (4, T 19) (96, T 26) (4, T 16) (32, T 5) (96, T 25) (256, T 14) (32, T 13) (32, T 12) (4, T 11) (nI k) = some (1, 0, (32, R1 6), (4, R1 4), (4, R1 18), (96, R1 22), (4, R1 2), (4, R1 3), (96, R1 24), (3, upd (T 54) k 1), (64, R1 8), (128, R1 9), (1024, R1 10), (4, R1 7), (96, R1 21), (96, R1 23), (4, R1 15), (96, R1 20), (4, R1 0), (1600, R1 1), (4, R1 17), (240, R1 28), (240, R1 29), (240, R1 27), (4, R1 19), (96, R1 26), (4, R1 16), (32, R1 5), (96, R1 25), (256, R1 14), (32, R1 13), (32, R1 12), (4, R1 11)) := by
  have e : f_X12_in (nI k) 0 2 = some 1 := X12_in_yes (nI_pos (by omega)) (nI_nlt (a := 2) (by omega) (by omega))
  have e2 : nI k + 1 = nI (k + 1) := nI_1 k
  unfold f_X12_image
  rw [jM_at e, if_neg (by decide), e2, jM_at (show f_X12_copy (32, T 6) (4, T 4) (4, T 18) (96, T 22) (4, T 2) (4, T 3) (96, T 24) (64, T 8) (128, T 9) (1024, T 10) (4, T 7) (96, T 21) (96, T 23) (4, T 15) (96, T 20) (4, T 0) (1600, T 1) (4, T 17) (240, T 28) (240, T 29) (240, T 27) (4, T 19) (96, T 26) (4, T 16) (32, T 5) (96, T 25) (256, T 14) (32, T 13) (32, T 12) (4, T 11) 0 (nI (k + 1)) = some (rTu R1) from hc), jS_p k rfl hk (by decide)]
  rfl
theorem rA_out {N : Nat → Int32} {T : Nat → Nat → Int32} {x1 : Int32} (h : x1 < 0 ∨ 2 < x1) : f_X12_again (3, T 54) (N 0) (32, T 6) (4, T 4) (4, T 18) (96, T 22) (4, T 2) (4, T 3) (96, T 24) (64, T 8) (128, T 9) (1024, T 10) (4, T 7) (96, T 21) (96, T 23) (4, T 15) (96, T 20) (4, T 0) (1600, T 1) (4, T 17) (240, T 28) (240, T 29) (240, T 27) (4, T 19) (96, T 26) (4, T 16) (32, T 5) (96, T 25) (256, T 14) (32, T 13) (32, T 12) (4, T 11) x1 = some (0, 0, (32, T 6), (4, T 4), (4, T 18), (96, T 22), (4, T 2), (4, T 3), (96, T 24), (64, T 8), (128, T 9), (1024, T 10), (4, T 7), (96, T 21), (96, T 23), (4, T 15), (96, T 20), (4, T 0), (1600, T 1), (4, T 17), (240, T 28), (240, T 29), (240, T 27), (4, T 19), (96, T 26), (4, T 16), (32, T 5), (96, T 25), (256, T 14), (32, T 13), (32, T 12), (4, T 11)) := by
  unfold f_X12_again
  rw [jM_at (X12_in_no h), if_pos rfl]
theorem rA_no {N : Nat → Int32} {T : Nat → Nat → Int32} {k : Nat} (hk : k < 3) (hz : T 54 k = 0) : f_X12_again (3, T 54) (N 0) (32, T 6) (4, T 4) (4, T 18) (96, T 22) (4, T 2) (4, T 3) (96, T 24) (64, T 8) (128, T 9) (1024, T 10) (4, T 7) (96, T 21) (96, T 23) (4, T 15) (96, T 20) (4, T 0) (1600, T 1) (4, T 17) (240, T 28) (240, T 29) (240, T 27) (4, T 19) (96, T 26) (4, T 16) (32, T 5) (96, T 25) (256, T 14) (32, T 13) (32, T 12) (4, T 11) (nI k) = some (0, 0, (32, T 6), (4, T 4), (4, T 18), (96, T 22), (4, T 2), (4, T 3), (96, T 24), (64, T 8), (128, T 9), (1024, T 10), (4, T 7), (96, T 21), (96, T 23), (4, T 15), (96, T 20), (4, T 0), (1600, T 1), (4, T 17), (240, T 28), (240, T 29), (240, T 27), (4, T 19), (96, T 26), (4, T 16), (32, T 5), (96, T 25), (256, T 14), (32, T 13), (32, T 12), (4, T 11)) := by
  have e : f_X12_in (nI k) 0 2 = some 1 := X12_in_yes (nI_pos (by omega)) (nI_nlt (a := 2) (by omega) (by omega))
  unfold f_X12_again
  rw [jM_at e, if_neg (by decide), jL_p k rfl hk (by decide), if_pos hz]
theorem rA_in {N : Nat → Int32} {T R1 : Nat → Nat → Int32} {k : Nat} (hk : k < 3) (hz : T 54 k = 1) (hc : rCp T (nI (k + 1)) (nI 0) = some (rTu R1)) : f_X12_again (3, T 54) (N 0) (32, T 6) (4, T 4) (4, T 18) (96, T 22) (4, T 2) (4, T 3) (96, T 24) (64, T 8) (128, T 9) (1024, T 10) (4, T 7) (96, T 21) (96, T 23) (4, T 15) (96, T 20) (4, T 0) (1600, T 1) (4, T 17) (240, T 28) (240, T 29) (240, T 27) (4, T 19) (96, T 26) (4, T 16) (32, T 5) (96, T 25) (256, T 14) (32, T 13) (32, T 12) (4, T 11) (nI k) = some (1, 0, (32, R1 6), (4, R1 4), (4, R1 18), (96, R1 22), (4, R1 2), (4, R1 3), (96, R1 24), (64, R1 8), (128, R1 9), (1024, R1 10), (4, R1 7), (96, R1 21), (96, R1 23), (4, R1 15), (96, R1 20), (4, R1 0), (1600, R1 1), (4, R1 17), (240, R1 28), (240, R1 29), (240, R1 27), (4, R1 19), (96, R1 26), (4, R1 16), (32, R1 5), (96, R1 25), (256, R1 14), (32, R1 13), (32, R1 12), (4, R1 11)) := by
  have e : f_X12_in (nI k) 0 2 = some 1 := X12_in_yes (nI_pos (by omega)) (nI_nlt (a := 2) (by omega) (by omega))
  have e2 : nI k + 1 = nI (k + 1) := nI_1 k
  unfold f_X12_again
  rw [jM_at e, if_neg (by decide), jL_p k rfl hk (by decide), if_neg (by rw [hz]; decide), e2, jM_at (show f_X12_copy (32, T 6) (4, T 4) (4, T 18) (96, T 22) (4, T 2) (4, T 3) (96, T 24) (64, T 8) (128, T 9) (1024, T 10) (4, T 7) (96, T 21) (96, T 23) (4, T 15) (96, T 20) (4, T 0) (1600, T 1) (4, T 17) (240, T 28) (240, T 29) (240, T 27) (4, T 19) (96, T 26) (4, T 16) (32, T 5) (96, T 25) (256, T 14) (32, T 13) (32, T 12) (4, T 11) (nI (k + 1)) 0 = some (rTu R1) from hc)]
  rfl
set_option maxRecDepth 20000 in
set_option maxHeartbeats 1000000 in
theorem tI_q {T R1 : Nat → Nat → Int32} {k q : Nat} {y : vSt} (hq : qSv q y R1) : qSv q y (jw1 (jw1 (jw1 (jw1 (jw1 (jw1 (jw1 (jw1 (jw1 (jw1 (jw1 (jw1 (jw1 (jw1 (jw1 (jw1 (jw1 (jw1 (jw1 (jw1 (jw1 (jw1 (jw1 (jw1 (jw1 (jw1 (jw1 (jw1 (jw1 (jw1 (jw1 T 6 (R1 6)) 4 (R1 4)) 18 (R1 18)) 22 (R1 22)) 2 (R1 2)) 3 (R1 3)) 24 (R1 24)) 54 (upd (T 54) k 1)) 8 (R1 8)) 9 (R1 9)) 10 (R1 10)) 7 (R1 7)) 21 (R1 21)) 23 (R1 23)) 15 (R1 15)) 20 (R1 20)) 0 (R1 0)) 1 (R1 1)) 17 (R1 17)) 28 (R1 28)) 29 (R1 29)) 27 (R1 27)) 19 (R1 19)) 26 (R1 26)) 16 (R1 16)) 5 (R1 5)) 25 (R1 25)) 14 (R1 14)) 13 (R1 13)) 12 (R1 12)) 11 (R1 11)) := hq
set_option maxRecDepth 20000 in
set_option maxHeartbeats 1000000 in
theorem tA_q {T R1 : Nat → Nat → Int32} {q : Nat} {y : vSt} (hq : qSv q y R1) : qSv q y (jw1 (jw1 (jw1 (jw1 (jw1 (jw1 (jw1 (jw1 (jw1 (jw1 (jw1 (jw1 (jw1 (jw1 (jw1 (jw1 (jw1 (jw1 (jw1 (jw1 (jw1 (jw1 (jw1 (jw1 (jw1 (jw1 (jw1 (jw1 (jw1 (jw1 T 6 (R1 6)) 4 (R1 4)) 18 (R1 18)) 22 (R1 22)) 2 (R1 2)) 3 (R1 3)) 24 (R1 24)) 8 (R1 8)) 9 (R1 9)) 10 (R1 10)) 7 (R1 7)) 21 (R1 21)) 23 (R1 23)) 15 (R1 15)) 20 (R1 20)) 0 (R1 0)) 1 (R1 1)) 17 (R1 17)) 28 (R1 28)) 29 (R1 29)) 27 (R1 27)) 19 (R1 19)) 26 (R1 26)) 16 (R1 16)) 5 (R1 5)) 25 (R1 25)) 14 (R1 14)) 13 (R1 13)) 12 (R1 12)) 11 (R1 11)) := hq
set_option maxRecDepth 20000 in
set_option maxHeartbeats 1000000 in
theorem st_image {l : Launch} {G : jGt} {D : va_G} {cI cB cZ cS cC cJ : ClassId} {h : Nat → Nat} {rf : Nat} {aX : Nat → Nat} {v : Value} {I : Nat → Option zIm} {Cn : Nat → Option zCn} {X : Nat → Int32} {Y : Nat → Nat → Int32} {N : Nat → Int32} {w0 : Int64} {T : Nat → Nat → Int32} (x1 : Int32) (hA : qAll I Cn X Y T) : jGen l G D cI cB cZ cS cC cJ yX11_image cX11_image 2 (some .boolean) yX12_image cX12_image 2 (some .boolean) [.int x1] h rf aX v I Cn X Y N w0 T := by
  rcases qn_inout x1 3 with ⟨k, hk, -, rfl⟩ | hout
  · have hs := qIv_s hA.1
    have c0 : ¬ nI k < 0 := nI_pos (by omega)
    have c1 : nI k < 3 := nI_lt (b := 3) hk (by omega)
    have c2 : (nI k).toNatClampNeg = k := nI_clamp (by omega)
    have c3 : (nI k).toNatClampNeg < 3 := by rw [c2]; exact hk
    rcases hA.2.1 k hk with ⟨i1, i2⟩ | ⟨⟨b, qt, y⟩, i1, i2, i3⟩
    · obtain ⟨o, R1, d1, d2, d3, d4⟩ := v_copy (a := 0) (b := k + 1) (y := vSt0) (by omega) (by omega) (by omega) hs
      rw [zOf_0] at d1
      refine ⟨1, _, _, _, ?_, hR_image l G D cI cB cZ cS cC cJ (nI k) (rI_in hk d2)⟩
      have hfi : fO I (nI k).toNatClampNeg = none := by rw [c2]; unfold fO; rw [i1]; rfl
      refine ⟨_, wBl ([0, 1, 2].erase k) (fun j => wI1 cI cB (I j)) ++ (wCn cI Cn ++ rsI.map (hC cI cB cZ cS cC cJ h v (fO I) (fO Cn) X Y)), _, rX11_image, fun _ h => h, ?_, Nat.le_of_ble_eq_true rfl, Nat.le_of_ble_eq_true rfl, Or.inr ⟨_, 24, 870, rfl, rfl, Nat.le_refl _, Nat.le_refl _, c_X11_imagec l G D cI cB cZ cS cC cJ (h 0) (h 1) (h 25) (.ref (h 26)) (.ref (h 37)) (.ref (h 51)) (.ref (h 59)) (fO I) (nI k) (fun k => h (2 + k)) (zOf (vN X Y)) c0 c1 c3 hfi zSt0_eq d1, fun qs => ?_⟩⟩
      · have g := j_shufA0 (C := wCn cI Cn) (wIm_q (cI := cI) (cB := cB) (I := I) hk) (hp_I cI cB cZ cS cC cJ h v (fO I) (fO Cn) X Y)
        rw [i1] at g
        simpa only [wAl, wI1, List.append_nil, List.append_assoc] using g
      · refine ⟨v, jw1 I k (some (qs 0, (fun j => qs (j + 1)), o)), Cn, X, Y, ?_, ?_, fun j hj => ?_, hA.2.2⟩
        · have g := j_shufA0 (C := wCn cI Cn) (wIm_p (cI := cI) (cB := cB) (I := I) hk (some (qs 0, (fun j => qs (j + 1)), o))) (hp_I cI cB cZ cS cC cJ h v (fO (jw1 I k (some (qs 0, (fun j => qs (j + 1)), o)))) (fO Cn) X Y)
          refine List.Perm.trans ?_ g.symm
          rw [fO_up, c2]
          have e : (rsI.map (hC cI cB cZ cS cC cJ h v (va_up (fO I) k (some (qs 0))) (fO Cn) X Y)) = rsI.map (hC cI cB cZ cS cC cJ h v (fO I) (fO Cn) X Y) := rfl
          rw [e]
          simp only [wI1, List.append_nil, List.append_assoc]
          exact List.Perm.refl _
        · exact qIv_mv hA.1 (tI_q (d4 0 _ (by omega) hs))
        · by_cases e : j = k
          · subst e
            exact Or.inr ⟨_, jw1_e, (show upd (T 54) j 1 j = 1 from if_pos rfl), tI_q d3⟩
          · rcases hA.2.1 j hj with ⟨e1, e2⟩ | ⟨z, e1, e2, e3⟩
            · exact Or.inl ⟨by rw [jw1_n e]; exact e1, (show upd (T 54) k 1 j = 0 from (if_neg e).trans e2)⟩
            · exact Or.inr ⟨z, by rw [jw1_n e]; exact e1, (show upd (T 54) k 1 j = 1 from (if_neg e).trans e2), tI_q (d4 _ _ (by omega) e3)⟩
    · obtain ⟨o, R1, d1, d2, d3, d4⟩ := v_copy (a := 0) (b := k + 1) (y := y) (by omega) (by omega) (by omega) hs
      refine ⟨1, _, _, _, ?_, hR_image l G D cI cB cZ cS cC cJ (nI k) (rI_in hk d2)⟩
      have hfi : fO I (nI k).toNatClampNeg = some b := by rw [c2]; unfold fO; rw [i1]; rfl
      refine ⟨_, wBl ([0, 1, 2].erase k) (fun j => wI1 cI cB (I j)) ++ (wCn cI Cn ++ rsI.map (hC cI cB cZ cS cC cJ h v (fO I) (fO Cn) X Y)), _, rX11_imag0, fun _ h => h, ?_, Nat.le_of_ble_eq_true rfl, Nat.le_of_ble_eq_true rfl, Or.inl ⟨_, rfl, rfl, c_X11_imageb l G D cI cB cZ cS cC cJ (h 0) (h 1) (h 25) (.ref (h 26)) (.ref (h 37)) (.ref (h 51)) (.ref (h 59)) (fO I) (nI k) b (fun k => h (2 + k)) qt (zOf (vN X Y)) (zOf y) c0 c1 c3 hfi d1, ?_⟩⟩
      · have g := j_shufA0 (C := wCn cI Cn) (wIm_q (cI := cI) (cB := cB) (I := I) hk) (hp_I cI cB cZ cS cC cJ h v (fO I) (fO Cn) X Y)
        rw [i1] at g
        simpa only [wAl, wI1, List.append_nil, List.append_assoc] using g
      · refine ⟨v, jw1 I k (some (b, qt, o)), Cn, X, Y, ?_, ?_, fun j hj => ?_, hA.2.2⟩
        · have g := j_shufA0 (C := wCn cI Cn) (wIm_p (cI := cI) (cB := cB) (I := I) hk (some (b, qt, o))) (hp_I cI cB cZ cS cC cJ h v (fO (jw1 I k (some (b, qt, o)))) (fO Cn) X Y)
          refine List.Perm.trans ?_ g.symm
          rw [fO_same (z' := (b, qt, o)) i1 rfl]
          simp only [wI1, List.append_nil, List.append_assoc]
          exact List.Perm.refl _
        · exact qIv_mv hA.1 (tI_q (d4 0 _ (by omega) hs))
        · by_cases e : j = k
          · subst e
            exact Or.inr ⟨_, jw1_e, (show upd (T 54) j 1 j = 1 from if_pos rfl), tI_q d3⟩
          · rcases hA.2.1 j hj with ⟨e1, e2⟩ | ⟨z, e1, e2, e3⟩
            · exact Or.inl ⟨by rw [jw1_n e]; exact e1, (show upd (T 54) k 1 j = 0 from (if_neg e).trans e2)⟩
            · exact Or.inr ⟨z, by rw [jw1_n e]; exact e1, (show upd (T 54) k 1 j = 1 from (if_neg e).trans e2), tI_q (d4 _ _ (by omega) e3)⟩
  · obtain ⟨h1, h2, h3⟩ := x_out3 hout
    refine jGen_of hA ⟨_, _, _, _, _, _, _, hX_imagea l G D cI cB cZ cS cC cJ x1 h1, hR_image l G D cI cB cZ cS cC cJ x1 (rI_out h2), ?_, (kp_s (kp_s (kp_s (kp_s (kp_s (kp_s (kp_s (kp_s (kp_s (kp_s (kp_s (kp_s (kp_s (kp_s (kp_s (kp_s (kp_s (kp_s (kp_s (kp_s (kp_s (kp_s (kp_s (kp_t (Nat.le_of_ble_eq_true rfl) (kp_s (kp_s (kp_s (kp_s (kp_s (kp_s (kp_s kp_0 (fun _ _ => rfl)) (fun _ _ => rfl)) (fun _ _ => rfl)) (fun _ _ => rfl)) (fun _ _ => rfl)) (fun _ _ => rfl)) (fun _ _ => rfl))) (fun _ _ => rfl)) (fun _ _ => rfl)) (fun _ _ => rfl)) (fun _ _ => rfl)) (fun _ _ => rfl)) (fun _ _ => rfl)) (fun _ _ => rfl)) (fun _ _ => rfl)) (fun _ _ => rfl)) (fun _ _ => rfl)) (fun _ _ => rfl)) (fun _ _ => rfl)) (fun _ _ => rfl)) (fun _ _ => rfl)) (fun _ _ => rfl)) (fun _ _ => rfl)) (fun _ _ => rfl)) (fun _ _ => rfl)) (fun _ _ => rfl)) (fun _ _ => rfl)) (fun _ _ => rfl)) (fun _ _ => rfl)) (fun _ _ => rfl)), rfl⟩
    obtain ⟨tl, n, lc, wc, c, w, t, d, W, C, V, U, lt, ws, la, lb, wl, e_tl, e_n, e_lc, e_wc, e_c, e_w, e_t, e_d, hTp, hF, hFp, hXw, hRw, hLw, hWd, hPL, hSN, hKN, hTN⟩ := hA.1
    exact ⟨tl, n, lc, wc, c, w, t, d, W, C, V, U, lt, ws, la, lb, wl, e_tl, e_n, e_lc, e_wc, e_c, e_w, e_t, e_d, hTp, hF, hFp, hXw, hRw, hLw, hWd, hPL, hSN, hKN, hTN⟩
set_option maxRecDepth 20000 in
set_option maxHeartbeats 1000000 in
theorem st_again {l : Launch} {G : jGt} {D : va_G} {cI cB cZ cS cC cJ : ClassId} {h : Nat → Nat} {rf : Nat} {aX : Nat → Nat} {v : Value} {I : Nat → Option zIm} {Cn : Nat → Option zCn} {X : Nat → Int32} {Y : Nat → Nat → Int32} {N : Nat → Int32} {w0 : Int64} {T : Nat → Nat → Int32} (x1 : Int32) (hA : qAll I Cn X Y T) : jGen l G D cI cB cZ cS cC cJ yX11_again cX11_again 2 (some .boolean) yX12_again cX12_again 2 (some .boolean) [.int x1] h rf aX v I Cn X Y N w0 T := by
  rcases qn_inout x1 3 with ⟨k, hk, -, rfl⟩ | hout
  · have c0 : ¬ nI k < 0 := nI_pos (by omega)
    have c1 : ¬ 3 ≤ nI k := nI_ge (b := 3) hk (by omega)
    have c2 : (nI k).toNatClampNeg = k := nI_clamp (by omega)
    have c3 : (nI k).toNatClampNeg < 3 := by rw [c2]; exact hk
    rcases hA.2.1 k hk with ⟨i1, i2⟩ | ⟨⟨b, qt, y⟩, i1, i2, i3⟩
    · have hfi : fO I (nI k).toNatClampNeg = none := by rw [c2]; unfold fO; rw [i1]; rfl
      refine jGen_of hA ⟨_, _, _, _, _, _, _, hX_againa l G D cI cB cZ cS cC cJ (nI k) (fun _ _ => ⟨vp_in_nI hk (by omega), hfi⟩), hR_again l G D cI cB cZ cS cC cJ (nI k) (rA_no hk i2), ?_, (kp_s (kp_s (kp_s (kp_s (kp_s (kp_s (kp_s (kp_s (kp_s (kp_s (kp_s (kp_s (kp_s (kp_s (kp_s (kp_s (kp_s (kp_s (kp_s (kp_s (kp_s (kp_s (kp_s (kp_s (kp_s (kp_s (kp_s (kp_s (kp_s (kp_s kp_0 (fun _ _ => rfl)) (fun _ _ => rfl)) (fun _ _ => rfl)) (fun _ _ => rfl)) (fun _ _ => rfl)) (fun _ _ => rfl)) (fun _ _ => rfl)) (fun _ _ => rfl)) (fun _ _ => rfl)) (fun _ _ => rfl)) (fun _ _ => rfl)) (fun _ _ => rfl)) (fun _ _ => rfl)) (fun _ _ => rfl)) (fun _ _ => rfl)) (fun _ _ => rfl)) (fun _ _ => rfl)) (fun _ _ => rfl)) (fun _ _ => rfl)) (fun _ _ => rfl)) (fun _ _ => rfl)) (fun _ _ => rfl)) (fun _ _ => rfl)) (fun _ _ => rfl)) (fun _ _ => rfl)) (fun _ _ => rfl)) (fun _ _ => rfl)) (fun _ _ => rfl)) (fun _ _ => rfl)) (fun _ _ => rfl)), rfl⟩
      obtain ⟨tl, n, lc, wc, c, w, t, d, W, C, V, U, lt, ws, la, lb, wl, e_tl, e_n, e_lc, e_wc, e_c, e_w, e_t, e_d, hTp, hF, hFp, hXw, hRw, hLw, hWd, hPL, hSN, hKN, hTN⟩ := hA.1
      exact ⟨tl, n, lc, wc, c, w, t, d, W, C, V, U, lt, ws, la, lb, wl, e_tl, e_n, e_lc, e_wc, e_c, e_w, e_t, e_d, hTp, hF, hFp, hXw, hRw, hLw, hWd, hPL, hSN, hKN, hTN⟩
    · obtain ⟨o, R1, d1, d2, d3, d4⟩ := v_copy (a := k + 1) (b := 0) (y := vN X Y) (by omega) (by omega) (by omega) i3
      refine ⟨1, _, _, _, ?_, hR_again l G D cI cB cZ cS cC cJ (nI k) (rA_in hk i2 d2)⟩
      have hfi : fO I (nI k).toNatClampNeg = some b := by rw [c2]; unfold fO; rw [i1]; rfl
      refine ⟨_, wBl ([0, 1, 2].erase k) (fun j => wI1 cI cB (I j)) ++ (wCn cI Cn ++ rsA.map (hC cI cB cZ cS cC cJ h v (fO I) (fO Cn) X Y)), _, rX11_again, fun _ h => h, ?_, Nat.le_of_ble_eq_true rfl, Nat.le_of_ble_eq_true rfl, Or.inl ⟨_, rfl, rfl, c_X11_againb l G D cI cB cZ cS cC cJ (h 0) (h 1) (h 25) (h 51) (.ref (h 26)) (.ref (h 37)) (.ref (h 59)) (fO I) (.ref (h 52)) (.ref (h 53)) (X 27) (.ref (h 54)) (.ref (h 55)) (.ref (h 56)) (.ref (h 57)) (.ref (h 58)) (X 24) (X 25) (X 26) (nI k) b (fun k => h (2 + k)) qt (zOf (vN X Y)) (zOf y) c0 c1 c3 hfi d1, ?_⟩⟩
      · have g := j_shufA (C := wCn cI Cn) (wIm_q (cI := cI) (cB := cB) (I := I) hk) (hp_A cI cB cZ cS cC cJ h v (fO I) (fO Cn) X Y)
        rw [i1] at g
        simpa only [wAl, wI1, List.append_assoc] using g
      · refine ⟨v, I, Cn, xO X o, yO Y o, ?_, qIv_new hA.1 (tA_q d3), fun j hj => ?_, hA.2.2⟩
        · have g := j_shufA (C := wCn cI Cn) (wIm_q (cI := cI) (cB := cB) (I := I) hk) (hp_A cI cB cZ cS cC cJ h v (fO I) (fO Cn) (xO X o) (yO Y o))
          rw [i1] at g
          refine List.Perm.trans ?_ g.symm
          have e : (rsA.map (hC cI cB cZ cS cC cJ h v (fO I) (fO Cn) (xO X o) (yO Y o))) = rsA.map (hC cI cB cZ cS cC cJ h v (fO I) (fO Cn) X Y) := rfl
          rw [e]
          simp only [wI1, List.append_assoc]
          exact List.Perm.refl _
        · rcases hA.2.1 j hj with ⟨e1, e2⟩ | ⟨z, e1, e2, e3⟩
          · exact Or.inl ⟨e1, e2⟩
          · exact Or.inr ⟨z, e1, e2, tA_q (d4 _ _ (by omega) e3)⟩
  · obtain ⟨h1, h2, h3⟩ := x_out3 hout
    refine jGen_of hA ⟨_, _, _, _, _, _, _, hX_againa l G D cI cB cZ cS cC cJ x1 (fun a b => (h3.elim a b).elim), hR_again l G D cI cB cZ cS cC cJ x1 (rA_out h2), ?_, (kp_s (kp_s (kp_s (kp_s (kp_s (kp_s (kp_s (kp_s (kp_s (kp_s (kp_s (kp_s (kp_s (kp_s (kp_s (kp_s (kp_s (kp_s (kp_s (kp_s (kp_s (kp_s (kp_s (kp_s (kp_s (kp_s (kp_s (kp_s (kp_s (kp_s kp_0 (fun _ _ => rfl)) (fun _ _ => rfl)) (fun _ _ => rfl)) (fun _ _ => rfl)) (fun _ _ => rfl)) (fun _ _ => rfl)) (fun _ _ => rfl)) (fun _ _ => rfl)) (fun _ _ => rfl)) (fun _ _ => rfl)) (fun _ _ => rfl)) (fun _ _ => rfl)) (fun _ _ => rfl)) (fun _ _ => rfl)) (fun _ _ => rfl)) (fun _ _ => rfl)) (fun _ _ => rfl)) (fun _ _ => rfl)) (fun _ _ => rfl)) (fun _ _ => rfl)) (fun _ _ => rfl)) (fun _ _ => rfl)) (fun _ _ => rfl)) (fun _ _ => rfl)) (fun _ _ => rfl)) (fun _ _ => rfl)) (fun _ _ => rfl)) (fun _ _ => rfl)) (fun _ _ => rfl)) (fun _ _ => rfl)), rfl⟩
    obtain ⟨tl, n, lc, wc, c, w, t, d, W, C, V, U, lt, ws, la, lb, wl, e_tl, e_n, e_lc, e_wc, e_c, e_w, e_t, e_d, hTp, hF, hFp, hXw, hRw, hLw, hWd, hPL, hSN, hKN, hTN⟩ := hA.1
    exact ⟨tl, n, lc, wc, c, w, t, d, W, C, V, U, lt, ws, la, lb, wl, e_tl, e_n, e_lc, e_wc, e_c, e_w, e_t, e_d, hTp, hF, hFp, hXw, hRw, hLw, hWd, hPL, hSN, hKN, hTN⟩

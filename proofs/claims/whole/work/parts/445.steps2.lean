/-! calls that tell -/
theorem fd4_a {f g : Nat → Int32} {n : Nat} {x : Int32} (h : ∀ i, i < n → f i = g i) : ∀ i, i < n + 4 → fd4 f n x i = fd4 g n x i := by
  intro i hi
  unfold fd4 upd
  by_cases h3 : i = n + 3
  · rw [if_pos h3, if_pos h3]
  rw [if_neg h3, if_neg h3]
  by_cases h2 : i = n + 2
  · rw [if_pos h2, if_pos h2]
  rw [if_neg h2, if_neg h2]
  by_cases h1 : i = n + 1
  · rw [if_pos h1, if_pos h1]
  rw [if_neg h1, if_neg h1]
  by_cases h0 : i = n
  · rw [if_pos h0, if_pos h0]
  rw [if_neg h0, if_neg h0]
  exact h i (by omega)
theorem fdb_b (x k : Int32) : (fdb x k).toInt8.toInt32 = fdb x k := by
  unfold fdb
  simp
theorem fd4_b {f : Nat → Int32} {n : Nat} {x : Int32} (h : ∀ i, i < 400 → (f i).toInt8.toInt32 = f i) : ∀ i, i < 400 → (fd4 f n x i).toInt8.toInt32 = fd4 f n x i := by
  intro i hi
  unfold fd4 upd
  by_cases h3 : i = n + 3
  · rw [if_pos h3]; exact fdb_b _ _
  rw [if_neg h3]
  by_cases h2 : i = n + 2
  · rw [if_pos h2]; exact fdb_b _ _
  rw [if_neg h2]
  by_cases h1 : i = n + 1
  · rw [if_pos h1]; exact fdb_b _ _
  rw [if_neg h1]
  by_cases h0 : i = n
  · rw [if_pos h0]; exact fdb_b _ _
  rw [if_neg h0]
  exact h i hi
theorem fd4_o {f : Nat → Int32} {n i : Nat} {x : Int32} (h : n + 4 ≤ i) : fd4 f n x i = f i := by
  unfold fd4 upd
  rw [if_neg (by omega), if_neg (by omega), if_neg (by omega), if_neg (by omega)]
theorem fd20_o {f : Nat → Int32} {n i : Nat} {a b c d e : Int32} (h : n + 20 ≤ i) : fd20 f n a b c d e i = f i := by
  unfold fd20
  rw [fd4_o (by omega), fd4_o (by omega), fd4_o (by omega), fd4_o (by omega), fd4_o (by omega)]
theorem qTp_feed {n : Nat} {xb Rs Rt Rs' : Nat → Int32} {a b c d e : Int32} (h : qTp 0 n xb Rs Rt) (hn : n + 20 ≤ 400) (hs : Rs' 0 = nI (n + 20)) : qTp 0 (n + 20) (fd20 xb n a b c d e) Rs' (fd20 Rt n a b c d e) := by
  obtain ⟨h1, h2, h3, h4⟩ := h
  refine ⟨hn, hs, fd4_b (fd4_b (fd4_b (fd4_b (fd4_b h3)))), fun i hi => ?_⟩
  rw [show 400 * 0 + i = i by omega]
  have h4' : ∀ i, i < n → Rt i = xb i := fun i hi => by have := h4 i hi; rwa [show 400 * 0 + i = i by omega] at this
  exact fd4_a (fd4_a (fd4_a (fd4_a (fd4_a h4')))) i (by omega)
set_option maxRecDepth 20000 in
set_option maxHeartbeats 1000000 in
theorem st_day {l : Launch} {G : jGt} {D : va_G} {cI cB cZ cS cC cJ : ClassId} {h : Nat → Nat} {rf : Nat} {aX : Nat → Nat} {v : Value} {f g : Nat → Option Nat} {X : Nat → Int32} {Y : Nat → Nat → Int32} {N : Nat → Int32} {w0 : Int64} {T : Nat → Nat → Int32} (x1 : Int32) (hI : qIv X Y T) : jPl l G D cI cB cZ cS cC cJ yX11_day cX11_day 2 (some .boolean) yX12_day cX12_day 2 (some .boolean) [.int x1] h rf aX v f g X Y N w0 T := by
  obtain ⟨tl, n, lc, wc, c, w, t, d, W, C, V, U, lt, ws, la, lb, wl, e_tl, e_n, e_lc, e_wc, e_c, e_w, e_t, e_d, hTp, hF, hFp, hXw, hRw, hLw, hWd, hPL, hSN, hKN, hTN⟩ := hI
  obtain ⟨r, d', Rd', p0, p1, p2, p3⟩ := q_dayL (c := c) (w := w) (t := t) (d := d) (sn := X 3) (code := N 0) (sx := Y 8) (mo := Y 6) (fa := Y 4) (pd := Y 7) (man := Y 5) (wom := Y 13) (wd := Y 12) (te := Y 9) (tk := Y 11) (td := Y 10) (R_persons := T 15) (R_weddings := T 16) (R_tellings := T 17) (R_days := T 18) (R_viewed := T 19) (Rsx := T 20) (Rmo := T 21) (Rfa := T 22) (Rpd := T 23) (Rhu := T 24) (Rwi := T 25) (Rwd := T 26) (Rtp := T 27) (Rtc := T 28) (Rtd := T 29) hPL x1
  have hx2 : f_X11_day (X 5) x1 = some (r, nI d') := by
    rw [e_d]
    exact p0
  refine ⟨_, _, _, _, _, _, _, hX_day l G D cI cB cZ cS cC cJ x1 hx2, hR_day l G D cI cB cZ cS cC cJ x1 (show f_X12_day (N 0) (4, T 18) x1 = some (r, nI 0, (4, Rd')) from p1), ?_, (kp_s kp_0 (fun i hi => p3 i hi)), rfl⟩
  exact ⟨tl, n, lc, wc, c, w, t, d', W, C, V, U, lt, ws, la, lb, wl, e_tl, e_n, e_lc, e_wc, e_c, e_w, e_t, rfl, hTp, hF, hFp, hXw, hRw, hLw, hWd, p2, hSN, hKN, hTN⟩
set_option maxRecDepth 20000 in
set_option maxHeartbeats 1000000 in
theorem st_view {l : Launch} {G : jGt} {D : va_G} {cI cB cZ cS cC cJ : ClassId} {h : Nat → Nat} {rf : Nat} {aX : Nat → Nat} {v : Value} {f g : Nat → Option Nat} {X : Nat → Int32} {Y : Nat → Nat → Int32} {N : Nat → Int32} {w0 : Int64} {T : Nat → Nat → Int32} (x1 : Int32) (hI : qIv X Y T) : jPl l G D cI cB cZ cS cC cJ yX11_view cX11_view 2 (some .boolean) yX12_view cX12_view 2 (some .boolean) [.int x1] h rf aX v f g X Y N w0 T := by
  obtain ⟨tl, n, lc, wc, c, w, t, d, W, C, V, U, lt, ws, la, lb, wl, e_tl, e_n, e_lc, e_wc, e_c, e_w, e_t, e_d, hTp, hF, hFp, hXw, hRw, hLw, hWd, hPL, hSN, hKN, hTN⟩ := hI
  obtain ⟨r, sn', Rv', p0, p1, p2, p3⟩ := q_viewL (c := c) (w := w) (t := t) (d := d) (sn := X 3) (kn := X 26) (code := N 0) (sx := Y 8) (mo := Y 6) (fa := Y 4) (pd := Y 7) (man := Y 5) (wom := Y 13) (wd := Y 12) (te := Y 9) (tk := Y 11) (td := Y 10) (R_persons := T 15) (R_weddings := T 16) (R_tellings := T 17) (R_days := T 18) (R_viewed := T 19) (Rsx := T 20) (Rmo := T 21) (Rfa := T 22) (Rpd := T 23) (Rhu := T 24) (Rwi := T 25) (Rwd := T 26) (Rtp := T 27) (Rtc := T 28) (Rtd := T 29) hPL x1
  have hx2 : f_X11_view (X 5) (X 26) (X 3) x1 = some (r, nI 0, sn') := by
    rw [e_d]
    exact p0
  refine ⟨_, _, _, _, _, _, _, hX_view l G D cI cB cZ cS cC cJ x1 hx2, hR_view l G D cI cB cZ cS cC cJ x1 (show f_X12_view (4, T 18) (N 0) (4, T 19) x1 = some (r, nI 0, (4, Rv')) from p1), ?_, (kp_s kp_0 (fun i hi => p3 i hi)), rfl⟩
  exact ⟨tl, n, lc, wc, c, w, t, d, W, C, V, U, lt, ws, la, lb, wl, e_tl, e_n, e_lc, e_wc, e_c, e_w, e_t, e_d, hTp, hF, hFp, hXw, hRw, hLw, hWd, p2, hSN, Or.inl rfl, hTN⟩
set_option maxRecDepth 20000 in
set_option maxHeartbeats 1000000 in
theorem st_wed {l : Launch} {G : jGt} {D : va_G} {cI cB cZ cS cC cJ : ClassId} {h : Nat → Nat} {rf : Nat} {aX : Nat → Nat} {v : Value} {f g : Nat → Option Nat} {X : Nat → Int32} {Y : Nat → Nat → Int32} {N : Nat → Int32} {w0 : Int64} {T : Nat → Nat → Int32} (x1 x2 : Int32) (hI : qIv X Y T) : jPl l G D cI cB cZ cS cC cJ yX11_wed cX11_wed 3 (some .int) yX12_wed cX12_wed 4 (some .int) [.int x1, .int x2] h rf aX v f g X Y N w0 T := by
  obtain ⟨tl, n, lc, wc, c, w, t, d, W, C, V, U, lt, ws, la, lb, wl, e_tl, e_n, e_lc, e_wc, e_c, e_w, e_t, e_d, hTp, hF, hFp, hXw, hRw, hLw, hWd, hPL, hSN, hKN, hTN⟩ := hI
  obtain ⟨r, w', man', wom', wd', Rws', Rhu', Rwi', Rwd', p0, p1, p2, p3, p4⟩ := q_wedL (c := c) (w := w) (t := t) (d := d) (sn := X 3) (kn := X 26) (code := N 0) (sx := Y 8) (mo := Y 6) (fa := Y 4) (pd := Y 7) (man := Y 5) (wom := Y 13) (wd := Y 12) (te := Y 9) (tk := Y 11) (td := Y 10) (R_persons := T 15) (R_weddings := T 16) (R_tellings := T 17) (R_days := T 18) (R_viewed := T 19) (Rsx := T 20) (Rmo := T 21) (Rfa := T 22) (Rpd := T 23) (Rhu := T 24) (Rwi := T 25) (Rwd := T 26) (Rtp := T 27) (Rtc := T 28) (Rtd := T 29) hPL x1 x2
  have hx2 : f_X11_wed (X 2) (X 5) (24, Y 8) (X 26) (X 6) (24, Y 5) (24, Y 12) (24, Y 13) x1 x2 = some (r, nI 0, nI w', (24, man'), (24, wd'), (24, wom')) := by
    rw [e_c, e_w, e_d]
    exact p0
  refine ⟨_, _, _, _, _, _, _, hX_wed l G D cI cB cZ cS cC cJ x1 x2 hx2, hR_wed l G D cI cB cZ cS cC cJ x1 x2 (show f_X12_wed (4, T 18) (4, T 15) (96, T 20) (N 0) (96, T 24) (96, T 26) (4, T 16) (96, T 25) x1 x2 = some (r, nI 0, (96, Rhu'), (96, Rwd'), (4, Rws'), (96, Rwi')) from p1), ?_, (kp_s (kp_s (kp_s (kp_s kp_0 (fun i hi => (p3 i hi).1)) (fun i hi => (p3 i hi).2.2)) (fun i hi => p4 i hi)) (fun i hi => (p3 i hi).2.1)), rfl⟩
  exact ⟨tl, n, lc, wc, c, w', t, d, W, C, V, U, lt, ws, la, lb, wl, e_tl, e_n, e_lc, e_wc, e_c, rfl, e_t, e_d, hTp, hF, hFp, hXw, hRw, hLw, hWd, p2, hSN, Or.inl rfl, hTN⟩
set_option maxRecDepth 20000 in
set_option maxHeartbeats 1000000 in
theorem st_tell {l : Launch} {G : jGt} {D : va_G} {cI cB cZ cS cC cJ : ClassId} {h : Nat → Nat} {rf : Nat} {aX : Nat → Nat} {v : Value} {f g : Nat → Option Nat} {X : Nat → Int32} {Y : Nat → Nat → Int32} {N : Nat → Int32} {w0 : Int64} {T : Nat → Nat → Int32} (x1 x2 : Int32) (hI : qIv X Y T) : jPl l G D cI cB cZ cS cC cJ yX11_tell cX11_tell 3 (some .int) yX12_tell cX12_tell 4 (some .int) [.int x1, .int x2] h rf aX v f g X Y N w0 T := by
  obtain ⟨tl, n, lc, wc, c, w, t, d, W, C, V, U, lt, ws, la, lb, wl, e_tl, e_n, e_lc, e_wc, e_c, e_w, e_t, e_d, hTp, hF, hFp, hXw, hRw, hLw, hWd, hPL, hSN, hKN, hTN⟩ := hI
  obtain ⟨r, t', te', tk', td', Rts', Rtp', Rtc', Rtd', p0, p1, p2, p3, p4⟩ := q_tellL (c := c) (w := w) (t := t) (d := d) (sn := X 3) (kn := X 26) (code := N 0) (sx := Y 8) (mo := Y 6) (fa := Y 4) (pd := Y 7) (man := Y 5) (wom := Y 13) (wd := Y 12) (te := Y 9) (tk := Y 11) (td := Y 10) (R_persons := T 15) (R_weddings := T 16) (R_tellings := T 17) (R_days := T 18) (R_viewed := T 19) (Rsx := T 20) (Rmo := T 21) (Rfa := T 22) (Rpd := T 23) (Rhu := T 24) (Rwi := T 25) (Rwd := T 26) (Rtp := T 27) (Rtc := T 28) (Rtd := T 29) hPL x1 x2
  have hx2 : f_X11_tell (X 2) (X 5) (X 26) (X 4) (60, Y 9) (60, Y 10) (60, Y 11) x1 x2 = some (r, nI 0, nI t', (60, te'), (60, td'), (60, tk')) := by
    rw [e_c, e_t, e_d]
    exact p0
  refine ⟨_, _, _, _, _, _, _, hX_tell l G D cI cB cZ cS cC cJ x1 x2 hx2, hR_tell l G D cI cB cZ cS cC cJ x1 x2 (show f_X12_tell (4, T 18) (4, T 15) (N 0) (4, T 17) (240, T 28) (240, T 29) (240, T 27) x1 x2 = some (r, nI 0, (4, Rts'), (240, Rtc'), (240, Rtd'), (240, Rtp')) from p1), ?_, (kp_s (kp_s (kp_s (kp_s kp_0 (fun i hi => p4 i hi)) (fun i hi => (p3 i hi).2.1)) (fun i hi => (p3 i hi).2.2)) (fun i hi => (p3 i hi).1)), rfl⟩
  exact ⟨tl, n, lc, wc, c, w, t', d, W, C, V, U, lt, ws, la, lb, wl, e_tl, e_n, e_lc, e_wc, e_c, e_w, rfl, e_d, hTp, hF, hFp, hXw, hRw, hLw, hWd, p2, hSN, Or.inl rfl, hTN⟩
set_option maxRecDepth 20000 in
set_option maxHeartbeats 1000000 in
theorem st_person {l : Launch} {G : jGt} {D : va_G} {cI cB cZ cS cC cJ : ClassId} {h : Nat → Nat} {rf : Nat} {aX : Nat → Nat} {v : Value} {f g : Nat → Option Nat} {X : Nat → Int32} {Y : Nat → Nat → Int32} {N : Nat → Int32} {w0 : Int64} {T : Nat → Nat → Int32} (x1 : Int32) (hI : qIv X Y T) : jPl l G D cI cB cZ cS cC cJ yX11_person cX11_person 2 (some .int) yX12_person cX12_person 3 (some .int) [.int x1] h rf aX v f g X Y N w0 T := by
  obtain ⟨tl, n, lc, wc, c, w, t, d, W, C, V, U, lt, ws, la, lb, wl, e_tl, e_n, e_lc, e_wc, e_c, e_w, e_t, e_d, hTp, hF, hFp, hXw, hRw, hLw, hWd, hPL, hSN, hKN, hTN⟩ := hI
  obtain ⟨r, c', sx', mo', fa', pd', Rps', Rsx', Rmo', Rfa', Rpd', p0, p1, p2, p3, p4⟩ := q_person (c := c) (w := w) (t := t) (d := d) (sn := X 3) (kn := X 26) (code := N 0) (sx := Y 8) (mo := Y 6) (fa := Y 4) (pd := Y 7) (man := Y 5) (wom := Y 13) (wd := Y 12) (te := Y 9) (tk := Y 11) (td := Y 10) (R_persons := T 15) (R_weddings := T 16) (R_tellings := T 17) (R_days := T 18) (R_viewed := T 19) (Rsx := T 20) (Rmo := T 21) (Rfa := T 22) (Rpd := T 23) (Rhu := T 24) (Rwi := T 25) (Rwd := T 26) (Rtp := T 27) (Rtc := T 28) (Rtd := T 29) hPL x1
  have hx2 : f_X11_person (X 26) (X 2) (24, Y 4) (24, Y 6) (24, Y 7) (24, Y 8) x1 = some (r, nI 0, nI c', (24, fa'), (24, mo'), (24, pd'), (24, sx')) := by
    rw [e_c]
    exact p0
  refine ⟨_, _, _, _, _, _, _, hX_person l G D cI cB cZ cS cC cJ x1 hx2, hR_person l G D cI cB cZ cS cC cJ x1 (show f_X12_person (N 0) (96, T 22) (96, T 21) (96, T 23) (4, T 15) (96, T 20) x1 = some (r, nI 0, (96, Rfa'), (96, Rmo'), (96, Rpd'), (4, Rps'), (96, Rsx')) from p1), ?_, (kp_s (kp_s (kp_s (kp_s (kp_s kp_0 (fun i hi => (p3 i hi).2.1)) (fun i hi => (p3 i hi).1)) (fun i hi => (p3 i hi).2.2.1)) (fun i hi => p4 i hi)) (fun i hi => (p3 i hi).2.2.2)), rfl⟩
  exact ⟨tl, n, lc, wc, c', w, t, d, W, C, V, U, lt, ws, la, lb, wl, e_tl, e_n, e_lc, e_wc, rfl, e_w, e_t, e_d, hTp, hF, hFp, hXw, hRw, hLw, hWd, p2, hSN, Or.inl rfl, hTN⟩
set_option maxRecDepth 20000 in
set_option maxHeartbeats 1000000 in
theorem st_parents {l : Launch} {G : jGt} {D : va_G} {cI cB cZ cS cC cJ : ClassId} {h : Nat → Nat} {rf : Nat} {aX : Nat → Nat} {v : Value} {f g : Nat → Option Nat} {X : Nat → Int32} {Y : Nat → Nat → Int32} {N : Nat → Int32} {w0 : Int64} {T : Nat → Nat → Int32} (x1 x2 x3 : Int32) (hI : qIv X Y T) : jPl l G D cI cB cZ cS cC cJ yX11_parents cX11_parents 4 (some .boolean) yX12_parents cX12_parents 6 (some .boolean) [.int x1, .int x2, .int x3] h rf aX v f g X Y N w0 T := by
  obtain ⟨tl, n, lc, wc, c, w, t, d, W, C, V, U, lt, ws, la, lb, wl, e_tl, e_n, e_lc, e_wc, e_c, e_w, e_t, e_d, hTp, hF, hFp, hXw, hRw, hLw, hWd, hPL, hSN, hKN, hTN⟩ := hI
  obtain ⟨r, mo', fa', pd', Rmo', Rfa', Rpd', p0, p1, p2, p3⟩ := q_parents (c := c) (w := w) (t := t) (d := d) (sn := X 3) (kn := X 26) (code := N 0) (sx := Y 8) (mo := Y 6) (fa := Y 4) (pd := Y 7) (man := Y 5) (wom := Y 13) (wd := Y 12) (te := Y 9) (tk := Y 11) (td := Y 10) (R_persons := T 15) (R_weddings := T 16) (R_tellings := T 17) (R_days := T 18) (R_viewed := T 19) (Rsx := T 20) (Rmo := T 21) (Rfa := T 22) (Rpd := T 23) (Rhu := T 24) (Rwi := T 25) (Rwd := T 26) (Rtp := T 27) (Rtc := T 28) (Rtd := T 29) hPL x1 x2 x3
  have hx2 : f_X11_parents (X 2) (X 5) (24, Y 8) (X 26) (24, Y 4) (24, Y 6) (24, Y 7) x1 x2 x3 = some (r, nI 0, (24, fa'), (24, mo'), (24, pd')) := by
    rw [e_c, e_d]
    exact p0
  refine ⟨_, _, _, _, _, _, _, hX_parents l G D cI cB cZ cS cC cJ x1 x2 x3 hx2, hR_parents l G D cI cB cZ cS cC cJ x1 x2 x3 (show f_X12_parents (4, T 18) (4, T 15) (96, T 20) (N 0) (96, T 22) (96, T 21) (96, T 23) x1 x2 x3 = some (r, nI 0, (96, Rfa'), (96, Rmo'), (96, Rpd')) from p1), ?_, (kp_s (kp_s (kp_s kp_0 (fun i hi => (p3 i hi).2.1)) (fun i hi => (p3 i hi).1)) (fun i hi => (p3 i hi).2.2)), rfl⟩
  exact ⟨tl, n, lc, wc, c, w, t, d, W, C, V, U, lt, ws, la, lb, wl, e_tl, e_n, e_lc, e_wc, e_c, e_w, e_t, e_d, hTp, hF, hFp, hXw, hRw, hLw, hWd, p2, hSN, Or.inl rfl, hTN⟩
set_option maxRecDepth 20000 in
set_option maxHeartbeats 1000000 in
theorem st_system {l : Launch} {G : jGt} {D : va_G} {cI cB cZ cS cC cJ : ClassId} {h : Nat → Nat} {rf : Nat} {aX : Nat → Nat} {v : Value} {f g : Nat → Option Nat} {X : Nat → Int32} {Y : Nat → Nat → Int32} {N : Nat → Int32} {w0 : Int64} {T : Nat → Nat → Int32} (hI : qIv X Y T) : jPl l G D cI cB cZ cS cC cJ yX11_system cX11_system 1 (some .int) yX12_system cX12_system 5 (some .int) [] h rf aX v f g X Y N w0 T := by
  obtain ⟨tl, n, lc, wc, c, w, t, d, W, C, V, U, lt, ws, la, lb, wl, e_tl, e_n, e_lc, e_wc, e_c, e_w, e_t, e_d, hTp, hF, hFp, hXw, hRw, hLw, hWd, hPL, hSN, hKN, hTN⟩ := hI
  obtain ⟨r, n', W', C', V', U', ks_known', xt_fault', xt_place', rd_after', rd_fault', rd_length', rd_place', rd_sort', rd_start', tw_size', xw_child', xw_father', xw_husband', xw_wife', tw_child', tw_father', tw_husband', tw_wife', R_ahead', R_begins', R_laterFault', R_laterPlace', R_length', R_letters', R_newClasses', R_sort', R_value', R_word', R_wrongAt', R_childRow', R_classes', R_fault', R_faultPlace', R_newChild', R_newWeds', R_size', R_wedsRow', p0, p1, p2, p3, p4, p5, p6, p7, p8, p9⟩ := q_system (xt_bytes := Y 14) (ks_known := X 26) (xt_fault := X 7) (tl := tl) (xt_place := X 9) (rd_after := X 12) (rd_fault := X 13) (rd_length := X 14) (rd_place := X 15) (rd_sort := X 16) (rd_start := X 17) (tw_size := X 18) (xw_child := Y 15) (xw_father := Y 16) (xw_husband := Y 17) (xw_wife := Y 18) (tw_child := Y 22) (tw_father := Y 23) (tw_husband := Y 24) (tw_wife := Y 25) (R_tape := T 1) (R_ahead := N 2) (R_begins := N 4) (R_code := N 0) (R_laterFault := N 9) (R_laterPlace := N 10) (R_length := N 3) (R_letters := N 7) (R_newClasses := N 11) (R_sort := N 5) (R_value := N 6) (R_word := w0) (R_wrongAt := N 8) (R_childRow := T 6) (R_classes := T 4) (R_fault := T 2) (R_faultPlace := T 3) (R_newChild := T 35) (R_newWeds := T 34) (R_size := T 0) (R_wedsRow := T 5) (n := n) (W := W) (C := C) (V := V) (U := U) hTp hXw hRw
  obtain ⟨W2, C2, V2, U2, g1, g2, g3, g4, g5, g6⟩ := nz_sys p5 p6
  have hK2 : qKN c w t n' (X 3) W2 C2 V2 (Y 6) (Y 4) (Y 7) (Y 5) (Y 13) (Y 12) (Y 9) (Y 11) (Y 10) ks_known' (X 24) (X 25) (Y 39) (Y 40) (Y 42) (Y 43) := by
    rcases p7 with e | ⟨e1, e2, e3, e4, e5⟩
    · exact Or.inl e
    · rw [e1, g4 (by rw [e2, e3]; exact hSN.2.1), g5 (by rw [e2, e4]; exact hSN.2.2.1), g6 (by rw [e2, e5]; exact hSN.2.2.2.1), e2, e3, e4, e5]
      exact hKN
  have hx2 : f_X11_system (400, Y 14) (X 26) (X 7) (X 8) (X 9) (X 10) (X 12) (X 13) (X 14) (X 15) (X 16) (X 17) (X 18) (8, Y 15) (8, Y 16) (8, Y 17) (8, Y 18) (8, Y 22) (8, Y 23) (8, Y 24) (8, Y 25) = some (r, ks_known', xt_fault', nI 0, xt_place', nI n', rd_after', rd_fault', rd_length', rd_place', rd_sort', rd_start', tw_size', (8, xw_child'), (8, xw_father'), (8, xw_husband'), (8, xw_wife'), (8, tw_child'), (8, tw_father'), (8, tw_husband'), (8, tw_wife')) := by
    rw [e_tl, e_n]
    exact p0
  refine ⟨_, _, _, _, _, _, _, hX_system l G D cI cB cZ cS cC cJ hx2, hR_system l G D cI cB cZ cS cC cJ (show f_X12_system (1600, T 1) (N 2) (N 4) (N 0) (N 9) (N 10) (N 3) (N 7) (N 11) (N 5) (N 6) w0 (N 8) (32, T 6) (4, T 4) (4, T 2) (4, T 3) (8, T 35) (8, T 34) (4, T 0) (32, T 5) = some (r, R_ahead', R_begins', nI 0, R_laterFault', R_laterPlace', R_length', R_letters', R_newClasses', R_sort', R_value', R_word', R_wrongAt', (32, R_childRow'), (4, R_classes'), (4, R_fault'), (4, R_faultPlace'), (8, R_newChild'), (8, R_newWeds'), (4, R_size'), (32, R_wedsRow')) from p1), ?_, (kp_s (kp_s (kp_t (Nat.le_of_ble_eq_true rfl) (kp_t (Nat.le_of_ble_eq_true rfl) (kp_s (kp_s (kp_s (kp_s kp_0 (fun i hi => (p9 i hi).2)) (fun i hi => (p8 i hi).2.2.2)) (fun i hi => (p8 i hi).1)) (fun i hi => (p8 i hi).2.1)))) (fun i hi => (p8 i hi).2.2.1)) (fun i hi => (p9 i hi).1)), rfl⟩
  exact ⟨0, n', lc, wc, c, w, t, d, W2, C2, V2, U2, lt, ws, la, lb, wl, rfl, rfl, e_lc, e_wc, e_c, e_w, e_t, e_d, ⟨Nat.zero_le _, p4, hTp.2.2.1, fun i hi => absurd hi (Nat.not_lt_zero i)⟩, p2, p3, g1, g2, hLw, hWd, hPL, g3, hK2, hTN⟩
set_option maxRecDepth 20000 in
set_option maxHeartbeats 1000000 in
theorem st_law {l : Launch} {G : jGt} {D : va_G} {cI cB cZ cS cC cJ : ClassId} {h : Nat → Nat} {rf : Nat} {aX : Nat → Nat} {v : Value} {f g : Nat → Option Nat} {X : Nat → Int32} {Y : Nat → Nat → Int32} {N : Nat → Int32} {w0 : Int64} {T : Nat → Nat → Int32} (hI : qIv X Y T) : jPl l G D cI cB cZ cS cC cJ yX11_law cX11_law 1 (some .int) yX12_law cX12_law 6 (some .int) [] h rf aX v f g X Y N w0 T := by
  obtain ⟨tl, n, lc, wc, c, w, t, d, W, C, V, U, lt, ws, la, lb, wl, e_tl, e_n, e_lc, e_wc, e_c, e_w, e_t, e_d, hTp, hF, hFp, hXw, hRw, hLw, hWd, hPL, hSN, hKN, hTN⟩ := hI
  obtain ⟨r, lc', lt', la', lb', xt_fault', xt_place', tl_count', rd_after', rd_fault', rd_length', rd_place', rd_sort', rd_start', xl_first', xl_second', xl_sort', tl_first', tl_second', tl_sort', R_ahead', R_begins', R_laterFault', R_laterPlace', R_length', R_letters', R_newLines', R_sort', R_value', R_word', R_wrongAt', R_fault', R_faultPlace', R_lineKind', R_lineLong', R_lineWord', R_lines', R_newKind', R_newLong', R_newWord', R_size', R_spelled', p0, p1, p2, p3, p4, p5, p6, p7, p8, p9⟩ := q_law (xt_bytes := Y 14) (lc := lc) (xt_fault := X 7) (tl := tl) (xt_place := X 9) (tl_count := X 11) (rd_after := X 12) (rd_fault := X 13) (rd_length := X 14) (rd_place := X 15) (rd_sort := X 16) (rd_start := X 17) (xl_first := Y 1) (xl_second := Y 2) (xl_sort := Y 3) (tl_first := Y 19) (tl_second := Y 20) (tl_sort := Y 21) (R_tape := T 1) (R_ahead := N 2) (R_begins := N 4) (R_code := N 0) (R_laterFault := N 9) (R_laterPlace := N 10) (R_length := N 3) (R_letters := N 7) (R_newLines := N 12) (R_sort := N 5) (R_value := N 6) (R_word := w0) (R_wrongAt := N 8) (R_fault := T 2) (R_faultPlace := T 3) (R_lineKind := T 8) (R_lineLong := T 9) (R_lineWord := T 10) (R_lines := T 7) (R_newKind := T 36) (R_newLong := T 37) (R_newWord := T 38) (R_size := T 0) (R_spelled := T 39) (lt := lt) (la := la) (lb := lb) hTp hLw
  have hx2 : f_X11_law (400, Y 14) (X 1) (X 7) (X 8) (X 9) (X 11) (X 12) (X 13) (X 14) (X 15) (X 16) (X 17) (16, Y 1) (16, Y 2) (16, Y 3) (16, Y 19) (16, Y 20) (16, Y 21) = some (r, nI lc', xt_fault', nI 0, xt_place', tl_count', rd_after', rd_fault', rd_length', rd_place', rd_sort', rd_start', (16, xl_first'), (16, xl_second'), (16, xl_sort'), (16, tl_first'), (16, tl_second'), (16, tl_sort')) := by
    rw [e_tl, e_lc]
    exact p0
  refine ⟨_, _, _, _, _, _, _, hX_law l G D cI cB cZ cS cC cJ hx2, hR_law l G D cI cB cZ cS cC cJ (show f_X12_law (1600, T 1) (N 2) (N 4) (N 0) (N 9) (N 10) (N 3) (N 7) (N 12) (N 5) (N 6) w0 (N 8) (4, T 2) (4, T 3) (64, T 8) (128, T 9) (1024, T 10) (4, T 7) (17, T 36) (34, T 37) (272, T 38) (4, T 0) (400, T 39) = some (r, R_ahead', R_begins', nI 0, R_laterFault', R_laterPlace', R_length', R_letters', R_newLines', R_sort', R_value', R_word', R_wrongAt', (4, R_fault'), (4, R_faultPlace'), (64, R_lineKind'), (128, R_lineLong'), (1024, R_lineWord'), (4, R_lines'), (17, R_newKind'), (34, R_newLong'), (272, R_newWord'), (4, R_size'), (400, R_spelled')) from p1), ?_, (kp_t (Nat.le_of_ble_eq_true rfl) (kp_s (kp_t (Nat.le_of_ble_eq_true rfl) (kp_t (Nat.le_of_ble_eq_true rfl) (kp_t (Nat.le_of_ble_eq_true rfl) (kp_s (kp_s (kp_s (kp_s (kp_s (kp_s kp_0 (fun i hi => (p6 i hi).1)) (fun i hi => (p6 i hi).2.1)) (fun i hi => (p7 i hi))) (fun i hi => (p8 i hi))) (fun i hi => (p9 i hi))) (fun i hi => (p6 i hi).2.2.2))))) (fun i hi => (p6 i hi).2.2.1))), rfl⟩
  exact ⟨0, n, lc', wc, c, w, t, d, W, C, V, U, lt', ws, la', lb', wl, rfl, e_n, rfl, e_wc, e_c, e_w, e_t, e_d, ⟨Nat.zero_le _, p4, hTp.2.2.1, fun i hi => absurd hi (Nat.not_lt_zero i)⟩, p2, p3, hXw, hRw, p5, hWd, hPL, hSN, hKN, hTN⟩
set_option maxRecDepth 20000 in
set_option maxHeartbeats 1000000 in
theorem st_word {l : Launch} {G : jGt} {D : va_G} {cI cB cZ cS cC cJ : ClassId} {h : Nat → Nat} {rf : Nat} {aX : Nat → Nat} {v : Value} {f g : Nat → Option Nat} {X : Nat → Int32} {Y : Nat → Nat → Int32} {N : Nat → Int32} {w0 : Int64} {T : Nat → Nat → Int32} (x1 : Int32) (hI : qIv X Y T) : jPl l G D cI cB cZ cS cC cJ yX11_word cX11_word 3 (some .int) yX12_word cX12_word 6 (some .int) [.int x1] h rf aX v f g X Y N w0 T := by
  obtain ⟨tl, n, lc, wc, c, w, t, d, W, C, V, U, lt, ws, la, lb, wl, e_tl, e_n, e_lc, e_wc, e_c, e_w, e_t, e_d, hTp, hF, hFp, hXw, hRw, hLw, hWd, hPL, hSN, hKN, hTN⟩ := hI
  obtain ⟨r, wc', F, P, x_words', a1, a2, a3, a4, a5, R_fault', R_faultPlace', R_size', R_spelled', R_wordLetter', R_wordLong', R_wordSex', R_words', ws', wl', p0, p1, p2, p3, p4, p5, p6, p7, p8⟩ := q_word (xt_bytes := Y 14) (wc := wc) (xt_fault := X 7) (tl := tl) (xt_place := X 9) (x_words := Y 0) (rd_after := X 12) (rd_fault := X 13) (rd_length := X 14) (rd_place := X 15) (rd_start := X 17) (R_tape := T 1) (R_code := N 0) (R_fault := T 2) (R_faultPlace := T 3) (R_size := T 0) (R_spelled := T 39) (R_wordLetter := T 14) (R_wordLong := T 13) (R_wordSex := T 12) (R_words := T 11) (ws := ws) (wl := wl) hTp hWd x1
  rcases p0 with p0 | p0
  · have hx2 : f_X11_worda (400, Y 14) (X 0) (X 7) (X 8) (X 9) (8, Y 0) (X 12) (X 13) (X 14) (X 15) (X 17) x1 = some (r, nI wc', F, nI 0, P, (8, x_words'), a1, a2, a3, a4, a5) := by
      rw [e_tl, e_wc]
      exact p0
    refine ⟨_, _, _, _, _, _, _, hX_worda l G D cI cB cZ cS cC cJ x1 hx2, hR_word l G D cI cB cZ cS cC cJ x1 (show f_X12_word (1600, T 1) (N 0) (4, T 2) (4, T 3) (4, T 0) (400, T 39) (256, T 14) (32, T 13) (32, T 12) (4, T 11) x1 = some (r, nI 0, (4, R_fault'), (4, R_faultPlace'), (4, R_size'), (400, R_spelled'), (256, R_wordLetter'), (32, R_wordLong'), (32, R_wordSex'), (4, R_words')) from p1), ?_, (kp_s (kp_s (kp_s (kp_s (kp_t (Nat.le_of_ble_eq_true rfl) (kp_s (kp_s (kp_s kp_0 (fun i hi => (p6 i hi).1)) (fun i hi => (p6 i hi).2.1)) (fun i hi => (p6 i hi).2.2.1))) (fun i hi => (p8 i hi))) (fun i hi => (p7 i hi).1)) (fun i hi => (p7 i hi).2)) (fun i hi => (p6 i hi).2.2.2)), rfl⟩
    exact ⟨0, n, lc, wc', c, w, t, d, W, C, V, U, lt, ws', la, lb, wl', rfl, e_n, e_lc, rfl, e_c, e_w, e_t, e_d, ⟨Nat.zero_le _, p4, hTp.2.2.1, fun i hi => absurd hi (Nat.not_lt_zero i)⟩, p2, p3, hXw, hRw, hLw, p5, hPL, hSN, hKN, hTN⟩
  · have hx2 : f_X11_word (400, Y 14) (X 0) (X 7) (X 8) (X 9) (8, Y 0) (X 12) (X 13) (X 14) (X 15) (X 17) x1 = some (r, nI wc', F, nI 0, P, (8, x_words'), a1, a2, a3, a4, a5) := by
      rw [e_tl, e_wc]
      exact p0
    refine ⟨_, _, _, _, _, _, _, hX_word l G D cI cB cZ cS cC cJ x1 hx2, hR_word l G D cI cB cZ cS cC cJ x1 (show f_X12_word (1600, T 1) (N 0) (4, T 2) (4, T 3) (4, T 0) (400, T 39) (256, T 14) (32, T 13) (32, T 12) (4, T 11) x1 = some (r, nI 0, (4, R_fault'), (4, R_faultPlace'), (4, R_size'), (400, R_spelled'), (256, R_wordLetter'), (32, R_wordLong'), (32, R_wordSex'), (4, R_words')) from p1), ?_, (kp_s (kp_s (kp_s (kp_s (kp_t (Nat.le_of_ble_eq_true rfl) (kp_s (kp_s (kp_s kp_0 (fun i hi => (p6 i hi).1)) (fun i hi => (p6 i hi).2.1)) (fun i hi => (p6 i hi).2.2.1))) (fun i hi => (p8 i hi))) (fun i hi => (p7 i hi).1)) (fun i hi => (p7 i hi).2)) (fun i hi => (p6 i hi).2.2.2)), rfl⟩
    exact ⟨0, n, lc, wc', c, w, t, d, W, C, V, U, lt, ws', la, lb, wl', rfl, e_n, e_lc, rfl, e_c, e_w, e_t, e_d, ⟨Nat.zero_le _, p4, hTp.2.2.1, fun i hi => absurd hi (Nat.not_lt_zero i)⟩, p2, p3, hXw, hRw, hLw, p5, hPL, hSN, hKN, hTN⟩
set_option maxRecDepth 20000 in
set_option maxHeartbeats 1000000 in
theorem st_feed {l : Launch} {G : jGt} {D : va_G} {cI cB cZ cS cC cJ : ClassId} {h : Nat → Nat} {rf : Nat} {aX : Nat → Nat} {v : Value} {f g : Nat → Option Nat} {X : Nat → Int32} {Y : Nat → Nat → Int32} {N : Nat → Int32} {w0 : Int64} {T : Nat → Nat → Int32} (x1 x2 x3 x4 x5 : Int32) (hI : qIv X Y T) : jPl l G D cI cB cZ cS cC cJ yX11_feed cX11_feed 6 (some .int) yX12_feed cX12_feed 6 (some .int) [.int x1, .int x2, .int x3, .int x4, .int x5] h rf aX v f g X Y N w0 T := by
  obtain ⟨tl, n, lc, wc, c, w, t, d, W, C, V, U, lt, ws, la, lb, wl, e_tl, e_n, e_lc, e_wc, e_c, e_w, e_t, e_d, hTp, hF, hFp, hXw, hRw, hLw, hWd, hPL, hSN, hKN, hTN⟩ := hI
  have h2 : T 0 0 = nI tl := hTp.2.1
  by_cases hn : tl + 20 ≤ 400
  · have hx2 : f_X11_feed (X 8) (400, Y 14) x1 x2 x3 x4 x5 = some (nI (tl + 20), nI (tl + 20), (400, fd20 (Y 14) tl x1 x2 x3 x4 x5)) := by rw [e_tl]; exact X11_feed_yes hn
    refine ⟨_, _, _, _, _, _, _, hX_feed l G D cI cB cZ cS cC cJ x1 x2 x3 x4 x5 hx2, hR_feed l G D cI cB cZ cS cC cJ x1 x2 x3 x4 x5 (X12_feed_yes (q := N 0) (sz := T 0) (g := T 1) hn h2), ?_, (kp_s (kp_s kp_0 (fun i hi => upd_o hi)) (fun i hi => fd20_o (by have : 400 ≤ i := hi; omega))), rfl⟩
    exact ⟨tl + 20, n, lc, wc, c, w, t, d, W, C, V, U, lt, ws, la, lb, wl, rfl, e_n, e_lc, e_wc, e_c, e_w, e_t, e_d, qTp_feed hTp hn (show upd (T 0) 0 (nI (tl + 20)) 0 = nI (tl + 20) from if_pos rfl), hF, hFp, hXw, hRw, hLw, hWd, hPL, hSN, hKN, hTN⟩
  · have hx2 : f_X11_feed (X 8) (400, Y 14) x1 x2 x3 x4 x5 = some (-1, nI tl, (400, Y 14)) := by rw [e_tl]; exact X11_feed_no hTp.1 hn
    refine ⟨_, _, _, _, _, _, _, hX_feed l G D cI cB cZ cS cC cJ x1 x2 x3 x4 x5 hx2, hR_feed l G D cI cB cZ cS cC cJ x1 x2 x3 x4 x5 (X12_feed_no (q := N 0) (sz := T 0) (g := T 1) hTp.1 hn h2), ?_, (kp_s (kp_s kp_0 (fun i hi => rfl)) (fun i hi => rfl)), rfl⟩
    exact ⟨tl, n, lc, wc, c, w, t, d, W, C, V, U, lt, ws, la, lb, wl, rfl, e_n, e_lc, e_wc, e_c, e_w, e_t, e_d, hTp, hF, hFp, hXw, hRw, hLw, hWd, hPL, hSN, hKN, hTN⟩
set_option maxRecDepth 20000 in
set_option maxHeartbeats 1000000 in
theorem st_end {l : Launch} {G : jGt} {D : va_G} {cI cB cZ cS cC cJ : ClassId} {h : Nat → Nat} {rf : Nat} {aX : Nat → Nat} {v : Value} {f g : Nat → Option Nat} {X : Nat → Int32} {Y : Nat → Nat → Int32} {N : Nat → Int32} {w0 : Int64} {T : Nat → Nat → Int32} (x1 : Int32) (hI : qIv X Y T) : jPl l G D cI cB cZ cS cC cJ yX11_end cX11_end 2 (some .int) yX12_end cX12_end 2 (some .int) [.int x1] h rf aX v f g X Y N w0 T := by
  obtain ⟨tl, n, lc, wc, c, w, t, d, W, C, V, U, lt, ws, la, lb, wl, e_tl, e_n, e_lc, e_wc, e_c, e_w, e_t, e_d, hTp, hF, hFp, hXw, hRw, hLw, hWd, hPL, hSN, hKN, hTN⟩ := hI
  have h2 : T 0 0 = nI tl := hTp.2.1
  have h4 := hTp.1
  by_cases hn : ¬ x1 < 0 ∧ x1 ≤ nI tl
  · obtain ⟨j, hj, rfl⟩ : ∃ j : Nat, j ≤ tl ∧ x1 = nI j := by
      rcases qn_inout x1 (tl + 1) with ⟨j, hj, -, e⟩ | hq | ⟨j, hj, hj2, e⟩
      · exact ⟨j, by omega, e⟩
      · exact absurd hq hn.1
      · have := (nI_leI (a := j) (b := tl) (by omega) (by omega)).mp (e ▸ hn.2)
        omega
    have hx2 : f_X11_end (X 8) (nI j) = some (nI j, nI j) := by rw [e_tl]; exact X11_end_yes hn.1 hn.2
    refine ⟨_, _, _, _, _, _, _, hX_end l G D cI cB cZ cS cC cJ (nI j) hx2, hR_end l G D cI cB cZ cS cC cJ (nI j) (X12_end_yes (q := N 0) (sz := T 0) h2 hn.1 hn.2), ?_, (kp_s kp_0 (fun i hi => upd_o hi)), rfl⟩
    exact ⟨j, n, lc, wc, c, w, t, d, W, C, V, U, lt, ws, la, lb, wl, rfl, e_n, e_lc, e_wc, e_c, e_w, e_t, e_d, ⟨by omega, (show upd (T 0) 0 (nI j) 0 = nI j from if_pos rfl), hTp.2.2.1, fun i hi => hTp.2.2.2 i (by omega)⟩, hF, hFp, hXw, hRw, hLw, hWd, hPL, hSN, hKN, hTN⟩
  · have hn2 : x1 < 0 ∨ ¬ x1 ≤ nI tl := by
      by_cases h0 : x1 < 0
      · exact Or.inl h0
      · exact Or.inr fun q => hn ⟨h0, q⟩
    have hx2 : f_X11_end (X 8) x1 = some (-1, nI tl) := by rw [e_tl]; exact X11_end_no hn2
    refine ⟨_, _, _, _, _, _, _, hX_end l G D cI cB cZ cS cC cJ x1 hx2, hR_end l G D cI cB cZ cS cC cJ x1 (X12_end_no (q := N 0) (sz := T 0) h2 hn2), ?_, (kp_s kp_0 (fun i hi => rfl)), rfl⟩
    exact ⟨tl, n, lc, wc, c, w, t, d, W, C, V, U, lt, ws, la, lb, wl, rfl, e_n, e_lc, e_wc, e_c, e_w, e_t, e_d, hTp, hF, hFp, hXw, hRw, hLw, hWd, hPL, hSN, hKN, hTN⟩

/-! pairs of calls -/
section PAIRS2
variable {E : PE} {d : Nat} {h : PH} {n x : Nat}
theorem q_battle {y v : Int32} (I : IV x h n) : pCall E M_X11_battle (d + 40) [.ref x, .int y, .int v] h n (LQ' [(xIO, 1), (xNE, 2)] (x + 329) (JQ E M_X12_battle (d + 41) x [.int y, .int v])) := by
  obtain ⟨L, f, K, sz, nx, im, wb, w, g, X, Y, R, hg⟩ := I
  have A := X.wa
  have AW := X.aw
  have B1 := A.b8
  have B2 := A.m10
  have B3 := A.s24
  have B4 := A.l60
  have B5 := X.l4
  have B6 := X.s12
  have ij := @nI_ij
  have m1 := @nI_m1
  refine c_X11_battle X (fun i k hi ei hk ek h1 X1 G1 => ⟨g, G1.out hg, 0, rfl, ⟨w, (Y.fc G1).out⟩, c_X12_battle (Y.fc G1).out R.1 A (fun i' k' hi' ei' hk' ek' h2 Y2 F2 => ?_) (fun c' h2 b Y2 F2 => ?_) (fun c' c2' h2 b Y2 F2 => ?_)⟩) (fun c n' hn => ⟨1, by simp, 1, rfl, ⟨w, Y⟩, c_X12_battle Y R.1 A (fun i' k' hi' ei' hk' ek' h2 Y2 F2 => ?_) (fun c' h2 b Y2 F2 => ?_) (fun c' c2' h2 b Y2 F2 => ?_)⟩) (fun c c2 n' hn => ⟨2, by simp, 2, rfl, ⟨w, Y⟩, c_X12_battle Y R.1 A (fun i' k' hi' ei' hk' ek' h2 Y2 F2 => ?_) (fun c' h2 b Y2 F2 => ?_) (fun c' c2' h2 b Y2 F2 => ?_)⟩)
  · obtain rfl := nI_uq (by omega) (by omega) ei ei'
    obtain rfl := nI_uq (by omega) (by omega) ek ek'
    exact fin0 X1 F2 Y2 R.thr rfl
  · exfalso
    grind [ix, rg]
  · exfalso
    grind [ix, rg]
  · exfalso
    grind [ix, rg]
  · exact fin1 (X.grow hn) hg F2 Y2 R.thr rfl (by decide)
  · exfalso
    grind [ix, rg]
  · exfalso
    grind [ix, rg]
  · exfalso
    grind [ix, rg]
  · exact fin1 (X.grow hn) hg F2 Y2 R.thr rfl (by decide)
theorem q_man {y v : Int32} (I : IV x h n) : pCall E M_X11_man (d + 40) [.ref x, .int y, .int v] h n (LQ' [(xIO, 1), (xNE, 2)] (x + 329) (JQ E M_X12_man (d + 41) x [.int y, .int v])) := by
  obtain ⟨L, f, K, sz, nx, im, wb, w, g, X, Y, R, hg⟩ := I
  have A := X.wa
  have AW := X.aw
  have B1 := A.b8
  have B2 := A.m10
  have B3 := A.s24
  have B4 := A.l60
  have B5 := X.l4
  have B6 := X.s12
  have ij := @nI_ij
  have m1 := @nI_m1
  refine c_X11_man X (fun i k hi ei hk ek h1 X1 G1 => ⟨g, G1.out hg, 0, rfl, ⟨w, (Y.fc G1).out⟩, c_X12_man (Y.fc G1).out R.1 A (fun i' k' hi' ei' hk' ek' h2 Y2 F2 => ?_) (fun c' h2 b Y2 F2 => ?_) (fun c' c2' h2 b Y2 F2 => ?_)⟩) (fun c n' hn => ⟨1, by simp, 1, rfl, ⟨w, Y⟩, c_X12_man Y R.1 A (fun i' k' hi' ei' hk' ek' h2 Y2 F2 => ?_) (fun c' h2 b Y2 F2 => ?_) (fun c' c2' h2 b Y2 F2 => ?_)⟩) (fun c c2 n' hn => ⟨2, by simp, 2, rfl, ⟨w, Y⟩, c_X12_man Y R.1 A (fun i' k' hi' ei' hk' ek' h2 Y2 F2 => ?_) (fun c' h2 b Y2 F2 => ?_) (fun c' c2' h2 b Y2 F2 => ?_)⟩)
  · obtain rfl := nI_uq (by omega) (by omega) ei ei'
    obtain rfl := nI_uq (by omega) (by omega) ek ek'
    exact fin0 X1 F2 Y2 R.thr rfl
  · exfalso
    grind [ix, rg]
  · exfalso
    grind [ix, rg]
  · exfalso
    grind [ix, rg]
  · exact fin1 (X.grow hn) hg F2 Y2 R.thr rfl (by decide)
  · exfalso
    grind [ix, rg]
  · exfalso
    grind [ix, rg]
  · exfalso
    grind [ix, rg]
  · exact fin1 (X.grow hn) hg F2 Y2 R.thr rfl (by decide)
theorem q_scar {y v : Int32} (I : IV x h n) : pCall E M_X11_scar (d + 40) [.ref x, .int y, .int v] h n (LQ' [(xIO, 1), (xNE, 2)] (x + 329) (JQ E M_X12_scar (d + 41) x [.int y, .int v])) := by
  obtain ⟨L, f, K, sz, nx, im, wb, w, g, X, Y, R, hg⟩ := I
  have A := X.wa
  have AW := X.aw
  have B1 := A.b8
  have B2 := A.m10
  have B3 := A.s24
  have B4 := A.l60
  have B5 := X.l4
  have B6 := X.s12
  have ij := @nI_ij
  have m1 := @nI_m1
  refine c_X11_scar X (fun i k hi ei hk ek h1 X1 G1 => ⟨g, G1.out hg, 0, rfl, ⟨w, (Y.fc G1).out⟩, c_X12_scar (Y.fc G1).out R.1 A (fun i' k' hi' ei' hk' ek' h2 Y2 F2 => ?_) (fun c' h2 b Y2 F2 => ?_) (fun c' c2' h2 b Y2 F2 => ?_)⟩) (fun c n' hn => ⟨1, by simp, 1, rfl, ⟨w, Y⟩, c_X12_scar Y R.1 A (fun i' k' hi' ei' hk' ek' h2 Y2 F2 => ?_) (fun c' h2 b Y2 F2 => ?_) (fun c' c2' h2 b Y2 F2 => ?_)⟩) (fun c c2 n' hn => ⟨2, by simp, 2, rfl, ⟨w, Y⟩, c_X12_scar Y R.1 A (fun i' k' hi' ei' hk' ek' h2 Y2 F2 => ?_) (fun c' h2 b Y2 F2 => ?_) (fun c' c2' h2 b Y2 F2 => ?_)⟩)
  · obtain rfl := nI_uq (by omega) (by omega) ei ei'
    obtain rfl := nI_uq (by omega) (by omega) ek ek'
    exact fin0 X1 F2 Y2 R.thr rfl
  · exfalso
    grind [ix, rg]
  · exfalso
    grind [ix, rg]
  · exfalso
    grind [ix, rg]
  · exact fin1 (X.grow hn) hg F2 Y2 R.thr rfl (by decide)
  · exfalso
    grind [ix, rg]
  · exfalso
    grind [ix, rg]
  · exfalso
    grind [ix, rg]
  · exact fin1 (X.grow hn) hg F2 Y2 R.thr rfl (by decide)
theorem q_who {y : Int32} (I : IV x h n) : pCall E M_X11_who (d + 40) [.ref x, .int y] h n (LQ' [(xIO, 1)] (x + 329) (JQ E M_X12_who (d + 41) x [.int y])) := by
  obtain ⟨L, f, K, sz, nx, im, wb, w, g, X, Y, R, hg⟩ := I
  have A := X.wa
  have AW := X.aw
  have B1 := A.b8
  have B2 := A.m10
  have B3 := A.s24
  have B4 := A.l60
  have B5 := X.l4
  have B6 := X.s12
  have ij := @nI_ij
  have m1 := @nI_m1
  refine c_X11_who X (fun i hi ei => ⟨g, hg, 0, rfl, ⟨w, Y.out⟩, c_X12_who Y.out R.1 A (fun i' hi' ei' h2 Y2 F2 => ?_) (fun c' h2 b Y2 F2 => ?_)⟩) (fun c n' hn => ⟨1, by simp, 1, rfl, ⟨w, Y⟩, c_X12_who Y R.1 A (fun i' hi' ei' h2 Y2 F2 => ?_) (fun c' h2 b Y2 F2 => ?_)⟩)
  · obtain rfl := nI_uq (by omega) (by omega) ei ei'
    exact fin0 X F2 Y2 R.thr rfl
  · exfalso
    grind [ix, rg]
  · exfalso
    grind [ix, rg]
  · exact fin1 (X.grow hn) hg F2 Y2 R.thr rfl (by decide)
theorem q_largest {y z : Int32} (I : IV x h n) : pCall E M_X11_largest (d + 40) [.ref x, .int y, .int z] h n (LQ' [(xIO, 1)] (x + 329) (JQ E M_X12_largest (d + 41) x [.int y, .int z])) := by
  obtain ⟨L, f, K, sz, nx, im, wb, w, g, X, Y, R, hg⟩ := I
  have A := X.wa
  have AW := X.aw
  have B1 := A.b8
  have B2 := A.m10
  have B3 := A.s24
  have B4 := A.l60
  have B5 := X.l4
  have B6 := X.s12
  have ij := @nI_ij
  have m1 := @nI_m1
  refine c_X11_largest X (fun i hi ei h1 X1 G1 => ⟨g, G1.out hg, 0, rfl, ⟨w, (Y.fc G1).out⟩, c_X12_largest (Y.fc G1).out R.1 A (fun i' hi' ei' h2 Y2 F2 => ?_) (fun c' h2 b Y2 F2 => ?_)⟩) (fun c n' hn => ⟨1, by simp, 1, rfl, ⟨w, Y⟩, c_X12_largest Y R.1 A (fun i' hi' ei' h2 Y2 F2 => ?_) (fun c' h2 b Y2 F2 => ?_)⟩)
  · obtain rfl := nI_uq (by omega) (by omega) ei ei'
    exact fin0 X1 F2 Y2 R.thr rfl
  · exfalso
    grind [ix, rg]
  · exfalso
    grind [ix, rg]
  · exact fin1 (X.grow hn) hg F2 Y2 R.thr rfl (by decide)
theorem q_betrays {y : Int32} (I : IV x h n) : pCall E M_X11_betrays (d + 40) [.ref x, .int y] h n (LQ' [(xIO, 1)] (x + 329) (JQ E M_X12_betrays (d + 41) x [.int y])) := by
  obtain ⟨L, f, K, sz, nx, im, wb, w, g, X, Y, R, hg⟩ := I
  have A := X.wa
  have AW := X.aw
  have B1 := A.b8
  have B2 := A.m10
  have B3 := A.s24
  have B4 := A.l60
  have B5 := X.l4
  have B6 := X.s12
  have ij := @nI_ij
  have m1 := @nI_m1
  refine c_X11_betrays X (fun i hi ei h1 X1 G1 => ⟨g, G1.out hg, 0, rfl, ⟨w, (Y.fc G1).out⟩, c_X12_betrays (Y.fc G1).out R.1 A (fun i' hi' ei' h2 Y2 F2 => ?_) (fun c' h2 b Y2 F2 => ?_)⟩) (fun c n' hn => ⟨1, by simp, 1, rfl, ⟨w, Y⟩, c_X12_betrays Y R.1 A (fun i' hi' ei' h2 Y2 F2 => ?_) (fun c' h2 b Y2 F2 => ?_)⟩)
  · obtain rfl := nI_uq (by omega) (by omega) ei ei'
    exact fin0 X1 F2 Y2 R.thr rfl
  · exfalso
    grind [ix, rg]
  · exfalso
    grind [ix, rg]
  · exact fin1 (X.grow hn) hg F2 Y2 R.thr rfl (by decide)
theorem q_buyer {y : Int32} (I : IV x h n) : pCall E M_X11_buyer (d + 40) [.ref x, .int y] h n (LQ' [(xIO, 1)] (x + 329) (JQ E M_X12_buyer (d + 41) x [.int y])) := by
  obtain ⟨L, f, K, sz, nx, im, wb, w, g, X, Y, R, hg⟩ := I
  have A := X.wa
  have AW := X.aw
  have B1 := A.b8
  have B2 := A.m10
  have B3 := A.s24
  have B4 := A.l60
  have B5 := X.l4
  have B6 := X.s12
  have ij := @nI_ij
  have m1 := @nI_m1
  refine c_X11_buyer X (fun i hi ei h1 X1 G1 => ⟨g, G1.out hg, 0, rfl, ⟨w, (Y.fc G1).out⟩, c_X12_buyer (Y.fc G1).out R.1 A (fun i' hi' ei' h2 Y2 F2 => ?_) (fun c' h2 b Y2 F2 => ?_)⟩) (fun c n' hn => ⟨1, by simp, 1, rfl, ⟨w, Y⟩, c_X12_buyer Y R.1 A (fun i' hi' ei' h2 Y2 F2 => ?_) (fun c' h2 b Y2 F2 => ?_)⟩)
  · obtain rfl := nI_uq (by omega) (by omega) ei ei'
    exact fin0 X1 F2 Y2 R.thr rfl
  · exfalso
    grind [ix, rg]
  · exfalso
    grind [ix, rg]
  · exact fin1 (X.grow hn) hg F2 Y2 R.thr rfl (by decide)
theorem q_gains {y v : Int32} (I : IV x h n) : pCall E M_X11_gains (d + 40) [.ref x, .int y, .int v] h n (LQ' [(xIO, 1)] (x + 329) (JQ E M_X12_gains (d + 41) x [.int y, .int v])) := by
  obtain ⟨L, f, K, sz, nx, im, wb, w, g, X, Y, R, hg⟩ := I
  have A := X.wa
  have AW := X.aw
  have B1 := A.b8
  have B2 := A.m10
  have B3 := A.s24
  have B4 := A.l60
  have B5 := X.l4
  have B6 := X.s12
  have ij := @nI_ij
  have m1 := @nI_m1
  refine c_X11_gains X (fun i k hi ei hk ek h1 X1 G1 => ⟨g, G1.out hg, 0, rfl, ⟨w, (Y.fc G1).out⟩, c_X12_gains (Y.fc G1).out R.1 A (fun i' k' hi' ei' hk' ek' h2 Y2 F2 => ?_) (fun c' h2 b Y2 F2 => ?_)⟩) (fun c n' hn => ⟨1, by simp, 1, rfl, ⟨w, Y⟩, c_X12_gains Y R.1 A (fun i' k' hi' ei' hk' ek' h2 Y2 F2 => ?_) (fun c' h2 b Y2 F2 => ?_)⟩)
  · obtain rfl := nI_uq (by omega) (by omega) ei ei'
    obtain rfl := nI_uq (by omega) (by omega) ek ek'
    exact fin0 X1 F2 Y2 R.thr rfl
  · exfalso
    grind [ix, rg]
  · exfalso
    grind [ix, rg]
  · exact fin1 (X.grow hn) hg F2 Y2 R.thr rfl (by decide)
theorem q_polished {y : Int32} (I : IV x h n) : pCall E M_X11_polished (d + 40) [.ref x, .int y] h n (LQ' [(xIO, 1)] (x + 329) (JQ E M_X12_polished (d + 41) x [.int y])) := by
  obtain ⟨L, f, K, sz, nx, im, wb, w, g, X, Y, R, hg⟩ := I
  have A := X.wa
  have AW := X.aw
  have B1 := A.b8
  have B2 := A.m10
  have B3 := A.s24
  have B4 := A.l60
  have B5 := X.l4
  have B6 := X.s12
  have ij := @nI_ij
  have m1 := @nI_m1
  refine c_X11_polished X (fun c => ⟨g, hg, 0, rfl, ⟨w, Y.out⟩, c_X12_polished Y.out R.1 A (fun c' h2 Y2 F2 => ?_) (fun c' h2 b Y2 F2 => ?_)⟩) (fun c n' hn => ⟨1, by simp, 1, rfl, ⟨w, Y⟩, c_X12_polished Y R.1 A (fun c' h2 Y2 F2 => ?_) (fun c' h2 b Y2 F2 => ?_)⟩)
  · exact fin0 X F2 Y2 R.thr rfl
  · exfalso
    grind [ix, rg]
  · exfalso
    grind [ix, rg]
  · exact fin1 (X.grow hn) hg F2 Y2 R.thr rfl (by decide)
theorem q_hands {y v : Int32} (I : IV x h n) : pCall E M_X11_hands (d + 40) [.ref x, .int y, .int v] h n (LQ' [(xIO, 1), (xIA, 2)] (x + 329) (JQ E M_X12_hands (d + 41) x [.int y, .int v])) := by
  obtain ⟨L, f, K, sz, nx, im, wb, w, g, X, Y, R, hg⟩ := I
  have A := X.wa
  have AW := X.aw
  have B1 := A.b8
  have B2 := A.m10
  have B3 := A.s24
  have B4 := A.l60
  have B5 := X.l4
  have B6 := X.s12
  have ij := @nI_ij
  have m1 := @nI_m1
  refine c_X11_hands X (fun c n' hn => ⟨1, by simp, 1, rfl, ⟨w, Y⟩, c_X12_hands Y R.1 A (fun c' h2 b Y2 F2 => ?_) (fun c' c2' h2 b Y2 F2 => ?_) (fun i' hi' ei' c3' h2 Y2 F2 => ?_)⟩) (fun c c2 n' hn => ⟨2, by simp, 2, rfl, ⟨w, Y⟩, c_X12_hands Y R.1 A (fun c' h2 b Y2 F2 => ?_) (fun c' c2' h2 b Y2 F2 => ?_) (fun i' hi' ei' c3' h2 Y2 F2 => ?_)⟩) (fun i hi ei c3 => ⟨g, hg, 0, rfl, ⟨w, Y.out⟩, c_X12_hands Y.out R.1 A (fun c' h2 b Y2 F2 => ?_) (fun c' c2' h2 b Y2 F2 => ?_) (fun i' hi' ei' c3' h2 Y2 F2 => ?_)⟩)
  · exact fin1 (X.grow hn) hg F2 Y2 R.thr rfl (by decide)
  · exfalso
    grind [ix, rg]
  · exfalso
    grind [ix, rg]
  · exfalso
    grind [ix, rg]
  · exact fin1 (X.grow hn) hg F2 Y2 R.thr rfl (by decide)
  · exfalso
    grind [ix, rg]
  · exfalso
    grind [ix, rg]
  · exfalso
    grind [ix, rg]
  · obtain rfl := nI_uq (by omega) (by omega) ei ei'
    exact fin0 X F2 Y2 R.thr rfl
theorem q_shared {y v : Int32} (I : IV x h n) : pCall E M_X11_shared (d + 40) [.ref x, .int y, .int v] h n (LQ' [(xIO, 1), (xIA, 2)] (x + 329) (JQ E M_X12_shared (d + 41) x [.int y, .int v])) := by
  obtain ⟨L, f, K, sz, nx, im, wb, w, g, X, Y, R, hg⟩ := I
  have A := X.wa
  have AW := X.aw
  have B1 := A.b8
  have B2 := A.m10
  have B3 := A.s24
  have B4 := A.l60
  have B5 := X.l4
  have B6 := X.s12
  have ij := @nI_ij
  have m1 := @nI_m1
  refine c_X11_shared X (fun c n' hn => ⟨1, by simp, 1, rfl, ⟨w, Y⟩, c_X12_shared Y R.1 A (fun c' h2 b Y2 F2 => ?_) (fun c' c2' h2 b Y2 F2 => ?_) (fun i' k' hi' ei' hk' ek' c3' h2 Y2 F2 => ?_)⟩) (fun c c2 n' hn => ⟨2, by simp, 2, rfl, ⟨w, Y⟩, c_X12_shared Y R.1 A (fun c' h2 b Y2 F2 => ?_) (fun c' c2' h2 b Y2 F2 => ?_) (fun i' k' hi' ei' hk' ek' c3' h2 Y2 F2 => ?_)⟩) (fun i k hi ei hk ek c3 => ⟨g, hg, 0, rfl, ⟨w, Y.out⟩, c_X12_shared Y.out R.1 A (fun c' h2 b Y2 F2 => ?_) (fun c' c2' h2 b Y2 F2 => ?_) (fun i' k' hi' ei' hk' ek' c3' h2 Y2 F2 => ?_)⟩)
  · exact fin1 (X.grow hn) hg F2 Y2 R.thr rfl (by decide)
  · exfalso
    grind [ix, rg]
  · exfalso
    grind [ix, rg]
  · exfalso
    grind [ix, rg]
  · exact fin1 (X.grow hn) hg F2 Y2 R.thr rfl (by decide)
  · exfalso
    grind [ix, rg]
  · exfalso
    grind [ix, rg]
  · exfalso
    grind [ix, rg]
  · obtain rfl := nI_uq (by omega) (by omega) ei ei'
    obtain rfl := nI_uq (by omega) (by omega) ek ek'
    exact fin0 X F2 Y2 R.thr rfl
theorem q_led {y z : Int32} (I : IV x h n) : pCall E M_X11_led (d + 40) [.ref x, .int y, .int z] h n (LQ' [(xIO, 1)] (x + 329) (JQ E M_X12_led (d + 41) x [.int y, .int z])) := by
  obtain ⟨L, f, K, sz, nx, im, wb, w, g, X, Y, R, hg⟩ := I
  have A := X.wa
  have AW := X.aw
  have B1 := A.b8
  have B2 := A.m10
  have B3 := A.s24
  have B4 := A.l60
  have B5 := X.l4
  have B6 := X.s12
  have ij := @nI_ij
  have m1 := @nI_m1
  refine c_X11_led X (fun i hi ei => ⟨g, hg, 0, rfl, ⟨w, Y.out⟩, c_X12_led Y.out R.1 A (fun i' hi' ei' h2 Y2 F2 => ?_) (fun c' h2 b Y2 F2 => ?_)⟩) (fun c n' hn => ⟨1, by simp, 1, rfl, ⟨w, Y⟩, c_X12_led Y R.1 A (fun i' hi' ei' h2 Y2 F2 => ?_) (fun c' h2 b Y2 F2 => ?_)⟩)
  · obtain rfl := nI_uq (by omega) (by omega) ei ei'
    exact fin0 X F2 Y2 R.thr rfl
  · exfalso
    grind [ix, rg]
  · exfalso
    grind [ix, rg]
  · exact fin1 (X.grow hn) hg F2 Y2 R.thr rfl (by decide)
theorem q_log {y v : Int32} (I : IV x h n) : pCall E M_X11_log (d + 40) [.ref x, .int y, .int v] h n (LQ' [(xNE, 1)] (x + 329) (JQ E M_X12_log (d + 41) x [.int y, .int v])) := by
  obtain ⟨L, f, K, sz, nx, im, wb, w, g, X, Y, R, hg⟩ := I
  have A := X.wa
  have AW := X.aw
  have B1 := A.b8
  have B2 := A.m10
  have B3 := A.s24
  have B4 := A.l60
  have B5 := X.l4
  have B6 := X.s12
  have ij := @nI_ij
  have m1 := @nI_m1
  refine c_X11_log X (fun c n' hn => ⟨1, by simp, 1, rfl, ⟨w, Y⟩, c_X12_log Y R.1 A (fun c' h2 b Y2 F2 => ?_) (fun i' k' hk' ek' hi' ei' h2 Y2 F2 => ?_) (fun c' c2' h2 Y2 F2 => ?_)⟩) (fun i k hk ek hi ei => ⟨g, hg, 0, rfl, ⟨w, Y.out⟩, c_X12_log Y.out R.1 A (fun c' h2 b Y2 F2 => ?_) (fun i' k' hk' ek' hi' ei' h2 Y2 F2 => ?_) (fun c' c2' h2 Y2 F2 => ?_)⟩) (fun c c2 => ⟨g, hg, 0, rfl, ⟨w, Y.out⟩, c_X12_log Y.out R.1 A (fun c' h2 b Y2 F2 => ?_) (fun i' k' hk' ek' hi' ei' h2 Y2 F2 => ?_) (fun c' c2' h2 Y2 F2 => ?_)⟩)
  · exact fin1 (X.grow hn) hg F2 Y2 R.thr rfl (by decide)
  · exfalso
    grind [ix, rg]
  · exfalso
    grind [ix, rg]
  · exfalso
    grind [ix, rg]
  · obtain rfl := nI_uq (by omega) (by omega) ei ei'
    obtain rfl := nI_uq (by omega) (by omega) ek ek'
    exact fin0 X F2 Y2 R.thr rfl
  · exfalso
    grind [ix, rg]
  · exfalso
    grind [ix, rg]
  · exfalso
    grind [ix, rg]
  · exact fin0 X F2 Y2 R.thr rfl
theorem q_turn {s y v z : Int32} (I : IV x h n) : pCall E M_X11_turn (d + 40) [.ref x, .int s, .int y, .int v, .int z] h n (LQ' [(xIO, 1), (xIA, 2)] (x + 329) (JQ E M_X12_turn (d + 41) x [.int s, .int y, .int v, .int z])) := by
  obtain ⟨L, f, K, sz, nx, im, wb, w, g, X, Y, R, hg⟩ := I
  have A := X.wa
  have AW := X.aw
  have B1 := A.b8
  have B2 := A.m10
  have B3 := A.s24
  have B4 := A.l60
  have B5 := X.l4
  have B6 := X.s12
  have ij := @nI_ij
  have m1 := @nI_m1
  refine c_X11_turn X (fun c c2 n' hn => ⟨1, by simp, 1, rfl, ⟨w, Y⟩, c_X12_turn Y R.1 A (fun c' c2' h2 b Y2 F2 => ?_) (fun c' c2' h2 b Y2 F2 => ?_) (fun k' dy' k1' hk' ek' hd' ed' ez' h2 Y2 F2 => ?_) (fun k' dy' i' k1' hk' ek' hd' ed' hi' ei' h2 Y2 F2 => ?_)⟩) (fun c c2 n' hn => ⟨2, by simp, 2, rfl, ⟨w, Y⟩, c_X12_turn Y R.1 A (fun c' c2' h2 b Y2 F2 => ?_) (fun c' c2' h2 b Y2 F2 => ?_) (fun k' dy' k1' hk' ek' hd' ed' ez' h2 Y2 F2 => ?_) (fun k' dy' i' k1' hk' ek' hd' ed' hi' ei' h2 Y2 F2 => ?_)⟩) (fun k dy k1 hk ek hd ed ez => ⟨g, hg, 0, rfl, ⟨w, Y.out⟩, c_X12_turn Y.out R.1 A (fun c' c2' h2 b Y2 F2 => ?_) (fun c' c2' h2 b Y2 F2 => ?_) (fun k' dy' k1' hk' ek' hd' ed' ez' h2 Y2 F2 => ?_) (fun k' dy' i' k1' hk' ek' hd' ed' hi' ei' h2 Y2 F2 => ?_)⟩) (fun k dy i k1 hk ek hd ed hi ei => ⟨g, hg, 0, rfl, ⟨w, Y.out⟩, c_X12_turn Y.out R.1 A (fun c' c2' h2 b Y2 F2 => ?_) (fun c' c2' h2 b Y2 F2 => ?_) (fun k' dy' k1' hk' ek' hd' ed' ez' h2 Y2 F2 => ?_) (fun k' dy' i' k1' hk' ek' hd' ed' hi' ei' h2 Y2 F2 => ?_)⟩)
  · exact fin1 (X.grow hn) hg F2 Y2 R.thr rfl (by decide)
  · exfalso
    grind [ix, rg]
  · exfalso
    grind [ix, rg]
  · exfalso
    grind [ix, rg]
  · exfalso
    grind [ix, rg]
  · exact fin1 (X.grow hn) hg F2 Y2 R.thr rfl (by decide)
  · exfalso
    grind [ix, rg]
  · exfalso
    grind [ix, rg]
  · exfalso
    grind [ix, rg]
  · exfalso
    grind [ix, rg]
  · obtain rfl := nI_uq (by omega) (by omega) ek ek'
    obtain rfl := nI_uq (by omega) (by omega) ed ed'
    exact fin0 X F2 Y2 R.thr rfl
  · exfalso
    grind [ix, rg]
  · exfalso
    grind [ix, rg]
  · exfalso
    grind [ix, rg]
  · exfalso
    grind [ix, rg]
  · obtain rfl := nI_uq (by omega) (by omega) ek ek'
    obtain rfl := nI_uq (by omega) (by omega) ed ed'
    obtain rfl := nI_uq (by omega) (by omega) ei ei'
    exact fin0 X F2 Y2 R.thr rfl
theorem q_least {y v z : Int32} (I : IV x h n) : pCall E M_X11_least (d + 40) [.ref x, .int y, .int v, .int z] h n (LQ' [(xIO, 1), (xIA, 2), (xIS, 3)] (x + 329) (JQ E M_X12_least (d + 41) x [.int y, .int v, .int z])) := by
  obtain ⟨L, f, K, sz, nx, im, wb, w, g, X, Y, R, hg⟩ := I
  have A := X.wa
  have AW := X.aw
  have B1 := A.b8
  have B2 := A.m10
  have B3 := A.s24
  have B4 := A.l60
  have B5 := X.l4
  have B6 := X.s12
  have ij := @nI_ij
  have m1 := @nI_m1
  refine c_X11_least X (fun c n' hn => ⟨1, by simp, 1, rfl, ⟨w, Y⟩, c_X12_least Y R.1 A (fun c' h2 b Y2 F2 => ?_) (fun c' c2' h2 b Y2 F2 => ?_) (fun i' hi' ei' c3' c4' h2 b Y2 F2 => ?_) (fun i' k' hi' ei' hk' ek' al' h2 w2 Y2 F2 T2 => ?_)⟩) (fun c c2 n' hn => ⟨2, by simp, 2, rfl, ⟨w, Y⟩, c_X12_least Y R.1 A (fun c' h2 b Y2 F2 => ?_) (fun c' c2' h2 b Y2 F2 => ?_) (fun i' hi' ei' c3' c4' h2 b Y2 F2 => ?_) (fun i' k' hi' ei' hk' ek' al' h2 w2 Y2 F2 T2 => ?_)⟩) (fun i hi ei c3 c4 n' hn => ⟨3, by simp, 3, rfl, ⟨w, Y⟩, c_X12_least Y R.1 A (fun c' h2 b Y2 F2 => ?_) (fun c' c2' h2 b Y2 F2 => ?_) (fun i' hi' ei' c3' c4' h2 b Y2 F2 => ?_) (fun i' k' hi' ei' hk' ek' al' h2 w2 Y2 F2 T2 => ?_)⟩) (fun i k hi ei hk ek al h1 X1 G1 => ⟨g, G1.out hg, 0, rfl, ⟨w, (Y.fc G1).out⟩, c_X12_least (Y.fc G1).out R.1 A (fun c' h2 b Y2 F2 => ?_) (fun c' c2' h2 b Y2 F2 => ?_) (fun i' hi' ei' c3' c4' h2 b Y2 F2 => ?_) (fun i' k' hi' ei' hk' ek' al' h2 w2 Y2 F2 T2 => ?_)⟩)
  · exact fin1 (X.grow hn) hg F2 Y2 R.thr rfl (by decide)
  · exfalso
    grind [ix, rg]
  · exfalso
    grind [ix, rg]
  · exfalso
    grind [ix, rg]
  · exfalso
    grind [ix, rg]
  · exact fin1 (X.grow hn) hg F2 Y2 R.thr rfl (by decide)
  · exfalso
    grind [ix, rg]
  · exfalso
    grind [ix, rg]
  · exfalso
    grind [ix, rg]
  · exfalso
    grind [ix, rg]
  · obtain rfl := nI_uq (by omega) (by omega) ei ei'
    exact fin1 (X.grow hn) hg F2 Y2 R.thr rfl (by decide)
  · exfalso
    grind [ix, rg]
  · exfalso
    grind [ix, rg]
  · exfalso
    grind [ix, rg]
  · exfalso
    grind [ix, rg]
  · obtain rfl := nI_uq (by omega) (by omega) ei ei'
    obtain rfl := nI_uq (by omega) (by omega) ek ek'
    exact fin0 X1 F2 Y2 (MR.sw3 T2 R.thr) (congrFun (T2 0 (by decide) (by decide) (by decide)) 0)
end PAIRS2

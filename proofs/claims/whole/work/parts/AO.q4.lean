/-! pairs of calls -/
section PAIRS4
variable {E : PE} {d : Nat} {h : PH} {n x : Nat}
theorem q_after {y v : Int32} (I : IV x h n) : pCall E M_X11_after (d + 40) [.ref x, .int y, .int v] h n (LQ' [(xIO, 1), (xIA, 2)] (x + 329) (JQ E M_X12_after_ (d + 41) x [.int y, .int v])) := by
  obtain ⟨L, f, K, sz, nx, im, wb, w, g, X, Y, R, hg⟩ := I
  have A := X.wa
  have AW := X.aw
  have B1 := A.b8
  have B2 := A.m10
  have B3 := A.s24
  have B4 := A.l60
  have B5 := X.l4
  have B6 := X.s12
  have ij := @nI_ij
  have m1 := @nI_m1
  refine c_X11_after X (fun c n' hn => ⟨1, by simp, 1, rfl, ⟨w, Y⟩, c_X12_after_ Y R.1 A (fun c' h2 b Y2 F2 => ?_) (fun c' c2' h2 b Y2 F2 => ?_) (fun i' k' hi' ei' hk' ek' h2 w2 Y2 F2 T2 => ?_)⟩) (fun c c2 n' hn => ⟨2, by simp, 2, rfl, ⟨w, Y⟩, c_X12_after_ Y R.1 A (fun c' h2 b Y2 F2 => ?_) (fun c' c2' h2 b Y2 F2 => ?_) (fun i' k' hi' ei' hk' ek' h2 w2 Y2 F2 T2 => ?_)⟩) (fun i k hi ei hk ek h1 r' S1 X1 G1 => ⟨g, G1.out hg, 0, rfl, ⟨w, (Y.fc G1).out⟩, c_X12_after_ (Y.fc G1).out (R.1.sm A S1) (A.sm S1) (fun c' h2 b Y2 F2 => ?_) (fun c' c2' h2 b Y2 F2 => ?_) (fun i' k' hi' ei' hk' ek' h2 w2 Y2 F2 T2 => ?_)⟩)
  · exact fin1 (X.grow hn) hg F2 Y2 R.thr rfl (by decide)
  · exfalso
    grind [ix, rg]
  · exfalso
    grind [ix, rg]
  · exfalso
    grind [ix, rg]
  · exact fin1 (X.grow hn) hg F2 Y2 R.thr rfl (by decide)
  · exfalso
    grind [ix, rg]
  · exfalso
    have cs := S1.cs3; grind [ix, rg]
  · exfalso
    have cs := S1.cs3; grind [ix, rg]
  · have cs := S1.cs3
    obtain rfl := nI_uq (by omega) (by omega) ei ei'
    obtain rfl := nI_uq (by omega) (by omega) ek ek'
    exact fin0 X1 F2 Y2 (MR.swt T2 R.thr) (T2.2 0 (by decide))
theorem q_trial {y z : Int32} (I : IV x h n) : pCall E M_X11_trial (d + 40) [.ref x, .int y, .int z] h n (LQ' [(xIA, 1)] (x + 329) (JQ E M_X12_trial (d + 41) x [.int y, .int z])) := by
  obtain ⟨L, f, K, sz, nx, im, wb, w, g, X, Y, R, hg⟩ := I
  have A := X.wa
  have AW := X.aw
  have B1 := A.b8
  have B2 := A.m10
  have B3 := A.s24
  have B4 := A.l60
  have B5 := X.l4
  have B6 := X.s12
  have ij := @nI_ij
  have m1 := @nI_m1
  refine c_X11_trial X (fun c n' hn => ⟨1, by simp, 1, rfl, ⟨w, Y⟩, c_X12_trial Y R.1 A (fun c' h2 b Y2 F2 => ?_) (fun k' hk' ek' h2 w2 Y2 F2 T2 => ?_)⟩) (fun k hk ek h1 r' S1 X1 G1 => ⟨g, G1.out hg, 0, rfl, ⟨w, (Y.fc G1).out⟩, c_X12_trial (Y.fc G1).out (R.1.sm A S1) (A.sm S1) (fun c' h2 b Y2 F2 => ?_) (fun k' hk' ek' h2 w2 Y2 F2 T2 => ?_)⟩)
  · exact fin1 (X.grow hn) hg F2 Y2 R.thr rfl (by decide)
  · exfalso
    grind [ix, rg]
  · exfalso
    grind [ix, rg]
  · obtain rfl := nI_uq (by omega) (by omega) ek ek'
    exact fin0 X1 F2 Y2 (MR.swt T2 R.thr) (T2.2 0 (by decide))
theorem q_span {y z : Int32} (I : IV x h n) : pCall E M_X11_span (d + 40) [.ref x, .int y, .int z] h n (LQ' [(xIA, 1)] (x + 329) (JQ E M_X12_span (d + 41) x [.int y, .int z])) := by
  obtain ⟨L, f, K, sz, nx, im, wb, w, g, X, Y, R, hg⟩ := I
  have A := X.wa
  have AW := X.aw
  have B1 := A.b8
  have B2 := A.m10
  have B3 := A.s24
  have B4 := A.l60
  have B5 := X.l4
  have B6 := X.s12
  have ij := @nI_ij
  have m1 := @nI_m1
  refine c_X11_span X (fun c n' hn => ⟨1, by simp, 1, rfl, ⟨w, Y⟩, c_X12_span Y (rr := fun _ => (K 0).1) (fun q _ => ⟨R.1, A⟩) (fun c' h2 b Y2 F2 => ?_) (fun k' hk' ek' h2 w2 Y2 F2 T2 => ?_)⟩) (fun k hk ek h1 r' S1 X1 G1 => ⟨g, G1.out hg, 0, rfl, ⟨w, (Y.fc G1).out⟩, c_X12_span (Y.fc G1).out (fun q hq => ⟨R.1.sm A (S1 q hq), A.sm (S1 q hq)⟩) (fun c' h2 b Y2 F2 => ?_) (fun k' hk' ek' h2 w2 Y2 F2 T2 => ?_)⟩)
  · exact fin1 (X.grow hn) hg F2 Y2 R.thr rfl (by decide)
  · exfalso
    grind [ix, rg]
  · exfalso
    grind [ix, rg]
  · obtain rfl := nI_uq (by omega) (by omega) ek ek'
    exact fin0 X1 F2 Y2 (MR.swt T2 R.thr) (T2.2 0 (by decide))
theorem q_enemies {y : Int32} (I : IV x h n) : pCall E M_X11_enemies (d + 40) [.ref x, .int y] h n (LQ' [(xIA, 1)] (x + 329) (JQ E M_X12_enemies (d + 41) x [.int y])) := by
  obtain ⟨L, f, K, sz, nx, im, wb, w, g, X, Y, R, hg⟩ := I
  have A := X.wa
  have AW := X.aw
  have B1 := A.b8
  have B2 := A.m10
  have B3 := A.s24
  have B4 := A.l60
  have B5 := X.l4
  have B6 := X.s12
  have ij := @nI_ij
  have m1 := @nI_m1
  obtain rfl := R.e6
  refine c_X11_enemies X (fun c h1 n' hn X1 G1 => ⟨1, by simp, 1, rfl, ⟨w, (Y.fc G1)⟩, c_X12_enemies (Y.fc G1) R.1 A R.e9 B5 R.by (fun c' h2 b Y2 F2 => ?_) (fun c' e1' h2 w2 Y2 F2 T2 => ?_) (fun c' i' hi' ei' h2 Y2 F2 => ?_)⟩) (fun c e1 h1 X1 G1 => ⟨g, G1.out hg, 0, rfl, ⟨w, (Y.fc G1).out⟩, c_X12_enemies (Y.fc G1).out R.1 A R.e9 B5 R.by (fun c' h2 b Y2 F2 => ?_) (fun c' e1' h2 w2 Y2 F2 T2 => ?_) (fun c' i' hi' ei' h2 Y2 F2 => ?_)⟩) (fun c i hi ei h1 X1 G1 => ⟨g, G1.out hg, 0, rfl, ⟨w, (Y.fc G1).out⟩, c_X12_enemies (Y.fc G1).out R.1 A R.e9 B5 R.by (fun c' h2 b Y2 F2 => ?_) (fun c' e1' h2 w2 Y2 F2 T2 => ?_) (fun c' i' hi' ei' h2 Y2 F2 => ?_)⟩)
  · exact fin1 X1 (G1.out hg) F2 Y2 R.usd.thr rfl (by decide)
  · exfalso
    grind [ix]
  · exfalso
    grind [ix]
  · exfalso
    grind [ix]
  · exact fin0 X1 F2 Y2 (MR.sw12 T2 R.usd) (congrFun (T2 0 (by decide)) 0)
  · exfalso
    grind [ix]
  · exfalso
    grind [ix]
  · exfalso
    grind [ix]
  · obtain rfl := nI_uq (by omega) (by omega) ei ei'
    exact fin0 X1 F2 Y2 R.usd rfl
end PAIRS4

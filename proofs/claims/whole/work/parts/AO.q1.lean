/-! pairs of calls -/
section PAIRS1
variable {E : PE} {d : Nat} {h : PH} {n x : Nat}
theorem q_swaps (I : IV x h n) : pCall E M_X11_swaps (d + 40) [.ref x] h n (AJQ E M_X12_swaps (d + 40) x []) := by
  obtain ⟨L, f, K, sz, nx, im, wb, w, g, X, Y, R, hg⟩ := I
  exact c_X11_swaps X ⟨_, rfl, ⟨w, Y⟩, c_X12_swaps Y R.1 X.wa (fun h2 Y2 F2 => finA X hg F2 Y2 R.thr)⟩
theorem q_his {y : Int32} (I : IV x h n) : pCall E M_X11_his (d + 40) [.ref x, .int y] h n (AJQ E M_X12_his (d + 40) x [.int y]) := by
  obtain ⟨L, f, K, sz, nx, im, wb, w, g, X, Y, R, hg⟩ := I
  exact c_X11_his X (fun h1 X1 G1 => ⟨_, rfl, ⟨w, Y.fc G1⟩, c_X12_his (Y.fc G1) R.1 X.wa (fun h2 Y2 F2 => finA X1 (G1.out hg) F2 Y2 R.thr)⟩)
theorem q_fewest (I : IV x h n) : pCall E M_X11_fewest (d + 40) [.ref x] h n (AJQ E M_X12_fewest (d + 40) x []) := by
  obtain ⟨L, f, K, sz, nx, im, wb, w, g, X, Y, R, hg⟩ := I
  exact c_X11_fewest X (fun h1 X1 G1 => ⟨_, rfl, ⟨w, Y.fc G1⟩, c_X12_fewest (Y.fc G1) R.1 X.wa (fun h2 Y2 F2 => finA X1 (G1.out hg) F2 Y2 R.thr)⟩)
theorem q_sergeant (I : IV x h n) : pCall E M_X11_sergeant (d + 40) [.ref x] h n (AJQ E M_X12_sergeant (d + 40) x []) := by
  obtain ⟨L, f, K, sz, nx, im, wb, w, g, X, Y, R, hg⟩ := I
  exact c_X11_sergeant X ⟨_, rfl, ⟨w, Y⟩, c_X12_sergeant Y R.1 X.wa (fun h2 Y2 F2 => finA X hg F2 Y2 R.thr)⟩
theorem q_bargain {z : Int32} (I : IV x h n) : pCall E M_X11_bargain (d + 40) [.ref x, .int z] h n (AJQ E M_X12_bargain (d + 40) x [.int z]) := by
  obtain ⟨L, f, K, sz, nx, im, wb, w, g, X, Y, R, hg⟩ := I
  exact c_X11_bargain X (fun h1 X1 G1 => ⟨_, rfl, ⟨w, Y.fc G1⟩, c_X12_bargain (Y.fc G1) R.1 X.wa (fun h2 Y2 F2 => finA X1 (G1.out hg) F2 Y2 R.thr)⟩)
theorem q_mourned (I : IV x h n) : pCall E M_X11_mourned (d + 40) [.ref x] h n (AJQ E M_X12_mourned (d + 40) x []) := by
  obtain ⟨L, f, K, sz, nx, im, wb, w, g, X, Y, R, hg⟩ := I
  exact c_X11_mourned X ⟨_, rfl, ⟨w, Y⟩, c_X12_mourned Y R.1 X.wa (fun h2 Y2 F2 => finA X hg F2 Y2 R.thr)⟩
theorem q_route {y : Int32} (I : IV x h n) : pCall E M_X11_route (d + 40) [.ref x, .int y] h n (AJQ E M_X12_route (d + 40) x [.int y]) := by
  obtain ⟨L, f, K, sz, nx, im, wb, w, g, X, Y, R, hg⟩ := I
  exact c_X11_route X ⟨_, rfl, ⟨w, Y⟩, c_X12_route Y R.1 X.wa (fun h2 Y2 F2 => finA X hg F2 Y2 R.thr)⟩
theorem q_campaign {z : Int32} (I : IV x h n) : pCall E M_X11_campaign (d + 40) [.ref x, .int z] h n (AJQ E M_X12_campaign (d + 40) x [.int z]) := by
  obtain ⟨L, f, K, sz, nx, im, wb, w, g, X, Y, R, hg⟩ := I
  exact c_X11_campaign X ⟨_, rfl, ⟨w, Y⟩, c_X12_campaign Y R.1 X.wa (fun h2 Y2 F2 => finA X hg F2 Y2 R.thr)⟩
theorem q_voids (I : IV x h n) : pCall E M_X11_voids (d + 40) [.ref x] h n (AJQ E M_X12_voids (d + 40) x []) := by
  obtain ⟨L, f, K, sz, nx, im, wb, w, g, X, Y, R, hg⟩ := I
  exact c_X11_voids X (fun h1 X1 G1 => ⟨_, rfl, ⟨w, Y.fc G1⟩, c_X12_voids (Y.fc G1) R.1 X.wa (fun h2 Y2 F2 => finA X1 (G1.out hg) F2 Y2 R.thr)⟩)
theorem q_lies (I : IV x h n) : pCall E M_X11_lies (d + 40) [.ref x] h n (AJQ E M_X12_lies (d + 40) x []) := by
  obtain ⟨L, f, K, sz, nx, im, wb, w, g, X, Y, R, hg⟩ := I
  exact c_X11_lies X ⟨_, rfl, ⟨w, Y⟩, c_X12_lies Y R.1 X.wa (fun h2 Y2 F2 => finA X hg F2 Y2 R.thr)⟩
theorem q_crosswise (I : IV x h n) : pCall E M_X11_crosswise (d + 40) [.ref x] h n (AJQ E M_X12_crosswise (d + 40) x []) := by
  obtain ⟨L, f, K, sz, nx, im, wb, w, g, X, Y, R, hg⟩ := I
  exact c_X11_crosswise X ⟨_, rfl, ⟨w, Y⟩, c_X12_crosswise Y R.1 X.wa (fun h2 Y2 F2 => finA X hg F2 Y2 R.thr)⟩
theorem q_fault (I : IV x h n) : pCall E M_X11_fault (d + 40) [.ref x] h n (AJQ E M_X12_fault (d + 40) x []) := by
  obtain ⟨L, f, K, sz, nx, im, wb, w, g, X, Y, R, hg⟩ := I
  refine c_X11_fault X ⟨_, rfl, ⟨w, Y⟩, c_X12_fault Y (fun h2 Y2 F2 => ?_)⟩
  rw [R.ewb]
  exact finA X hg F2 Y2 R.thr
theorem q_seed {y : Int32} (I : IV x h n) : pCall E M_X11_seed (d + 40) [.ref x, .int y] h n (AJQ E M_X12_seed (d + 40) x [.int y]) := by
  obtain ⟨L, f, K, sz, nx, im, wb, w, g, X, Y, R, hg⟩ := I
  refine c_X11_seed X (fun h1 X1 G1 => ⟨_, rfl, ⟨w, Y.fc G1⟩, c_X12_seed (Y.fc G1) (fun h2 Y2 F2 => ?_)⟩)
  rw [R.1.1.2.2.2.2.2.2]
  exact finA X1 (G1.out hg) F2 Y2 (R.seed X.aw)
theorem q_feed {k0 k1 k2 k3 k4 : Int32} (I : IV x h n) : pCall E M_X11_feed (d + 40) [.ref x, .int k0, .int k1, .int k2, .int k3, .int k4] h n (AJQ E M_X12_feed (d + 40) x [.int k0, .int k1, .int k2, .int k3, .int k4]) := by
  obtain ⟨L, f, K, sz, nx, im, wb, w, g, X, Y, R, hg⟩ := I
  have A := X.wa
  have AW := X.aw
  have B1 := A.b8
  have B2 := A.m10
  have B3 := A.s24
  have B4 := A.l60
  have B5 := X.l4
  have B6 := X.s12
  have ij := @nI_ij
  have m1 := @nI_m1
  refine c_X11_feed2 X (fun c => ⟨_, rfl, ⟨w, Y⟩, c_X12_feed2 Y R.e9 B5 (fun c' h2 Y2 F2 => finA X hg F2 Y2 R.thr) (fun c' h2 w2 Y2 F2 a1 a2 a3 a4 => absurd c (by omega))⟩) (fun c h1 f1 X1 G1 p1 q1 => ⟨_, rfl, ⟨w, Y.fc G1⟩, c_X12_feed2 (Y.fc G1) R.e9 B5 (fun c' h2 Y2 F2 => absurd c (by omega)) (fun c' h2 w2 Y2 F2 a1 a2 a3 a4 => finA X1 (G1.out hg) F2 Y2 (R.feed p1 q1 a1 a2 a3 a4))⟩)
theorem q_end {y : Int32} (I : IV x h n) : pCall E M_X11_end (d + 40) [.ref x, .int y] h n (AJQ E M_X12_end (d + 40) x [.int y]) := by
  obtain ⟨L, f, K, sz, nx, im, wb, w, g, X, Y, R, hg⟩ := I
  have A := X.wa
  have AW := X.aw
  have B1 := A.b8
  have B2 := A.m10
  have B3 := A.s24
  have B4 := A.l60
  have B5 := X.l4
  have B6 := X.s12
  have ij := @nI_ij
  have m1 := @nI_m1
  refine c_X11_end X (fun c => ⟨_, rfl, ⟨w, Y⟩, c_X12_end Y R.e9 B5 (fun c' h2 Y2 F2 => finA X hg F2 Y2 R.thr) (fun i' hi' ei' h2 Y2 F2 => absurd ⟨i', by omega, ei'⟩ c)⟩) (fun i hi ei h1 X1 G1 => ⟨_, rfl, ⟨w, Y.fc G1⟩, c_X12_end (Y.fc G1) R.e9 B5 (fun c' h2 Y2 F2 => absurd ⟨i, by omega, ei⟩ c') (fun i' hi' ei' h2 Y2 F2 => ?_)⟩)
  obtain rfl := nI_uq (by omega) (by omega) ei ei'
  exact finA X1 (G1.out hg) F2 Y2 (R.thr.end_ hi)
theorem q_undo (I : IV x h n) : pCall E M_X11_undo (d + 40) [.ref x] h n (AJQ E M_X12_undo (d + 40) x []) := by
  obtain ⟨L, f, K, sz, nx, im, wb, w, g, X, Y, R, hg⟩ := I
  have A := X.wa
  have AW := X.aw
  have B1 := A.b8
  have B2 := A.m10
  have B3 := A.s24
  have B4 := A.l60
  have B5 := X.l4
  have B6 := X.s12
  have ij := @nI_ij
  have m1 := @nI_m1
  refine c_X11_undo X (fun c => ⟨_, rfl, ⟨w, Y⟩, c_X12_undo Y R.e7 B6 (fun c' h2 Y2 F2 => finA X hg F2 Y2 R.thr) (fun y ey h2 Y2 F2 => absurd c (by omega))⟩) (fun c h1 r' X1 S1 G1 => ⟨_, rfl, ⟨w, Y.fc G1⟩, c_X12_undo (Y.fc G1) R.e7 B6 (fun c' h2 Y2 F2 => absurd c (by omega)) (fun y ey h2 Y2 F2 => ?_)⟩)
  subst ey
  exact finA X1 (G1.out hg) F2 Y2 (R.undo B6 X.n12 AW S1)
theorem q_back (I : IV x h n) : pCall E M_X11_back (d + 40) [.ref x] h n (AJQ E M_X12_back (d + 40) x []) := by
  obtain ⟨L, f, K, sz, nx, im, wb, w, g, X, Y, R, hg⟩ := I
  have A := X.wa
  have AW := X.aw
  have B1 := A.b8
  have B2 := A.m10
  have B3 := A.s24
  have B4 := A.l60
  have B5 := X.l4
  have B6 := X.s12
  have ij := @nI_ij
  have m1 := @nI_m1
  have e6 := R.eim
  refine c_X11_back X (fun c => ⟨_, rfl, ⟨w, Y⟩, c_X12_back Y (fun c' h2 Y2 F2 => finA X hg F2 Y2 R.thr) (fun c' h2 Y2 F2 => absurd (e6.trans c) c')⟩) (fun c h1 r' X1 S1 G1 => ⟨_, rfl, ⟨w, Y.fc G1⟩, c_X12_back (Y.fc G1) (fun c' h2 Y2 F2 => absurd (e6.symm.trans c') c) (fun c' h2 Y2 F2 => finA X1 (G1.out hg) F2 Y2 (R.back c AW S1))⟩)
theorem q_count {y : Int32} (I : IV x h n) : pCall E M_X11_count (d + 40) [.ref x, .int y] h n (AJQ E M_X12_count (d + 40) x [.int y]) := by
  obtain ⟨L, f, K, sz, nx, im, wb, w, g, X, Y, R, hg⟩ := I
  have A := X.wa
  have AW := X.aw
  have B1 := A.b8
  have B2 := A.m10
  have B3 := A.s24
  have B4 := A.l60
  have B5 := X.l4
  have B6 := X.s12
  have ij := @nI_ij
  have m1 := @nI_m1
  refine c_X11_count X (fun k hk ek h1 X1 G1 => ⟨_, rfl, ⟨w, Y.fc G1⟩, c_X12_count (Y.fc G1) R.1 A R.e7 (fun k' hk' ek' h2 Y2 F2 => ?_) (fun c' h2 Y2 F2 => absurd ⟨k, hk, ek⟩ c')⟩) (fun c => ⟨_, rfl, ⟨w, Y⟩, c_X12_count Y R.1 A R.e7 (fun k' hk' ek' h2 Y2 F2 => absurd ⟨k', hk', ek'⟩ c) (fun c' h2 Y2 F2 => finA X hg F2 Y2 R.thr)⟩)
  obtain rfl := nI_uq (by omega) (by omega) ek ek'
  exact finA X1 (G1.out hg) F2 Y2 R.thr
theorem q_image (I : IV x h n) : pCall E M_X11_image (d + 40) [.ref x] h n (fun r h1 n1 => r = .inl none ∧ (∃ w, MX h1 (x + 316) w) ∧ pCall E M_X12_image (d + 40) [.ref (x + 316)] h1 n1 (fun r2 h2 n2 => r2 = .inl none ∧ IV x h2 n2)) := by
  obtain ⟨L, f, K, sz, nx, im, wb, w, g, X, Y, R, hg⟩ := I
  exact c_X11_image X (fun h1 r' X1 S1 G1 => ⟨rfl, ⟨w, Y.fc G1⟩, c_X12_image (Y.fc G1) (fun h2 Y2 F2 => ⟨rfl, (finA (v := 0) X1 (G1.out hg) F2 Y2 (R.image X.aw S1)).2⟩)⟩)
end PAIRS1

/-! pairs of calls -/
section PAIRS3
variable {E : PE} {d : Nat} {h : PH} {n x : Nat}
theorem q_hand {y v z : Int32} (I : IV x h n) : pCall E M_X11_hand (d + 40) [.ref x, .int y, .int v, .int z] h n (LQ' [(xIO, 1), (xIA, 2), (xIS, 3)] (x + 329) (JQ E M_X12_hand (d + 41) x [.int y, .int v, .int z])) := by
  obtain ⟨L, f, K, sz, nx, im, wb, w, g, X, Y, R, hg⟩ := I
  have A := X.wa
  have AW := X.aw
  have B1 := A.b8
  have B2 := A.m10
  have B3 := A.s24
  have B4 := A.l60
  have B5 := X.l4
  have B6 := X.s12
  have ij := @nI_ij
  have m1 := @nI_m1
  refine c_X11_hand X (fun c n' hn => ⟨1, by simp, 1, rfl, ⟨w, Y⟩, c_X12_hand Y R.1 A R.e7 B6 (fun c' h2 b Y2 F2 => ?_) (fun i' k' hi' ei' hk' ek' c' h2 b Y2 F2 => ?_) (fun i' k' p' hi' ei' hk' ek' hp' ep' c1' c2' h2 b Y2 F2 => ?_) (fun i' k' p' hi' ei' hk' ek' hp' ep' c1' c2' c3' c4' h2 w2 Y2 F2 A2 RN => ?_)⟩) (fun i k hi ei hk ek c n' hn => ⟨2, by simp, 2, rfl, ⟨w, Y⟩, c_X12_hand Y R.1 A R.e7 B6 (fun c' h2 b Y2 F2 => ?_) (fun i' k' hi' ei' hk' ek' c' h2 b Y2 F2 => ?_) (fun i' k' p' hi' ei' hk' ek' hp' ep' c1' c2' h2 b Y2 F2 => ?_) (fun i' k' p' hi' ei' hk' ek' hp' ep' c1' c2' c3' c4' h2 w2 Y2 F2 A2 RN => ?_)⟩) (fun i k p hi ei hk ek hp ep c1 c2 n' hn => ⟨3, by simp, 3, rfl, ⟨w, Y⟩, c_X12_hand Y R.1 A R.e7 B6 (fun c' h2 b Y2 F2 => ?_) (fun i' k' hi' ei' hk' ek' c' h2 b Y2 F2 => ?_) (fun i' k' p' hi' ei' hk' ek' hp' ep' c1' c2' h2 b Y2 F2 => ?_) (fun i' k' p' hi' ei' hk' ek' hp' ep' c1' c2' c3' c4' h2 w2 Y2 F2 A2 RN => ?_)⟩) (fun i k p hi ei hk ek hp ep c1 c2 c3 c4 h1 r' S1 X1 G1 => ⟨g, G1.out hg, 0, rfl, ⟨w, (Y.fc G1).out⟩, c_X12_hand (Y.fc G1).out R.1 A R.e7 B6 (fun c' h2 b Y2 F2 => ?_) (fun i' k' hi' ei' hk' ek' c' h2 b Y2 F2 => ?_) (fun i' k' p' hi' ei' hk' ek' hp' ep' c1' c2' h2 b Y2 F2 => ?_) (fun i' k' p' hi' ei' hk' ek' hp' ep' c1' c2' c3' c4' h2 w2 Y2 F2 A2 RN => ?_)⟩)
  · exact fin1 (X.grow hn) hg F2 Y2 R.thr rfl (by decide)
  · exfalso
    grind [ix, rg]
  · exfalso
    grind [ix, rg]
  · exfalso
    grind [ix, rg]
  · exfalso
    grind [ix, rg]
  · obtain rfl := nI_uq (by omega) (by omega) ei ei'
    obtain rfl := nI_uq (by omega) (by omega) ek ek'
    exact fin1 (X.grow hn) hg F2 Y2 R.thr rfl (by decide)
  · exfalso
    grind [ix, rg]
  · exfalso
    grind [ix, rg]
  · exfalso
    grind [ix, rg]
  · exfalso
    grind [ix, rg]
  · obtain rfl := nI_uq (by omega) (by omega) ei ei'
    obtain rfl := nI_uq (by omega) (by omega) ek ek'
    obtain rfl := nI_uq (by omega) (by omega) ep ep'
    exact fin1 (X.grow hn) hg F2 Y2 R.thr rfl (by decide)
  · exfalso
    grind [ix, rg]
  · exfalso
    grind [ix, rg]
  · exfalso
    grind [ix, rg]
  · exfalso
    grind [ix, rg]
  · obtain rfl := nI_uq (by omega) (by omega) ei ei'
    obtain rfl := nI_uq (by omega) (by omega) ek ek'
    obtain rfl := nI_uq (by omega) (by omega) ep ep'
    obtain ⟨w1, A1, T2⟩ := A2
    exact fin0 X1 F2 Y2 (R.act B6 X.n12 AW A1 T2.p S1 RN) (act0 A1 T2.p)
theorem q_polish {y v : Int32} (I : IV x h n) : pCall E M_X11_polish (d + 40) [.ref x, .int y, .int v] h n (LQ' [(xIO, 1), (xIS, 2)] (x + 329) (JQ E M_X12_polish (d + 41) x [.int y, .int v])) := by
  obtain ⟨L, f, K, sz, nx, im, wb, w, g, X, Y, R, hg⟩ := I
  have A := X.wa
  have AW := X.aw
  have B1 := A.b8
  have B2 := A.m10
  have B3 := A.s24
  have B4 := A.l60
  have B5 := X.l4
  have B6 := X.s12
  have ij := @nI_ij
  have m1 := @nI_m1
  refine c_X11_polish X (fun c n' hn => ⟨1, by simp, 1, rfl, ⟨w, Y⟩, c_X12_polish Y R.1 A R.e7 B6 (fun c' h2 b Y2 F2 => ?_) (fun i' k' hi' ei' hk' ek' c' h2 b Y2 F2 => ?_) (fun i' k' hi' ei' hk' ek' c' h2 w2 Y2 F2 A2 RN => ?_)⟩) (fun i k hi ei hk ek c n' hn => ⟨2, by simp, 2, rfl, ⟨w, Y⟩, c_X12_polish Y R.1 A R.e7 B6 (fun c' h2 b Y2 F2 => ?_) (fun i' k' hi' ei' hk' ek' c' h2 b Y2 F2 => ?_) (fun i' k' hi' ei' hk' ek' c' h2 w2 Y2 F2 A2 RN => ?_)⟩) (fun i k hi ei hk ek c h1 r' S1 X1 G1 => ⟨g, G1.out hg, 0, rfl, ⟨w, (Y.fc G1).out⟩, c_X12_polish (Y.fc G1).out R.1 A R.e7 B6 (fun c' h2 b Y2 F2 => ?_) (fun i' k' hi' ei' hk' ek' c' h2 b Y2 F2 => ?_) (fun i' k' hi' ei' hk' ek' c' h2 w2 Y2 F2 A2 RN => ?_)⟩)
  · exact fin1 (X.grow hn) hg F2 Y2 R.thr rfl (by decide)
  · exfalso
    grind [ix, rg]
  · exfalso
    grind [ix, rg]
  · exfalso
    grind [ix, rg]
  · obtain rfl := nI_uq (by omega) (by omega) ei ei'
    obtain rfl := nI_uq (by omega) (by omega) ek ek'
    exact fin1 (X.grow hn) hg F2 Y2 R.thr rfl (by decide)
  · exfalso
    grind [ix, rg]
  · exfalso
    grind [ix, rg]
  · exfalso
    grind [ix, rg]
  · obtain rfl := nI_uq (by omega) (by omega) ei ei'
    obtain rfl := nI_uq (by omega) (by omega) ek ek'
    obtain ⟨w1, A1, T2⟩ := A2
    exact fin0 X1 F2 Y2 (R.act B6 X.n12 AW A1 T2.p S1 RN) (act0 A1 T2.p)
theorem q_die {y : Int32} (I : IV x h n) : pCall E M_X11_die (d + 40) [.ref x, .int y] h n (LQ' [(xIO, 1), (xIS, 2)] (x + 329) (JQ E M_X12_die (d + 41) x [.int y])) := by
  obtain ⟨L, f, K, sz, nx, im, wb, w, g, X, Y, R, hg⟩ := I
  have A := X.wa
  have AW := X.aw
  have B1 := A.b8
  have B2 := A.m10
  have B3 := A.s24
  have B4 := A.l60
  have B5 := X.l4
  have B6 := X.s12
  have ij := @nI_ij
  have m1 := @nI_m1
  refine c_X11_die X (fun c n' hn => ⟨1, by simp, 1, rfl, ⟨w, Y⟩, c_X12_die Y R.1 A R.e7 B6 (fun c' h2 b Y2 F2 => ?_) (fun i' hi' ei' c' h2 b Y2 F2 => ?_) (fun i' hi' ei' c' h2 w2 Y2 F2 A2 RN => ?_)⟩) (fun i hi ei c n' hn => ⟨2, by simp, 2, rfl, ⟨w, Y⟩, c_X12_die Y R.1 A R.e7 B6 (fun c' h2 b Y2 F2 => ?_) (fun i' hi' ei' c' h2 b Y2 F2 => ?_) (fun i' hi' ei' c' h2 w2 Y2 F2 A2 RN => ?_)⟩) (fun i hi ei c h1 r' S1 X1 G1 => ⟨g, G1.out hg, 0, rfl, ⟨w, (Y.fc G1).out⟩, c_X12_die (Y.fc G1).out R.1 A R.e7 B6 (fun c' h2 b Y2 F2 => ?_) (fun i' hi' ei' c' h2 b Y2 F2 => ?_) (fun i' hi' ei' c' h2 w2 Y2 F2 A2 RN => ?_)⟩)
  · exact fin1 (X.grow hn) hg F2 Y2 R.thr rfl (by decide)
  · exfalso
    grind [ix, rg]
  · exfalso
    grind [ix, rg]
  · exfalso
    grind [ix, rg]
  · obtain rfl := nI_uq (by omega) (by omega) ei ei'
    exact fin1 (X.grow hn) hg F2 Y2 R.thr rfl (by decide)
  · exfalso
    grind [ix, rg]
  · exfalso
    grind [ix, rg]
  · exfalso
    grind [ix, rg]
  · obtain rfl := nI_uq (by omega) (by omega) ei ei'
    obtain ⟨w1, A1, T2⟩ := A2
    exact fin0 X1 F2 Y2 (R.act B6 X.n12 AW A1 T2.p S1 RN) (act0 A1 T2.p)
theorem q_widow {y v : Int32} (I : IV x h n) : pCall E M_X11_widow (d + 40) [.ref x, .int y, .int v] h n (LQ' [(xIO, 1), (xIA, 2), (xIS, 3)] (x + 329) (JQ E M_X12_widow (d + 41) x [.int y, .int v])) := by
  obtain ⟨L, f, K, sz, nx, im, wb, w, g, X, Y, R, hg⟩ := I
  have A := X.wa
  have AW := X.aw
  have B1 := A.b8
  have B2 := A.m10
  have B3 := A.s24
  have B4 := A.l60
  have B5 := X.l4
  have B6 := X.s12
  have ij := @nI_ij
  have m1 := @nI_m1
  refine c_X11_widow X (fun c n' hn => ⟨1, by simp, 1, rfl, ⟨w, Y⟩, c_X12_widow Y R.1 A R.e7 B6 (fun c' h2 b Y2 F2 => ?_) (fun c' c2' h2 b Y2 F2 => ?_) (fun i' k' hi' ei' hk' ek' c' c2' h2 b Y2 F2 => ?_) (fun i' k' hi' ei' hk' ek' c' c2' c3' h2 w2 Y2 F2 A2 RN => ?_)⟩) (fun c c2 n' hn => ⟨2, by simp, 2, rfl, ⟨w, Y⟩, c_X12_widow Y R.1 A R.e7 B6 (fun c' h2 b Y2 F2 => ?_) (fun c' c2' h2 b Y2 F2 => ?_) (fun i' k' hi' ei' hk' ek' c' c2' h2 b Y2 F2 => ?_) (fun i' k' hi' ei' hk' ek' c' c2' c3' h2 w2 Y2 F2 A2 RN => ?_)⟩) (fun i k hi ei hk ek c c2 n' hn => ⟨3, by simp, 3, rfl, ⟨w, Y⟩, c_X12_widow Y R.1 A R.e7 B6 (fun c' h2 b Y2 F2 => ?_) (fun c' c2' h2 b Y2 F2 => ?_) (fun i' k' hi' ei' hk' ek' c' c2' h2 b Y2 F2 => ?_) (fun i' k' hi' ei' hk' ek' c' c2' c3' h2 w2 Y2 F2 A2 RN => ?_)⟩) (fun i k hi ei hk ek c c2 c3 h1 r' S1 X1 G1 => ⟨g, G1.out hg, 0, rfl, ⟨w, (Y.fc G1).out⟩, c_X12_widow (Y.fc G1).out R.1 A R.e7 B6 (fun c' h2 b Y2 F2 => ?_) (fun c' c2' h2 b Y2 F2 => ?_) (fun i' k' hi' ei' hk' ek' c' c2' h2 b Y2 F2 => ?_) (fun i' k' hi' ei' hk' ek' c' c2' c3' h2 w2 Y2 F2 A2 RN => ?_)⟩)
  · exact fin1 (X.grow hn) hg F2 Y2 R.thr rfl (by decide)
  · exfalso
    grind [ix, rg]
  · exfalso
    grind [ix, rg]
  · exfalso
    grind [ix, rg]
  · exfalso
    grind [ix, rg]
  · exact fin1 (X.grow hn) hg F2 Y2 R.thr rfl (by decide)
  · exfalso
    grind [ix, rg]
  · exfalso
    grind [ix, rg]
  · exfalso
    grind [ix, rg]
  · exfalso
    grind [ix, rg]
  · obtain rfl := nI_uq (by omega) (by omega) ei ei'
    obtain rfl := nI_uq (by omega) (by omega) ek ek'
    exact fin1 (X.grow hn) hg F2 Y2 R.thr rfl (by decide)
  · exfalso
    grind [ix, rg]
  · exfalso
    grind [ix, rg]
  · exfalso
    grind [ix, rg]
  · exfalso
    grind [ix, rg]
  · obtain rfl := nI_uq (by omega) (by omega) ei ei'
    obtain rfl := nI_uq (by omega) (by omega) ek ek'
    obtain ⟨w1, A1, T2⟩ := A2
    exact fin0 X1 F2 Y2 (R.act B6 X.n12 AW A1 T2.p S1 RN) (act0 A1 T2.p)
theorem q_wound {p v bt dp mn : Int32} (I : IV x h n) : pCall E M_X11_wound (d + 40) [.ref x, .int p, .int v, .int bt, .int dp, .int mn] h n (LQ' [(xIO, 1), (xIA, 2), (xIS, 3), (xUO, 4)] (x + 329) (JQ E M_X12_wound (d + 41) x [.int p, .int v, .int bt, .int dp, .int mn])) := by
  obtain ⟨L, f, K, sz, nx, im, wb, w, g, X, Y, R, hg⟩ := I
  have A := X.wa
  have AW := X.aw
  have B1 := A.b8
  have B2 := A.m10
  have B3 := A.s24
  have B4 := A.l60
  have B5 := X.l4
  have B6 := X.s12
  have ij := @nI_ij
  have m1 := @nI_m1
  refine c_X11_wound X (fun c n' hn => ⟨1, by simp, 1, rfl, ⟨w, Y⟩, c_X12_wound Y R.1 A R.e7 B6 (fun c' h2 b Y2 F2 => ?_) (fun u1' u2' u3' u4' c' h2 b Y2 F2 => ?_) (fun u1' u2' u3' u4' u5' c' h2 b Y2 F2 => ?_) (fun u1' u2' u3' u4' u5' u6' c' h2 b Y2 F2 => ?_) (fun u1' u2' u3' u4' u5' u6' c' h2 w2 Y2 F2 A2 RN => ?_)⟩) (fun u1 u2 u3 u4 c n' hn => ⟨2, by simp, 2, rfl, ⟨w, Y⟩, c_X12_wound Y R.1 A R.e7 B6 (fun c' h2 b Y2 F2 => ?_) (fun u1' u2' u3' u4' c' h2 b Y2 F2 => ?_) (fun u1' u2' u3' u4' u5' c' h2 b Y2 F2 => ?_) (fun u1' u2' u3' u4' u5' u6' c' h2 b Y2 F2 => ?_) (fun u1' u2' u3' u4' u5' u6' c' h2 w2 Y2 F2 A2 RN => ?_)⟩) (fun u1 u2 u3 u4 u5 c n' hn => ⟨3, by simp, 3, rfl, ⟨w, Y⟩, c_X12_wound Y R.1 A R.e7 B6 (fun c' h2 b Y2 F2 => ?_) (fun u1' u2' u3' u4' c' h2 b Y2 F2 => ?_) (fun u1' u2' u3' u4' u5' c' h2 b Y2 F2 => ?_) (fun u1' u2' u3' u4' u5' u6' c' h2 b Y2 F2 => ?_) (fun u1' u2' u3' u4' u5' u6' c' h2 w2 Y2 F2 A2 RN => ?_)⟩) (fun u1 u2 u3 u4 u5 u6 c n' hn => ⟨4, by simp, 4, rfl, ⟨w, Y⟩, c_X12_wound Y R.1 A R.e7 B6 (fun c' h2 b Y2 F2 => ?_) (fun u1' u2' u3' u4' c' h2 b Y2 F2 => ?_) (fun u1' u2' u3' u4' u5' c' h2 b Y2 F2 => ?_) (fun u1' u2' u3' u4' u5' u6' c' h2 b Y2 F2 => ?_) (fun u1' u2' u3' u4' u5' u6' c' h2 w2 Y2 F2 A2 RN => ?_)⟩) (fun u1 u2 u3 u4 u5 u6 c h1 r' S1 X1 G1 => ⟨g, G1.out hg, 0, rfl, ⟨w, (Y.fc G1).out⟩, c_X12_wound (Y.fc G1).out R.1 A R.e7 B6 (fun c' h2 b Y2 F2 => ?_) (fun u1' u2' u3' u4' c' h2 b Y2 F2 => ?_) (fun u1' u2' u3' u4' u5' c' h2 b Y2 F2 => ?_) (fun u1' u2' u3' u4' u5' u6' c' h2 b Y2 F2 => ?_) (fun u1' u2' u3' u4' u5' u6' c' h2 w2 Y2 F2 A2 RN => ?_)⟩)
  · exact fin1 (X.grow hn) hg F2 Y2 R.thr rfl (by decide)
  · exfalso
    grind
  · exfalso
    grind
  · exfalso
    grind
  · exfalso
    grind
  · exfalso
    grind
  · exact fin1 (X.grow hn) hg F2 Y2 R.thr rfl (by decide)
  · exfalso
    grind
  · exfalso
    grind
  · exfalso
    grind
  · exfalso
    grind
  · exfalso
    grind
  · exact fin1 (X.grow hn) hg F2 Y2 R.thr rfl (by decide)
  · exfalso
    grind
  · exfalso
    grind
  · exfalso
    grind
  · exfalso
    grind
  · exfalso
    grind
  · exact fin1 (X.grow hn) hg F2 Y2 R.thr rfl (by decide)
  · exfalso
    grind
  · exfalso
    grind
  · exfalso
    grind
  · exfalso
    grind
  · exfalso
    grind
  · obtain ⟨w1, A1, T2⟩ := A2
    exact fin0 X1 F2 Y2 (R.act B6 X.n12 AW A1 T2.p S1 RN) (act0 A1 T2.p)
theorem q_days {y : Int32} (I : IV x h n) : pCall E M_X11_days (d + 40) [.ref x, .int y] h n (LQ' [(xIA, 1)] (x + 329) (JQ E M_X12_days (d + 41) x [.int y])) := by
  obtain ⟨L, f, K, sz, nx, im, wb, w, g, X, Y, R, hg⟩ := I
  have A := X.wa
  have AW := X.aw
  have B1 := A.b8
  have B2 := A.m10
  have B3 := A.s24
  have B4 := A.l60
  have B5 := X.l4
  have B6 := X.s12
  have ij := @nI_ij
  have m1 := @nI_m1
  refine c_X11_days X (fun c n' hn => ⟨1, by simp, 1, rfl, ⟨w, Y⟩, c_X12_days Y R.1 A R.e7 B6 (fun c' h2 b Y2 F2 => ?_) (fun k' k1' hk' ek' h2 w2 Y2 F2 A2 RN => ?_)⟩) (fun k k1 hk ek h1 r' S1 X1 G1 => ⟨g, G1.out hg, 0, rfl, ⟨w, (Y.fc G1).out⟩, c_X12_days (Y.fc G1).out R.1 A R.e7 B6 (fun c' h2 b Y2 F2 => ?_) (fun k' k1' hk' ek' h2 w2 Y2 F2 A2 RN => ?_)⟩)
  · exact fin1 (X.grow hn) hg F2 Y2 R.thr rfl (by decide)
  · exfalso
    grind [ix, rg]
  · exfalso
    grind [ix, rg]
  · obtain rfl := nI_uq (by omega) (by omega) ek ek'
    obtain ⟨w1, A1, T2⟩ := A2
    exact fin0 X1 F2 Y2 (R.act B6 X.n12 AW A1 T2.p S1 RN) (act0 A1 T2.p)
theorem q_market {y : Int32} (I : IV x h n) : pCall E M_X11_market (d + 40) [.ref x, .int y] h n (LQ' [(xIA, 1)] (x + 329) (JQ E M_X12_market (d + 41) x [.int y])) := by
  obtain ⟨L, f, K, sz, nx, im, wb, w, g, X, Y, R, hg⟩ := I
  have A := X.wa
  have AW := X.aw
  have B1 := A.b8
  have B2 := A.m10
  have B3 := A.s24
  have B4 := A.l60
  have B5 := X.l4
  have B6 := X.s12
  have ij := @nI_ij
  have m1 := @nI_m1
  refine c_X11_market X (fun c n' hn => ⟨1, by simp, 1, rfl, ⟨w, Y⟩, c_X12_market Y R.1 A R.e7 B6 (fun c' h2 b Y2 F2 => ?_) (fun k' hk' ek' h2 w2 w1 Y2 F2 A1 T2 RN => ?_)⟩) (fun k hk ek h1 r' S1 X1 G1 => ⟨g, G1.out hg, 0, rfl, ⟨w, (Y.fc G1).out⟩, c_X12_market (Y.fc G1).out R.1 A R.e7 B6 (fun c' h2 b Y2 F2 => ?_) (fun k' hk' ek' h2 w2 w1 Y2 F2 A1 T2 RN => ?_)⟩)
  · exact fin1 (X.grow hn) hg F2 Y2 R.thr rfl (by decide)
  · exfalso
    grind [ix, rg]
  · exfalso
    grind [ix, rg]
  · obtain rfl := nI_uq (by omega) (by omega) ek ek'
    exact fin0 X1 F2 Y2 (R.act B6 X.n12 AW A1 T2 S1 RN) (act0 A1 T2)
end PAIRS3

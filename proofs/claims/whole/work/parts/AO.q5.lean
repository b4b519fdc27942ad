/-! pairs of calls -/
section PAIRS5
variable {E : PE} {d : Nat} {h : PH} {n x : Nat}
theorem q_army (hE : EC E) (I : IV x h n) : pCall E M_X11_army (d + 40) [.ref x] h n (LQ' [(xIA, 1), (xUO, 2)] (x + 329) (JQ E M_X12_army (d + 41) x [])) := by
  obtain ⟨L, f, K, sz, nx, im, wb, w, g, X, Y, R, hg⟩ := I
  have A := X.wa
  have AW := X.aw
  have B1 := A.b8
  have B2 := A.m10
  have B3 := A.s24
  have B4 := A.l60
  have B5 := X.l4
  have B6 := X.s12
  have ij := @nI_ij
  have m1 := @nI_m1
  obtain rfl := R.e6
  refine c_X11_army hE X (fun b hb h1 n' hn X1 G1 => ⟨1, by simp, 1, rfl, ⟨w, Y.fc G1⟩, c_X12_army hE (Y.fc G1) R.e9 B5 R.1 A (fun b' hb' h2 w2 Y2 F2 A2 z0 z14 z7 z1 => ?_) (fun q' hq' c' h2 w2 Y2 F2 A2 z0 z14 z7 z1 => ?_) (fun q' hq' c' h2 w2 Y2 F2 A2 z0 z14 z7 RN => ?_)⟩) (fun q hq c h1 n' hn X1 G1 => ⟨2, by simp, 2, rfl, ⟨w, Y.fc G1⟩, c_X12_army hE (Y.fc G1) R.e9 B5 R.1 A (fun b' hb' h2 w2 Y2 F2 A2 z0 z14 z7 z1 => ?_) (fun q' hq' c' h2 w2 Y2 F2 A2 z0 z14 z7 z1 => ?_) (fun q' hq' c' h2 w2 Y2 F2 A2 z0 z14 z7 RN => ?_)⟩) (fun q hq c h1 r1 r' S1 S2 W2 X1 G1 => ?_)
  · rw [hb] at hb'; cases hb'
    exact fin1 X1 (G1.out hg) F2 Y2 (R.no AW A2 z7 z14 z1) z0 (by decide)
  · rw [hb] at hq'; cases hq'
  · rw [hb] at hq'; cases hq'
  · rw [hq] at hb'; cases hb'
  · exact fin1 X1 (G1.out hg) F2 Y2 (R.no AW A2 z7 z14 z1) z0 (by decide)
  · exact absurd c' (by omega)
  · have cs := S1.cs3
    have e7 : cl r1 0 7 = cl (K 0).1 0 7 := cl_eq S1.1.2.2
    have ea : arW (w 6) L r1 = arW (w 6) L (K 0).1 := by unfold arW; rw [cs.1, cs.2.1, cs.2.2]
    refine ⟨g, G1.out hg, 0, rfl, ⟨w, (Y.fc G1).out⟩, c_X12_army hE (Y.fc G1).out R.e9 B5 (R.1.sm A S1) (A.sm S1) (fun b' hb' h2 w2 Y2 F2 A2 z0 z14 z7 z1 => ?_) (fun q' hq' c' h2 w2 Y2 F2 A2 z0 z14 z7 z1 => ?_) (fun q' hq' c' h2 w2 Y2 F2 A2 z0 z14 z7 RN => ?_)⟩
    · rw [ea, hq] at hb'; cases hb'
    · exact absurd c (by omega)
    · rw [ea, hq] at hq'; cases hq'
      rw [e7] at RN ⊢
      exact fin0 X1 F2 Y2 (R.yes A2 z7 z14 (RN.sm W2 S2)) z0
theorem q_law (hE : EC E) (I : IV x h n) : pCall E M_X11_law (d + 40) [.ref x] h n (LQ' [(xIA, 1)] (x + 329) (JQ E M_X12_law (d + 41) x [])) := by
  obtain ⟨L, f, K, sz, nx, im, wb, w, g, X, Y, R, hg⟩ := I
  have A := X.wa
  have AW := X.aw
  have B1 := A.b8
  have B2 := A.m10
  have B3 := A.s24
  have B4 := A.l60
  have B5 := X.l4
  have B6 := X.s12
  have ij := @nI_ij
  have m1 := @nI_m1
  obtain rfl := R.e6
  refine c_X11_law hE X (fun b hb h1 n' hn X1 G1 => ⟨1, by simp, 1, rfl, ⟨w, Y.fc G1⟩, c_X12_law hE (Y.fc G1) R.e9 B5 R.1 A (fun b' hb' h2 w2 Y2 F2 A2 z0 z14 z7 z1 => ?_) (fun q' hq' h2 w2 Y2 F2 A2 z0 z14 z7 RN => ?_)⟩) (fun q hq h1 X1 G1 => ⟨g, G1.out hg, 0, rfl, ⟨w, (Y.fc G1).out⟩, c_X12_law hE (Y.fc G1).out R.e9 B5 R.1 A (fun b' hb' h2 w2 Y2 F2 A2 z0 z14 z7 z1 => ?_) (fun q' hq' h2 w2 Y2 F2 A2 z0 z14 z7 RN => ?_)⟩)
  · rw [hb] at hb'; cases hb'
    exact fin1 X1 (G1.out hg) F2 Y2 (R.no AW A2 z7 z14 z1) z0 (by decide)
  · rw [hb] at hq'; cases hq'
  · rw [hq] at hb'; cases hb'
  · rw [hq] at hq'; cases hq'
    exact fin0 X1 F2 Y2 (R.yes A2 z7 z14 RN) z0
end PAIRS5

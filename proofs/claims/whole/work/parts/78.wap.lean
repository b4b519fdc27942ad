/-! what lines do to an army keeps it well-formed -/
section WAP
variable {r : AR}
theorem ru_row {k i k' : Nat} {x : Int32} (e : k' ≠ k) : ru r k i x k' = r k' := ru_ne e
theorem WA.dead (W : WA r) {j : Nat} (hj : j < 32) (h : cl r 5 0 ≤ j) : bI (r 5 1) j = false := by
  have := W.2.2.2.2.2.2 j hj h
  rw [shr1 _ hj] at this
  cases c : bI (r 5 1) j with
  | false => rfl
  | true => rw [if_pos c] at this; exact absurd this (by decide)
theorem dead_of {x : Int32} {m : Nat} (h : ∀ j, j < 32 → m ≤ j → bI x j = false) : ∀ j, j < 32 → m ≤ j → (x >>> (nI j &&& 31)) &&& 1 = 0 := by
  intro j h1 h2
  rw [shr1 _ h1, if_neg (by rw [h j h1 h2]; decide)]
theorem WA.ap0 (W : WA r) {x y z : Int32} {q : Int32 × Int32 × Int32} (V : vC (cl r 1 0) (cl r 5 0) (cl r 8 0) (0, x, y, z, q)) : WA (apC r (0, x, y, z, q)) := by
  obtain ⟨v0, ⟨i1, g1, e1⟩, ⟨i2, g2, e2⟩, ⟨i3, g3, e3⟩⟩ := V
  have c1 : cl (apC r (0, x, y, z, q)) 1 0 = cl r 1 0 + 1 := cl_of (show _ = nI (cl r 1 0 + 1) from rfl) (by omega)
  have c5 : cl (apC r (0, x, y, z, q)) 5 0 = cl r 5 0 := rfl
  have c8 : cl (apC r (0, x, y, z, q)) 8 0 = cl r 8 0 := rfl
  have at2 : ∀ j, apC r (0, x, y, z, q) 2 j = if j = cl r 1 0 then x else r 2 j := fun j => by
    show ru (ru (ru (ru r 2 _ x) 3 _ y) 4 _ z) 1 0 _ 2 j = _
    rw [ru_ne (by decide), ru_ne (by decide), ru_ne (by decide), ru_at]; simp
  have at3 : ∀ j, apC r (0, x, y, z, q) 3 j = if j = cl r 1 0 then y else r 3 j := fun j => by
    show ru (ru (ru (ru r 2 _ x) 3 _ y) 4 _ z) 1 0 _ 3 j = _
    rw [ru_ne (by decide), ru_ne (by decide), ru_at, ru_ne (by decide)]; simp
  have at4 : ∀ j, apC r (0, x, y, z, q) 4 j = if j = cl r 1 0 then z else r 4 j := fun j => by
    show ru (ru (ru (ru r 2 _ x) 3 _ y) 4 _ z) 1 0 _ 4 j = _
    rw [ru_ne (by decide), ru_at, ru_ne (by decide), ru_ne (by decide)]; simp
  refine ⟨⟨NB.of (show _ = nI (cl r 1 0 + 1) from rfl) (by omega) (by decide), W.1.2.1, W.1.2.2.1, W.1.2.2.2.1, W.1.2.2.2.2.1, W.1.2.2.2.2.2.1, W.1.2.2.2.2.2.2⟩, ?_, W.2.2.1, ?_, W.2.2.2.2.1, W.2.2.2.2.2.1, W.2.2.2.2.2.2⟩
  · intro j hj
    rw [c1] at hj
    by_cases c : j = cl r 1 0
    · exact ⟨NB.of (x := i1) (by rw [at2, if_pos c]; exact e1) g1 (by decide), NB.of (x := i2) (by rw [at3, if_pos c]; exact e2) g2 (by decide), NB.of (x := i3) (by rw [at4, if_pos c]; exact e3) g3 (by decide)⟩
    · obtain ⟨a1, a2, a3⟩ := W.2.1 j (by omega)
      exact ⟨a1.eq (by rw [at2, if_neg c]), a2.eq (by rw [at3, if_neg c]), a3.eq (by rw [at4, if_neg c])⟩
  · intro s hs
    obtain ⟨a1, a2, a3, a4, a5, a6, a7, a8⟩ := W.2.2.2.1 s hs
    rw [c1]
    exact ⟨a1, a2, a3.lt (by omega), a4, a5, a6, a7, a8⟩
theorem WA.ap1 (W : WA r) {x : Int32} {q : Int32 × Int32 × Int32 × Int32 × Int32} (V : vC (cl r 1 0) (cl r 5 0) (cl r 8 0) (1, x, q)) : WA (apC r (1, x, q)) := by
  obtain ⟨v0, ⟨i1, g1, e1⟩⟩ := V
  have c5 : cl (apC r (1, x, q)) 5 0 = cl r 5 0 + 1 := cl_of (show _ = nI (cl r 5 0 + 1) from rfl) (by omega)
  have at6 : ∀ j, apC r (1, x, q) 6 j = if j = cl r 5 0 then nI (cl r 5 0) else r 6 j := fun j => by
    show ru (ru (ru (ru r 6 _ _) 7 _ x) 5 1 _) 5 0 _ 6 j = _
    rw [ru_ne (by decide), ru_ne (by decide), ru_ne (by decide), ru_at]; simp
  have at7 : ∀ j, apC r (1, x, q) 7 j = if j = cl r 5 0 then x else r 7 j := fun j => by
    show ru (ru (ru (ru r 6 _ _) 7 _ x) 5 1 _) 5 0 _ 7 j = _
    rw [ru_ne (by decide), ru_ne (by decide), ru_at, ru_ne (by decide)]; simp
  refine ⟨⟨W.1.1, NB.of (show _ = nI (cl r 5 0 + 1) from rfl) (by omega) (by decide), W.1.2.2.1, W.1.2.2.2.1, W.1.2.2.2.2.1, W.1.2.2.2.2.2.1, W.1.2.2.2.2.2.2⟩, W.2.1, ?_, ?_, ?_, W.2.2.2.2.2.1, ?_⟩
  · intro j hj
    rw [c5] at hj ⊢
    by_cases c : j = cl r 5 0
    · exact ⟨NB.of (x := cl r 5 0) (by rw [at6, if_pos c]) (by omega) (by omega), NB.of (x := i1) (by rw [at7, if_pos c]; exact e1) g1 (by decide)⟩
    · obtain ⟨a1, a2⟩ := W.2.2.1 j (by omega)
      exact ⟨(a1.eq (by rw [at6, if_neg c])).lt (by omega), a2.eq (by rw [at7, if_neg c])⟩
  · intro s hs
    obtain ⟨a1, a2, a3, a4, a5, a6, a7, a8⟩ := W.2.2.2.1 s hs
    rw [c5]
    exact ⟨a1, a2, a3, a4, a5, a6.lt (by omega), a7.lt (by omega), a8⟩
  · intro i j hi hj e
    rw [c5] at hi hj
    rw [at6, at6] at e
    by_cases ci : i = cl r 5 0
    · by_cases cj : j = cl r 5 0
      · omega
      · rw [if_pos ci, if_neg cj] at e
        obtain ⟨a1, -⟩ := W.2.2.1 j (by omega)
        rw [a1.1] at e
        have := (nI_eq (by omega) (by have := a1.2; omega)).mp e
        have := a1.2
        omega
    · by_cases cj : j = cl r 5 0
      · rw [if_neg ci, if_pos cj] at e
        obtain ⟨a1, -⟩ := W.2.2.1 i (by omega)
        rw [a1.1] at e
        have := (nI_eq (by have := a1.2; omega) (by omega)).mp e
        have := a1.2
        omega
      · rw [if_neg ci, if_neg cj] at e
        exact W.2.2.2.2.1 i j (by omega) (by omega) e
  · rw [c5]
    refine dead_of (fun j h1 h2 => ?_)
    show bI (r 5 1 ||| bitI (cl r 5 0)) j = false
    rw [bI_or, W.dead h1 (by omega), bI_bit (by omega), decide_eq_false (by omega)]; rfl
theorem WA.ap2 (W : WA r) {p w b dp mn be : Int32} (V : vC (cl r 1 0) (cl r 5 0) (cl r 8 0) (2, p, w, b, dp, mn, be)) : WA (apC r (2, p, w, b, dp, mn, be)) := by
  obtain ⟨v0, ⟨i1, g1, e1⟩, ⟨i2, g2, e2⟩, ⟨i3, g3, e3⟩, ⟨i4, g4, e4⟩, ⟨i5, g5, e5⟩, ⟨i6, g6, e6⟩⟩ := V
  have c8 : cl (apC r (2, p, w, b, dp, mn, be)) 8 0 = cl r 8 0 + 1 := cl_of (show _ = nI (cl r 8 0 + 1) from rfl) (by omega)
  have at9 : ∀ k j, 9 ≤ k → k ≤ 16 → apC r (2, p, w, b, dp, mn, be) k j = if j = cl r 8 0 then (if k = 9 then p else if k = 10 then w else if k = 11 then b else if k = 12 then dp else if k = 13 then 0 else if k = 14 then mn else if k = 15 then be else 0) else r k j := fun k j h1 h2 => by
    show ru (ru (ru (ru (ru (ru (ru (ru (ru (ru r 9 _ p) 10 _ w) 11 _ b) 12 _ dp) 13 _ 0) 14 _ mn) 15 _ mn) 16 _ 0) 8 0 _) 15 _ be k j = _
    simp only [ru_at]
    by_cases c : j = cl r 8 0
    · have hk : k = 9 ∨ k = 10 ∨ k = 11 ∨ k = 12 ∨ k = 13 ∨ k = 14 ∨ k = 15 ∨ k = 16 := by omega
      rcases hk with rfl | rfl | rfl | rfl | rfl | rfl | rfl | rfl <;> simp [c]
    · have : ¬ (k = 8 ∧ j = 0) := by omega
      simp [c, this]
  refine ⟨⟨W.1.1, W.1.2.1, NB.of (show _ = nI (cl r 8 0 + 1) from rfl) (by omega) (by decide), W.1.2.2.2.1, W.1.2.2.2.2.1, W.1.2.2.2.2.2.1, W.1.2.2.2.2.2.2⟩, W.2.1, W.2.2.1, ?_, W.2.2.2.2.1, W.2.2.2.2.2.1, W.2.2.2.2.2.2⟩
  intro s hs
  rw [c8] at hs
  have b8 := W.b8
  have m10 := W.m10
  by_cases c : s = cl r 8 0
  · refine ⟨NB.of (x := i1) ?_ g1 (by decide), NB.of (x := i2) ?_ g2 (by decide), NB.of (x := i3) ?_ g3 ?_, NB.of (x := i4) ?_ g4 (by decide), NB.of (x := 0) ?_ (by decide) (by decide), NB.of (x := i5) ?_ g5 ?_, NB.of (x := i6) ?_ g6 ?_, NB.of (x := 0) ?_ (by decide) (by decide)⟩
    · rw [at9 9 s (by decide) (by decide), if_pos c]; exact e1
    · rw [at9 10 s (by decide) (by decide), if_pos c]; exact e2
    · rw [at9 11 s (by decide) (by decide), if_pos c]; exact e3
    · show cl r 1 0 ≤ 2 ^ 30; omega
    · rw [at9 12 s (by decide) (by decide), if_pos c]; exact e4
    · rw [at9 13 s (by decide) (by decide), if_pos c]; rfl
    · rw [at9 14 s (by decide) (by decide), if_pos c]; exact e5
    · show cl r 5 0 ≤ 2 ^ 30; omega
    · rw [at9 15 s (by decide) (by decide), if_pos c]; exact e6
    · show cl r 5 0 ≤ 2 ^ 30; omega
    · rw [at9 16 s (by decide) (by decide), if_pos c]; rfl
  · obtain ⟨a1, a2, a3, a4, a5, a6, a7, a8⟩ := W.2.2.2.1 s (by omega)
    exact ⟨a1.eq (by rw [at9 9 s (by decide) (by decide), if_neg c]), a2.eq (by rw [at9 10 s (by decide) (by decide), if_neg c]), a3.eq (by rw [at9 11 s (by decide) (by decide), if_neg c]), a4.eq (by rw [at9 12 s (by decide) (by decide), if_neg c]), a5.eq (by rw [at9 13 s (by decide) (by decide), if_neg c]), a6.eq (by rw [at9 14 s (by decide) (by decide), if_neg c]), a7.eq (by rw [at9 15 s (by decide) (by decide), if_neg c]), a8.eq (by rw [at9 16 s (by decide) (by decide), if_neg c])⟩
theorem WA.ap3 (W : WA r) {s k : Int32} {q : Int32 × Int32 × Int32 × Int32} (V : vC (cl r 1 0) (cl r 5 0) (cl r 8 0) (3, s, k, q)) : WA (apC r (3, s, k, q)) := by
  obtain ⟨⟨i1, g1, e1⟩, ⟨i2, g2, e2⟩⟩ := V
  refine ⟨⟨W.1.1, W.1.2.1, W.1.2.2.1, W.1.2.2.2.1, W.1.2.2.2.2.1, W.1.2.2.2.2.2.1, W.1.2.2.2.2.2.2⟩, W.2.1, W.2.2.1, ?_, W.2.2.2.2.1, W.2.2.2.2.2.1, W.2.2.2.2.2.2⟩
  intro t ht
  obtain ⟨a1, a2, a3, a4, a5, a6, a7, a8⟩ := W.2.2.2.1 t ht
  exact ⟨a1, a2, a3, a4, NB.put (k' := 13) (i := s.toNatClampNeg) (x := k) a5 (fun _ _ => ⟨i2, g2, e2⟩) (by decide), a6, a7, a8⟩
theorem WA.ap4 (W : WA r) {k : Int32} {q : Int32 × Int32 × Int32 × Int32 × Int32} (V : vC (cl r 1 0) (cl r 5 0) (cl r 8 0) (4, k, q)) : WA (apC r (4, k, q)) := by
  obtain ⟨i1, g1, e1⟩ := V
  have := W.day (t := i1) (by omega)
  rw [← e1] at this
  exact this
theorem WA.bury (W : WA r) (k : Int32) : WA (ru r 5 1 (r 5 1 &&& ((1 <<< (k &&& 31)) ^^^ -1))) := by
  refine ⟨⟨W.1.1, W.1.2.1, W.1.2.2.1, W.1.2.2.2.1, W.1.2.2.2.2.1, W.1.2.2.2.2.2.1, W.1.2.2.2.2.2.2⟩, W.2.1, W.2.2.1, W.2.2.2.1, W.2.2.2.2.1, W.2.2.2.2.2.1, ?_⟩
  refine dead_of (fun j h1 h2 => ?_)
  show bI (r 5 1 &&& _) j = false
  rw [bI_and, W.dead h1 h2]; rfl
theorem WA.apC (W : WA r) {c : Cmd} (V : vC (cl r 1 0) (cl r 5 0) (cl r 8 0) c) : WA (apC r c) := by
  match c, V with
  | (0, x, y, z, q), V => exact W.ap0 V
  | (1, x, q), V => exact W.ap1 V
  | (2, p, w, b, dp, mn, be), V => exact W.ap2 V
  | (3, s, k, q), V => exact W.ap3 V
  | (4, k, q), V => exact W.ap4 V
  | (5, k, q), V => exact W.bury k
  | (t + 6, _), V => exact V.elim
theorem WA.cn (W : WA r) : CN r (cl r 1 0, cl r 5 0, cl r 8 0) := ⟨W.hb, W.b8, W.hm, W.m10, W.hs, W.s24⟩
theorem CN.cl {q : Nat × Nat × Nat} (K : CN r q) : q = (cl r 1 0, cl r 5 0, cl r 8 0) := by
  obtain ⟨a, b, c⟩ := q
  obtain ⟨h1, h2, h3, h4, h5, h6⟩ := K
  simp only at h1 h2 h3 h4 h5 h6
  rw [cl_of h1 (by omega), cl_of h3 (by omega), cl_of h5 (by omega)]
theorem txP_wa {f : Nat → Int32} {L : Nat} : ∀ k b (r : AR) (q : Nat × Nat × Nat), WA r → CN r q → b ≤ L → ∀ z, txP f L k b q = .inr z → WA (apL r z.2)
  | 0, b, r, q, W, N, hb, z, e => by cases e
  | k + 1, b, r, q, W, N, hb, z, e => by
    unfold txP at e
    obtain ⟨b1, c, p1, e⟩ := bnd_inr e
    have ok := lnP_ok N.2.1 N.2.2.2.1 N.2.2.2.2.2 hb p1
    have V : vC (cl r 1 0) (cl r 5 0) (cl r 8 0) c := by
      have := N.cl
      have v := ok.2
      rw [this] at v
      exact v
    split at e
    · cases e; exact W.apC V
    · split at e
      · obtain ⟨b2, cs, p2, e⟩ := bnd_inr e
        cases e
        exact txP_wa k _ (apC r c) (ctC c q) (W.apC V) (N.ap ok.2) nx_le _ p2
      · cases e
theorem arP_wa {f : Nat → Int32} {L : Nat} (W : WA r) {z : Nat × List Cmd} (e : arP f L (cl r 1 0, cl r 5 0, cl r 8 0) = .inr z) : WA (apL r z.2) := by
  unfold arP at e
  split at e
  · cases e; exact W
  · exact txP_wa 14 _ r _ W W.cn (skb_le (Nat.zero_le _)) _ e
end WAP

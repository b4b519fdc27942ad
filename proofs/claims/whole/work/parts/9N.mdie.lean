/-! the reference: a man dies, a scar is new -/
section MDIE
variable {E : PE} {M : PM} {d : Nat} {Q : PQ} {h h' : PH} {n : Nat} {m : Nat} {w : AR} {r r' : AR} {C : Option LawL} {pc : Nat} {ls : LawL} {W W' : Nat → Int32}
theorem alb {x : Nat} (hx : x < 32) : alvB r (nI x) = true ↔ bI (r 5 1) x = true := by
  unfold alvB
  rw [shr1 _ hx]
  by_cases c : bI (r 5 1) x = true
  · rw [if_pos c]; exact ⟨fun _ => c, fun _ => by decide⟩
  · rw [if_neg c]; exact ⟨fun q => absurd q (by decide), fun q => absurd q c⟩
theorem RW.die {j : Nat} (R : RW W r C) (B : BD r) (hj : j < cl r 5 0) : RW (upd W (32 + 3 * j + 0) 0) (ru r 5 1 (r 5 1 &&& ((1 <<< (nI j &&& 31)) ^^^ -1))) C := by
  obtain ⟨⟨a1, a2, a3, a4, a5, a6, a7⟩, b, c5, dd, f, g⟩ := R
  obtain ⟨h1, h2, h3, h4, h5⟩ := B
  generalize hx : r 5 1 &&& ((1 <<< (nI j &&& 31)) ^^^ -1) = x
  have i1 : cl (ru r 5 1 x) 1 0 = cl r 1 0 := rfl
  have i5 : cl (ru r 5 1 x) 5 0 = cl r 5 0 := rfl
  have i8 : cl (ru r 5 1 x) 8 0 = cl r 8 0 := rfl
  have i17 : cl (ru r 5 1 x) 17 0 = cl r 17 0 := rfl
  have i171 : cl (ru r 5 1 x) 17 1 = cl r 17 1 := rfl
  refine ⟨⟨(upd_ne (by omega)).trans a1, (upd_ne (by omega)).trans a2, (upd_ne (by omega)).trans a3, (upd_ne (by omega)).trans a4, (upd_ne (by omega)).trans a5, (upd_ne (by omega)).trans a6, (upd_ne (by omega)).trans a7⟩, ?_, ?_, ?_, ?_, ?_⟩
  · intro p hp i hi
    rw [i1] at hp
    rw [upd_ne (by omega), ru_ne (by omega)]; exact b p hp i hi
  · intro p hp
    rw [i5] at hp
    obtain ⟨e1, e2, e3⟩ := c5 p hp
    refine ⟨?_, (upd_ne (by omega)).trans e2, (upd_ne (by omega)).trans e3⟩
    have key : (alvB (ru r 5 1 x) (nI p) = true) ↔ (p ≠ j ∧ alvB r (nI p) = true) := by
      rw [alb (show p < 32 by omega), alb (show p < 32 by omega), show ru r 5 1 x 5 1 = x from rfl, ← hx, bI_and, bI_not _ (by omega), show (1 : Int32) <<< (nI j &&& 31) = bitI j from rfl, bI_bit (by omega)]
      by_cases z : p = j
      · subst z; simp
      · simp [z, Ne.symm z]
    by_cases z : p = j
    · subst z
      rw [upd_eq, if_neg (fun q => (key.mp q).1 rfl)]
    · rw [upd_ne (by omega), e1]
      by_cases y : alvB r (nI p) = true
      · rw [if_pos y, if_pos (key.mpr ⟨z, y⟩)]
      · rw [if_neg y, if_neg (fun q => y (key.mp q).2)]
  · intro p hp i hi
    rw [i8] at hp
    rw [upd_ne (by omega), ru_ne (by omega)]; exact dd p hp i hi
  · intro p hp i hi
    rw [i17] at hp
    rw [i171, upd_ne (by omega), ru_ne (by decide)]
    exact f p hp i hi
  · exact g.cg (upd_ne (by omega)) (fun p hp _ => upd_ne (by omega))
/-- the facts of a new scar -/
def a8 (p v b dp mn be : Int32) (i : Nat) : Int32 := if i = 0 then p else if i = 1 then v else if i = 2 then b else if i = 3 then dp else if i = 4 then 0 else if i = 5 then mn else if i = 6 then be else 0
theorem RW.ap2 {p v bt dp mn be : Int32} (R : RW W r C) (B : BD r) (h8 : cl r 8 0 < 24) (e2 : W' 2 = nI (cl r 8 0 + 1)) (ex : ∀ i, i < 8 → W' (62 + 8 * cl r 8 0 + i) = a8 p v bt dp mn be i) (eo : ∀ q, q ≠ 2 → (q < 62 + 8 * cl r 8 0 ∨ 70 + 8 * cl r 8 0 ≤ q) → W' q = W q) : RW W' (apC r (2, p, v, bt, dp, mn, be)) C := by
  obtain ⟨⟨a1, a2, a3, a4, a5, a6, a7⟩, b, c5, dd, f, g⟩ := R
  obtain ⟨h1, h2, h3, h4, h5⟩ := B
  have row : ∀ k, k < 8 ∨ 16 < k → apC r (2, p, v, bt, dp, mn, be) k = r k := fun k hk => by
    show ru (rAdd r (cl r 8 0) p v bt dp mn) 15 (cl r 8 0) be k = r k
    unfold rAdd
    rw [ru_ne (by omega), ru_ne (by omega), ru_ne (by omega), ru_ne (by omega), ru_ne (by omega), ru_ne (by omega), ru_ne (by omega), ru_ne (by omega), ru_ne (by omega), ru_ne (by omega)]
  have j8 : apC r (2, p, v, bt, dp, mn, be) 8 0 = nI (cl r 8 0 + 1) := rfl
  have sc : ∀ i, i < 8 → ∀ s, apC r (2, p, v, bt, dp, mn, be) (9 + i) s = if s = cl r 8 0 then a8 p v bt dp mn be i else r (9 + i) s := fun i hi s => by
    show ru (rAdd r (cl r 8 0) p v bt dp mn) 15 (cl r 8 0) be (9 + i) s = _
    unfold rAdd
    simp only [ru_at]
    by_cases z : s = cl r 8 0
    · rcases (show i = 0 ∨ i = 1 ∨ i = 2 ∨ i = 3 ∨ i = 4 ∨ i = 5 ∨ i = 6 ∨ i = 7 by omega) with rfl | rfl | rfl | rfl | rfl | rfl | rfl | rfl <;> simp [z, a8]
    · simp [z]
      omega
  generalize apC r (2, p, v, bt, dp, mn, be) = r1 at row j8 sc
  have i1 : cl r1 1 0 = cl r 1 0 := cl_row (row 1 (by decide))
  have i5 : cl r1 5 0 = cl r 5 0 := cl_row (row 5 (by decide))
  have i8 : cl r1 8 0 = cl r 8 0 + 1 := cl_of j8 (by omega)
  have i17 : cl r1 17 0 = cl r 17 0 := cl_row (row 17 (by decide))
  have i171 : cl r1 17 1 = cl r 17 1 := cl_row (row 17 (by decide))
  refine ⟨⟨?_, ?_, ?_, ?_, ?_, ?_, ?_⟩, ?_, ?_, ?_, ?_, ?_⟩
  · rw [eo _ (by decide) (by omega), row 1 (by decide)]; exact a1
  · rw [eo _ (by decide) (by omega), row 5 (by decide)]; exact a2
  · rw [e2, j8]
  · rw [eo _ (by decide) (by omega), row 0 (by decide)]; exact a4
  · rw [eo _ (by decide) (by omega), row 0 (by decide)]; exact a5
  · rw [eo _ (by decide) (by omega), row 17 (by decide)]; exact a6
  · rw [eo _ (by decide) (by omega), row 0 (by decide)]; exact a7
  · intro j hj i hi
    rw [i1] at hj
    rw [eo _ (by omega) (by omega), row (2 + i) (by omega)]; exact b j hj i hi
  · intro j hj
    rw [i5] at hj
    obtain ⟨e1, e2', e3⟩ := c5 j hj
    refine ⟨?_, ?_, ?_⟩
    · rw [eo _ (by omega) (by omega), e1]
      unfold alvB
      rw [row 5 (by decide)]
    · rw [eo _ (by omega) (by omega), row 6 (by decide)]; exact e2'
    · rw [eo _ (by omega) (by omega), row 7 (by decide)]; exact e3
  · intro s hs i hi
    rw [i8] at hs
    rw [sc i hi]
    by_cases z : s = cl r 8 0
    · rw [if_pos z, z]; exact ex i hi
    · rw [if_neg z, eo _ (by omega) (by omega)]; exact dd s (by omega) i hi
  · intro i hi k hk
    rw [i17] at hi
    rw [i171, eo _ (by omega) (by omega), row 18 (by decide)]; exact f i hi k hk
  · exact g.cg (eo 4 (by decide) (by omega)) (fun p hp _ => eo p (by omega) (by omega))
end MDIE

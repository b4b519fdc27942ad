/-! the reference: lines of the army -/
section MREAD1
variable {E : PE} {M : PM} {d : Nat} {Q : PQ} {h h' : PH} {n : Nat} {m a : Nat} {w : AR} {r : AR} {C : Option LawL} {pc : Nat} {L p b e : Nat} {cs : List Nat} {W W' : Nat → Int32}
/-- what the reading of a line leaves -/
def LQ (Q : PQ) (n m L : Nat) (h : PH) (w r : AR) (C : Option LawL) (R : PR Cmd) : Prop := match R with
  | .inl b => ∀ h' w' p', p' ≤ L → MX h' m (pp w' p' b) → FM m h h' → (∀ k, k ≠ 1 → w' k = w k) → Q (.inl (some (.int 0))) h' n
  | .inr q => ∀ h' w' p' b', p' ≤ L → skb (w 6) L p' = q.1 → MX h' m (pp w' p' b') → FM m h h' → (∀ k, k ≠ 1 → w' k = w k) → RW (w' 1) (apC r q.2) C → Q (.inl (some (.int 1))) h' n
theorem pp_ru {q : Nat} {x : Int32} : ru (pp w p b) 1 q x = pp (ru w 1 q x) p b := by
  unfold pp
  rw [ru_comm (k := 0) (k' := 1) (by decide), ru_comm (k := 0) (k' := 1) (by decide)]
theorem MX.wr {q : Nat} (X : MX h m (pp w p b)) (x : Int32) : MX (pu h (m + 1) (MC m (ru (pp w p b) 1 q x) 1)) m (pp (ru w 1 q x) p b) ∧ FM m h (pu h (m + 1) (MC m (ru (pp w p b) 1 q x) 1)) := by
  obtain ⟨X1, F1⟩ := X.set (k := 1) (i := q) (by decide) (by decide) x
  refine ⟨?_, F1⟩
  have := X1
  rw [show MX _ m (ru (pp w p b) 1 q x) = MX _ m (pp (ru w 1 q x) p b) from congrArg (MX _ m) pp_ru] at this
  exact this
theorem RW.ap1 {x : Int32} (R : RW W r C) (B : BD r) (h5 : cl r 5 0 < 10) (hd : bI (r 5 1) (cl r 5 0) = false) (e1 : W' 1 = nI (cl r 5 0 + 1)) (e2 : W' (32 + 3 * cl r 5 0 + 0) = 1) (e3 : W' (32 + 3 * cl r 5 0 + 1) = nI (cl r 5 0)) (e4 : W' (32 + 3 * cl r 5 0 + 2) = x)
    (eo : ∀ q, q ≠ 1 → (q < 32 + 3 * cl r 5 0 ∨ 35 + 3 * cl r 5 0 ≤ q) → W' q = W q) : RW W' (apC r (1, x, 0, 0, 0, 0, 0)) C := by
  obtain ⟨⟨a1, a2, a3, a4, a5, a6, a7⟩, b, c5, dd, f, g⟩ := R
  obtain ⟨h1, h2, h3, h4, h5'⟩ := B
  have row : ∀ k, k ≠ 5 → k ≠ 6 → k ≠ 7 → apC r (1, x, 0, 0, 0, 0, 0) k = r k := fun k k5 k6 k7 => by
    show ru (ru (ru (ru r 6 (cl r 5 0) (nI (cl r 5 0))) 7 (cl r 5 0) x) 5 1 (r 5 1 ||| bitI (cl r 5 0))) 5 0 (nI (cl r 5 0 + 1)) k = r k
    rw [ru_ne k5, ru_ne k5, ru_ne k7, ru_ne k6]
  have j5 : apC r (1, x, 0, 0, 0, 0, 0) 5 0 = nI (cl r 5 0 + 1) := rfl
  have j51 : apC r (1, x, 0, 0, 0, 0, 0) 5 1 = r 5 1 ||| bitI (cl r 5 0) := rfl
  have j6 : ∀ i, apC r (1, x, 0, 0, 0, 0, 0) 6 i = if i = cl r 5 0 then nI (cl r 5 0) else r 6 i := fun i => rfl
  have j7 : ∀ i, apC r (1, x, 0, 0, 0, 0, 0) 7 i = if i = cl r 5 0 then x else r 7 i := fun i => rfl
  generalize apC r (1, x, 0, 0, 0, 0, 0) = r1 at row j5 j51 j6 j7
  have i1 : cl r1 1 0 = cl r 1 0 := cl_row (row 1 (by decide) (by decide) (by decide))
  have i5 : cl r1 5 0 = cl r 5 0 + 1 := cl_of j5 (by omega)
  have i8 : cl r1 8 0 = cl r 8 0 := cl_row (row 8 (by decide) (by decide) (by decide))
  have i17 : cl r1 17 0 = cl r 17 0 := cl_row (row 17 (by decide) (by decide) (by decide))
  have i171 : cl r1 17 1 = cl r 17 1 := cl_row (row 17 (by decide) (by decide) (by decide))
  refine ⟨⟨?_, ?_, ?_, ?_, ?_, ?_, ?_⟩, ?_, ?_, ?_, ?_, ?_⟩
  · rw [eo _ (by decide) (by omega), row 1 (by decide) (by decide) (by decide)]; exact a1
  · rw [e1, j5]
  · rw [eo _ (by decide) (by omega), row 8 (by decide) (by decide) (by decide)]; exact a3
  · rw [eo _ (by decide) (by omega), row 0 (by decide) (by decide) (by decide)]; exact a4
  · rw [eo _ (by decide) (by omega), row 0 (by decide) (by decide) (by decide)]; exact a5
  · rw [eo _ (by decide) (by omega), row 17 (by decide) (by decide) (by decide)]; exact a6
  · rw [eo _ (by decide) (by omega), row 0 (by decide) (by decide) (by decide)]; exact a7
  · intro j hj i hi
    rw [i1] at hj
    rw [eo _ (by omega) (by omega), row (2 + i) (by omega) (by omega) (by omega)]; exact b j hj i hi
  · intro j hj
    rw [i5] at hj
    have key : alvB r1 (nI j) = true ↔ (j = cl r 5 0 ∨ alvB r (nI j) = true) := by
      rw [alb (show j < 32 by omega), alb (show j < 32 by omega), j51, bI_or, bI_bit (by omega)]
      by_cases z : j = cl r 5 0
      · simp [z]
      · simp [z, Ne.symm z]
    by_cases z : j = cl r 5 0
    · subst z
      refine ⟨?_, ?_, ?_⟩
      · rw [e2, if_pos (key.mpr (Or.inl rfl))]
      · rw [e3, j6, if_pos rfl]
      · rw [e4, j7, if_pos rfl]
    · obtain ⟨y1, y2, y3⟩ := c5 j (by omega)
      refine ⟨?_, ?_, ?_⟩
      · rw [eo _ (by omega) (by omega), y1]
        by_cases y : alvB r (nI j) = true
        · rw [if_pos y, if_pos (key.mpr (Or.inr y))]
        · rw [if_neg y, if_neg (fun q => y ((key.mp q).resolve_left z))]
      · rw [eo _ (by omega) (by omega), j6, if_neg z]; exact y2
      · rw [eo _ (by omega) (by omega), j7, if_neg z]; exact y3
  · intro s hs i hi
    rw [i8] at hs
    rw [eo _ (by omega) (by omega), row (9 + i) (by omega) (by omega) (by omega)]; exact dd s hs i hi
  · intro i hi k hk
    rw [i17] at hi
    rw [i171, eo _ (by omega) (by omega), row 18 (by decide) (by decide) (by decide)]; exact f i hi k hk
  · exact g.cg (eo 4 (by decide) (by omega)) (fun p hp _ => eo p (by omega) (by omega))
theorem RW.ap0 {x y z : Int32} (R : RW W r C) (B : BD r) (h8 : cl r 1 0 < 8) (e1 : W' 0 = nI (cl r 1 0 + 1)) (e2 : W' (8 + 3 * cl r 1 0 + 0) = x) (e3 : W' (8 + 3 * cl r 1 0 + 1) = y) (e4 : W' (8 + 3 * cl r 1 0 + 2) = z)
    (eo : ∀ q, q ≠ 0 → (q < 8 + 3 * cl r 1 0 ∨ 11 + 3 * cl r 1 0 ≤ q) → W' q = W q) : RW W' (apC r (0, x, y, z, 0, 0, 0)) C := by
  obtain ⟨⟨a1, a2, a3, a4, a5, a6, a7⟩, b, c5, dd, f, g⟩ := R
  obtain ⟨h1, h2, h3, h4, h5'⟩ := B
  have row : ∀ k, k = 0 ∨ 4 < k → apC r (0, x, y, z, 0, 0, 0) k = r k := fun k hk => by
    show ru (ru (ru (ru r 2 (cl r 1 0) x) 3 (cl r 1 0) y) 4 (cl r 1 0) z) 1 0 (nI (cl r 1 0 + 1)) k = r k
    rw [ru_ne (by omega), ru_ne (by omega), ru_ne (by omega), ru_ne (by omega)]
  have j1 : apC r (0, x, y, z, 0, 0, 0) 1 0 = nI (cl r 1 0 + 1) := rfl
  have j2 : ∀ i, apC r (0, x, y, z, 0, 0, 0) 2 i = if i = cl r 1 0 then x else r 2 i := fun i => rfl
  have j3 : ∀ i, apC r (0, x, y, z, 0, 0, 0) 3 i = if i = cl r 1 0 then y else r 3 i := fun i => rfl
  have j4 : ∀ i, apC r (0, x, y, z, 0, 0, 0) 4 i = if i = cl r 1 0 then z else r 4 i := fun i => rfl
  generalize apC r (0, x, y, z, 0, 0, 0) = r1 at row j1 j2 j3 j4
  have i1 : cl r1 1 0 = cl r 1 0 + 1 := cl_of j1 (by omega)
  have i5 : cl r1 5 0 = cl r 5 0 := cl_row (row 5 (by decide))
  have i8 : cl r1 8 0 = cl r 8 0 := cl_row (row 8 (by decide))
  have i17 : cl r1 17 0 = cl r 17 0 := cl_row (row 17 (by decide))
  have i171 : cl r1 17 1 = cl r 17 1 := cl_row (row 17 (by decide))
  refine ⟨⟨?_, ?_, ?_, ?_, ?_, ?_, ?_⟩, ?_, ?_, ?_, ?_, ?_⟩
  · rw [e1, j1]
  · rw [eo _ (by decide) (by omega), row 5 (by decide)]; exact a2
  · rw [eo _ (by decide) (by omega), row 8 (by decide)]; exact a3
  · rw [eo _ (by decide) (by omega), row 0 (by decide)]; exact a4
  · rw [eo _ (by decide) (by omega), row 0 (by decide)]; exact a5
  · rw [eo _ (by decide) (by omega), row 17 (by decide)]; exact a6
  · rw [eo _ (by decide) (by omega), row 0 (by decide)]; exact a7
  · intro j hj i hi
    rw [i1] at hj
    by_cases q : j = cl r 1 0
    · subst q
      rcases (show i = 0 ∨ i = 1 ∨ i = 2 by omega) with rfl | rfl | rfl
      · rw [e2, j2, if_pos rfl]
      · rw [e3, j3, if_pos rfl]
      · rw [e4, j4, if_pos rfl]
    · have := b j (by omega) i hi
      rw [eo _ (by omega) (by omega), this]
      rcases (show i = 0 ∨ i = 1 ∨ i = 2 by omega) with rfl | rfl | rfl
      · rw [j2, if_neg q]
      · rw [j3, if_neg q]
      · rw [j4, if_neg q]
  · intro j hj
    rw [i5] at hj
    obtain ⟨y1, y2, y3⟩ := c5 j hj
    refine ⟨?_, ?_, ?_⟩
    · rw [eo _ (by omega) (by omega), y1]
      unfold alvB
      rw [row 5 (by decide)]
    · rw [eo _ (by omega) (by omega), row 6 (by decide)]; exact y2
    · rw [eo _ (by omega) (by omega), row 7 (by decide)]; exact y3
  · intro s hs i hi
    rw [i8] at hs
    rw [eo _ (by omega) (by omega), row (9 + i) (by omega)]; exact dd s hs i hi
  · intro i hi k hk
    rw [i17] at hi
    rw [i171, eo _ (by omega) (by omega), row 18 (by decide)]; exact f i hi k hk
  · exact g.cg (eo 4 (by decide) (by omega)) (fun p hp _ => eo p (by omega) (by omega))
end MREAD1

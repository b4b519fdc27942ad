/-! Army: sales, days -/
section SALES
variable {E : PE} {M : PM} {d : Nat} {Q : PQ} {h : PH} {n : Nat} {a b : Nat} {r rb : AR} {lw lb : Option Nat} {C Cb : Option LawL} {pc : Nat}
theorem nn_nI {x : Int32} (h : 0 ≤ x) : x = nI x.toNatClampNeg ∧ x.toNatClampNeg < 2 ^ 31 := by
  rcases pk_ix x (n := 2 ^ 31 - 1) (by decide) with c | c | ⟨i, hi, rfl⟩
  · exact absurd h (Int32.not_le.mpr c)
  · have e : x = nI (2 ^ 31 - 1) := by
      apply Int32.le_antisymm
      · exact Int32.le_iff_toInt_le.mpr (by have := Int32.toInt_le x; rw [show (nI (2 ^ 31 - 1)).toInt = 2147483647 from rfl]; exact this)
      · exact c
    rw [e]
    exact ⟨by rw [nI_clamp (by decide)], by rw [nI_clamp (by decide)]; decide⟩
  · rw [nI_clamp (by omega)]; exact ⟨rfl, by omega⟩
theorem mx0_nn (x : Int32) : 0 ≤ mx0 x := by
  unfold mx0
  split
  · rename_i c; exact Int32.le_of_lt c
  · exact Int32.le_refl _
theorem prS_nn {r : AR} {C : Option LawL} {nl s : Nat} : 0 ≤ prS r C nl s := by
  unfold prS
  split
  · exact mx0_nn _
  · exact Int32.le_refl _
/-- a well-formed army -/
def WA (r : AR) : Prop :=
  (NB r 1 0 9 ∧ NB r 5 0 11 ∧ NB r 8 0 25 ∧ NB r 17 0 61 ∧ NB r 17 1 60 ∧ NB r 0 5 10000 ∧ NB r 0 7 13) ∧
  (∀ j, j < cl r 1 0 → NB r 2 j 10 ∧ NB r 3 j 1000 ∧ NB r 4 j 64) ∧
  (∀ j, j < cl r 5 0 → NB r 6 j (cl r 5 0) ∧ NB r 7 j 10000) ∧
  (∀ s, s < cl r 8 0 → NB r 9 s 12 ∧ NB r 10 s 6 ∧ NB r 11 s (cl r 1 0) ∧ NB r 12 s 10 ∧ NB r 13 s 10 ∧ NB r 14 s (cl r 5 0) ∧ NB r 15 s (cl r 5 0) ∧ NB r 16 s 8) ∧
  (∀ i j, i < cl r 5 0 → j < cl r 5 0 → r 6 i = r 6 j → i = j) ∧ (cl r 17 0 < 60 → cl r 17 1 = cl r 17 0) ∧ (∀ j, j < 32 → cl r 5 0 ≤ j → (r 5 1 >>> (nI j &&& 31)) &&& 1 = 0)
theorem NB.lt {r : AR} {k j B B' : Nat} (h : NB r k j B) (hB : B ≤ B') : NB r k j B' := ⟨h.1, Nat.lt_of_lt_of_le h.2 hB⟩
theorem NB.row {r r' : AR} {k j B : Nat} (h : NB r k j B) (e : r' k = r k) : NB r' k j B := by unfold NB cl at *; rw [e]; exact h
theorem cl_row {r r' : AR} {k j : Nat} (e : r' k = r k) : cl r' k j = cl r k j := by unfold cl; rw [e]
theorem WA.b8 (W : WA r) : cl r 1 0 ≤ 8 := by have := W.1.1.2; omega
theorem WA.m10 (W : WA r) : cl r 5 0 ≤ 10 := by have := W.1.2.1.2; omega
theorem WA.s24 (W : WA r) : cl r 8 0 ≤ 24 := by have := W.1.2.2.1.2; omega
theorem WA.l60 (W : WA r) : cl r 17 0 ≤ 60 := by have := W.1.2.2.2.1.2; omega
theorem WA.hb (W : WA r) : r 1 0 = nI (cl r 1 0) := W.1.1.1
theorem WA.hm (W : WA r) : r 5 0 = nI (cl r 5 0) := W.1.2.1.1
theorem WA.hs (W : WA r) : r 8 0 = nI (cl r 8 0) := W.1.2.2.1.1
theorem WA.hl (W : WA r) : r 17 0 = nI (cl r 17 0) := W.1.2.2.2.1.1
theorem WA.hx (W : WA r) : r 17 1 = nI (cl r 17 1) := W.1.2.2.2.2.1.1
theorem WA.x60 (W : WA r) : cl r 17 1 < 60 := W.1.2.2.2.2.1.2
theorem WA.wr (W : WA r) : WR r 11 (cl r 8 0) 8 := fun j hj => ⟨cl r 11 j, Nat.lt_of_lt_of_le (W.2.2.2.1 j hj).2.2.1.2 W.b8, (W.2.2.2.1 j hj).2.2.1.1⟩
theorem WA.bear (W : WA r) {s : Nat} (hs : s < cl r 8 0) : NB r 15 s (cl r 5 0) := (W.2.2.2.1 s hs).2.2.2.2.2.2.1
theorem WA.coin (W : WA r) {j : Nat} (hj : j < cl r 5 0) : NB r 7 j 10000 := (W.2.2.1 j hj).2
theorem WA.name (W : WA r) {j : Nat} (hj : j < cl r 5 0) : NB r 6 j (cl r 5 0) := (W.2.2.1 j hj).1
theorem byS_in {r : AR} {C : Option LawL} {m s : Nat} : ∀ j, (byS r C m s j).1 = -1 ∨ ∃ t, t < j ∧ (byS r C m s j).1 = nI t ∧ alvB r (nI t) = true ∧ r 15 s ≠ nI t
  | 0 => Or.inl rfl
  | j + 1 => by
    rw [byS]
    split
    · rename_i c
      exact Or.inr ⟨j, by omega, rfl, c.1, c.2.1⟩
    · rcases byS_in j with c | ⟨t, h1, h2⟩
      · exact Or.inl c
      · exact Or.inr ⟨t, by omega, h2⟩
/-- rows that a change of one place leaves -/
theorem NB.put {r : AR} {k j B k' i : Nat} {x : Int32} (h : NB r k j B) (hx : k = k' → j = i → ∃ y, y < B ∧ x = nI y) (hB : B ≤ 2 ^ 30) : NB (ru r k' i x) k j B := by
  by_cases e : k = k'
  · by_cases e2 : j = i
    · obtain ⟨y, y1, y2⟩ := hx e e2
      refine NB.of (x := y) ?_ y1 hB
      subst e e2
      rw [ru_eq, upd, if_pos rfl]; exact y2
    · have : ru r k' i x k j = r k j := by subst e; rw [ru_eq, upd, if_neg e2]
      unfold NB cl at *; rw [this]; exact h
  · exact h.row (ru_ne e)
theorem ru_at {r : AR} {k i k' j : Nat} {x : Int32} : ru r k i x k' j = if k' = k ∧ j = i then x else r k' j := by
  by_cases e : k' = k
  · subst e
    rw [ru_eq, upd]
    by_cases e2 : j = i
    · rw [if_pos e2, if_pos ⟨rfl, e2⟩]
    · rw [if_neg e2, if_neg (fun z => e2 z.2)]
  · rw [ru_ne e, if_neg (fun z => e z.1)]
theorem WA.seed (W : WA r) (x : Int32) : WA (ru r 0 6 x) := by
  obtain ⟨⟨w1, w2, w3, w4, w5, w6, w7⟩, w8⟩ := W
  refine ⟨⟨w1, w2, w3, w4, w5, ?_, ?_⟩, w8⟩
  · exact w6.put (fun _ e => absurd e (by decide)) (by decide)
  · exact w7.put (fun _ e => absurd e (by decide)) (by decide)
theorem hdS_at {s to pay : Nat} {k j : Nat} : hdS r s to pay k j =
    if k = 7 then (if j = cl r 15 s then nI (min 9999 (cl r 7 (cl r 15 s) + pay)) else if j = to then nI (cl r 7 to - pay) else r 7 j)
    else if k = 6 then (if j = to then r 6 (cl r 15 s) else if j = cl r 15 s then r 6 to else r 6 j)
    else if k = 15 then (if j = s then nI to else r 15 j)
    else if k = 17 then (if j = 0 then nI (min 60 (cl r 17 0 + 1)) else if j = 1 then nI ((cl r 17 1 + 1) % 60) else r 17 j)
    else if k = 18 then (if j = cl r 17 1 * 5 + 4 then nI pay else if j = cl r 17 1 * 5 + 3 then nI to else if j = cl r 17 1 * 5 + 2 then nI (cl r 15 s) else if j = cl r 17 1 * 5 + 1 then nI s else if j = cl r 17 1 * 5 then r 0 5 else r 18 j)
    else r k j := by
  unfold hdS rLog
  simp only [ru_at]
  by_cases k7 : k = 7
  · subst k7; simp
  by_cases k6 : k = 6
  · subst k6; simp
  by_cases k15 : k = 15
  · subst k15; simp
  by_cases k17 : k = 17
  · subst k17; simp
  by_cases k18 : k = 18
  · subst k18; simp
  simp [k7, k6, k15, k17, k18]
theorem hdS_row {s to pay k : Nat} (h : k ≠ 6 ∧ k ≠ 7 ∧ k ≠ 15 ∧ k ≠ 17 ∧ k ≠ 18) : hdS r s to pay k = r k := by
  funext j
  rw [hdS_at, if_neg h.2.1, if_neg h.1, if_neg h.2.2.1, if_neg h.2.2.2.1, if_neg h.2.2.2.2]
theorem WA.hd (W : WA r) {s to pay : Nat} (hs : s < cl r 8 0) (ht : to < cl r 5 0) (hne : cl r 15 s ≠ to) : WA (hdS r s to pay) := by
  have hf := W.bear hs
  have q1 : hdS r s to pay 1 = r 1 := hdS_row (by decide)
  have q5 : hdS r s to pay 5 = r 5 := hdS_row (by decide)
  have q8 : hdS r s to pay 8 = r 8 := hdS_row (by decide)
  have q0 : hdS r s to pay 0 = r 0 := hdS_row (by decide)
  have ct := (W.coin ht).2
  obtain ⟨⟨w1, w2, w3, w4, w5, w6, w7⟩, w8, w9, w10, w11, w12, w13⟩ := W
  have c1 := cl_row (j := 0) q1
  have c5 := cl_row (j := 0) q5
  have c8 := cl_row (j := 0) q8
  have v170 : hdS r s to pay 17 0 = nI (min 60 (cl r 17 0 + 1)) := by rw [hdS_at]; rfl
  have v171 : hdS r s to pay 17 1 = nI ((cl r 17 1 + 1) % 60) := by rw [hdS_at]; rfl
  refine ⟨⟨w1.row q1, w2.row q5, w3.row q8, NB.of v170 (by omega) (by decide), NB.of v171 (by omega) (by decide), w6.row q0, w7.row q0⟩, ?_, ?_, ?_, ?_, ?_, ?_⟩
  · intro j hj
    rw [c1] at hj
    obtain ⟨z1, z2, z3⟩ := w8 j hj
    exact ⟨z1.row (hdS_row (by decide)), z2.row (hdS_row (by decide)), z3.row (hdS_row (by decide))⟩
  · intro j hj
    rw [c5] at hj ⊢
    refine ⟨?_, ?_⟩
    · have : ∃ i, i < cl r 5 0 ∧ hdS r s to pay 6 j = r 6 i := by
        rw [hdS_at]
        simp only [Nat.reduceEqDiff, if_false, if_true]
        by_cases e : j = to
        · exact ⟨_, hf.2, if_pos e⟩
        · rw [if_neg e]
          by_cases e2 : j = cl r 15 s
          · exact ⟨_, ht, if_pos e2⟩
          · exact ⟨_, hj, if_neg e2⟩
      obtain ⟨i, hi, e⟩ := this
      obtain ⟨z1, z2⟩ := (w9 i hi).1
      exact NB.of (e.trans z1) z2 (by have := w2.2; omega)
    · by_cases e : j = cl r 15 s
      · exact NB.of (x := min 9999 (cl r 7 (cl r 15 s) + pay)) (by rw [hdS_at]; simp [e]) (by omega) (by decide)
      · by_cases e2 : j = to
        · exact NB.of (x := cl r 7 to - pay) (by rw [hdS_at]; simp only [Nat.reduceEqDiff, if_true]; rw [if_neg e, if_pos e2]) (by omega) (by decide)
        · obtain ⟨z1, z2⟩ := (w9 j hj).2
          exact NB.of (x := cl r 7 j) (by rw [hdS_at]; simp only [Nat.reduceEqDiff, if_true]; rw [if_neg e, if_neg e2]; exact z1) z2 (by decide)
  · intro j hj
    rw [c8] at hj
    rw [c1, c5]
    obtain ⟨z1, z2, z3, z4, z5, z6, z7, z8⟩ := w10 j hj
    refine ⟨z1.row (hdS_row (by decide)), z2.row (hdS_row (by decide)), z3.row (hdS_row (by decide)), z4.row (hdS_row (by decide)), z5.row (hdS_row (by decide)), z6.row (hdS_row (by decide)), ?_, z8.row (hdS_row (by decide))⟩
    by_cases e : j = s
    · exact NB.of (x := to) (by rw [hdS_at]; simp [e]) ht (by have := w2.2; omega)
    · exact NB.of (x := cl r 15 j) (by rw [hdS_at]; simp only [Nat.reduceEqDiff, if_true, if_false]; rw [if_neg e]; exact z7.1) z7.2 (by have := w2.2; omega)
  · intro i j hi hj
    rw [c5] at hi hj
    rw [hdS_at, hdS_at]
    simp only [Nat.reduceEqDiff, if_false, if_true]
    intro e
    by_cases i1 : i = to <;> by_cases i2 : i = cl r 15 s <;> by_cases j1 : j = to <;> by_cases j2 : j = cl r 15 s <;> simp only [i1, i2, j1, j2, if_true, if_false, hne, Ne.symm hne] at e ⊢ <;> first | omega | (have := w11 _ _ hf.2 hj e; omega) | (have := w11 _ _ ht hj e; omega) | (have := w11 _ _ hi hf.2 e; omega) | (have := w11 _ _ hi ht e; omega) | (have := w11 _ _ hf.2 ht e; omega) | (have := w11 _ _ ht hf.2 e; omega) | (exact w11 _ _ hi hj e)
  · rw [cl_of v170 (by omega), cl_of v171 (by omega)]
    intro hh
    have := w12 (by omega)
    omega
  · intro j h1 h2
    rw [c5] at h2
    rw [q5]
    exact w13 j h1 h2
theorem nI_rem {x m : Nat} (hm : 0 < m) (hm2 : m < 2 ^ 31) (hx : x < 2 ^ 31) : nI x - nI x / nI m * nI m = nI (x % m) := pk_rem hx hm hm2
def drI (x : Int32) : Int32 := 1103515245 * x + 12345
def drN (x : Int32) : Nat := ((drI x >>> (16 : Int32)) &&& 32767).toNatClampNeg
theorem and_nn (x : Int32) : 0 ≤ x &&& 32767 := by
  apply Int32.le_iff_toInt_le.mpr
  have e : (x.toBitVec &&& 32767#32).msb = false := by rw [BitVec.msb_and, show (32767#32).msb = false from by decide, Bool.and_false]
  show (0 : Int) ≤ (x.toBitVec &&& 32767#32).toInt
  rw [BitVec.toInt_eq_toNat_of_msb e]
  exact Int.natCast_nonneg _
/-- one sale: the army behind it, the price if there was one -/
def s1S (C : Option LawL) (r : AR) : AR × Option Nat :=
  if alvB r (r 15 (drN (r 0 6) % cl r 8 0)) = true ∧ (byS r C (cl r 8 0) (drN (r 0 6) % cl r 8 0) (cl r 5 0)).1 ≠ -1 ∧ prS r C (cl r 17 0) (drN (r 0 6) % cl r 8 0) ≤ r 7 (byS r C (cl r 8 0) (drN (r 0 6) % cl r 8 0) (cl r 5 0)).1.toNatClampNeg
  then (hdS (ru r 0 6 (drI (r 0 6))) (drN (r 0 6) % cl r 8 0) (byS r C (cl r 8 0) (drN (r 0 6) % cl r 8 0) (cl r 5 0)).1.toNatClampNeg (prS r C (cl r 17 0) (drN (r 0 6) % cl r 8 0)).toNatClampNeg, some (prS r C (cl r 17 0) (drN (r 0 6) % cl r 8 0)).toNatClampNeg)
  else (ru r 0 6 (drI (r 0 6)), none)
/-- the army, how many were sold, what was paid -/
def rnS (C : Option LawL) (r : AR) : Nat → AR × Nat × Int32
  | 0 => (r, 0, 0)
  | k + 1 => if cl (rnS C r k).1 8 0 = 0 then rnS C r k else match s1S C (rnS C r k).1 with
    | (r', none) => (r', (rnS C r k).2.1, (rnS C r k).2.2)
    | (r', some p) => (r', (rnS C r k).2.1 + 1, (rnS C r k).2.2 + nI p)
theorem jdS_seed {x : Int32} {C : Option LawL} {s : Nat} {man : Int32} : jdS (ru r 0 6 x) C s man = jdS r C s man := by
  unfold jdS
  split
  · rfl
  · refine judS_congr (fun k hk => ?_) _
    match k, hk with
    | 0, _ => rfl
    | 1, _ => rfl
    | 2, _ => rfl
    | 3, _ => rfl
    | 4, _ => rfl
    | 5, _ => rfl
    | 6, _ => rfl
    | 7, _ => rfl
    | 8, _ => rfl
    | 9, _ => rfl
    | k + 10, hk => exact absurd hk (by omega)
theorem gnS_seed {x : Int32} {C : Option LawL} {m s : Nat} {man : Int32} : gnS (ru r 0 6 x) C m man s = gnS r C m man s := by
  unfold gnS; rw [jdS_seed]; rfl
theorem byS_seed {x : Int32} {C : Option LawL} {m s : Nat} : ∀ j, byS (ru r 0 6 x) C m s j = byS r C m s j
  | 0 => rfl
  | j + 1 => by unfold byS; rw [byS_seed j, gnS_seed]; rfl
theorem prS_seed {x : Int32} {C : Option LawL} {nl s : Nat} : prS (ru r 0 6 x) C nl s = prS r C nl s := by
  unfold prS wthS; rw [jdS_seed]; rfl
theorem WA.s1 (W : WA r) (C : Option LawL) (h0 : cl r 8 0 ≠ 0) : WA (s1S C r).1 := by
  unfold s1S
  split
  · rename_i c
    obtain ⟨c1, c2, c3⟩ := c
    have hs : drN (r 0 6) % cl r 8 0 < cl r 8 0 := Nat.mod_lt _ (by omega)
    rcases byS_in (r := r) (C := C) (m := cl r 8 0) (s := drN (r 0 6) % cl r 8 0) (cl r 5 0) with q | ⟨t, t1, t2, t3, t4⟩
    · exact absurd q c2
    · rw [t2, nI_clamp (by have := W.m10; omega)]
      refine (W.seed _).hd hs t1 ?_
      intro e
      apply t4
      have hb := W.bear hs
      rw [hb.1]
      exact congrArg nI e
  · exact W.seed _
theorem WA.rn (W : WA r) (C : Option LawL) : ∀ k, WA (rnS C r k).1
  | 0 => W
  | k + 1 => by
    have ih := W.rn C k
    unfold rnS
    split
    · exact ih
    · rename_i h0
      have := ih.s1 C h0
      split
      · rename_i e; rw [e] at this; exact this
      · rename_i e; rw [e] at this; exact this
theorem rnS_le (C : Option LawL) (r : AR) : ∀ k, (rnS C r k).2.1 ≤ k
  | 0 => Nat.le_refl _
  | k + 1 => by
    have ih := rnS_le C r k
    unfold rnS
    split
    · omega
    · split
      · show (rnS C r k).2.1 ≤ k + 1; omega
      · show (rnS C r k).2.1 + 1 ≤ k + 1; omega
theorem rnS_zero (h0 : cl r 8 0 = 0) (C : Option LawL) : ∀ k, rnS C r k = (r, 0, 0)
  | 0 => rfl
  | k + 1 => by unfold rnS; rw [rnS_zero h0 C k]; exact if_pos h0
theorem s1S_8 {C : Option LawL} : (s1S C r).1 8 = r 8 := by
  unfold s1S
  split
  · dsimp only
    rw [hdS_row (by decide)]; rfl
  · rfl
theorem rnS_8 (C : Option LawL) (r : AR) : ∀ k, (rnS C r k).1 8 = r 8
  | 0 => rfl
  | k + 1 => by
    have ih := rnS_8 C r k
    have := s1S_8 (r := (rnS C r k).1) (C := C)
    unfold rnS
    split
    · exact ih
    · split
      · rename_i e; rw [e] at this; exact this.trans ih
      · rename_i e; rw [e] at this; exact this.trans ih
theorem c_X0_runSales {k : Nat} {z : Int32} (X : AX h a r lw C) (W : WA r) (hk : k ≤ 30) (hQ : ∀ h', AX h' a (rnS C r k).1 lw C → FX a lw h h' → Q (.inl (some (.int (if z = 0 then nI (rnS C r k).2.1 else (rnS C r k).2.2)))) h' n) : pCall E M_X0_runSales (d + 5) [.ref a, .int (nI k), .int z] h n Q := by
  refine pCall_of rfl rfl (Nat.le_of_ble_eq_true rfl) (by simp [Value.category]) ?_
  refine b_X0_runSales_0 _ _ _ ?_
  simp only [pEntry, PM.nL, M_X0_runSales, List.map_cons, List.map_nil, List.length_cons, List.length_nil, Nat.reduceAdd, Nat.reduceSub, Nat.sub_self, List.replicate_succ, List.replicate_zero, List.cons_append, List.nil_append]
  simp only [i_const, i_load, i_aload, i_store, i_astore, i_inc, i_iadd, i_isub, i_imul, i_idiv, i_irem, i_iand, i_ior, i_ixor, i_ishl, i_ishr, i_iushr, i_ineg, i_i2l, i_i2b, i_i2c, i_lcmp, i_dup, i_dup2, i_pop, i_null, i_alen, i_iald, i_bald, i_lald, i_aald, i_iast, i_bast, i_last, i_aast, i_goto, i_icmp_eq, i_icmp_ne, i_icmp_lt, i_icmp_ge, i_icmp_gt, i_icmp_le, i_if_eq, i_if_ne, i_if_lt, i_if_ge, i_if_gt, i_if_le, i_ifnonnull, i_getf, i_putf, i_iret, i_zret, i_aret, i_vret, i_new, i_newa, i_anew, i_oinit, i_callv, i_calls, i_calli, i_max, i_min, i_abs, i_copy, i_throw, i_ldcs, pwt, List.getElem?_cons_zero, List.getElem?_cons_succ, List.set_cons_zero, List.set_cons_succ, List.getD_cons_zero, List.getD_cons_succ, List.length_cons, List.length_nil, List.length_set, List.drop_succ_cons, List.drop_zero, List.take_succ_cons, List.take_zero, List.reverse_cons, List.reverse_nil, List.nil_append, List.cons_append, List.append_nil, List.map_cons, List.map_nil, List.sum_cons, List.sum_nil, Value.category, ne_eq, Nat.reduceEqDiff, reduceIte, ite_self, false_implies, true_implies, true_and, and_true, and_self, Nat.zero_le, Nat.le_refl, Nat.reduceLeDiff, Nat.reduceAdd, Nat.reduceLT, Nat.add_zero, Nat.zero_add, pu_eq, not_false_eq_true, not_true_eq_false, forall_const, if_true, if_false, implies_true]
  refine pFor k (fun j ls σ => ∃ h1, AX h1 a (rnS C r j).1 lw C ∧ FX a lw h h1 ∧ (∃ x6 x7 x8, ls = [some (.ref a), some (.int (nI k)), some (.int z), some (.int (nI (rnS C r j).2.1)), some (.int (rnS C r j).2.2), some (.int (nI j)), x6, x7, x8]) ∧ σ = (h1, n, 0, 0)) ?_ ?_ 0 (Nat.zero_le _) _ _ ⟨h, X, FX.rf, ⟨_, _, _, rfl⟩, rfl⟩
  · rintro j hj ls σ ⟨h1, X1, F1, ⟨x6, x7, x8, rfl⟩, rfl⟩ ih
    obtain ⟨e1, e2, e3, e4⟩ := jFacts hj hk (by decide)
    have W1 := W.rn C j
    generalize hr1 : (rnS C r j).1 = r1 at X1 W1
    have h8 : r1 8 = r 8 := by rw [← hr1]; exact rnS_8 C r j
    refine b_X0_runSales_8 _ _ _ ?_
    by_cases h0 : cl r1 8 0 = 0
    · have z0 : r1 8 0 ≤ 0 := by rw [W1.hs, h0]; decide
      have h0' : cl r 8 0 = 0 := by rw [← cl_row h8]; exact h0
      rw [rnS_zero h0'] at hr1 ⊢
      simp only [i_const, i_load, i_aload, i_store, i_astore, i_inc, i_iadd, i_isub, i_imul, i_idiv, i_irem, i_iand, i_ior, i_ixor, i_ishl, i_ishr, i_iushr, i_ineg, i_i2l, i_i2b, i_i2c, i_lcmp, i_dup, i_dup2, i_pop, i_null, i_alen, i_iald, i_bald, i_lald, i_aald, i_iast, i_bast, i_last, i_aast, i_goto, i_icmp_eq, i_icmp_ne, i_icmp_lt, i_icmp_ge, i_icmp_gt, i_icmp_le, i_if_eq, i_if_ne, i_if_lt, i_if_ge, i_if_gt, i_if_le, i_ifnonnull, i_getf, i_putf, i_iret, i_zret, i_aret, i_vret, i_new, i_newa, i_anew, i_oinit, i_callv, i_calls, i_calli, i_max, i_min, i_abs, i_copy, i_throw, i_ldcs, pwt, List.getElem?_cons_zero, List.getElem?_cons_succ, List.set_cons_zero, List.set_cons_succ, List.getD_cons_zero, List.getD_cons_succ, List.length_cons, List.length_nil, List.length_set, List.drop_succ_cons, List.drop_zero, List.take_succ_cons, List.take_zero, List.reverse_cons, List.reverse_nil, List.nil_append, List.cons_append, List.append_nil, List.map_cons, List.map_nil, List.sum_cons, List.sum_nil, Value.category, ne_eq, Nat.reduceEqDiff, reduceIte, ite_self, false_implies, true_implies, true_and, and_true, and_self, Nat.zero_le, Nat.le_refl, Nat.reduceLeDiff, Nat.reduceAdd, Nat.reduceLT, Nat.add_zero, Nat.zero_add, pu_eq, not_false_eq_true, not_true_eq_false, forall_const, if_true, if_false, implies_true, e1, X1.f0, X1.f8, z0]
      have := hQ h1
      rw [rnS_zero h0'] at this
      simp only at hr1
      subst hr1
      have := this X1 F1
      refine ⟨fun c => ?_, fun c => ?_⟩
      · rw [if_pos c] at this; exact this
      · rw [if_neg c] at this; exact this
    · have z0 : ¬ r1 8 0 ≤ 0 := by rw [W1.hs]; exact nI_nle (by omega) (by have := W1.s24; omega)
      simp only [i_const, i_load, i_aload, i_store, i_astore, i_inc, i_iadd, i_isub, i_imul, i_idiv, i_irem, i_iand, i_ior, i_ixor, i_ishl, i_ishr, i_iushr, i_ineg, i_i2l, i_i2b, i_i2c, i_lcmp, i_dup, i_dup2, i_pop, i_null, i_alen, i_iald, i_bald, i_lald, i_aald, i_iast, i_bast, i_last, i_aast, i_goto, i_icmp_eq, i_icmp_ne, i_icmp_lt, i_icmp_ge, i_icmp_gt, i_icmp_le, i_if_eq, i_if_ne, i_if_lt, i_if_ge, i_if_gt, i_if_le, i_ifnonnull, i_getf, i_putf, i_iret, i_zret, i_aret, i_vret, i_new, i_newa, i_anew, i_oinit, i_callv, i_calls, i_calli, i_max, i_min, i_abs, i_copy, i_throw, i_ldcs, pwt, List.getElem?_cons_zero, List.getElem?_cons_succ, List.set_cons_zero, List.set_cons_succ, List.getD_cons_zero, List.getD_cons_succ, List.length_cons, List.length_nil, List.length_set, List.drop_succ_cons, List.drop_zero, List.take_succ_cons, List.take_zero, List.reverse_cons, List.reverse_nil, List.nil_append, List.cons_append, List.append_nil, List.map_cons, List.map_nil, List.sum_cons, List.sum_nil, Value.category, ne_eq, Nat.reduceEqDiff, reduceIte, ite_self, false_implies, true_implies, true_and, and_true, and_self, Nat.zero_le, Nat.le_refl, Nat.reduceLeDiff, Nat.reduceAdd, Nat.reduceLT, Nat.add_zero, Nat.zero_add, pu_eq, not_false_eq_true, not_true_eq_false, forall_const, if_true, if_false, implies_true, e1, X1.f0, X1.f8, z0]
      have step : rnS C r (j + 1) = match s1S C r1 with
        | (r', none) => (r', (rnS C r j).2.1, (rnS C r j).2.2)
        | (r', some p) => (r', (rnS C r j).2.1 + 1, (rnS C r j).2.2 + nI p) := by
        rw [rnS, hr1, if_neg h0]
      refine c_X0_draw X1 (fun h2 X2 F2 => ?_)
      have W2 : WA (ru r1 0 6 (drI (r1 0 6))) := W1.seed _
      have hdr : (drI (r1 0 6) >>> (16 : Int32)) &&& 32767 = nI (drN (r1 0 6)) := (nn_nI (and_nn _)).1
      have hdl : drN (r1 0 6) < 2 ^ 31 := (nn_nI (and_nn _)).2
      have hs : drN (r1 0 6) % cl r1 8 0 < cl r1 8 0 := Nat.mod_lt _ (by omega)
      have hrem : nI (drN (r1 0 6)) - nI (drN (r1 0 6)) / nI (cl r1 8 0) * nI (cl r1 8 0) = nI (drN (r1 0 6) % cl r1 8 0) := nI_rem (by omega) (by have := W1.s24; omega) hdl
      have hnz : ¬ nI (cl r1 8 0) = 0 := fun q => h0 ((nI_eq (by have := W1.s24; omega) (by decide)).mp (show nI (cl r1 8 0) = nI 0 from q))
      have h8s : ru r1 0 6 (drI (r1 0 6)) 8 0 = nI (cl r1 8 0) := W1.hs
      change AX h2 a (ru r1 0 6 (drI (r1 0 6))) lw C at X2
      show pRetK _ _ _ _ _ (.inl (some (.int ((drI (r1 0 6) >>> (16 : Int32)) &&& 32767)))) _ _
      rw [hdr]
      generalize hsd : drN (r1 0 6) % cl r1 8 0 = s at hs hrem
      obtain ⟨g1, g2, g3, g4⟩ := jFacts hs W1.s24 (by decide)
      simp only [i_const, i_load, i_aload, i_store, i_astore, i_inc, i_iadd, i_isub, i_imul, i_idiv, i_irem, i_iand, i_ior, i_ixor, i_ishl, i_ishr, i_iushr, i_ineg, i_i2l, i_i2b, i_i2c, i_lcmp, i_dup, i_dup2, i_pop, i_null, i_alen, i_iald, i_bald, i_lald, i_aald, i_iast, i_bast, i_last, i_aast, i_goto, i_icmp_eq, i_icmp_ne, i_icmp_lt, i_icmp_ge, i_icmp_gt, i_icmp_le, i_if_eq, i_if_ne, i_if_lt, i_if_ge, i_if_gt, i_if_le, i_ifnonnull, i_getf, i_putf, i_iret, i_zret, i_aret, i_vret, i_new, i_newa, i_anew, i_oinit, i_callv, i_calls, i_calli, i_max, i_min, i_abs, i_copy, i_throw, i_ldcs, pwt, List.getElem?_cons_zero, List.getElem?_cons_succ, List.set_cons_zero, List.set_cons_succ, List.getD_cons_zero, List.getD_cons_succ, List.length_cons, List.length_nil, List.length_set, List.drop_succ_cons, List.drop_zero, List.take_succ_cons, List.take_zero, List.reverse_cons, List.reverse_nil, List.nil_append, List.cons_append, List.append_nil, List.map_cons, List.map_nil, List.sum_cons, List.sum_nil, Value.category, ne_eq, Nat.reduceEqDiff, reduceIte, ite_self, false_implies, true_implies, true_and, and_true, and_self, Nat.zero_le, Nat.le_refl, Nat.reduceLeDiff, Nat.reduceAdd, Nat.reduceLT, Nat.add_zero, Nat.zero_add, pu_eq, not_false_eq_true, not_true_eq_false, forall_const, if_true, if_false, implies_true, pRetK, X2.f0, X2.f5, X2.f8, X2.f15, h8s, hrem, hnz, g2, g3]
      have no : ¬ (alvB r1 (r1 15 s) = true ∧ (byS r1 C (cl r1 8 0) s (cl r1 5 0)).1 ≠ -1 ∧ prS r1 C (cl r1 17 0) s ≤ r1 7 (byS r1 C (cl r1 8 0) s (cl r1 5 0)).1.toNatClampNeg) → rnS C r (j + 1) = (ru r1 0 6 (drI (r1 0 6)), (rnS C r j).2.1, (rnS C r j).2.2) := by
        intro q
        rw [step, s1S, hsd, if_neg q]
      obtain ⟨f2, H2⟩ := X2.aa
      refine c_X7_isAlive H2 (fun c => ?_) (fun c => ?_)
      · simp only [i_const, i_load, i_aload, i_store, i_astore, i_inc, i_iadd, i_isub, i_imul, i_idiv, i_irem, i_iand, i_ior, i_ixor, i_ishl, i_ishr, i_iushr, i_ineg, i_i2l, i_i2b, i_i2c, i_lcmp, i_dup, i_dup2, i_pop, i_null, i_alen, i_iald, i_bald, i_lald, i_aald, i_iast, i_bast, i_last, i_aast, i_goto, i_icmp_eq, i_icmp_ne, i_icmp_lt, i_icmp_ge, i_icmp_gt, i_icmp_le, i_if_eq, i_if_ne, i_if_lt, i_if_ge, i_if_gt, i_if_le, i_ifnonnull, i_getf, i_putf, i_iret, i_zret, i_aret, i_vret, i_new, i_newa, i_anew, i_oinit, i_callv, i_calls, i_calli, i_max, i_min, i_abs, i_copy, i_throw, i_ldcs, pwt, List.getElem?_cons_zero, List.getElem?_cons_succ, List.set_cons_zero, List.set_cons_succ, List.getD_cons_zero, List.getD_cons_succ, List.length_cons, List.length_nil, List.length_set, List.drop_succ_cons, List.drop_zero, List.take_succ_cons, List.take_zero, List.reverse_cons, List.reverse_nil, List.nil_append, List.cons_append, List.append_nil, List.map_cons, List.map_nil, List.sum_cons, List.sum_nil, Value.category, ne_eq, Nat.reduceEqDiff, reduceIte, ite_self, false_implies, true_implies, true_and, and_true, and_self, Nat.zero_le, Nat.le_refl, Nat.reduceLeDiff, Nat.reduceAdd, Nat.reduceLT, Nat.add_zero, Nat.zero_add, pu_eq, not_false_eq_true, not_true_eq_false, forall_const, if_true, if_false, implies_true, pRetK, X2.f0]
        refine ⟨fun q => absurd q (by decide), fun _ => ?_⟩
        refine c_X0_bestBuyer X2 W2.hm W2.m10 W2.hs hs W2.s24 W2.wr (fun h3 X3 F3 => ?_)
        simp only [i_const, i_load, i_aload, i_store, i_astore, i_inc, i_iadd, i_isub, i_imul, i_idiv, i_irem, i_iand, i_ior, i_ixor, i_ishl, i_ishr, i_iushr, i_ineg, i_i2l, i_i2b, i_i2c, i_lcmp, i_dup, i_dup2, i_pop, i_null, i_alen, i_iald, i_bald, i_lald, i_aald, i_iast, i_bast, i_last, i_aast, i_goto, i_icmp_eq, i_icmp_ne, i_icmp_lt, i_icmp_ge, i_icmp_gt, i_icmp_le, i_if_eq, i_if_ne, i_if_lt, i_if_ge, i_if_gt, i_if_le, i_ifnonnull, i_getf, i_putf, i_iret, i_zret, i_aret, i_vret, i_new, i_newa, i_anew, i_oinit, i_callv, i_calls, i_calli, i_max, i_min, i_abs, i_copy, i_throw, i_ldcs, pwt, List.getElem?_cons_zero, List.getElem?_cons_succ, List.set_cons_zero, List.set_cons_succ, List.getD_cons_zero, List.getD_cons_succ, List.length_cons, List.length_nil, List.length_set, List.drop_succ_cons, List.drop_zero, List.take_succ_cons, List.take_zero, List.reverse_cons, List.reverse_nil, List.nil_append, List.cons_append, List.append_nil, List.map_cons, List.map_nil, List.sum_cons, List.sum_nil, Value.category, ne_eq, Nat.reduceEqDiff, reduceIte, ite_self, false_implies, true_implies, true_and, and_true, and_self, Nat.zero_le, Nat.le_refl, Nat.reduceLeDiff, Nat.reduceAdd, Nat.reduceLT, Nat.add_zero, Nat.zero_add, pu_eq, not_false_eq_true, not_true_eq_false, forall_const, if_true, if_false, implies_true, pRetK]
        refine b_X0_runSales_68 _ _ _ ?_
        rw [byS_seed]
        show i_store 7 _ _ [.int (byS r1 C (cl r1 8 0) s (cl r1 5 0)).1] _
        have F13 : FX a lw h h3 := (F1.tr F2.fx).tr F3.fx
        simp only [i_const, i_load, i_aload, i_store, i_astore, i_inc, i_iadd, i_isub, i_imul, i_idiv, i_irem, i_iand, i_ior, i_ixor, i_ishl, i_ishr, i_iushr, i_ineg, i_i2l, i_i2b, i_i2c, i_lcmp, i_dup, i_dup2, i_pop, i_null, i_alen, i_iald, i_bald, i_lald, i_aald, i_iast, i_bast, i_last, i_aast, i_goto, i_icmp_eq, i_icmp_ne, i_icmp_lt, i_icmp_ge, i_icmp_gt, i_icmp_le, i_if_eq, i_if_ne, i_if_lt, i_if_ge, i_if_gt, i_if_le, i_ifnonnull, i_getf, i_putf, i_iret, i_zret, i_aret, i_vret, i_new, i_newa, i_anew, i_oinit, i_callv, i_calls, i_calli, i_max, i_min, i_abs, i_copy, i_throw, i_ldcs, pwt, List.getElem?_cons_zero, List.getElem?_cons_succ, List.set_cons_zero, List.set_cons_succ, List.getD_cons_zero, List.getD_cons_succ, List.length_cons, List.length_nil, List.length_set, List.drop_succ_cons, List.drop_zero, List.take_succ_cons, List.take_zero, List.reverse_cons, List.reverse_nil, List.nil_append, List.cons_append, List.append_nil, List.map_cons, List.map_nil, List.sum_cons, List.sum_nil, Value.category, ne_eq, Nat.reduceEqDiff, reduceIte, ite_self, false_implies, true_implies, true_and, and_true, and_self, Nat.zero_le, Nat.le_refl, Nat.reduceLeDiff, Nat.reduceAdd, Nat.reduceLT, Nat.add_zero, Nat.zero_add, pu_eq, not_false_eq_true, not_true_eq_false, forall_const, if_true, if_false, implies_true, e4, X3.f0]
        refine ⟨fun c2 => ?_, fun c2 => ?_⟩
        · rw [no (fun q => q.2.1 c2)] at ih
          exact ih _ _ ⟨h3, X3, F13, ⟨_, _, _, rfl⟩, rfl⟩
        · refine c_X0_priceOf X3 hs W2.s24 W2.wr W2.hl W2.l60 (fun h4 X4 F4 => ?_)
          rw [prS_seed]
          rcases byS_in (r := r1) (C := C) (m := cl r1 8 0) (s := s) (cl r1 5 0) with q | ⟨t, t1, t2, t3, t4⟩
          · exact absurd q c2
          have t10 : t < 10 := by have := W1.m10; omega
          have ct : (nI t).toNatClampNeg = t := nI_clamp (by omega)
          have vt : vp_in (nI t) 10 := vp_in_nI t10 (by decide)
          show pRetK _ _ _ _ _ (.inl (some (.int (prS r1 C (cl r1 17 0) s)))) _ _
          have F14 := F13.tr F4.fx
          rw [t2] at no ⊢
          simp only [i_const, i_load, i_aload, i_store, i_astore, i_inc, i_iadd, i_isub, i_imul, i_idiv, i_irem, i_iand, i_ior, i_ixor, i_ishl, i_ishr, i_iushr, i_ineg, i_i2l, i_i2b, i_i2c, i_lcmp, i_dup, i_dup2, i_pop, i_null, i_alen, i_iald, i_bald, i_lald, i_aald, i_iast, i_bast, i_last, i_aast, i_goto, i_icmp_eq, i_icmp_ne, i_icmp_lt, i_icmp_ge, i_icmp_gt, i_icmp_le, i_if_eq, i_if_ne, i_if_lt, i_if_ge, i_if_gt, i_if_le, i_ifnonnull, i_getf, i_putf, i_iret, i_zret, i_aret, i_vret, i_new, i_newa, i_anew, i_oinit, i_callv, i_calls, i_calli, i_max, i_min, i_abs, i_copy, i_throw, i_ldcs, pwt, List.getElem?_cons_zero, List.getElem?_cons_succ, List.set_cons_zero, List.set_cons_succ, List.getD_cons_zero, List.getD_cons_succ, List.length_cons, List.length_nil, List.length_set, List.drop_succ_cons, List.drop_zero, List.take_succ_cons, List.take_zero, List.reverse_cons, List.reverse_nil, List.nil_append, List.cons_append, List.append_nil, List.map_cons, List.map_nil, List.sum_cons, List.sum_nil, Value.category, ne_eq, Nat.reduceEqDiff, reduceIte, ite_self, false_implies, true_implies, true_and, and_true, and_self, Nat.zero_le, Nat.le_refl, Nat.reduceLeDiff, Nat.reduceAdd, Nat.reduceLT, Nat.add_zero, Nat.zero_add, pu_eq, not_false_eq_true, not_true_eq_false, forall_const, if_true, if_false, implies_true, pRetK, e4, X4.f0, X4.f5, X4.f7, ct, vt]
          refine ⟨fun c3 => ?_, fun c3 => ?_⟩
          · rw [no (fun q => absurd c3 (Int32.not_lt.mpr (by have := q.2.2; rw [ct] at this; exact this)))] at ih
            exact ih _ _ ⟨h4, X4, F14, ⟨_, _, _, rfl⟩, rfl⟩
          · have c3' : prS r1 C (cl r1 17 0) s ≤ r1 7 t := Int32.not_lt.mp c3
            obtain ⟨p1, p2⟩ := nn_nI (prS_nn (r := r1) (C := C) (nl := cl r1 17 0) (s := s))
            generalize hpp : (prS r1 C (cl r1 17 0) s).toNatClampNeg = pp at p1 p2
            have hct := W1.coin t1
            have hle : pp ≤ cl r1 7 t := by
              rw [p1, hct.1] at c3'
              by_cases q : pp ≤ cl r1 7 t
              · exact q
              · exact absurd c3' (nI_ge (by omega) p2)
            have yes : rnS C r (j + 1) = (hdS (ru r1 0 6 (drI (r1 0 6))) s t pp, (rnS C r j).2.1 + 1, (rnS C r j).2.2 + nI pp) := by
              rw [step, s1S, hsd, if_pos ⟨alvB_t (r := r1) c, c2, by rw [t2, ct]; exact c3'⟩, t2, ct, hpp]
            have hb := W1.bear hs
            rw [p1]
            refine c_X0_handOver (d := d + 3) (s := s) (to := t) (pay := pp) X4 (Nat.lt_of_lt_of_le hs W1.s24) (hb.lt W1.m10) t10 ?_ hct hle (W1.coin hb.2) W1.1.2.2.2.1 W1.1.2.2.2.2.1 (fun h5 X5 F5 => ?_)
            · intro e
              apply t4
              rw [hb.1]
              exact congrArg nI e
            · simp only [i_const, i_load, i_aload, i_store, i_astore, i_inc, i_iadd, i_isub, i_imul, i_idiv, i_irem, i_iand, i_ior, i_ixor, i_ishl, i_ishr, i_iushr, i_ineg, i_i2l, i_i2b, i_i2c, i_lcmp, i_dup, i_dup2, i_pop, i_null, i_alen, i_iald, i_bald, i_lald, i_aald, i_iast, i_bast, i_last, i_aast, i_goto, i_icmp_eq, i_icmp_ne, i_icmp_lt, i_icmp_ge, i_icmp_gt, i_icmp_le, i_if_eq, i_if_ne, i_if_lt, i_if_ge, i_if_gt, i_if_le, i_ifnonnull, i_getf, i_putf, i_iret, i_zret, i_aret, i_vret, i_new, i_newa, i_anew, i_oinit, i_callv, i_calls, i_calli, i_max, i_min, i_abs, i_copy, i_throw, i_ldcs, pwt, List.getElem?_cons_zero, List.getElem?_cons_succ, List.set_cons_zero, List.set_cons_succ, List.getD_cons_zero, List.getD_cons_succ, List.length_cons, List.length_nil, List.length_set, List.drop_succ_cons, List.drop_zero, List.take_succ_cons, List.take_zero, List.reverse_cons, List.reverse_nil, List.nil_append, List.cons_append, List.append_nil, List.map_cons, List.map_nil, List.sum_cons, List.sum_nil, Value.category, ne_eq, Nat.reduceEqDiff, reduceIte, ite_self, false_implies, true_implies, true_and, and_true, and_self, Nat.zero_le, Nat.le_refl, Nat.reduceLeDiff, Nat.reduceAdd, Nat.reduceLT, Nat.add_zero, Nat.zero_add, pu_eq, not_false_eq_true, not_true_eq_false, forall_const, if_true, if_false, implies_true, pRetK, e4, nI_1]
              rw [yes] at ih
              exact ih _ _ ⟨h5, X5, F14.tr F5, ⟨_, _, _, rfl⟩, rfl⟩
      · simp only [i_const, i_load, i_aload, i_store, i_astore, i_inc, i_iadd, i_isub, i_imul, i_idiv, i_irem, i_iand, i_ior, i_ixor, i_ishl, i_ishr, i_iushr, i_ineg, i_i2l, i_i2b, i_i2c, i_lcmp, i_dup, i_dup2, i_pop, i_null, i_alen, i_iald, i_bald, i_lald, i_aald, i_iast, i_bast, i_last, i_aast, i_goto, i_icmp_eq, i_icmp_ne, i_icmp_lt, i_icmp_ge, i_icmp_gt, i_icmp_le, i_if_eq, i_if_ne, i_if_lt, i_if_ge, i_if_gt, i_if_le, i_ifnonnull, i_getf, i_putf, i_iret, i_zret, i_aret, i_vret, i_new, i_newa, i_anew, i_oinit, i_callv, i_calls, i_calli, i_max, i_min, i_abs, i_copy, i_throw, i_ldcs, pwt, List.getElem?_cons_zero, List.getElem?_cons_succ, List.set_cons_zero, List.set_cons_succ, List.getD_cons_zero, List.getD_cons_succ, List.length_cons, List.length_nil, List.length_set, List.drop_succ_cons, List.drop_zero, List.take_succ_cons, List.take_zero, List.reverse_cons, List.reverse_nil, List.nil_append, List.cons_append, List.append_nil, List.map_cons, List.map_nil, List.sum_cons, List.sum_nil, Value.category, ne_eq, Nat.reduceEqDiff, reduceIte, ite_self, false_implies, true_implies, true_and, and_true, and_self, Nat.zero_le, Nat.le_refl, Nat.reduceLeDiff, Nat.reduceAdd, Nat.reduceLT, Nat.add_zero, Nat.zero_add, pu_eq, not_false_eq_true, not_true_eq_false, forall_const, if_true, if_false, implies_true, pRetK]
        refine b_X0_runSales_68 _ _ _ ?_
        simp only [i_const, i_load, i_aload, i_store, i_astore, i_inc, i_iadd, i_isub, i_imul, i_idiv, i_irem, i_iand, i_ior, i_ixor, i_ishl, i_ishr, i_iushr, i_ineg, i_i2l, i_i2b, i_i2c, i_lcmp, i_dup, i_dup2, i_pop, i_null, i_alen, i_iald, i_bald, i_lald, i_aald, i_iast, i_bast, i_last, i_aast, i_goto, i_icmp_eq, i_icmp_ne, i_icmp_lt, i_icmp_ge, i_icmp_gt, i_icmp_le, i_if_eq, i_if_ne, i_if_lt, i_if_ge, i_if_gt, i_if_le, i_ifnonnull, i_getf, i_putf, i_iret, i_zret, i_aret, i_vret, i_new, i_newa, i_anew, i_oinit, i_callv, i_calls, i_calli, i_max, i_min, i_abs, i_copy, i_throw, i_ldcs, pwt, List.getElem?_cons_zero, List.getElem?_cons_succ, List.set_cons_zero, List.set_cons_succ, List.getD_cons_zero, List.getD_cons_succ, List.length_cons, List.length_nil, List.length_set, List.drop_succ_cons, List.drop_zero, List.take_succ_cons, List.take_zero, List.reverse_cons, List.reverse_nil, List.nil_append, List.cons_append, List.append_nil, List.map_cons, List.map_nil, List.sum_cons, List.sum_nil, Value.category, ne_eq, Nat.reduceEqDiff, reduceIte, ite_self, false_implies, true_implies, true_and, and_true, and_self, Nat.zero_le, Nat.le_refl, Nat.reduceLeDiff, Nat.reduceAdd, Nat.reduceLT, Nat.add_zero, Nat.zero_add, pu_eq, not_false_eq_true, not_true_eq_false, forall_const, if_true, if_false, implies_true, e4]
        rw [no (fun q => by rw [alvB_f (r := r1) (x := r1 15 s) c] at q; exact absurd q.1 (by decide))] at ih
        exact ih _ _ ⟨h2, X2, F1.tr F2.fx, ⟨_, _, _, rfl⟩, rfl⟩
  · rintro ls σ ⟨h1, X1, F1, ⟨x6, x7, x8, rfl⟩, rfl⟩
    refine b_X0_runSales_8 _ _ _ ?_
    simp only [i_const, i_load, i_aload, i_store, i_astore, i_inc, i_iadd, i_isub, i_imul, i_idiv, i_irem, i_iand, i_ior, i_ixor, i_ishl, i_ishr, i_iushr, i_ineg, i_i2l, i_i2b, i_i2c, i_lcmp, i_dup, i_dup2, i_pop, i_null, i_alen, i_iald, i_bald, i_lald, i_aald, i_iast, i_bast, i_last, i_aast, i_goto, i_icmp_eq, i_icmp_ne, i_icmp_lt, i_icmp_ge, i_icmp_gt, i_icmp_le, i_if_eq, i_if_ne, i_if_lt, i_if_ge, i_if_gt, i_if_le, i_ifnonnull, i_getf, i_putf, i_iret, i_zret, i_aret, i_vret, i_new, i_newa, i_anew, i_oinit, i_callv, i_calls, i_calli, i_max, i_min, i_abs, i_copy, i_throw, i_ldcs, pwt, List.getElem?_cons_zero, List.getElem?_cons_succ, List.set_cons_zero, List.set_cons_succ, List.getD_cons_zero, List.getD_cons_succ, List.length_cons, List.length_nil, List.length_set, List.drop_succ_cons, List.drop_zero, List.take_succ_cons, List.take_zero, List.reverse_cons, List.reverse_nil, List.nil_append, List.cons_append, List.append_nil, List.map_cons, List.map_nil, List.sum_cons, List.sum_nil, Value.category, ne_eq, Nat.reduceEqDiff, reduceIte, ite_self, false_implies, true_implies, true_and, and_true, and_self, Nat.zero_le, Nat.le_refl, Nat.reduceLeDiff, Nat.reduceAdd, Nat.reduceLT, Nat.add_zero, Nat.zero_add, pu_eq, not_false_eq_true, not_true_eq_false, forall_const, if_true, if_false, implies_true, nI_le_self]
    have := hQ h1 X1 F1
    refine ⟨fun c => ?_, fun c => ?_⟩
    · rw [if_pos c] at this; exact this
    · rw [if_neg c] at this; exact this
end SALES

/-! the most that can be right -/
section RIGHT
variable {E : PE} {M : PM} {d : Nat} {Q : PQ} {h : PH} {n : Nat} {a b s t x y L ln cnt : Nat} {r rb g : AR} {lw lb : Option Nat} {C Cb : Option LawL} {pc : Nat}
def dpN (me : Nat → Int32) : Nat → Int32 → Nat
  | 0, _ => 0
  | e + 1, S => max (dpN me e S) (mxF (fun m => if (bI S m && bI (me e) m) = true then 1 + dpN me e (S &&& (bitI m ^^^ -1)) else 0) 10)
def Mt (me : Nat → Int32) (e : Nat) (S : Int32) (u : Nat → Option Nat) : Prop := (∀ i, i < e → ∀ m, u i = some m → m < 10 ∧ bI (me i) m = true ∧ bI S m = true) ∧ ∀ i j, i < e → j < e → ∀ m, u i = some m → u j = some m → i = j
def szU (u : Nat → Option Nat) (e : Nat) : Nat := ctF (fun i => (u i).isSome) e
theorem mxF_ge {f : Nat → Nat} : ∀ n j, j < n → f j ≤ mxF f n
  | 0, j, h => absurd h (Nat.not_lt_zero j)
  | n + 1, j, h => by
    unfold mxF
    by_cases e : j = n
    · subst e; split <;> omega
    · have := mxF_ge (f := f) n j (by omega)
      split <;> omega
theorem mxF_at {f : Nat → Nat} : ∀ n, mxF f n = 0 ∨ ∃ j, j < n ∧ mxF f n = f j
  | 0 => Or.inl rfl
  | n + 1 => by
    unfold mxF
    split
    · exact Or.inr ⟨n, by omega, rfl⟩
    · rcases mxF_at (f := f) n with c | ⟨j, hj, c⟩
      · exact Or.inl c
      · exact Or.inr ⟨j, by omega, c⟩
theorem szU_some {u : Nat → Option Nat} {e m : Nat} (c : u e = some m) : szU u (e + 1) = szU u e + 1 := by
  show (if (u e).isSome then _ else _) = _
  rw [c]; rfl
theorem szU_none {u : Nat → Option Nat} {e : Nat} (c : u e = none) : szU u (e + 1) = szU u e := by
  show (if (u e).isSome then _ else _) = _
  rw [c]; rfl
theorem dp_ub (me : Nat → Int32) : ∀ e S u, Mt me e S u → szU u e ≤ dpN me e S
  | 0, _, _, _ => Nat.le_refl _
  | e + 1, S, u, T => by
    have T1 : Mt me e S u := ⟨fun i hi => T.1 i (by omega), fun i j hi hj => T.2 i j (by omega) (by omega)⟩
    unfold dpN
    cases c : u e with
    | none =>
      rw [szU_none c]
      exact Nat.le_trans (dp_ub me e S u T1) (Nat.le_max_left _ _)
    | some m =>
      rw [szU_some c]
      obtain ⟨m1, m2, m3⟩ := T.1 e (by omega) m c
      have T2 : Mt me e (S &&& (bitI m ^^^ -1)) u := by
        refine ⟨fun i hi k hk => ?_, T1.2⟩
        obtain ⟨k1, k2, k3⟩ := T1.1 i hi k hk
        refine ⟨k1, k2, ?_⟩
        rw [bI_and, bI_not _ (by omega), bI_bit (by omega), k3, Bool.true_and]
        have : m ≠ k := fun z => by
          subst z
          have := T.2 i e (by omega) (by omega) m hk c
          omega
        rw [decide_eq_false this]; rfl
      have ih := dp_ub me e _ u T2
      refine Nat.le_trans ?_ (Nat.le_max_right _ _)
      refine Nat.le_trans ?_ (mxF_ge 10 m m1)
      show _ ≤ if (bI S m && bI (me e) m) = true then 1 + dpN me e (S &&& (bitI m ^^^ -1)) else 0
      rw [m2, m3, if_pos (by rfl)]
      omega
theorem dp_ex (me : Nat → Int32) : ∀ e S, ∃ u, Mt me e S u ∧ szU u e = dpN me e S
  | 0, S => ⟨fun _ => none, ⟨fun i hi => absurd hi (Nat.not_lt_zero i), fun i j hi => absurd hi (Nat.not_lt_zero i)⟩, rfl⟩
  | e + 1, S => by
    have low : ∃ u, Mt me (e + 1) S u ∧ szU u (e + 1) = dpN me e S := by
      obtain ⟨u, T, z⟩ := dp_ex me e S
      refine ⟨fun i => if i = e then none else u i, ⟨fun i hi m hm => ?_, fun i j hi hj m hm hm' => ?_⟩, ?_⟩
      · by_cases ei : i = e
        · simp [ei] at hm
        · simp only [ei, if_false] at hm
          exact T.1 i (by omega) m hm
      · by_cases ei : i = e
        · simp [ei] at hm
        · by_cases ej : j = e
          · simp [ej] at hm'
          · simp only [ei, ej, if_false] at hm hm'
            exact T.2 i j (by omega) (by omega) m hm hm'
      · rw [szU_none (by simp), ← z]
        exact ctF_congr (fun j hj => by simp [show j ≠ e by omega])
    unfold dpN
    by_cases c : mxF (fun m => if (bI S m && bI (me e) m) = true then 1 + dpN me e (S &&& (bitI m ^^^ -1)) else 0) 10 ≤ dpN me e S
    · rw [Nat.max_eq_left c]; exact low
    · rw [Nat.max_eq_right (by omega)]
      rcases mxF_at (f := fun m => if (bI S m && bI (me e) m) = true then 1 + dpN me e (S &&& (bitI m ^^^ -1)) else 0) 10 with z | ⟨m, hm, z⟩
      · rw [z] at c; omega
      · rw [z]
        rw [z] at c
        by_cases q : (bI S m && bI (me e) m) = true
        · rw [if_pos q]
          obtain ⟨u, T, z2⟩ := dp_ex me e (S &&& (bitI m ^^^ -1))
          have q' := q
          rw [Bool.and_eq_true] at q'
          have inS : ∀ k, k < 10 → bI (S &&& (bitI m ^^^ -1)) k = true → bI S k = true ∧ k ≠ m := fun k hk w => by
            rw [bI_and, bI_not _ (by omega), bI_bit (by omega), Bool.and_eq_true] at w
            refine ⟨w.1, fun e => ?_⟩
            rw [e, decide_eq_true rfl] at w
            exact absurd w.2 (by decide)
          refine ⟨fun i => if i = e then some m else u i, ⟨fun i hi k hk => ?_, fun i j hi hj k hk hk' => ?_⟩, ?_⟩
          · by_cases ei : i = e
            · simp only [ei, if_true, Option.some.injEq] at hk
              subst hk
              rw [ei]
              exact ⟨hm, q'.2, q'.1⟩
            · simp only [ei, if_false] at hk
              obtain ⟨k1, k2, k3⟩ := T.1 i (by omega) k hk
              exact ⟨k1, k2, (inS k k1 k3).1⟩
          · by_cases ei : i = e
            · by_cases ej : j = e
              · omega
              · simp only [ei, if_true, Option.some.injEq] at hk
                simp only [ej, if_false] at hk'
                obtain ⟨k1, k2, k3⟩ := T.1 j (by omega) k hk'
                exact absurd hk.symm (inS k k1 k3).2
            · by_cases ej : j = e
              · simp only [ej, if_true, Option.some.injEq] at hk'
                simp only [ei, if_false] at hk
                obtain ⟨k1, k2, k3⟩ := T.1 i (by omega) k hk
                exact absurd hk'.symm (inS k k1 k3).2
              · simp only [ei, ej, if_false] at hk hk'
                exact T.2 i j (by omega) (by omega) k hk hk'
          · rw [szU_some (m := m) (by simp), ← z2, Nat.add_comm]
            congr 1
            exact ctF_congr (fun j hj => by simp [show j ≠ e by omega])
        · rw [if_neg q] at c; omega
theorem dp_step (me : Nat → Int32) (e : Nat) (S : Int32) : dpN me e S ≤ dpN me (e + 1) S ∧ dpN me (e + 1) S ≤ dpN me e S + 1 := by
  refine ⟨Nat.le_max_left _ _, ?_⟩
  obtain ⟨u, T, z⟩ := dp_ex me (e + 1) S
  have T1 : Mt me e S u := ⟨fun i hi => T.1 i (by omega), fun i j hi hj => T.2 i j (by omega) (by omega)⟩
  have := dp_ub me e S u T1
  rw [← z]
  cases c : u e with
  | none => rw [szU_none c]; omega
  | some m => rw [szU_some c]; omega
/-- as many as are sent, one to one -/
theorem inj_ct {q : Nat → Bool} {m : Nat} {F : Nat → Nat} : ∀ (p : Nat → Bool) (n : Nat) (q : Nat → Bool), (∀ i, i < n → p i = true → F i < m ∧ q (F i) = true) → (∀ i j, i < n → j < n → p i = true → p j = true → F i = F j → i = j) → ctF p n ≤ ctF q m
  | _, 0, _, _, _ => Nat.zero_le _
  | p, n + 1, q, h1, h2 => by
    show (if p n = true then ctF p n + 1 else ctF p n) ≤ _
    by_cases c : p n = true
    · rw [if_pos c]
      obtain ⟨f1, f2⟩ := h1 n (by omega) c
      have ih := inj_ct (q := q) (m := m) (F := F) p n (fun j => q j && !decide (j = F n)) (fun i hi hp => ?_) (fun i j hi hj => h2 i j (by omega) (by omega))
      · have := ctF_strict (p := fun j => q j && !decide (j = F n)) (q := q) (k := F n) m (fun j _ w => by rw [Bool.and_eq_true] at w; exact w.1) f1 (by simp) f2
        omega
      · obtain ⟨g1, g2⟩ := h1 i (by omega) hp
        refine ⟨g1, ?_⟩
        have : F i ≠ F n := fun z => by have := h2 i n (by omega) (by omega) hp c z; omega
        simp [g2, this]
    · rw [if_neg c]
      exact inj_ct (q := q) p n q (fun i hi => h1 i (by omega)) (fun i j hi hj => h2 i j (by omega) (by omega))
theorem ctF_add {p q : Nat → Bool} : ∀ n, (∀ j, j < n → ¬ (p j = true ∧ q j = true)) → ctF (fun j => p j || q j) n = ctF p n + ctF q n
  | 0, _ => rfl
  | n + 1, h => by
    have ih := ctF_add n (fun j hj => h j (by omega))
    have := h n (by omega)
    unfold ctF
    rw [ih]
    cases c1 : p n <;> cases c2 : q n <;> simp_all <;> omega
/-- who is matched to whom by the row of men -/
def muG (g : AR) (i : Nat) : Option Nat := if fnd (fun m => decide (g 2 m = nI i)) 10 < 10 then some (fnd (fun m => decide (g 2 m = nI i)) 10) else none
theorem fnd_t {f : Nat → Bool} {k j : Nat} (hj : j < k) (c : f j = true) : fnd f k < k ∧ f (fnd f k) = true := by
  obtain ⟨z, z1, z2⟩ := pk_least (fun j => f j = true) ⟨j, c⟩
  have zk : z < k := by
    by_cases q : z ≤ j
    · omega
    · exact absurd c (z2 j (by omega))
  have : fnd f k = z := fnd_eq zk (fun q hq => by cases w : f q; rfl; exact absurd w (z2 q hq)) z1
  rw [this]; exact ⟨zk, z1⟩
theorem muG_some {i m : Nat} (c : muG g i = some m) : m < 10 ∧ g 2 m = nI i := by
  unfold muG at c
  split at c
  · rename_i q
    cases c
    refine ⟨q, ?_⟩
    cases z : decide (g 2 (fnd (fun m => decide (g 2 m = nI i)) 10) = nI i)
    · exfalso
      have : ∀ j, j < 10 → decide (g 2 j = nI i) = false := fun j hj => by
        cases w : decide (g 2 j = nI i)
        · rfl
        · have := (fnd_t (f := fun m => decide (g 2 m = nI i)) hj w).2
          rw [z] at this; cases this
      rw [fnd_none this] at q; omega
    · exact of_decide_eq_true z
  · cases c
theorem muG_im {i m : Nat} (hm : m < 10) (c : g 2 m = nI i) : ∃ m', muG g i = some m' := by
  have := fnd_t (f := fun m => decide (g 2 m = nI i)) hm (decide_eq_true c)
  unfold muG
  rw [if_pos this.1]
  exact ⟨_, rfl⟩
def S10 : Int32 := bitI 10 - 1
theorem S10_b {m : Nat} (hm : m < 10) : bI S10 m = true := by unfold S10; rw [bI_all (by decide), decide_eq_true hm]
theorem muG_Mt {me : Nat → Int32} {e : Nat} (he : e ≤ 10) (hM : MI e 0 g) (hme : ∀ i, i < e → g 1 i = me i) : Mt me e S10 (muG g) := by
  refine ⟨fun i hi m hm => ?_, fun i j hi hj m hm hm' => ?_⟩
  · obtain ⟨h1, h2⟩ := muG_some hm
    obtain ⟨w, hw, ew, bw⟩ := (hM.1 m h1 (bI_0 m)).resolve_left (by rw [h2]; exact neg1 (by omega))
    rw [h2] at ew
    have := (nI_eq (by omega) (by omega)).mp ew
    rw [← this, hme i hi] at bw
    exact ⟨h1, bw, S10_b h1⟩
  · obtain ⟨h1, h2⟩ := muG_some hm
    obtain ⟨h3, h4⟩ := muG_some hm'
    exact (nI_eq (by omega) (by omega)).mp (h2.symm.trans h4)
def oA (A : Int32) (o : Option Nat) : Bool := match o with
  | some m => bI A m
  | none => false
def oO (A : Int32) (o : Option Nat) : Bool := match o with
  | some m => !bI A m
  | none => false
/-- no man is found: no more can be right -/
theorem dp_stay {me : Nat → Int32} {e : Nat} {A : Int32} (he : e < 10) (hM : MI e 0 g) (hme : ∀ i, i ≤ e → g 1 i = me i) (hN : ∀ m, m < 10 → bI (me e) m = true → bI A m = true) (hC : ∀ m, m < 10 → bI A m = true → ∃ e', e' < e ∧ g 2 m = nI e' ∧ ∀ m', m' < 10 → bI (me e') m' = true → bI A m' = true) : dpN me (e + 1) S10 = dpN me e S10 := by
  refine Nat.le_antisymm ?_ (dp_step me e S10).1
  obtain ⟨u, T, z⟩ := dp_ex me (e + 1) S10
  rw [← z]
  -- X: those who stand in the search
  let Y : Nat → Bool := fun i => decide (fnd (fun m => bI A m && decide (g 2 m = nI i)) 10 < 10)
  have Yi : ∀ i, Y i = true → ∃ m, m < 10 ∧ bI A m = true ∧ g 2 m = nI i := by
    intro i hi
    have hi' := of_decide_eq_true hi
    apply Decidable.byContradiction
    intro no
    rw [fnd_none (fun q hq => by
      cases w : (bI A q && decide (g 2 q = nI i))
      · rfl
      · rw [Bool.and_eq_true, decide_eq_true_iff] at w
        exact absurd ⟨q, hq, w.1, w.2⟩ no)] at hi'
    omega
  have iY : ∀ i m, m < 10 → bI A m = true → g 2 m = nI i → Y i = true := fun i m h1 h2 h3 => decide_eq_true (fnd_t (f := fun m => bI A m && decide (g 2 m = nI i)) h1 (by rw [h2, decide_eq_true h3]; rfl)).1
  -- the three kinds
  let inA : Nat → Bool := fun i => oA A (u i)
  let out : Nat → Bool := fun i => oO A (u i)
  have tot : szU u (e + 1) = ctF inA (e + 1) + ctF out (e + 1) := by
    rw [← ctF_add (e + 1) (fun j _ q => by
      simp only [inA, out] at q
      cases w : u j with
      | none => rw [w] at q; exact absurd q.1 Bool.false_ne_true
      | some m =>
        rw [w] at q
        have q1 : bI A m = true := q.1
        have q2 : (!bI A m) = true := q.2
        rw [q1] at q2; exact absurd q2 (by decide))]
    refine ctF_congr (fun j _ => ?_)
    simp only [inA, out]
    cases w : u j with
    | none => rfl
    | some m =>
      show true = (bI A m || !bI A m)
      cases bI A m <;> rfl
  -- those within A are at most as many as A
  have cA : ctF inA (e + 1) ≤ ctF (bI A) 10 := by
    refine inj_ct (q := bI A) (F := fun i => (u i).getD 0) inA (e + 1) (bI A) (fun i hi hp => ?_) (fun i j hi hj hp hq ef => ?_)
    · simp only [inA] at hp
      cases w : u i with
      | none => rw [w] at hp; exact absurd hp Bool.false_ne_true
      | some m =>
        rw [w] at hp
        exact ⟨(T.1 i hi m w).1, hp⟩
    · simp only [inA] at hp hq
      cases w : u i with
      | none => rw [w] at hp; exact absurd hp Bool.false_ne_true
      | some m =>
        cases w' : u j with
        | none => rw [w'] at hq; exact absurd hq Bool.false_ne_true
        | some m' =>
          rw [w, w'] at ef
          simp only [Option.getD_some] at ef
          subst ef
          exact T.2 i j hi hj m w w'
  -- A is at most as many as Y
  have cY : ctF (bI A) 10 ≤ ctF Y e := by
    refine inj_ct (q := Y) (F := fun m => (g 2 m).toNatClampNeg) (bI A) 10 Y (fun m hm hp => ?_) (fun m m' hm hm' hp hp' ef => ?_)
    · obtain ⟨e', h1, h2, -⟩ := hC m hm hp
      rw [h2, nI_clamp (by omega)]
      exact ⟨h1, iY e' m hm hp h2⟩
    · obtain ⟨e1, h1, h2, -⟩ := hC m hm hp
      obtain ⟨e2, h3, h4, -⟩ := hC m' hm' hp'
      rw [h2, h4, nI_clamp (by omega), nI_clamp (by omega)] at ef
      subst ef
      exact hM.2 m m' hm hm' (bI_0 _) (bI_0 _) (h2.trans h4.symm) (by rw [h2]; exact neg1 (by omega))
  -- those without A do not stand in the search
  have oN : ∀ i, i < e + 1 → out i = true → i < e ∧ Y i = false := by
    intro i hi hp
    simp only [out] at hp
    cases w : u i with
    | none => rw [w] at hp; exact absurd hp Bool.false_ne_true
    | some m =>
      rw [w] at hp
      have hp : (!bI A m) = true := hp
      obtain ⟨t1, t2, -⟩ := T.1 i hi m w
      have nA : ∀ m', bI A m' = true → m ≠ m' := fun m' q z => by rw [z, q] at hp; exact absurd hp (by decide)
      refine ⟨?_, ?_⟩
      · by_cases ei : i = e
        · subst ei
          have := hN m t1 t2
          exact absurd rfl (nA m this)
        · omega
      · cases y : Y i
        · rfl
        · obtain ⟨m', q1, q2, q3⟩ := Yi i y
          obtain ⟨e', h1, h2, h3⟩ := hC m' q1 q2
          rw [q3] at h2
          have ie : i = e' := (nI_eq (by omega) (by omega)).mp h2
          rw [← ie] at h3
          exact absurd rfl (nA m (h3 m t1 t2))
  have cO : ctF out (e + 1) = ctF out e := by
    show (if out e = true then _ else _) = _
    cases w : out e
    · rfl
    · have := (oN e (by omega) w).1; omega
  -- the new matching
  have T2 : Mt me e S10 (fun i => if Y i = true then muG g i else if out i = true then u i else none) := by
    have TG := muG_Mt (me := me) (e := e) (g := g) (by omega) hM (fun i hi => hme i (by omega))
    refine ⟨fun i hi m hm => ?_, fun i j hi hj m hm hm' => ?_⟩
    · dsimp only at hm
      by_cases yi : Y i = true
      · rw [if_pos yi] at hm; exact TG.1 i hi m hm
      · rw [if_neg yi] at hm
        by_cases oi : out i = true
        · rw [if_pos oi] at hm; exact T.1 i (by omega) m hm
        · rw [if_neg oi] at hm; cases hm
    · dsimp only at hm hm'
      have YA : ∀ i m, i < e → Y i = true → muG g i = some m → bI A m = true := by
        intro i m hi yi hm
        obtain ⟨h1, h2⟩ := muG_some hm
        obtain ⟨m', q1, q2, q3⟩ := Yi i yi
        have := hM.2 m m' h1 q1 (bI_0 _) (bI_0 _) (h2.trans q3.symm) (by rw [h2]; exact neg1 (by omega))
        rw [this]; exact q2
      have OA : ∀ i m, out i = true → u i = some m → bI A m = false := by
        intro i m oi hm
        simp only [out] at oi
        rw [hm] at oi
        have oi : (!bI A m) = true := oi
        cases w : bI A m
        · rfl
        · rw [w] at oi; exact absurd oi (by decide)
      by_cases yi : Y i = true
      · rw [if_pos yi] at hm
        by_cases yj : Y j = true
        · rw [if_pos yj] at hm'; exact TG.2 i j hi hj m hm hm'
        · rw [if_neg yj] at hm'
          by_cases oj : out j = true
          · rw [if_pos oj] at hm'
            have := YA i m hi yi hm
            rw [OA j m oj hm'] at this; cases this
          · rw [if_neg oj] at hm'; cases hm'
      · rw [if_neg yi] at hm
        by_cases oi : out i = true
        · rw [if_pos oi] at hm
          by_cases yj : Y j = true
          · rw [if_pos yj] at hm'
            have := YA j m hj yj hm'
            rw [OA i m oi hm] at this; cases this
          · rw [if_neg yj] at hm'
            by_cases oj : out j = true
            · rw [if_pos oj] at hm'; exact T.2 i j (by omega) (by omega) m hm hm'
            · rw [if_neg oj] at hm'; cases hm'
        · rw [if_neg oi] at hm; cases hm
  have z2 := dp_ub me e S10 _ T2
  have z3 : szU (fun i => if Y i = true then muG g i else if out i = true then u i else none) e = ctF Y e + ctF out e := by
    rw [← ctF_add e (fun j hj q => by have := (oN j (by omega) q.2).2; rw [q.1] at this; cases this)]
    refine ctF_congr (fun j hj => ?_)
    dsimp only
    by_cases yj : Y j = true
    · rw [if_pos yj, yj, Bool.true_or]
      obtain ⟨m', q1, q2, q3⟩ := Yi j yj
      obtain ⟨w, hw⟩ := muG_im q1 q3
      rw [hw]; rfl
    · rw [if_neg yj]
      cases y : Y j
      · by_cases oj : out j = true
        · rw [if_pos oj, oj]
          simp only [out] at oj
          cases w : u j with
          | none => rw [w] at oj; exact absurd oj Bool.false_ne_true
          | some m => rfl
        · rw [if_neg oj]
          cases o : out j
          · rfl
          · exact absurd o oj
      · exact absurd y yj
  omega
theorem muG_iff {i : Nat} : (muG g i).isSome = true ↔ im 0 g i := by
  constructor
  · intro q
    cases w : muG g i with
    | none => rw [w] at q; cases q
    | some m =>
      obtain ⟨h1, h2⟩ := muG_some w
      exact ⟨m, h1, bI_0 m, h2⟩
  · rintro ⟨m, h1, -, h2⟩
    obtain ⟨m', h⟩ := muG_im h1 h2
    rw [h]; rfl
theorem MI.up {e e' : Nat} {A : Int32} (M : MI e A g) (h : e ≤ e') : MI e' A g := ⟨fun m hm q => (M.1 m hm q).imp id (fun ⟨w, h1, h2⟩ => ⟨w, by omega, h2⟩), M.2⟩
theorem un_0 : un 0 ≤ 10 := ctF_le _ _
theorem c_X9_mostRight {me : Nat → Int32} (H : SA h s g) (hc : cnt ≤ 10) (hme : ∀ i, i < cnt → g 1 i = me i) (hQ : ∀ h' g', SA h' s g' → FS s h h' → Q (.inl (some (.int (nI (dpN me cnt S10))))) h' n) : pCall E M_X9_mostRight (d + 12) [.ref s, .int (nI cnt)] h n Q := by
  refine pCall_of rfl rfl (Nat.le_of_ble_eq_true rfl) (by simp [Value.category]) ?_
  refine b_X9_mostRight_0 _ _ _ ?_
  simp only [pEntry, PM.nL, M_X9_mostRight, List.map_cons, List.map_nil, List.length_cons, List.length_nil, Nat.reduceAdd, Nat.reduceSub, Nat.sub_self, List.replicate_succ, List.replicate_zero, List.cons_append, List.nil_append]
  simp only [i_const, i_load, i_aload, i_store, i_astore, i_inc, i_iadd, i_isub, i_imul, i_idiv, i_irem, i_iand, i_ior, i_ixor, i_ishl, i_ishr, i_iushr, i_ineg, i_i2l, i_i2b, i_i2c, i_lcmp, i_dup, i_dup2, i_pop, i_null, i_alen, i_iald, i_bald, i_lald, i_aald, i_iast, i_bast, i_last, i_aast, i_goto, i_icmp_eq, i_icmp_ne, i_icmp_lt, i_icmp_ge, i_icmp_gt, i_icmp_le, i_if_eq, i_if_ne, i_if_lt, i_if_ge, i_if_gt, i_if_le, i_ifnonnull, i_getf, i_putf, i_iret, i_zret, i_aret, i_vret, i_new, i_newa, i_anew, i_oinit, i_callv, i_calls, i_calli, i_max, i_min, i_abs, i_copy, i_throw, i_ldcs, pwt, List.getElem?_cons_zero, List.getElem?_cons_succ, List.set_cons_zero, List.set_cons_succ, List.getD_cons_zero, List.getD_cons_succ, List.length_cons, List.length_nil, List.length_set, List.drop_succ_cons, List.drop_zero, List.take_succ_cons, List.take_zero, List.reverse_cons, List.reverse_nil, List.nil_append, List.cons_append, List.append_nil, List.map_cons, List.map_nil, List.sum_cons, List.sum_nil, Value.category, ne_eq, Nat.reduceEqDiff, reduceIte, ite_self, false_implies, true_implies, true_and, and_true, and_self, Nat.zero_le, Nat.le_refl, Nat.reduceLeDiff, Nat.reduceAdd, Nat.reduceLT, Nat.add_zero, Nat.zero_add, pu_eq, not_false_eq_true, not_true_eq_false, forall_const, if_true, if_false, implies_true, H.f0]
  refine c_J7_fill (by decide) H.f2 (fun g' hg' => ?_)
  have H1 : SA (pu h (s + 2) (SC s (rs g 2 g') 2)) s (rs g 2 g') := by
    intro j hj
    by_cases e : j = 2
    · subst e; exact pu_eq _ _ _
    · rw [pu_ne (by omega), H j hj, SC_row hj (rs_ne e)]
  have F1 : FS s h (pu h (s + 2) (SC s (rs g 2 g') 2)) := FS.rf.pu (by decide)
  simp only [i_const, i_load, i_aload, i_store, i_astore, i_inc, i_iadd, i_isub, i_imul, i_idiv, i_irem, i_iand, i_ior, i_ixor, i_ishl, i_ishr, i_iushr, i_ineg, i_i2l, i_i2b, i_i2c, i_lcmp, i_dup, i_dup2, i_pop, i_null, i_alen, i_iald, i_bald, i_lald, i_aald, i_iast, i_bast, i_last, i_aast, i_goto, i_icmp_eq, i_icmp_ne, i_icmp_lt, i_icmp_ge, i_icmp_gt, i_icmp_le, i_if_eq, i_if_ne, i_if_lt, i_if_ge, i_if_gt, i_if_le, i_ifnonnull, i_getf, i_putf, i_iret, i_zret, i_aret, i_vret, i_new, i_newa, i_anew, i_oinit, i_callv, i_calls, i_calli, i_max, i_min, i_abs, i_copy, i_throw, i_ldcs, pwt, List.getElem?_cons_zero, List.getElem?_cons_succ, List.set_cons_zero, List.set_cons_succ, List.getD_cons_zero, List.getD_cons_succ, List.length_cons, List.length_nil, List.length_set, List.drop_succ_cons, List.drop_zero, List.take_succ_cons, List.take_zero, List.reverse_cons, List.reverse_nil, List.nil_append, List.cons_append, List.append_nil, List.map_cons, List.map_nil, List.sum_cons, List.sum_nil, Value.category, ne_eq, Nat.reduceEqDiff, reduceIte, ite_self, false_implies, true_implies, true_and, and_true, and_self, Nat.zero_le, Nat.le_refl, Nat.reduceLeDiff, Nat.reduceAdd, Nat.reduceLT, Nat.add_zero, Nat.zero_add, pu_eq, not_false_eq_true, not_true_eq_false, forall_const, if_true, if_false, implies_true, pRetK]
  refine pFor cnt (fun i ls σ => ∃ h1 g1, SA h1 s g1 ∧ FS s h h1 ∧ g1 1 = g 1 ∧ MI i 0 g1 ∧ szU (muG g1) i = dpN me i S10 ∧ ls = [some (.ref s), some (.int (nI cnt)), some (.int (nI (dpN me i S10))), some (.int (nI i))] ∧ σ = (h1, n, 0, 0)) ?_ ?_ 0 (Nat.zero_le _) _ _ ⟨_, _, H1, F1, rfl, ⟨fun m hm _ => Or.inl ?_, fun m m' hm hm' _ _ _ ne => absurd ?_ ne⟩, rfl, rfl, rfl⟩
  · rintro i hi ls σ ⟨h1, g1, H1, F1, G1, M1, Z1, rfl, rfl⟩ ih
    obtain ⟨e1, e2, e3, e4⟩ := jFacts hi hc (by decide)
    have e10 : ¬ (10 : Int32) ≤ nI i := nI_ge (b := 10) (by omega) (by decide)
    refine b_X9_mostRight_12 _ _ _ ?_
    have H2 := H1.ru 0 2 0
    have F2 : FS s h1 (pu h1 (s + 0) (SC s (ru g1 0 2 0) 0)) := FS.rf.pu (by decide)
    have a0 : ru g1 0 2 0 0 2 = 0 := by rw [ru_at, if_pos ⟨rfl, rfl⟩]
    have a1 : ru g1 0 2 0 1 = g 1 := G1
    have a2 : ru g1 0 2 0 2 = g1 2 := rfl
    have M2 : MI (i + 1) 0 (ru g1 0 2 0) := M1.up (by omega)
    have noi : ¬ im 0 (ru g1 0 2 0) i := by
      rintro ⟨m, hm, -, em⟩
      rw [a2] at em
      obtain ⟨w, hw, ew, -⟩ := (M1.1 m hm (bI_0 m)).resolve_left (by rw [em]; exact neg1 (by omega))
      rw [em] at ew
      have := (nI_eq (by omega) (by omega)).mp ew
      omega
    simp only [i_const, i_load, i_aload, i_store, i_astore, i_inc, i_iadd, i_isub, i_imul, i_idiv, i_irem, i_iand, i_ior, i_ixor, i_ishl, i_ishr, i_iushr, i_ineg, i_i2l, i_i2b, i_i2c, i_lcmp, i_dup, i_dup2, i_pop, i_null, i_alen, i_iald, i_bald, i_lald, i_aald, i_iast, i_bast, i_last, i_aast, i_goto, i_icmp_eq, i_icmp_ne, i_icmp_lt, i_icmp_ge, i_icmp_gt, i_icmp_le, i_if_eq, i_if_ne, i_if_lt, i_if_ge, i_if_gt, i_if_le, i_ifnonnull, i_getf, i_putf, i_iret, i_zret, i_aret, i_vret, i_new, i_newa, i_anew, i_oinit, i_callv, i_calls, i_calli, i_max, i_min, i_abs, i_copy, i_throw, i_ldcs, pwt, List.getElem?_cons_zero, List.getElem?_cons_succ, List.set_cons_zero, List.set_cons_succ, List.getD_cons_zero, List.getD_cons_succ, List.length_cons, List.length_nil, List.length_set, List.drop_succ_cons, List.drop_zero, List.take_succ_cons, List.take_zero, List.reverse_cons, List.reverse_nil, List.nil_append, List.cons_append, List.append_nil, List.map_cons, List.map_nil, List.sum_cons, List.sum_nil, Value.category, ne_eq, Nat.reduceEqDiff, reduceIte, ite_self, false_implies, true_implies, true_and, and_true, and_self, Nat.zero_le, Nat.le_refl, Nat.reduceLeDiff, Nat.reduceAdd, Nat.reduceLT, Nat.add_zero, Nat.zero_add, pu_eq, not_false_eq_true, not_true_eq_false, forall_const, if_true, if_false, implies_true, e1, e10, H1.f0, H2.f0]
    refine ⟨rfl, rfl, ?_⟩
    refine c_X9_findMan (cnt := i + 1) (d := d) 10 (h := pu h1 (s + 0) (SC s (ru g1 0 2 0) 0)) (g := ru g1 0 2 0) H2 (by omega) (by omega) (by rw [a0]; exact un_0) (by rw [a0]; exact M2) (by rw [a0]; exact noi) (fun h3 g3 H3 F3 S3 _ M3 J3 _ => ?_) (fun h3 g3 H3 F3 S3 E3 _ N3 C3 => ?_)
    · rw [a0] at M3 J3
      have g31 : g3 1 = g 1 := S3.1.trans a1
      simp only [i_const, i_load, i_aload, i_store, i_astore, i_inc, i_iadd, i_isub, i_imul, i_idiv, i_irem, i_iand, i_ior, i_ixor, i_ishl, i_ishr, i_iushr, i_ineg, i_i2l, i_i2b, i_i2c, i_lcmp, i_dup, i_dup2, i_pop, i_null, i_alen, i_iald, i_bald, i_lald, i_aald, i_iast, i_bast, i_last, i_aast, i_goto, i_icmp_eq, i_icmp_ne, i_icmp_lt, i_icmp_ge, i_icmp_gt, i_icmp_le, i_if_eq, i_if_ne, i_if_lt, i_if_ge, i_if_gt, i_if_le, i_ifnonnull, i_getf, i_putf, i_iret, i_zret, i_aret, i_vret, i_new, i_newa, i_anew, i_oinit, i_callv, i_calls, i_calli, i_max, i_min, i_abs, i_copy, i_throw, i_ldcs, pwt, List.getElem?_cons_zero, List.getElem?_cons_succ, List.set_cons_zero, List.set_cons_succ, List.getD_cons_zero, List.getD_cons_succ, List.length_cons, List.length_nil, List.length_set, List.drop_succ_cons, List.drop_zero, List.take_succ_cons, List.take_zero, List.reverse_cons, List.reverse_nil, List.nil_append, List.cons_append, List.append_nil, List.map_cons, List.map_nil, List.sum_cons, List.sum_nil, Value.category, ne_eq, Nat.reduceEqDiff, reduceIte, ite_self, false_implies, true_implies, true_and, and_true, and_self, Nat.zero_le, Nat.le_refl, Nat.reduceLeDiff, Nat.reduceAdd, Nat.reduceLT, Nat.add_zero, Nat.zero_add, pu_eq, not_false_eq_true, not_true_eq_false, forall_const, if_true, if_false, implies_true, pRetK, e4]
      refine ⟨fun q => absurd q (by decide), fun _ => ?_⟩
      have up := (dp_step me i S10).2
      have T3 := muG_Mt (me := me) (e := i + 1) (g := g3) (by omega) M3 (fun w hw => by rw [g31]; exact hme w (by omega))
      have u3 := dp_ub me (i + 1) S10 _ T3
      have z3 : szU (muG g3) (i + 1) = szU (muG g1) i + 1 := by
        have hs := muG_iff.mpr ((J3 i (by omega)).mpr (Or.inl rfl))
        show (if (muG g3 i).isSome = true then _ else _) = _
        rw [if_pos hs]
        congr 1
        refine ctF_congr (fun j hj => ?_)
        rw [Bool.eq_iff_iff, muG_iff, muG_iff, J3 j (by omega)]
        exact ⟨fun q => q.resolve_left (by omega), Or.inr⟩
      have zz : dpN me (i + 1) S10 = dpN me i S10 + 1 := by omega
      rw [nI_1, ← zz]
      exact ih _ _ ⟨h3, g3, H3, (F1.tr F2).tr F3, g31, M3, by omega, rfl, rfl⟩
    · rw [a0] at C3
      rw [a1] at N3 C3
      rw [a2] at E3 C3
      simp only [i_const, i_load, i_aload, i_store, i_astore, i_inc, i_iadd, i_isub, i_imul, i_idiv, i_irem, i_iand, i_ior, i_ixor, i_ishl, i_ishr, i_iushr, i_ineg, i_i2l, i_i2b, i_i2c, i_lcmp, i_dup, i_dup2, i_pop, i_null, i_alen, i_iald, i_bald, i_lald, i_aald, i_iast, i_bast, i_last, i_aast, i_goto, i_icmp_eq, i_icmp_ne, i_icmp_lt, i_icmp_ge, i_icmp_gt, i_icmp_le, i_if_eq, i_if_ne, i_if_lt, i_if_ge, i_if_gt, i_if_le, i_ifnonnull, i_getf, i_putf, i_iret, i_zret, i_aret, i_vret, i_new, i_newa, i_anew, i_oinit, i_callv, i_calls, i_calli, i_max, i_min, i_abs, i_copy, i_throw, i_ldcs, pwt, List.getElem?_cons_zero, List.getElem?_cons_succ, List.set_cons_zero, List.set_cons_succ, List.getD_cons_zero, List.getD_cons_succ, List.length_cons, List.length_nil, List.length_set, List.drop_succ_cons, List.drop_zero, List.take_succ_cons, List.take_zero, List.reverse_cons, List.reverse_nil, List.nil_append, List.cons_append, List.append_nil, List.map_cons, List.map_nil, List.sum_cons, List.sum_nil, Value.category, ne_eq, Nat.reduceEqDiff, reduceIte, ite_self, false_implies, true_implies, true_and, and_true, and_self, Nat.zero_le, Nat.le_refl, Nat.reduceLeDiff, Nat.reduceAdd, Nat.reduceLT, Nat.add_zero, Nat.zero_add, pu_eq, not_false_eq_true, not_true_eq_false, forall_const, if_true, if_false, implies_true, pRetK, e4]
      have g31 : g3 1 = g 1 := S3.1.trans a1
      have st : dpN me (i + 1) S10 = dpN me i S10 := by
        refine dp_stay (A := g3 0 2) (g := g1) (by omega) M1 (fun w hw => by rw [G1]; exact hme w (by omega)) (fun m hm q => N3 m hm (by rw [hme i hi]; exact q)) (fun m hm q => ?_)
        obtain ⟨e', h1, h2, h3⟩ := C3 m hm q (bI_0 m)
        refine ⟨e', ?_, h2, fun m' hm' q' => h3 m' hm' (by rw [hme e' (by omega)]; exact q')⟩
        obtain ⟨w, hw, ew, -⟩ := (M1.1 m hm (bI_0 m)).resolve_left (by rw [h2]; exact neg1 (by omega))
        rw [h2] at ew
        have := (nI_eq (by omega) (by omega)).mp ew
        omega
      rw [← st]
      have mg : ∀ w, muG g3 w = muG g1 w := fun w => by unfold muG; rw [E3]
      refine ih _ _ ⟨h3, g3, H3, (F1.tr F2).tr F3, g31, ⟨fun m hm q => ?_, fun m m' hm hm' q q' ee ne => ?_⟩, ?_, rfl, rfl⟩
      · rw [E3, g31, ← G1]; exact (M1.up (Nat.le_succ i)).1 m hm q
      · rw [E3] at ee ne; exact M1.2 m m' hm hm' q q' ee ne
      · rw [st, ← Z1]
        have : muG g1 i = none := by
          cases w : muG g1 i with
          | none => rfl
          | some m =>
            obtain ⟨h1, h2⟩ := muG_some w
            exact absurd ⟨m, h1, bI_0 m, h2⟩ noi
        rw [szU_none (by rw [mg]; exact this)]
        exact ctF_congr (fun j _ => by rw [mg])
  · rintro ls σ ⟨h1, g1, H1, F1, G1, M1, Z1, rfl, rfl⟩
    refine b_X9_mostRight_12 _ _ _ ?_
    simp only [i_const, i_load, i_aload, i_store, i_astore, i_inc, i_iadd, i_isub, i_imul, i_idiv, i_irem, i_iand, i_ior, i_ixor, i_ishl, i_ishr, i_iushr, i_ineg, i_i2l, i_i2b, i_i2c, i_lcmp, i_dup, i_dup2, i_pop, i_null, i_alen, i_iald, i_bald, i_lald, i_aald, i_iast, i_bast, i_last, i_aast, i_goto, i_icmp_eq, i_icmp_ne, i_icmp_lt, i_icmp_ge, i_icmp_gt, i_icmp_le, i_if_eq, i_if_ne, i_if_lt, i_if_ge, i_if_gt, i_if_le, i_ifnonnull, i_getf, i_putf, i_iret, i_zret, i_aret, i_vret, i_new, i_newa, i_anew, i_oinit, i_callv, i_calls, i_calli, i_max, i_min, i_abs, i_copy, i_throw, i_ldcs, pwt, List.getElem?_cons_zero, List.getElem?_cons_succ, List.set_cons_zero, List.set_cons_succ, List.getD_cons_zero, List.getD_cons_succ, List.length_cons, List.length_nil, List.length_set, List.drop_succ_cons, List.drop_zero, List.take_succ_cons, List.take_zero, List.reverse_cons, List.reverse_nil, List.nil_append, List.cons_append, List.append_nil, List.map_cons, List.map_nil, List.sum_cons, List.sum_nil, Value.category, ne_eq, Nat.reduceEqDiff, reduceIte, ite_self, false_implies, true_implies, true_and, and_true, and_self, Nat.zero_le, Nat.le_refl, Nat.reduceLeDiff, Nat.reduceAdd, Nat.reduceLT, Nat.add_zero, Nat.zero_add, pu_eq, not_false_eq_true, not_true_eq_false, forall_const, if_true, if_false, implies_true, nI_le_self]
    exact hQ h1 g1 H1 F1
  · exact hg' m hm
  · exact hg' m hm
end RIGHT

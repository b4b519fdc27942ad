/-! the fewest men -/
section MFEW
variable {E : PE} {M : PM} {d : Nat} {Q : PQ} {h h' : PH} {n : Nat} {m : Nat} {w : AR} {r : AR} {C : Option LawL} {pc : Nat} {ls : LawL}
/-- the last of the fewest, falling from k to 0 -/
def dnM (P : Nat → Bool) (f : Nat → Nat) : Nat → Nat → Nat
  | 0, b => b
  | k + 1, b => dnM P f k (if f k ≤ f b ∧ P k = true then k else b)
theorem dnM_spec (P : Nat → Bool) (f : Nat → Nat) : ∀ k b, (dnM P f k b = b ∨ (P (dnM P f k b) = true ∧ dnM P f k b < k)) ∧ f (dnM P f k b) ≤ f b ∧ ∀ q, q < k → P q = true → f (dnM P f k b) ≤ f q ∧ (q < dnM P f k b → f (dnM P f k b) < f q)
  | 0, b => ⟨Or.inl rfl, Nat.le_refl _, fun q h => absurd h (Nat.not_lt_zero q)⟩
  | k + 1, b => by
    unfold dnM
    by_cases c : f k ≤ f b ∧ P k = true
    · rw [if_pos c]
      obtain ⟨i1, i2, i3⟩ := dnM_spec P f k k
      refine ⟨Or.inr ?_, Nat.le_trans i2 c.1, fun q h1 h2 => ?_⟩
      · rcases i1 with e | ⟨e1, e2⟩
        · rw [e]; exact ⟨c.2, Nat.lt_succ_self _⟩
        · exact ⟨e1, by omega⟩
      · by_cases z : q = k
        · subst z
          refine ⟨i2, fun z2 => ?_⟩
          rcases i1 with e | ⟨e1, e2⟩
          · rw [e] at z2; omega
          · omega
        · exact i3 q (by omega) h2
    · rw [if_neg c]
      obtain ⟨i1, i2, i3⟩ := dnM_spec P f k b
      refine ⟨?_, i2, fun q h1 h2 => ?_⟩
      · rcases i1 with e | ⟨e1, e2⟩
        · exact Or.inl e
        · exact Or.inr ⟨e1, by omega⟩
      · by_cases z : q = k
        · subst z
          have : f b < f q := by
            by_cases z2 : f b < f q
            · exact z2
            · exact absurd ⟨by omega, h2⟩ c
          exact ⟨by omega, fun _ => by omega⟩
        · exact i3 q (by omega) h2
theorem mnU_spec (P : Nat → Bool) (f : Nat → Nat) (z : Nat) : ∀ k, (mnU P f z k = z ∨ (P (mnU P f z k) = true ∧ 0 < mnU P f z k ∧ mnU P f z k ≤ k)) ∧ f (mnU P f z k) ≤ f z ∧ (∀ q, 0 < q → q ≤ k → P q = true → f (mnU P f z k) ≤ f q ∧ (mnU P f z k ≠ z → q < mnU P f z k → f (mnU P f z k) < f q))
  | 0 => ⟨Or.inl rfl, Nat.le_refl _, fun q h1 h2 => absurd h2 (by omega)⟩
  | k + 1 => by
    obtain ⟨i1, i2, i3⟩ := mnU_spec P f z k
    unfold mnU
    by_cases c : f (k + 1) < f (mnU P f z k) ∧ P (k + 1) = true
    · rw [if_pos c]
      refine ⟨Or.inr ⟨c.2, by omega, Nat.le_refl _⟩, by omega, fun q h1 h2 h3 => ?_⟩
      by_cases e : q = k + 1
      · subst e; exact ⟨Nat.le_refl _, fun _ z2 => by omega⟩
      · have := (i3 q h1 (by omega) h3).1
        exact ⟨by omega, fun _ _ => by omega⟩
    · rw [if_neg c]
      refine ⟨?_, i2, fun q h1 h2 h3 => ?_⟩
      · rcases i1 with e | ⟨e1, e2, e3⟩
        · exact Or.inl e
        · exact Or.inr ⟨e1, e2, by omega⟩
      · by_cases e : q = k + 1
        · subst e
          have : f (mnU P f z k) ≤ f (k + 1) := by
            by_cases z2 : f (k + 1) < f (mnU P f z k)
            · exact absurd ⟨z2, h3⟩ c
            · omega
          refine ⟨this, fun n1 z2 => ?_⟩
          rcases i1 with e | ⟨e1, e2, e3⟩
          · exact absurd e n1
          · omega
        · exact i3 q h1 (by omega) h3
theorem pc_full {m k : Nat} (hm : m ≤ 30) (hk : k < 2 ^ m) : pcI (nI k) ≤ m ∧ (pcI (nI k) = m → k = 2 ^ m - 1) := by
  have p30 : 2 ^ m ≤ 2 ^ 30 := Nat.pow_le_pow_right (by decide) hm
  have low : ∀ i, m ≤ i → bI (nI k) i = false := fun i hi => by
    rw [bI_nI (by omega)]
    exact Nat.testBit_lt_two_pow (Nat.lt_of_lt_of_le hk (Nat.pow_le_pow_right (by decide) hi))
  have e : pcI (nI k) = ctF (bI (nI k)) m := ctF_lt (bI (nI k)) 32 (by omega) low
  refine ⟨by rw [e]; exact ctF_le _ _, fun q => ?_⟩
  rw [e] at q
  have all : ∀ i, i < m → bI (nI k) i = true := by
    intro i hi
    cases z : bI (nI k) i with
    | true => rfl
    | false =>
      have := ctF_strict (p := bI (nI k)) (q := fun _ => true) (k := i) m (fun _ _ _ => rfl) hi z rfl
      rw [ctF_all] at this; omega
  apply Nat.eq_of_testBit_eq
  intro i
  rw [Nat.testBit_two_pow_sub_one, ← bI_nI (k := k) (by omega)]
  by_cases c : i < m
  · rw [all i c, decide_eq_true c]
  · rw [low i (by omega), decide_eq_false c]
/-- all battles of which there are scars are borne by one of the set -/
def cvP (r : AR) (x : Int32) : Prop := ∀ j, j < cl r 8 0 → ∃ i, i < cl r 8 0 ∧ r 11 i = r 11 j ∧ bI x (cl r 15 i) = true
theorem bb_bit (W : WA r) (man : Nat) {b : Nat} (hb : b < 32) : bI (bbS r (cl r 8 0) man) b = true ↔ ∃ j, j < cl r 8 0 ∧ r 15 j = nI man ∧ r 11 j = nI b := by
  unfold bbS
  exact bI_ba W hb
theorem cv_iff (W : WA r) (x : Int32) : boS (bbS r (cl r 8 0)) x (cl r 5 0) = orF (bbS r (cl r 8 0)) (cl r 5 0) ↔ cvP r x := by
  have m10 := W.m10
  have b8 := W.b8
  have L : ∀ b, b < 32 → (bI (boS (bbS r (cl r 8 0)) x (cl r 5 0)) b = true ↔ ∃ j, j < cl r 8 0 ∧ r 11 j = nI b ∧ bI x (cl r 15 j) = true) := by
    intro b hb
    unfold boS
    rw [bI_orF]
    constructor
    · rintro ⟨i, hi, q⟩
      by_cases c : bI x i = true
      · rw [if_pos c] at q
        obtain ⟨j, h1, h2, h3⟩ := (bb_bit W i hb).mp q
        refine ⟨j, h1, h3, ?_⟩
        have : cl r 15 j = i := cl_of h2 (by omega)
        rw [this]; exact c
      · rw [if_neg c, bI_0] at q; cases q
    · rintro ⟨j, h1, h2, h3⟩
      obtain ⟨a1, a2⟩ := W.brr h1
      exact ⟨cl r 15 j, a2, by rw [if_pos h3]; exact (bb_bit W _ hb).mpr ⟨j, h1, a1, h2⟩⟩
  have Rr : ∀ b, b < 32 → (bI (orF (bbS r (cl r 8 0)) (cl r 5 0)) b = true ↔ ∃ j, j < cl r 8 0 ∧ r 11 j = nI b) := by
    intro b hb
    rw [bI_orF]
    constructor
    · rintro ⟨i, hi, q⟩
      obtain ⟨j, h1, h2, h3⟩ := (bb_bit W i hb).mp q
      exact ⟨j, h1, h3⟩
    · rintro ⟨j, h1, h2⟩
      obtain ⟨a1, a2⟩ := W.brr h1
      exact ⟨cl r 15 j, a2, (bb_bit W _ hb).mpr ⟨j, h1, a1, h2⟩⟩
  constructor
  · intro e j hj
    obtain ⟨a1, a2⟩ := W.bt hj
    have := (Rr (bat r j) (by omega)).mpr ⟨j, hj, a1⟩
    rw [← e] at this
    obtain ⟨i, h1, h2, h3⟩ := (L (bat r j) (by omega)).mp this
    exact ⟨i, h1, by rw [h2, a1], h3⟩
  · intro H
    refine bI_ext (fun b hb => b_iff ?_)
    rw [L b hb, Rr b hb]
    constructor
    · rintro ⟨j, h1, h2, -⟩; exact ⟨j, h1, h2⟩
    · rintro ⟨j, h1, h2⟩
      obtain ⟨i, g1, g2, g3⟩ := H j h1
      exact ⟨i, g1, by rw [g2, h2], g3⟩
def mtB (r : AR) (b : Int32) : Int32 := orF (fun j => if r 11 j = b then 1 <<< (r 15 j &&& 31) else 0) (cl r 8 0)
theorem mt_and (W : WA r) (b x : Int32) : mtB r b &&& x ≠ 0 ↔ ∃ i, i < cl r 8 0 ∧ r 11 i = b ∧ bI x (cl r 15 i) = true := by
  have m10 := W.m10
  constructor
  · intro q
    obtain ⟨k, h1, -⟩ := low_bit q
    rw [bI_and, Bool.and_eq_true] at h1
    have k32 : k < 32 := by
      by_cases c : k < 32
      · exact c
      · rw [bI_big _ (by omega)] at h1; exact absurd h1.1 (by decide)
    obtain ⟨i, g1, g2, g3⟩ := (bI_mn W (Or.inr rfl) k32).mp h1.1
    refine ⟨i, g1, g2, ?_⟩
    rw [cl_of g3 (by omega)]; exact h1.2
  · rintro ⟨i, g1, g2, g3⟩ q
    obtain ⟨a1, a2⟩ := W.brr g1
    have := (bI_z.mp q) (cl r 15 i) (by omega)
    rw [bI_and, g3, show bI (mtB r b) (cl r 15 i) = true from (bI_mn (P := fun j => r 11 j = b) W (Or.inr rfl) (by omega)).mpr ⟨i, g1, g2, a1⟩] at this
    cases this
theorem cv_b (W : WA r) (x : Int32) : cvP r x ↔ ∀ b, b < cl r 1 0 → sbM r (nI b) = 0 ∨ mtB r (nI b) &&& x ≠ 0 := by
  constructor
  · intro H b hb
    by_cases c : sbM r (nI b) = 0
    · exact Or.inl c
    · obtain ⟨j, h1, h2⟩ := (sbM_z W _).mp c
      obtain ⟨i, g1, g2, g3⟩ := H j h1
      exact Or.inr ((mt_and W _ _).mpr ⟨i, g1, by rw [g2, h2], g3⟩)
  · intro H j hj
    obtain ⟨a1, a2⟩ := W.bt hj
    rcases H _ a2 with q | q
    · exact absurd q ((sbM_z W _).mpr ⟨j, hj, a1⟩)
    · obtain ⟨i, g1, g2, g3⟩ := (mt_and W _ _).mp q
      exact ⟨i, g1, by rw [g2, a1], g3⟩
theorem few_eq (W : WA r) : fwS r (cl r 8 0) (cl r 5 0) = dnM (fun k => decide (boS (bbS r (cl r 8 0)) (nI k) (cl r 5 0) = orF (bbS r (cl r 8 0)) (cl r 5 0))) (fun k => pcI (nI k)) (2 ^ cl r 5 0) (2 ^ cl r 5 0 - 1) := by
  have m10 := W.m10
  have ppos : 0 < 2 ^ cl r 5 0 := Nat.two_pow_pos _
  have p10 : 2 ^ cl r 5 0 ≤ 2 ^ 10 := Nat.pow_le_pow_right (by decide) m10
  have PK : decide (boS (bbS r (cl r 8 0)) (nI (2 ^ cl r 5 0 - 1)) (cl r 5 0) = orF (bbS r (cl r 8 0)) (cl r 5 0)) = true := by
    refine decide_eq_true ((cv_iff W _).mpr (fun j hj => ⟨j, hj, rfl, ?_⟩))
    have := (W.brr hj).2
    rw [bI_nI (by omega), Nat.testBit_two_pow_sub_one]; exact decide_eq_true this
  unfold fwS
  generalize hP : (fun k => decide (boS (bbS r (cl r 8 0)) (nI k) (cl r 5 0) = orF (bbS r (cl r 8 0)) (cl r 5 0))) = P
  have hPk : ∀ k, P k = decide (boS (bbS r (cl r 8 0)) (nI k) (cl r 5 0) = orF (bbS r (cl r 8 0)) (cl r 5 0)) := fun k => by rw [← hP]
  obtain ⟨a1, a2, a3⟩ := dnM_spec P (fun k => pcI (nI k)) (2 ^ cl r 5 0) (2 ^ cl r 5 0 - 1)
  generalize dnM P (fun k => pcI (nI k)) (2 ^ cl r 5 0) (2 ^ cl r 5 0 - 1) = y at a1 a2 a3
  have Py : P y = true := by
    rcases a1 with e | e
    · rw [e, hPk]; exact PK
    · exact e.1
  have y2 : y < 2 ^ cl r 5 0 := by rcases a1 with e | e <;> omega
  have b0 : boS (bbS r (cl r 8 0)) (nI 0) (cl r 5 0) = 0 := by
    refine bI_z.mpr (fun j _ => ?_)
    cases z : bI (boS (bbS r (cl r 8 0)) (nI 0) (cl r 5 0)) j with
    | false => rfl
    | true =>
      unfold boS at z
      obtain ⟨i, hi, q⟩ := (bI_orF _ _ _).mp z
      rw [if_neg (by rw [show nI 0 = 0 from rfl, bI_0]; decide), bI_0] at q
      cases q
  split
  · rename_i c
    have P0 : P 0 = true := by rw [hPk, b0, c]; rfl
    have := (a3 0 ppos P0).1
    simp only [pc_0] at this
    by_cases cy : y = 0
    · exact cy.symm
    · have := pc_pos (q := y) (by omega) (by omega); omega
  · rename_i c
    obtain ⟨b1, b2, b3⟩ := mnU_spec P (fun k => pcI (nI k)) (2 ^ cl r 5 0 - 1) (2 ^ cl r 5 0 - 2)
    generalize mnU P (fun k => pcI (nI k)) (2 ^ cl r 5 0 - 1) (2 ^ cl r 5 0 - 2) = z at b1 b2 b3
    have nP0 : ¬ P 0 = true := fun q => by
      rw [hPk, b0] at q
      exact c (of_decide_eq_true q).symm
    have Pz : P z = true := by
      rcases b1 with e | e
      · rw [e, hPk]; exact PK
      · exact e.1
    have z2 : z < 2 ^ cl r 5 0 := by rcases b1 with e | e <;> omega
    have y0 : y ≠ 0 := fun q => nP0 (by rw [← q]; exact Py)
    obtain ⟨u1, u2⟩ := a3 z z2 Pz
    have fy : pcI (nI z) ≤ pcI (nI y) := by
      by_cases cy : y ≤ 2 ^ cl r 5 0 - 2
      · exact (b3 y (by omega) cy Py).1
      · have : y = 2 ^ cl r 5 0 - 1 := by omega
        rw [this]; exact b2
    by_cases l1 : z < y
    · have := u2 l1; omega
    · by_cases l2 : y < z
      · have nz : z ≠ 2 ^ cl r 5 0 - 1 := by
          intro q
          have pz := pc_full (m := cl r 5 0) (k := z) (by omega) z2
          have py := pc_full (m := cl r 5 0) (k := y) (by omega) y2
          have pk : pcI (nI (2 ^ cl r 5 0 - 1)) = cl r 5 0 := by
            have low : ∀ i, cl r 5 0 ≤ i → bI (nI (2 ^ cl r 5 0 - 1)) i = false := fun i hi => by
              rw [bI_nI (by omega), Nat.testBit_two_pow_sub_one]; exact decide_eq_false (by omega)
            have e : pcI (nI (2 ^ cl r 5 0 - 1)) = ctF (bI (nI (2 ^ cl r 5 0 - 1))) (cl r 5 0) := ctF_lt _ 32 (by omega) low
            rw [e, ctF_congr (g := fun _ => true) (fun i hi => by rw [bI_nI (by omega), Nat.testBit_two_pow_sub_one]; exact decide_eq_true hi), ctF_all]
          have : pcI (nI y) = cl r 5 0 := by
            rw [← q] at pk; omega
          have := py.2 this
          omega
        have := (b3 y (by omega) (by omega) Py).2 nz l2
        omega
      · omega
theorem c_X12_fewest (X : MX h m w) (R : RW (w 1) r C) (W : WA r) (hQ : ∀ h', MX h' m (th w 0) → FM m h h' → Q (.inl (some (.int (nI (fwS r (cl r 8 0) (cl r 5 0)))))) h' n) : pCall E M_X12_fewest (d + 4) [.ref m] h n Q := by
  refine pCall_of rfl rfl (Nat.le_of_ble_eq_true rfl) (by simp [Value.category]) ?_
  refine b_X12_fewest_0 _ _ _ ?_
  simp only [pEntry, PM.nL, M_X12_fewest, List.map_cons, List.map_nil, List.length_cons, List.length_nil, Nat.reduceAdd, Nat.reduceSub, Nat.sub_self, List.replicate_succ, List.replicate_zero, List.cons_append, List.nil_append]
  obtain ⟨X0, F0⟩ := X.th 0
  have R0 : RW ((th w 0) 1) r C := R
  simp only [i_const, i_load, i_aload, i_store, i_astore, i_inc, i_iadd, i_isub, i_imul, i_idiv, i_irem, i_iand, i_ior, i_ixor, i_ishl, i_ishr, i_iushr, i_ineg, i_i2l, i_i2b, i_i2c, i_lcmp, i_dup, i_dup2, i_pop, i_null, i_alen, i_iald, i_bald, i_lald, i_aald, i_iast, i_bast, i_last, i_aast, i_goto, i_icmp_eq, i_icmp_ne, i_icmp_lt, i_icmp_ge, i_icmp_gt, i_icmp_le, i_if_eq, i_if_ne, i_if_lt, i_if_ge, i_if_gt, i_if_le, i_ifnonnull, i_getf, i_putf, i_iret, i_zret, i_aret, i_vret, i_new, i_newa, i_anew, i_oinit, i_callv, i_calls, i_calli, i_max, i_min, i_abs, i_copy, i_throw, i_ldcs, pwt, List.getElem?_cons_zero, List.getElem?_cons_succ, List.set_cons_zero, List.set_cons_succ, List.getD_cons_zero, List.getD_cons_succ, List.length_cons, List.length_nil, List.length_set, List.drop_succ_cons, List.drop_zero, List.take_succ_cons, List.take_zero, List.reverse_cons, List.reverse_nil, List.nil_append, List.cons_append, List.append_nil, List.map_cons, List.map_nil, List.sum_cons, List.sum_nil, Value.category, ne_eq, Nat.reduceEqDiff, reduceIte, ite_self, false_implies, true_implies, true_and, and_true, and_self, Nat.zero_le, Nat.le_refl, Nat.reduceLeDiff, Nat.reduceAdd, Nat.reduceLT, Nat.add_zero, Nat.zero_add, pu_eq, not_false_eq_true, not_true_eq_false, forall_const, if_true, if_false, implies_true, X.f0]
  refine ⟨rfl, rfl, ?_⟩
  have m10 := W.m10
  have b8 := W.b8
  have ppos : 0 < 2 ^ cl r 5 0 := Nat.two_pow_pos _
  have p10 : 2 ^ cl r 5 0 ≤ 2 ^ 10 := Nat.pow_le_pow_right (by decide) m10
  refine c_X12_men X0 R0 ?_
  have e0 : (1 : Int32) <<< (nI (cl r 5 0) &&& 31) - 1 = nI (2 ^ cl r 5 0 - 1) := by
    show bitI (cl r 5 0) - 1 = _
    rw [bit_pow (by omega), show nI (2 ^ cl r 5 0) = nI (2 ^ cl r 5 0 - 1 + 1) by congr 1; omega]
    exact nI_pred _
  simp only [i_const, i_load, i_aload, i_store, i_astore, i_inc, i_iadd, i_isub, i_imul, i_idiv, i_irem, i_iand, i_ior, i_ixor, i_ishl, i_ishr, i_iushr, i_ineg, i_i2l, i_i2b, i_i2c, i_lcmp, i_dup, i_dup2, i_pop, i_null, i_alen, i_iald, i_bald, i_lald, i_aald, i_iast, i_bast, i_last, i_aast, i_goto, i_icmp_eq, i_icmp_ne, i_icmp_lt, i_icmp_ge, i_icmp_gt, i_icmp_le, i_if_eq, i_if_ne, i_if_lt, i_if_ge, i_if_gt, i_if_le, i_ifnonnull, i_getf, i_putf, i_iret, i_zret, i_aret, i_vret, i_new, i_newa, i_anew, i_oinit, i_callv, i_calls, i_calli, i_max, i_min, i_abs, i_copy, i_throw, i_ldcs, pwt, List.getElem?_cons_zero, List.getElem?_cons_succ, List.set_cons_zero, List.set_cons_succ, List.getD_cons_zero, List.getD_cons_succ, List.length_cons, List.length_nil, List.length_set, List.drop_succ_cons, List.drop_zero, List.take_succ_cons, List.take_zero, List.reverse_cons, List.reverse_nil, List.nil_append, List.cons_append, List.append_nil, List.map_cons, List.map_nil, List.sum_cons, List.sum_nil, Value.category, ne_eq, Nat.reduceEqDiff, reduceIte, ite_self, false_implies, true_implies, true_and, and_true, and_self, Nat.zero_le, Nat.le_refl, Nat.reduceLeDiff, Nat.reduceAdd, Nat.reduceLT, Nat.add_zero, Nat.zero_add, pu_eq, not_false_eq_true, not_true_eq_false, forall_const, if_true, if_false, implies_true, pRetK, W.hm, e0]
  rw [few_eq W] at hQ
  generalize hP : (fun k => decide (boS (bbS r (cl r 8 0)) (nI k) (cl r 5 0) = orF (bbS r (cl r 8 0)) (cl r 5 0))) = P at hQ
  have hPk : ∀ k, P k = true ↔ cvP r (nI k) := fun k => by
    rw [← hP, ← cv_iff W]; exact ⟨of_decide_eq_true, decide_eq_true⟩
  generalize hT : dnM P (fun k => pcI (nI k)) (2 ^ cl r 5 0) (2 ^ cl r 5 0 - 1) = T at hQ
  refine pFor (2 ^ cl r 5 0) (fun j ls σ => ∃ b x3 x4, b < 2 ^ cl r 5 0 ∧ dnM P (fun k => pcI (nI k)) (2 ^ cl r 5 0 - j) b = T ∧ ls = [some (.ref m), some (.int (nI b)), some (.int (nI (2 ^ cl r 5 0 - j) - 1)), x3, x4] ∧ σ = (pu h m (.inr (12, [.int 0, .ref (m + 1), .ref (m + 2), .ref (m + 3), .ref (m + 4), .ref (m + 5), .int (w 0 6), .int (w 0 7), .ref (m + 6), .int (w 0 9), .int (w 0 10), .int (w 0 11), .int (w 0 12), .int (w 0 13), .int (w 0 14), .ref (m + 7), .int (w 0 16), .ref (m + 8), .ref (m + 9), .ref (m + 10), .ref (m + 11), .ref (m + 12), .int (w 0 22)])), n, 0, 0)) ?_ ?_ 0 (Nat.zero_le _) _ _ ⟨2 ^ cl r 5 0 - 1, none, none, by omega, hT, ?_, rfl⟩
  · rintro j hj ls σ ⟨b, x3, x4, hb, hd, rfl, rfl⟩ ih
    generalize hk : 2 ^ cl r 5 0 - (j + 1) = k at ih
    have ek : 2 ^ cl r 5 0 - j = k + 1 := by omega
    rw [ek] at hd ⊢
    unfold dnM at hd
    rw [nI_pred]
    have g1 : ¬ nI k < 0 := nI_pos (by omega)
    have g2 : nI k + (-1) = nI k - 1 := (Int32.sub_eq_add_neg _ _).symm
    have next : ∀ b' x3 x4, b' < 2 ^ cl r 5 0 → dnM P (fun k => pcI (nI k)) k b' = T → PW E M_X12_fewest (d + 3 + 1) Q 16 [some (.ref m), some (.int (nI b')), some (.int (nI k - 1)), x3, x4] [] (pu h m (.inr (12, [.int 0, .ref (m + 1), .ref (m + 2), .ref (m + 3), .ref (m + 4), .ref (m + 5), .int (w 0 6), .int (w 0 7), .ref (m + 6), .int (w 0 9), .int (w 0 10), .int (w 0 11), .int (w 0 12), .int (w 0 13), .int (w 0 14), .ref (m + 7), .int (w 0 16), .ref (m + 8), .ref (m + 9), .ref (m + 10), .ref (m + 11), .ref (m + 12), .int (w 0 22)])), n, 0, 0) := fun b' x3 x4 q1 q2 => ih _ _ ⟨b', x3, x4, q1, q2, rfl, rfl⟩
    have p1 := pcI_le (nI b)
    have p2 := pcI_le (nI k)
    refine b_X12_fewest_16 _ _ _ ?_
    simp only [i_const, i_load, i_aload, i_store, i_astore, i_inc, i_iadd, i_isub, i_imul, i_idiv, i_irem, i_iand, i_ior, i_ixor, i_ishl, i_ishr, i_iushr, i_ineg, i_i2l, i_i2b, i_i2c, i_lcmp, i_dup, i_dup2, i_pop, i_null, i_alen, i_iald, i_bald, i_lald, i_aald, i_iast, i_bast, i_last, i_aast, i_goto, i_icmp_eq, i_icmp_ne, i_icmp_lt, i_icmp_ge, i_icmp_gt, i_icmp_le, i_if_eq, i_if_ne, i_if_lt, i_if_ge, i_if_gt, i_if_le, i_ifnonnull, i_getf, i_putf, i_iret, i_zret, i_aret, i_vret, i_new, i_newa, i_anew, i_oinit, i_callv, i_calls, i_calli, i_max, i_min, i_abs, i_copy, i_throw, i_ldcs, pwt, List.getElem?_cons_zero, List.getElem?_cons_succ, List.set_cons_zero, List.set_cons_succ, List.getD_cons_zero, List.getD_cons_succ, List.length_cons, List.length_nil, List.length_set, List.drop_succ_cons, List.drop_zero, List.take_succ_cons, List.take_zero, List.reverse_cons, List.reverse_nil, List.nil_append, List.cons_append, List.append_nil, List.map_cons, List.map_nil, List.sum_cons, List.sum_nil, Value.category, ne_eq, Nat.reduceEqDiff, reduceIte, ite_self, false_implies, true_implies, true_and, and_true, and_self, Nat.zero_le, Nat.le_refl, Nat.reduceLeDiff, Nat.reduceAdd, Nat.reduceLT, Nat.add_zero, Nat.zero_add, pu_eq, not_false_eq_true, not_true_eq_false, forall_const, if_true, if_false, implies_true, g1]
    refine c_J6_bitCount ?_
    simp only [i_const, i_load, i_aload, i_store, i_astore, i_inc, i_iadd, i_isub, i_imul, i_idiv, i_irem, i_iand, i_ior, i_ixor, i_ishl, i_ishr, i_iushr, i_ineg, i_i2l, i_i2b, i_i2c, i_lcmp, i_dup, i_dup2, i_pop, i_null, i_alen, i_iald, i_bald, i_lald, i_aald, i_iast, i_bast, i_last, i_aast, i_goto, i_icmp_eq, i_icmp_ne, i_icmp_lt, i_icmp_ge, i_icmp_gt, i_icmp_le, i_if_eq, i_if_ne, i_if_lt, i_if_ge, i_if_gt, i_if_le, i_ifnonnull, i_getf, i_putf, i_iret, i_zret, i_aret, i_vret, i_new, i_newa, i_anew, i_oinit, i_callv, i_calls, i_calli, i_max, i_min, i_abs, i_copy, i_throw, i_ldcs, pwt, List.getElem?_cons_zero, List.getElem?_cons_succ, List.set_cons_zero, List.set_cons_succ, List.getD_cons_zero, List.getD_cons_succ, List.length_cons, List.length_nil, List.length_set, List.drop_succ_cons, List.drop_zero, List.take_succ_cons, List.take_zero, List.reverse_cons, List.reverse_nil, List.nil_append, List.cons_append, List.append_nil, List.map_cons, List.map_nil, List.sum_cons, List.sum_nil, Value.category, ne_eq, Nat.reduceEqDiff, reduceIte, ite_self, false_implies, true_implies, true_and, and_true, and_self, Nat.zero_le, Nat.le_refl, Nat.reduceLeDiff, Nat.reduceAdd, Nat.reduceLT, Nat.add_zero, Nat.zero_add, pu_eq, not_false_eq_true, not_true_eq_false, forall_const, if_true, if_false, implies_true, pRetK]
    refine c_J6_bitCount ?_
    simp only [i_const, i_load, i_aload, i_store, i_astore, i_inc, i_iadd, i_isub, i_imul, i_idiv, i_irem, i_iand, i_ior, i_ixor, i_ishl, i_ishr, i_iushr, i_ineg, i_i2l, i_i2b, i_i2c, i_lcmp, i_dup, i_dup2, i_pop, i_null, i_alen, i_iald, i_bald, i_lald, i_aald, i_iast, i_bast, i_last, i_aast, i_goto, i_icmp_eq, i_icmp_ne, i_icmp_lt, i_icmp_ge, i_icmp_gt, i_icmp_le, i_if_eq, i_if_ne, i_if_lt, i_if_ge, i_if_gt, i_if_le, i_ifnonnull, i_getf, i_putf, i_iret, i_zret, i_aret, i_vret, i_new, i_newa, i_anew, i_oinit, i_callv, i_calls, i_calli, i_max, i_min, i_abs, i_copy, i_throw, i_ldcs, pwt, List.getElem?_cons_zero, List.getElem?_cons_succ, List.set_cons_zero, List.set_cons_succ, List.getD_cons_zero, List.getD_cons_succ, List.length_cons, List.length_nil, List.length_set, List.drop_succ_cons, List.drop_zero, List.take_succ_cons, List.take_zero, List.reverse_cons, List.reverse_nil, List.nil_append, List.cons_append, List.append_nil, List.map_cons, List.map_nil, List.sum_cons, List.sum_nil, Value.category, ne_eq, Nat.reduceEqDiff, reduceIte, ite_self, false_implies, true_implies, true_and, and_true, and_self, Nat.zero_le, Nat.le_refl, Nat.reduceLeDiff, Nat.reduceAdd, Nat.reduceLT, Nat.add_zero, Nat.zero_add, pu_eq, not_false_eq_true, not_true_eq_false, forall_const, if_true, if_false, implies_true, pRetK, g2]
    refine ⟨fun c => ?_, fun c => ?_⟩
    · have c' : pcI (nI k) ≤ pcI (nI b) := by
        by_cases zz : pcI (nI k) ≤ pcI (nI b)
        · exact zz
        · exact absurd c (nI_ge (by omega) (by omega))
      have done : ∀ (v : Int32) x4, (v = 0 → ¬ cvP r (nI k)) → (v = 1 → cvP r (nI k)) → (v = 0 ∨ v = 1) → (v = 0 → PW E M_X12_fewest (d + 3 + 1) Q 16 [some (.ref m), some (.int (nI b)), some (.int (nI k - 1)), some (.int v), x4] [] (pu h m (.inr (12, [.int 0, .ref (m + 1), .ref (m + 2), .ref (m + 3), .ref (m + 4), .ref (m + 5), .int (w 0 6), .int (w 0 7), .ref (m + 6), .int (w 0 9), .int (w 0 10), .int (w 0 11), .int (w 0 12), .int (w 0 13), .int (w 0 14), .ref (m + 7), .int (w 0 16), .ref (m + 8), .ref (m + 9), .ref (m + 10), .ref (m + 11), .ref (m + 12), .int (w 0 22)])), n, 0, 0)) ∧ (v = 1 → PW E M_X12_fewest (d + 3 + 1) Q 16 [some (.ref m), some (.int (nI k)), some (.int (nI k - 1)), some (.int v), x4] [] (pu h m (.inr (12, [.int 0, .ref (m + 1), .ref (m + 2), .ref (m + 3), .ref (m + 4), .ref (m + 5), .int (w 0 6), .int (w 0 7), .ref (m + 6), .int (w 0 9), .int (w 0 10), .int (w 0 11), .int (w 0 12), .int (w 0 13), .int (w 0 14), .ref (m + 7), .int (w 0 16), .ref (m + 8), .ref (m + 9), .ref (m + 10), .ref (m + 11), .ref (m + 12), .int (w 0 22)])), n, 0, 0)) := by
        intro v x4 q0 q1 _
        refine ⟨fun e => next b _ _ hb ?_, fun e => next k _ _ (by omega) ?_⟩
        · rw [if_neg (fun q => q0 e ((hPk k).mp q.2))] at hd; exact hd
        · rw [if_pos ⟨c', (hPk k).mpr (q1 e)⟩] at hd; exact hd
      refine pFor (cl r 1 0) (fun i ls σ => (∀ b, b < i → sbM r (nI b) = 0 ∨ mtB r (nI b) &&& nI k ≠ 0) ∧ ls = [some (.ref m), some (.int (nI b)), some (.int (nI k)), some (.int 1), some (.int (nI i))] ∧ σ = (pu h m (.inr (12, [.int 0, .ref (m + 1), .ref (m + 2), .ref (m + 3), .ref (m + 4), .ref (m + 5), .int (w 0 6), .int (w 0 7), .ref (m + 6), .int (w 0 9), .int (w 0 10), .int (w 0 11), .int (w 0 12), .int (w 0 13), .int (w 0 14), .ref (m + 7), .int (w 0 16), .ref (m + 8), .ref (m + 9), .ref (m + 10), .ref (m + 11), .ref (m + 12), .int (w 0 22)])), n, 0, 0)) ?_ ?_ 0 (Nat.zero_le _) _ _ ⟨fun a ha => absurd ha (Nat.not_lt_zero a), rfl, rfl⟩
      · rintro i hi ls σ ⟨hin, rfl, rfl⟩ ih2
        obtain ⟨e1, e2, e3, e4⟩ := jFacts hi W.b8 (by decide)
        have nx : (sbM r (nI i) = 0 ∨ mtB r (nI i) &&& nI k ≠ 0) → PW E M_X12_fewest (d + 3 + 1) Q 39 [some (.ref m), some (.int (nI b)), some (.int (nI k)), some (.int 1), some (.int (nI (i + 1)))] [] (pu h m (.inr (12, [.int 0, .ref (m + 1), .ref (m + 2), .ref (m + 3), .ref (m + 4), .ref (m + 5), .int (w 0 6), .int (w 0 7), .ref (m + 6), .int (w 0 9), .int (w 0 10), .int (w 0 11), .int (w 0 12), .int (w 0 13), .int (w 0 14), .ref (m + 7), .int (w 0 16), .ref (m + 8), .ref (m + 9), .ref (m + 10), .ref (m + 11), .ref (m + 12), .int (w 0 22)])), n, 0, 0) := fun q => ih2 _ _ ⟨fun b hb => by
          by_cases z : b = i
          · subst z; exact q
          · exact hin b (by omega), rfl, rfl⟩
        refine b_X12_fewest_39 _ _ _ ?_
        simp only [i_const, i_load, i_aload, i_store, i_astore, i_inc, i_iadd, i_isub, i_imul, i_idiv, i_irem, i_iand, i_ior, i_ixor, i_ishl, i_ishr, i_iushr, i_ineg, i_i2l, i_i2b, i_i2c, i_lcmp, i_dup, i_dup2, i_pop, i_null, i_alen, i_iald, i_bald, i_lald, i_aald, i_iast, i_bast, i_last, i_aast, i_goto, i_icmp_eq, i_icmp_ne, i_icmp_lt, i_icmp_ge, i_icmp_gt, i_icmp_le, i_if_eq, i_if_ne, i_if_lt, i_if_ge, i_if_gt, i_if_le, i_ifnonnull, i_getf, i_putf, i_iret, i_zret, i_aret, i_vret, i_new, i_newa, i_anew, i_oinit, i_callv, i_calls, i_calli, i_max, i_min, i_abs, i_copy, i_throw, i_ldcs, pwt, List.getElem?_cons_zero, List.getElem?_cons_succ, List.set_cons_zero, List.set_cons_succ, List.getD_cons_zero, List.getD_cons_succ, List.length_cons, List.length_nil, List.length_set, List.drop_succ_cons, List.drop_zero, List.take_succ_cons, List.take_zero, List.reverse_cons, List.reverse_nil, List.nil_append, List.cons_append, List.append_nil, List.map_cons, List.map_nil, List.sum_cons, List.sum_nil, Value.category, ne_eq, Nat.reduceEqDiff, reduceIte, ite_self, false_implies, true_implies, true_and, and_true, and_self, Nat.zero_le, Nat.le_refl, Nat.reduceLeDiff, Nat.reduceAdd, Nat.reduceLT, Nat.add_zero, Nat.zero_add, pu_eq, not_false_eq_true, not_true_eq_false, forall_const, if_true, if_false, implies_true, X0.f0]
        refine c_X12_battles X0 R0 ?_
        simp only [i_const, i_load, i_aload, i_store, i_astore, i_inc, i_iadd, i_isub, i_imul, i_idiv, i_irem, i_iand, i_ior, i_ixor, i_ishl, i_ishr, i_iushr, i_ineg, i_i2l, i_i2b, i_i2c, i_lcmp, i_dup, i_dup2, i_pop, i_null, i_alen, i_iald, i_bald, i_lald, i_aald, i_iast, i_bast, i_last, i_aast, i_goto, i_icmp_eq, i_icmp_ne, i_icmp_lt, i_icmp_ge, i_icmp_gt, i_icmp_le, i_if_eq, i_if_ne, i_if_lt, i_if_ge, i_if_gt, i_if_le, i_ifnonnull, i_getf, i_putf, i_iret, i_zret, i_aret, i_vret, i_new, i_newa, i_anew, i_oinit, i_callv, i_calls, i_calli, i_max, i_min, i_abs, i_copy, i_throw, i_ldcs, pwt, List.getElem?_cons_zero, List.getElem?_cons_succ, List.set_cons_zero, List.set_cons_succ, List.getD_cons_zero, List.getD_cons_succ, List.length_cons, List.length_nil, List.length_set, List.drop_succ_cons, List.drop_zero, List.take_succ_cons, List.take_zero, List.reverse_cons, List.reverse_nil, List.nil_append, List.cons_append, List.append_nil, List.map_cons, List.map_nil, List.sum_cons, List.sum_nil, Value.category, ne_eq, Nat.reduceEqDiff, reduceIte, ite_self, false_implies, true_implies, true_and, and_true, and_self, Nat.zero_le, Nat.le_refl, Nat.reduceLeDiff, Nat.reduceAdd, Nat.reduceLT, Nat.add_zero, Nat.zero_add, pu_eq, not_false_eq_true, not_true_eq_false, forall_const, if_true, if_false, implies_true, pRetK, W.hb, e1, show ¬ ((1 : Int32) = 0) by decide, X0.f0]
        refine c_X12_scarsOf X0 R0 W ?_
        rw [show orF (fun j => if r 11 j = nI i then bitI j else 0) (cl r 8 0) = sbM r (nI i) from rfl]
        simp only [i_const, i_load, i_aload, i_store, i_astore, i_inc, i_iadd, i_isub, i_imul, i_idiv, i_irem, i_iand, i_ior, i_ixor, i_ishl, i_ishr, i_iushr, i_ineg, i_i2l, i_i2b, i_i2c, i_lcmp, i_dup, i_dup2, i_pop, i_null, i_alen, i_iald, i_bald, i_lald, i_aald, i_iast, i_bast, i_last, i_aast, i_goto, i_icmp_eq, i_icmp_ne, i_icmp_lt, i_icmp_ge, i_icmp_gt, i_icmp_le, i_if_eq, i_if_ne, i_if_lt, i_if_ge, i_if_gt, i_if_le, i_ifnonnull, i_getf, i_putf, i_iret, i_zret, i_aret, i_vret, i_new, i_newa, i_anew, i_oinit, i_callv, i_calls, i_calli, i_max, i_min, i_abs, i_copy, i_throw, i_ldcs, pwt, List.getElem?_cons_zero, List.getElem?_cons_succ, List.set_cons_zero, List.set_cons_succ, List.getD_cons_zero, List.getD_cons_succ, List.length_cons, List.length_nil, List.length_set, List.drop_succ_cons, List.drop_zero, List.take_succ_cons, List.take_zero, List.reverse_cons, List.reverse_nil, List.nil_append, List.cons_append, List.append_nil, List.map_cons, List.map_nil, List.sum_cons, List.sum_nil, Value.category, ne_eq, Nat.reduceEqDiff, reduceIte, ite_self, false_implies, true_implies, true_and, and_true, and_self, Nat.zero_le, Nat.le_refl, Nat.reduceLeDiff, Nat.reduceAdd, Nat.reduceLT, Nat.add_zero, Nat.zero_add, pu_eq, not_false_eq_true, not_true_eq_false, forall_const, if_true, if_false, implies_true, pRetK, e4, X0.f0]
        refine ⟨fun c1 => nx (Or.inl c1), fun c1 => ?_⟩
        refine c_X12_menAt1 X0 R0 W ?_
        rw [show orF (fun j => if r 11 j = nI i then 1 <<< (r 15 j &&& 31) else 0) (cl r 8 0) = mtB r (nI i) from rfl]
        simp only [i_const, i_load, i_aload, i_store, i_astore, i_inc, i_iadd, i_isub, i_imul, i_idiv, i_irem, i_iand, i_ior, i_ixor, i_ishl, i_ishr, i_iushr, i_ineg, i_i2l, i_i2b, i_i2c, i_lcmp, i_dup, i_dup2, i_pop, i_null, i_alen, i_iald, i_bald, i_lald, i_aald, i_iast, i_bast, i_last, i_aast, i_goto, i_icmp_eq, i_icmp_ne, i_icmp_lt, i_icmp_ge, i_icmp_gt, i_icmp_le, i_if_eq, i_if_ne, i_if_lt, i_if_ge, i_if_gt, i_if_le, i_ifnonnull, i_getf, i_putf, i_iret, i_zret, i_aret, i_vret, i_new, i_newa, i_anew, i_oinit, i_callv, i_calls, i_calli, i_max, i_min, i_abs, i_copy, i_throw, i_ldcs, pwt, List.getElem?_cons_zero, List.getElem?_cons_succ, List.set_cons_zero, List.set_cons_succ, List.getD_cons_zero, List.getD_cons_succ, List.length_cons, List.length_nil, List.length_set, List.drop_succ_cons, List.drop_zero, List.take_succ_cons, List.take_zero, List.reverse_cons, List.reverse_nil, List.nil_append, List.cons_append, List.append_nil, List.map_cons, List.map_nil, List.sum_cons, List.sum_nil, Value.category, ne_eq, Nat.reduceEqDiff, reduceIte, ite_self, false_implies, true_implies, true_and, and_true, and_self, Nat.zero_le, Nat.le_refl, Nat.reduceLeDiff, Nat.reduceAdd, Nat.reduceLT, Nat.add_zero, Nat.zero_add, pu_eq, not_false_eq_true, not_true_eq_false, forall_const, if_true, if_false, implies_true, pRetK, e4]
        refine ⟨fun c2 => ?_, fun c2 => nx (Or.inr c2)⟩
        have bad : ¬ cvP r (nI k) := fun q => by
          rcases (cv_b W _).mp q i hi with z | z
          · exact c1 z
          · exact z c2
        refine b_X12_fewest_39 _ _ _ ?_
        simp only [i_const, i_load, i_aload, i_store, i_astore, i_inc, i_iadd, i_isub, i_imul, i_idiv, i_irem, i_iand, i_ior, i_ixor, i_ishl, i_ishr, i_iushr, i_ineg, i_i2l, i_i2b, i_i2c, i_lcmp, i_dup, i_dup2, i_pop, i_null, i_alen, i_iald, i_bald, i_lald, i_aald, i_iast, i_bast, i_last, i_aast, i_goto, i_icmp_eq, i_icmp_ne, i_icmp_lt, i_icmp_ge, i_icmp_gt, i_icmp_le, i_if_eq, i_if_ne, i_if_lt, i_if_ge, i_if_gt, i_if_le, i_ifnonnull, i_getf, i_putf, i_iret, i_zret, i_aret, i_vret, i_new, i_newa, i_anew, i_oinit, i_callv, i_calls, i_calli, i_max, i_min, i_abs, i_copy, i_throw, i_ldcs, pwt, List.getElem?_cons_zero, List.getElem?_cons_succ, List.set_cons_zero, List.set_cons_succ, List.getD_cons_zero, List.getD_cons_succ, List.length_cons, List.length_nil, List.length_set, List.drop_succ_cons, List.drop_zero, List.take_succ_cons, List.take_zero, List.reverse_cons, List.reverse_nil, List.nil_append, List.cons_append, List.append_nil, List.map_cons, List.map_nil, List.sum_cons, List.sum_nil, Value.category, ne_eq, Nat.reduceEqDiff, reduceIte, ite_self, false_implies, true_implies, true_and, and_true, and_self, Nat.zero_le, Nat.le_refl, Nat.reduceLeDiff, Nat.reduceAdd, Nat.reduceLT, Nat.add_zero, Nat.zero_add, pu_eq, not_false_eq_true, not_true_eq_false, forall_const, if_true, if_false, implies_true, X0.f0]
        refine c_X12_battles X0 R0 ?_
        simp only [i_const, i_load, i_aload, i_store, i_astore, i_inc, i_iadd, i_isub, i_imul, i_idiv, i_irem, i_iand, i_ior, i_ixor, i_ishl, i_ishr, i_iushr, i_ineg, i_i2l, i_i2b, i_i2c, i_lcmp, i_dup, i_dup2, i_pop, i_null, i_alen, i_iald, i_bald, i_lald, i_aald, i_iast, i_bast, i_last, i_aast, i_goto, i_icmp_eq, i_icmp_ne, i_icmp_lt, i_icmp_ge, i_icmp_gt, i_icmp_le, i_if_eq, i_if_ne, i_if_lt, i_if_ge, i_if_gt, i_if_le, i_ifnonnull, i_getf, i_putf, i_iret, i_zret, i_aret, i_vret, i_new, i_newa, i_anew, i_oinit, i_callv, i_calls, i_calli, i_max, i_min, i_abs, i_copy, i_throw, i_ldcs, pwt, List.getElem?_cons_zero, List.getElem?_cons_succ, List.set_cons_zero, List.set_cons_succ, List.getD_cons_zero, List.getD_cons_succ, List.length_cons, List.length_nil, List.length_set, List.drop_succ_cons, List.drop_zero, List.take_succ_cons, List.take_zero, List.reverse_cons, List.reverse_nil, List.nil_append, List.cons_append, List.append_nil, List.map_cons, List.map_nil, List.sum_cons, List.sum_nil, Value.category, ne_eq, Nat.reduceEqDiff, reduceIte, ite_self, false_implies, true_implies, true_and, and_true, and_self, Nat.zero_le, Nat.le_refl, Nat.reduceLeDiff, Nat.reduceAdd, Nat.reduceLT, Nat.add_zero, Nat.zero_add, pu_eq, not_false_eq_true, not_true_eq_false, forall_const, if_true, if_false, implies_true, pRetK, W.hb, g2]
        have D := (done 0 (some (.int (nI (i + 1)))) (fun _ => bad) (fun q => absurd q (by decide)) (Or.inl rfl)).1 rfl
        exact ⟨fun _ => D, fun _ => D⟩
      · rintro ls σ ⟨hin, rfl, rfl⟩
        refine b_X12_fewest_39 _ _ _ ?_
        simp only [i_const, i_load, i_aload, i_store, i_astore, i_inc, i_iadd, i_isub, i_imul, i_idiv, i_irem, i_iand, i_ior, i_ixor, i_ishl, i_ishr, i_iushr, i_ineg, i_i2l, i_i2b, i_i2c, i_lcmp, i_dup, i_dup2, i_pop, i_null, i_alen, i_iald, i_bald, i_lald, i_aald, i_iast, i_bast, i_last, i_aast, i_goto, i_icmp_eq, i_icmp_ne, i_icmp_lt, i_icmp_ge, i_icmp_gt, i_icmp_le, i_if_eq, i_if_ne, i_if_lt, i_if_ge, i_if_gt, i_if_le, i_ifnonnull, i_getf, i_putf, i_iret, i_zret, i_aret, i_vret, i_new, i_newa, i_anew, i_oinit, i_callv, i_calls, i_calli, i_max, i_min, i_abs, i_copy, i_throw, i_ldcs, pwt, List.getElem?_cons_zero, List.getElem?_cons_succ, List.set_cons_zero, List.set_cons_succ, List.getD_cons_zero, List.getD_cons_succ, List.length_cons, List.length_nil, List.length_set, List.drop_succ_cons, List.drop_zero, List.take_succ_cons, List.take_zero, List.reverse_cons, List.reverse_nil, List.nil_append, List.cons_append, List.append_nil, List.map_cons, List.map_nil, List.sum_cons, List.sum_nil, Value.category, ne_eq, Nat.reduceEqDiff, reduceIte, ite_self, false_implies, true_implies, true_and, and_true, and_self, Nat.zero_le, Nat.le_refl, Nat.reduceLeDiff, Nat.reduceAdd, Nat.reduceLT, Nat.add_zero, Nat.zero_add, pu_eq, not_false_eq_true, not_true_eq_false, forall_const, if_true, if_false, implies_true, X0.f0]
        refine c_X12_battles X0 R0 ?_
        simp only [i_const, i_load, i_aload, i_store, i_astore, i_inc, i_iadd, i_isub, i_imul, i_idiv, i_irem, i_iand, i_ior, i_ixor, i_ishl, i_ishr, i_iushr, i_ineg, i_i2l, i_i2b, i_i2c, i_lcmp, i_dup, i_dup2, i_pop, i_null, i_alen, i_iald, i_bald, i_lald, i_aald, i_iast, i_bast, i_last, i_aast, i_goto, i_icmp_eq, i_icmp_ne, i_icmp_lt, i_icmp_ge, i_icmp_gt, i_icmp_le, i_if_eq, i_if_ne, i_if_lt, i_if_ge, i_if_gt, i_if_le, i_ifnonnull, i_getf, i_putf, i_iret, i_zret, i_aret, i_vret, i_new, i_newa, i_anew, i_oinit, i_callv, i_calls, i_calli, i_max, i_min, i_abs, i_copy, i_throw, i_ldcs, pwt, List.getElem?_cons_zero, List.getElem?_cons_succ, List.set_cons_zero, List.set_cons_succ, List.getD_cons_zero, List.getD_cons_succ, List.length_cons, List.length_nil, List.length_set, List.drop_succ_cons, List.drop_zero, List.take_succ_cons, List.take_zero, List.reverse_cons, List.reverse_nil, List.nil_append, List.cons_append, List.append_nil, List.map_cons, List.map_nil, List.sum_cons, List.sum_nil, Value.category, ne_eq, Nat.reduceEqDiff, reduceIte, ite_self, false_implies, true_implies, true_and, and_true, and_self, Nat.zero_le, Nat.le_refl, Nat.reduceLeDiff, Nat.reduceAdd, Nat.reduceLT, Nat.add_zero, Nat.zero_add, pu_eq, not_false_eq_true, not_true_eq_false, forall_const, if_true, if_false, implies_true, pRetK, W.hb, nI_le_self, show ¬ ((1 : Int32) = 0) by decide, g2]
        exact (done 1 (some (.int (nI (cl r 1 0)))) (fun q => absurd q (by decide)) (fun _ => (cv_b W _).mpr hin) (Or.inr rfl)).2 rfl
    · have c' : ¬ pcI (nI k) ≤ pcI (nI b) := fun q => c (nI_le q (by omega))
      rw [if_neg (fun q => c' q.1)] at hd
      exact next b _ _ hb hd
  · rintro ls σ ⟨b, x3, x4, hb, hd, rfl, rfl⟩
    rw [Nat.sub_self] at hd ⊢
    have hd : b = T := hd
    subst hd
    refine b_X12_fewest_16 _ _ _ ?_
    simp only [i_const, i_load, i_aload, i_store, i_astore, i_inc, i_iadd, i_isub, i_imul, i_idiv, i_irem, i_iand, i_ior, i_ixor, i_ishl, i_ishr, i_iushr, i_ineg, i_i2l, i_i2b, i_i2c, i_lcmp, i_dup, i_dup2, i_pop, i_null, i_alen, i_iald, i_bald, i_lald, i_aald, i_iast, i_bast, i_last, i_aast, i_goto, i_icmp_eq, i_icmp_ne, i_icmp_lt, i_icmp_ge, i_icmp_gt, i_icmp_le, i_if_eq, i_if_ne, i_if_lt, i_if_ge, i_if_gt, i_if_le, i_ifnonnull, i_getf, i_putf, i_iret, i_zret, i_aret, i_vret, i_new, i_newa, i_anew, i_oinit, i_callv, i_calls, i_calli, i_max, i_min, i_abs, i_copy, i_throw, i_ldcs, pwt, List.getElem?_cons_zero, List.getElem?_cons_succ, List.set_cons_zero, List.set_cons_succ, List.getD_cons_zero, List.getD_cons_succ, List.length_cons, List.length_nil, List.length_set, List.drop_succ_cons, List.drop_zero, List.take_succ_cons, List.take_zero, List.reverse_cons, List.reverse_nil, List.nil_append, List.cons_append, List.append_nil, List.map_cons, List.map_nil, List.sum_cons, List.sum_nil, Value.category, ne_eq, Nat.reduceEqDiff, reduceIte, ite_self, false_implies, true_implies, true_and, and_true, and_self, Nat.zero_le, Nat.le_refl, Nat.reduceLeDiff, Nat.reduceAdd, Nat.reduceLT, Nat.add_zero, Nat.zero_add, pu_eq, not_false_eq_true, not_true_eq_false, forall_const, if_true, if_false, implies_true, show nI 0 - 1 < 0 by decide]
    exact hQ _ X0 F0
  · rw [Nat.sub_zero, show nI (2 ^ cl r 5 0) = nI (2 ^ cl r 5 0 - 1 + 1) by congr 1; omega, nI_pred]

end MFEW

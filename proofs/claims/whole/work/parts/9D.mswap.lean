/-! swaps back -/
section MSWAP
variable {E : PE} {M : PM} {d : Nat} {Q : PQ} {h h' : PH} {n : Nat} {m : Nat} {w : AR} {r : AR} {C : Option LawL} {pc : Nat} {ls : LawL}
theorem top_bit {x : Int32} (hx : x ≠ 0) : ∃ b, bI x b = true ∧ ∀ c, b < c → bI x c = false := by
  obtain ⟨b0, h0, -⟩ := low_bit hx
  have b32 : b0 < 32 := by
    by_cases c : b0 < 32
    · exact c
    · rw [bI_big _ (by omega)] at h0; cases h0
  have ex : ∃ d, bI x (31 - d) = true := ⟨31 - b0, by rw [show 31 - (31 - b0) = b0 by omega]; exact h0⟩
  obtain ⟨d, h1, h2⟩ := pk_least _ ex
  refine ⟨31 - d, h1, fun c hc => ?_⟩
  by_cases c32 : c < 32
  · cases z : bI x c with
    | false => rfl
    | true => exact absurd (by rw [show 31 - (31 - c) = c by omega]; exact z) (h2 (31 - c) (by omega))
  · exact bI_big _ (by omega)
/-- a permutation of the first N -/
def PN (f : Nat → Nat) (N : Nat) : Prop := N ≤ 10 ∧ (∀ j, j < N → f j < N) ∧ ∀ i j, i < N → j < N → f i = f j → i = j
def inC (f : Nat → Nat) (i j : Nat) : Prop := ∃ k, itN f i k = j
theorem inC_bit {f : Nat → Nat} {N i : Nat} (P : PN f N) (hi : i < N) (b : Nat) : bI (cycS f N i) b = true ↔ inC f i b := by
  have h10 := P.1
  have ilt := itN_lt hi P.2.1
  rw [bI_cyc (by omega) (fun k => by have := ilt k; omega)]
  constructor
  · rintro ⟨k, -, e⟩; exact ⟨k, e⟩
  · rintro ⟨k, e⟩
    obtain ⟨p, p1, p2, p3, -⟩ := cyc_p hi P.2.1 P.2.2
    have := Nat.mod_lt k (show 0 < p by omega)
    exact ⟨k % p, by omega, by rw [← itN_mod p3 (by omega)]; exact e⟩
theorem inC_tr {f : Nat → Nat} {i j k : Nat} (h1 : inC f i j) (h2 : inC f j k) : inC f i k := by
  obtain ⟨a, rfl⟩ := h1
  obtain ⟨b, rfl⟩ := h2
  exact ⟨b + a, itN_add a b⟩
theorem inC_sy {f : Nat → Nat} {N i j : Nat} (P : PN f N) (hi : i < N) (h1 : inC f i j) : inC f j i := by
  obtain ⟨k, rfl⟩ := h1
  obtain ⟨p, p1, p2, p3, -⟩ := cyc_p hi P.2.1 P.2.2
  refine ⟨p * k - k, ?_⟩
  rw [← itN_add]
  have : k ≤ p * k := Nat.le_mul_of_pos_left k (by omega)
  rw [show p * k - k + k = p * k by omega, itN_mod p3 (by omega), Nat.mul_mod_right]; rfl
theorem inC_lt {f : Nat → Nat} {N i j : Nat} (P : PN f N) (hi : i < N) (h1 : inC f i j) : j < N := by
  obtain ⟨k, rfl⟩ := h1
  exact itN_lt hi P.2.1 k
theorem inC_rf {f : Nat → Nat} {i : Nat} : inC f i i := ⟨0, rfl⟩
def miB (f : Nat → Nat) (N j : Nat) : Bool := decide (∀ i, i < j → bI (cycS f N i) j = false)
def maB' (f : Nat → Nat) (N j : Nat) : Bool := decide (∀ b, b < N → j < b → bI (cycS f N j) b = false)
theorem swp_spec {f : Nat → Nat} {N : Nat} (P : PN f N) : ∀ j, j ≤ N → (∀ b, bI (swpS f N j).1 b = true ↔ ∃ i, i < j ∧ inC f i b) ∧ (swpS f N j).2 = ctF (miB f N) j
  | 0, _ => ⟨fun b => ⟨fun q => (by rw [show (swpS f N 0).1 = 0 from rfl, bI_0] at q; cases q), fun ⟨i, hi, _⟩ => absurd hi (Nat.not_lt_zero i)⟩, rfl⟩
  | j + 1, hj => by
    have h10 := P.1
    obtain ⟨a1, a2⟩ := swp_spec P j (by omega)
    have sh := shr1 (swpS f N j).1 (j := j) (by omega)
    have mi : miB f N j = true ↔ ¬ bI (swpS f N j).1 j = true := by
      unfold miB
      rw [decide_eq_true_iff, a1]
      constructor
      · rintro H ⟨i, hi, q⟩
        have := H i hi
        rw [(inC_bit P (by omega) j).mpr q] at this; cases this
      · intro H i hi
        cases z : bI (cycS f N i) j with
        | false => rfl
        | true => exact absurd ⟨i, hi, (inC_bit P (by omega) j).mp z⟩ H
    unfold swpS ctF
    by_cases c : bI (swpS f N j).1 j = true
    · rw [if_pos c] at sh
      rw [if_neg (by rw [sh]; decide), if_neg (fun q => mi.mp q c)]
      refine ⟨fun b => ?_, a2⟩
      rw [a1]
      constructor
      · rintro ⟨i, hi, q⟩; exact ⟨i, by omega, q⟩
      · rintro ⟨i, hi, q⟩
        by_cases z : i = j
        · subst z
          obtain ⟨i', hi', q'⟩ := (a1 i).mp c
          exact ⟨i', hi', inC_tr q' q⟩
        · exact ⟨i, by omega, q⟩
    · rw [if_neg c] at sh
      rw [if_pos sh, if_pos (mi.mpr c)]
      refine ⟨fun b => ?_, by rw [a2]⟩
      show bI ((swpS f N j).1 ||| cycS f N j) b = true ↔ _
      rw [bI_or, Bool.or_eq_true, a1, inC_bit P (by omega)]
      constructor
      · rintro (⟨i, hi, q⟩ | q)
        · exact ⟨i, by omega, q⟩
        · exact ⟨j, by omega, q⟩
      · rintro ⟨i, hi, q⟩
        by_cases z : i = j
        · subst z; exact Or.inr q
        · exact Or.inl ⟨i, by omega, q⟩
theorem mima {f : Nat → Nat} {N : Nat} (P : PN f N) : ctF (miB f N) N = ctF (maB' f N) N := by
  have h10 := P.1
  have nz : ∀ j, j < N → cycS f N j ≠ 0 := fun j hj q => by
    have := (inC_bit P hj j).mpr inC_rf
    rw [q, bI_0] at this; cases this
  have miI : ∀ j, j < N → (miB f N j = true ↔ ∀ i, inC f j i → j ≤ i) := by
    intro j hj
    unfold miB
    rw [decide_eq_true_iff]
    constructor
    · intro H i q
      by_cases c : i < j
      · have := H i c
        rw [(inC_bit P (by omega) j).mpr (inC_sy P hj q)] at this; cases this
      · omega
    · intro H i hi
      cases z : bI (cycS f N i) j with
      | false => rfl
      | true =>
        have := H i (inC_sy P (by omega) ((inC_bit P (by omega) j).mp z))
        omega
  have maI : ∀ j, j < N → (maB' f N j = true ↔ ∀ i, inC f j i → i ≤ j) := by
    intro j hj
    unfold maB'
    rw [decide_eq_true_iff]
    constructor
    · intro H i q
      by_cases c : j < i
      · have := H i (inC_lt P hj q) c
        rw [(inC_bit P hj i).mpr q] at this; cases this
      · omega
    · intro H b hb hjb
      cases z : bI (cycS f N j) b with
      | false => rfl
      | true =>
        have := H b ((inC_bit P hj b).mp z)
        omega
  apply Nat.le_antisymm
  · have ex : ∀ j, ∃ b, j < N → inC f j b ∧ ∀ c, inC f j c → c ≤ b := by
      intro j
      by_cases hj : j < N
      · obtain ⟨b, b1, b2⟩ := top_bit (nz j hj)
        refine ⟨b, fun _ => ⟨(inC_bit P hj b).mp b1, fun c q => ?_⟩⟩
        by_cases z : b < c
        · have := b2 c z
          rw [(inC_bit P hj c).mpr q] at this; cases this
        · omega
      · exact ⟨0, fun q => absurd q hj⟩
    obtain ⟨F, hF⟩ := Classical.axiomOfChoice ex
    refine inj_ct (q := miB f N) (F := F) (miB f N) N (maB' f N) (fun i hi c => ?_) (fun i j hi hj ci cj e => ?_)
    · obtain ⟨f1, f2⟩ := hF i hi
      have fl := inC_lt P hi f1
      exact ⟨fl, (maI _ fl).mpr (fun k q => f2 k (inC_tr f1 q))⟩
    · obtain ⟨f1, -⟩ := hF i hi
      obtain ⟨g1, -⟩ := hF j hj
      rw [← e] at g1
      have ij : inC f i j := inC_tr f1 (inC_sy P hj g1)
      have a := (miI i hi).mp ci j ij
      have b := (miI j hj).mp cj i (inC_sy P hi ij)
      omega
  · have ex : ∀ j, ∃ b, j < N → inC f j b ∧ ∀ c, inC f j c → b ≤ c := by
      intro j
      by_cases hj : j < N
      · obtain ⟨b, b1, b2⟩ := low_bit (nz j hj)
        refine ⟨b, fun _ => ⟨(inC_bit P hj b).mp b1, fun c q => ?_⟩⟩
        by_cases z : c < b
        · have := b2 c z
          rw [(inC_bit P hj c).mpr q] at this; cases this
        · omega
      · exact ⟨0, fun q => absurd q hj⟩
    obtain ⟨F, hF⟩ := Classical.axiomOfChoice ex
    refine inj_ct (q := miB f N) (F := F) (maB' f N) N (miB f N) (fun i hi c => ?_) (fun i j hi hj ci cj e => ?_)
    · obtain ⟨f1, f2⟩ := hF i hi
      have fl := inC_lt P hi f1
      exact ⟨fl, (miI _ fl).mpr (fun k q => f2 k (inC_tr f1 q))⟩
    · obtain ⟨f1, -⟩ := hF i hi
      obtain ⟨g1, -⟩ := hF j hj
      rw [← e] at g1
      have ij : inC f i j := inC_tr f1 (inC_sy P hj g1)
      have a := (maI i hi).mp ci j ij
      have b := (maI j hj).mp cj i (inC_sy P hi ij)
      omega
theorem ctF_not (f : Nat → Bool) : ∀ k, ctF (fun j => !f j) k + ctF f k = k
  | 0 => rfl
  | k + 1 => by
    have := ctF_not f k
    unfold ctF
    cases f k with
    | false => simp; omega
    | true => simp; omega
theorem shrN {X j : Nat} (hX : X < 2 ^ 31) (hj : j < 31) : nI X >>> (nI j &&& 31) = nI (X / 2 ^ j) := pk_shrN hX (nI j &&& 31) j (smod31 (by omega))
theorem is_top {f : Nat → Nat} {N j : Nat} (P : PN f N) (hj : j < N) : cycS f N j >>> (nI j &&& 31) = 1 ↔ maB' f N j = true := by
  have h10 := P.1
  have lowb : ∀ b, bI (cycS f N j) b = true → b < N := fun b q => inC_lt P hj ((inC_bit P hj b).mp q)
  have me : bI (cycS f N j) j = true := (inC_bit P hj j).mpr inC_rf
  have x1 := eq_tn (cycS f N j)
  have lt : (cycS f N j).toBitVec.toNat < 2 ^ N := by
    apply Nat.lt_pow_two_of_testBit
    intro i hi
    cases z : (cycS f N j).toBitVec.toNat.testBit i with
    | false => rfl
    | true => have := lowb i z; omega
  have bt : ∀ b, bI (cycS f N j) b = (cycS f N j).toBitVec.toNat.testBit b := fun b => rfl
  generalize hX : (cycS f N j).toBitVec.toNat = X at x1 lt bt
  have pN : 2 ^ N ≤ 2 ^ 10 := Nat.pow_le_pow_right (by decide) h10
  have sh : cycS f N j >>> (nI j &&& 31) = nI (X / 2 ^ j) := by
    rw [x1]
    exact shrN (by omega) (by omega)
  rw [sh]
  have dl := Nat.div_le_self X (2 ^ j)
  have e1 : (nI (X / 2 ^ j) = 1) ↔ X / 2 ^ j = 1 := nI_eq (b := 1) (by omega) (by decide)
  rw [e1]
  have pj := Nat.two_pow_pos j
  have tj : X.testBit j = true := by rw [← bt]; exact me
  have ge : 2 ^ j ≤ X := Nat.ge_two_pow_of_testBit tj
  unfold maB'
  rw [decide_eq_true_iff]
  constructor
  · intro q b hb hjb
    have : X < 2 ^ (j + 1) := by
      rw [Nat.pow_succ]
      have := Nat.div_add_mod X (2 ^ j)
      have := Nat.mod_lt X pj
      rw [q] at *
      omega
    rw [bt]
    exact Nat.testBit_lt_two_pow (Nat.lt_of_lt_of_le this (Nat.pow_le_pow_right (by decide) hjb))
  · intro H
    have : X < 2 ^ (j + 1) := by
      apply Nat.lt_pow_two_of_testBit
      intro i hi
      cases z : X.testBit i with
      | false => rfl
      | true =>
        have := lowb i (by rw [bt]; exact z)
        have := H i this (by omega)
        rw [bt, z] at this; cases this
    rw [Nat.pow_succ] at this
    have a := Nat.div_add_mod X (2 ^ j)
    have b := Nat.mod_lt X pj
    have c : X / 2 ^ j < 2 := Nat.div_lt_of_lt_mul (by omega)
    have d : 1 ≤ X / 2 ^ j := (Nat.le_div_iff_mul_le pj).mpr (by omega)
    omega
theorem c_X12_swaps (X : MX h m w) (R : RW (w 1) r C) (W : WA r) (hQ : ∀ h', MX h' m (th w 0) → FM m h h' → Q (.inl (some (.int (nI (cl r 5 0 - (swpS (cl r 6) (cl r 5 0) (cl r 5 0)).2))))) h' n) : pCall E M_X12_swaps (d + 3) [.ref m] h n Q := by
  refine pCall_of rfl rfl (Nat.le_of_ble_eq_true rfl) (by simp [Value.category]) ?_
  refine b_X12_swaps_0 _ _ _ ?_
  simp only [pEntry, PM.nL, M_X12_swaps, List.map_cons, List.map_nil, List.length_cons, List.length_nil, Nat.reduceAdd, Nat.reduceSub, Nat.sub_self, List.replicate_succ, List.replicate_zero, List.cons_append, List.nil_append]
  obtain ⟨X0, F0⟩ := X.th 0
  have R0 : RW ((th w 0) 1) r C := R
  simp only [i_const, i_load, i_aload, i_store, i_astore, i_inc, i_iadd, i_isub, i_imul, i_idiv, i_irem, i_iand, i_ior, i_ixor, i_ishl, i_ishr, i_iushr, i_ineg, i_i2l, i_i2b, i_i2c, i_lcmp, i_dup, i_dup2, i_pop, i_null, i_alen, i_iald, i_bald, i_lald, i_aald, i_iast, i_bast, i_last, i_aast, i_goto, i_icmp_eq, i_icmp_ne, i_icmp_lt, i_icmp_ge, i_icmp_gt, i_icmp_le, i_if_eq, i_if_ne, i_if_lt, i_if_ge, i_if_gt, i_if_le, i_ifnonnull, i_getf, i_putf, i_iret, i_zret, i_aret, i_vret, i_new, i_newa, i_anew, i_oinit, i_callv, i_calls, i_calli, i_max, i_min, i_abs, i_copy, i_throw, i_ldcs, pwt, List.getElem?_cons_zero, List.getElem?_cons_succ, List.set_cons_zero, List.set_cons_succ, List.getD_cons_zero, List.getD_cons_succ, List.length_cons, List.length_nil, List.length_set, List.drop_succ_cons, List.drop_zero, List.take_succ_cons, List.take_zero, List.reverse_cons, List.reverse_nil, List.nil_append, List.cons_append, List.append_nil, List.map_cons, List.map_nil, List.sum_cons, List.sum_nil, Value.category, ne_eq, Nat.reduceEqDiff, reduceIte, ite_self, false_implies, true_implies, true_and, and_true, and_self, Nat.zero_le, Nat.le_refl, Nat.reduceLeDiff, Nat.reduceAdd, Nat.reduceLT, Nat.add_zero, Nat.zero_add, pu_eq, not_false_eq_true, not_true_eq_false, forall_const, if_true, if_false, implies_true, X.f0]
  refine ⟨rfl, rfl, ?_⟩
  have m10 := W.m10
  have P : PN (cl r 6) (cl r 5 0) := ⟨m10, fun j hj => (W.name hj).2, W.nin⟩
  have eq : cl r 5 0 - (swpS (cl r 6) (cl r 5 0) (cl r 5 0)).2 = ctF (fun j => !maB' (cl r 6) (cl r 5 0) j) (cl r 5 0) := by
    rw [(swp_spec P (cl r 5 0) (Nat.le_refl _)).2, mima P]
    have := ctF_not (maB' (cl r 6) (cl r 5 0)) (cl r 5 0)
    omega
  rw [eq] at hQ
  refine pLoop (cl r 5 0) (fun j => [some (.ref m), some (.int (nI (ctF (fun j => !maB' (cl r 6) (cl r 5 0) j) j))), some (.int (nI j))]) ?_ ?_
  · intro j hj ih
    obtain ⟨e1, e2, e3, e4⟩ := jFacts hj W.m10 (by decide)
    refine b_X12_swaps_9 _ _ _ ?_
    simp only [i_const, i_load, i_aload, i_store, i_astore, i_inc, i_iadd, i_isub, i_imul, i_idiv, i_irem, i_iand, i_ior, i_ixor, i_ishl, i_ishr, i_iushr, i_ineg, i_i2l, i_i2b, i_i2c, i_lcmp, i_dup, i_dup2, i_pop, i_null, i_alen, i_iald, i_bald, i_lald, i_aald, i_iast, i_bast, i_last, i_aast, i_goto, i_icmp_eq, i_icmp_ne, i_icmp_lt, i_icmp_ge, i_icmp_gt, i_icmp_le, i_if_eq, i_if_ne, i_if_lt, i_if_ge, i_if_gt, i_if_le, i_ifnonnull, i_getf, i_putf, i_iret, i_zret, i_aret, i_vret, i_new, i_newa, i_anew, i_oinit, i_callv, i_calls, i_calli, i_max, i_min, i_abs, i_copy, i_throw, i_ldcs, pwt, List.getElem?_cons_zero, List.getElem?_cons_succ, List.set_cons_zero, List.set_cons_succ, List.getD_cons_zero, List.getD_cons_succ, List.length_cons, List.length_nil, List.length_set, List.drop_succ_cons, List.drop_zero, List.take_succ_cons, List.take_zero, List.reverse_cons, List.reverse_nil, List.nil_append, List.cons_append, List.append_nil, List.map_cons, List.map_nil, List.sum_cons, List.sum_nil, Value.category, ne_eq, Nat.reduceEqDiff, reduceIte, ite_self, false_implies, true_implies, true_and, and_true, and_self, Nat.zero_le, Nat.le_refl, Nat.reduceLeDiff, Nat.reduceAdd, Nat.reduceLT, Nat.add_zero, Nat.zero_add, pu_eq, not_false_eq_true, not_true_eq_false, forall_const, if_true, if_false, implies_true, X0.f0]
    refine c_X12_men X0 R0 ?_
    simp only [i_const, i_load, i_aload, i_store, i_astore, i_inc, i_iadd, i_isub, i_imul, i_idiv, i_irem, i_iand, i_ior, i_ixor, i_ishl, i_ishr, i_iushr, i_ineg, i_i2l, i_i2b, i_i2c, i_lcmp, i_dup, i_dup2, i_pop, i_null, i_alen, i_iald, i_bald, i_lald, i_aald, i_iast, i_bast, i_last, i_aast, i_goto, i_icmp_eq, i_icmp_ne, i_icmp_lt, i_icmp_ge, i_icmp_gt, i_icmp_le, i_if_eq, i_if_ne, i_if_lt, i_if_ge, i_if_gt, i_if_le, i_ifnonnull, i_getf, i_putf, i_iret, i_zret, i_aret, i_vret, i_new, i_newa, i_anew, i_oinit, i_callv, i_calls, i_calli, i_max, i_min, i_abs, i_copy, i_throw, i_ldcs, pwt, List.getElem?_cons_zero, List.getElem?_cons_succ, List.set_cons_zero, List.set_cons_succ, List.getD_cons_zero, List.getD_cons_succ, List.length_cons, List.length_nil, List.length_set, List.drop_succ_cons, List.drop_zero, List.take_succ_cons, List.take_zero, List.reverse_cons, List.reverse_nil, List.nil_append, List.cons_append, List.append_nil, List.map_cons, List.map_nil, List.sum_cons, List.sum_nil, Value.category, ne_eq, Nat.reduceEqDiff, reduceIte, ite_self, false_implies, true_implies, true_and, and_true, and_self, Nat.zero_le, Nat.le_refl, Nat.reduceLeDiff, Nat.reduceAdd, Nat.reduceLT, Nat.add_zero, Nat.zero_add, pu_eq, not_false_eq_true, not_true_eq_false, forall_const, if_true, if_false, implies_true, pRetK, W.hm, e1, X0.f0]
    refine c_X12_cycleOf X0 R0 W hj ?_
    have u : ctF (fun j => !maB' (cl r 6) (cl r 5 0) j) (j + 1) = if (!maB' (cl r 6) (cl r 5 0) j) = true then ctF (fun j => !maB' (cl r 6) (cl r 5 0) j) j + 1 else ctF (fun j => !maB' (cl r 6) (cl r 5 0) j) j := rfl
    have tp := is_top P hj
    simp only [i_const, i_load, i_aload, i_store, i_astore, i_inc, i_iadd, i_isub, i_imul, i_idiv, i_irem, i_iand, i_ior, i_ixor, i_ishl, i_ishr, i_iushr, i_ineg, i_i2l, i_i2b, i_i2c, i_lcmp, i_dup, i_dup2, i_pop, i_null, i_alen, i_iald, i_bald, i_lald, i_aald, i_iast, i_bast, i_last, i_aast, i_goto, i_icmp_eq, i_icmp_ne, i_icmp_lt, i_icmp_ge, i_icmp_gt, i_icmp_le, i_if_eq, i_if_ne, i_if_lt, i_if_ge, i_if_gt, i_if_le, i_ifnonnull, i_getf, i_putf, i_iret, i_zret, i_aret, i_vret, i_new, i_newa, i_anew, i_oinit, i_callv, i_calls, i_calli, i_max, i_min, i_abs, i_copy, i_throw, i_ldcs, pwt, List.getElem?_cons_zero, List.getElem?_cons_succ, List.set_cons_zero, List.set_cons_succ, List.getD_cons_zero, List.getD_cons_succ, List.length_cons, List.length_nil, List.length_set, List.drop_succ_cons, List.drop_zero, List.take_succ_cons, List.take_zero, List.reverse_cons, List.reverse_nil, List.nil_append, List.cons_append, List.append_nil, List.map_cons, List.map_nil, List.sum_cons, List.sum_nil, Value.category, ne_eq, Nat.reduceEqDiff, reduceIte, ite_self, false_implies, true_implies, true_and, and_true, and_self, Nat.zero_le, Nat.le_refl, Nat.reduceLeDiff, Nat.reduceAdd, Nat.reduceLT, Nat.add_zero, Nat.zero_add, pu_eq, not_false_eq_true, not_true_eq_false, forall_const, if_true, if_false, implies_true, pRetK, e4, nI_1, Int32.add_zero]
    refine ⟨fun c => ?_, fun c => ?_⟩
    · rw [u, if_pos (by cases z : maB' (cl r 6) (cl r 5 0) j with
        | false => rfl
        | true => exact absurd (tp.mpr z) c)] at ih
      exact ih
    · rw [u, if_neg (by rw [tp.mp c]; decide)] at ih
      exact ih
  · refine b_X12_swaps_9 _ _ _ ?_
    simp only [i_const, i_load, i_aload, i_store, i_astore, i_inc, i_iadd, i_isub, i_imul, i_idiv, i_irem, i_iand, i_ior, i_ixor, i_ishl, i_ishr, i_iushr, i_ineg, i_i2l, i_i2b, i_i2c, i_lcmp, i_dup, i_dup2, i_pop, i_null, i_alen, i_iald, i_bald, i_lald, i_aald, i_iast, i_bast, i_last, i_aast, i_goto, i_icmp_eq, i_icmp_ne, i_icmp_lt, i_icmp_ge, i_icmp_gt, i_icmp_le, i_if_eq, i_if_ne, i_if_lt, i_if_ge, i_if_gt, i_if_le, i_ifnonnull, i_getf, i_putf, i_iret, i_zret, i_aret, i_vret, i_new, i_newa, i_anew, i_oinit, i_callv, i_calls, i_calli, i_max, i_min, i_abs, i_copy, i_throw, i_ldcs, pwt, List.getElem?_cons_zero, List.getElem?_cons_succ, List.set_cons_zero, List.set_cons_succ, List.getD_cons_zero, List.getD_cons_succ, List.length_cons, List.length_nil, List.length_set, List.drop_succ_cons, List.drop_zero, List.take_succ_cons, List.take_zero, List.reverse_cons, List.reverse_nil, List.nil_append, List.cons_append, List.append_nil, List.map_cons, List.map_nil, List.sum_cons, List.sum_nil, Value.category, ne_eq, Nat.reduceEqDiff, reduceIte, ite_self, false_implies, true_implies, true_and, and_true, and_self, Nat.zero_le, Nat.le_refl, Nat.reduceLeDiff, Nat.reduceAdd, Nat.reduceLT, Nat.add_zero, Nat.zero_add, pu_eq, not_false_eq_true, not_true_eq_false, forall_const, if_true, if_false, implies_true, X0.f0]
    refine c_X12_men X0 R0 ?_
    simp only [i_const, i_load, i_aload, i_store, i_astore, i_inc, i_iadd, i_isub, i_imul, i_idiv, i_irem, i_iand, i_ior, i_ixor, i_ishl, i_ishr, i_iushr, i_ineg, i_i2l, i_i2b, i_i2c, i_lcmp, i_dup, i_dup2, i_pop, i_null, i_alen, i_iald, i_bald, i_lald, i_aald, i_iast, i_bast, i_last, i_aast, i_goto, i_icmp_eq, i_icmp_ne, i_icmp_lt, i_icmp_ge, i_icmp_gt, i_icmp_le, i_if_eq, i_if_ne, i_if_lt, i_if_ge, i_if_gt, i_if_le, i_ifnonnull, i_getf, i_putf, i_iret, i_zret, i_aret, i_vret, i_new, i_newa, i_anew, i_oinit, i_callv, i_calls, i_calli, i_max, i_min, i_abs, i_copy, i_throw, i_ldcs, pwt, List.getElem?_cons_zero, List.getElem?_cons_succ, List.set_cons_zero, List.set_cons_succ, List.getD_cons_zero, List.getD_cons_succ, List.length_cons, List.length_nil, List.length_set, List.drop_succ_cons, List.drop_zero, List.take_succ_cons, List.take_zero, List.reverse_cons, List.reverse_nil, List.nil_append, List.cons_append, List.append_nil, List.map_cons, List.map_nil, List.sum_cons, List.sum_nil, Value.category, ne_eq, Nat.reduceEqDiff, reduceIte, ite_self, false_implies, true_implies, true_and, and_true, and_self, Nat.zero_le, Nat.le_refl, Nat.reduceLeDiff, Nat.reduceAdd, Nat.reduceLT, Nat.add_zero, Nat.zero_add, pu_eq, not_false_eq_true, not_true_eq_false, forall_const, if_true, if_false, implies_true, pRetK, W.hm, nI_le_self]
    exact hQ _ X0 F0

end MSWAP

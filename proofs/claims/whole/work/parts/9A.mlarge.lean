/-! the largest of one man's; the fewest men -/
section MLARGE
variable {E : PE} {M : PM} {d : Nat} {Q : PQ} {h h' : PH} {n : Nat} {m : Nat} {w : AR} {r : AR} {C : Option LawL} {pc : Nat} {ls : LawL}
theorem sub1_nat {N b : Nat} (h1 : N.testBit b = true) (h2 : ∀ j, j < b → N.testBit j = false) (j : Nat) : (N - 1).testBit j = if j < b then true else if j = b then false else N.testBit j := by
  have m0 : N % 2 ^ b = 0 := by
    apply Nat.eq_of_testBit_eq
    intro i
    rw [Nat.testBit_mod_two_pow, Nat.zero_testBit]
    by_cases c : i < b
    · rw [h2 i c, Bool.and_false]
    · rw [decide_eq_false c, Bool.false_and]
  have odd : N / 2 ^ b % 2 = 1 := by rw [Nat.testBit_eq_decide_div_mod_eq] at h1; exact of_decide_eq_true h1
  have p := Nat.two_pow_pos b
  have eN : N = 2 ^ b * (N / 2 ^ b) := by have := Nat.div_add_mod N (2 ^ b); omega
  generalize hq : N / 2 ^ b = q at odd eN
  have e1 : N - 1 = 2 ^ b * (q - 1) + (2 ^ b - 1) := by
    have : 2 ^ b * q = 2 ^ b * (q - 1) + 2 ^ b := by rw [← Nat.mul_succ]; congr 1; omega
    omega
  rw [e1, Nat.testBit_two_pow_mul_add _ (by omega)]
  by_cases c : j < b
  · rw [if_pos c, if_pos c, Nat.testBit_two_pow_sub_one]; exact decide_eq_true c
  · rw [if_neg c, if_neg c]
    by_cases c2 : j = b
    · subst c2
      rw [if_pos rfl, Nat.sub_self, Nat.testBit_zero]
      exact decide_eq_false (by omega)
    · rw [if_neg c2]
      have e2 : N.testBit j = q.testBit (j - b) := by
        rw [← hq, Nat.testBit_div_two_pow]; congr 1; omega
      rw [e2]
      obtain ⟨k, hk⟩ : ∃ k, j - b = k + 1 := ⟨j - b - 1, by omega⟩
      rw [hk, Nat.testBit_succ, Nat.testBit_succ]
      congr 1
      omega
theorem sub1_tn {y : Int32} (hy : y ≠ 0) : (y - 1).toBitVec.toNat = y.toBitVec.toNat - 1 := by
  have pos : y.toBitVec.toNat ≠ 0 := fun q => hy (by rw [eq_tn y, q]; rfl)
  have lt := y.toBitVec.isLt
  rw [Int32.toBitVec_sub, BitVec.toNat_sub, show (1 : Int32).toBitVec.toNat = 1 from rfl]
  omega
theorem bI_sub1 {y : Int32} {b : Nat} (h1 : bI y b = true) (h2 : ∀ j, j < b → bI y j = false) (j : Nat) : bI (y - 1) j = if j < b then true else if j = b then false else bI y j := by
  have hy : y ≠ 0 := fun q => by rw [q, bI_0] at h1; cases h1
  unfold bI
  rw [sub1_tn hy]
  exact sub1_nat h1 h2 j
theorem low_bit {y : Int32} (hy : y ≠ 0) : ∃ b, bI y b = true ∧ ∀ j, j < b → bI y j = false := by
  have ex : ∃ b, bI y b = true := by
    by_cases c : ∃ b, bI y b = true
    · exact c
    · refine absurd (bI_z.mpr (fun j _ => ?_)) hy
      cases z : bI y j with
      | false => rfl
      | true => exact absurd ⟨j, z⟩ c
  obtain ⟨b, h1, h2⟩ := pk_least _ ex
  exact ⟨b, h1, fun j hj => by
    cases z : bI y j with
    | false => rfl
    | true => exact absurd z (h2 j hj)⟩
/-- the set that the index set k says -/
def Fk (set : Int32) (k : Nat) : Int32 := scS (sl set) (nI k) (rk set 24)
theorem Fk_step {set : Int32} {k : Nat} (hset : ∀ j, bI set j = true → j < 24) (hk : k + 1 < 2 ^ rk set 24) : (Fk set (k + 1) - 1) &&& set = Fk set k ∧ Fk set (k + 1) ≠ 0 := by
  have l24 := rk24 (x := set)
  have p24 : 2 ^ rk set 24 ≤ 2 ^ 24 := Nat.pow_le_pow_right (by decide) l24
  have k0 : nI (k + 1) ≠ 0 := fun q => by have := (nI_eq (b := 0) (by omega) (by decide)).mp q; omega
  obtain ⟨b, b1, b2⟩ := low_bit k0
  have bm : b < rk set 24 := by
    rw [bI_nI (by omega)] at b1
    by_cases c : b < rk set 24
    · exact c
    · have := Nat.testBit_lt_two_pow (x := k + 1) (i := b) (Nat.lt_of_lt_of_le hk (Nat.pow_le_pow_right (by decide) (by omega)))
      rw [this] at b1; cases b1
  obtain ⟨s1, s2, s3⟩ := sl_of bm
  have c1 : bI (Fk set (k + 1)) (sl set b) = true := scS_in s1 s2 (by rw [s3]; exact b1)
  have c2 : ∀ j, j < sl set b → bI (Fk set (k + 1)) j = false := by
    intro j hj
    cases z : bI (Fk set (k + 1)) j with
    | false => rfl
    | true =>
      obtain ⟨i, hi, xi, e⟩ := (scS_bit j).mp z
      rw [← e] at hj
      have := (sl_lt hi bm).mp hj
      rw [b2 i this] at xi; cases xi
  have nk : nI k = nI (k + 1) - 1 := (nI_pred k).symm
  refine ⟨?_, fun q => by rw [q, bI_0] at c1; cases c1⟩
  refine bI_ext (fun s _ => b_iff ?_)
  rw [bI_and, Bool.and_eq_true, bI_sub1 c1 c2]
  show _ ↔ bI (scS (sl set) (nI k) (rk set 24)) s = true
  rw [scS_iff, nk, bI_sub1 b1 b2]
  constructor
  · rintro ⟨q1, q2⟩
    have h24 := hset s q2
    refine ⟨h24, q2, ?_⟩
    have rs := rk_lt h24 q2
    have es := sl_rk h24 q2
    by_cases z1 : s < sl set b
    · rw [← es] at z1
      rw [if_pos ((sl_lt rs bm).mp z1)]
    · rw [if_neg z1] at q1
      by_cases z2 : s = sl set b
      · rw [if_pos z2] at q1; cases q1
      · rw [if_neg z2] at q1
        have := scS_sub q1
        have n1 : ¬ rk set s < b := fun q => by
          have := (sl_lt rs bm).mpr q
          rw [es] at this; omega
        have n2 : ¬ rk set s = b := fun q => by rw [← q, es] at z2; exact z2 rfl
        rw [if_neg n1, if_neg n2]
        exact this.2.2
  · rintro ⟨q1, q2, q3⟩
    refine ⟨?_, q2⟩
    have rs := rk_lt q1 q2
    have es := sl_rk q1 q2
    by_cases z1 : s < sl set b
    · rw [if_pos z1]
    · rw [if_neg z1]
      have n1 : ¬ rk set s < b := fun q => by
        have := (sl_lt rs bm).mpr q
        rw [es] at this; omega
      rw [if_neg n1] at q3
      by_cases z2 : rk set s = b
      · rw [if_pos z2] at q3; cases q3
      · rw [if_neg z2] at q3
        have n2 : ¬ s = sl set b := fun q => z2 (by rw [q, s3])
        rw [if_neg n2]
        exact scS_in q1 q2 q3
theorem Fk_pc {set : Int32} {k : Nat} (hk : k < 2 ^ rk set 24) : pcI (Fk set k) = pcI (nI k) := by
  have l24 := rk24 (x := set)
  have p24 : 2 ^ rk set 24 ≤ 2 ^ 24 := Nat.pow_le_pow_right (by decide) l24
  have low : ∀ i, bI (nI k) i = true → i < rk set 24 := by
    intro i q
    rw [bI_nI (by omega)] at q
    by_cases c : i < rk set 24
    · exact c
    · have := Nat.testBit_lt_two_pow (x := k) (i := i) (Nat.lt_of_lt_of_le hk (Nat.pow_le_pow_right (by decide) (by omega)))
      rw [this] at q; cases q
  unfold pcI
  apply Nat.le_antisymm
  · refine inj_ct (q := bI (nI k)) (F := rk set) (bI (Fk set k)) 32 (bI (nI k)) (fun i _ c => ?_) (fun i j _ _ ci cj e => rk_inj (scS_sub ci).1 (scS_sub cj).1 e)
    have := scS_sub c
    have := rk_lt this.2.1 this.1
    exact ⟨by omega, (scS_sub c).2.2⟩
  · refine inj_ct (q := bI (nI k)) (F := sl set) (bI (nI k)) 32 (bI (Fk set k)) (fun i _ c => ?_) (fun i j _ _ ci cj e => ?_)
    · obtain ⟨a1, a2, a3⟩ := sl_of (low i c)
      exact ⟨by omega, scS_in a1 a2 (by rw [a3]; exact c)⟩
    · have a := (sl_of (low i ci)).2.2
      have b := (sl_of (low j cj)).2.2
      rw [e] at a; omega
theorem Fk_nn {set : Int32} {k : Nat} : Fk set k ≤ 0 ↔ Fk set k = 0 := by
  have nn : 0 ≤ Fk set k := by
    have lt : (Fk set k).toBitVec.toNat < 2 ^ 24 := by
      apply Nat.lt_pow_two_of_testBit
      intro i hi
      cases z : (Fk set k).toBitVec.toNat.testBit i with
      | false => rfl
      | true => have := (scS_sub (show bI (Fk set k) i = true from z)).2.1; omega
    rw [eq_tn (Fk set k)]
    exact nI_pos' (by omega)
  exact ⟨fun q => Int32.le_antisymm q nn, fun q => by rw [q]; exact Int32.le_refl _⟩
theorem Fk_0 {set : Int32} : Fk set 0 = 0 := bI_z.mpr (fun j _ => by
  cases z : bI (Fk set 0) j with
  | false => rfl
  | true =>
    have := (scS_sub z).2.2
    rw [show nI 0 = 0 from rfl, bI_0] at this; cases this)
theorem c_X12_largest {y z : Int32} (X : MX h m w) (R : RW (w 1) r C) (W : WA r) (hQ1 : ∀ i, i < cl r 5 0 → y = nI i → ∀ h', MX h' m (th w 0) → FM m h h' → Q (.inl (some (.int (if pcI (boI r i) ≤ 12 then (if z = 0 then nI (pcI (mhI r C (boI r i))) else mhI r C (boI r i)) else -3)))) h' n) (hQ0 : ¬ ix y (cl r 5 0) → ∀ h' x, MX h' m (th w 1) → FM m h h' → Q (.inl (some (.int x))) h' n) : pCall E M_X12_largest (d + 8) [.ref m, .int y, .int z] h n Q := by
  refine pCall_of rfl rfl (Nat.le_of_ble_eq_true rfl) (by simp [Value.category]) ?_
  refine b_X12_largest_0 _ _ _ ?_
  simp only [pEntry, PM.nL, M_X12_largest, List.map_cons, List.map_nil, List.length_cons, List.length_nil, Nat.reduceAdd, Nat.reduceSub, Nat.sub_self, List.replicate_succ, List.replicate_zero, List.cons_append, List.nil_append]
  obtain ⟨X0, F0⟩ := X.th 0
  have R0 : RW ((th w 0) 1) r C := R
  simp only [i_const, i_load, i_aload, i_store, i_astore, i_inc, i_iadd, i_isub, i_imul, i_idiv, i_irem, i_iand, i_ior, i_ixor, i_ishl, i_ishr, i_iushr, i_ineg, i_i2l, i_i2b, i_i2c, i_lcmp, i_dup, i_dup2, i_pop, i_null, i_alen, i_iald, i_bald, i_lald, i_aald, i_iast, i_bast, i_last, i_aast, i_goto, i_icmp_eq, i_icmp_ne, i_icmp_lt, i_icmp_ge, i_icmp_gt, i_icmp_le, i_if_eq, i_if_ne, i_if_lt, i_if_ge, i_if_gt, i_if_le, i_ifnonnull, i_getf, i_putf, i_iret, i_zret, i_aret, i_vret, i_new, i_newa, i_anew, i_oinit, i_callv, i_calls, i_calli, i_max, i_min, i_abs, i_copy, i_throw, i_ldcs, pwt, List.getElem?_cons_zero, List.getElem?_cons_succ, List.set_cons_zero, List.set_cons_succ, List.getD_cons_zero, List.getD_cons_succ, List.length_cons, List.length_nil, List.length_set, List.drop_succ_cons, List.drop_zero, List.take_succ_cons, List.take_zero, List.reverse_cons, List.reverse_nil, List.nil_append, List.cons_append, List.append_nil, List.map_cons, List.map_nil, List.sum_cons, List.sum_nil, Value.category, ne_eq, Nat.reduceEqDiff, reduceIte, ite_self, false_implies, true_implies, true_and, and_true, and_self, Nat.zero_le, Nat.le_refl, Nat.reduceLeDiff, Nat.reduceAdd, Nat.reduceLT, Nat.add_zero, Nat.zero_add, pu_eq, not_false_eq_true, not_true_eq_false, forall_const, if_true, if_false, implies_true, X.f0]
  refine ⟨rfl, rfl, ?_⟩
  have s24 := W.s24
  refine c_X12_noMan X0 R0 W (fun hy => ?_) (fun hy => ?_)
  · simp only [i_const, i_load, i_aload, i_store, i_astore, i_inc, i_iadd, i_isub, i_imul, i_idiv, i_irem, i_iand, i_ior, i_ixor, i_ishl, i_ishr, i_iushr, i_ineg, i_i2l, i_i2b, i_i2c, i_lcmp, i_dup, i_dup2, i_pop, i_null, i_alen, i_iald, i_bald, i_lald, i_aald, i_iast, i_bast, i_last, i_aast, i_goto, i_icmp_eq, i_icmp_ne, i_icmp_lt, i_icmp_ge, i_icmp_gt, i_icmp_le, i_if_eq, i_if_ne, i_if_lt, i_if_ge, i_if_gt, i_if_le, i_ifnonnull, i_getf, i_putf, i_iret, i_zret, i_aret, i_vret, i_new, i_newa, i_anew, i_oinit, i_callv, i_calls, i_calli, i_max, i_min, i_abs, i_copy, i_throw, i_ldcs, pwt, List.getElem?_cons_zero, List.getElem?_cons_succ, List.set_cons_zero, List.set_cons_succ, List.getD_cons_zero, List.getD_cons_succ, List.length_cons, List.length_nil, List.length_set, List.drop_succ_cons, List.drop_zero, List.take_succ_cons, List.take_zero, List.reverse_cons, List.reverse_nil, List.nil_append, List.cons_append, List.append_nil, List.map_cons, List.map_nil, List.sum_cons, List.sum_nil, Value.category, ne_eq, Nat.reduceEqDiff, reduceIte, ite_self, false_implies, true_implies, true_and, and_true, and_self, Nat.zero_le, Nat.le_refl, Nat.reduceLeDiff, Nat.reduceAdd, Nat.reduceLT, Nat.add_zero, Nat.zero_add, pu_eq, not_false_eq_true, not_true_eq_false, forall_const, if_true, if_false, implies_true, pRetK, X0.f0]
    refine c_X12_thr0 ?_
    obtain ⟨i, hi, e⟩ := hy
    have hR := hQ1 i hi e
    clear hQ1 hQ0
    subst e
    simp only [i_const, i_load, i_aload, i_store, i_astore, i_inc, i_iadd, i_isub, i_imul, i_idiv, i_irem, i_iand, i_ior, i_ixor, i_ishl, i_ishr, i_iushr, i_ineg, i_i2l, i_i2b, i_i2c, i_lcmp, i_dup, i_dup2, i_pop, i_null, i_alen, i_iald, i_bald, i_lald, i_aald, i_iast, i_bast, i_last, i_aast, i_goto, i_icmp_eq, i_icmp_ne, i_icmp_lt, i_icmp_ge, i_icmp_gt, i_icmp_le, i_if_eq, i_if_ne, i_if_lt, i_if_ge, i_if_gt, i_if_le, i_ifnonnull, i_getf, i_putf, i_iret, i_zret, i_aret, i_vret, i_new, i_newa, i_anew, i_oinit, i_callv, i_calls, i_calli, i_max, i_min, i_abs, i_copy, i_throw, i_ldcs, pwt, List.getElem?_cons_zero, List.getElem?_cons_succ, List.set_cons_zero, List.set_cons_succ, List.getD_cons_zero, List.getD_cons_succ, List.length_cons, List.length_nil, List.length_set, List.drop_succ_cons, List.drop_zero, List.take_succ_cons, List.take_zero, List.reverse_cons, List.reverse_nil, List.nil_append, List.cons_append, List.append_nil, List.map_cons, List.map_nil, List.sum_cons, List.sum_nil, Value.category, ne_eq, Nat.reduceEqDiff, reduceIte, ite_self, false_implies, true_implies, true_and, and_true, and_self, Nat.zero_le, Nat.le_refl, Nat.reduceLeDiff, Nat.reduceAdd, Nat.reduceLT, Nat.add_zero, Nat.zero_add, pu_eq, not_false_eq_true, not_true_eq_false, forall_const, if_true, if_false, implies_true, pRetK, X0.f0]
    refine c_X12_borne X0 R0 W ?_
    rw [show orF (fun j => if r 15 j = nI i then bitI j else 0) (cl r 8 0) = boI r i from rfl]
    simp only [i_const, i_load, i_aload, i_store, i_astore, i_inc, i_iadd, i_isub, i_imul, i_idiv, i_irem, i_iand, i_ior, i_ixor, i_ishl, i_ishr, i_iushr, i_ineg, i_i2l, i_i2b, i_i2c, i_lcmp, i_dup, i_dup2, i_pop, i_null, i_alen, i_iald, i_bald, i_lald, i_aald, i_iast, i_bast, i_last, i_aast, i_goto, i_icmp_eq, i_icmp_ne, i_icmp_lt, i_icmp_ge, i_icmp_gt, i_icmp_le, i_if_eq, i_if_ne, i_if_lt, i_if_ge, i_if_gt, i_if_le, i_ifnonnull, i_getf, i_putf, i_iret, i_zret, i_aret, i_vret, i_new, i_newa, i_anew, i_oinit, i_callv, i_calls, i_calli, i_max, i_min, i_abs, i_copy, i_throw, i_ldcs, pwt, List.getElem?_cons_zero, List.getElem?_cons_succ, List.set_cons_zero, List.set_cons_succ, List.getD_cons_zero, List.getD_cons_succ, List.length_cons, List.length_nil, List.length_set, List.drop_succ_cons, List.drop_zero, List.take_succ_cons, List.take_zero, List.reverse_cons, List.reverse_nil, List.nil_append, List.cons_append, List.append_nil, List.map_cons, List.map_nil, List.sum_cons, List.sum_nil, Value.category, ne_eq, Nat.reduceEqDiff, reduceIte, ite_self, false_implies, true_implies, true_and, and_true, and_self, Nat.zero_le, Nat.le_refl, Nat.reduceLeDiff, Nat.reduceAdd, Nat.reduceLT, Nat.add_zero, Nat.zero_add, pu_eq, not_false_eq_true, not_true_eq_false, forall_const, if_true, if_false, implies_true, pRetK]
    refine c_J6_bitCount ?_
    simp only [i_const, i_load, i_aload, i_store, i_astore, i_inc, i_iadd, i_isub, i_imul, i_idiv, i_irem, i_iand, i_ior, i_ixor, i_ishl, i_ishr, i_iushr, i_ineg, i_i2l, i_i2b, i_i2c, i_lcmp, i_dup, i_dup2, i_pop, i_null, i_alen, i_iald, i_bald, i_lald, i_aald, i_iast, i_bast, i_last, i_aast, i_goto, i_icmp_eq, i_icmp_ne, i_icmp_lt, i_icmp_ge, i_icmp_gt, i_icmp_le, i_if_eq, i_if_ne, i_if_lt, i_if_ge, i_if_gt, i_if_le, i_ifnonnull, i_getf, i_putf, i_iret, i_zret, i_aret, i_vret, i_new, i_newa, i_anew, i_oinit, i_callv, i_calls, i_calli, i_max, i_min, i_abs, i_copy, i_throw, i_ldcs, pwt, List.getElem?_cons_zero, List.getElem?_cons_succ, List.set_cons_zero, List.set_cons_succ, List.getD_cons_zero, List.getD_cons_succ, List.length_cons, List.length_nil, List.length_set, List.drop_succ_cons, List.drop_zero, List.take_succ_cons, List.take_zero, List.reverse_cons, List.reverse_nil, List.nil_append, List.cons_append, List.append_nil, List.map_cons, List.map_nil, List.sum_cons, List.sum_nil, Value.category, ne_eq, Nat.reduceEqDiff, reduceIte, ite_self, false_implies, true_implies, true_and, and_true, and_self, Nat.zero_le, Nat.le_refl, Nat.reduceLeDiff, Nat.reduceAdd, Nat.reduceLT, Nat.add_zero, Nat.zero_add, pu_eq, not_false_eq_true, not_true_eq_false, forall_const, if_true, if_false, implies_true, pRetK, pcI12]
    refine ⟨fun c => ?_, fun c => ?_⟩
    · rw [if_pos c] at hR
      have hset : ∀ j, bI (boI r i) j = true → j < cl r 8 0 := fun j q => boI_lt W q
      have h24 : ∀ j, bI (boI r i) j = true → j < 24 := fun j q => by have := hset j q; omega
      have l24 := rk24 (x := boI r i)
      have p24 : 2 ^ rk (boI r i) 24 ≤ 2 ^ 24 := Nat.pow_le_pow_right (by decide) l24
      have ppos : 0 < 2 ^ rk (boI r i) 24 := Nat.two_pow_pos _
      generalize hset2 : boI r i = set at *
      have full : Fk set (2 ^ rk set 24 - 1) = set := by
        unfold Fk
        rw [show nI (2 ^ rk set 24 - 1) = bitI (rk set 24) - 1 by
          rw [bit_pow (by omega), show nI (2 ^ rk set 24) = nI (2 ^ rk set 24 - 1 + 1) by congr 1; omega]
          exact (nI_pred _).symm]
        exact scS_full h24
      have fin : mhK r C set = dnU (fun k => frB (ckD r C set) (rk set 24) (nI k)) (fun k => pcI (nI k)) (2 ^ rk set 24 - 1) 0 := (dn_mx (P := fun k => frB (ckD r C set) (rk set 24) (nI k)) (f := fun k => pcI (nI k)) (K := 2 ^ rk set 24 - 1) pc_0 (fun q h1 h2 => pc_pos h1 (by omega))).symm
      have mh : mhI r C set = Fk set (dnU (fun k => frB (ckD r C set) (rk set 24) (nI k)) (fun k => pcI (nI k)) (2 ^ rk set 24 - 1) 0) := by rw [← fin]; rfl
      rw [mh] at hR
      generalize hT : dnU (fun k => frB (ckD r C set) (rk set 24) (nI k)) (fun k => pcI (nI k)) (2 ^ rk set 24 - 1) 0 = T at hR
      generalize hh0 : pu h m (.inr (12, [.int 0, .ref (m + 1), .ref (m + 2), .ref (m + 3), .ref (m + 4), .ref (m + 5), .int (w 0 6), .int (w 0 7), .ref (m + 6), .int (w 0 9), .int (w 0 10), .int (w 0 11), .int (w 0 12), .int (w 0 13), .int (w 0 14), .ref (m + 7), .int (w 0 16), .ref (m + 8), .ref (m + 9), .ref (m + 10), .ref (m + 11), .ref (m + 12), .int (w 0 22)])) = h0 at X0 F0 ⊢
      refine pFor (2 ^ rk set 24 - 1) (fun j ls σ => ∃ h' b x6, MX h' m (th w 0) ∧ ME m h0 h' ∧ b < 2 ^ rk set 24 ∧ dnU (fun k => frB (ckD r C set) (rk set 24) (nI k)) (fun k => pcI (nI k)) (2 ^ rk set 24 - 1 - j) b = T ∧ ls = [some (.ref m), some (.int (nI i)), some (.int z), some (.int set), some (.int (Fk set b)), some (.int (Fk set (2 ^ rk set 24 - 1 - j))), x6] ∧ σ = (h', n, 0, 0)) ?_ ?_ 0 (Nat.zero_le _) _ _ ⟨h0, 0, none, X0, ME.rf, ppos, hT, ?_, rfl⟩
      · rintro j hj ls σ ⟨h1, b, x6, X1, F1, hb, hd, rfl, rfl⟩ ih
        generalize hk : 2 ^ rk set 24 - 1 - (j + 1) = k at ih
        have ek : 2 ^ rk set 24 - 1 - j = k + 1 := by omega
        rw [ek] at hd ⊢
        unfold dnU at hd
        obtain ⟨st1, st2⟩ := Fk_step h24 (k := k) (by omega)
        have g1 : ¬ Fk set (k + 1) ≤ 0 := fun q => st2 (Fk_nn.mp q)
        have next : ∀ h2 b' x6, MX h2 m (th w 0) → ME m h1 h2 → b' < 2 ^ rk set 24 → dnU (fun k => frB (ckD r C set) (rk set 24) (nI k)) (fun k => pcI (nI k)) k b' = T → PW E M_X12_largest (d + 7 + 1) Q 44 [some (.ref m), some (.int (nI i)), some (.int z), some (.int set), some (.int (Fk set b')), some (.int (Fk set k)), x6] [] (h2, n, 0, 0) := fun h2 b' x6 X2 F2 q1 q2 => ih _ _ ⟨h2, b', x6, X2, F1.tr F2, q1, q2, rfl, rfl⟩
        have no : ∀ h2, MX h2 m (th w 0) → ME m h1 h2 → ¬ (pcI (nI b) ≤ pcI (nI (k + 1)) ∧ frB (ckD r C set) (rk set 24) (nI (k + 1)) = true) → PW E M_X12_largest (d + 7 + 1) Q 76 [some (.ref m), some (.int (nI i)), some (.int z), some (.int set), some (.int (Fk set b)), some (.int (Fk set (k + 1))), x6] [.int 0] (h2, n, 0, 0) := by
          intro h2 X2 F2 q
          rw [if_neg q] at hd
          refine b_X12_largest_76 _ _ _ ?_
          simp only [i_const, i_load, i_aload, i_store, i_astore, i_inc, i_iadd, i_isub, i_imul, i_idiv, i_irem, i_iand, i_ior, i_ixor, i_ishl, i_ishr, i_iushr, i_ineg, i_i2l, i_i2b, i_i2c, i_lcmp, i_dup, i_dup2, i_pop, i_null, i_alen, i_iald, i_bald, i_lald, i_aald, i_iast, i_bast, i_last, i_aast, i_goto, i_icmp_eq, i_icmp_ne, i_icmp_lt, i_icmp_ge, i_icmp_gt, i_icmp_le, i_if_eq, i_if_ne, i_if_lt, i_if_ge, i_if_gt, i_if_le, i_ifnonnull, i_getf, i_putf, i_iret, i_zret, i_aret, i_vret, i_new, i_newa, i_anew, i_oinit, i_callv, i_calls, i_calli, i_max, i_min, i_abs, i_copy, i_throw, i_ldcs, pwt, List.getElem?_cons_zero, List.getElem?_cons_succ, List.set_cons_zero, List.set_cons_succ, List.getD_cons_zero, List.getD_cons_succ, List.length_cons, List.length_nil, List.length_set, List.drop_succ_cons, List.drop_zero, List.take_succ_cons, List.take_zero, List.reverse_cons, List.reverse_nil, List.nil_append, List.cons_append, List.append_nil, List.map_cons, List.map_nil, List.sum_cons, List.sum_nil, Value.category, ne_eq, Nat.reduceEqDiff, reduceIte, ite_self, false_implies, true_implies, true_and, and_true, and_self, Nat.zero_le, Nat.le_refl, Nat.reduceLeDiff, Nat.reduceAdd, Nat.reduceLT, Nat.add_zero, Nat.zero_add, pu_eq, not_false_eq_true, not_true_eq_false, forall_const, if_true, if_false, implies_true, st1]
          exact next h2 b _ X2 F2 hb hd
        have p1 := pcI_le (nI b)
        have p2 := pcI_le (nI (k + 1))
        refine b_X12_largest_44 _ _ _ ?_
        simp only [i_const, i_load, i_aload, i_store, i_astore, i_inc, i_iadd, i_isub, i_imul, i_idiv, i_irem, i_iand, i_ior, i_ixor, i_ishl, i_ishr, i_iushr, i_ineg, i_i2l, i_i2b, i_i2c, i_lcmp, i_dup, i_dup2, i_pop, i_null, i_alen, i_iald, i_bald, i_lald, i_aald, i_iast, i_bast, i_last, i_aast, i_goto, i_icmp_eq, i_icmp_ne, i_icmp_lt, i_icmp_ge, i_icmp_gt, i_icmp_le, i_if_eq, i_if_ne, i_if_lt, i_if_ge, i_if_gt, i_if_le, i_ifnonnull, i_getf, i_putf, i_iret, i_zret, i_aret, i_vret, i_new, i_newa, i_anew, i_oinit, i_callv, i_calls, i_calli, i_max, i_min, i_abs, i_copy, i_throw, i_ldcs, pwt, List.getElem?_cons_zero, List.getElem?_cons_succ, List.set_cons_zero, List.set_cons_succ, List.getD_cons_zero, List.getD_cons_succ, List.length_cons, List.length_nil, List.length_set, List.drop_succ_cons, List.drop_zero, List.take_succ_cons, List.take_zero, List.reverse_cons, List.reverse_nil, List.nil_append, List.cons_append, List.append_nil, List.map_cons, List.map_nil, List.sum_cons, List.sum_nil, Value.category, ne_eq, Nat.reduceEqDiff, reduceIte, ite_self, false_implies, true_implies, true_and, and_true, and_self, Nat.zero_le, Nat.le_refl, Nat.reduceLeDiff, Nat.reduceAdd, Nat.reduceLT, Nat.add_zero, Nat.zero_add, pu_eq, not_false_eq_true, not_true_eq_false, forall_const, if_true, if_false, implies_true, g1]
        refine c_J6_bitCount ?_
        simp only [i_const, i_load, i_aload, i_store, i_astore, i_inc, i_iadd, i_isub, i_imul, i_idiv, i_irem, i_iand, i_ior, i_ixor, i_ishl, i_ishr, i_iushr, i_ineg, i_i2l, i_i2b, i_i2c, i_lcmp, i_dup, i_dup2, i_pop, i_null, i_alen, i_iald, i_bald, i_lald, i_aald, i_iast, i_bast, i_last, i_aast, i_goto, i_icmp_eq, i_icmp_ne, i_icmp_lt, i_icmp_ge, i_icmp_gt, i_icmp_le, i_if_eq, i_if_ne, i_if_lt, i_if_ge, i_if_gt, i_if_le, i_ifnonnull, i_getf, i_putf, i_iret, i_zret, i_aret, i_vret, i_new, i_newa, i_anew, i_oinit, i_callv, i_calls, i_calli, i_max, i_min, i_abs, i_copy, i_throw, i_ldcs, pwt, List.getElem?_cons_zero, List.getElem?_cons_succ, List.set_cons_zero, List.set_cons_succ, List.getD_cons_zero, List.getD_cons_succ, List.length_cons, List.length_nil, List.length_set, List.drop_succ_cons, List.drop_zero, List.take_succ_cons, List.take_zero, List.reverse_cons, List.reverse_nil, List.nil_append, List.cons_append, List.append_nil, List.map_cons, List.map_nil, List.sum_cons, List.sum_nil, Value.category, ne_eq, Nat.reduceEqDiff, reduceIte, ite_self, false_implies, true_implies, true_and, and_true, and_self, Nat.zero_le, Nat.le_refl, Nat.reduceLeDiff, Nat.reduceAdd, Nat.reduceLT, Nat.add_zero, Nat.zero_add, pu_eq, not_false_eq_true, not_true_eq_false, forall_const, if_true, if_false, implies_true, pRetK]
        refine c_J6_bitCount ?_
        rw [Fk_pc (k := k + 1) (by omega), Fk_pc hb]
        simp only [i_const, i_load, i_aload, i_store, i_astore, i_inc, i_iadd, i_isub, i_imul, i_idiv, i_irem, i_iand, i_ior, i_ixor, i_ishl, i_ishr, i_iushr, i_ineg, i_i2l, i_i2b, i_i2c, i_lcmp, i_dup, i_dup2, i_pop, i_null, i_alen, i_iald, i_bald, i_lald, i_aald, i_iast, i_bast, i_last, i_aast, i_goto, i_icmp_eq, i_icmp_ne, i_icmp_lt, i_icmp_ge, i_icmp_gt, i_icmp_le, i_if_eq, i_if_ne, i_if_lt, i_if_ge, i_if_gt, i_if_le, i_ifnonnull, i_getf, i_putf, i_iret, i_zret, i_aret, i_vret, i_new, i_newa, i_anew, i_oinit, i_callv, i_calls, i_calli, i_max, i_min, i_abs, i_copy, i_throw, i_ldcs, pwt, List.getElem?_cons_zero, List.getElem?_cons_succ, List.set_cons_zero, List.set_cons_succ, List.getD_cons_zero, List.getD_cons_succ, List.length_cons, List.length_nil, List.length_set, List.drop_succ_cons, List.drop_zero, List.take_succ_cons, List.take_zero, List.reverse_cons, List.reverse_nil, List.nil_append, List.cons_append, List.append_nil, List.map_cons, List.map_nil, List.sum_cons, List.sum_nil, Value.category, ne_eq, Nat.reduceEqDiff, reduceIte, ite_self, false_implies, true_implies, true_and, and_true, and_self, Nat.zero_le, Nat.le_refl, Nat.reduceLeDiff, Nat.reduceAdd, Nat.reduceLT, Nat.add_zero, Nat.zero_add, pu_eq, not_false_eq_true, not_true_eq_false, forall_const, if_true, if_false, implies_true, pRetK, X1.f0]
        refine ⟨fun c1 => no h1 X1 ME.rf (fun q => nI_nlt q.1 (by omega) c1), fun c1 => ?_⟩
        refine c_X12_areHis X1 R0 W (fun h2 X2 F2 c2 => ?_) (fun h2 X2 F2 c2 => ?_)
        · have c3 : pcI (nI b) ≤ pcI (nI (k + 1)) := by
            by_cases zz : pcI (nI b) ≤ pcI (nI (k + 1))
            · exact zz
            · exact absurd (nI_lt (by omega) (by omega)) c1
          rw [if_pos ⟨c3, (frB_ah W hset).mpr c2⟩] at hd
          simp only [i_const, i_load, i_aload, i_store, i_astore, i_inc, i_iadd, i_isub, i_imul, i_idiv, i_irem, i_iand, i_ior, i_ixor, i_ishl, i_ishr, i_iushr, i_ineg, i_i2l, i_i2b, i_i2c, i_lcmp, i_dup, i_dup2, i_pop, i_null, i_alen, i_iald, i_bald, i_lald, i_aald, i_iast, i_bast, i_last, i_aast, i_goto, i_icmp_eq, i_icmp_ne, i_icmp_lt, i_icmp_ge, i_icmp_gt, i_icmp_le, i_if_eq, i_if_ne, i_if_lt, i_if_ge, i_if_gt, i_if_le, i_ifnonnull, i_getf, i_putf, i_iret, i_zret, i_aret, i_vret, i_new, i_newa, i_anew, i_oinit, i_callv, i_calls, i_calli, i_max, i_min, i_abs, i_copy, i_throw, i_ldcs, pwt, List.getElem?_cons_zero, List.getElem?_cons_succ, List.set_cons_zero, List.set_cons_succ, List.getD_cons_zero, List.getD_cons_succ, List.length_cons, List.length_nil, List.length_set, List.drop_succ_cons, List.drop_zero, List.take_succ_cons, List.take_zero, List.reverse_cons, List.reverse_nil, List.nil_append, List.cons_append, List.append_nil, List.map_cons, List.map_nil, List.sum_cons, List.sum_nil, Value.category, ne_eq, Nat.reduceEqDiff, reduceIte, ite_self, false_implies, true_implies, true_and, and_true, and_self, Nat.zero_le, Nat.le_refl, Nat.reduceLeDiff, Nat.reduceAdd, Nat.reduceLT, Nat.add_zero, Nat.zero_add, pu_eq, not_false_eq_true, not_true_eq_false, forall_const, if_true, if_false, implies_true, pRetK, show ¬ ((1 : Int32) = 0) by decide]
          refine b_X12_largest_76 _ _ _ ?_
          simp only [i_const, i_load, i_aload, i_store, i_astore, i_inc, i_iadd, i_isub, i_imul, i_idiv, i_irem, i_iand, i_ior, i_ixor, i_ishl, i_ishr, i_iushr, i_ineg, i_i2l, i_i2b, i_i2c, i_lcmp, i_dup, i_dup2, i_pop, i_null, i_alen, i_iald, i_bald, i_lald, i_aald, i_iast, i_bast, i_last, i_aast, i_goto, i_icmp_eq, i_icmp_ne, i_icmp_lt, i_icmp_ge, i_icmp_gt, i_icmp_le, i_if_eq, i_if_ne, i_if_lt, i_if_ge, i_if_gt, i_if_le, i_ifnonnull, i_getf, i_putf, i_iret, i_zret, i_aret, i_vret, i_new, i_newa, i_anew, i_oinit, i_callv, i_calls, i_calli, i_max, i_min, i_abs, i_copy, i_throw, i_ldcs, pwt, List.getElem?_cons_zero, List.getElem?_cons_succ, List.set_cons_zero, List.set_cons_succ, List.getD_cons_zero, List.getD_cons_succ, List.length_cons, List.length_nil, List.length_set, List.drop_succ_cons, List.drop_zero, List.take_succ_cons, List.take_zero, List.reverse_cons, List.reverse_nil, List.nil_append, List.cons_append, List.append_nil, List.map_cons, List.map_nil, List.sum_cons, List.sum_nil, Value.category, ne_eq, Nat.reduceEqDiff, reduceIte, ite_self, false_implies, true_implies, true_and, and_true, and_self, Nat.zero_le, Nat.le_refl, Nat.reduceLeDiff, Nat.reduceAdd, Nat.reduceLT, Nat.add_zero, Nat.zero_add, pu_eq, not_false_eq_true, not_true_eq_false, forall_const, if_true, if_false, implies_true, show ¬ ((1 : Int32) = 0) by decide, st1]
          exact next h2 (k + 1) _ X2 F2 (by omega) hd
        · simp only [i_const, i_load, i_aload, i_store, i_astore, i_inc, i_iadd, i_isub, i_imul, i_idiv, i_irem, i_iand, i_ior, i_ixor, i_ishl, i_ishr, i_iushr, i_ineg, i_i2l, i_i2b, i_i2c, i_lcmp, i_dup, i_dup2, i_pop, i_null, i_alen, i_iald, i_bald, i_lald, i_aald, i_iast, i_bast, i_last, i_aast, i_goto, i_icmp_eq, i_icmp_ne, i_icmp_lt, i_icmp_ge, i_icmp_gt, i_icmp_le, i_if_eq, i_if_ne, i_if_lt, i_if_ge, i_if_gt, i_if_le, i_ifnonnull, i_getf, i_putf, i_iret, i_zret, i_aret, i_vret, i_new, i_newa, i_anew, i_oinit, i_callv, i_calls, i_calli, i_max, i_min, i_abs, i_copy, i_throw, i_ldcs, pwt, List.getElem?_cons_zero, List.getElem?_cons_succ, List.set_cons_zero, List.set_cons_succ, List.getD_cons_zero, List.getD_cons_succ, List.length_cons, List.length_nil, List.length_set, List.drop_succ_cons, List.drop_zero, List.take_succ_cons, List.take_zero, List.reverse_cons, List.reverse_nil, List.nil_append, List.cons_append, List.append_nil, List.map_cons, List.map_nil, List.sum_cons, List.sum_nil, Value.category, ne_eq, Nat.reduceEqDiff, reduceIte, ite_self, false_implies, true_implies, true_and, and_true, and_self, Nat.zero_le, Nat.le_refl, Nat.reduceLeDiff, Nat.reduceAdd, Nat.reduceLT, Nat.add_zero, Nat.zero_add, pu_eq, not_false_eq_true, not_true_eq_false, forall_const, if_true, if_false, implies_true, pRetK]
          exact no h2 X2 F2 (fun q => c2 ((frB_ah W hset).mp q.2))
      · rintro ls σ ⟨h1, b, x6, X1, F1, hb, hd, rfl, rfl⟩
        rw [Nat.sub_self] at hd
        have hd : b = T := hd
        subst hd
        refine b_X12_largest_44 _ _ _ ?_
        rw [Nat.sub_self, Fk_0]
        have hR := hR h1 X1 (F0.tr F1.fm)
        simp only [i_const, i_load, i_aload, i_store, i_astore, i_inc, i_iadd, i_isub, i_imul, i_idiv, i_irem, i_iand, i_ior, i_ixor, i_ishl, i_ishr, i_iushr, i_ineg, i_i2l, i_i2b, i_i2c, i_lcmp, i_dup, i_dup2, i_pop, i_null, i_alen, i_iald, i_bald, i_lald, i_aald, i_iast, i_bast, i_last, i_aast, i_goto, i_icmp_eq, i_icmp_ne, i_icmp_lt, i_icmp_ge, i_icmp_gt, i_icmp_le, i_if_eq, i_if_ne, i_if_lt, i_if_ge, i_if_gt, i_if_le, i_ifnonnull, i_getf, i_putf, i_iret, i_zret, i_aret, i_vret, i_new, i_newa, i_anew, i_oinit, i_callv, i_calls, i_calli, i_max, i_min, i_abs, i_copy, i_throw, i_ldcs, pwt, List.getElem?_cons_zero, List.getElem?_cons_succ, List.set_cons_zero, List.set_cons_succ, List.getD_cons_zero, List.getD_cons_succ, List.length_cons, List.length_nil, List.length_set, List.drop_succ_cons, List.drop_zero, List.take_succ_cons, List.take_zero, List.reverse_cons, List.reverse_nil, List.nil_append, List.cons_append, List.append_nil, List.map_cons, List.map_nil, List.sum_cons, List.sum_nil, Value.category, ne_eq, Nat.reduceEqDiff, reduceIte, ite_self, false_implies, true_implies, true_and, and_true, and_self, Nat.zero_le, Nat.le_refl, Nat.reduceLeDiff, Nat.reduceAdd, Nat.reduceLT, Nat.add_zero, Nat.zero_add, pu_eq, not_false_eq_true, not_true_eq_false, forall_const, if_true, if_false, implies_true, show (0 : Int32) ≤ 0 by decide]
        refine ⟨fun c1 => ?_, fun c1 => ?_⟩
        · rw [if_pos c1] at hR
          refine c_J6_bitCount ?_
          simp only [i_const, i_load, i_aload, i_store, i_astore, i_inc, i_iadd, i_isub, i_imul, i_idiv, i_irem, i_iand, i_ior, i_ixor, i_ishl, i_ishr, i_iushr, i_ineg, i_i2l, i_i2b, i_i2c, i_lcmp, i_dup, i_dup2, i_pop, i_null, i_alen, i_iald, i_bald, i_lald, i_aald, i_iast, i_bast, i_last, i_aast, i_goto, i_icmp_eq, i_icmp_ne, i_icmp_lt, i_icmp_ge, i_icmp_gt, i_icmp_le, i_if_eq, i_if_ne, i_if_lt, i_if_ge, i_if_gt, i_if_le, i_ifnonnull, i_getf, i_putf, i_iret, i_zret, i_aret, i_vret, i_new, i_newa, i_anew, i_oinit, i_callv, i_calls, i_calli, i_max, i_min, i_abs, i_copy, i_throw, i_ldcs, pwt, List.getElem?_cons_zero, List.getElem?_cons_succ, List.set_cons_zero, List.set_cons_succ, List.getD_cons_zero, List.getD_cons_succ, List.length_cons, List.length_nil, List.length_set, List.drop_succ_cons, List.drop_zero, List.take_succ_cons, List.take_zero, List.reverse_cons, List.reverse_nil, List.nil_append, List.cons_append, List.append_nil, List.map_cons, List.map_nil, List.sum_cons, List.sum_nil, Value.category, ne_eq, Nat.reduceEqDiff, reduceIte, ite_self, false_implies, true_implies, true_and, and_true, and_self, Nat.zero_le, Nat.le_refl, Nat.reduceLeDiff, Nat.reduceAdd, Nat.reduceLT, Nat.add_zero, Nat.zero_add, pu_eq, not_false_eq_true, not_true_eq_false, forall_const, if_true, if_false, implies_true, pRetK]
          exact hR
        · rw [if_neg c1] at hR
          exact hR
      · rw [Nat.sub_zero, full, Fk_0]
    · rw [if_neg c] at hR
      exact hR _ X0 F0
  · simp only [i_const, i_load, i_aload, i_store, i_astore, i_inc, i_iadd, i_isub, i_imul, i_idiv, i_irem, i_iand, i_ior, i_ixor, i_ishl, i_ishr, i_iushr, i_ineg, i_i2l, i_i2b, i_i2c, i_lcmp, i_dup, i_dup2, i_pop, i_null, i_alen, i_iald, i_bald, i_lald, i_aald, i_iast, i_bast, i_last, i_aast, i_goto, i_icmp_eq, i_icmp_ne, i_icmp_lt, i_icmp_ge, i_icmp_gt, i_icmp_le, i_if_eq, i_if_ne, i_if_lt, i_if_ge, i_if_gt, i_if_le, i_ifnonnull, i_getf, i_putf, i_iret, i_zret, i_aret, i_vret, i_new, i_newa, i_anew, i_oinit, i_callv, i_calls, i_calli, i_max, i_min, i_abs, i_copy, i_throw, i_ldcs, pwt, List.getElem?_cons_zero, List.getElem?_cons_succ, List.set_cons_zero, List.set_cons_succ, List.getD_cons_zero, List.getD_cons_succ, List.length_cons, List.length_nil, List.length_set, List.drop_succ_cons, List.drop_zero, List.take_succ_cons, List.take_zero, List.reverse_cons, List.reverse_nil, List.nil_append, List.cons_append, List.append_nil, List.map_cons, List.map_nil, List.sum_cons, List.sum_nil, Value.category, ne_eq, Nat.reduceEqDiff, reduceIte, ite_self, false_implies, true_implies, true_and, and_true, and_self, Nat.zero_le, Nat.le_refl, Nat.reduceLeDiff, Nat.reduceAdd, Nat.reduceLT, Nat.add_zero, Nat.zero_add, pu_eq, not_false_eq_true, not_true_eq_false, forall_const, if_true, if_false, implies_true, pRetK, X0.f0]
    refine c_X12_thr1 X0 (fun h1 X1 F1 => ?_)
    rw [th_th] at X1
    simp only [i_const, i_load, i_aload, i_store, i_astore, i_inc, i_iadd, i_isub, i_imul, i_idiv, i_irem, i_iand, i_ior, i_ixor, i_ishl, i_ishr, i_iushr, i_ineg, i_i2l, i_i2b, i_i2c, i_lcmp, i_dup, i_dup2, i_pop, i_null, i_alen, i_iald, i_bald, i_lald, i_aald, i_iast, i_bast, i_last, i_aast, i_goto, i_icmp_eq, i_icmp_ne, i_icmp_lt, i_icmp_ge, i_icmp_gt, i_icmp_le, i_if_eq, i_if_ne, i_if_lt, i_if_ge, i_if_gt, i_if_le, i_ifnonnull, i_getf, i_putf, i_iret, i_zret, i_aret, i_vret, i_new, i_newa, i_anew, i_oinit, i_callv, i_calls, i_calli, i_max, i_min, i_abs, i_copy, i_throw, i_ldcs, pwt, List.getElem?_cons_zero, List.getElem?_cons_succ, List.set_cons_zero, List.set_cons_succ, List.getD_cons_zero, List.getD_cons_succ, List.length_cons, List.length_nil, List.length_set, List.drop_succ_cons, List.drop_zero, List.take_succ_cons, List.take_zero, List.reverse_cons, List.reverse_nil, List.nil_append, List.cons_append, List.append_nil, List.map_cons, List.map_nil, List.sum_cons, List.sum_nil, Value.category, ne_eq, Nat.reduceEqDiff, reduceIte, ite_self, false_implies, true_implies, true_and, and_true, and_self, Nat.zero_le, Nat.le_refl, Nat.reduceLeDiff, Nat.reduceAdd, Nat.reduceLT, Nat.add_zero, Nat.zero_add, pu_eq, not_false_eq_true, not_true_eq_false, forall_const, if_true, if_false, implies_true, pRetK, show ¬ ((1 : Int32) = 0) by decide]
    exact hQ0 hy h1 _ X1 (F0.tr F1)

end MLARGE

/-! enemies: the class -/
section ENEMY
variable {E : PE} {M : PM} {d : Nat} {Q : PQ} {h : PH} {n : Nat} {a b s t x y L ln cnt : Nat} {r rb g : AR} {lw lb : Option Nat} {C Cb : Option LawL} {pc : Nat} {f : Nat → Int32} {v : Int32}
theorem c_X10_byteAt {i : Nat} {e : Nat} {z : Int32} (T : TR h t L b z v e f) (hL : L ≤ 400) (hi : i < L) (hQ : Q (.inl (some (.int (f i &&& 255)))) h n) : pCall E M_X10_byteAt d [.ref t, .int (nI i)] h n Q := by
  refine pCall_of rfl rfl (Nat.le_of_ble_eq_true rfl) (by simp [Value.category]) ?_
  refine b_X10_byteAt_0 _ _ _ ?_
  simp only [pEntry, PM.nL, M_X10_byteAt, List.map_cons, List.map_nil, List.length_cons, List.length_nil, Nat.reduceAdd, Nat.reduceSub, Nat.sub_self, List.replicate_succ, List.replicate_zero, List.cons_append, List.nil_append]
  have e1 : ¬ nI i < 0 := nI_pos (by omega)
  have e2 : ¬ nI L ≤ nI i := nI_ge hi (by omega)
  simp only [i_const, i_load, i_aload, i_store, i_astore, i_inc, i_iadd, i_isub, i_imul, i_idiv, i_irem, i_iand, i_ior, i_ixor, i_ishl, i_ishr, i_iushr, i_ineg, i_i2l, i_i2b, i_i2c, i_lcmp, i_dup, i_dup2, i_pop, i_null, i_alen, i_iald, i_bald, i_lald, i_aald, i_iast, i_bast, i_last, i_aast, i_goto, i_icmp_eq, i_icmp_ne, i_icmp_lt, i_icmp_ge, i_icmp_gt, i_icmp_le, i_if_eq, i_if_ne, i_if_lt, i_if_ge, i_if_gt, i_if_le, i_ifnonnull, i_getf, i_putf, i_iret, i_zret, i_aret, i_vret, i_new, i_newa, i_anew, i_oinit, i_callv, i_calls, i_calli, i_max, i_min, i_abs, i_copy, i_throw, i_ldcs, pwt, List.getElem?_cons_zero, List.getElem?_cons_succ, List.set_cons_zero, List.set_cons_succ, List.getD_cons_zero, List.getD_cons_succ, List.length_cons, List.length_nil, List.length_set, List.drop_succ_cons, List.drop_zero, List.take_succ_cons, List.take_zero, List.reverse_cons, List.reverse_nil, List.nil_append, List.cons_append, List.append_nil, List.map_cons, List.map_nil, List.sum_cons, List.sum_nil, Value.category, ne_eq, Nat.reduceEqDiff, reduceIte, ite_self, false_implies, true_implies, true_and, and_true, and_self, Nat.zero_le, Nat.le_refl, Nat.reduceLeDiff, Nat.reduceAdd, Nat.reduceLT, Nat.add_zero, Nat.zero_add, pu_eq, not_false_eq_true, not_true_eq_false, forall_const, if_true, if_false, implies_true, T.1, T.2, e1, e2, vp_in_nI (show i < 400 by omega) (by decide), nI_clamp (show i < 2 ^ 31 by omega)]
  exact hQ
/-- 4 bytes of a number -/
def b4 (k : Int32) (i : Nat) : Int32 := (k >>> (nI (24 - 8 * i) &&& 31)).toInt8.toInt32
theorem c_X10_put {e : Nat} {z k : Int32} (T : TR h t L b z v e f) (hL : L + 4 ≤ 400) (hQ : ∀ h' f', TR h' t (L + 4) b z v e f' → (∀ i, i < L → f' i = f i) → (∀ i, i < 4 → f' (L + i) = b4 k i) → (∀ q, q ≠ t → q ≠ t + 1 → h' q = h q) → Q (.inl none) h' n) : pCall E M_X10_put d [.ref t, .int k] h n Q := by
  refine pCall_of rfl rfl (Nat.le_of_ble_eq_true rfl) (by simp [Value.category]) ?_
  refine b_X10_put_0 _ _ _ ?_
  simp only [pEntry, PM.nL, M_X10_put, List.map_cons, List.map_nil, List.length_cons, List.length_nil, Nat.reduceAdd, Nat.reduceSub, Nat.sub_self, List.replicate_succ, List.replicate_zero, List.cons_append, List.nil_append]
  simp only [i_const, i_load, i_aload, i_store, i_astore, i_inc, i_iadd, i_isub, i_imul, i_idiv, i_irem, i_iand, i_ior, i_ixor, i_ishl, i_ishr, i_iushr, i_ineg, i_i2l, i_i2b, i_i2c, i_lcmp, i_dup, i_dup2, i_pop, i_null, i_alen, i_iald, i_bald, i_lald, i_aald, i_iast, i_bast, i_last, i_aast, i_goto, i_icmp_eq, i_icmp_ne, i_icmp_lt, i_icmp_ge, i_icmp_gt, i_icmp_le, i_if_eq, i_if_ne, i_if_lt, i_if_ge, i_if_gt, i_if_le, i_ifnonnull, i_getf, i_putf, i_iret, i_zret, i_aret, i_vret, i_new, i_newa, i_anew, i_oinit, i_callv, i_calls, i_calli, i_max, i_min, i_abs, i_copy, i_throw, i_ldcs, pwt, List.getElem?_cons_zero, List.getElem?_cons_succ, List.set_cons_zero, List.set_cons_succ, List.getD_cons_zero, List.getD_cons_succ, List.length_cons, List.length_nil, List.length_set, List.drop_succ_cons, List.drop_zero, List.take_succ_cons, List.take_zero, List.reverse_cons, List.reverse_nil, List.nil_append, List.cons_append, List.append_nil, List.map_cons, List.map_nil, List.sum_cons, List.sum_nil, Value.category, ne_eq, Nat.reduceEqDiff, reduceIte, ite_self, false_implies, true_implies, true_and, and_true, and_self, Nat.zero_le, Nat.le_refl, Nat.reduceLeDiff, Nat.reduceAdd, Nat.reduceLT, Nat.add_zero, Nat.zero_add, pu_eq, not_false_eq_true, not_true_eq_false, forall_const, if_true, if_false, implies_true]
  refine pFor 4 (fun j ls σ => ∃ h1 f1, TR h1 t (L + j) b z v e f1 ∧ (∀ i, i < L → f1 i = f i) ∧ (∀ i, i < j → f1 (L + i) = b4 k i) ∧ (∀ q, q ≠ t → q ≠ t + 1 → h1 q = h q) ∧ ls = [some (.ref t), some (.int k), some (.int (nI 24 - nI (8 * j)))] ∧ σ = (h1, n, 0, 0)) ?_ ?_ 0 (Nat.zero_le _) _ _ ⟨h, f, T, fun _ _ => rfl, fun i hi => absurd hi (Nat.not_lt_zero i), fun _ _ _ => rfl, rfl, rfl⟩
  · rintro j hj ls σ ⟨h1, f1, T1, K1, K2, F1, rfl, rfl⟩ ih
    have e0 : nI 24 - nI (8 * j) = nI (24 - 8 * j) := pk_sub (by omega)
    have e1 : ¬ nI (24 - 8 * j) < 0 := nI_pos (by omega)
    have e2 : ¬ (400 : Int32) ≤ nI (L + j) := nI_ge (b := 400) (by omega) (by decide)
    have e3 : nI (24 - 8 * j) + (-8) = nI 24 - nI (8 * (j + 1)) := by
      match j, hj with
      | 0, _ => decide
      | 1, _ => decide
      | 2, _ => decide
      | 3, _ => decide
      | j + 4, hj => omega
    refine b_X10_put_3 _ _ _ ?_
    simp only [i_const, i_load, i_aload, i_store, i_astore, i_inc, i_iadd, i_isub, i_imul, i_idiv, i_irem, i_iand, i_ior, i_ixor, i_ishl, i_ishr, i_iushr, i_ineg, i_i2l, i_i2b, i_i2c, i_lcmp, i_dup, i_dup2, i_pop, i_null, i_alen, i_iald, i_bald, i_lald, i_aald, i_iast, i_bast, i_last, i_aast, i_goto, i_icmp_eq, i_icmp_ne, i_icmp_lt, i_icmp_ge, i_icmp_gt, i_icmp_le, i_if_eq, i_if_ne, i_if_lt, i_if_ge, i_if_gt, i_if_le, i_ifnonnull, i_getf, i_putf, i_iret, i_zret, i_aret, i_vret, i_new, i_newa, i_anew, i_oinit, i_callv, i_calls, i_calli, i_max, i_min, i_abs, i_copy, i_throw, i_ldcs, pwt, List.getElem?_cons_zero, List.getElem?_cons_succ, List.set_cons_zero, List.set_cons_succ, List.getD_cons_zero, List.getD_cons_succ, List.length_cons, List.length_nil, List.length_set, List.drop_succ_cons, List.drop_zero, List.take_succ_cons, List.take_zero, List.reverse_cons, List.reverse_nil, List.nil_append, List.cons_append, List.append_nil, List.map_cons, List.map_nil, List.sum_cons, List.sum_nil, Value.category, ne_eq, Nat.reduceEqDiff, reduceIte, ite_self, false_implies, true_implies, true_and, and_true, and_self, Nat.zero_le, Nat.le_refl, Nat.reduceLeDiff, Nat.reduceAdd, Nat.reduceLT, Nat.add_zero, Nat.zero_add, pu_eq, not_false_eq_true, not_true_eq_false, forall_const, if_true, if_false, implies_true, e0, T1.1, T1.2, e1, e2, vp_in_nI (show L + j < 400 by omega) (by decide), nI_clamp (show L + j < 2 ^ 31 by omega), pk_vb, pu_add0, nI_1, e3]
    refine ⟨rfl, rfl, ?_⟩
    refine ih _ _ ⟨_, upd f1 (L + j) (b4 k j), ⟨pu_eq _ _ _, ?_⟩, fun i hi => ?_, fun i hi => ?_, fun q h1 h2 => ?_, rfl, rfl⟩
    · rw [pu_ne (by omega)]; exact pu_eq _ _ _
    · unfold upd; rw [if_neg (by omega)]; exact K1 i hi
    · unfold upd
      by_cases ei : i = j
      · rw [if_pos (by omega), ei]
      · rw [if_neg (by omega)]; exact K2 i (by omega)
    · rw [pu_ne h1, pu_ne h2]; exact F1 q h1 h2
  · rintro ls σ ⟨h1, f1, T1, K1, K2, F1, rfl, rfl⟩
    refine b_X10_put_3 _ _ _ ?_
    simp only [i_const, i_load, i_aload, i_store, i_astore, i_inc, i_iadd, i_isub, i_imul, i_idiv, i_irem, i_iand, i_ior, i_ixor, i_ishl, i_ishr, i_iushr, i_ineg, i_i2l, i_i2b, i_i2c, i_lcmp, i_dup, i_dup2, i_pop, i_null, i_alen, i_iald, i_bald, i_lald, i_aald, i_iast, i_bast, i_last, i_aast, i_goto, i_icmp_eq, i_icmp_ne, i_icmp_lt, i_icmp_ge, i_icmp_gt, i_icmp_le, i_if_eq, i_if_ne, i_if_lt, i_if_ge, i_if_gt, i_if_le, i_ifnonnull, i_getf, i_putf, i_iret, i_zret, i_aret, i_vret, i_new, i_newa, i_anew, i_oinit, i_callv, i_calls, i_calli, i_max, i_min, i_abs, i_copy, i_throw, i_ldcs, pwt, List.getElem?_cons_zero, List.getElem?_cons_succ, List.set_cons_zero, List.set_cons_succ, List.getD_cons_zero, List.getD_cons_succ, List.length_cons, List.length_nil, List.length_set, List.drop_succ_cons, List.drop_zero, List.take_succ_cons, List.take_zero, List.reverse_cons, List.reverse_nil, List.nil_append, List.cons_append, List.append_nil, List.map_cons, List.map_nil, List.sum_cons, List.sum_nil, Value.category, ne_eq, Nat.reduceEqDiff, reduceIte, ite_self, false_implies, true_implies, true_and, and_true, and_self, Nat.zero_le, Nat.le_refl, Nat.reduceLeDiff, Nat.reduceAdd, Nat.reduceLT, Nat.add_zero, Nat.zero_add, pu_eq, not_false_eq_true, not_true_eq_false, forall_const, if_true, if_false, implies_true, show (nI 24 - nI (8 * 4) < 0) = True from eq_true (by decide)]
    exact hQ h1 f1 T1 K1 K2 F1
theorem c_J7_fill {m : Nat} {k : Int32} {g : Nat → Int32} (hm : m ≤ 1000) (hg : h a = some (.inl (.int, (m, .inl g)))) (hQ : ∀ g', (∀ i, i < m → g' i = k) → Q (.inl none) (pu h a (.inl (.int, (m, .inl g')))) n) : pCall E M_J7_fill_53178 d [.ref a, .int k] h n Q := by
  refine pCall_of rfl rfl (Nat.le_of_ble_eq_true rfl) (by simp [Value.category]) ?_
  refine b_J7_fill_53178_0 _ _ _ ?_
  simp only [pEntry, PM.nL, M_J7_fill_53178, List.map_cons, List.map_nil, List.length_cons, List.length_nil, Nat.reduceAdd, Nat.reduceSub, Nat.sub_self, List.replicate_succ, List.replicate_zero, List.cons_append, List.nil_append]
  simp only [i_const, i_load, i_aload, i_store, i_astore, i_inc, i_iadd, i_isub, i_imul, i_idiv, i_irem, i_iand, i_ior, i_ixor, i_ishl, i_ishr, i_iushr, i_ineg, i_i2l, i_i2b, i_i2c, i_lcmp, i_dup, i_dup2, i_pop, i_null, i_alen, i_iald, i_bald, i_lald, i_aald, i_iast, i_bast, i_last, i_aast, i_goto, i_icmp_eq, i_icmp_ne, i_icmp_lt, i_icmp_ge, i_icmp_gt, i_icmp_le, i_if_eq, i_if_ne, i_if_lt, i_if_ge, i_if_gt, i_if_le, i_ifnonnull, i_getf, i_putf, i_iret, i_zret, i_aret, i_vret, i_new, i_newa, i_anew, i_oinit, i_callv, i_calls, i_calli, i_max, i_min, i_abs, i_copy, i_throw, i_ldcs, pwt, List.getElem?_cons_zero, List.getElem?_cons_succ, List.set_cons_zero, List.set_cons_succ, List.getD_cons_zero, List.getD_cons_succ, List.length_cons, List.length_nil, List.length_set, List.drop_succ_cons, List.drop_zero, List.take_succ_cons, List.take_zero, List.reverse_cons, List.reverse_nil, List.nil_append, List.cons_append, List.append_nil, List.map_cons, List.map_nil, List.sum_cons, List.sum_nil, Value.category, ne_eq, Nat.reduceEqDiff, reduceIte, ite_self, false_implies, true_implies, true_and, and_true, and_self, Nat.zero_le, Nat.le_refl, Nat.reduceLeDiff, Nat.reduceAdd, Nat.reduceLT, Nat.add_zero, Nat.zero_add, pu_eq, not_false_eq_true, not_true_eq_false, forall_const, if_true, if_false, implies_true, hg]
  have self : pu h a (.inl (.int, (m, .inl g))) = h := by
    funext q
    by_cases e : q = a
    · rw [e, pu_eq, hg]
    · rw [pu_ne e]
  refine pFor m (fun j ls σ => ∃ g1, (∀ i, i < j → g1 i = k) ∧ ls = [some (.ref a), some (.int k), some (.int (nI j)), some (.int (nI m))] ∧ σ = (pu h a (.inl (.int, (m, .inl g1))), n, 0, 0)) ?_ ?_ 0 (Nat.zero_le _) _ _ ⟨g, fun i hi => absurd hi (Nat.not_lt_zero i), rfl, by rw [self]⟩
  · rintro j hj ls σ ⟨g1, K1, rfl, rfl⟩ ih
    obtain ⟨e1, e2, e3, e4⟩ := jFacts hj (Nat.le_refl m) (by omega)
    refine b_J7_fill_53178_5 _ _ _ ?_
    simp only [i_const, i_load, i_aload, i_store, i_astore, i_inc, i_iadd, i_isub, i_imul, i_idiv, i_irem, i_iand, i_ior, i_ixor, i_ishl, i_ishr, i_iushr, i_ineg, i_i2l, i_i2b, i_i2c, i_lcmp, i_dup, i_dup2, i_pop, i_null, i_alen, i_iald, i_bald, i_lald, i_aald, i_iast, i_bast, i_last, i_aast, i_goto, i_icmp_eq, i_icmp_ne, i_icmp_lt, i_icmp_ge, i_icmp_gt, i_icmp_le, i_if_eq, i_if_ne, i_if_lt, i_if_ge, i_if_gt, i_if_le, i_ifnonnull, i_getf, i_putf, i_iret, i_zret, i_aret, i_vret, i_new, i_newa, i_anew, i_oinit, i_callv, i_calls, i_calli, i_max, i_min, i_abs, i_copy, i_throw, i_ldcs, pwt, List.getElem?_cons_zero, List.getElem?_cons_succ, List.set_cons_zero, List.set_cons_succ, List.getD_cons_zero, List.getD_cons_succ, List.length_cons, List.length_nil, List.length_set, List.drop_succ_cons, List.drop_zero, List.take_succ_cons, List.take_zero, List.reverse_cons, List.reverse_nil, List.nil_append, List.cons_append, List.append_nil, List.map_cons, List.map_nil, List.sum_cons, List.sum_nil, Value.category, ne_eq, Nat.reduceEqDiff, reduceIte, ite_self, false_implies, true_implies, true_and, and_true, and_self, Nat.zero_le, Nat.le_refl, Nat.reduceLeDiff, Nat.reduceAdd, Nat.reduceLT, Nat.add_zero, Nat.zero_add, pu_eq, not_false_eq_true, not_true_eq_false, forall_const, if_true, if_false, implies_true, e1, e2, e3, e4, pu_pu]
    refine ih _ _ ⟨upd g1 j k, fun i hi => ?_, rfl, rfl⟩
    unfold upd
    by_cases ei : i = j
    · rw [if_pos ei]
    · rw [if_neg ei]; exact K1 i (by omega)
  · rintro ls σ ⟨g1, K1, rfl, rfl⟩
    refine b_J7_fill_53178_5 _ _ _ ?_
    simp only [i_const, i_load, i_aload, i_store, i_astore, i_inc, i_iadd, i_isub, i_imul, i_idiv, i_irem, i_iand, i_ior, i_ixor, i_ishl, i_ishr, i_iushr, i_ineg, i_i2l, i_i2b, i_i2c, i_lcmp, i_dup, i_dup2, i_pop, i_null, i_alen, i_iald, i_bald, i_lald, i_aald, i_iast, i_bast, i_last, i_aast, i_goto, i_icmp_eq, i_icmp_ne, i_icmp_lt, i_icmp_ge, i_icmp_gt, i_icmp_le, i_if_eq, i_if_ne, i_if_lt, i_if_ge, i_if_gt, i_if_le, i_ifnonnull, i_getf, i_putf, i_iret, i_zret, i_aret, i_vret, i_new, i_newa, i_anew, i_oinit, i_callv, i_calls, i_calli, i_max, i_min, i_abs, i_copy, i_throw, i_ldcs, pwt, List.getElem?_cons_zero, List.getElem?_cons_succ, List.set_cons_zero, List.set_cons_succ, List.getD_cons_zero, List.getD_cons_succ, List.length_cons, List.length_nil, List.length_set, List.drop_succ_cons, List.drop_zero, List.take_succ_cons, List.take_zero, List.reverse_cons, List.reverse_nil, List.nil_append, List.cons_append, List.append_nil, List.map_cons, List.map_nil, List.sum_cons, List.sum_nil, Value.category, ne_eq, Nat.reduceEqDiff, reduceIte, ite_self, false_implies, true_implies, true_and, and_true, and_self, Nat.zero_le, Nat.le_refl, Nat.reduceLeDiff, Nat.reduceAdd, Nat.reduceLT, Nat.add_zero, Nat.zero_add, pu_eq, not_false_eq_true, not_true_eq_false, forall_const, if_true, if_false, implies_true, nI_le_self]
    exact hQ g1 K1
def meS (r : AR) (m : Nat) (f : Nat → Int32) (e : Nat) : Int32 := orF (fun j => if r 9 j = f (2 * e) &&& 255 ∧ r 10 j = f (2 * e + 1) &&& 255 then 1 <<< (r 15 j &&& 31) else 0) m &&& r 5 1
def hrB (f : Nat → Int32) (k : Nat) : Bool := decide (∀ e, e < k → ¬ 12 ≤ f (2 * e) &&& 255 ∧ ¬ 6 ≤ f (2 * e + 1) &&& 255)
def hrOK (f : Nat → Int32) (L : Nat) : Bool := decide (L % 2 = 0) && decide (L / 2 ≤ 10) && hrB f (L / 2)
theorem c_X9_hear {m : Nat} {e : Nat} {z : Int32} (X : AX h a r lw C) (H : SA h s g) (D : DJ s a lw) (T : TR h t L b z v e f) (hL : L ≤ 400) (hts : t + 2 ≤ s ∨ s + 8 ≤ t) (hm : r 8 0 = nI m) (hN : m ≤ 24)
    (hQ : ∀ h' g', AX h' a r lw C → SA h' s g' → FS s h h' → (hrOK f L = true → ∀ i, i < L / 2 → g' 1 i = meS r m f i) → Q (.inl (some (.int (if hrOK f L = true then nI (L / 2) else -1)))) h' n) : pCall E M_X9_hear (d + 2) [.ref s, .ref a, .ref t] h n Q := by
  refine pCall_of rfl rfl (Nat.le_of_ble_eq_true rfl) (by simp [Value.category]) ?_
  refine b_X9_hear_0 _ _ _ ?_
  simp only [pEntry, PM.nL, M_X9_hear, List.map_cons, List.map_nil, List.length_cons, List.length_nil, Nat.reduceAdd, Nat.reduceSub, Nat.sub_self, List.replicate_succ, List.replicate_zero, List.cons_append, List.nil_append]
  have e1 : nI L / 2 = nI (L / 2) := pk_div (d := 2) (by omega) (by decide) (by decide)
  have e2 : nI L - nI (L / 2) * 2 = nI (L % 2) := by
    rw [show (2 : Int32) = nI 2 from rfl, pk_mul, pk_sub (by omega)]; congr 1; omega
  simp only [i_const, i_load, i_aload, i_store, i_astore, i_inc, i_iadd, i_isub, i_imul, i_idiv, i_irem, i_iand, i_ior, i_ixor, i_ishl, i_ishr, i_iushr, i_ineg, i_i2l, i_i2b, i_i2c, i_lcmp, i_dup, i_dup2, i_pop, i_null, i_alen, i_iald, i_bald, i_lald, i_aald, i_iast, i_bast, i_last, i_aast, i_goto, i_icmp_eq, i_icmp_ne, i_icmp_lt, i_icmp_ge, i_icmp_gt, i_icmp_le, i_if_eq, i_if_ne, i_if_lt, i_if_ge, i_if_gt, i_if_le, i_ifnonnull, i_getf, i_putf, i_iret, i_zret, i_aret, i_vret, i_new, i_newa, i_anew, i_oinit, i_callv, i_calls, i_calli, i_max, i_min, i_abs, i_copy, i_throw, i_ldcs, pwt, List.getElem?_cons_zero, List.getElem?_cons_succ, List.set_cons_zero, List.set_cons_succ, List.getD_cons_zero, List.getD_cons_succ, List.length_cons, List.length_nil, List.length_set, List.drop_succ_cons, List.drop_zero, List.take_succ_cons, List.take_zero, List.reverse_cons, List.reverse_nil, List.nil_append, List.cons_append, List.append_nil, List.map_cons, List.map_nil, List.sum_cons, List.sum_nil, Value.category, ne_eq, Nat.reduceEqDiff, reduceIte, ite_self, false_implies, true_implies, true_and, and_true, and_self, Nat.zero_le, Nat.le_refl, Nat.reduceLeDiff, Nat.reduceAdd, Nat.reduceLT, Nat.add_zero, Nat.zero_add, pu_eq, not_false_eq_true, not_true_eq_false, forall_const, if_true, if_false, implies_true, T.1, e1, e2]
  refine ⟨by decide, by decide, fun c => ?_, fun c => ⟨fun c2 => ?_, fun c2 => ?_⟩⟩
  · have hc : ¬ L % 2 = 0 := fun q => c (by rw [q]; rfl)
    have ho : ¬ hrOK f L = true := by unfold hrOK; rw [decide_eq_false hc]; simp
    have := hQ h g X H FS.rf (fun q => absurd q ho)
    rw [if_neg ho] at this
    exact this
  · have hc : L % 2 = 0 := (nI_eq (by omega) (by decide)).mp (show nI (L % 2) = nI 0 from c)
    have hc2 : L / 2 ≤ 10 := (nI_leI (b := 10) (by omega) (by decide)).mp c2
    refine pFor (L / 2) (fun i ls σ => ∃ h1 g1, AX h1 a r lw C ∧ SA h1 s g1 ∧ FS s h h1 ∧ (∀ q, q < i → g1 1 q = meS r m f q) ∧ (∀ q, q < i → ¬ 12 ≤ f (2 * q) &&& 255 ∧ ¬ 6 ≤ f (2 * q + 1) &&& 255) ∧ (∃ x5 x6, ls = [some (.ref s), some (.ref a), some (.ref t), some (.int (nI (L / 2))), some (.int (nI i)), x5, x6]) ∧ σ = (h1, n, 0, 0)) ?_ ?_ 0 (Nat.zero_le _) _ _ ⟨h, g, X, H, FS.rf, fun q hq => absurd hq (Nat.not_lt_zero q), fun q hq => absurd hq (Nat.not_lt_zero q), ⟨_, _, rfl⟩, rfl⟩
    · rintro i hi ls σ ⟨h1, g1, X1, H1, F1, K1, V1, ⟨x5, x6, rfl⟩, rfl⟩ ih
      obtain ⟨f1, f2, f3, f4⟩ := jFacts hi hc2 (by decide)
      have T1 : TR h1 t L b z v e f := ⟨(F1 t (by omega)).trans T.1, (F1 (t + 1) (by omega)).trans T.2⟩
      have m1 : (2 : Int32) * nI i = nI (2 * i) := pk_mul 2 i
      have m2 : nI (2 * i) + 1 = nI (2 * i + 1) := nI_1 _
      refine b_X9_hear_27 _ _ _ ?_
      simp only [i_const, i_load, i_aload, i_store, i_astore, i_inc, i_iadd, i_isub, i_imul, i_idiv, i_irem, i_iand, i_ior, i_ixor, i_ishl, i_ishr, i_iushr, i_ineg, i_i2l, i_i2b, i_i2c, i_lcmp, i_dup, i_dup2, i_pop, i_null, i_alen, i_iald, i_bald, i_lald, i_aald, i_iast, i_bast, i_last, i_aast, i_goto, i_icmp_eq, i_icmp_ne, i_icmp_lt, i_icmp_ge, i_icmp_gt, i_icmp_le, i_if_eq, i_if_ne, i_if_lt, i_if_ge, i_if_gt, i_if_le, i_ifnonnull, i_getf, i_putf, i_iret, i_zret, i_aret, i_vret, i_new, i_newa, i_anew, i_oinit, i_callv, i_calls, i_calli, i_max, i_min, i_abs, i_copy, i_throw, i_ldcs, pwt, List.getElem?_cons_zero, List.getElem?_cons_succ, List.set_cons_zero, List.set_cons_succ, List.getD_cons_zero, List.getD_cons_succ, List.length_cons, List.length_nil, List.length_set, List.drop_succ_cons, List.drop_zero, List.take_succ_cons, List.take_zero, List.reverse_cons, List.reverse_nil, List.nil_append, List.cons_append, List.append_nil, List.map_cons, List.map_nil, List.sum_cons, List.sum_nil, Value.category, ne_eq, Nat.reduceEqDiff, reduceIte, ite_self, false_implies, true_implies, true_and, and_true, and_self, Nat.zero_le, Nat.le_refl, Nat.reduceLeDiff, Nat.reduceAdd, Nat.reduceLT, Nat.add_zero, Nat.zero_add, pu_eq, not_false_eq_true, not_true_eq_false, forall_const, if_true, if_false, implies_true, f1, m1, T1.1]
      refine c_X10_byteAt T1 hL (by omega) ?_
      simp only [i_const, i_load, i_aload, i_store, i_astore, i_inc, i_iadd, i_isub, i_imul, i_idiv, i_irem, i_iand, i_ior, i_ixor, i_ishl, i_ishr, i_iushr, i_ineg, i_i2l, i_i2b, i_i2c, i_lcmp, i_dup, i_dup2, i_pop, i_null, i_alen, i_iald, i_bald, i_lald, i_aald, i_iast, i_bast, i_last, i_aast, i_goto, i_icmp_eq, i_icmp_ne, i_icmp_lt, i_icmp_ge, i_icmp_gt, i_icmp_le, i_if_eq, i_if_ne, i_if_lt, i_if_ge, i_if_gt, i_if_le, i_ifnonnull, i_getf, i_putf, i_iret, i_zret, i_aret, i_vret, i_new, i_newa, i_anew, i_oinit, i_callv, i_calls, i_calli, i_max, i_min, i_abs, i_copy, i_throw, i_ldcs, pwt, List.getElem?_cons_zero, List.getElem?_cons_succ, List.set_cons_zero, List.set_cons_succ, List.getD_cons_zero, List.getD_cons_succ, List.length_cons, List.length_nil, List.length_set, List.drop_succ_cons, List.drop_zero, List.take_succ_cons, List.take_zero, List.reverse_cons, List.reverse_nil, List.nil_append, List.cons_append, List.append_nil, List.map_cons, List.map_nil, List.sum_cons, List.sum_nil, Value.category, ne_eq, Nat.reduceEqDiff, reduceIte, ite_self, false_implies, true_implies, true_and, and_true, and_self, Nat.zero_le, Nat.le_refl, Nat.reduceLeDiff, Nat.reduceAdd, Nat.reduceLT, Nat.add_zero, Nat.zero_add, pu_eq, not_false_eq_true, not_true_eq_false, forall_const, if_true, if_false, implies_true, pRetK, m1, m2, T1.1]
      refine c_X10_byteAt T1 hL (by omega) ?_
      simp only [i_const, i_load, i_aload, i_store, i_astore, i_inc, i_iadd, i_isub, i_imul, i_idiv, i_irem, i_iand, i_ior, i_ixor, i_ishl, i_ishr, i_iushr, i_ineg, i_i2l, i_i2b, i_i2c, i_lcmp, i_dup, i_dup2, i_pop, i_null, i_alen, i_iald, i_bald, i_lald, i_aald, i_iast, i_bast, i_last, i_aast, i_goto, i_icmp_eq, i_icmp_ne, i_icmp_lt, i_icmp_ge, i_icmp_gt, i_icmp_le, i_if_eq, i_if_ne, i_if_lt, i_if_ge, i_if_gt, i_if_le, i_ifnonnull, i_getf, i_putf, i_iret, i_zret, i_aret, i_vret, i_new, i_newa, i_anew, i_oinit, i_callv, i_calls, i_calli, i_max, i_min, i_abs, i_copy, i_throw, i_ldcs, pwt, List.getElem?_cons_zero, List.getElem?_cons_succ, List.set_cons_zero, List.set_cons_succ, List.getD_cons_zero, List.getD_cons_succ, List.length_cons, List.length_nil, List.length_set, List.drop_succ_cons, List.drop_zero, List.take_succ_cons, List.take_zero, List.reverse_cons, List.reverse_nil, List.nil_append, List.cons_append, List.append_nil, List.map_cons, List.map_nil, List.sum_cons, List.sum_nil, Value.category, ne_eq, Nat.reduceEqDiff, reduceIte, ite_self, false_implies, true_implies, true_and, and_true, and_self, Nat.zero_le, Nat.le_refl, Nat.reduceLeDiff, Nat.reduceAdd, Nat.reduceLT, Nat.add_zero, Nat.zero_add, pu_eq, not_false_eq_true, not_true_eq_false, forall_const, if_true, if_false, implies_true, pRetK, H1.f0, X1.f0, X1.f8]
      have bad : (12 ≤ f (2 * i) &&& 255 ∨ 6 ≤ f (2 * i + 1) &&& 255) → Q (.inl (some (.int (-1)))) h1 n := by
        intro q
        have ho : ¬ hrOK f L = true := by
          have hb' : hrB f (L / 2) = false := decide_eq_false (fun z => q.elim (z i hi).1 (z i hi).2)
          unfold hrOK
          rw [hb']
          simp
        have := hQ h1 g1 X1 H1 F1 (fun q => absurd q ho)
        rw [if_neg ho] at this
        exact this
      refine ⟨fun q => bad (Or.inl q), fun q => ⟨fun q2 => ?_, fun q2 => bad (Or.inr (Int32.not_lt.mp q2))⟩⟩
      obtain ⟨ff, HA⟩ := X1.aa
      refine c_X8_menStruck HA hm hN ?_
      simp only [i_const, i_load, i_aload, i_store, i_astore, i_inc, i_iadd, i_isub, i_imul, i_idiv, i_irem, i_iand, i_ior, i_ixor, i_ishl, i_ishr, i_iushr, i_ineg, i_i2l, i_i2b, i_i2c, i_lcmp, i_dup, i_dup2, i_pop, i_null, i_alen, i_iald, i_bald, i_lald, i_aald, i_iast, i_bast, i_last, i_aast, i_goto, i_icmp_eq, i_icmp_ne, i_icmp_lt, i_icmp_ge, i_icmp_gt, i_icmp_le, i_if_eq, i_if_ne, i_if_lt, i_if_ge, i_if_gt, i_if_le, i_ifnonnull, i_getf, i_putf, i_iret, i_zret, i_aret, i_vret, i_new, i_newa, i_anew, i_oinit, i_callv, i_calls, i_calli, i_max, i_min, i_abs, i_copy, i_throw, i_ldcs, pwt, List.getElem?_cons_zero, List.getElem?_cons_succ, List.set_cons_zero, List.set_cons_succ, List.getD_cons_zero, List.getD_cons_succ, List.length_cons, List.length_nil, List.length_set, List.drop_succ_cons, List.drop_zero, List.take_succ_cons, List.take_zero, List.reverse_cons, List.reverse_nil, List.nil_append, List.cons_append, List.append_nil, List.map_cons, List.map_nil, List.sum_cons, List.sum_nil, Value.category, ne_eq, Nat.reduceEqDiff, reduceIte, ite_self, false_implies, true_implies, true_and, and_true, and_self, Nat.zero_le, Nat.le_refl, Nat.reduceLeDiff, Nat.reduceAdd, Nat.reduceLT, Nat.add_zero, Nat.zero_add, pu_eq, not_false_eq_true, not_true_eq_false, forall_const, if_true, if_false, implies_true, pRetK, H1.f0, H1.f1, X1.f0, X1.f5, f2, f3, f4]
      have F2 : FS s h1 (pu h1 (s + 1) (SC s (ru g1 1 i (meS r m f i)) 1)) := FS.rf.pu (by decide)
      refine ih _ _ ⟨_, _, F2.ax D X1, H1.ru 1 i (meS r m f i), F1.tr F2, fun w hw => ?_, fun w hw => ?_, ⟨_, _, rfl⟩, rfl⟩
      · rw [ru_at]
        by_cases ew : w = i
        · rw [if_pos ⟨rfl, ew⟩, ew]
        · rw [if_neg (fun z => ew z.2)]; exact K1 w (by omega)
      · by_cases ew : w = i
        · rw [ew]; exact ⟨q, Int32.not_le.mpr q2⟩
        · exact V1 w (by omega)
    · rintro ls σ ⟨h1, g1, X1, H1, F1, K1, V1, ⟨x5, x6, rfl⟩, rfl⟩
      refine b_X9_hear_27 _ _ _ ?_
      simp only [i_const, i_load, i_aload, i_store, i_astore, i_inc, i_iadd, i_isub, i_imul, i_idiv, i_irem, i_iand, i_ior, i_ixor, i_ishl, i_ishr, i_iushr, i_ineg, i_i2l, i_i2b, i_i2c, i_lcmp, i_dup, i_dup2, i_pop, i_null, i_alen, i_iald, i_bald, i_lald, i_aald, i_iast, i_bast, i_last, i_aast, i_goto, i_icmp_eq, i_icmp_ne, i_icmp_lt, i_icmp_ge, i_icmp_gt, i_icmp_le, i_if_eq, i_if_ne, i_if_lt, i_if_ge, i_if_gt, i_if_le, i_ifnonnull, i_getf, i_putf, i_iret, i_zret, i_aret, i_vret, i_new, i_newa, i_anew, i_oinit, i_callv, i_calls, i_calli, i_max, i_min, i_abs, i_copy, i_throw, i_ldcs, pwt, List.getElem?_cons_zero, List.getElem?_cons_succ, List.set_cons_zero, List.set_cons_succ, List.getD_cons_zero, List.getD_cons_succ, List.length_cons, List.length_nil, List.length_set, List.drop_succ_cons, List.drop_zero, List.take_succ_cons, List.take_zero, List.reverse_cons, List.reverse_nil, List.nil_append, List.cons_append, List.append_nil, List.map_cons, List.map_nil, List.sum_cons, List.sum_nil, Value.category, ne_eq, Nat.reduceEqDiff, reduceIte, ite_self, false_implies, true_implies, true_and, and_true, and_self, Nat.zero_le, Nat.le_refl, Nat.reduceLeDiff, Nat.reduceAdd, Nat.reduceLT, Nat.add_zero, Nat.zero_add, pu_eq, not_false_eq_true, not_true_eq_false, forall_const, if_true, if_false, implies_true, nI_le_self]
      have ho : hrOK f L = true := by unfold hrOK hrB; rw [decide_eq_true hc, decide_eq_true hc2, decide_eq_true V1]; rfl
      have := hQ h1 g1 X1 H1 F1 (fun _ => K1)
      rw [if_pos ho] at this
      exact this
  · have hc2 : ¬ L / 2 ≤ 10 := fun q => c2 (nI_le (b := 10) q (by decide))
    have ho : ¬ hrOK f L = true := by unfold hrOK; rw [decide_eq_false hc2]; simp
    have := hQ h g X H FS.rf (fun q => absurd q ho)
    rw [if_neg ho] at this
    exact this
end ENEMY

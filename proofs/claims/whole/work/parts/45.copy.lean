/-! copies from another army; constructors -/
section COPY
variable {E : PE} {M : PM} {d : Nat} {Q : PQ} {h : PH} {n : Nat} {a b : Nat} {r rb : AR} {lw lb : Option Nat} {pc : Nat}
theorem pu_far {h : PH} {a b : Nat} (hd : b + 20 ≤ a ∨ a + 20 ≤ b) (i j : Nat) (c : PC) (hi : i < 20) (hj : j < 20) : pu h (a + i) c (b + j) = h (b + j) := pu_ne (by omega)
theorem cpy_in {f g : Nat → Int32} {m j : Nat} (hj : j < m) : va_cpy f g 0 0 m j = f j := by
  unfold va_cpy
  rw [if_pos ⟨Nat.zero_le _, by omega⟩]
  congr 1
  omega
theorem i32_00 : ((0 : Int32) < 0) = False := eq_false (by decide)
theorem i32_0c : (0 : Int32).toNatClampNeg = 0 := rfl
/-- the rows ks of r' are as those of rb on the first m; the size too; all other rows as in r -/
def Cp (r r' rb : AR) (k0 m : Nat) (ks : List Nat) : Prop := r' k0 0 = rb k0 0 ∧ (∀ k ∈ ks, ∀ j, j < m → r' k j = rb k j) ∧ (∀ k, k ≠ k0 → k ∉ ks → r' k = r k) ∧ ∀ j, j ≠ 0 → r' k0 j = r k0 j
theorem c_X2_copyFrom {m : Nat} (H : AA h a r lw) (G : AA h b rb lb) (hd : b + 20 ≤ a ∨ a + 20 ≤ b) (hm : rb 1 0 = nI m) (hN : m ≤ 8) (hQ : ∀ h' r', AA h' a r' lw → FR a h h' → Cp r r' rb 1 m [2, 3, 4] → Q (.inl none) h' n) : pCall E M_X2_copyFrom d [.ref (a + 1), .ref (b + 1)] h n Q := by
  refine pCall_of rfl rfl (Nat.le_of_ble_eq_true rfl) (by simp [Value.category]) ?_
  refine b_X2_copyFrom_0 _ _ _ ?_
  simp only [pEntry, PM.nL, M_X2_copyFrom, List.map_cons, List.map_nil, List.length_cons, List.length_nil, Nat.reduceAdd, Nat.reduceSub, Nat.sub_self, List.replicate_succ, List.replicate_zero, List.cons_append, List.nil_append]
  have e1 : ¬ rb 1 0 < 0 := by rw [hm]; exact nI_pos (by omega)
  have e2 : (rb 1 0).toNatClampNeg = m := by rw [hm]; exact nI_clamp (by omega)
  simp only [i_const, i_load, i_aload, i_store, i_astore, i_inc, i_iadd, i_isub, i_imul, i_idiv, i_irem, i_iand, i_ior, i_ixor, i_ishl, i_ishr, i_iushr, i_ineg, i_i2l, i_i2b, i_i2c, i_lcmp, i_dup, i_dup2, i_pop, i_null, i_alen, i_iald, i_bald, i_lald, i_aald, i_iast, i_bast, i_last, i_aast, i_goto, i_icmp_eq, i_icmp_ne, i_icmp_lt, i_icmp_ge, i_icmp_gt, i_icmp_le, i_if_eq, i_if_ne, i_if_lt, i_if_ge, i_if_gt, i_if_le, i_ifnonnull, i_getf, i_putf, i_iret, i_zret, i_aret, i_vret, i_new, i_newa, i_anew, i_oinit, i_callv, i_calls, i_calli, i_max, i_min, i_abs, i_copy, i_throw, i_ldcs, pwt, List.getElem?_cons_zero, List.getElem?_cons_succ, List.set_cons_zero, List.set_cons_succ, List.getD_cons_zero, List.getD_cons_succ, List.length_cons, List.length_nil, List.length_set, List.drop_succ_cons, List.drop_zero, List.take_succ_cons, List.take_zero, List.reverse_cons, List.reverse_nil, List.nil_append, List.cons_append, List.append_nil, List.map_cons, List.map_nil, List.sum_cons, List.sum_nil, Value.category, ne_eq, Nat.reduceEqDiff, reduceIte, ite_self, false_implies, true_implies, true_and, and_true, and_self, Nat.zero_le, Nat.le_refl, Nat.reduceLeDiff, Nat.reduceAdd, Nat.reduceLT, Nat.add_zero, Nat.zero_add, pu_eq, not_false_eq_true, not_true_eq_false, forall_const, if_true, if_false, implies_true, H.f1, H.f2, H.f3, H.f4, G.f1, G.f2, G.f3, G.f4, pu_add, pu_far hd, e1, e2, i32_00, i32_0c, hN]
  refine ⟨rfl, rfl, ?_⟩
  refine hQ _ _ ((((H.ru 1 0 _).rs 2 _).rs 3 _).rs 4 _) ((((FR.rf.pu (by decide)).pu (by decide)).pu (by decide)).pu (by decide)) ?_
  refine ⟨rfl, ?_, ?_, ?_⟩
  · intro k hk j hj
    simp only [List.mem_cons, List.not_mem_nil, or_false] at hk
    rcases hk with rfl | rfl | rfl <;> exact cpy_in hj
  · intro k h1 h2
    simp only [List.mem_cons, List.not_mem_nil, or_false, not_or] at h2
    rw [rs_ne h2.2.2, rs_ne h2.2.1, rs_ne h2.1, ru_ne h1]
  · intro j hj
    exact if_neg hj
theorem c_X7_copyFrom {m : Nat} (H : AA h a r lw) (G : AA h b rb lb) (hd : b + 20 ≤ a ∨ a + 20 ≤ b) (hm : rb 5 0 = nI m) (hN : m ≤ 10) (hQ : ∀ h' r', AA h' a r' lw → FR a h h' → (r' 5 0 = rb 5 0 ∧ r' 5 1 = rb 5 1 ∧ (∀ j, j < m → r' 6 j = rb 6 j ∧ r' 7 j = rb 7 j) ∧ ∀ k, k ≠ 5 → k ≠ 6 → k ≠ 7 → r' k = r k) → Q (.inl none) h' n) : pCall E M_X7_copyFrom d [.ref (a + 5), .ref (b + 5)] h n Q := by
  refine pCall_of rfl rfl (Nat.le_of_ble_eq_true rfl) (by simp [Value.category]) ?_
  refine b_X7_copyFrom_0 _ _ _ ?_
  simp only [pEntry, PM.nL, M_X7_copyFrom, List.map_cons, List.map_nil, List.length_cons, List.length_nil, Nat.reduceAdd, Nat.reduceSub, Nat.sub_self, List.replicate_succ, List.replicate_zero, List.cons_append, List.nil_append]
  have e1 : ¬ rb 5 0 < 0 := by rw [hm]; exact nI_pos (by omega)
  have e2 : (rb 5 0).toNatClampNeg = m := by rw [hm]; exact nI_clamp (by omega)
  simp only [i_const, i_load, i_aload, i_store, i_astore, i_inc, i_iadd, i_isub, i_imul, i_idiv, i_irem, i_iand, i_ior, i_ixor, i_ishl, i_ishr, i_iushr, i_ineg, i_i2l, i_i2b, i_i2c, i_lcmp, i_dup, i_dup2, i_pop, i_null, i_alen, i_iald, i_bald, i_lald, i_aald, i_iast, i_bast, i_last, i_aast, i_goto, i_icmp_eq, i_icmp_ne, i_icmp_lt, i_icmp_ge, i_icmp_gt, i_icmp_le, i_if_eq, i_if_ne, i_if_lt, i_if_ge, i_if_gt, i_if_le, i_ifnonnull, i_getf, i_putf, i_iret, i_zret, i_aret, i_vret, i_new, i_newa, i_anew, i_oinit, i_callv, i_calls, i_calli, i_max, i_min, i_abs, i_copy, i_throw, i_ldcs, pwt, List.getElem?_cons_zero, List.getElem?_cons_succ, List.set_cons_zero, List.set_cons_succ, List.getD_cons_zero, List.getD_cons_succ, List.length_cons, List.length_nil, List.length_set, List.drop_succ_cons, List.drop_zero, List.take_succ_cons, List.take_zero, List.reverse_cons, List.reverse_nil, List.nil_append, List.cons_append, List.append_nil, List.map_cons, List.map_nil, List.sum_cons, List.sum_nil, Value.category, ne_eq, Nat.reduceEqDiff, reduceIte, ite_self, false_implies, true_implies, true_and, and_true, and_self, Nat.zero_le, Nat.le_refl, Nat.reduceLeDiff, Nat.reduceAdd, Nat.reduceLT, Nat.add_zero, Nat.zero_add, pu_eq, not_false_eq_true, not_true_eq_false, forall_const, if_true, if_false, implies_true, H.f5, H.f6, H.f7, G.f5, G.f6, G.f7, pu_add, pu_far hd, e1, e2, i32_00, i32_0c, hN]
  refine ⟨rfl, rfl, rfl, rfl, ?_⟩
  refine hQ _ _ ((((H.ru 5 0 _).ru 5 1 _).rs 6 _).rs 7 _) ((((FR.rf.pu (by decide)).pu (by decide)).pu (by decide)).pu (by decide)) ?_
  refine ⟨rfl, rfl, fun j hj => ⟨cpy_in hj, cpy_in hj⟩, fun k h1 h2 h3 => ?_⟩
  rw [rs_ne h3, rs_ne h2, ru_ne h1, ru_ne h1]
theorem c_X8_copyFrom {m : Nat} (H : AA h a r lw) (G : AA h b rb lb) (hd : b + 20 ≤ a ∨ a + 20 ≤ b) (hm : rb 8 0 = nI m) (hN : m ≤ 24) (hQ : ∀ h' r', AA h' a r' lw → FR a h h' → Cp r r' rb 8 m [9, 10, 11, 12, 13, 14, 15, 16] → Q (.inl none) h' n) : pCall E M_X8_copyFrom d [.ref (a + 8), .ref (b + 8)] h n Q := by
  refine pCall_of rfl rfl (Nat.le_of_ble_eq_true rfl) (by simp [Value.category]) ?_
  refine b_X8_copyFrom_0 _ _ _ ?_
  simp only [pEntry, PM.nL, M_X8_copyFrom, List.map_cons, List.map_nil, List.length_cons, List.length_nil, Nat.reduceAdd, Nat.reduceSub, Nat.sub_self, List.replicate_succ, List.replicate_zero, List.cons_append, List.nil_append]
  have e1 : ¬ rb 8 0 < 0 := by rw [hm]; exact nI_pos (by omega)
  have e2 : (rb 8 0).toNatClampNeg = m := by rw [hm]; exact nI_clamp (by omega)
  simp only [i_const, i_load, i_aload, i_store, i_astore, i_inc, i_iadd, i_isub, i_imul, i_idiv, i_irem, i_iand, i_ior, i_ixor, i_ishl, i_ishr, i_iushr, i_ineg, i_i2l, i_i2b, i_i2c, i_lcmp, i_dup, i_dup2, i_pop, i_null, i_alen, i_iald, i_bald, i_lald, i_aald, i_iast, i_bast, i_last, i_aast, i_goto, i_icmp_eq, i_icmp_ne, i_icmp_lt, i_icmp_ge, i_icmp_gt, i_icmp_le, i_if_eq, i_if_ne, i_if_lt, i_if_ge, i_if_gt, i_if_le, i_ifnonnull, i_getf, i_putf, i_iret, i_zret, i_aret, i_vret, i_new, i_newa, i_anew, i_oinit, i_callv, i_calls, i_calli, i_max, i_min, i_abs, i_copy, i_throw, i_ldcs, pwt, List.getElem?_cons_zero, List.getElem?_cons_succ, List.set_cons_zero, List.set_cons_succ, List.getD_cons_zero, List.getD_cons_succ, List.length_cons, List.length_nil, List.length_set, List.drop_succ_cons, List.drop_zero, List.take_succ_cons, List.take_zero, List.reverse_cons, List.reverse_nil, List.nil_append, List.cons_append, List.append_nil, List.map_cons, List.map_nil, List.sum_cons, List.sum_nil, Value.category, ne_eq, Nat.reduceEqDiff, reduceIte, ite_self, false_implies, true_implies, true_and, and_true, and_self, Nat.zero_le, Nat.le_refl, Nat.reduceLeDiff, Nat.reduceAdd, Nat.reduceLT, Nat.add_zero, Nat.zero_add, pu_eq, not_false_eq_true, not_true_eq_false, forall_const, if_true, if_false, implies_true, H.f8, H.f9, H.f10, H.f11, H.f12, H.f13, H.f14, H.f15, H.f16, G.f8, G.f9, G.f10, G.f11, G.f12, G.f13, G.f14, G.f15, G.f16, pu_add, pu_far hd, e1, e2, i32_00, i32_0c, hN]
  refine ⟨rfl, rfl, ?_⟩
  refine hQ _ _ (((((((((H.ru 8 0 _).rs 9 _).rs 10 _).rs 11 _).rs 12 _).rs 13 _).rs 14 _).rs 15 _).rs 16 _) (((((((((FR.rf.pu (by decide)).pu (by decide)).pu (by decide)).pu (by decide)).pu (by decide)).pu (by decide)).pu (by decide)).pu (by decide)).pu (by decide)) ?_
  refine ⟨rfl, ?_, ?_, ?_⟩
  · intro k hk j hj
    simp only [List.mem_cons, List.not_mem_nil, or_false] at hk
    rcases hk with rfl | rfl | rfl | rfl | rfl | rfl | rfl | rfl <;> exact cpy_in hj
  · intro k h1 h2
    simp only [List.mem_cons, List.not_mem_nil, or_false, not_or] at h2
    obtain ⟨z1, z2, z3, z4, z5, z6, z7, z8⟩ := h2
    rw [rs_ne z8, rs_ne z7, rs_ne z6, rs_ne z5, rs_ne z4, rs_ne z3, rs_ne z2, rs_ne z1, ru_ne h1]
  · intro j hj
    exact if_neg hj
theorem c_X5_copyFrom {m : Nat} (H : AA h a r lw) (G : AA h b rb lb) (hd : b + 20 ≤ a ∨ a + 20 ≤ b) (hm : rb 17 0 = nI m) (hN : m ≤ 60) (hQ : ∀ h' r', AA h' a r' lw → FR a h h' → (r' 17 0 = rb 17 0 ∧ r' 17 1 = rb 17 1 ∧ (∀ j, j < m * 5 → r' 18 j = rb 18 j) ∧ ∀ k, k ≠ 17 → k ≠ 18 → r' k = r k) → Q (.inl none) h' n) : pCall E M_X5_copyFrom d [.ref (a + 17), .ref (b + 17)] h n Q := by
  refine pCall_of rfl rfl (Nat.le_of_ble_eq_true rfl) (by simp [Value.category]) ?_
  refine b_X5_copyFrom_0 _ _ _ ?_
  simp only [pEntry, PM.nL, M_X5_copyFrom, List.map_cons, List.map_nil, List.length_cons, List.length_nil, Nat.reduceAdd, Nat.reduceSub, Nat.sub_self, List.replicate_succ, List.replicate_zero, List.cons_append, List.nil_append]
  have e0 : rb 17 0 * 5 = nI (m * 5) := by rw [hm]; exact mul5
  have e1 : ¬ nI (m * 5) < 0 := nI_pos (by omega)
  have e2 : (nI (m * 5)).toNatClampNeg = m * 5 := nI_clamp (by omega)
  have e3 : m * 5 ≤ 300 := by omega
  simp only [i_const, i_load, i_aload, i_store, i_astore, i_inc, i_iadd, i_isub, i_imul, i_idiv, i_irem, i_iand, i_ior, i_ixor, i_ishl, i_ishr, i_iushr, i_ineg, i_i2l, i_i2b, i_i2c, i_lcmp, i_dup, i_dup2, i_pop, i_null, i_alen, i_iald, i_bald, i_lald, i_aald, i_iast, i_bast, i_last, i_aast, i_goto, i_icmp_eq, i_icmp_ne, i_icmp_lt, i_icmp_ge, i_icmp_gt, i_icmp_le, i_if_eq, i_if_ne, i_if_lt, i_if_ge, i_if_gt, i_if_le, i_ifnonnull, i_getf, i_putf, i_iret, i_zret, i_aret, i_vret, i_new, i_newa, i_anew, i_oinit, i_callv, i_calls, i_calli, i_max, i_min, i_abs, i_copy, i_throw, i_ldcs, pwt, List.getElem?_cons_zero, List.getElem?_cons_succ, List.set_cons_zero, List.set_cons_succ, List.getD_cons_zero, List.getD_cons_succ, List.length_cons, List.length_nil, List.length_set, List.drop_succ_cons, List.drop_zero, List.take_succ_cons, List.take_zero, List.reverse_cons, List.reverse_nil, List.nil_append, List.cons_append, List.append_nil, List.map_cons, List.map_nil, List.sum_cons, List.sum_nil, Value.category, ne_eq, Nat.reduceEqDiff, reduceIte, ite_self, false_implies, true_implies, true_and, and_true, and_self, Nat.zero_le, Nat.le_refl, Nat.reduceLeDiff, Nat.reduceAdd, Nat.reduceLT, Nat.add_zero, Nat.zero_add, pu_eq, not_false_eq_true, not_true_eq_false, forall_const, if_true, if_false, implies_true, H.f17, H.f18, G.f17, G.f18, pu_add, pu_far hd, e0, e1, e2, e3, i32_00, i32_0c]
  refine ⟨rfl, rfl, rfl, rfl, ?_⟩
  refine hQ _ _ (((H.ru 17 0 _).ru 17 1 _).rs 18 _) (((FR.rf.pu (by decide)).pu (by decide)).pu (by decide)) ?_
  refine ⟨rfl, rfl, fun j hj => cpy_in hj, fun k h1 h2 => ?_⟩
  rw [rs_ne h2, ru_ne h1, ru_ne h1]
end COPY

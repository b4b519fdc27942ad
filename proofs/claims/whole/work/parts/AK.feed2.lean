/-! feed once more: what lies behind the new bytes stays -/
section F2A
variable {E : PE} {M : PM} {d : Nat} {Q : PQ} {h : PH} {n : Nat} {a b s t x y L ln cnt : Nat} {r rb g : AR} {lw lb : Option Nat} {C Cb : Option LawL} {pc : Nat} {f : Nat → Int32} {v : Int32}
theorem c_X10_put2 {e : Nat} {z k : Int32} (T : TR h t L b z v e f) (hL : L + 4 ≤ 400) (hQ : ∀ h' f', TR h' t (L + 4) b z v e f' → (∀ i, i < L ∨ L + 4 ≤ i → f' i = f i) → (∀ i, i < 4 → f' (L + i) = b4 k i) → (∀ q, q ≠ t → q ≠ t + 1 → h' q = h q) → Q (.inl none) h' n) : pCall E M_X10_put d [.ref t, .int k] h n Q := by
  refine pCall_of rfl rfl (Nat.le_of_ble_eq_true rfl) (by simp [Value.category]) ?_
  refine b_X10_put_0 _ _ _ ?_
  simp only [pEntry, PM.nL, M_X10_put, List.map_cons, List.map_nil, List.length_cons, List.length_nil, Nat.reduceAdd, Nat.reduceSub, Nat.sub_self, List.replicate_succ, List.replicate_zero, List.cons_append, List.nil_append]
  simp only [i_const, i_load, i_aload, i_store, i_astore, i_inc, i_iadd, i_isub, i_imul, i_idiv, i_irem, i_iand, i_ior, i_ixor, i_ishl, i_ishr, i_iushr, i_ineg, i_i2l, i_i2b, i_i2c, i_lcmp, i_dup, i_dup2, i_pop, i_null, i_alen, i_iald, i_bald, i_lald, i_aald, i_iast, i_bast, i_last, i_aast, i_goto, i_icmp_eq, i_icmp_ne, i_icmp_lt, i_icmp_ge, i_icmp_gt, i_icmp_le, i_if_eq, i_if_ne, i_if_lt, i_if_ge, i_if_gt, i_if_le, i_ifnonnull, i_getf, i_putf, i_iret, i_zret, i_aret, i_vret, i_new, i_newa, i_anew, i_oinit, i_callv, i_calls, i_calli, i_max, i_min, i_abs, i_copy, i_throw, i_ldcs, pwt, List.getElem?_cons_zero, List.getElem?_cons_succ, List.set_cons_zero, List.set_cons_succ, List.getD_cons_zero, List.getD_cons_succ, List.length_cons, List.length_nil, List.length_set, List.drop_succ_cons, List.drop_zero, List.take_succ_cons, List.take_zero, List.reverse_cons, List.reverse_nil, List.nil_append, List.cons_append, List.append_nil, List.map_cons, List.map_nil, List.sum_cons, List.sum_nil, Value.category, ne_eq, Nat.reduceEqDiff, reduceIte, ite_self, false_implies, true_implies, true_and, and_true, and_self, Nat.zero_le, Nat.le_refl, Nat.reduceLeDiff, Nat.reduceAdd, Nat.reduceLT, Nat.add_zero, Nat.zero_add, pu_eq, not_false_eq_true, not_true_eq_false, forall_const, if_true, if_false, implies_true]
  refine pFor 4 (fun j ls σ => ∃ h1 f1, TR h1 t (L + j) b z v e f1 ∧ (∀ i, i < L ∨ L + 4 ≤ i → f1 i = f i) ∧ (∀ i, i < j → f1 (L + i) = b4 k i) ∧ (∀ q, q ≠ t → q ≠ t + 1 → h1 q = h q) ∧ ls = [some (.ref t), some (.int k), some (.int (nI 24 - nI (8 * j)))] ∧ σ = (h1, n, 0, 0)) ?_ ?_ 0 (Nat.zero_le _) _ _ ⟨h, f, T, fun _ _ => rfl, fun i hi => absurd hi (Nat.not_lt_zero i), fun _ _ _ => rfl, rfl, rfl⟩
  · rintro j hj ls σ ⟨h1, f1, T1, K1, K2, F1, rfl, rfl⟩ ih
    have e0 : nI 24 - nI (8 * j) = nI (24 - 8 * j) := pk_sub (by omega)
    have e1 : ¬ nI (24 - 8 * j) < 0 := nI_pos (by omega)
    have e2 : ¬ (400 : Int32) ≤ nI (L + j) := nI_ge (b := 400) (by omega) (by decide)
    have e3 : nI (24 - 8 * j) + (-8) = nI 24 - nI (8 * (j + 1)) := by
      match j, hj with
      | 0, _ => decide
      | 1, _ => decide
      | 2, _ => decide
      | 3, _ => decide
      | j + 4, hj => omega
    refine b_X10_put_3 _ _ _ ?_
    simp only [i_const, i_load, i_aload, i_store, i_astore, i_inc, i_iadd, i_isub, i_imul, i_idiv, i_irem, i_iand, i_ior, i_ixor, i_ishl, i_ishr, i_iushr, i_ineg, i_i2l, i_i2b, i_i2c, i_lcmp, i_dup, i_dup2, i_pop, i_null, i_alen, i_iald, i_bald, i_lald, i_aald, i_iast, i_bast, i_last, i_aast, i_goto, i_icmp_eq, i_icmp_ne, i_icmp_lt, i_icmp_ge, i_icmp_gt, i_icmp_le, i_if_eq, i_if_ne, i_if_lt, i_if_ge, i_if_gt, i_if_le, i_ifnonnull, i_getf, i_putf, i_iret, i_zret, i_aret, i_vret, i_new, i_newa, i_anew, i_oinit, i_callv, i_calls, i_calli, i_max, i_min, i_abs, i_copy, i_throw, i_ldcs, pwt, List.getElem?_cons_zero, List.getElem?_cons_succ, List.set_cons_zero, List.set_cons_succ, List.getD_cons_zero, List.getD_cons_succ, List.length_cons, List.length_nil, List.length_set, List.drop_succ_cons, List.drop_zero, List.take_succ_cons, List.take_zero, List.reverse_cons, List.reverse_nil, List.nil_append, List.cons_append, List.append_nil, List.map_cons, List.map_nil, List.sum_cons, List.sum_nil, Value.category, ne_eq, Nat.reduceEqDiff, reduceIte, ite_self, false_implies, true_implies, true_and, and_true, and_self, Nat.zero_le, Nat.le_refl, Nat.reduceLeDiff, Nat.reduceAdd, Nat.reduceLT, Nat.add_zero, Nat.zero_add, pu_eq, not_false_eq_true, not_true_eq_false, forall_const, if_true, if_false, implies_true, e0, T1.1, T1.2, e1, e2, vp_in_nI (show L + j < 400 by omega) (by decide), nI_clamp (show L + j < 2 ^ 31 by omega), pk_vb, pu_add0, nI_1, e3]
    refine ⟨rfl, rfl, ?_⟩
    refine ih _ _ ⟨_, upd f1 (L + j) (b4 k j), ⟨pu_eq _ _ _, ?_⟩, fun i hi => ?_, fun i hi => ?_, fun q h1 h2 => ?_, rfl, rfl⟩
    · rw [pu_ne (by omega)]; exact pu_eq _ _ _
    · unfold upd; rw [if_neg (by omega)]; exact K1 i hi
    · unfold upd
      by_cases ei : i = j
      · rw [if_pos (by omega), ei]
      · rw [if_neg (by omega)]; exact K2 i (by omega)
    · rw [pu_ne h1, pu_ne h2]; exact F1 q h1 h2
  · rintro ls σ ⟨h1, f1, T1, K1, K2, F1, rfl, rfl⟩
    refine b_X10_put_3 _ _ _ ?_
    simp only [i_const, i_load, i_aload, i_store, i_astore, i_inc, i_iadd, i_isub, i_imul, i_idiv, i_irem, i_iand, i_ior, i_ixor, i_ishl, i_ishr, i_iushr, i_ineg, i_i2l, i_i2b, i_i2c, i_lcmp, i_dup, i_dup2, i_pop, i_null, i_alen, i_iald, i_bald, i_lald, i_aald, i_iast, i_bast, i_last, i_aast, i_goto, i_icmp_eq, i_icmp_ne, i_icmp_lt, i_icmp_ge, i_icmp_gt, i_icmp_le, i_if_eq, i_if_ne, i_if_lt, i_if_ge, i_if_gt, i_if_le, i_ifnonnull, i_getf, i_putf, i_iret, i_zret, i_aret, i_vret, i_new, i_newa, i_anew, i_oinit, i_callv, i_calls, i_calli, i_max, i_min, i_abs, i_copy, i_throw, i_ldcs, pwt, List.getElem?_cons_zero, List.getElem?_cons_succ, List.set_cons_zero, List.set_cons_succ, List.getD_cons_zero, List.getD_cons_succ, List.length_cons, List.length_nil, List.length_set, List.drop_succ_cons, List.drop_zero, List.take_succ_cons, List.take_zero, List.reverse_cons, List.reverse_nil, List.nil_append, List.cons_append, List.append_nil, List.map_cons, List.map_nil, List.sum_cons, List.sum_nil, Value.category, ne_eq, Nat.reduceEqDiff, reduceIte, ite_self, false_implies, true_implies, true_and, and_true, and_self, Nat.zero_le, Nat.le_refl, Nat.reduceLeDiff, Nat.reduceAdd, Nat.reduceLT, Nat.add_zero, Nat.zero_add, pu_eq, not_false_eq_true, not_true_eq_false, forall_const, if_true, if_false, implies_true, show (nI 24 - nI (8 * 4) < 0) = True from eq_true (by decide)]
    exact hQ h1 f1 T1 K1 K2 F1
end F2A
section F2B
variable {E : PE} {M : PM} {d : Nat} {Q : PQ} {h h' : PH} {n n' : Nat} {a b s t x y L ln cnt B sz nx : Nat} {r rb g : AR} {lw lb : Option Nat} {C Cb : Option LawL} {pc : Nat} {f : Nat → Int32} {im wb : Int32} {K : KA}
theorem c_X11_feed2 {k0 k1 k2 k3 k4 : Int32} (X : CX h x B n L f K sz nx im wb) (hQ0 : 400 < L + 20 → Q (.inl (some (.int (-1)))) h n)
    (hQ1 : L + 20 ≤ 400 → ∀ h' f', CX h' x B n (L + 20) f' K sz nx im wb → FC x B h h' → (∀ i, i < L ∨ L + 20 ≤ i → f' i = f i) → (∀ q i, q < 5 → i < 4 → f' (L + 4 * q + i) = b4 (a5 k0 k1 k2 k3 k4 q) i) → Q (.inl (some (.int (nI (L + 20))))) h' n) : pCall E M_X11_feed (d + 2) [.ref x, .int k0, .int k1, .int k2, .int k3, .int k4] h n Q := by
  refine pCall_of rfl rfl (Nat.le_of_ble_eq_true rfl) (by simp [Value.category]) ?_
  refine b_X11_feed_0 _ _ _ ?_
  simp only [pEntry, PM.nL, M_X11_feed, List.map_cons, List.map_nil, List.length_cons, List.length_nil, Nat.reduceAdd, Nat.reduceSub, Nat.sub_self, List.replicate_succ, List.replicate_zero, List.cons_append, List.nil_append]
  obtain ⟨b, z, v, e, T⟩ := X.tp
  have e1 : nI L + 20 = nI (L + 20) := nI_add L 20
  have hL := X.l4
  by_cases c : L + 20 ≤ 400
  · have c1 : nI (L + 20) ≤ 400 := nI_le (b := 400) c (by decide)
    simp only [i_const, i_load, i_aload, i_store, i_astore, i_inc, i_iadd, i_isub, i_imul, i_idiv, i_irem, i_iand, i_ior, i_ixor, i_ishl, i_ishr, i_iushr, i_ineg, i_i2l, i_i2b, i_i2c, i_lcmp, i_dup, i_dup2, i_pop, i_null, i_alen, i_iald, i_bald, i_lald, i_aald, i_iast, i_bast, i_last, i_aast, i_goto, i_icmp_eq, i_icmp_ne, i_icmp_lt, i_icmp_ge, i_icmp_gt, i_icmp_le, i_if_eq, i_if_ne, i_if_lt, i_if_ge, i_if_gt, i_if_le, i_ifnonnull, i_getf, i_putf, i_iret, i_zret, i_aret, i_vret, i_new, i_newa, i_anew, i_oinit, i_callv, i_calls, i_calli, i_max, i_min, i_abs, i_copy, i_throw, i_ldcs, pwt, List.getElem?_cons_zero, List.getElem?_cons_succ, List.set_cons_zero, List.set_cons_succ, List.getD_cons_zero, List.getD_cons_succ, List.length_cons, List.length_nil, List.length_set, List.drop_succ_cons, List.drop_zero, List.take_succ_cons, List.take_zero, List.reverse_cons, List.reverse_nil, List.nil_append, List.cons_append, List.append_nil, List.map_cons, List.map_nil, List.sum_cons, List.sum_nil, Value.category, ne_eq, Nat.reduceEqDiff, reduceIte, ite_self, false_implies, true_implies, true_and, and_true, and_self, Nat.zero_le, Nat.le_refl, Nat.reduceLeDiff, Nat.reduceAdd, Nat.reduceLT, Nat.add_zero, Nat.zero_add, pu_eq, not_false_eq_true, not_true_eq_false, forall_const, if_true, if_false, implies_true, X.o, T.1, e1, c1]
    refine c_X10_put2 T (by omega) (fun h1 f1 T1 p1 q1 F1 => ?_)
    have o1 : h1 x = _ := (F1 x (by omega) (by omega)).trans X.o
    simp only [i_const, i_load, i_aload, i_store, i_astore, i_inc, i_iadd, i_isub, i_imul, i_idiv, i_irem, i_iand, i_ior, i_ixor, i_ishl, i_ishr, i_iushr, i_ineg, i_i2l, i_i2b, i_i2c, i_lcmp, i_dup, i_dup2, i_pop, i_null, i_alen, i_iald, i_bald, i_lald, i_aald, i_iast, i_bast, i_last, i_aast, i_goto, i_icmp_eq, i_icmp_ne, i_icmp_lt, i_icmp_ge, i_icmp_gt, i_icmp_le, i_if_eq, i_if_ne, i_if_lt, i_if_ge, i_if_gt, i_if_le, i_ifnonnull, i_getf, i_putf, i_iret, i_zret, i_aret, i_vret, i_new, i_newa, i_anew, i_oinit, i_callv, i_calls, i_calli, i_max, i_min, i_abs, i_copy, i_throw, i_ldcs, pwt, List.getElem?_cons_zero, List.getElem?_cons_succ, List.set_cons_zero, List.set_cons_succ, List.getD_cons_zero, List.getD_cons_succ, List.length_cons, List.length_nil, List.length_set, List.drop_succ_cons, List.drop_zero, List.take_succ_cons, List.take_zero, List.reverse_cons, List.reverse_nil, List.nil_append, List.cons_append, List.append_nil, List.map_cons, List.map_nil, List.sum_cons, List.sum_nil, Value.category, ne_eq, Nat.reduceEqDiff, reduceIte, ite_self, false_implies, true_implies, true_and, and_true, and_self, Nat.zero_le, Nat.le_refl, Nat.reduceLeDiff, Nat.reduceAdd, Nat.reduceLT, Nat.add_zero, Nat.zero_add, pu_eq, not_false_eq_true, not_true_eq_false, forall_const, if_true, if_false, implies_true, pRetK, o1, T1.1]
    refine c_X10_put2 T1 (by omega) (fun h2 f2 T2 p2 q2 F2 => ?_)
    have o2 : h2 x = _ := (F2 x (by omega) (by omega)).trans o1
    simp only [i_const, i_load, i_aload, i_store, i_astore, i_inc, i_iadd, i_isub, i_imul, i_idiv, i_irem, i_iand, i_ior, i_ixor, i_ishl, i_ishr, i_iushr, i_ineg, i_i2l, i_i2b, i_i2c, i_lcmp, i_dup, i_dup2, i_pop, i_null, i_alen, i_iald, i_bald, i_lald, i_aald, i_iast, i_bast, i_last, i_aast, i_goto, i_icmp_eq, i_icmp_ne, i_icmp_lt, i_icmp_ge, i_icmp_gt, i_icmp_le, i_if_eq, i_if_ne, i_if_lt, i_if_ge, i_if_gt, i_if_le, i_ifnonnull, i_getf, i_putf, i_iret, i_zret, i_aret, i_vret, i_new, i_newa, i_anew, i_oinit, i_callv, i_calls, i_calli, i_max, i_min, i_abs, i_copy, i_throw, i_ldcs, pwt, List.getElem?_cons_zero, List.getElem?_cons_succ, List.set_cons_zero, List.set_cons_succ, List.getD_cons_zero, List.getD_cons_succ, List.length_cons, List.length_nil, List.length_set, List.drop_succ_cons, List.drop_zero, List.take_succ_cons, List.take_zero, List.reverse_cons, List.reverse_nil, List.nil_append, List.cons_append, List.append_nil, List.map_cons, List.map_nil, List.sum_cons, List.sum_nil, Value.category, ne_eq, Nat.reduceEqDiff, reduceIte, ite_self, false_implies, true_implies, true_and, and_true, and_self, Nat.zero_le, Nat.le_refl, Nat.reduceLeDiff, Nat.reduceAdd, Nat.reduceLT, Nat.add_zero, Nat.zero_add, pu_eq, not_false_eq_true, not_true_eq_false, forall_const, if_true, if_false, implies_true, pRetK, o2, T2.1]
    refine c_X10_put2 T2 (by omega) (fun h3 f3 T3 p3 q3 F3 => ?_)
    have o3 : h3 x = _ := (F3 x (by omega) (by omega)).trans o2
    simp only [i_const, i_load, i_aload, i_store, i_astore, i_inc, i_iadd, i_isub, i_imul, i_idiv, i_irem, i_iand, i_ior, i_ixor, i_ishl, i_ishr, i_iushr, i_ineg, i_i2l, i_i2b, i_i2c, i_lcmp, i_dup, i_dup2, i_pop, i_null, i_alen, i_iald, i_bald, i_lald, i_aald, i_iast, i_bast, i_last, i_aast, i_goto, i_icmp_eq, i_icmp_ne, i_icmp_lt, i_icmp_ge, i_icmp_gt, i_icmp_le, i_if_eq, i_if_ne, i_if_lt, i_if_ge, i_if_gt, i_if_le, i_ifnonnull, i_getf, i_putf, i_iret, i_zret, i_aret, i_vret, i_new, i_newa, i_anew, i_oinit, i_callv, i_calls, i_calli, i_max, i_min, i_abs, i_copy, i_throw, i_ldcs, pwt, List.getElem?_cons_zero, List.getElem?_cons_succ, List.set_cons_zero, List.set_cons_succ, List.getD_cons_zero, List.getD_cons_succ, List.length_cons, List.length_nil, List.length_set, List.drop_succ_cons, List.drop_zero, List.take_succ_cons, List.take_zero, List.reverse_cons, List.reverse_nil, List.nil_append, List.cons_append, List.append_nil, List.map_cons, List.map_nil, List.sum_cons, List.sum_nil, Value.category, ne_eq, Nat.reduceEqDiff, reduceIte, ite_self, false_implies, true_implies, true_and, and_true, and_self, Nat.zero_le, Nat.le_refl, Nat.reduceLeDiff, Nat.reduceAdd, Nat.reduceLT, Nat.add_zero, Nat.zero_add, pu_eq, not_false_eq_true, not_true_eq_false, forall_const, if_true, if_false, implies_true, pRetK, o3, T3.1]
    refine c_X10_put2 T3 (by omega) (fun h4 f4 T4 p4 q4 F4 => ?_)
    have o4 : h4 x = _ := (F4 x (by omega) (by omega)).trans o3
    simp only [i_const, i_load, i_aload, i_store, i_astore, i_inc, i_iadd, i_isub, i_imul, i_idiv, i_irem, i_iand, i_ior, i_ixor, i_ishl, i_ishr, i_iushr, i_ineg, i_i2l, i_i2b, i_i2c, i_lcmp, i_dup, i_dup2, i_pop, i_null, i_alen, i_iald, i_bald, i_lald, i_aald, i_iast, i_bast, i_last, i_aast, i_goto, i_icmp_eq, i_icmp_ne, i_icmp_lt, i_icmp_ge, i_icmp_gt, i_icmp_le, i_if_eq, i_if_ne, i_if_lt, i_if_ge, i_if_gt, i_if_le, i_ifnonnull, i_getf, i_putf, i_iret, i_zret, i_aret, i_vret, i_new, i_newa, i_anew, i_oinit, i_callv, i_calls, i_calli, i_max, i_min, i_abs, i_copy, i_throw, i_ldcs, pwt, List.getElem?_cons_zero, List.getElem?_cons_succ, List.set_cons_zero, List.set_cons_succ, List.getD_cons_zero, List.getD_cons_succ, List.length_cons, List.length_nil, List.length_set, List.drop_succ_cons, List.drop_zero, List.take_succ_cons, List.take_zero, List.reverse_cons, List.reverse_nil, List.nil_append, List.cons_append, List.append_nil, List.map_cons, List.map_nil, List.sum_cons, List.sum_nil, Value.category, ne_eq, Nat.reduceEqDiff, reduceIte, ite_self, false_implies, true_implies, true_and, and_true, and_self, Nat.zero_le, Nat.le_refl, Nat.reduceLeDiff, Nat.reduceAdd, Nat.reduceLT, Nat.add_zero, Nat.zero_add, pu_eq, not_false_eq_true, not_true_eq_false, forall_const, if_true, if_false, implies_true, pRetK, o4, T4.1]
    refine c_X10_put2 T4 (by omega) (fun h5 f5 T5 p5 q5 F5 => ?_)
    have o5 : h5 x = _ := (F5 x (by omega) (by omega)).trans o4
    simp only [i_const, i_load, i_aload, i_store, i_astore, i_inc, i_iadd, i_isub, i_imul, i_idiv, i_irem, i_iand, i_ior, i_ixor, i_ishl, i_ishr, i_iushr, i_ineg, i_i2l, i_i2b, i_i2c, i_lcmp, i_dup, i_dup2, i_pop, i_null, i_alen, i_iald, i_bald, i_lald, i_aald, i_iast, i_bast, i_last, i_aast, i_goto, i_icmp_eq, i_icmp_ne, i_icmp_lt, i_icmp_ge, i_icmp_gt, i_icmp_le, i_if_eq, i_if_ne, i_if_lt, i_if_ge, i_if_gt, i_if_le, i_ifnonnull, i_getf, i_putf, i_iret, i_zret, i_aret, i_vret, i_new, i_newa, i_anew, i_oinit, i_callv, i_calls, i_calli, i_max, i_min, i_abs, i_copy, i_throw, i_ldcs, pwt, List.getElem?_cons_zero, List.getElem?_cons_succ, List.set_cons_zero, List.set_cons_succ, List.getD_cons_zero, List.getD_cons_succ, List.length_cons, List.length_nil, List.length_set, List.drop_succ_cons, List.drop_zero, List.take_succ_cons, List.take_zero, List.reverse_cons, List.reverse_nil, List.nil_append, List.cons_append, List.append_nil, List.map_cons, List.map_nil, List.sum_cons, List.sum_nil, Value.category, ne_eq, Nat.reduceEqDiff, reduceIte, ite_self, false_implies, true_implies, true_and, and_true, and_self, Nat.zero_le, Nat.le_refl, Nat.reduceLeDiff, Nat.reduceAdd, Nat.reduceLT, Nat.add_zero, Nat.zero_add, pu_eq, not_false_eq_true, not_true_eq_false, forall_const, if_true, if_false, implies_true, pRetK, o5, T5.1]
    obtain ⟨X1, G1⟩ := X.pt (fun q z1 z2 => (F5 q z1 (by omega)).trans ((F4 q z1 (by omega)).trans ((F3 q z1 (by omega)).trans ((F2 q z1 (by omega)).trans (F1 q z1 (by omega)))))) T5 (by omega)
    refine hQ1 c _ _ X1 G1 (fun i hi => ?_) (fun q i hq hi => ?_)
    · rw [p5 i (by omega), p4 i (by omega), p3 i (by omega), p2 i (by omega), p1 i (by omega)]
    · match q, hq with
      | 0, _ => rw [p5 _ (by omega), p4 _ (by omega), p3 _ (by omega), p2 _ (by omega)]; exact q1 i hi
      | 1, _ => rw [p5 _ (by omega), p4 _ (by omega), p3 _ (by omega)]; exact q2 i hi
      | 2, _ => rw [p5 _ (by omega), p4 _ (by omega)]; exact q3 i hi
      | 3, _ => rw [p5 _ (by omega)]; exact q4 i hi
      | 4, _ => exact q5 i hi
      | q + 5, hq => exact absurd hq (by omega)
  · have c1 : ¬ nI (L + 20) ≤ 400 := nI_ge (a := 400) (by omega) (by omega)
    simp only [i_const, i_load, i_aload, i_store, i_astore, i_inc, i_iadd, i_isub, i_imul, i_idiv, i_irem, i_iand, i_ior, i_ixor, i_ishl, i_ishr, i_iushr, i_ineg, i_i2l, i_i2b, i_i2c, i_lcmp, i_dup, i_dup2, i_pop, i_null, i_alen, i_iald, i_bald, i_lald, i_aald, i_iast, i_bast, i_last, i_aast, i_goto, i_icmp_eq, i_icmp_ne, i_icmp_lt, i_icmp_ge, i_icmp_gt, i_icmp_le, i_if_eq, i_if_ne, i_if_lt, i_if_ge, i_if_gt, i_if_le, i_ifnonnull, i_getf, i_putf, i_iret, i_zret, i_aret, i_vret, i_new, i_newa, i_anew, i_oinit, i_callv, i_calls, i_calli, i_max, i_min, i_abs, i_copy, i_throw, i_ldcs, pwt, List.getElem?_cons_zero, List.getElem?_cons_succ, List.set_cons_zero, List.set_cons_succ, List.getD_cons_zero, List.getD_cons_succ, List.length_cons, List.length_nil, List.length_set, List.drop_succ_cons, List.drop_zero, List.take_succ_cons, List.take_zero, List.reverse_cons, List.reverse_nil, List.nil_append, List.cons_append, List.append_nil, List.map_cons, List.map_nil, List.sum_cons, List.sum_nil, Value.category, ne_eq, Nat.reduceEqDiff, reduceIte, ite_self, false_implies, true_implies, true_and, and_true, and_self, Nat.zero_le, Nat.le_refl, Nat.reduceLeDiff, Nat.reduceAdd, Nat.reduceLT, Nat.add_zero, Nat.zero_add, pu_eq, not_false_eq_true, not_true_eq_false, forall_const, if_true, if_false, implies_true, X.o, T.1, e1, c1]
    exact hQ0 (by omega)
end F2B
section F2C
variable {E : PE} {M : PM} {d : Nat} {Q : PQ} {h h' : PH} {n : Nat} {m : Nat} {w : AR} {r : AR} {C : Option LawL} {pc : Nat} {ls : LawL} {L : Nat}
theorem c_X12_feed2 {k0 k1 k2 k3 k4 : Int32} (X : MX h m w) (hL : w 0 9 = nI L) (hL4 : L ≤ 400) (hQ0 : 400 < L + 20 → ∀ h', MX h' m (th w 0) → FM m h h' → Q (.inl (some (.int (-1)))) h' n)
    (hQ1 : L + 20 ≤ 400 → ∀ h' w', MX h' m w' → FM m h h' → (∀ k, k ≠ 0 → k ≠ 6 → k ≠ 7 → w' k = w k) → w' 0 = upd ((th w 0) 0) 9 (nI (L + 20)) → (∀ i, i < L ∨ L + 20 ≤ i → w' 6 i = w 6 i) → (∀ q i, q < 5 → i < 4 → w' 6 (L + 4 * q + i) = b4 (a5 k0 k1 k2 k3 k4 q) i) → Q (.inl (some (.int (nI (L + 20))))) h' n) : pCall E M_X12_feed d [.ref m, .int k0, .int k1, .int k2, .int k3, .int k4] h n Q := by
  refine pCall_of rfl rfl (Nat.le_of_ble_eq_true rfl) (by simp [Value.category]) ?_
  refine b_X12_feed_0 _ _ _ ?_
  simp only [pEntry, PM.nL, M_X12_feed, List.map_cons, List.map_nil, List.length_cons, List.length_nil, Nat.reduceAdd, Nat.reduceSub, Nat.sub_self, List.replicate_succ, List.replicate_zero, List.cons_append, List.nil_append]
  obtain ⟨X0, F0⟩ := X.th 0
  have e20 : nI L + 20 = nI (L + 20) := nI_add L 20
  by_cases c : L + 20 ≤ 400
  · have hR := hQ1 c
    have c' : nI (L + 20) ≤ 400 := nI_le (b := 400) c (by decide)
    have f7 := X.f7
    obtain ⟨X1, F1⟩ := X0.set (k := 7) (i := 0) (by decide) (by decide) k0
    obtain ⟨X2, F2⟩ := X1.set (k := 7) (i := 1) (by decide) (by decide) k1
    obtain ⟨X3, F3⟩ := X2.set (k := 7) (i := 2) (by decide) (by decide) k2
    obtain ⟨X4, F4⟩ := X3.set (k := 7) (i := 3) (by decide) (by decide) k3
    obtain ⟨X5, F5⟩ := X4.set (k := 7) (i := 4) (by decide) (by decide) k4
    have v0 : vp_in 0 5 ∧ (0 : Int32).toNatClampNeg = 0 := ⟨vp_in_nI (n := 0) (by decide) (by decide), nI_clamp (n := 0) (by decide)⟩
    have v1 : vp_in 1 5 ∧ (1 : Int32).toNatClampNeg = 1 := ⟨vp_in_nI (n := 1) (by decide) (by decide), nI_clamp (n := 1) (by decide)⟩
    have v2 : vp_in 2 5 ∧ (2 : Int32).toNatClampNeg = 2 := ⟨vp_in_nI (n := 2) (by decide) (by decide), nI_clamp (n := 2) (by decide)⟩
    have v3 : vp_in 3 5 ∧ (3 : Int32).toNatClampNeg = 3 := ⟨vp_in_nI (n := 3) (by decide) (by decide), nI_clamp (n := 3) (by decide)⟩
    have v4 : vp_in 4 5 ∧ (4 : Int32).toNatClampNeg = 4 := ⟨vp_in_nI (n := 4) (by decide) (by decide), nI_clamp (n := 4) (by decide)⟩
    simp only [i_const, i_load, i_aload, i_store, i_astore, i_inc, i_iadd, i_isub, i_imul, i_idiv, i_irem, i_iand, i_ior, i_ixor, i_ishl, i_ishr, i_iushr, i_ineg, i_i2l, i_i2b, i_i2c, i_lcmp, i_dup, i_dup2, i_pop, i_null, i_alen, i_iald, i_bald, i_lald, i_aald, i_iast, i_bast, i_last, i_aast, i_goto, i_icmp_eq, i_icmp_ne, i_icmp_lt, i_icmp_ge, i_icmp_gt, i_icmp_le, i_if_eq, i_if_ne, i_if_lt, i_if_ge, i_if_gt, i_if_le, i_ifnonnull, i_getf, i_putf, i_iret, i_zret, i_aret, i_vret, i_new, i_newa, i_anew, i_oinit, i_callv, i_calls, i_calli, i_max, i_min, i_abs, i_copy, i_throw, i_ldcs, pwt, List.getElem?_cons_zero, List.getElem?_cons_succ, List.set_cons_zero, List.set_cons_succ, List.getD_cons_zero, List.getD_cons_succ, List.length_cons, List.length_nil, List.length_set, List.drop_succ_cons, List.drop_zero, List.take_succ_cons, List.take_zero, List.reverse_cons, List.reverse_nil, List.nil_append, List.cons_append, List.append_nil, List.map_cons, List.map_nil, List.sum_cons, List.sum_nil, Value.category, ne_eq, Nat.reduceEqDiff, reduceIte, ite_self, false_implies, true_implies, true_and, and_true, and_self, Nat.zero_le, Nat.le_refl, Nat.reduceLeDiff, Nat.reduceAdd, Nat.reduceLT, Nat.add_zero, Nat.zero_add, pu_eq, not_false_eq_true, not_true_eq_false, forall_const, if_true, if_false, implies_true, X.f0, hL, e20, c', pu_0add, pu_add0, pu_eq, f7, v0.1, v0.2, v1.1, v1.2, v2.1, v2.2, v3.1, v3.2, v4.1, v4.2]
    refine ⟨rfl, rfl, ?_⟩
    have w7 : ∀ q, q < 5 → (ru (ru (ru (ru (ru (th w 0) 7 0 k0) 7 1 k1) 7 2 k2) 7 3 k3) 7 4 k4) 7 q = a5 k0 k1 k2 k3 k4 q := fun q hq => by
      rcases (show q = 0 ∨ q = 1 ∨ q = 2 ∨ q = 3 ∨ q = 4 by omega) with rfl | rfl | rfl | rfl | rfl <;> rfl
    have w0 : (ru (ru (ru (ru (ru (th w 0) 7 0 k0) 7 1 k1) 7 2 k2) 7 3 k3) 7 4 k4) 0 = (th w 0) 0 := rfl
    have wk : ∀ k, k ≠ 0 → k ≠ 7 → (ru (ru (ru (ru (ru (th w 0) 7 0 k0) 7 1 k1) 7 2 k2) 7 3 k3) 7 4 k4) k = w k := fun k a b => by rw [ru_ne b, ru_ne b, ru_ne b, ru_ne b, ru_ne b]; exact ru_ne a
    have F6 := F0.tr (F1.tr (F2.tr (F3.tr (F4.tr F5))))
    rw [hL] at X5 F6
    refine pFor 20 (fun t ls σ => ∃ h1 w1, MX h1 m w1 ∧ FM m h h1 ∧ (∀ k, k ≠ 6 → w1 k = (ru (ru (ru (ru (ru (th w 0) 7 0 k0) 7 1 k1) 7 2 k2) 7 3 k3) 7 4 k4) k) ∧ (∀ i, i < L ∨ L + 20 ≤ i → w1 6 i = w 6 i) ∧ (∀ i, i < t → w1 6 (L + i) = b4 (a5 k0 k1 k2 k3 k4 (i / 4)) (i % 4)) ∧ ls = [some (.ref m), some (.int k0), some (.int k1), some (.int k2), some (.int k3), some (.int k4), some (.int (nI t))] ∧ σ = (h1, n, 0, 0)) ?_ ?_ 0 (Nat.zero_le _) _ _ ⟨_, _, X5, F6, fun _ _ => rfl, fun _ _ => rfl, fun i hi => absurd hi (Nat.not_lt_zero i), rfl, rfl⟩
    · rintro t ht ls σ ⟨h1, w1, Y1, G1, a1, a2, a3, rfl, rfl⟩ ih
      have e1 : ¬ (20 : Int32) ≤ nI t := nI_ge (b := 20) ht (by decide)
      have e4 : nI t + 1 = nI (t + 1) := nI_1 t
      have d4 : nI t / 4 = nI (t / 4) := pk_div (d := 4) (by omega) (by decide) (by decide)
      have r4 : nI t - nI (t / 4) * 4 = nI (t % 4) := by rw [← d4]; exact pk_rem (d := 4) (by omega) (by decide) (by decide)
      have m8 : (8 : Int32) * nI (t % 4) = nI (8 * (t % 4)) := pk_mul 8 _
      have s8 : (24 : Int32) - nI (8 * (t % 4)) = nI (24 - 8 * (t % 4)) := pk_sub (a := 24) (by omega)
      have o9 : w1 0 9 = nI L := by rw [a1 0 (by decide)]; exact hL
      have o7 : w1 7 (t / 4) = a5 k0 k1 k2 k3 k4 (t / 4) := by rw [a1 7 (by decide)]; exact w7 _ (by omega)
      have ea : nI L + nI t = nI (L + t) := nI_add L t
      have hb : (a5 k0 k1 k2 k3 k4 (t / 4) >>> (nI (24 - 8 * (t % 4)) &&& 31)).toInt8.toInt32 = b4 (a5 k0 k1 k2 k3 k4 (t / 4)) (t % 4) := rfl
      obtain ⟨Y2, G2⟩ := Y1.set (k := 6) (i := L + t) (by decide) (by decide) ((a5 k0 k1 k2 k3 k4 (t / 4) >>> (nI (24 - 8 * (t % 4)) &&& 31)).toInt8.toInt32)
      refine b_X12_feed_60 _ _ _ ?_
      simp only [i_const, i_load, i_aload, i_store, i_astore, i_inc, i_iadd, i_isub, i_imul, i_idiv, i_irem, i_iand, i_ior, i_ixor, i_ishl, i_ishr, i_iushr, i_ineg, i_i2l, i_i2b, i_i2c, i_lcmp, i_dup, i_dup2, i_pop, i_null, i_alen, i_iald, i_bald, i_lald, i_aald, i_iast, i_bast, i_last, i_aast, i_goto, i_icmp_eq, i_icmp_ne, i_icmp_lt, i_icmp_ge, i_icmp_gt, i_icmp_le, i_if_eq, i_if_ne, i_if_lt, i_if_ge, i_if_gt, i_if_le, i_ifnonnull, i_getf, i_putf, i_iret, i_zret, i_aret, i_vret, i_new, i_newa, i_anew, i_oinit, i_callv, i_calls, i_calli, i_max, i_min, i_abs, i_copy, i_throw, i_ldcs, pwt, List.getElem?_cons_zero, List.getElem?_cons_succ, List.set_cons_zero, List.set_cons_succ, List.getD_cons_zero, List.getD_cons_succ, List.length_cons, List.length_nil, List.length_set, List.drop_succ_cons, List.drop_zero, List.take_succ_cons, List.take_zero, List.reverse_cons, List.reverse_nil, List.nil_append, List.cons_append, List.append_nil, List.map_cons, List.map_nil, List.sum_cons, List.sum_nil, Value.category, ne_eq, Nat.reduceEqDiff, reduceIte, ite_self, false_implies, true_implies, true_and, and_true, and_self, Nat.zero_le, Nat.le_refl, Nat.reduceLeDiff, Nat.reduceAdd, Nat.reduceLT, Nat.add_zero, Nat.zero_add, pu_eq, not_false_eq_true, not_true_eq_false, forall_const, if_true, if_false, implies_true, e1, Y1.f0, Y1.f6, Y1.f7, o9, o7, ea, d4, r4, m8, s8, e4, pk_vb, vp_in_nI (show t / 4 < 5 by omega) (by decide), nI_clamp (show t / 4 < 2 ^ 31 by omega), vp_in_nI (show L + t < 400 by omega) (by decide), nI_clamp (show L + t < 2 ^ 31 by omega)]
      refine ⟨by decide, by decide, ?_⟩
      refine ih _ _ ⟨_, _, Y2, G1.tr G2, fun k hk => by rw [ru_ne hk]; exact a1 k hk, fun i hi => ?_, fun i hi => ?_, rfl, rfl⟩
      · rw [ru_eq, upd_ne (by omega)]; exact a2 i hi
      · by_cases z : i = t
        · subst z; rw [ru_eq, upd_eq, hb]
        · rw [ru_eq, upd_ne (by omega)]; exact a3 i (by omega)
    · rintro ls σ ⟨h1, w1, Y1, G1, a1, a2, a3, rfl, rfl⟩
      have o9 : w1 0 9 = nI L := by rw [a1 0 (by decide)]; exact hL
      obtain ⟨Y2, G2⟩ := Y1.set (k := 0) (i := 9) (by decide) (by decide) (nI (L + 20))
      refine b_X12_feed_60 _ _ _ ?_
      simp only [i_const, i_load, i_aload, i_store, i_astore, i_inc, i_iadd, i_isub, i_imul, i_idiv, i_irem, i_iand, i_ior, i_ixor, i_ishl, i_ishr, i_iushr, i_ineg, i_i2l, i_i2b, i_i2c, i_lcmp, i_dup, i_dup2, i_pop, i_null, i_alen, i_iald, i_bald, i_lald, i_aald, i_iast, i_bast, i_last, i_aast, i_goto, i_icmp_eq, i_icmp_ne, i_icmp_lt, i_icmp_ge, i_icmp_gt, i_icmp_le, i_if_eq, i_if_ne, i_if_lt, i_if_ge, i_if_gt, i_if_le, i_ifnonnull, i_getf, i_putf, i_iret, i_zret, i_aret, i_vret, i_new, i_newa, i_anew, i_oinit, i_callv, i_calls, i_calli, i_max, i_min, i_abs, i_copy, i_throw, i_ldcs, pwt, List.getElem?_cons_zero, List.getElem?_cons_succ, List.set_cons_zero, List.set_cons_succ, List.getD_cons_zero, List.getD_cons_succ, List.length_cons, List.length_nil, List.length_set, List.drop_succ_cons, List.drop_zero, List.take_succ_cons, List.take_zero, List.reverse_cons, List.reverse_nil, List.nil_append, List.cons_append, List.append_nil, List.map_cons, List.map_nil, List.sum_cons, List.sum_nil, Value.category, ne_eq, Nat.reduceEqDiff, reduceIte, ite_self, false_implies, true_implies, true_and, and_true, and_self, Nat.zero_le, Nat.le_refl, Nat.reduceLeDiff, Nat.reduceAdd, Nat.reduceLT, Nat.add_zero, Nat.zero_add, pu_eq, not_false_eq_true, not_true_eq_false, forall_const, if_true, if_false, implies_true, show (20 : Int32) ≤ nI 20 by decide, Y1.f0, o9, e20, pu_eq]
      refine ⟨rfl, rfl, ?_⟩
      refine hR _ _ Y2 (G1.tr G2) (fun k q0 q6 q7 => ?_) ?_ (fun i hi => ?_) (fun q i hq hi => ?_)
      · rw [ru_ne q0, a1 k q6, wk k q0 q7]
      · rw [ru_eq, a1 0 (by decide)]; rfl
      · rw [ru_ne (by decide)]; exact a2 i hi
      · rw [ru_ne (by decide)]
        have := a3 (4 * q + i) (by omega)
        rw [show (4 * q + i) / 4 = q by omega, show (4 * q + i) % 4 = i by omega] at this
        rw [← this]
        congr 1
        omega
  · have c' : ¬ nI (L + 20) ≤ 400 := nI_ge (a := 400) (b := L + 20) (by omega) (by omega)
    simp only [i_const, i_load, i_aload, i_store, i_astore, i_inc, i_iadd, i_isub, i_imul, i_idiv, i_irem, i_iand, i_ior, i_ixor, i_ishl, i_ishr, i_iushr, i_ineg, i_i2l, i_i2b, i_i2c, i_lcmp, i_dup, i_dup2, i_pop, i_null, i_alen, i_iald, i_bald, i_lald, i_aald, i_iast, i_bast, i_last, i_aast, i_goto, i_icmp_eq, i_icmp_ne, i_icmp_lt, i_icmp_ge, i_icmp_gt, i_icmp_le, i_if_eq, i_if_ne, i_if_lt, i_if_ge, i_if_gt, i_if_le, i_ifnonnull, i_getf, i_putf, i_iret, i_zret, i_aret, i_vret, i_new, i_newa, i_anew, i_oinit, i_callv, i_calls, i_calli, i_max, i_min, i_abs, i_copy, i_throw, i_ldcs, pwt, List.getElem?_cons_zero, List.getElem?_cons_succ, List.set_cons_zero, List.set_cons_succ, List.getD_cons_zero, List.getD_cons_succ, List.length_cons, List.length_nil, List.length_set, List.drop_succ_cons, List.drop_zero, List.take_succ_cons, List.take_zero, List.reverse_cons, List.reverse_nil, List.nil_append, List.cons_append, List.append_nil, List.map_cons, List.map_nil, List.sum_cons, List.sum_nil, Value.category, ne_eq, Nat.reduceEqDiff, reduceIte, ite_self, false_implies, true_implies, true_and, and_true, and_self, Nat.zero_le, Nat.le_refl, Nat.reduceLeDiff, Nat.reduceAdd, Nat.reduceLT, Nat.add_zero, Nat.zero_add, pu_eq, not_false_eq_true, not_true_eq_false, forall_const, if_true, if_false, implies_true, X.f0, hL, e20, c']
    refine ⟨rfl, rfl, ?_⟩
    have := hQ0 (by omega) _ X0 F0
    rw [hL] at this
    exact this
end F2C

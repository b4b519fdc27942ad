/-! the reference: a battle's line, whole -/
section MREAD7
variable {E : PE} {M : PM} {d : Nat} {Q : PQ} {h h' : PH} {n : Nat} {m a : Nat} {w : AR} {r : AR} {C : Option LawL} {pc : Nat} {L p b e : Nat} {cs : List Nat} {s : Nat}
theorem c_X12_readBattle (hE : EC E) (X : MX h m (pp w (tkE (w 6) L b) b)) (R : RW (w 1) r C) (A : WA r) (hL : w 0 11 = nI L) (hL4 : L ≤ 400) (hQ : LQ Q n m L h w r C (baP (w 6) L (cl r 1 0) b)) : pCall E M_X12_readBattle (d + 6) [.ref m] h n Q := by
  refine pCall_of rfl rfl (Nat.le_of_ble_eq_true rfl) (by simp [Value.category]) ?_
  refine b_X12_readBattle_0 _ _ _ ?_
  simp only [pEntry, PM.nL, M_X12_readBattle, List.map_cons, List.map_nil, List.length_cons, List.length_nil, Nat.reduceAdd, Nat.reduceSub, Nat.sub_self, List.replicate_succ, List.replicate_zero, List.cons_append, List.nil_append]
  have b8 := A.bd.1
  unfold baP at hQ
  have i0 : nI 8 + 3 * nI (cl r 1 0) = nI (8 + 3 * cl r 1 0) := by rw [show (3 : Int32) = nI 3 from rfl, pk_mul, nI_add]
  have i0' : (8 : Int32) + 3 * nI (cl r 1 0) = nI (8 + 3 * cl r 1 0) := i0
  have i1 : nI (8 + 3 * cl r 1 0) + 1 = nI (8 + 3 * cl r 1 0 + 1) := nI_1 _
  have i2 : nI (8 + 3 * cl r 1 0) + 2 = nI (8 + 3 * cl r 1 0 + 2) := nI_add _ 2
  have v0 := vp_in_nI (show 8 + 3 * cl r 1 0 < 2252 by omega) (by decide)
  have c0 := nI_clamp (show 8 + 3 * cl r 1 0 < 2 ^ 31 by omega)
  have v1 := vp_in_nI (show 8 + 3 * cl r 1 0 + 1 < 2252 by omega) (by decide)
  have c1 := nI_clamp (show 8 + 3 * cl r 1 0 + 1 < 2 ^ 31 by omega)
  have v2 := vp_in_nI (show 8 + 3 * cl r 1 0 + 2 < 2252 by omega) (by decide)
  have c2 := nI_clamp (show 8 + 3 * cl r 1 0 + 2 < 2 ^ 31 by omega)
  simp only [i_const, i_load, i_aload, i_store, i_astore, i_inc, i_iadd, i_isub, i_imul, i_idiv, i_irem, i_iand, i_ior, i_ixor, i_ishl, i_ishr, i_iushr, i_ineg, i_i2l, i_i2b, i_i2c, i_lcmp, i_dup, i_dup2, i_pop, i_null, i_alen, i_iald, i_bald, i_lald, i_aald, i_iast, i_bast, i_last, i_aast, i_goto, i_icmp_eq, i_icmp_ne, i_icmp_lt, i_icmp_ge, i_icmp_gt, i_icmp_le, i_if_eq, i_if_ne, i_if_lt, i_if_ge, i_if_gt, i_if_le, i_ifnonnull, i_getf, i_putf, i_iret, i_zret, i_aret, i_vret, i_new, i_newa, i_anew, i_oinit, i_callv, i_calls, i_calli, i_max, i_min, i_abs, i_copy, i_throw, i_ldcs, pwt, List.getElem?_cons_zero, List.getElem?_cons_succ, List.set_cons_zero, List.set_cons_succ, List.getD_cons_zero, List.getD_cons_succ, List.length_cons, List.length_nil, List.length_set, List.drop_succ_cons, List.drop_zero, List.take_succ_cons, List.take_zero, List.reverse_cons, List.reverse_nil, List.nil_append, List.cons_append, List.append_nil, List.map_cons, List.map_nil, List.sum_cons, List.sum_nil, Value.category, ne_eq, Nat.reduceEqDiff, reduceIte, ite_self, false_implies, true_implies, true_and, and_true, and_self, Nat.zero_le, Nat.le_refl, Nat.reduceLeDiff, Nat.reduceAdd, Nat.reduceLT, Nat.add_zero, Nat.zero_add, pu_eq, not_false_eq_true, not_true_eq_false, forall_const, if_true, if_false, implies_true, X.f0]
  refine c_X12_battles X (r := r) (C := C) R ?_
  simp only [i_const, i_load, i_aload, i_store, i_astore, i_inc, i_iadd, i_isub, i_imul, i_idiv, i_irem, i_iand, i_ior, i_ixor, i_ishl, i_ishr, i_iushr, i_ineg, i_i2l, i_i2b, i_i2c, i_lcmp, i_dup, i_dup2, i_pop, i_null, i_alen, i_iald, i_bald, i_lald, i_aald, i_iast, i_bast, i_last, i_aast, i_goto, i_icmp_eq, i_icmp_ne, i_icmp_lt, i_icmp_ge, i_icmp_gt, i_icmp_le, i_if_eq, i_if_ne, i_if_lt, i_if_ge, i_if_gt, i_if_le, i_ifnonnull, i_getf, i_putf, i_iret, i_zret, i_aret, i_vret, i_new, i_newa, i_anew, i_oinit, i_callv, i_calls, i_calli, i_max, i_min, i_abs, i_copy, i_throw, i_ldcs, pwt, List.getElem?_cons_zero, List.getElem?_cons_succ, List.set_cons_zero, List.set_cons_succ, List.getD_cons_zero, List.getD_cons_succ, List.length_cons, List.length_nil, List.length_set, List.drop_succ_cons, List.drop_zero, List.take_succ_cons, List.take_zero, List.reverse_cons, List.reverse_nil, List.nil_append, List.cons_append, List.append_nil, List.map_cons, List.map_nil, List.sum_cons, List.sum_nil, Value.category, ne_eq, Nat.reduceEqDiff, reduceIte, ite_self, false_implies, true_implies, true_and, and_true, and_self, Nat.zero_le, Nat.le_refl, Nat.reduceLeDiff, Nat.reduceAdd, Nat.reduceLT, Nat.add_zero, Nat.zero_add, pu_eq, not_false_eq_true, not_true_eq_false, forall_const, if_true, if_false, implies_true, pRetK, A.hb, X.f0, i0', Int32.add_zero]
  refine ⟨fun c => ?_, fun c => ?_⟩
  · have hn : cl r 1 0 < 8 := by
      by_cases z : cl r 1 0 = 8
      · exact absurd (by rw [z]; rfl) c
      · omega
    rw [if_neg (by omega)] at hQ
    refine c_X12_numberP X hL hL4 tkE_le (s := nx (w 6) L b) rfl ?_
    cases e1 : nmP (w 6) L 4 0 9 (nx (w 6) L b) with
    | inl b1 =>
      rw [e1] at hQ
      simp only [bnd] at hQ
      intro h1 p1 g1 X1 F1
      obtain ⟨X2, F2⟩ := X1.wr (q := 8 + 3 * cl r 1 0) (-1)
      simp only [i_const, i_load, i_aload, i_store, i_astore, i_inc, i_iadd, i_isub, i_imul, i_idiv, i_irem, i_iand, i_ior, i_ixor, i_ishl, i_ishr, i_iushr, i_ineg, i_i2l, i_i2b, i_i2c, i_lcmp, i_dup, i_dup2, i_pop, i_null, i_alen, i_iald, i_bald, i_lald, i_aald, i_iast, i_bast, i_last, i_aast, i_goto, i_icmp_eq, i_icmp_ne, i_icmp_lt, i_icmp_ge, i_icmp_gt, i_icmp_le, i_if_eq, i_if_ne, i_if_lt, i_if_ge, i_if_gt, i_if_le, i_ifnonnull, i_getf, i_putf, i_iret, i_zret, i_aret, i_vret, i_new, i_newa, i_anew, i_oinit, i_callv, i_calls, i_calli, i_max, i_min, i_abs, i_copy, i_throw, i_ldcs, pwt, List.getElem?_cons_zero, List.getElem?_cons_succ, List.set_cons_zero, List.set_cons_succ, List.getD_cons_zero, List.getD_cons_succ, List.length_cons, List.length_nil, List.length_set, List.drop_succ_cons, List.drop_zero, List.take_succ_cons, List.take_zero, List.reverse_cons, List.reverse_nil, List.nil_append, List.cons_append, List.append_nil, List.map_cons, List.map_nil, List.sum_cons, List.sum_nil, Value.category, ne_eq, Nat.reduceEqDiff, reduceIte, ite_self, false_implies, true_implies, true_and, and_true, and_self, Nat.zero_le, Nat.le_refl, Nat.reduceLeDiff, Nat.reduceAdd, Nat.reduceLT, Nat.add_zero, Nat.zero_add, pu_eq, not_false_eq_true, not_true_eq_false, forall_const, if_true, if_false, implies_true, pRetK, X1.f0, X1.f1, v0, c0, pu_add0, pu_eq, upd_eq, Int32.add_zero, show ¬ (0 : Int32) ≤ -1 by decide]
      exact ⟨Or.inl trivial, hQ _ _ p1 g1 X2 (F1.tr F2) (fun k hk => ru_ne hk)⟩
    | inr q1 =>
      obtain ⟨b1, t1⟩ := q1
      rw [e1] at hQ
      simp only [bnd] at hQ
      intro h1 p1 k1 g1 s1 X1 F1
      have z1 : 0 ≤ t1 := nm_val e1 (by decide)
      obtain ⟨X2, F2⟩ := X1.wr (q := 8 + 3 * cl r 1 0) t1
      simp only [i_const, i_load, i_aload, i_store, i_astore, i_inc, i_iadd, i_isub, i_imul, i_idiv, i_irem, i_iand, i_ior, i_ixor, i_ishl, i_ishr, i_iushr, i_ineg, i_i2l, i_i2b, i_i2c, i_lcmp, i_dup, i_dup2, i_pop, i_null, i_alen, i_iald, i_bald, i_lald, i_aald, i_iast, i_bast, i_last, i_aast, i_goto, i_icmp_eq, i_icmp_ne, i_icmp_lt, i_icmp_ge, i_icmp_gt, i_icmp_le, i_if_eq, i_if_ne, i_if_lt, i_if_ge, i_if_gt, i_if_le, i_ifnonnull, i_getf, i_putf, i_iret, i_zret, i_aret, i_vret, i_new, i_newa, i_anew, i_oinit, i_callv, i_calls, i_calli, i_max, i_min, i_abs, i_copy, i_throw, i_ldcs, pwt, List.getElem?_cons_zero, List.getElem?_cons_succ, List.set_cons_zero, List.set_cons_succ, List.getD_cons_zero, List.getD_cons_succ, List.length_cons, List.length_nil, List.length_set, List.drop_succ_cons, List.drop_zero, List.take_succ_cons, List.take_zero, List.reverse_cons, List.reverse_nil, List.nil_append, List.cons_append, List.append_nil, List.map_cons, List.map_nil, List.sum_cons, List.sum_nil, Value.category, ne_eq, Nat.reduceEqDiff, reduceIte, ite_self, false_implies, true_implies, true_and, and_true, and_self, Nat.zero_le, Nat.le_refl, Nat.reduceLeDiff, Nat.reduceAdd, Nat.reduceLT, Nat.add_zero, Nat.zero_add, pu_eq, not_false_eq_true, not_true_eq_false, forall_const, if_true, if_false, implies_true, pRetK, X1.f0, X1.f1, v0, c0, pu_add0, pu_eq, upd_eq, Int32.add_zero, z1, i1]
      have hL2 : (ru w 1 (8 + 3 * cl r 1 0) t1) 0 11 = nI L := hL
      refine c_X12_afterP X2 hL2 hL4 g1 (es_X12_128 hE) wl_day (s := b1) s1 ?_
      rw [show (ru w 1 (8 + 3 * cl r 1 0) t1) 6 = w 6 from rfl]
      cases u2 : wdP (w 6) L w_day_ b1 with
      | inl b2 =>
        rw [u2] at hQ
        simp only [bnd] at hQ ⊢
        intro h3 p3 g3 X3 F3
        obtain ⟨X4, F4⟩ := X3.wr (q := 8 + 3 * cl r 1 0 + 1) (-1)
        simp only [i_const, i_load, i_aload, i_store, i_astore, i_inc, i_iadd, i_isub, i_imul, i_idiv, i_irem, i_iand, i_ior, i_ixor, i_ishl, i_ishr, i_iushr, i_ineg, i_i2l, i_i2b, i_i2c, i_lcmp, i_dup, i_dup2, i_pop, i_null, i_alen, i_iald, i_bald, i_lald, i_aald, i_iast, i_bast, i_last, i_aast, i_goto, i_icmp_eq, i_icmp_ne, i_icmp_lt, i_icmp_ge, i_icmp_gt, i_icmp_le, i_if_eq, i_if_ne, i_if_lt, i_if_ge, i_if_gt, i_if_le, i_ifnonnull, i_getf, i_putf, i_iret, i_zret, i_aret, i_vret, i_new, i_newa, i_anew, i_oinit, i_callv, i_calls, i_calli, i_max, i_min, i_abs, i_copy, i_throw, i_ldcs, pwt, List.getElem?_cons_zero, List.getElem?_cons_succ, List.set_cons_zero, List.set_cons_succ, List.getD_cons_zero, List.getD_cons_succ, List.length_cons, List.length_nil, List.length_set, List.drop_succ_cons, List.drop_zero, List.take_succ_cons, List.take_zero, List.reverse_cons, List.reverse_nil, List.nil_append, List.cons_append, List.append_nil, List.map_cons, List.map_nil, List.sum_cons, List.sum_nil, Value.category, ne_eq, Nat.reduceEqDiff, reduceIte, ite_self, false_implies, true_implies, true_and, and_true, and_self, Nat.zero_le, Nat.le_refl, Nat.reduceLeDiff, Nat.reduceAdd, Nat.reduceLT, Nat.add_zero, Nat.zero_add, pu_eq, not_false_eq_true, not_true_eq_false, forall_const, if_true, if_false, implies_true, pRetK, X3.f0, X3.f1, v1, c1, i1, pu_add0, pu_eq, upd_eq, show ¬ (0 : Int32) ≤ -1 by decide]
        exact ⟨Or.inl trivial, hQ _ _ p3 g3 X4 (F1.tr (F2.tr (F3.tr F4))) (fun k hk => by rw [ru_ne hk, ru_ne hk])⟩
      | inr q2 =>
        obtain ⟨d2, y2⟩ := q2
        rw [u2] at hQ
        simp only [bnd] at hQ ⊢
        cases e2 : nmP (w 6) L 4 0 999 d2 with
        | inl b2 =>
          rw [e2] at hQ
          simp only [bnd] at hQ
          intro h3 p3 g3 X3 F3
          obtain ⟨X4, F4⟩ := X3.wr (q := 8 + 3 * cl r 1 0 + 1) (-1)
          simp only [i_const, i_load, i_aload, i_store, i_astore, i_inc, i_iadd, i_isub, i_imul, i_idiv, i_irem, i_iand, i_ior, i_ixor, i_ishl, i_ishr, i_iushr, i_ineg, i_i2l, i_i2b, i_i2c, i_lcmp, i_dup, i_dup2, i_pop, i_null, i_alen, i_iald, i_bald, i_lald, i_aald, i_iast, i_bast, i_last, i_aast, i_goto, i_icmp_eq, i_icmp_ne, i_icmp_lt, i_icmp_ge, i_icmp_gt, i_icmp_le, i_if_eq, i_if_ne, i_if_lt, i_if_ge, i_if_gt, i_if_le, i_ifnonnull, i_getf, i_putf, i_iret, i_zret, i_aret, i_vret, i_new, i_newa, i_anew, i_oinit, i_callv, i_calls, i_calli, i_max, i_min, i_abs, i_copy, i_throw, i_ldcs, pwt, List.getElem?_cons_zero, List.getElem?_cons_succ, List.set_cons_zero, List.set_cons_succ, List.getD_cons_zero, List.getD_cons_succ, List.length_cons, List.length_nil, List.length_set, List.drop_succ_cons, List.drop_zero, List.take_succ_cons, List.take_zero, List.reverse_cons, List.reverse_nil, List.nil_append, List.cons_append, List.append_nil, List.map_cons, List.map_nil, List.sum_cons, List.sum_nil, Value.category, ne_eq, Nat.reduceEqDiff, reduceIte, ite_self, false_implies, true_implies, true_and, and_true, and_self, Nat.zero_le, Nat.le_refl, Nat.reduceLeDiff, Nat.reduceAdd, Nat.reduceLT, Nat.add_zero, Nat.zero_add, pu_eq, not_false_eq_true, not_true_eq_false, forall_const, if_true, if_false, implies_true, pRetK, X3.f0, X3.f1, v1, c1, i1, pu_add0, pu_eq, upd_eq, show ¬ (0 : Int32) ≤ -1 by decide]
          exact ⟨Or.inl trivial, hQ _ _ p3 g3 X4 (F1.tr (F2.tr (F3.tr F4))) (fun k hk => by rw [ru_ne hk, ru_ne hk])⟩
        | inr q3 =>
          obtain ⟨b2, t2⟩ := q3
          rw [e2] at hQ
          simp only [bnd] at hQ
          intro h3 p3 k3 g3 s3 X3 F3
          have s3' : skb (w 6) L p3 = b2 := s3
          have z2 : 0 ≤ t2 := nm_val e2 (by decide)
          obtain ⟨X4, F4⟩ := X3.wr (q := 8 + 3 * cl r 1 0 + 1) t2
          simp only [i_const, i_load, i_aload, i_store, i_astore, i_inc, i_iadd, i_isub, i_imul, i_idiv, i_irem, i_iand, i_ior, i_ixor, i_ishl, i_ishr, i_iushr, i_ineg, i_i2l, i_i2b, i_i2c, i_lcmp, i_dup, i_dup2, i_pop, i_null, i_alen, i_iald, i_bald, i_lald, i_aald, i_iast, i_bast, i_last, i_aast, i_goto, i_icmp_eq, i_icmp_ne, i_icmp_lt, i_icmp_ge, i_icmp_gt, i_icmp_le, i_if_eq, i_if_ne, i_if_lt, i_if_ge, i_if_gt, i_if_le, i_ifnonnull, i_getf, i_putf, i_iret, i_zret, i_aret, i_vret, i_new, i_newa, i_anew, i_oinit, i_callv, i_calls, i_calli, i_max, i_min, i_abs, i_copy, i_throw, i_ldcs, pwt, List.getElem?_cons_zero, List.getElem?_cons_succ, List.set_cons_zero, List.set_cons_succ, List.getD_cons_zero, List.getD_cons_succ, List.length_cons, List.length_nil, List.length_set, List.drop_succ_cons, List.drop_zero, List.take_succ_cons, List.take_zero, List.reverse_cons, List.reverse_nil, List.nil_append, List.cons_append, List.append_nil, List.map_cons, List.map_nil, List.sum_cons, List.sum_nil, Value.category, ne_eq, Nat.reduceEqDiff, reduceIte, ite_self, false_implies, true_implies, true_and, and_true, and_self, Nat.zero_le, Nat.le_refl, Nat.reduceLeDiff, Nat.reduceAdd, Nat.reduceLT, Nat.add_zero, Nat.zero_add, pu_eq, not_false_eq_true, not_true_eq_false, forall_const, if_true, if_false, implies_true, pRetK, X3.f0, X3.f1, v1, c1, i1, pu_add0, pu_eq, upd_eq, z2]
          have hL4' : (ru (ru w 1 (8 + 3 * cl r 1 0) t1) 1 (8 + 3 * cl r 1 0 + 1) t2) 0 11 = nI L := hL
          have S4 : ∀ k, k ≠ 1 → (ru (ru w 1 (8 + 3 * cl r 1 0) t1) 1 (8 + 3 * cl r 1 0 + 1) t2) k = w k := fun k hk => by rw [ru_ne hk, ru_ne hk]
          refine c_X12_letters X4 hL4' hL4 g3 (fun h5 X5 F5 => ?_)
          have X5' : MX h5 m (pp (ru (ru w 1 (8 + 3 * cl r 1 0) t1) 1 (8 + 3 * cl r 1 0 + 1) t2) (ltE (w 6) L (skb (w 6) L p3)) (skb (w 6) L p3)) := X5
          rw [s3'] at X5'
          have hb2 : b2 ≤ L := by rw [← s3']; exact skb_le g3
          obtain ⟨k1', k2'⟩ := wd_is (f := w 6) wl_with hb2
          have g5 := adv_ge (rgP (w 6) 97 122) L b2
          have g6 := adv_le (rgP (w 6) 97 122) hb2
          simp only [i_const, i_load, i_aload, i_store, i_astore, i_inc, i_iadd, i_isub, i_imul, i_idiv, i_irem, i_iand, i_ior, i_ixor, i_ishl, i_ishr, i_iushr, i_ineg, i_i2l, i_i2b, i_i2c, i_lcmp, i_dup, i_dup2, i_pop, i_null, i_alen, i_iald, i_bald, i_lald, i_aald, i_iast, i_bast, i_last, i_aast, i_goto, i_icmp_eq, i_icmp_ne, i_icmp_lt, i_icmp_ge, i_icmp_gt, i_icmp_le, i_if_eq, i_if_ne, i_if_lt, i_if_ge, i_if_gt, i_if_le, i_ifnonnull, i_getf, i_putf, i_iret, i_zret, i_aret, i_vret, i_new, i_newa, i_anew, i_oinit, i_callv, i_calls, i_calli, i_max, i_min, i_abs, i_copy, i_throw, i_ldcs, pwt, List.getElem?_cons_zero, List.getElem?_cons_succ, List.set_cons_zero, List.set_cons_succ, List.getD_cons_zero, List.getD_cons_succ, List.length_cons, List.length_nil, List.length_set, List.drop_succ_cons, List.drop_zero, List.take_succ_cons, List.take_zero, List.reverse_cons, List.reverse_nil, List.nil_append, List.cons_append, List.append_nil, List.map_cons, List.map_nil, List.sum_cons, List.sum_nil, Value.category, ne_eq, Nat.reduceEqDiff, reduceIte, ite_self, false_implies, true_implies, true_and, and_true, and_self, Nat.zero_le, Nat.le_refl, Nat.reduceLeDiff, Nat.reduceAdd, Nat.reduceLT, Nat.add_zero, Nat.zero_add, pu_eq, not_false_eq_true, not_true_eq_false, forall_const, if_true, if_false, implies_true, pRetK, X5'.f0]
          have FF := F1.tr (F2.tr (F3.tr (F4.tr F5)))
          refine c_X12_isWord X5' g5 (by unfold ltE; omega) (es_X12_134 hE) (fun q => ?_) (fun q => ?_)
          · have q' := k1'.mp q
            rw [k2' q'] at X5'
            rw [wd_y q'] at hQ
            simp only [bnd] at hQ
            obtain ⟨X6, F6⟩ := X5'.wr (q := 8 + 3 * cl r 1 0 + 2) 0
            simp only [i_const, i_load, i_aload, i_store, i_astore, i_inc, i_iadd, i_isub, i_imul, i_idiv, i_irem, i_iand, i_ior, i_ixor, i_ishl, i_ishr, i_iushr, i_ineg, i_i2l, i_i2b, i_i2c, i_lcmp, i_dup, i_dup2, i_pop, i_null, i_alen, i_iald, i_bald, i_lald, i_aald, i_iast, i_bast, i_last, i_aast, i_goto, i_icmp_eq, i_icmp_ne, i_icmp_lt, i_icmp_ge, i_icmp_gt, i_icmp_le, i_if_eq, i_if_ne, i_if_lt, i_if_ge, i_if_gt, i_if_le, i_ifnonnull, i_getf, i_putf, i_iret, i_zret, i_aret, i_vret, i_new, i_newa, i_anew, i_oinit, i_callv, i_calls, i_calli, i_max, i_min, i_abs, i_copy, i_throw, i_ldcs, pwt, List.getElem?_cons_zero, List.getElem?_cons_succ, List.set_cons_zero, List.set_cons_succ, List.getD_cons_zero, List.getD_cons_succ, List.length_cons, List.length_nil, List.length_set, List.drop_succ_cons, List.drop_zero, List.take_succ_cons, List.take_zero, List.reverse_cons, List.reverse_nil, List.nil_append, List.cons_append, List.append_nil, List.map_cons, List.map_nil, List.sum_cons, List.sum_nil, Value.category, ne_eq, Nat.reduceEqDiff, reduceIte, ite_self, false_implies, true_implies, true_and, and_true, and_self, Nat.zero_le, Nat.le_refl, Nat.reduceLeDiff, Nat.reduceAdd, Nat.reduceLT, Nat.add_zero, Nat.zero_add, pu_eq, not_false_eq_true, not_true_eq_false, forall_const, if_true, if_false, implies_true, pRetK, show ¬ ((1 : Int32) = 0) by decide, X5'.f0, X5'.f1, v2, c2, i2]
            refine mr_arms (w := w) (C := C) (h := h) (town := t1) (day := t2) hn A hL4 400 (nx (w 6) L b2) _ _ 0 _ (ru (ru (ru w 1 (8 + 3 * cl r 1 0) t1) 1 (8 + 3 * cl r 1 0 + 1) t2) 1 (8 + 3 * cl r 1 0 + 2) 0) _ (by omega) tkE_le rfl X6 (FF.tr F6) (fun k hk => by rw [ru_ne hk]; exact S4 k hk) hL ?_ ?_ (fun arms W' f1 f2 f3 => ?_) ?_
            · rw [ru_eq, upd_eq]
            · rw [ru_eq, upd_ne (by omega), ru_eq, upd_ne (by omega), ru_eq, upd_ne (by omega)]; exact R.1.1.trans A.hb
            · refine R.ap0 A.bd hn f2 ?_ ?_ f3 (fun q q0 q8 => ?_)
              · rw [f1 _ (by omega) (by omega), ru_eq, upd_ne (by omega), ru_eq, upd_ne (by omega), ru_eq, Nat.add_zero, upd_eq]
              · rw [f1 _ (by omega) (by omega), ru_eq, upd_ne (by omega), ru_eq, upd_eq]
              · rw [f1 _ q0 (by omega), ru_eq, upd_ne (by omega), ru_eq, upd_ne (by omega), ru_eq, upd_ne (by omega)]
            · simp only [Int32.zero_or]
              exact hQ
          · rw [wd_n (fun z => q (k1'.mpr z))] at hQ
            simp only [bnd] at hQ
            simp only [i_const, i_load, i_aload, i_store, i_astore, i_inc, i_iadd, i_isub, i_imul, i_idiv, i_irem, i_iand, i_ior, i_ixor, i_ishl, i_ishr, i_iushr, i_ineg, i_i2l, i_i2b, i_i2c, i_lcmp, i_dup, i_dup2, i_pop, i_null, i_alen, i_iald, i_bald, i_lald, i_aald, i_iast, i_bast, i_last, i_aast, i_goto, i_icmp_eq, i_icmp_ne, i_icmp_lt, i_icmp_ge, i_icmp_gt, i_icmp_le, i_if_eq, i_if_ne, i_if_lt, i_if_ge, i_if_gt, i_if_le, i_ifnonnull, i_getf, i_putf, i_iret, i_zret, i_aret, i_vret, i_new, i_newa, i_anew, i_oinit, i_callv, i_calls, i_calli, i_max, i_min, i_abs, i_copy, i_throw, i_ldcs, pwt, List.getElem?_cons_zero, List.getElem?_cons_succ, List.set_cons_zero, List.set_cons_succ, List.getD_cons_zero, List.getD_cons_succ, List.length_cons, List.length_nil, List.length_set, List.drop_succ_cons, List.drop_zero, List.take_succ_cons, List.take_zero, List.reverse_cons, List.reverse_nil, List.nil_append, List.cons_append, List.append_nil, List.map_cons, List.map_nil, List.sum_cons, List.sum_nil, Value.category, ne_eq, Nat.reduceEqDiff, reduceIte, ite_self, false_implies, true_implies, true_and, and_true, and_self, Nat.zero_le, Nat.le_refl, Nat.reduceLeDiff, Nat.reduceAdd, Nat.reduceLT, Nat.add_zero, Nat.zero_add, pu_eq, not_false_eq_true, not_true_eq_false, forall_const, if_true, if_false, implies_true, pRetK]
            exact ⟨Or.inl trivial, hQ h5 _ _ g6 X5' FF S4⟩
  · have hn : 8 ≤ cl r 1 0 := by
      have : cl r 1 0 = 8 := (nI_eq (by omega) (by decide)).mp (show nI (cl r 1 0) = nI 8 from c)
      omega
    rw [if_pos hn] at hQ
    exact ⟨Or.inl trivial, hQ h w _ tkE_le X FM.rf (fun _ _ => rfl)⟩
end MREAD7

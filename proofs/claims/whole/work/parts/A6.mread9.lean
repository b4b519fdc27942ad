/-! the reference: the lines of an army -/
section MREAD9
variable {E : PE} {M : PM} {d : Nat} {Q : PQ} {h h' : PH} {n : Nat} {m a : Nat} {w : AR} {r : AR} {C : Option LawL} {pc : Nat} {L p b e j : Nat} {cs : List Nat} {s : Nat}
theorem c_X12_readLine1 (hE : EC E) (X : MX h m (pp w p b)) (hp : p ≤ L) (hs : skb (w 6) L p = s) (hj : j ≤ 14) (R : RW (w 1) r C) (A : WA r) (hL : w 0 11 = nI L) (hL4 : L ≤ 400) (hQ : LQ Q n m L h w r C (if j = 14 then .inl s else lnP (w 6) L (cl r 1 0) (cl r 5 0) (cl r 8 0) s)) : pCall E M_X12_readLine (d + 8) [.ref m, .int 1, .int (nI j)] h n Q := by
  refine pCall_of rfl rfl (Nat.le_of_ble_eq_true rfl) (by simp [Value.category]) ?_
  refine b_X12_readLine_0 _ _ _ ?_
  simp only [pEntry, PM.nL, M_X12_readLine, List.map_cons, List.map_nil, List.length_cons, List.length_nil, Nat.reduceAdd, Nat.reduceSub, Nat.sub_self, List.replicate_succ, List.replicate_zero, List.cons_append, List.nil_append]
  have hsl : s ≤ L := by rw [← hs]; exact skb_le hp
  simp only [i_const, i_load, i_aload, i_store, i_astore, i_inc, i_iadd, i_isub, i_imul, i_idiv, i_irem, i_iand, i_ior, i_ixor, i_ishl, i_ishr, i_iushr, i_ineg, i_i2l, i_i2b, i_i2c, i_lcmp, i_dup, i_dup2, i_pop, i_null, i_alen, i_iald, i_bald, i_lald, i_aald, i_iast, i_bast, i_last, i_aast, i_goto, i_icmp_eq, i_icmp_ne, i_icmp_lt, i_icmp_ge, i_icmp_gt, i_icmp_le, i_if_eq, i_if_ne, i_if_lt, i_if_ge, i_if_gt, i_if_le, i_ifnonnull, i_getf, i_putf, i_iret, i_zret, i_aret, i_vret, i_new, i_newa, i_anew, i_oinit, i_callv, i_calls, i_calli, i_max, i_min, i_abs, i_copy, i_throw, i_ldcs, pwt, List.getElem?_cons_zero, List.getElem?_cons_succ, List.set_cons_zero, List.set_cons_succ, List.getD_cons_zero, List.getD_cons_succ, List.length_cons, List.length_nil, List.length_set, List.drop_succ_cons, List.drop_zero, List.take_succ_cons, List.take_zero, List.reverse_cons, List.reverse_nil, List.nil_append, List.cons_append, List.append_nil, List.map_cons, List.map_nil, List.sum_cons, List.sum_nil, Value.category, ne_eq, Nat.reduceEqDiff, reduceIte, ite_self, false_implies, true_implies, true_and, and_true, and_self, Nat.zero_le, Nat.le_refl, Nat.reduceLeDiff, Nat.reduceAdd, Nat.reduceLT, Nat.add_zero, Nat.zero_add, pu_eq, not_false_eq_true, not_true_eq_false, forall_const, if_true, if_false, implies_true, X.f0]
  refine c_X12_letters X hL hL4 hp (fun h0 X0 F0 => ?_)
  rw [hs] at X0
  simp only [i_const, i_load, i_aload, i_store, i_astore, i_inc, i_iadd, i_isub, i_imul, i_idiv, i_irem, i_iand, i_ior, i_ixor, i_ishl, i_ishr, i_iushr, i_ineg, i_i2l, i_i2b, i_i2c, i_lcmp, i_dup, i_dup2, i_pop, i_null, i_alen, i_iald, i_bald, i_lald, i_aald, i_iast, i_bast, i_last, i_aast, i_goto, i_icmp_eq, i_icmp_ne, i_icmp_lt, i_icmp_ge, i_icmp_gt, i_icmp_le, i_if_eq, i_if_ne, i_if_lt, i_if_ge, i_if_gt, i_if_le, i_ifnonnull, i_getf, i_putf, i_iret, i_zret, i_aret, i_vret, i_new, i_newa, i_anew, i_oinit, i_callv, i_calls, i_calli, i_max, i_min, i_abs, i_copy, i_throw, i_ldcs, pwt, List.getElem?_cons_zero, List.getElem?_cons_succ, List.set_cons_zero, List.set_cons_succ, List.getD_cons_zero, List.getD_cons_succ, List.length_cons, List.length_nil, List.length_set, List.drop_succ_cons, List.drop_zero, List.take_succ_cons, List.take_zero, List.reverse_cons, List.reverse_nil, List.nil_append, List.cons_append, List.append_nil, List.map_cons, List.map_nil, List.sum_cons, List.sum_nil, Value.category, ne_eq, Nat.reduceEqDiff, reduceIte, ite_self, false_implies, true_implies, true_and, and_true, and_self, Nat.zero_le, Nat.le_refl, Nat.reduceLeDiff, Nat.reduceAdd, Nat.reduceLT, Nat.add_zero, Nat.zero_add, pu_eq, not_false_eq_true, not_true_eq_false, forall_const, if_true, if_false, implies_true, pRetK, show ¬ ((1 : Int32) = 0) by decide]
  refine b_X12_readLine_16 _ _ _ ?_
  have g2 := adv_le (rgP (w 6) 97 122) hsl
  by_cases c : j = 14
  · rw [if_pos c] at hQ
    have e1 : (14 : Int32) ≤ nI j := nI_le (a := 14) (by omega) (by omega)
    simp only [i_const, i_load, i_aload, i_store, i_astore, i_inc, i_iadd, i_isub, i_imul, i_idiv, i_irem, i_iand, i_ior, i_ixor, i_ishl, i_ishr, i_iushr, i_ineg, i_i2l, i_i2b, i_i2c, i_lcmp, i_dup, i_dup2, i_pop, i_null, i_alen, i_iald, i_bald, i_lald, i_aald, i_iast, i_bast, i_last, i_aast, i_goto, i_icmp_eq, i_icmp_ne, i_icmp_lt, i_icmp_ge, i_icmp_gt, i_icmp_le, i_if_eq, i_if_ne, i_if_lt, i_if_ge, i_if_gt, i_if_le, i_ifnonnull, i_getf, i_putf, i_iret, i_zret, i_aret, i_vret, i_new, i_newa, i_anew, i_oinit, i_callv, i_calls, i_calli, i_max, i_min, i_abs, i_copy, i_throw, i_ldcs, pwt, List.getElem?_cons_zero, List.getElem?_cons_succ, List.set_cons_zero, List.set_cons_succ, List.getD_cons_zero, List.getD_cons_succ, List.length_cons, List.length_nil, List.length_set, List.drop_succ_cons, List.drop_zero, List.take_succ_cons, List.take_zero, List.reverse_cons, List.reverse_nil, List.nil_append, List.cons_append, List.append_nil, List.map_cons, List.map_nil, List.sum_cons, List.sum_nil, Value.category, ne_eq, Nat.reduceEqDiff, reduceIte, ite_self, false_implies, true_implies, true_and, and_true, and_self, Nat.zero_le, Nat.le_refl, Nat.reduceLeDiff, Nat.reduceAdd, Nat.reduceLT, Nat.add_zero, Nat.zero_add, pu_eq, not_false_eq_true, not_true_eq_false, forall_const, if_true, if_false, implies_true, e1]
    exact ⟨Or.inl trivial, hQ h0 w _ g2 X0 F0 (fun _ _ => rfl)⟩
  · rw [if_neg c] at hQ
    have e1 : ¬ (14 : Int32) ≤ nI j := nI_ge (a := j) (b := 14) (by omega) (by decide)
    simp only [i_const, i_load, i_aload, i_store, i_astore, i_inc, i_iadd, i_isub, i_imul, i_idiv, i_irem, i_iand, i_ior, i_ixor, i_ishl, i_ishr, i_iushr, i_ineg, i_i2l, i_i2b, i_i2c, i_lcmp, i_dup, i_dup2, i_pop, i_null, i_alen, i_iald, i_bald, i_lald, i_aald, i_iast, i_bast, i_last, i_aast, i_goto, i_icmp_eq, i_icmp_ne, i_icmp_lt, i_icmp_ge, i_icmp_gt, i_icmp_le, i_if_eq, i_if_ne, i_if_lt, i_if_ge, i_if_gt, i_if_le, i_ifnonnull, i_getf, i_putf, i_iret, i_zret, i_aret, i_vret, i_new, i_newa, i_anew, i_oinit, i_callv, i_calls, i_calli, i_max, i_min, i_abs, i_copy, i_throw, i_ldcs, pwt, List.getElem?_cons_zero, List.getElem?_cons_succ, List.set_cons_zero, List.set_cons_succ, List.getD_cons_zero, List.getD_cons_succ, List.length_cons, List.length_nil, List.length_set, List.drop_succ_cons, List.drop_zero, List.take_succ_cons, List.take_zero, List.reverse_cons, List.reverse_nil, List.nil_append, List.cons_append, List.append_nil, List.map_cons, List.map_nil, List.sum_cons, List.sum_nil, Value.category, ne_eq, Nat.reduceEqDiff, reduceIte, ite_self, false_implies, true_implies, true_and, and_true, and_self, Nat.zero_le, Nat.le_refl, Nat.reduceLeDiff, Nat.reduceAdd, Nat.reduceLT, Nat.add_zero, Nat.zero_add, pu_eq, not_false_eq_true, not_true_eq_false, forall_const, if_true, if_false, implies_true, e1, show ¬ ((1 : Int32) = 0) by decide, X0.f0]
    refine c_X12_readArmyLine hE X0 hsl R A hL hL4 ?_
    cases e : lnP (w 6) L (cl r 1 0) (cl r 5 0) (cl r 8 0) s with
    | inl b1 =>
      rw [e] at hQ
      intro h1 w1 p1 a1 a2 a3 a4
      simp only [i_const, i_load, i_aload, i_store, i_astore, i_inc, i_iadd, i_isub, i_imul, i_idiv, i_irem, i_iand, i_ior, i_ixor, i_ishl, i_ishr, i_iushr, i_ineg, i_i2l, i_i2b, i_i2c, i_lcmp, i_dup, i_dup2, i_pop, i_null, i_alen, i_iald, i_bald, i_lald, i_aald, i_iast, i_bast, i_last, i_aast, i_goto, i_icmp_eq, i_icmp_ne, i_icmp_lt, i_icmp_ge, i_icmp_gt, i_icmp_le, i_if_eq, i_if_ne, i_if_lt, i_if_ge, i_if_gt, i_if_le, i_ifnonnull, i_getf, i_putf, i_iret, i_zret, i_aret, i_vret, i_new, i_newa, i_anew, i_oinit, i_callv, i_calls, i_calli, i_max, i_min, i_abs, i_copy, i_throw, i_ldcs, pwt, List.getElem?_cons_zero, List.getElem?_cons_succ, List.set_cons_zero, List.set_cons_succ, List.getD_cons_zero, List.getD_cons_succ, List.length_cons, List.length_nil, List.length_set, List.drop_succ_cons, List.drop_zero, List.take_succ_cons, List.take_zero, List.reverse_cons, List.reverse_nil, List.nil_append, List.cons_append, List.append_nil, List.map_cons, List.map_nil, List.sum_cons, List.sum_nil, Value.category, ne_eq, Nat.reduceEqDiff, reduceIte, ite_self, false_implies, true_implies, true_and, and_true, and_self, Nat.zero_le, Nat.le_refl, Nat.reduceLeDiff, Nat.reduceAdd, Nat.reduceLT, Nat.add_zero, Nat.zero_add, pu_eq, not_false_eq_true, not_true_eq_false, forall_const, if_true, if_false, implies_true, pRetK]
      exact ⟨Or.inl trivial, hQ h1 w1 p1 a1 a2 (F0.tr a3) a4⟩
    | inr q =>
      rw [e] at hQ
      intro h1 w1 p1 b1 a1 a2 a3 a4 a5 a6
      simp only [i_const, i_load, i_aload, i_store, i_astore, i_inc, i_iadd, i_isub, i_imul, i_idiv, i_irem, i_iand, i_ior, i_ixor, i_ishl, i_ishr, i_iushr, i_ineg, i_i2l, i_i2b, i_i2c, i_lcmp, i_dup, i_dup2, i_pop, i_null, i_alen, i_iald, i_bald, i_lald, i_aald, i_iast, i_bast, i_last, i_aast, i_goto, i_icmp_eq, i_icmp_ne, i_icmp_lt, i_icmp_ge, i_icmp_gt, i_icmp_le, i_if_eq, i_if_ne, i_if_lt, i_if_ge, i_if_gt, i_if_le, i_ifnonnull, i_getf, i_putf, i_iret, i_zret, i_aret, i_vret, i_new, i_newa, i_anew, i_oinit, i_callv, i_calls, i_calli, i_max, i_min, i_abs, i_copy, i_throw, i_ldcs, pwt, List.getElem?_cons_zero, List.getElem?_cons_succ, List.set_cons_zero, List.set_cons_succ, List.getD_cons_zero, List.getD_cons_succ, List.length_cons, List.length_nil, List.length_set, List.drop_succ_cons, List.drop_zero, List.take_succ_cons, List.take_zero, List.reverse_cons, List.reverse_nil, List.nil_append, List.cons_append, List.append_nil, List.map_cons, List.map_nil, List.sum_cons, List.sum_nil, Value.category, ne_eq, Nat.reduceEqDiff, reduceIte, ite_self, false_implies, true_implies, true_and, and_true, and_self, Nat.zero_le, Nat.le_refl, Nat.reduceLeDiff, Nat.reduceAdd, Nat.reduceLT, Nat.add_zero, Nat.zero_add, pu_eq, not_false_eq_true, not_true_eq_false, forall_const, if_true, if_false, implies_true, pRetK, show ¬ ((1 : Int32) = 0) by decide]
      exact ⟨Or.inr trivial, hQ h1 w1 p1 b1 a1 a2 a3 (F0.tr a4) a5 a6⟩
/-- a semicolon is one thing -/
theorem semi_is {f : Nat → Int32} : isB f L b w_semi_ = true ↔ (b < L ∧ f b = 59) := by
  have nl : f b = 59 → ¬ (b < L ∧ rgP f 97 122 b = true) := fun q z => by
    have := (of_decide_eq_true z.2).1
    rw [q] at this
    exact absurd this (by decide)
  have nd : f b = 59 → ¬ (b < L ∧ rgP f 48 57 b = true) := fun q z => by
    have := (of_decide_eq_true z.2).2
    rw [q] at this
    exact absurd this (by decide)
  constructor
  · intro q
    obtain ⟨q1, q2⟩ := of_decide_eq_true q
    have q3 : f b = 59 := q2 0 (by decide)
    have hl : (w_semi_).length = 1 := rfl
    have := tkE_le (f := f) (L := L) (b := b)
    exact ⟨by omega, q3⟩
  · rintro ⟨q1, q2⟩
    refine decide_eq_true ⟨?_, fun i hi => ?_⟩
    · unfold tkE
      rw [if_neg (nl q2), if_neg (nd q2)]
      show min L (b + 1) - b = 1
      omega
    · have hi' : i < 1 := hi
      rw [show i = 0 by omega]
      exact q2
theorem semi_nx {f : Nat → Int32} (h : b < L ∧ f b = 59) : tkE f L b = b + 1 := by
  have := (of_decide_eq_true (semi_is.mpr h)).1
  have hl : (w_semi_).length = 1 := rfl
  omega
end MREAD9

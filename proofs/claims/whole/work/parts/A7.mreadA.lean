/-! the reference: an army's text -/
section MREADA
variable {E : PE} {M : PM} {d : Nat} {Q : PQ} {h h' : PH} {n : Nat} {m a : Nat} {w : AR} {r : AR} {C : Option LawL} {pc : Nat} {L p b e j : Nat} {cs : List Nat} {s : Nat}
/-- what the reading of lines leaves -/
def TQ (Q : PQ) (n m j : Nat) (h : PH) (w r : AR) (C : Option LawL) (R : PR (List Cmd)) : Prop := match R with
  | .inl b => ∀ h' w' p', MX h' m (pp w' p' b) → FM m h h' → (∀ k, k ≠ 1 → w' k = w k) → Q (.inl (some (.int (-1)))) h' n
  | .inr q => ∀ h' w' p' b', MX h' m (pp w' p' b') → FM m h h' → (∀ k, k ≠ 1 → w' k = w k) → RW (w' 1) (apL r q.2) C → WA (apL r q.2) → Q (.inl (some (.int (nI (j + q.2.length))))) h' n
theorem ct_cl {c : Cmd} (A : WA r) (V : vC (cl r 1 0) (cl r 5 0) (cl r 8 0) c) : (cl (apC r c) 1 0, cl (apC r c) 5 0, cl (apC r c) 8 0) = ctC c (cl r 1 0, cl r 5 0, cl r 8 0) := by
  have b := A.bd
  obtain ⟨k1, k2, k3, k4, k5, k6⟩ := CN.ap (q := (cl r 1 0, cl r 5 0, cl r 8 0)) ⟨A.hb, b.1, A.hm, b.2.1, A.hs, b.2.2.1⟩ V
  rw [cl_of k1 (by omega), cl_of k3 (by omega), cl_of k5 (by omega)]
theorem mr_all (hE : EC E) (hL : w 0 11 = nI L) (hL4 : L ≤ 400) : ∀ (k j p b s : Nat) (h1 : PH) (w1 r1 : AR), j + k = 14 → p ≤ L → skb (w 6) L p = s → MX h1 m (pp w1 p b) → FM m h h1 → (∀ k, k ≠ 1 → w1 k = w k) → RW (w1 1) r1 C → WA r1 →
    TQ Q n m j h w r1 C (txP (w 6) L k s (cl r1 1 0, cl r1 5 0, cl r1 8 0)) →
    PW E M_X12_readAll (d + 8 + 1) Q 28 [some (.ref m), some (.int 1), some (.int (nI j))] [] (h1, n, 0, 0) := by
  intro k
  induction k with
  | zero =>
    intro j p b s h1 w1 r1 hk hp hs X1 F1 S1 R1 A1 hQ
    have w6 : w1 6 = w 6 := S1 6 (by decide)
    have hL1 : w1 0 11 = nI L := by rw [S1 0 (by decide)]; exact hL
    refine b_X12_readAll_28 _ _ _ ?_
    simp only [i_const, i_load, i_aload, i_store, i_astore, i_inc, i_iadd, i_isub, i_imul, i_idiv, i_irem, i_iand, i_ior, i_ixor, i_ishl, i_ishr, i_iushr, i_ineg, i_i2l, i_i2b, i_i2c, i_lcmp, i_dup, i_dup2, i_pop, i_null, i_alen, i_iald, i_bald, i_lald, i_aald, i_iast, i_bast, i_last, i_aast, i_goto, i_icmp_eq, i_icmp_ne, i_icmp_lt, i_icmp_ge, i_icmp_gt, i_icmp_le, i_if_eq, i_if_ne, i_if_lt, i_if_ge, i_if_gt, i_if_le, i_ifnonnull, i_getf, i_putf, i_iret, i_zret, i_aret, i_vret, i_new, i_newa, i_anew, i_oinit, i_callv, i_calls, i_calli, i_max, i_min, i_abs, i_copy, i_throw, i_ldcs, pwt, List.getElem?_cons_zero, List.getElem?_cons_succ, List.set_cons_zero, List.set_cons_succ, List.getD_cons_zero, List.getD_cons_succ, List.length_cons, List.length_nil, List.length_set, List.drop_succ_cons, List.drop_zero, List.take_succ_cons, List.take_zero, List.reverse_cons, List.reverse_nil, List.nil_append, List.cons_append, List.append_nil, List.map_cons, List.map_nil, List.sum_cons, List.sum_nil, Value.category, ne_eq, Nat.reduceEqDiff, reduceIte, ite_self, false_implies, true_implies, true_and, and_true, and_self, Nat.zero_le, Nat.le_refl, Nat.reduceLeDiff, Nat.reduceAdd, Nat.reduceLT, Nat.add_zero, Nat.zero_add, pu_eq, not_false_eq_true, not_true_eq_false, forall_const, if_true, if_false, implies_true, X1.f0]
    refine c_X12_readLine1 hE X1 hp (s := s) (by rw [w6]; exact hs) (by omega) R1 A1 hL1 hL4 ?_
    rw [if_pos (by omega)]
    intro h2 w2 p2 a1 a2 a3 a4
    simp only [i_const, i_load, i_aload, i_store, i_astore, i_inc, i_iadd, i_isub, i_imul, i_idiv, i_irem, i_iand, i_ior, i_ixor, i_ishl, i_ishr, i_iushr, i_ineg, i_i2l, i_i2b, i_i2c, i_lcmp, i_dup, i_dup2, i_pop, i_null, i_alen, i_iald, i_bald, i_lald, i_aald, i_iast, i_bast, i_last, i_aast, i_goto, i_icmp_eq, i_icmp_ne, i_icmp_lt, i_icmp_ge, i_icmp_gt, i_icmp_le, i_if_eq, i_if_ne, i_if_lt, i_if_ge, i_if_gt, i_if_le, i_ifnonnull, i_getf, i_putf, i_iret, i_zret, i_aret, i_vret, i_new, i_newa, i_anew, i_oinit, i_callv, i_calls, i_calli, i_max, i_min, i_abs, i_copy, i_throw, i_ldcs, pwt, List.getElem?_cons_zero, List.getElem?_cons_succ, List.set_cons_zero, List.set_cons_succ, List.getD_cons_zero, List.getD_cons_succ, List.length_cons, List.length_nil, List.length_set, List.drop_succ_cons, List.drop_zero, List.take_succ_cons, List.take_zero, List.reverse_cons, List.reverse_nil, List.nil_append, List.cons_append, List.append_nil, List.map_cons, List.map_nil, List.sum_cons, List.sum_nil, Value.category, ne_eq, Nat.reduceEqDiff, reduceIte, ite_self, false_implies, true_implies, true_and, and_true, and_self, Nat.zero_le, Nat.le_refl, Nat.reduceLeDiff, Nat.reduceAdd, Nat.reduceLT, Nat.add_zero, Nat.zero_add, pu_eq, not_false_eq_true, not_true_eq_false, forall_const, if_true, if_false, implies_true, pRetK]
    exact hQ h2 w2 p2 a2 (F1.tr a3) (fun k hk => (a4 k hk).trans (S1 k hk))
  | succ k ih =>
    intro j p b s h1 w1 r1 hk hp hs X1 F1 S1 R1 A1 hQ
    have w6 : w1 6 = w 6 := S1 6 (by decide)
    have hL1 : w1 0 11 = nI L := by rw [S1 0 (by decide)]; exact hL
    have hsl : s ≤ L := by rw [← hs]; exact skb_le hp
    refine b_X12_readAll_28 _ _ _ ?_
    simp only [i_const, i_load, i_aload, i_store, i_astore, i_inc, i_iadd, i_isub, i_imul, i_idiv, i_irem, i_iand, i_ior, i_ixor, i_ishl, i_ishr, i_iushr, i_ineg, i_i2l, i_i2b, i_i2c, i_lcmp, i_dup, i_dup2, i_pop, i_null, i_alen, i_iald, i_bald, i_lald, i_aald, i_iast, i_bast, i_last, i_aast, i_goto, i_icmp_eq, i_icmp_ne, i_icmp_lt, i_icmp_ge, i_icmp_gt, i_icmp_le, i_if_eq, i_if_ne, i_if_lt, i_if_ge, i_if_gt, i_if_le, i_ifnonnull, i_getf, i_putf, i_iret, i_zret, i_aret, i_vret, i_new, i_newa, i_anew, i_oinit, i_callv, i_calls, i_calli, i_max, i_min, i_abs, i_copy, i_throw, i_ldcs, pwt, List.getElem?_cons_zero, List.getElem?_cons_succ, List.set_cons_zero, List.set_cons_succ, List.getD_cons_zero, List.getD_cons_succ, List.length_cons, List.length_nil, List.length_set, List.drop_succ_cons, List.drop_zero, List.take_succ_cons, List.take_zero, List.reverse_cons, List.reverse_nil, List.nil_append, List.cons_append, List.append_nil, List.map_cons, List.map_nil, List.sum_cons, List.sum_nil, Value.category, ne_eq, Nat.reduceEqDiff, reduceIte, ite_self, false_implies, true_implies, true_and, and_true, and_self, Nat.zero_le, Nat.le_refl, Nat.reduceLeDiff, Nat.reduceAdd, Nat.reduceLT, Nat.add_zero, Nat.zero_add, pu_eq, not_false_eq_true, not_true_eq_false, forall_const, if_true, if_false, implies_true, X1.f0]
    refine c_X12_readLine1 hE X1 hp (s := s) (by rw [w6]; exact hs) (by omega) R1 A1 hL1 hL4 ?_
    rw [if_neg (by omega), w6]
    rw [txP] at hQ
    cases e : lnP (w 6) L (cl r1 1 0) (cl r1 5 0) (cl r1 8 0) s with
    | inl b1 =>
      rw [e] at hQ
      simp only [bnd] at hQ
      intro h2 w2 p2 a1 a2 a3 a4
      simp only [i_const, i_load, i_aload, i_store, i_astore, i_inc, i_iadd, i_isub, i_imul, i_idiv, i_irem, i_iand, i_ior, i_ixor, i_ishl, i_ishr, i_iushr, i_ineg, i_i2l, i_i2b, i_i2c, i_lcmp, i_dup, i_dup2, i_pop, i_null, i_alen, i_iald, i_bald, i_lald, i_aald, i_iast, i_bast, i_last, i_aast, i_goto, i_icmp_eq, i_icmp_ne, i_icmp_lt, i_icmp_ge, i_icmp_gt, i_icmp_le, i_if_eq, i_if_ne, i_if_lt, i_if_ge, i_if_gt, i_if_le, i_ifnonnull, i_getf, i_putf, i_iret, i_zret, i_aret, i_vret, i_new, i_newa, i_anew, i_oinit, i_callv, i_calls, i_calli, i_max, i_min, i_abs, i_copy, i_throw, i_ldcs, pwt, List.getElem?_cons_zero, List.getElem?_cons_succ, List.set_cons_zero, List.set_cons_succ, List.getD_cons_zero, List.getD_cons_succ, List.length_cons, List.length_nil, List.length_set, List.drop_succ_cons, List.drop_zero, List.take_succ_cons, List.take_zero, List.reverse_cons, List.reverse_nil, List.nil_append, List.cons_append, List.append_nil, List.map_cons, List.map_nil, List.sum_cons, List.sum_nil, Value.category, ne_eq, Nat.reduceEqDiff, reduceIte, ite_self, false_implies, true_implies, true_and, and_true, and_self, Nat.zero_le, Nat.le_refl, Nat.reduceLeDiff, Nat.reduceAdd, Nat.reduceLT, Nat.add_zero, Nat.zero_add, pu_eq, not_false_eq_true, not_true_eq_false, forall_const, if_true, if_false, implies_true, pRetK]
      exact hQ h2 w2 p2 a2 (F1.tr a3) (fun k hk => (a4 k hk).trans (S1 k hk))
    | inr q =>
      obtain ⟨b1, c⟩ := q
      rw [e] at hQ
      simp only [bnd] at hQ
      have V := (lnP_ok A1.bd.1 A1.m10 A1.s24 hsl e).2
      have A2 := A1.apC V
      have ct := ct_cl A1 V
      intro h2 w2 p2 b2 a1 a2 a3 a4 a5 a6
      have S2 : ∀ k, k ≠ 1 → w2 k = w k := fun k hk => (a5 k hk).trans (S1 k hk)
      have v6 : w2 6 = w 6 := S2 6 (by decide)
      have hL2 : w2 0 11 = nI L := by rw [S2 0 (by decide)]; exact hL
      have a2' : skb (w 6) L p2 = b1 := by rw [← w6]; exact a2
      have hb1 : b1 ≤ L := by rw [← a2']; exact skb_le a1
      simp only [i_const, i_load, i_aload, i_store, i_astore, i_inc, i_iadd, i_isub, i_imul, i_idiv, i_irem, i_iand, i_ior, i_ixor, i_ishl, i_ishr, i_iushr, i_ineg, i_i2l, i_i2b, i_i2c, i_lcmp, i_dup, i_dup2, i_pop, i_null, i_alen, i_iald, i_bald, i_lald, i_aald, i_iast, i_bast, i_last, i_aast, i_goto, i_icmp_eq, i_icmp_ne, i_icmp_lt, i_icmp_ge, i_icmp_gt, i_icmp_le, i_if_eq, i_if_ne, i_if_lt, i_if_ge, i_if_gt, i_if_le, i_ifnonnull, i_getf, i_putf, i_iret, i_zret, i_aret, i_vret, i_new, i_newa, i_anew, i_oinit, i_callv, i_calls, i_calli, i_max, i_min, i_abs, i_copy, i_throw, i_ldcs, pwt, List.getElem?_cons_zero, List.getElem?_cons_succ, List.set_cons_zero, List.set_cons_succ, List.getD_cons_zero, List.getD_cons_succ, List.length_cons, List.length_nil, List.length_set, List.drop_succ_cons, List.drop_zero, List.take_succ_cons, List.take_zero, List.reverse_cons, List.reverse_nil, List.nil_append, List.cons_append, List.append_nil, List.map_cons, List.map_nil, List.sum_cons, List.sum_nil, Value.category, ne_eq, Nat.reduceEqDiff, reduceIte, ite_self, false_implies, true_implies, true_and, and_true, and_self, Nat.zero_le, Nat.le_refl, Nat.reduceLeDiff, Nat.reduceAdd, Nat.reduceLT, Nat.add_zero, Nat.zero_add, pu_eq, not_false_eq_true, not_true_eq_false, forall_const, if_true, if_false, implies_true, pRetK, show ¬ ((1 : Int32) = 0) by decide, a3.f0]
      refine c_X12_blanks a3 hL2 hL4 a1 (fun h3 X3 F3 => ?_)
      rw [v6, a2'] at X3
      have h11 : pp w2 b1 b1 0 11 = nI L := hL2
      by_cases c1 : L ≤ b1
      · rw [if_pos c1] at hQ
        have eb : b1 = L := by omega
        have e0 : nI b1 = nI L := by rw [eb]
        simp only [i_const, i_load, i_aload, i_store, i_astore, i_inc, i_iadd, i_isub, i_imul, i_idiv, i_irem, i_iand, i_ior, i_ixor, i_ishl, i_ishr, i_iushr, i_ineg, i_i2l, i_i2b, i_i2c, i_lcmp, i_dup, i_dup2, i_pop, i_null, i_alen, i_iald, i_bald, i_lald, i_aald, i_iast, i_bast, i_last, i_aast, i_goto, i_icmp_eq, i_icmp_ne, i_icmp_lt, i_icmp_ge, i_icmp_gt, i_icmp_le, i_if_eq, i_if_ne, i_if_lt, i_if_ge, i_if_gt, i_if_le, i_ifnonnull, i_getf, i_putf, i_iret, i_zret, i_aret, i_vret, i_new, i_newa, i_anew, i_oinit, i_callv, i_calls, i_calli, i_max, i_min, i_abs, i_copy, i_throw, i_ldcs, pwt, List.getElem?_cons_zero, List.getElem?_cons_succ, List.set_cons_zero, List.set_cons_succ, List.getD_cons_zero, List.getD_cons_succ, List.length_cons, List.length_nil, List.length_set, List.drop_succ_cons, List.drop_zero, List.take_succ_cons, List.take_zero, List.reverse_cons, List.reverse_nil, List.nil_append, List.cons_append, List.append_nil, List.map_cons, List.map_nil, List.sum_cons, List.sum_nil, Value.category, ne_eq, Nat.reduceEqDiff, reduceIte, ite_self, false_implies, true_implies, true_and, and_true, and_self, Nat.zero_le, Nat.le_refl, Nat.reduceLeDiff, Nat.reduceAdd, Nat.reduceLT, Nat.add_zero, Nat.zero_add, pu_eq, not_false_eq_true, not_true_eq_false, forall_const, if_true, if_false, implies_true, pRetK, X3.f0, pp10, h11, e0, nI_1]
        exact hQ h3 w2 b1 b1 X3 (F1.tr (a4.tr F3)) S2 a6 A2
      · rw [if_neg c1] at hQ
        have e0 : ¬ nI b1 = nI L := fun z => c1 (by rw [(nI_eq (by omega) (by omega)).mp z]; exact Nat.le_refl _)
        simp only [i_const, i_load, i_aload, i_store, i_astore, i_inc, i_iadd, i_isub, i_imul, i_idiv, i_irem, i_iand, i_ior, i_ixor, i_ishl, i_ishr, i_iushr, i_ineg, i_i2l, i_i2b, i_i2c, i_lcmp, i_dup, i_dup2, i_pop, i_null, i_alen, i_iald, i_bald, i_lald, i_aald, i_iast, i_bast, i_last, i_aast, i_goto, i_icmp_eq, i_icmp_ne, i_icmp_lt, i_icmp_ge, i_icmp_gt, i_icmp_le, i_if_eq, i_if_ne, i_if_lt, i_if_ge, i_if_gt, i_if_le, i_ifnonnull, i_getf, i_putf, i_iret, i_zret, i_aret, i_vret, i_new, i_newa, i_anew, i_oinit, i_callv, i_calls, i_calli, i_max, i_min, i_abs, i_copy, i_throw, i_ldcs, pwt, List.getElem?_cons_zero, List.getElem?_cons_succ, List.set_cons_zero, List.set_cons_succ, List.getD_cons_zero, List.getD_cons_succ, List.length_cons, List.length_nil, List.length_set, List.drop_succ_cons, List.drop_zero, List.take_succ_cons, List.take_zero, List.reverse_cons, List.reverse_nil, List.nil_append, List.cons_append, List.append_nil, List.map_cons, List.map_nil, List.sum_cons, List.sum_nil, Value.category, ne_eq, Nat.reduceEqDiff, reduceIte, ite_self, false_implies, true_implies, true_and, and_true, and_self, Nat.zero_le, Nat.le_refl, Nat.reduceLeDiff, Nat.reduceAdd, Nat.reduceLT, Nat.add_zero, Nat.zero_add, pu_eq, not_false_eq_true, not_true_eq_false, forall_const, if_true, if_false, implies_true, pRetK, X3.f0, pp10, h11, e0]
        refine c_X12_isAt X3 hL2 hL4 hb1 (fun y1 y2 => ?_) (fun y => ?_)
        · have f59 : w 6 b1 = 59 := by
            have := of_decide_eq_true y2
            rw [v6] at this
            exact Int32.le_antisymm this.2 this.1
          rw [if_pos (semi_is.mpr ⟨y1, f59⟩)] at hQ
          obtain ⟨X4, F4⟩ := X3.to (p' := b1 + 1) (b' := b1)
          simp only [i_const, i_load, i_aload, i_store, i_astore, i_inc, i_iadd, i_isub, i_imul, i_idiv, i_irem, i_iand, i_ior, i_ixor, i_ishl, i_ishr, i_iushr, i_ineg, i_i2l, i_i2b, i_i2c, i_lcmp, i_dup, i_dup2, i_pop, i_null, i_alen, i_iald, i_bald, i_lald, i_aald, i_iast, i_bast, i_last, i_aast, i_goto, i_icmp_eq, i_icmp_ne, i_icmp_lt, i_icmp_ge, i_icmp_gt, i_icmp_le, i_if_eq, i_if_ne, i_if_lt, i_if_ge, i_if_gt, i_if_le, i_ifnonnull, i_getf, i_putf, i_iret, i_zret, i_aret, i_vret, i_new, i_newa, i_anew, i_oinit, i_callv, i_calls, i_calli, i_max, i_min, i_abs, i_copy, i_throw, i_ldcs, pwt, List.getElem?_cons_zero, List.getElem?_cons_succ, List.set_cons_zero, List.set_cons_succ, List.getD_cons_zero, List.getD_cons_succ, List.length_cons, List.length_nil, List.length_set, List.drop_succ_cons, List.drop_zero, List.take_succ_cons, List.take_zero, List.reverse_cons, List.reverse_nil, List.nil_append, List.cons_append, List.append_nil, List.map_cons, List.map_nil, List.sum_cons, List.sum_nil, Value.category, ne_eq, Nat.reduceEqDiff, reduceIte, ite_self, false_implies, true_implies, true_and, and_true, and_self, Nat.zero_le, Nat.le_refl, Nat.reduceLeDiff, Nat.reduceAdd, Nat.reduceLT, Nat.add_zero, Nat.zero_add, pu_eq, not_false_eq_true, not_true_eq_false, forall_const, if_true, if_false, implies_true, pRetK, show ¬ ((1 : Int32) = 0) by decide, X3.f0, pp10, nI_1]
          refine ⟨rfl, rfl, ?_⟩
          refine ih (j + 1) (b1 + 1) b1 (nx (w 6) L b1) _ w2 (apC r1 c) (by omega) (by omega) ?_ X4 (F1.tr (a4.tr (F3.tr F4))) S2 a6 A2 ?_
          · unfold nx; rw [semi_nx ⟨y1, f59⟩]
          · rw [ct]
            cases e2 : txP (w 6) L k (nx (w 6) L b1) (ctC c (cl r1 1 0, cl r1 5 0, cl r1 8 0)) with
            | inl b3 =>
              rw [e2] at hQ
              exact hQ
            | inr q3 =>
              rw [e2] at hQ
              simp only [bnd] at hQ
              intro h5 w5 p5 b5 d1 d2 d3 d4 d5
              have := hQ h5 w5 p5 b5 d1 d2 d3 d4 d5
              rw [show j + (c :: q3.2).length = j + 1 + q3.2.length by rw [List.length_cons]; omega] at this
              exact this
        · have ns : ¬ isB (w 6) L b1 w_semi_ = true := fun z => y (by
            obtain ⟨z1, z2⟩ := semi_is.mp z
            refine ⟨z1, decide_eq_true ?_⟩
            rw [v6, z2]
            exact ⟨Int32.le_refl _, Int32.le_refl _⟩)
          rw [if_neg ns] at hQ
          simp only [i_const, i_load, i_aload, i_store, i_astore, i_inc, i_iadd, i_isub, i_imul, i_idiv, i_irem, i_iand, i_ior, i_ixor, i_ishl, i_ishr, i_iushr, i_ineg, i_i2l, i_i2b, i_i2c, i_lcmp, i_dup, i_dup2, i_pop, i_null, i_alen, i_iald, i_bald, i_lald, i_aald, i_iast, i_bast, i_last, i_aast, i_goto, i_icmp_eq, i_icmp_ne, i_icmp_lt, i_icmp_ge, i_icmp_gt, i_icmp_le, i_if_eq, i_if_ne, i_if_lt, i_if_ge, i_if_gt, i_if_le, i_ifnonnull, i_getf, i_putf, i_iret, i_zret, i_aret, i_vret, i_new, i_newa, i_anew, i_oinit, i_callv, i_calls, i_calli, i_max, i_min, i_abs, i_copy, i_throw, i_ldcs, pwt, List.getElem?_cons_zero, List.getElem?_cons_succ, List.set_cons_zero, List.set_cons_succ, List.getD_cons_zero, List.getD_cons_succ, List.length_cons, List.length_nil, List.length_set, List.drop_succ_cons, List.drop_zero, List.take_succ_cons, List.take_zero, List.reverse_cons, List.reverse_nil, List.nil_append, List.cons_append, List.append_nil, List.map_cons, List.map_nil, List.sum_cons, List.sum_nil, Value.category, ne_eq, Nat.reduceEqDiff, reduceIte, ite_self, false_implies, true_implies, true_and, and_true, and_self, Nat.zero_le, Nat.le_refl, Nat.reduceLeDiff, Nat.reduceAdd, Nat.reduceLT, Nat.add_zero, Nat.zero_add, pu_eq, not_false_eq_true, not_true_eq_false, forall_const, if_true, if_false, implies_true, pRetK]
          exact hQ h3 w2 b1 X3 (F1.tr (a4.tr F3)) S2
end MREADA

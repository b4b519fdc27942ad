/-! the reference: a battle's line -/
section MREAD6
variable {E : PE} {M : PM} {d : Nat} {Q : PQ} {h h' : PH} {n : Nat} {m a : Nat} {w : AR} {r : AR} {C : Option LawL} {pc : Nat} {L p b e : Nat} {cs : List Nat} {s : Nat}
theorem c_X12_isFigureP (X : MX h m (pp w p b)) (hL : w 0 11 = nI L) (hL4 : L ≤ 400) (hp : p ≤ L) (hs : skb (w 6) L p = s)
    (hQ1 : s < L ∧ rgP (w 6) 48 57 s = true → ∀ h', MX h' m (pp w s s) → FM m h h' → Q (.inl (some (.int 1))) h' n)
    (hQ0 : ¬ (s < L ∧ rgP (w 6) 48 57 s = true) → ∀ h', MX h' m (pp w s s) → FM m h h' → Q (.inl (some (.int 0))) h' n) : pCall E M_X12_isFigure (d + 2) [.ref m] h n Q := by
  subst hs
  exact c_X12_isFigure X hL hL4 hp (fun a b => hQ1 ⟨a, b⟩) hQ0
theorem nx_gtd {f : Nat → Int32} (c : b < L ∧ rgP f 48 57 b = true) : b < nx f L b := by
  have h1 := (dg_tk (f := f) (b := b) (L := L) (by omega))
  have h2 := h1.2 c
  have h3 := h1.1.mp c
  have h4 := adv_ge (rgP f 48 57) L b
  have h5 := adv_ge (blP f) L (tkE f L b)
  show b < adv (blP f) L (tkE f L b)
  omega
theorem nx_sk {f : Nat → Int32} : skb f L (nx f L b) = nx f L b := skb_skb tkE_le
theorem mr_arms (hn : cl r 1 0 < 8) (A : WA r) (hL4 : L ≤ 400) {town day : Int32} : ∀ (k : Nat) (s p b : Nat) (acc : Int32) (h1 : PH) (w1 : AR) (l3 : Option Value), L - s ≤ k → p ≤ L → skb (w1 6) L p = s → MX h1 m (pp w1 p b) → FM m h h1 → (∀ k, k ≠ 1 → w1 k = w k) → w 0 11 = nI L → w1 1 (8 + 3 * cl r 1 0 + 2) = acc → w1 1 0 = nI (cl r 1 0) →
    (∀ arms W', (∀ q, q ≠ 0 → q ≠ 8 + 3 * cl r 1 0 + 2 → W' q = w1 1 q) → W' 0 = nI (cl r 1 0 + 1) → W' (8 + 3 * cl r 1 0 + 2) = arms → RW W' (apC r (0, town, day, arms, 0, 0, 0)) C) →
    LQ Q n m L h w r C (bnd (nmP (w 6) L 4 0 5 s) (fun b5 v => bnd (wpP (w 6) L k b5 (acc ||| 1 <<< (v &&& 31))) (fun b6 arms => .inr (b6, (0, town, day, arms, 0, 0, 0))))) →
    PW E M_X12_readBattle (d + 5 + 1) Q 103 [some (.ref m), some (.int (nI (cl r 1 0))), some (.int (nI (8 + 3 * cl r 1 0))), l3] [] (h1, n, 0, 0) := by
  intro k
  induction k with
  | zero =>
    intro s p b acc h1 w1 l3 hk hp hs X1 F1 S1 hL ha h0 fin hQ
    have w6 : w1 6 = w 6 := S1 6 (by decide)
    have hL1 : w1 0 11 = nI L := by rw [S1 0 (by decide)]; exact hL
    refine b_X12_readBattle_103 _ _ _ ?_
    simp only [i_const, i_load, i_aload, i_store, i_astore, i_inc, i_iadd, i_isub, i_imul, i_idiv, i_irem, i_iand, i_ior, i_ixor, i_ishl, i_ishr, i_iushr, i_ineg, i_i2l, i_i2b, i_i2c, i_lcmp, i_dup, i_dup2, i_pop, i_null, i_alen, i_iald, i_bald, i_lald, i_aald, i_iast, i_bast, i_last, i_aast, i_goto, i_icmp_eq, i_icmp_ne, i_icmp_lt, i_icmp_ge, i_icmp_gt, i_icmp_le, i_if_eq, i_if_ne, i_if_lt, i_if_ge, i_if_gt, i_if_le, i_ifnonnull, i_getf, i_putf, i_iret, i_zret, i_aret, i_vret, i_new, i_newa, i_anew, i_oinit, i_callv, i_calls, i_calli, i_max, i_min, i_abs, i_copy, i_throw, i_ldcs, pwt, List.getElem?_cons_zero, List.getElem?_cons_succ, List.set_cons_zero, List.set_cons_succ, List.getD_cons_zero, List.getD_cons_succ, List.length_cons, List.length_nil, List.length_set, List.drop_succ_cons, List.drop_zero, List.take_succ_cons, List.take_zero, List.reverse_cons, List.reverse_nil, List.nil_append, List.cons_append, List.append_nil, List.map_cons, List.map_nil, List.sum_cons, List.sum_nil, Value.category, ne_eq, Nat.reduceEqDiff, reduceIte, ite_self, false_implies, true_implies, true_and, and_true, and_self, Nat.zero_le, Nat.le_refl, Nat.reduceLeDiff, Nat.reduceAdd, Nat.reduceLT, Nat.add_zero, Nat.zero_add, pu_eq, not_false_eq_true, not_true_eq_false, forall_const, if_true, if_false, implies_true, X1.f0]
    refine c_X12_numberP X1 hL1 hL4 hp hs ?_
    rw [w6]
    cases e : nmP (w 6) L 4 0 5 s with
    | inl b1 =>
      rw [e] at hQ
      simp only [bnd] at hQ
      intro h2 p2 g2 X2 F2
      simp only [i_const, i_load, i_aload, i_store, i_astore, i_inc, i_iadd, i_isub, i_imul, i_idiv, i_irem, i_iand, i_ior, i_ixor, i_ishl, i_ishr, i_iushr, i_ineg, i_i2l, i_i2b, i_i2c, i_lcmp, i_dup, i_dup2, i_pop, i_null, i_alen, i_iald, i_bald, i_lald, i_aald, i_iast, i_bast, i_last, i_aast, i_goto, i_icmp_eq, i_icmp_ne, i_icmp_lt, i_icmp_ge, i_icmp_gt, i_icmp_le, i_if_eq, i_if_ne, i_if_lt, i_if_ge, i_if_gt, i_if_le, i_ifnonnull, i_getf, i_putf, i_iret, i_zret, i_aret, i_vret, i_new, i_newa, i_anew, i_oinit, i_callv, i_calls, i_calli, i_max, i_min, i_abs, i_copy, i_throw, i_ldcs, pwt, List.getElem?_cons_zero, List.getElem?_cons_succ, List.set_cons_zero, List.set_cons_succ, List.getD_cons_zero, List.getD_cons_succ, List.length_cons, List.length_nil, List.length_set, List.drop_succ_cons, List.drop_zero, List.take_succ_cons, List.take_zero, List.reverse_cons, List.reverse_nil, List.nil_append, List.cons_append, List.append_nil, List.map_cons, List.map_nil, List.sum_cons, List.sum_nil, Value.category, ne_eq, Nat.reduceEqDiff, reduceIte, ite_self, false_implies, true_implies, true_and, and_true, and_self, Nat.zero_le, Nat.le_refl, Nat.reduceLeDiff, Nat.reduceAdd, Nat.reduceLT, Nat.add_zero, Nat.zero_add, pu_eq, not_false_eq_true, not_true_eq_false, forall_const, if_true, if_false, implies_true, pRetK, show ¬ (0 : Int32) ≤ -1 by decide]
      exact ⟨Or.inl trivial, hQ h2 w1 p2 g2 X2 (F1.tr F2) S1⟩
    | inr q1 =>
      obtain ⟨b1, v⟩ := q1
      exfalso
      by_cases c : nmB (w 6) L s 4 0 5 = true
      · have := (of_decide_eq_true c).1.1
        omega
      · rw [nm_n c] at e; cases e
  | succ k ih =>
    intro s p b acc h1 w1 l3 hk hp hs X1 F1 S1 hL ha h0 fin hQ
    have w6 : w1 6 = w 6 := S1 6 (by decide)
    have hL1 : w1 0 11 = nI L := by rw [S1 0 (by decide)]; exact hL
    refine b_X12_readBattle_103 _ _ _ ?_
    simp only [i_const, i_load, i_aload, i_store, i_astore, i_inc, i_iadd, i_isub, i_imul, i_idiv, i_irem, i_iand, i_ior, i_ixor, i_ishl, i_ishr, i_iushr, i_ineg, i_i2l, i_i2b, i_i2c, i_lcmp, i_dup, i_dup2, i_pop, i_null, i_alen, i_iald, i_bald, i_lald, i_aald, i_iast, i_bast, i_last, i_aast, i_goto, i_icmp_eq, i_icmp_ne, i_icmp_lt, i_icmp_ge, i_icmp_gt, i_icmp_le, i_if_eq, i_if_ne, i_if_lt, i_if_ge, i_if_gt, i_if_le, i_ifnonnull, i_getf, i_putf, i_iret, i_zret, i_aret, i_vret, i_new, i_newa, i_anew, i_oinit, i_callv, i_calls, i_calli, i_max, i_min, i_abs, i_copy, i_throw, i_ldcs, pwt, List.getElem?_cons_zero, List.getElem?_cons_succ, List.set_cons_zero, List.set_cons_succ, List.getD_cons_zero, List.getD_cons_succ, List.length_cons, List.length_nil, List.length_set, List.drop_succ_cons, List.drop_zero, List.take_succ_cons, List.take_zero, List.reverse_cons, List.reverse_nil, List.nil_append, List.cons_append, List.append_nil, List.map_cons, List.map_nil, List.sum_cons, List.sum_nil, Value.category, ne_eq, Nat.reduceEqDiff, reduceIte, ite_self, false_implies, true_implies, true_and, and_true, and_self, Nat.zero_le, Nat.le_refl, Nat.reduceLeDiff, Nat.reduceAdd, Nat.reduceLT, Nat.add_zero, Nat.zero_add, pu_eq, not_false_eq_true, not_true_eq_false, forall_const, if_true, if_false, implies_true, X1.f0]
    refine c_X12_numberP X1 hL1 hL4 hp hs ?_
    rw [w6]
    cases e : nmP (w 6) L 4 0 5 s with
    | inl b1 =>
      rw [e] at hQ
      simp only [bnd] at hQ
      intro h2 p2 g2 X2 F2
      simp only [i_const, i_load, i_aload, i_store, i_astore, i_inc, i_iadd, i_isub, i_imul, i_idiv, i_irem, i_iand, i_ior, i_ixor, i_ishl, i_ishr, i_iushr, i_ineg, i_i2l, i_i2b, i_i2c, i_lcmp, i_dup, i_dup2, i_pop, i_null, i_alen, i_iald, i_bald, i_lald, i_aald, i_iast, i_bast, i_last, i_aast, i_goto, i_icmp_eq, i_icmp_ne, i_icmp_lt, i_icmp_ge, i_icmp_gt, i_icmp_le, i_if_eq, i_if_ne, i_if_lt, i_if_ge, i_if_gt, i_if_le, i_ifnonnull, i_getf, i_putf, i_iret, i_zret, i_aret, i_vret, i_new, i_newa, i_anew, i_oinit, i_callv, i_calls, i_calli, i_max, i_min, i_abs, i_copy, i_throw, i_ldcs, pwt, List.getElem?_cons_zero, List.getElem?_cons_succ, List.set_cons_zero, List.set_cons_succ, List.getD_cons_zero, List.getD_cons_succ, List.length_cons, List.length_nil, List.length_set, List.drop_succ_cons, List.drop_zero, List.take_succ_cons, List.take_zero, List.reverse_cons, List.reverse_nil, List.nil_append, List.cons_append, List.append_nil, List.map_cons, List.map_nil, List.sum_cons, List.sum_nil, Value.category, ne_eq, Nat.reduceEqDiff, reduceIte, ite_self, false_implies, true_implies, true_and, and_true, and_self, Nat.zero_le, Nat.le_refl, Nat.reduceLeDiff, Nat.reduceAdd, Nat.reduceLT, Nat.add_zero, Nat.zero_add, pu_eq, not_false_eq_true, not_true_eq_false, forall_const, if_true, if_false, implies_true, pRetK, show ¬ (0 : Int32) ≤ -1 by decide]
      exact ⟨Or.inl trivial, hQ h2 w1 p2 g2 X2 (F1.tr F2) S1⟩
    | inr q1 =>
      obtain ⟨b1, v⟩ := q1
      rw [e] at hQ
      simp only [bnd] at hQ
      intro h2 p2 c2 g2 s2 X2 F2
      have s2' : skb (w1 6) L p2 = b1 := s2
      have z : 0 ≤ v := nm_val e (by decide)
      have lt : s < b1 := by
        by_cases c : nmB (w 6) L s 4 0 5 = true
        · rw [nm_y c] at e
          cases e
          exact nx_gtd (of_decide_eq_true c).1
        · rw [nm_n c] at e; cases e
      have i2 : nI (8 + 3 * cl r 1 0) + 2 = nI (8 + 3 * cl r 1 0 + 2) := nI_add _ 2
      have ha' : (pp w1 p2 c2) 1 (8 + 3 * cl r 1 0 + 2) = acc := ha
      obtain ⟨X3, F3⟩ := X2.wr (q := 8 + 3 * cl r 1 0 + 2) (acc ||| 1 <<< (v &&& 31))
      simp only [i_const, i_load, i_aload, i_store, i_astore, i_inc, i_iadd, i_isub, i_imul, i_idiv, i_irem, i_iand, i_ior, i_ixor, i_ishl, i_ishr, i_iushr, i_ineg, i_i2l, i_i2b, i_i2c, i_lcmp, i_dup, i_dup2, i_pop, i_null, i_alen, i_iald, i_bald, i_lald, i_aald, i_iast, i_bast, i_last, i_aast, i_goto, i_icmp_eq, i_icmp_ne, i_icmp_lt, i_icmp_ge, i_icmp_gt, i_icmp_le, i_if_eq, i_if_ne, i_if_lt, i_if_ge, i_if_gt, i_if_le, i_ifnonnull, i_getf, i_putf, i_iret, i_zret, i_aret, i_vret, i_new, i_newa, i_anew, i_oinit, i_callv, i_calls, i_calli, i_max, i_min, i_abs, i_copy, i_throw, i_ldcs, pwt, List.getElem?_cons_zero, List.getElem?_cons_succ, List.set_cons_zero, List.set_cons_succ, List.getD_cons_zero, List.getD_cons_succ, List.length_cons, List.length_nil, List.length_set, List.drop_succ_cons, List.drop_zero, List.take_succ_cons, List.take_zero, List.reverse_cons, List.reverse_nil, List.nil_append, List.cons_append, List.append_nil, List.map_cons, List.map_nil, List.sum_cons, List.sum_nil, Value.category, ne_eq, Nat.reduceEqDiff, reduceIte, ite_self, false_implies, true_implies, true_and, and_true, and_self, Nat.zero_le, Nat.le_refl, Nat.reduceLeDiff, Nat.reduceAdd, Nat.reduceLT, Nat.add_zero, Nat.zero_add, pu_eq, not_false_eq_true, not_true_eq_false, forall_const, if_true, if_false, implies_true, pRetK, z, X2.f0, X2.f1, i2, ha', vp_in_nI (show 8 + 3 * cl r 1 0 + 2 < 2252 by omega) (by decide), nI_clamp (show 8 + 3 * cl r 1 0 + 2 < 2 ^ 31 by omega), pu_add0]
      have hL3 : (ru w1 1 (8 + 3 * cl r 1 0 + 2) (acc ||| 1 <<< (v &&& 31))) 0 11 = nI L := hL1
      have S3 : ∀ k, k ≠ 1 → (ru w1 1 (8 + 3 * cl r 1 0 + 2) (acc ||| 1 <<< (v &&& 31))) k = w k := fun k hk => by rw [ru_ne hk]; exact S1 k hk
      refine c_X12_isFigureP X3 hL3 hL4 g2 (s := b1) s2' (fun q h4 X4 F4 => ?_) (fun q h4 X4 F4 => ?_)
      · have q' : b1 < L ∧ rgP (w 6) 48 57 b1 = true := by rw [← w6]; exact q
        simp only [i_const, i_load, i_aload, i_store, i_astore, i_inc, i_iadd, i_isub, i_imul, i_idiv, i_irem, i_iand, i_ior, i_ixor, i_ishl, i_ishr, i_iushr, i_ineg, i_i2l, i_i2b, i_i2c, i_lcmp, i_dup, i_dup2, i_pop, i_null, i_alen, i_iald, i_bald, i_lald, i_aald, i_iast, i_bast, i_last, i_aast, i_goto, i_icmp_eq, i_icmp_ne, i_icmp_lt, i_icmp_ge, i_icmp_gt, i_icmp_le, i_if_eq, i_if_ne, i_if_lt, i_if_ge, i_if_gt, i_if_le, i_ifnonnull, i_getf, i_putf, i_iret, i_zret, i_aret, i_vret, i_new, i_newa, i_anew, i_oinit, i_callv, i_calls, i_calli, i_max, i_min, i_abs, i_copy, i_throw, i_ldcs, pwt, List.getElem?_cons_zero, List.getElem?_cons_succ, List.set_cons_zero, List.set_cons_succ, List.getD_cons_zero, List.getD_cons_succ, List.length_cons, List.length_nil, List.length_set, List.drop_succ_cons, List.drop_zero, List.take_succ_cons, List.take_zero, List.reverse_cons, List.reverse_nil, List.nil_append, List.cons_append, List.append_nil, List.map_cons, List.map_nil, List.sum_cons, List.sum_nil, Value.category, ne_eq, Nat.reduceEqDiff, reduceIte, ite_self, false_implies, true_implies, true_and, and_true, and_self, Nat.zero_le, Nat.le_refl, Nat.reduceLeDiff, Nat.reduceAdd, Nat.reduceLT, Nat.add_zero, Nat.zero_add, pu_eq, not_false_eq_true, not_true_eq_false, forall_const, if_true, if_false, implies_true, pRetK, show ¬ ((1 : Int32) = 0) by decide]
        refine ih b1 b1 b1 (acc ||| 1 <<< (v &&& 31)) h4 _ _ (by omega) (by omega) ?_ X4 (F1.tr (F2.tr (F3.tr F4))) S3 hL ?_ ?_ (fun arms W' f1 f2 f3 => fin arms W' (fun q q0 q8 => ?_) f2 f3) ?_
        · show skb (w1 6) L b1 = b1
          rw [← s2']; exact skb_skb g2
        · rw [ru_eq, upd_eq]
        · rw [ru_eq, upd_ne (by omega)]; exact h0
        · rw [f1 q q0 q8, ru_eq, upd_ne q8]
        · rw [wpP, if_pos q'] at hQ
          by_cases c : nmB (w 6) L b1 4 0 5 = true
          · rw [if_pos c] at hQ
            rw [nm_y c]
            exact hQ
          · rw [if_neg c] at hQ
            rw [nm_n c]
            exact hQ
      · have q' : ¬ (b1 < L ∧ rgP (w 6) 48 57 b1 = true) := by rw [← w6]; exact q
        rw [wpP, if_neg q'] at hQ
        simp only [bnd] at hQ
        have k0 := v2252 (x := 0) (i := 0) rfl (by decide)
        have o0 : (pp (ru w1 1 (8 + 3 * cl r 1 0 + 2) (acc ||| 1 <<< (v &&& 31))) b1 b1) 1 0 = nI (cl r 1 0) := by
          rw [pp_k (by decide), ru_eq, upd_ne (by omega)]; exact h0
        obtain ⟨X5, F5⟩ := X4.wr (q := 0) (nI (cl r 1 0 + 1))
        simp only [i_const, i_load, i_aload, i_store, i_astore, i_inc, i_iadd, i_isub, i_imul, i_idiv, i_irem, i_iand, i_ior, i_ixor, i_ishl, i_ishr, i_iushr, i_ineg, i_i2l, i_i2b, i_i2c, i_lcmp, i_dup, i_dup2, i_pop, i_null, i_alen, i_iald, i_bald, i_lald, i_aald, i_iast, i_bast, i_last, i_aast, i_goto, i_icmp_eq, i_icmp_ne, i_icmp_lt, i_icmp_ge, i_icmp_gt, i_icmp_le, i_if_eq, i_if_ne, i_if_lt, i_if_ge, i_if_gt, i_if_le, i_ifnonnull, i_getf, i_putf, i_iret, i_zret, i_aret, i_vret, i_new, i_newa, i_anew, i_oinit, i_callv, i_calls, i_calli, i_max, i_min, i_abs, i_copy, i_throw, i_ldcs, pwt, List.getElem?_cons_zero, List.getElem?_cons_succ, List.set_cons_zero, List.set_cons_succ, List.getD_cons_zero, List.getD_cons_succ, List.length_cons, List.length_nil, List.length_set, List.drop_succ_cons, List.drop_zero, List.take_succ_cons, List.take_zero, List.reverse_cons, List.reverse_nil, List.nil_append, List.cons_append, List.append_nil, List.map_cons, List.map_nil, List.sum_cons, List.sum_nil, Value.category, ne_eq, Nat.reduceEqDiff, reduceIte, ite_self, false_implies, true_implies, true_and, and_true, and_self, Nat.zero_le, Nat.le_refl, Nat.reduceLeDiff, Nat.reduceAdd, Nat.reduceLT, Nat.add_zero, Nat.zero_add, pu_eq, not_false_eq_true, not_true_eq_false, forall_const, if_true, if_false, implies_true, pRetK, X4.f0, X4.f1, k0.1, k0.2, o0, nI_1]
        refine ⟨Or.inr trivial, hQ _ _ b1 b1 ?_ ?_ X5 (F1.tr (F2.tr (F3.tr (F4.tr F5)))) (fun k hk => by rw [ru_ne hk]; exact S3 k hk) (fin _ _ (fun q q0 q8 => ?_) ?_ ?_)⟩
        · rw [← s2']; exact skb_le g2
        · rw [← w6, ← s2']; exact skb_skb g2
        · rw [ru_eq, upd_ne q0, ru_eq, upd_ne q8]
        · rw [ru_eq, upd_eq]
        · rw [ru_eq, upd_ne (by omega), ru_eq, upd_eq]
end MREAD6

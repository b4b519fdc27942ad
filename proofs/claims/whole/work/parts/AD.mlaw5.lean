/-! the reference: the text of a law -/
section MLAW5
variable {E : PE} {M : PM} {d : Nat} {Q : PQ} {h h' : PH} {n : Nat} {m a : Nat} {w w' w'' : AR} {r : AR} {C : Option LawL} {pc : Nat} {L p b e j : Nat} {cs : List Nat} {s : Nat} {f : Nat → Int32}
theorem c_X12_readLine0 (hE : EC E) (X : MX h m (pp w p b)) (h6 : w 6 = f) (hp : p ≤ L) (hs : skb f L p = s) (hj : j ≤ 12) (S : SP w cs) (lc : cs.length ≤ s) (hL : w 0 11 = nI L) (hL4 : L ≤ 400) (hQ : MLL Q n m L h w cs j (if j = 12 then .inl s else llP f L s)) : pCall E M_X12_readLine (d + 29) [.ref m, .int 0, .int (nI j)] h n Q := by
  refine pCall_of rfl rfl (Nat.le_of_ble_eq_true rfl) (by simp [Value.category]) ?_
  refine b_X12_readLine_0 _ _ _ ?_
  simp only [pEntry, PM.nL, M_X12_readLine, List.map_cons, List.map_nil, List.length_cons, List.length_nil, Nat.reduceAdd, Nat.reduceSub, Nat.sub_self, List.replicate_succ, List.replicate_zero, List.cons_append, List.nil_append]
  have hsl : s ≤ L := by rw [← hs]; exact skb_le hp
  simp only [i_const, i_load, i_aload, i_store, i_astore, i_inc, i_iadd, i_isub, i_imul, i_idiv, i_irem, i_iand, i_ior, i_ixor, i_ishl, i_ishr, i_iushr, i_ineg, i_i2l, i_i2b, i_i2c, i_lcmp, i_dup, i_dup2, i_pop, i_null, i_alen, i_iald, i_bald, i_lald, i_aald, i_iast, i_bast, i_last, i_aast, i_goto, i_icmp_eq, i_icmp_ne, i_icmp_lt, i_icmp_ge, i_icmp_gt, i_icmp_le, i_if_eq, i_if_ne, i_if_lt, i_if_ge, i_if_gt, i_if_le, i_ifnonnull, i_getf, i_putf, i_iret, i_zret, i_aret, i_vret, i_new, i_newa, i_anew, i_oinit, i_callv, i_calls, i_calli, i_max, i_min, i_abs, i_copy, i_throw, i_ldcs, pwt, List.getElem?_cons_zero, List.getElem?_cons_succ, List.set_cons_zero, List.set_cons_succ, List.getD_cons_zero, List.getD_cons_succ, List.length_cons, List.length_nil, List.length_set, List.drop_succ_cons, List.drop_zero, List.take_succ_cons, List.take_zero, List.reverse_cons, List.reverse_nil, List.nil_append, List.cons_append, List.append_nil, List.map_cons, List.map_nil, List.sum_cons, List.sum_nil, Value.category, ne_eq, Nat.reduceEqDiff, reduceIte, ite_self, false_implies, true_implies, true_and, and_true, and_self, Nat.zero_le, Nat.le_refl, Nat.reduceLeDiff, Nat.reduceAdd, Nat.reduceLT, Nat.add_zero, Nat.zero_add, pu_eq, not_false_eq_true, not_true_eq_false, forall_const, if_true, if_false, implies_true, X.f0]
  refine c_X12_letters (d := d + 26) X hL hL4 hp (fun h0 X0 F0 => ?_)
  rw [h6, hs] at X0
  simp only [i_const, i_load, i_aload, i_store, i_astore, i_inc, i_iadd, i_isub, i_imul, i_idiv, i_irem, i_iand, i_ior, i_ixor, i_ishl, i_ishr, i_iushr, i_ineg, i_i2l, i_i2b, i_i2c, i_lcmp, i_dup, i_dup2, i_pop, i_null, i_alen, i_iald, i_bald, i_lald, i_aald, i_iast, i_bast, i_last, i_aast, i_goto, i_icmp_eq, i_icmp_ne, i_icmp_lt, i_icmp_ge, i_icmp_gt, i_icmp_le, i_if_eq, i_if_ne, i_if_lt, i_if_ge, i_if_gt, i_if_le, i_ifnonnull, i_getf, i_putf, i_iret, i_zret, i_aret, i_vret, i_new, i_newa, i_anew, i_oinit, i_callv, i_calls, i_calli, i_max, i_min, i_abs, i_copy, i_throw, i_ldcs, pwt, List.getElem?_cons_zero, List.getElem?_cons_succ, List.set_cons_zero, List.set_cons_succ, List.getD_cons_zero, List.getD_cons_succ, List.length_cons, List.length_nil, List.length_set, List.drop_succ_cons, List.drop_zero, List.take_succ_cons, List.take_zero, List.reverse_cons, List.reverse_nil, List.nil_append, List.cons_append, List.append_nil, List.map_cons, List.map_nil, List.sum_cons, List.sum_nil, Value.category, ne_eq, Nat.reduceEqDiff, reduceIte, ite_self, false_implies, true_implies, true_and, and_true, and_self, Nat.zero_le, Nat.le_refl, Nat.reduceLeDiff, Nat.reduceAdd, Nat.reduceLT, Nat.add_zero, Nat.zero_add, pu_eq, not_false_eq_true, not_true_eq_false, forall_const, if_true, if_false, implies_true, pRetK]
  refine b_X12_readLine_16 _ _ _ ?_
  have g2 := adv_le (rgP f 97 122) hsl
  by_cases c : j = 12
  · rw [if_pos c] at hQ
    have e1 : (12 : Int32) ≤ nI j := nI_le (a := 12) (by omega) (by omega)
    simp only [i_const, i_load, i_aload, i_store, i_astore, i_inc, i_iadd, i_isub, i_imul, i_idiv, i_irem, i_iand, i_ior, i_ixor, i_ishl, i_ishr, i_iushr, i_ineg, i_i2l, i_i2b, i_i2c, i_lcmp, i_dup, i_dup2, i_pop, i_null, i_alen, i_iald, i_bald, i_lald, i_aald, i_iast, i_bast, i_last, i_aast, i_goto, i_icmp_eq, i_icmp_ne, i_icmp_lt, i_icmp_ge, i_icmp_gt, i_icmp_le, i_if_eq, i_if_ne, i_if_lt, i_if_ge, i_if_gt, i_if_le, i_ifnonnull, i_getf, i_putf, i_iret, i_zret, i_aret, i_vret, i_new, i_newa, i_anew, i_oinit, i_callv, i_calls, i_calli, i_max, i_min, i_abs, i_copy, i_throw, i_ldcs, pwt, List.getElem?_cons_zero, List.getElem?_cons_succ, List.set_cons_zero, List.set_cons_succ, List.getD_cons_zero, List.getD_cons_succ, List.length_cons, List.length_nil, List.length_set, List.drop_succ_cons, List.drop_zero, List.take_succ_cons, List.take_zero, List.reverse_cons, List.reverse_nil, List.nil_append, List.cons_append, List.append_nil, List.map_cons, List.map_nil, List.sum_cons, List.sum_nil, Value.category, ne_eq, Nat.reduceEqDiff, reduceIte, ite_self, false_implies, true_implies, true_and, and_true, and_self, Nat.zero_le, Nat.le_refl, Nat.reduceLeDiff, Nat.reduceAdd, Nat.reduceLT, Nat.add_zero, Nat.zero_add, pu_eq, not_false_eq_true, not_true_eq_false, forall_const, if_true, if_false, implies_true, e1]
    exact ⟨Or.inl trivial, hQ h0 w _ g2 X0 F0 LL.rf⟩
  · rw [if_neg c] at hQ
    have e1 : ¬ (12 : Int32) ≤ nI j := nI_ge (a := j) (b := 12) (by omega) (by decide)
    simp only [i_const, i_load, i_aload, i_store, i_astore, i_inc, i_iadd, i_isub, i_imul, i_idiv, i_irem, i_iand, i_ior, i_ixor, i_ishl, i_ishr, i_iushr, i_ineg, i_i2l, i_i2b, i_i2c, i_lcmp, i_dup, i_dup2, i_pop, i_null, i_alen, i_iald, i_bald, i_lald, i_aald, i_iast, i_bast, i_last, i_aast, i_goto, i_icmp_eq, i_icmp_ne, i_icmp_lt, i_icmp_ge, i_icmp_gt, i_icmp_le, i_if_eq, i_if_ne, i_if_lt, i_if_ge, i_if_gt, i_if_le, i_ifnonnull, i_getf, i_putf, i_iret, i_zret, i_aret, i_vret, i_new, i_newa, i_anew, i_oinit, i_callv, i_calls, i_calli, i_max, i_min, i_abs, i_copy, i_throw, i_ldcs, pwt, List.getElem?_cons_zero, List.getElem?_cons_succ, List.set_cons_zero, List.set_cons_succ, List.getD_cons_zero, List.getD_cons_succ, List.length_cons, List.length_nil, List.length_set, List.drop_succ_cons, List.drop_zero, List.take_succ_cons, List.take_zero, List.reverse_cons, List.reverse_nil, List.nil_append, List.cons_append, List.append_nil, List.map_cons, List.map_nil, List.sum_cons, List.sum_nil, Value.category, ne_eq, Nat.reduceEqDiff, reduceIte, ite_self, false_implies, true_implies, true_and, and_true, and_self, Nat.zero_le, Nat.le_refl, Nat.reduceLeDiff, Nat.reduceAdd, Nat.reduceLT, Nat.add_zero, Nat.zero_add, pu_eq, not_false_eq_true, not_true_eq_false, forall_const, if_true, if_false, implies_true, e1, X0.f0]
    refine c_X12_readLawLine hE X0 h6 hsl S lc (by omega) hL hL4 ?_
    cases e : llP f L s with
    | inl b1 =>
      rw [e] at hQ
      intro h1 w1 p1 a1 a2 a3 a4
      simp only [i_const, i_load, i_aload, i_store, i_astore, i_inc, i_iadd, i_isub, i_imul, i_idiv, i_irem, i_iand, i_ior, i_ixor, i_ishl, i_ishr, i_iushr, i_ineg, i_i2l, i_i2b, i_i2c, i_lcmp, i_dup, i_dup2, i_pop, i_null, i_alen, i_iald, i_bald, i_lald, i_aald, i_iast, i_bast, i_last, i_aast, i_goto, i_icmp_eq, i_icmp_ne, i_icmp_lt, i_icmp_ge, i_icmp_gt, i_icmp_le, i_if_eq, i_if_ne, i_if_lt, i_if_ge, i_if_gt, i_if_le, i_ifnonnull, i_getf, i_putf, i_iret, i_zret, i_aret, i_vret, i_new, i_newa, i_anew, i_oinit, i_callv, i_calls, i_calli, i_max, i_min, i_abs, i_copy, i_throw, i_ldcs, pwt, List.getElem?_cons_zero, List.getElem?_cons_succ, List.set_cons_zero, List.set_cons_succ, List.getD_cons_zero, List.getD_cons_succ, List.length_cons, List.length_nil, List.length_set, List.drop_succ_cons, List.drop_zero, List.take_succ_cons, List.take_zero, List.reverse_cons, List.reverse_nil, List.nil_append, List.cons_append, List.append_nil, List.map_cons, List.map_nil, List.sum_cons, List.sum_nil, Value.category, ne_eq, Nat.reduceEqDiff, reduceIte, ite_self, false_implies, true_implies, true_and, and_true, and_self, Nat.zero_le, Nat.le_refl, Nat.reduceLeDiff, Nat.reduceAdd, Nat.reduceLT, Nat.add_zero, Nat.zero_add, pu_eq, not_false_eq_true, not_true_eq_false, forall_const, if_true, if_false, implies_true, pRetK]
      exact ⟨Or.inl trivial, hQ h1 w1 p1 a1 a2 (F0.tr a3) a4⟩
    | inr q =>
      rw [e] at hQ
      intro h1 w1 p1 b1 a1 a2 a3 a4 a5 a6 a7
      simp only [i_const, i_load, i_aload, i_store, i_astore, i_inc, i_iadd, i_isub, i_imul, i_idiv, i_irem, i_iand, i_ior, i_ixor, i_ishl, i_ishr, i_iushr, i_ineg, i_i2l, i_i2b, i_i2c, i_lcmp, i_dup, i_dup2, i_pop, i_null, i_alen, i_iald, i_bald, i_lald, i_aald, i_iast, i_bast, i_last, i_aast, i_goto, i_icmp_eq, i_icmp_ne, i_icmp_lt, i_icmp_ge, i_icmp_gt, i_icmp_le, i_if_eq, i_if_ne, i_if_lt, i_if_ge, i_if_gt, i_if_le, i_ifnonnull, i_getf, i_putf, i_iret, i_zret, i_aret, i_vret, i_new, i_newa, i_anew, i_oinit, i_callv, i_calls, i_calli, i_max, i_min, i_abs, i_copy, i_throw, i_ldcs, pwt, List.getElem?_cons_zero, List.getElem?_cons_succ, List.set_cons_zero, List.set_cons_succ, List.getD_cons_zero, List.getD_cons_succ, List.length_cons, List.length_nil, List.length_set, List.drop_succ_cons, List.drop_zero, List.take_succ_cons, List.take_zero, List.reverse_cons, List.reverse_nil, List.nil_append, List.cons_append, List.append_nil, List.map_cons, List.map_nil, List.sum_cons, List.sum_nil, Value.category, ne_eq, Nat.reduceEqDiff, reduceIte, ite_self, false_implies, true_implies, true_and, and_true, and_self, Nat.zero_le, Nat.le_refl, Nat.reduceLeDiff, Nat.reduceAdd, Nat.reduceLT, Nat.add_zero, Nat.zero_add, pu_eq, not_false_eq_true, not_true_eq_false, forall_const, if_true, if_false, implies_true, pRetK, show ¬ ((1 : Int32) = 0) by decide]
      exact ⟨Or.inr trivial, hQ h1 w1 p1 b1 a1 a2 a3 (F0.tr a4) a5 a6 a7⟩
/-- the steps of a law, one behind the other -/
def flL : LawL → List Nat
  | [] => []
  | l :: t => l.2.2 ++ flL t
theorem flL_ap (ls : LawL) (l : Nat × Nat × List Nat) : flL (ls ++ [l]) = flL ls ++ l.2.2 := by
  induction ls with
  | nil => simp [flL]
  | cons c t ih => simp [flL, ih]
theorem sN_ap : ∀ (ls : LawL) (l : Nat × Nat × List Nat) (i : Nat), i < ls.length → sN (ls ++ [l]) i = sN ls i
  | [], _, i, hi => absurd hi (Nat.not_lt_zero i)
  | _ :: _, _, 0, _ => rfl
  | c :: t, l, i + 1, hi => by
    show c.2.2.length + sN (t ++ [l]) i = c.2.2.length + sN t i
    rw [sN_ap t l i (by simpa using hi)]
theorem sN_len : ∀ (ls : LawL) (l : Nat × Nat × List Nat), sN (ls ++ [l]) ls.length = (flL ls).length
  | [], _ => rfl
  | c :: t, l => by
    show c.2.2.length + sN (t ++ [l]) t.length = (c.2.2 ++ flL t).length
    rw [sN_len t l, List.length_append]
theorem flL_at : ∀ (ls : LawL) (i : Nat) (l : Nat × Nat × List Nat), ls[i]? = some l → sN ls i + l.2.2.length ≤ (flL ls).length ∧ ∀ j, j < l.2.2.length → (flL ls).getD (sN ls i + j) 0 = l.2.2.getD j 0
  | [], i, l, e => by simp at e
  | c :: t, 0, l, e => by
    have : c = l := by simpa using e
    subst this
    refine ⟨by show 0 + c.2.2.length ≤ (c.2.2 ++ flL t).length; rw [List.length_append]; omega, fun j hj => ?_⟩
    show (c.2.2 ++ flL t).getD (0 + j) 0 = c.2.2.getD j 0
    rw [Nat.zero_add, List.getD_eq_getElem?_getD, List.getD_eq_getElem?_getD, List.getElem?_append_left hj]
  | c :: t, i + 1, l, e => by
    have e' : t[i]? = some l := by simpa using e
    obtain ⟨h1, h2⟩ := flL_at t i l e'
    refine ⟨by show c.2.2.length + sN t i + l.2.2.length ≤ (c.2.2 ++ flL t).length; rw [List.length_append]; omega, fun j hj => ?_⟩
    show (c.2.2 ++ flL t).getD (c.2.2.length + sN t i + j) 0 = l.2.2.getD j 0
    rw [List.getD_eq_getElem?_getD, List.getElem?_append_right (by omega), show c.2.2.length + sN t i + j - c.2.2.length = sN t i + j by omega, ← List.getD_eq_getElem?_getD]
    exact h2 j hj
/-- the lines that lie there -/
def DT (w : AR) (ls : LawL) : Prop := SP w (flL ls) ∧ ∀ i l, ls[i]? = some l → w 1 (1404 + 4 * i) = kdI l.1 ∧ w 1 (1404 + 4 * i + 1) = nI l.2.1 ∧ w 1 (1404 + 4 * i + 2) = nI (sN ls i) ∧ w 1 (1404 + 4 * i + 3) = nI (sN ls i + l.2.2.length)
theorem DT.ap {ls : LawL} {l : Nat × Nat × List Nat} (D : DT w ls) (T : LL w w' ls.length) (S : SP w' (flL ls ++ l.2.2)) (k : w' 1 (1404 + 4 * ls.length) = kdI l.1 ∧ w' 1 (1404 + 4 * ls.length + 1) = nI l.2.1 ∧ w' 1 (1404 + 4 * ls.length + 2) = nI (flL ls).length ∧ w' 1 (1404 + 4 * ls.length + 3) = nI ((flL ls).length + l.2.2.length)) : DT w' (ls ++ [l]) := by
  refine ⟨by rw [flL_ap]; exact S, fun i l' e => ?_⟩
  by_cases c : i < ls.length
  · rw [List.getElem?_append_left c] at e
    obtain ⟨d1, d2, d3, d4⟩ := D.2 i l' e
    rw [sN_ap ls l i c, T.2.2 _ (by omega), T.2.2 _ (by omega), T.2.2 _ (by omega), T.2.2 _ (by omega)]
    exact ⟨d1, d2, d3, d4⟩
  · rw [List.getElem?_append_right (by omega)] at e
    have hi : i = ls.length := by
      by_cases z : i - ls.length = 0
      · omega
      · obtain ⟨y, hy⟩ : ∃ y, i - ls.length = y + 1 := ⟨i - ls.length - 1, by omega⟩
        rw [hy] at e
        simp at e
    subst hi
    have : l = l' := by simpa using e
    subst this
    rw [sN_len]
    exact k
/-- what the reading of lines leaves -/
def TLQ (Q : PQ) (n m j : Nat) (h : PH) (w : AR) (done : LawL) (R : PR LawL) : Prop := match R with
  | .inl b => ∀ h' w' p', MX h' m (pp w' p' b) → FM m h h' → LL w w' 0 → Q (.inl (some (.int (-1)))) h' n
  | .inr q => ∀ h' w' p' b', MX h' m (pp w' p' b') → FM m h h' → LL w w' 0 → DT w' (done ++ q.2) → Q (.inl (some (.int (nI (j + q.2.length))))) h' n
theorem mr_law (hE : EC E) (h6 : w 6 = f) (hL : w 0 11 = nI L) (hL4 : L ≤ 400) : ∀ (k j p b s : Nat) (h1 : PH) (w1 : AR) (done : LawL), j + k = 12 → p ≤ L → skb f L p = s → done.length = j → (flL done).length ≤ s → MX h1 m (pp w1 p b) → FM m h h1 → LL w w1 0 → DT w1 done →
    TLQ Q n m j h w done (ltP f L k s) →
    PW E M_X12_readAll (d + 29 + 1) Q 28 [some (.ref m), some (.int 0), some (.int (nI j))] [] (h1, n, 0, 0) := by
  intro k
  induction k with
  | zero =>
    intro j p b s h1 w1 done hk hp hs hd hf X1 F1 T1 D1 hQ
    have w6 : w1 6 = f := T1.w6.trans h6
    have hL1 : w1 0 11 = nI L := by rw [T1.2.1 11 (by decide) (by decide)]; exact hL
    refine b_X12_readAll_28 _ _ _ ?_
    simp only [i_const, i_load, i_aload, i_store, i_astore, i_inc, i_iadd, i_isub, i_imul, i_idiv, i_irem, i_iand, i_ior, i_ixor, i_ishl, i_ishr, i_iushr, i_ineg, i_i2l, i_i2b, i_i2c, i_lcmp, i_dup, i_dup2, i_pop, i_null, i_alen, i_iald, i_bald, i_lald, i_aald, i_iast, i_bast, i_last, i_aast, i_goto, i_icmp_eq, i_icmp_ne, i_icmp_lt, i_icmp_ge, i_icmp_gt, i_icmp_le, i_if_eq, i_if_ne, i_if_lt, i_if_ge, i_if_gt, i_if_le, i_ifnonnull, i_getf, i_putf, i_iret, i_zret, i_aret, i_vret, i_new, i_newa, i_anew, i_oinit, i_callv, i_calls, i_calli, i_max, i_min, i_abs, i_copy, i_throw, i_ldcs, pwt, List.getElem?_cons_zero, List.getElem?_cons_succ, List.set_cons_zero, List.set_cons_succ, List.getD_cons_zero, List.getD_cons_succ, List.length_cons, List.length_nil, List.length_set, List.drop_succ_cons, List.drop_zero, List.take_succ_cons, List.take_zero, List.reverse_cons, List.reverse_nil, List.nil_append, List.cons_append, List.append_nil, List.map_cons, List.map_nil, List.sum_cons, List.sum_nil, Value.category, ne_eq, Nat.reduceEqDiff, reduceIte, ite_self, false_implies, true_implies, true_and, and_true, and_self, Nat.zero_le, Nat.le_refl, Nat.reduceLeDiff, Nat.reduceAdd, Nat.reduceLT, Nat.add_zero, Nat.zero_add, pu_eq, not_false_eq_true, not_true_eq_false, forall_const, if_true, if_false, implies_true, X1.f0]
    refine c_X12_readLine0 hE X1 w6 hp (s := s) hs (by omega) D1.1 hf hL1 hL4 ?_
    rw [if_pos (by omega)]
    intro h2 w2 p2 a1 a2 a3 a4
    simp only [i_const, i_load, i_aload, i_store, i_astore, i_inc, i_iadd, i_isub, i_imul, i_idiv, i_irem, i_iand, i_ior, i_ixor, i_ishl, i_ishr, i_iushr, i_ineg, i_i2l, i_i2b, i_i2c, i_lcmp, i_dup, i_dup2, i_pop, i_null, i_alen, i_iald, i_bald, i_lald, i_aald, i_iast, i_bast, i_last, i_aast, i_goto, i_icmp_eq, i_icmp_ne, i_icmp_lt, i_icmp_ge, i_icmp_gt, i_icmp_le, i_if_eq, i_if_ne, i_if_lt, i_if_ge, i_if_gt, i_if_le, i_ifnonnull, i_getf, i_putf, i_iret, i_zret, i_aret, i_vret, i_new, i_newa, i_anew, i_oinit, i_callv, i_calls, i_calli, i_max, i_min, i_abs, i_copy, i_throw, i_ldcs, pwt, List.getElem?_cons_zero, List.getElem?_cons_succ, List.set_cons_zero, List.set_cons_succ, List.getD_cons_zero, List.getD_cons_succ, List.length_cons, List.length_nil, List.length_set, List.drop_succ_cons, List.drop_zero, List.take_succ_cons, List.take_zero, List.reverse_cons, List.reverse_nil, List.nil_append, List.cons_append, List.append_nil, List.map_cons, List.map_nil, List.sum_cons, List.sum_nil, Value.category, ne_eq, Nat.reduceEqDiff, reduceIte, ite_self, false_implies, true_implies, true_and, and_true, and_self, Nat.zero_le, Nat.le_refl, Nat.reduceLeDiff, Nat.reduceAdd, Nat.reduceLT, Nat.add_zero, Nat.zero_add, pu_eq, not_false_eq_true, not_true_eq_false, forall_const, if_true, if_false, implies_true, pRetK]
    exact hQ h2 w2 p2 a2 (F1.tr a3) (T1.tr (a4.lo (Nat.zero_le _)))
  | succ k ih =>
    intro j p b s h1 w1 done hk hp hs hd hf X1 F1 T1 D1 hQ
    have w6 : w1 6 = f := T1.w6.trans h6
    have hL1 : w1 0 11 = nI L := by rw [T1.2.1 11 (by decide) (by decide)]; exact hL
    have hsl : s ≤ L := by rw [← hs]; exact skb_le hp
    refine b_X12_readAll_28 _ _ _ ?_
    simp only [i_const, i_load, i_aload, i_store, i_astore, i_inc, i_iadd, i_isub, i_imul, i_idiv, i_irem, i_iand, i_ior, i_ixor, i_ishl, i_ishr, i_iushr, i_ineg, i_i2l, i_i2b, i_i2c, i_lcmp, i_dup, i_dup2, i_pop, i_null, i_alen, i_iald, i_bald, i_lald, i_aald, i_iast, i_bast, i_last, i_aast, i_goto, i_icmp_eq, i_icmp_ne, i_icmp_lt, i_icmp_ge, i_icmp_gt, i_icmp_le, i_if_eq, i_if_ne, i_if_lt, i_if_ge, i_if_gt, i_if_le, i_ifnonnull, i_getf, i_putf, i_iret, i_zret, i_aret, i_vret, i_new, i_newa, i_anew, i_oinit, i_callv, i_calls, i_calli, i_max, i_min, i_abs, i_copy, i_throw, i_ldcs, pwt, List.getElem?_cons_zero, List.getElem?_cons_succ, List.set_cons_zero, List.set_cons_succ, List.getD_cons_zero, List.getD_cons_succ, List.length_cons, List.length_nil, List.length_set, List.drop_succ_cons, List.drop_zero, List.take_succ_cons, List.take_zero, List.reverse_cons, List.reverse_nil, List.nil_append, List.cons_append, List.append_nil, List.map_cons, List.map_nil, List.sum_cons, List.sum_nil, Value.category, ne_eq, Nat.reduceEqDiff, reduceIte, ite_self, false_implies, true_implies, true_and, and_true, and_self, Nat.zero_le, Nat.le_refl, Nat.reduceLeDiff, Nat.reduceAdd, Nat.reduceLT, Nat.add_zero, Nat.zero_add, pu_eq, not_false_eq_true, not_true_eq_false, forall_const, if_true, if_false, implies_true, X1.f0]
    refine c_X12_readLine0 hE X1 w6 hp (s := s) hs (by omega) D1.1 hf hL1 hL4 ?_
    rw [if_neg (by omega)]
    rw [ltP] at hQ
    cases e : llP f L s with
    | inl b1 =>
      rw [e] at hQ
      simp only [bnd] at hQ
      intro h2 w2 p2 a1 a2 a3 a4
      simp only [i_const, i_load, i_aload, i_store, i_astore, i_inc, i_iadd, i_isub, i_imul, i_idiv, i_irem, i_iand, i_ior, i_ixor, i_ishl, i_ishr, i_iushr, i_ineg, i_i2l, i_i2b, i_i2c, i_lcmp, i_dup, i_dup2, i_pop, i_null, i_alen, i_iald, i_bald, i_lald, i_aald, i_iast, i_bast, i_last, i_aast, i_goto, i_icmp_eq, i_icmp_ne, i_icmp_lt, i_icmp_ge, i_icmp_gt, i_icmp_le, i_if_eq, i_if_ne, i_if_lt, i_if_ge, i_if_gt, i_if_le, i_ifnonnull, i_getf, i_putf, i_iret, i_zret, i_aret, i_vret, i_new, i_newa, i_anew, i_oinit, i_callv, i_calls, i_calli, i_max, i_min, i_abs, i_copy, i_throw, i_ldcs, pwt, List.getElem?_cons_zero, List.getElem?_cons_succ, List.set_cons_zero, List.set_cons_succ, List.getD_cons_zero, List.getD_cons_succ, List.length_cons, List.length_nil, List.length_set, List.drop_succ_cons, List.drop_zero, List.take_succ_cons, List.take_zero, List.reverse_cons, List.reverse_nil, List.nil_append, List.cons_append, List.append_nil, List.map_cons, List.map_nil, List.sum_cons, List.sum_nil, Value.category, ne_eq, Nat.reduceEqDiff, reduceIte, ite_self, false_implies, true_implies, true_and, and_true, and_self, Nat.zero_le, Nat.le_refl, Nat.reduceLeDiff, Nat.reduceAdd, Nat.reduceLT, Nat.add_zero, Nat.zero_add, pu_eq, not_false_eq_true, not_true_eq_false, forall_const, if_true, if_false, implies_true, pRetK]
      exact hQ h2 w2 p2 a2 (F1.tr a3) (T1.tr (a4.lo (Nat.zero_le _)))
    | inr q =>
      obtain ⟨b1, c⟩ := q
      obtain ⟨w1', w2', w3', w4'⟩ := llP_ln (q := (b1, c)) hsl e
      simp only at w1' w2' w3' w4'
      rw [e] at hQ
      simp only [bnd] at hQ
      intro h2 w2 p2 b2 a1 a2 a3 a4 a5 a6 a7
      have T2 : LL w w2 0 := T1.tr (a5.lo (Nat.zero_le _))
      have v6 : w2 6 = f := T2.w6.trans h6
      have hL2 : w2 0 11 = nI L := by rw [T2.2.1 11 (by decide) (by decide)]; exact hL
      have a2' : skb f L p2 = b1 := by rw [← w6]; exact a2
      have D2 : DT w2 (done ++ [c]) := by
        subst hd
        exact D1.ap a5 a6 a7
      simp only [i_const, i_load, i_aload, i_store, i_astore, i_inc, i_iadd, i_isub, i_imul, i_idiv, i_irem, i_iand, i_ior, i_ixor, i_ishl, i_ishr, i_iushr, i_ineg, i_i2l, i_i2b, i_i2c, i_lcmp, i_dup, i_dup2, i_pop, i_null, i_alen, i_iald, i_bald, i_lald, i_aald, i_iast, i_bast, i_last, i_aast, i_goto, i_icmp_eq, i_icmp_ne, i_icmp_lt, i_icmp_ge, i_icmp_gt, i_icmp_le, i_if_eq, i_if_ne, i_if_lt, i_if_ge, i_if_gt, i_if_le, i_ifnonnull, i_getf, i_putf, i_iret, i_zret, i_aret, i_vret, i_new, i_newa, i_anew, i_oinit, i_callv, i_calls, i_calli, i_max, i_min, i_abs, i_copy, i_throw, i_ldcs, pwt, List.getElem?_cons_zero, List.getElem?_cons_succ, List.set_cons_zero, List.set_cons_succ, List.getD_cons_zero, List.getD_cons_succ, List.length_cons, List.length_nil, List.length_set, List.drop_succ_cons, List.drop_zero, List.take_succ_cons, List.take_zero, List.reverse_cons, List.reverse_nil, List.nil_append, List.cons_append, List.append_nil, List.map_cons, List.map_nil, List.sum_cons, List.sum_nil, Value.category, ne_eq, Nat.reduceEqDiff, reduceIte, ite_self, false_implies, true_implies, true_and, and_true, and_self, Nat.zero_le, Nat.le_refl, Nat.reduceLeDiff, Nat.reduceAdd, Nat.reduceLT, Nat.add_zero, Nat.zero_add, pu_eq, not_false_eq_true, not_true_eq_false, forall_const, if_true, if_false, implies_true, pRetK, show ¬ ((1 : Int32) = 0) by decide, a3.f0]
      refine c_X12_blanks (d := d + 28) a3 hL2 hL4 a1 (fun h3 X3 F3 => ?_)
      rw [v6, a2'] at X3
      have h11 : pp w2 b1 b1 0 11 = nI L := hL2
      by_cases c1 : L ≤ b1
      · rw [if_pos c1] at hQ
        have eb : b1 = L := by omega
        have e0 : nI b1 = nI L := by rw [eb]
        simp only [i_const, i_load, i_aload, i_store, i_astore, i_inc, i_iadd, i_isub, i_imul, i_idiv, i_irem, i_iand, i_ior, i_ixor, i_ishl, i_ishr, i_iushr, i_ineg, i_i2l, i_i2b, i_i2c, i_lcmp, i_dup, i_dup2, i_pop, i_null, i_alen, i_iald, i_bald, i_lald, i_aald, i_iast, i_bast, i_last, i_aast, i_goto, i_icmp_eq, i_icmp_ne, i_icmp_lt, i_icmp_ge, i_icmp_gt, i_icmp_le, i_if_eq, i_if_ne, i_if_lt, i_if_ge, i_if_gt, i_if_le, i_ifnonnull, i_getf, i_putf, i_iret, i_zret, i_aret, i_vret, i_new, i_newa, i_anew, i_oinit, i_callv, i_calls, i_calli, i_max, i_min, i_abs, i_copy, i_throw, i_ldcs, pwt, List.getElem?_cons_zero, List.getElem?_cons_succ, List.set_cons_zero, List.set_cons_succ, List.getD_cons_zero, List.getD_cons_succ, List.length_cons, List.length_nil, List.length_set, List.drop_succ_cons, List.drop_zero, List.take_succ_cons, List.take_zero, List.reverse_cons, List.reverse_nil, List.nil_append, List.cons_append, List.append_nil, List.map_cons, List.map_nil, List.sum_cons, List.sum_nil, Value.category, ne_eq, Nat.reduceEqDiff, reduceIte, ite_self, false_implies, true_implies, true_and, and_true, and_self, Nat.zero_le, Nat.le_refl, Nat.reduceLeDiff, Nat.reduceAdd, Nat.reduceLT, Nat.add_zero, Nat.zero_add, pu_eq, not_false_eq_true, not_true_eq_false, forall_const, if_true, if_false, implies_true, pRetK, X3.f0, pp10, h11, e0, nI_1]
        exact hQ h3 w2 b1 b1 X3 (F1.tr (a4.tr F3)) T2 D2
      · rw [if_neg c1] at hQ
        have e0 : ¬ nI b1 = nI L := fun z => c1 (by rw [(nI_eq (by omega) (by omega)).mp z]; exact Nat.le_refl _)
        simp only [i_const, i_load, i_aload, i_store, i_astore, i_inc, i_iadd, i_isub, i_imul, i_idiv, i_irem, i_iand, i_ior, i_ixor, i_ishl, i_ishr, i_iushr, i_ineg, i_i2l, i_i2b, i_i2c, i_lcmp, i_dup, i_dup2, i_pop, i_null, i_alen, i_iald, i_bald, i_lald, i_aald, i_iast, i_bast, i_last, i_aast, i_goto, i_icmp_eq, i_icmp_ne, i_icmp_lt, i_icmp_ge, i_icmp_gt, i_icmp_le, i_if_eq, i_if_ne, i_if_lt, i_if_ge, i_if_gt, i_if_le, i_ifnonnull, i_getf, i_putf, i_iret, i_zret, i_aret, i_vret, i_new, i_newa, i_anew, i_oinit, i_callv, i_calls, i_calli, i_max, i_min, i_abs, i_copy, i_throw, i_ldcs, pwt, List.getElem?_cons_zero, List.getElem?_cons_succ, List.set_cons_zero, List.set_cons_succ, List.getD_cons_zero, List.getD_cons_succ, List.length_cons, List.length_nil, List.length_set, List.drop_succ_cons, List.drop_zero, List.take_succ_cons, List.take_zero, List.reverse_cons, List.reverse_nil, List.nil_append, List.cons_append, List.append_nil, List.map_cons, List.map_nil, List.sum_cons, List.sum_nil, Value.category, ne_eq, Nat.reduceEqDiff, reduceIte, ite_self, false_implies, true_implies, true_and, and_true, and_self, Nat.zero_le, Nat.le_refl, Nat.reduceLeDiff, Nat.reduceAdd, Nat.reduceLT, Nat.add_zero, Nat.zero_add, pu_eq, not_false_eq_true, not_true_eq_false, forall_const, if_true, if_false, implies_true, pRetK, X3.f0, pp10, h11, e0]
        refine c_X12_isAt (d := d + 29) X3 hL2 hL4 w2' (fun y1 y2 => ?_) (fun y => ?_)
        · have f59 : f b1 = 59 := by
            have := of_decide_eq_true y2
            rw [v6] at this
            exact Int32.le_antisymm this.2 this.1
          rw [if_pos (semi_is.mpr ⟨y1, f59⟩)] at hQ
          obtain ⟨X4, F4⟩ := X3.to (p' := b1 + 1) (b' := b1)
          have hnx := nx_gt (f := f) y1
          simp only [i_const, i_load, i_aload, i_store, i_astore, i_inc, i_iadd, i_isub, i_imul, i_idiv, i_irem, i_iand, i_ior, i_ixor, i_ishl, i_ishr, i_iushr, i_ineg, i_i2l, i_i2b, i_i2c, i_lcmp, i_dup, i_dup2, i_pop, i_null, i_alen, i_iald, i_bald, i_lald, i_aald, i_iast, i_bast, i_last, i_aast, i_goto, i_icmp_eq, i_icmp_ne, i_icmp_lt, i_icmp_ge, i_icmp_gt, i_icmp_le, i_if_eq, i_if_ne, i_if_lt, i_if_ge, i_if_gt, i_if_le, i_ifnonnull, i_getf, i_putf, i_iret, i_zret, i_aret, i_vret, i_new, i_newa, i_anew, i_oinit, i_callv, i_calls, i_calli, i_max, i_min, i_abs, i_copy, i_throw, i_ldcs, pwt, List.getElem?_cons_zero, List.getElem?_cons_succ, List.set_cons_zero, List.set_cons_succ, List.getD_cons_zero, List.getD_cons_succ, List.length_cons, List.length_nil, List.length_set, List.drop_succ_cons, List.drop_zero, List.take_succ_cons, List.take_zero, List.reverse_cons, List.reverse_nil, List.nil_append, List.cons_append, List.append_nil, List.map_cons, List.map_nil, List.sum_cons, List.sum_nil, Value.category, ne_eq, Nat.reduceEqDiff, reduceIte, ite_self, false_implies, true_implies, true_and, and_true, and_self, Nat.zero_le, Nat.le_refl, Nat.reduceLeDiff, Nat.reduceAdd, Nat.reduceLT, Nat.add_zero, Nat.zero_add, pu_eq, not_false_eq_true, not_true_eq_false, forall_const, if_true, if_false, implies_true, pRetK, show ¬ ((1 : Int32) = 0) by decide, X3.f0, pp10, nI_1]
          refine ⟨rfl, rfl, ?_⟩
          refine ih (j + 1) (b1 + 1) b1 (nx f L b1) _ w2 (done ++ [c]) (by omega) (by omega) ?_ (by simp [hd]) ?_ X4 (F1.tr (a4.tr (F3.tr F4))) T2 D2 ?_
          · unfold nx; rw [semi_nx ⟨y1, f59⟩]
          · rw [flL_ap, List.length_append]; omega
          · cases e2 : ltP f L k (nx f L b1) with
            | inl b3 =>
              rw [e2] at hQ
              exact hQ
            | inr q3 =>
              rw [e2] at hQ
              simp only [bnd] at hQ
              intro h5 w5 p5 b5 d1 d2 d3 d4
              have := hQ h5 w5 p5 b5 d1 d2 d3 (by rw [List.append_assoc] at d4; exact d4)
              rw [show j + (c :: q3.2).length = j + 1 + q3.2.length by rw [List.length_cons]; omega] at this
              exact this
        · have ns : ¬ isB f L b1 w_semi_ = true := fun z => y (by
            obtain ⟨z1, z2⟩ := semi_is.mp z
            refine ⟨z1, decide_eq_true ?_⟩
            rw [v6, z2]
            exact ⟨Int32.le_refl _, Int32.le_refl _⟩)
          rw [if_neg ns] at hQ
          simp only [i_const, i_load, i_aload, i_store, i_astore, i_inc, i_iadd, i_isub, i_imul, i_idiv, i_irem, i_iand, i_ior, i_ixor, i_ishl, i_ishr, i_iushr, i_ineg, i_i2l, i_i2b, i_i2c, i_lcmp, i_dup, i_dup2, i_pop, i_null, i_alen, i_iald, i_bald, i_lald, i_aald, i_iast, i_bast, i_last, i_aast, i_goto, i_icmp_eq, i_icmp_ne, i_icmp_lt, i_icmp_ge, i_icmp_gt, i_icmp_le, i_if_eq, i_if_ne, i_if_lt, i_if_ge, i_if_gt, i_if_le, i_ifnonnull, i_getf, i_putf, i_iret, i_zret, i_aret, i_vret, i_new, i_newa, i_anew, i_oinit, i_callv, i_calls, i_calli, i_max, i_min, i_abs, i_copy, i_throw, i_ldcs, pwt, List.getElem?_cons_zero, List.getElem?_cons_succ, List.set_cons_zero, List.set_cons_succ, List.getD_cons_zero, List.getD_cons_succ, List.length_cons, List.length_nil, List.length_set, List.drop_succ_cons, List.drop_zero, List.take_succ_cons, List.take_zero, List.reverse_cons, List.reverse_nil, List.nil_append, List.cons_append, List.append_nil, List.map_cons, List.map_nil, List.sum_cons, List.sum_nil, Value.category, ne_eq, Nat.reduceEqDiff, reduceIte, ite_self, false_implies, true_implies, true_and, and_true, and_self, Nat.zero_le, Nat.le_refl, Nat.reduceLeDiff, Nat.reduceAdd, Nat.reduceLT, Nat.add_zero, Nat.zero_add, pu_eq, not_false_eq_true, not_true_eq_false, forall_const, if_true, if_false, implies_true, pRetK]
          exact hQ h3 w2 b1 X3 (F1.tr (a4.tr F3)) T2
theorem c_X12_readAll0 (hE : EC E) (X : MX h m w) (hT : w 0 9 = nI L) (hL4 : L ≤ 400) (hQ : TLQ Q n m 0 h (ua w) [] (lwP (w 6) L)) : pCall E M_X12_readAll (d + 30) [.ref m, .int 0] h n Q := by
  refine pCall_of rfl rfl (Nat.le_of_ble_eq_true rfl) (by simp [Value.category]) ?_
  refine b_X12_readAll_0 _ _ _ ?_
  simp only [pEntry, PM.nL, M_X12_readAll, List.map_cons, List.map_nil, List.length_cons, List.length_nil, Nat.reduceAdd, Nat.reduceSub, Nat.sub_self, List.replicate_succ, List.replicate_zero, List.cons_append, List.nil_append]
  simp only [i_const, i_load, i_aload, i_store, i_astore, i_inc, i_iadd, i_isub, i_imul, i_idiv, i_irem, i_iand, i_ior, i_ixor, i_ishl, i_ishr, i_iushr, i_ineg, i_i2l, i_i2b, i_i2c, i_lcmp, i_dup, i_dup2, i_pop, i_null, i_alen, i_iald, i_bald, i_lald, i_aald, i_iast, i_bast, i_last, i_aast, i_goto, i_icmp_eq, i_icmp_ne, i_icmp_lt, i_icmp_ge, i_icmp_gt, i_icmp_le, i_if_eq, i_if_ne, i_if_lt, i_if_ge, i_if_gt, i_if_le, i_ifnonnull, i_getf, i_putf, i_iret, i_zret, i_aret, i_vret, i_new, i_newa, i_anew, i_oinit, i_callv, i_calls, i_calli, i_max, i_min, i_abs, i_copy, i_throw, i_ldcs, pwt, List.getElem?_cons_zero, List.getElem?_cons_succ, List.set_cons_zero, List.set_cons_succ, List.getD_cons_zero, List.getD_cons_succ, List.length_cons, List.length_nil, List.length_set, List.drop_succ_cons, List.drop_zero, List.take_succ_cons, List.take_zero, List.reverse_cons, List.reverse_nil, List.nil_append, List.cons_append, List.append_nil, List.map_cons, List.map_nil, List.sum_cons, List.sum_nil, Value.category, ne_eq, Nat.reduceEqDiff, reduceIte, ite_self, false_implies, true_implies, true_and, and_true, and_self, Nat.zero_le, Nat.le_refl, Nat.reduceLeDiff, Nat.reduceAdd, Nat.reduceLT, Nat.add_zero, Nat.zero_add, pu_eq, not_false_eq_true, not_true_eq_false, forall_const, if_true, if_false, implies_true, X.f0]
  refine c_X12_uses X (fun h1 X1 F1 => ?_)
  obtain ⟨X2, F2⟩ := X1.set (k := 0) (i := 16) (by decide) (by decide) 0
  obtain ⟨b0, hb0⟩ := nI_ex (w 0 12)
  have X2' : MX _ m (ua w) := X2
  rw [ua_pp hb0] at X2'
  have h11 : ua w 0 11 = nI L := hT
  have h6 : ua w 6 = w 6 := ua_k (by decide)
  simp only [i_const, i_load, i_aload, i_store, i_astore, i_inc, i_iadd, i_isub, i_imul, i_idiv, i_irem, i_iand, i_ior, i_ixor, i_ishl, i_ishr, i_iushr, i_ineg, i_i2l, i_i2b, i_i2c, i_lcmp, i_dup, i_dup2, i_pop, i_null, i_alen, i_iald, i_bald, i_lald, i_aald, i_iast, i_bast, i_last, i_aast, i_goto, i_icmp_eq, i_icmp_ne, i_icmp_lt, i_icmp_ge, i_icmp_gt, i_icmp_le, i_if_eq, i_if_ne, i_if_lt, i_if_ge, i_if_gt, i_if_le, i_ifnonnull, i_getf, i_putf, i_iret, i_zret, i_aret, i_vret, i_new, i_newa, i_anew, i_oinit, i_callv, i_calls, i_calli, i_max, i_min, i_abs, i_copy, i_throw, i_ldcs, pwt, List.getElem?_cons_zero, List.getElem?_cons_succ, List.set_cons_zero, List.set_cons_succ, List.getD_cons_zero, List.getD_cons_succ, List.length_cons, List.length_nil, List.length_set, List.drop_succ_cons, List.drop_zero, List.take_succ_cons, List.take_zero, List.reverse_cons, List.reverse_nil, List.nil_append, List.cons_append, List.append_nil, List.map_cons, List.map_nil, List.sum_cons, List.sum_nil, Value.category, ne_eq, Nat.reduceEqDiff, reduceIte, ite_self, false_implies, true_implies, true_and, and_true, and_self, Nat.zero_le, Nat.le_refl, Nat.reduceLeDiff, Nat.reduceAdd, Nat.reduceLT, Nat.add_zero, Nat.zero_add, pu_eq, not_false_eq_true, not_true_eq_false, forall_const, if_true, if_false, implies_true, pRetK, X1.f0]
  refine ⟨rfl, rfl, ?_⟩
  refine c_X12_blanks (d := d + 28) (p := 0) X2' h11 hL4 (Nat.zero_le _) (fun h3 X3 F3 => ?_)
  rw [h6] at X3
  have F13 := F1.tr (F2.tr F3)
  have hsl : skb (w 6) L 0 ≤ L := skb_le (Nat.zero_le _)
  have hss : skb (w 6) L (skb (w 6) L 0) = skb (w 6) L 0 := skb_skb (Nat.zero_le _)
  have D0 : DT (ua w) [] := ⟨⟨rfl, fun i hi => absurd hi (Nat.not_lt_zero i)⟩, fun i l e => by simp at e⟩
  unfold lwP at hQ
  generalize skb (w 6) L 0 = s at *
  have k11 : pp (ua w) s s 0 11 = nI L := hT
  by_cases c : L ≤ s
  · rw [if_pos c] at hQ
    have e0 : nI s = nI L := by rw [show s = L by omega]
    simp only [i_const, i_load, i_aload, i_store, i_astore, i_inc, i_iadd, i_isub, i_imul, i_idiv, i_irem, i_iand, i_ior, i_ixor, i_ishl, i_ishr, i_iushr, i_ineg, i_i2l, i_i2b, i_i2c, i_lcmp, i_dup, i_dup2, i_pop, i_null, i_alen, i_iald, i_bald, i_lald, i_aald, i_iast, i_bast, i_last, i_aast, i_goto, i_icmp_eq, i_icmp_ne, i_icmp_lt, i_icmp_ge, i_icmp_gt, i_icmp_le, i_if_eq, i_if_ne, i_if_lt, i_if_ge, i_if_gt, i_if_le, i_ifnonnull, i_getf, i_putf, i_iret, i_zret, i_aret, i_vret, i_new, i_newa, i_anew, i_oinit, i_callv, i_calls, i_calli, i_max, i_min, i_abs, i_copy, i_throw, i_ldcs, pwt, List.getElem?_cons_zero, List.getElem?_cons_succ, List.set_cons_zero, List.set_cons_succ, List.getD_cons_zero, List.getD_cons_succ, List.length_cons, List.length_nil, List.length_set, List.drop_succ_cons, List.drop_zero, List.take_succ_cons, List.take_zero, List.reverse_cons, List.reverse_nil, List.nil_append, List.cons_append, List.append_nil, List.map_cons, List.map_nil, List.sum_cons, List.sum_nil, Value.category, ne_eq, Nat.reduceEqDiff, reduceIte, ite_self, false_implies, true_implies, true_and, and_true, and_self, Nat.zero_le, Nat.le_refl, Nat.reduceLeDiff, Nat.reduceAdd, Nat.reduceLT, Nat.add_zero, Nat.zero_add, pu_eq, not_false_eq_true, not_true_eq_false, forall_const, if_true, if_false, implies_true, pRetK, X3.f0, pp10, k11, e0]
    exact hQ h3 (ua w) s s X3 F13 LL.rf D0
  · rw [if_neg c] at hQ
    have e0 : ¬ nI s = nI L := fun z => c (by rw [(nI_eq (by omega) (by omega)).mp z]; exact Nat.le_refl _)
    simp only [i_const, i_load, i_aload, i_store, i_astore, i_inc, i_iadd, i_isub, i_imul, i_idiv, i_irem, i_iand, i_ior, i_ixor, i_ishl, i_ishr, i_iushr, i_ineg, i_i2l, i_i2b, i_i2c, i_lcmp, i_dup, i_dup2, i_pop, i_null, i_alen, i_iald, i_bald, i_lald, i_aald, i_iast, i_bast, i_last, i_aast, i_goto, i_icmp_eq, i_icmp_ne, i_icmp_lt, i_icmp_ge, i_icmp_gt, i_icmp_le, i_if_eq, i_if_ne, i_if_lt, i_if_ge, i_if_gt, i_if_le, i_ifnonnull, i_getf, i_putf, i_iret, i_zret, i_aret, i_vret, i_new, i_newa, i_anew, i_oinit, i_callv, i_calls, i_calli, i_max, i_min, i_abs, i_copy, i_throw, i_ldcs, pwt, List.getElem?_cons_zero, List.getElem?_cons_succ, List.set_cons_zero, List.set_cons_succ, List.getD_cons_zero, List.getD_cons_succ, List.length_cons, List.length_nil, List.length_set, List.drop_succ_cons, List.drop_zero, List.take_succ_cons, List.take_zero, List.reverse_cons, List.reverse_nil, List.nil_append, List.cons_append, List.append_nil, List.map_cons, List.map_nil, List.sum_cons, List.sum_nil, Value.category, ne_eq, Nat.reduceEqDiff, reduceIte, ite_self, false_implies, true_implies, true_and, and_true, and_self, Nat.zero_le, Nat.le_refl, Nat.reduceLeDiff, Nat.reduceAdd, Nat.reduceLT, Nat.add_zero, Nat.zero_add, pu_eq, not_false_eq_true, not_true_eq_false, forall_const, if_true, if_false, implies_true, pRetK, X3.f0, pp10, k11, e0]
    exact mr_law hE (w := ua w) h6 h11 hL4 12 0 s s s h3 (ua w) [] rfl hsl hss rfl (Nat.zero_le _) X3 F13 LL.rf D0 hQ
end MLAW5

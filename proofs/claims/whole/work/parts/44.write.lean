/-! writes -/
section WRITE
variable {E : PE} {M : PM} {d : Nat} {Q : PQ} {h : PH} {n : Nat} {a : Nat} {r : AR} {lw : Option Nat} {pc : Nat}
theorem AC_row {a : Nat} {r r' : AR} {lw : Option Nat} {j : Nat} (hj : j < 20) (e : r' j = r j) : AC a r' lw j = AC a r lw j := by
  match j, hj, e with
  | 0, _, e => simp only [AC, e]
  | 1, _, e => simp only [AC, e]
  | 2, _, e => simp only [AC, e]
  | 3, _, e => simp only [AC, e]
  | 4, _, e => simp only [AC, e]
  | 5, _, e => simp only [AC, e]
  | 6, _, e => simp only [AC, e]
  | 7, _, e => simp only [AC, e]
  | 8, _, e => simp only [AC, e]
  | 9, _, e => simp only [AC, e]
  | 10, _, e => simp only [AC, e]
  | 11, _, e => simp only [AC, e]
  | 12, _, e => simp only [AC, e]
  | 13, _, e => simp only [AC, e]
  | 14, _, e => simp only [AC, e]
  | 15, _, e => simp only [AC, e]
  | 16, _, e => simp only [AC, e]
  | 17, _, e => simp only [AC, e]
  | 18, _, e => simp only [AC, e]
  | 19, _, e => simp only [AC, e]
  | j + 20, hj, _ => exact absurd hj (by omega)
theorem ru_ne {r : AR} {k j k' : Nat} {x : Int32} (e : k' ≠ k) : ru r k j x k' = r k' := if_neg e
theorem ru_eq {r : AR} {k j : Nat} {x : Int32} : ru r k j x k = upd (r k) j x := if_pos rfl
theorem rs_ne {r : AR} {k k' : Nat} {f : Nat → Int32} (e : k' ≠ k) : rs r k f k' = r k' := if_neg e
theorem rs_eq {r : AR} {k : Nat} {f : Nat → Int32} : rs r k f k = f := if_pos rfl
theorem AA.ru {h : PH} {a : Nat} {r : AR} {lw : Option Nat} (H : AA h a r lw) (k i : Nat) (x : Int32) : AA (pu h (a + k) (AC a (ru r k i x) lw k)) a (ru r k i x) lw := H.put k (fun _ hj e => AC_row hj (ru_ne e))
theorem AA.rs {h : PH} {a : Nat} {r : AR} {lw : Option Nat} (H : AA h a r lw) (k : Nat) (f : Nat → Int32) : AA (pu h (a + k) (AC a (rs r k f) lw k)) a (rs r k f) lw := H.put k (fun _ hj e => AC_row hj (rs_ne e))
/-- outside of the army nothing has changed -/
def FR (a : Nat) (h h' : PH) : Prop := ∀ q, (q < a ∨ a + 20 ≤ q) → h' q = h q
theorem FR.rf {a : Nat} {h : PH} : FR a h h := fun _ _ => rfl
theorem FR.pu {a k : Nat} {h h' : PH} {c : PC} (F : FR a h h') (hk : k < 20) : FR a h (pu h' (a + k) c) := fun q hq => by rw [pu_ne (by omega)]; exact F q hq
theorem FR.tr {a : Nat} {h h' h'' : PH} (F : FR a h h') (G : FR a h' h'') : FR a h h'' := fun q hq => (G q hq).trans (F q hq)
theorem FR.AA {a b : Nat} {h h' : PH} {r : AR} {lw : Option Nat} (F : FR a h h') (hd : b + 20 ≤ a ∨ a + 20 ≤ b) (H : AA h b r lw) : AA h' b r lw := fun k hk => (F (b + k) (by omega)).trans (H k hk)
theorem pu_add (h : PH) (a i j : Nat) (c : PC) : pu h (a + i) c (a + j) = if j = i then some c else h (a + j) := by
  by_cases e : j = i
  · subst e; rw [if_pos rfl]; exact pu_eq _ _ _
  · rw [if_neg e]; exact pu_ne (by omega)
theorem pu_add0 (h : PH) (a i : Nat) (c : PC) (hi : i ≠ 0) : pu h (a + i) c a = h a := pu_ne (by omega)
theorem pu_0add (h : PH) (a j : Nat) (c : PC) (hj : j ≠ 0) : pu h a c (a + j) = h (a + j) := pu_ne (by omega)
/-! Men -/
theorem c_X7_bury {x : Int32} (H : AA h a r lw) (hQ : ∀ h', AA h' a (ru r 5 1 (r 5 1 &&& ((1 <<< (x &&& 31)) ^^^ -1))) lw → FR a h h' → Q (.inl none) h' n) : pCall E M_X7_bury d [.ref (a + 5), .int x] h n Q := by
  refine pCall_of rfl rfl (Nat.le_of_ble_eq_true rfl) (by simp [Value.category]) ?_
  refine b_X7_bury_0 _ _ _ ?_
  simp only [pEntry, PM.nL, M_X7_bury, List.map_cons, List.map_nil, List.length_cons, List.length_nil, Nat.reduceAdd, Nat.reduceSub, Nat.sub_self, List.replicate_succ, List.replicate_zero, List.cons_append, List.nil_append]
  simp only [i_const, i_load, i_aload, i_store, i_astore, i_inc, i_iadd, i_isub, i_imul, i_idiv, i_irem, i_iand, i_ior, i_ixor, i_ishl, i_ishr, i_iushr, i_ineg, i_i2l, i_i2b, i_i2c, i_lcmp, i_dup, i_dup2, i_pop, i_null, i_alen, i_iald, i_bald, i_lald, i_aald, i_iast, i_bast, i_last, i_aast, i_goto, i_icmp_eq, i_icmp_ne, i_icmp_lt, i_icmp_ge, i_icmp_gt, i_icmp_le, i_if_eq, i_if_ne, i_if_lt, i_if_ge, i_if_gt, i_if_le, i_ifnonnull, i_getf, i_putf, i_iret, i_zret, i_aret, i_vret, i_new, i_newa, i_anew, i_oinit, i_callv, i_calls, i_calli, i_max, i_min, i_abs, i_copy, i_throw, i_ldcs, pwt, List.getElem?_cons_zero, List.getElem?_cons_succ, List.set_cons_zero, List.set_cons_succ, List.getD_cons_zero, List.getD_cons_succ, List.length_cons, List.length_nil, List.length_set, List.drop_succ_cons, List.drop_zero, List.take_succ_cons, List.take_zero, List.reverse_cons, List.reverse_nil, List.nil_append, List.cons_append, List.append_nil, List.map_cons, List.map_nil, List.sum_cons, List.sum_nil, Value.category, ne_eq, Nat.reduceEqDiff, reduceIte, ite_self, false_implies, true_implies, true_and, and_true, and_self, Nat.zero_le, Nat.le_refl, Nat.reduceLeDiff, Nat.reduceAdd, Nat.reduceLT, Nat.add_zero, Nat.zero_add, pu_eq, not_false_eq_true, not_true_eq_false, forall_const, if_true, if_false, implies_true, H.f5]
  refine ⟨rfl, rfl, ?_⟩
  exact hQ _ (H.ru 5 1 _) (FR.rf.pu (by decide))
theorem c_X7_earn {i : Nat} {c s : Nat} (H : AA h a r lw) (hi : i < 10) (hc : r 7 i = nI c) (hc2 : c ≤ 9999) (hs : s < 2 ^ 30) (hQ : ∀ h', AA h' a (ru r 7 i (nI (min 9999 (c + s)))) lw → FR a h h' → Q (.inl (some (.int (nI (min 9999 (c + s) - c))))) h' n) : pCall E M_X7_earn d [.ref (a + 5), .int (nI i), .int (nI s)] h n Q := by
  refine pCall_of rfl rfl (Nat.le_of_ble_eq_true rfl) (by simp [Value.category]) ?_
  refine b_X7_earn_0 _ _ _ ?_
  simp only [pEntry, PM.nL, M_X7_earn, List.map_cons, List.map_nil, List.length_cons, List.length_nil, Nat.reduceAdd, Nat.reduceSub, Nat.sub_self, List.replicate_succ, List.replicate_zero, List.cons_append, List.nil_append]
  have e1 : (9999 : Int32) - nI c = nI (9999 - c) := pk_sub (a := 9999) hc2
  have e2 : (if nI (9999 - c) < nI s then nI (9999 - c) else nI s) = nI (min 9999 (c + s) - c) := by
    rw [nI_mn (by omega) (by omega)]; congr 1; split <;> omega
  have e3 : nI c + nI (min 9999 (c + s) - c) = nI (min 9999 (c + s)) := by rw [nI_add]; congr 1; omega
  simp only [i_const, i_load, i_aload, i_store, i_astore, i_inc, i_iadd, i_isub, i_imul, i_idiv, i_irem, i_iand, i_ior, i_ixor, i_ishl, i_ishr, i_iushr, i_ineg, i_i2l, i_i2b, i_i2c, i_lcmp, i_dup, i_dup2, i_pop, i_null, i_alen, i_iald, i_bald, i_lald, i_aald, i_iast, i_bast, i_last, i_aast, i_goto, i_icmp_eq, i_icmp_ne, i_icmp_lt, i_icmp_ge, i_icmp_gt, i_icmp_le, i_if_eq, i_if_ne, i_if_lt, i_if_ge, i_if_gt, i_if_le, i_ifnonnull, i_getf, i_putf, i_iret, i_zret, i_aret, i_vret, i_new, i_newa, i_anew, i_oinit, i_callv, i_calls, i_calli, i_max, i_min, i_abs, i_copy, i_throw, i_ldcs, pwt, List.getElem?_cons_zero, List.getElem?_cons_succ, List.set_cons_zero, List.set_cons_succ, List.getD_cons_zero, List.getD_cons_succ, List.length_cons, List.length_nil, List.length_set, List.drop_succ_cons, List.drop_zero, List.take_succ_cons, List.take_zero, List.reverse_cons, List.reverse_nil, List.nil_append, List.cons_append, List.append_nil, List.map_cons, List.map_nil, List.sum_cons, List.sum_nil, Value.category, ne_eq, Nat.reduceEqDiff, reduceIte, ite_self, false_implies, true_implies, true_and, and_true, and_self, Nat.zero_le, Nat.le_refl, Nat.reduceLeDiff, Nat.reduceAdd, Nat.reduceLT, Nat.add_zero, Nat.zero_add, pu_eq, not_false_eq_true, not_true_eq_false, forall_const, if_true, if_false, implies_true, H.f5, H.f7, hc, vp_in_nI hi (by decide), nI_clamp (Nat.lt_trans hi (by decide)), e1, e2, e3]
  exact hQ _ (H.ru 7 i _) (FR.rf.pu (by decide))
theorem c_X7_changeNames {i j : Nat} (H : AA h a r lw) (hi : i < 10) (hj : j < 10) (hQ : ∀ h', AA h' a (ru (ru r 6 i (r 6 j)) 6 j (r 6 i)) lw → FR a h h' → Q (.inl none) h' n) : pCall E M_X7_changeNames d [.ref (a + 5), .int (nI i), .int (nI j)] h n Q := by
  refine pCall_of rfl rfl (Nat.le_of_ble_eq_true rfl) (by simp [Value.category]) ?_
  refine b_X7_changeNames_0 _ _ _ ?_
  simp only [pEntry, PM.nL, M_X7_changeNames, List.map_cons, List.map_nil, List.length_cons, List.length_nil, Nat.reduceAdd, Nat.reduceSub, Nat.sub_self, List.replicate_succ, List.replicate_zero, List.cons_append, List.nil_append]
  simp only [i_const, i_load, i_aload, i_store, i_astore, i_inc, i_iadd, i_isub, i_imul, i_idiv, i_irem, i_iand, i_ior, i_ixor, i_ishl, i_ishr, i_iushr, i_ineg, i_i2l, i_i2b, i_i2c, i_lcmp, i_dup, i_dup2, i_pop, i_null, i_alen, i_iald, i_bald, i_lald, i_aald, i_iast, i_bast, i_last, i_aast, i_goto, i_icmp_eq, i_icmp_ne, i_icmp_lt, i_icmp_ge, i_icmp_gt, i_icmp_le, i_if_eq, i_if_ne, i_if_lt, i_if_ge, i_if_gt, i_if_le, i_ifnonnull, i_getf, i_putf, i_iret, i_zret, i_aret, i_vret, i_new, i_newa, i_anew, i_oinit, i_callv, i_calls, i_calli, i_max, i_min, i_abs, i_copy, i_throw, i_ldcs, pwt, List.getElem?_cons_zero, List.getElem?_cons_succ, List.set_cons_zero, List.set_cons_succ, List.getD_cons_zero, List.getD_cons_succ, List.length_cons, List.length_nil, List.length_set, List.drop_succ_cons, List.drop_zero, List.take_succ_cons, List.take_zero, List.reverse_cons, List.reverse_nil, List.nil_append, List.cons_append, List.append_nil, List.map_cons, List.map_nil, List.sum_cons, List.sum_nil, Value.category, ne_eq, Nat.reduceEqDiff, reduceIte, ite_self, false_implies, true_implies, true_and, and_true, and_self, Nat.zero_le, Nat.le_refl, Nat.reduceLeDiff, Nat.reduceAdd, Nat.reduceLT, Nat.add_zero, Nat.zero_add, pu_eq, not_false_eq_true, not_true_eq_false, forall_const, if_true, if_false, implies_true, H.f5, H.f6, vp_in_nI hi (by decide), vp_in_nI hj (by decide), nI_clamp (Nat.lt_trans hi (by decide)), nI_clamp (Nat.lt_trans hj (by decide)), pu_add]
  exact hQ _ ((H.ru 6 i _).ru 6 j _) ((FR.rf.pu (by decide)).pu (by decide))
theorem c_X7_add {x : Int32} {m : Nat} (H : AA h a r lw) (hm : r 5 0 = nI m) (hN : m < 10) (hQ : ∀ h', AA h' a (ru (ru (ru (ru r 6 m (nI m)) 7 m x) 5 1 (r 5 1 ||| bitI m)) 5 0 (nI (m + 1))) lw → FR a h h' → Q (.inl none) h' n) : pCall E M_X7_add d [.ref (a + 5), .int x] h n Q := by
  refine pCall_of rfl rfl (Nat.le_of_ble_eq_true rfl) (by simp [Value.category]) ?_
  refine b_X7_add_0 _ _ _ ?_
  simp only [pEntry, PM.nL, M_X7_add, List.map_cons, List.map_nil, List.length_cons, List.length_nil, Nat.reduceAdd, Nat.reduceSub, Nat.sub_self, List.replicate_succ, List.replicate_zero, List.cons_append, List.nil_append]
  have e1 : ¬ (10 : Int32) ≤ r 5 0 := by rw [hm]; exact nI_ge (b := 10) hN (by decide)
  have e2 : vp_in (r 5 0) 10 := by rw [hm]; exact vp_in_nI hN (by decide)
  have e3 : (r 5 0).toNatClampNeg = m := by rw [hm]; exact nI_clamp (Nat.lt_trans hN (by decide))
  have e4 : r 5 0 + 1 = nI (m + 1) := by rw [hm]; exact nI_1 m
  have e5 : (1 : Int32) <<< (r 5 0 &&& 31) = bitI m := by rw [hm]; rfl
  simp only [i_const, i_load, i_aload, i_store, i_astore, i_inc, i_iadd, i_isub, i_imul, i_idiv, i_irem, i_iand, i_ior, i_ixor, i_ishl, i_ishr, i_iushr, i_ineg, i_i2l, i_i2b, i_i2c, i_lcmp, i_dup, i_dup2, i_pop, i_null, i_alen, i_iald, i_bald, i_lald, i_aald, i_iast, i_bast, i_last, i_aast, i_goto, i_icmp_eq, i_icmp_ne, i_icmp_lt, i_icmp_ge, i_icmp_gt, i_icmp_le, i_if_eq, i_if_ne, i_if_lt, i_if_ge, i_if_gt, i_if_le, i_ifnonnull, i_getf, i_putf, i_iret, i_zret, i_aret, i_vret, i_new, i_newa, i_anew, i_oinit, i_callv, i_calls, i_calli, i_max, i_min, i_abs, i_copy, i_throw, i_ldcs, pwt, List.getElem?_cons_zero, List.getElem?_cons_succ, List.set_cons_zero, List.set_cons_succ, List.getD_cons_zero, List.getD_cons_succ, List.length_cons, List.length_nil, List.length_set, List.drop_succ_cons, List.drop_zero, List.take_succ_cons, List.take_zero, List.reverse_cons, List.reverse_nil, List.nil_append, List.cons_append, List.append_nil, List.map_cons, List.map_nil, List.sum_cons, List.sum_nil, Value.category, ne_eq, Nat.reduceEqDiff, reduceIte, ite_self, false_implies, true_implies, true_and, and_true, and_self, Nat.zero_le, Nat.le_refl, Nat.reduceLeDiff, Nat.reduceAdd, Nat.reduceLT, Nat.add_zero, Nat.zero_add, pu_eq, not_false_eq_true, not_true_eq_false, forall_const, if_true, if_false, implies_true, H.f5, H.f6, H.f7, e1, e2, e3, pu_add, e4, e5]
  refine ⟨rfl, rfl, rfl, rfl, ?_⟩
  rw [← hm] at hQ
  exact hQ _ ((((H.ru 6 m _).ru 7 m _).ru 5 1 _).ru 5 0 _) ((((FR.rf.pu (by decide)).pu (by decide)).pu (by decide)).pu (by decide))
theorem c_X2_add {x y z : Int32} {m : Nat} (H : AA h a r lw) (hm : r 1 0 = nI m) (hN : m < 8) (hQ : ∀ h', AA h' a (ru (ru (ru (ru r 2 m x) 3 m y) 4 m z) 1 0 (nI (m + 1))) lw → FR a h h' → Q (.inl none) h' n) : pCall E M_X2_add d [.ref (a + 1), .int x, .int y, .int z] h n Q := by
  refine pCall_of rfl rfl (Nat.le_of_ble_eq_true rfl) (by simp [Value.category]) ?_
  refine b_X2_add_0 _ _ _ ?_
  simp only [pEntry, PM.nL, M_X2_add, List.map_cons, List.map_nil, List.length_cons, List.length_nil, Nat.reduceAdd, Nat.reduceSub, Nat.sub_self, List.replicate_succ, List.replicate_zero, List.cons_append, List.nil_append]
  have e1 : ¬ (8 : Int32) ≤ nI m := nI_ge (b := 8) hN (by decide)
  simp only [i_const, i_load, i_aload, i_store, i_astore, i_inc, i_iadd, i_isub, i_imul, i_idiv, i_irem, i_iand, i_ior, i_ixor, i_ishl, i_ishr, i_iushr, i_ineg, i_i2l, i_i2b, i_i2c, i_lcmp, i_dup, i_dup2, i_pop, i_null, i_alen, i_iald, i_bald, i_lald, i_aald, i_iast, i_bast, i_last, i_aast, i_goto, i_icmp_eq, i_icmp_ne, i_icmp_lt, i_icmp_ge, i_icmp_gt, i_icmp_le, i_if_eq, i_if_ne, i_if_lt, i_if_ge, i_if_gt, i_if_le, i_ifnonnull, i_getf, i_putf, i_iret, i_zret, i_aret, i_vret, i_new, i_newa, i_anew, i_oinit, i_callv, i_calls, i_calli, i_max, i_min, i_abs, i_copy, i_throw, i_ldcs, pwt, List.getElem?_cons_zero, List.getElem?_cons_succ, List.set_cons_zero, List.set_cons_succ, List.getD_cons_zero, List.getD_cons_succ, List.length_cons, List.length_nil, List.length_set, List.drop_succ_cons, List.drop_zero, List.take_succ_cons, List.take_zero, List.reverse_cons, List.reverse_nil, List.nil_append, List.cons_append, List.append_nil, List.map_cons, List.map_nil, List.sum_cons, List.sum_nil, Value.category, ne_eq, Nat.reduceEqDiff, reduceIte, ite_self, false_implies, true_implies, true_and, and_true, and_self, Nat.zero_le, Nat.le_refl, Nat.reduceLeDiff, Nat.reduceAdd, Nat.reduceLT, Nat.add_zero, Nat.zero_add, pu_eq, not_false_eq_true, not_true_eq_false, forall_const, if_true, if_false, implies_true, H.f1, H.f2, H.f3, H.f4, hm, e1, vp_in_nI hN (by decide), nI_clamp (Nat.lt_trans hN (by decide)), pu_add, nI_1]
  refine ⟨rfl, rfl, ?_⟩
  exact hQ _ ((((H.ru 2 m _).ru 3 m _).ru 4 m _).ru 1 0 _) ((((FR.rf.pu (by decide)).pu (by decide)).pu (by decide)).pu (by decide))
/-! Scars -/
theorem c_X8_tellBetter {s t tl : Nat} (H : AA h a r lw) (hs : s < 24) (ht : r 13 s = nI tl) (htl : tl ≤ 9) {x : Int32} (hQ : ∀ h', AA h' a (ru (ru r 16 s (r 16 s ||| (1 <<< (x &&& 31)))) 13 s (nI (min 9 (tl + 1)))) lw → FR a h h' → Q (.inl (some (.int (nI (min 9 (tl + 1)))))) h' n) : pCall E M_X8_tellBetter d [.ref (a + 8), .int (nI s), .int x] h n Q := by
  refine pCall_of rfl rfl (Nat.le_of_ble_eq_true rfl) (by simp [Value.category]) ?_
  refine b_X8_tellBetter_0 _ _ _ ?_
  simp only [pEntry, PM.nL, M_X8_tellBetter, List.map_cons, List.map_nil, List.length_cons, List.length_nil, Nat.reduceAdd, Nat.reduceSub, Nat.sub_self, List.replicate_succ, List.replicate_zero, List.cons_append, List.nil_append]
  have e1 : (if nI (tl + 1) < 9 then nI (tl + 1) else 9) = nI (min 9 (tl + 1)) := by
    rw [show (9 : Int32) = nI 9 from rfl, nI_mn (by decide) (by omega)]; congr 1; split <;> omega
  simp only [i_const, i_load, i_aload, i_store, i_astore, i_inc, i_iadd, i_isub, i_imul, i_idiv, i_irem, i_iand, i_ior, i_ixor, i_ishl, i_ishr, i_iushr, i_ineg, i_i2l, i_i2b, i_i2c, i_lcmp, i_dup, i_dup2, i_pop, i_null, i_alen, i_iald, i_bald, i_lald, i_aald, i_iast, i_bast, i_last, i_aast, i_goto, i_icmp_eq, i_icmp_ne, i_icmp_lt, i_icmp_ge, i_icmp_gt, i_icmp_le, i_if_eq, i_if_ne, i_if_lt, i_if_ge, i_if_gt, i_if_le, i_ifnonnull, i_getf, i_putf, i_iret, i_zret, i_aret, i_vret, i_new, i_newa, i_anew, i_oinit, i_callv, i_calls, i_calli, i_max, i_min, i_abs, i_copy, i_throw, i_ldcs, pwt, List.getElem?_cons_zero, List.getElem?_cons_succ, List.set_cons_zero, List.set_cons_succ, List.getD_cons_zero, List.getD_cons_succ, List.length_cons, List.length_nil, List.length_set, List.drop_succ_cons, List.drop_zero, List.take_succ_cons, List.take_zero, List.reverse_cons, List.reverse_nil, List.nil_append, List.cons_append, List.append_nil, List.map_cons, List.map_nil, List.sum_cons, List.sum_nil, Value.category, ne_eq, Nat.reduceEqDiff, reduceIte, ite_self, false_implies, true_implies, true_and, and_true, and_self, Nat.zero_le, Nat.le_refl, Nat.reduceLeDiff, Nat.reduceAdd, Nat.reduceLT, Nat.add_zero, Nat.zero_add, pu_eq, not_false_eq_true, not_true_eq_false, forall_const, if_true, if_false, implies_true, H.f8, H.f16, H.f13, ht, vp_in_nI hs (by decide), nI_clamp (Nat.lt_trans hs (by decide)), pu_add, nI_1, e1, upd]
  exact hQ _ ((H.ru 16 s _).ru 13 s _) ((FR.rf.pu (by decide)).pu (by decide))
def rAdd (r : AR) (m : Nat) (p w b dp mn : Int32) : AR := ru (ru (ru (ru (ru (ru (ru (ru (ru r 9 m p) 10 m w) 11 m b) 12 m dp) 13 m 0) 14 m mn) 15 m mn) 16 m 0) 8 0 (nI (m + 1))
theorem c_X8_add {p w b dp mn : Int32} {m : Nat} (H : AA h a r lw) (hm : r 8 0 = nI m) (hN : m < 24) (hQ : ∀ h', AA h' a (rAdd r m p w b dp mn) lw → FR a h h' → Q (.inl (some (.int (nI m)))) h' n) : pCall E M_X8_add d [.ref (a + 8), .int p, .int w, .int b, .int dp, .int mn] h n Q := by
  refine pCall_of rfl rfl (Nat.le_of_ble_eq_true rfl) (by simp [Value.category]) ?_
  refine b_X8_add_0 _ _ _ ?_
  simp only [pEntry, PM.nL, M_X8_add, List.map_cons, List.map_nil, List.length_cons, List.length_nil, Nat.reduceAdd, Nat.reduceSub, Nat.sub_self, List.replicate_succ, List.replicate_zero, List.cons_append, List.nil_append]
  have e1 : (if (23 : Int32) < nI m then 23 else nI m) = nI m := by
    rw [show (23 : Int32) = nI 23 from rfl, nI_mn (by omega) (by decide)]; congr 1; split <;> omega
  simp only [i_const, i_load, i_aload, i_store, i_astore, i_inc, i_iadd, i_isub, i_imul, i_idiv, i_irem, i_iand, i_ior, i_ixor, i_ishl, i_ishr, i_iushr, i_ineg, i_i2l, i_i2b, i_i2c, i_lcmp, i_dup, i_dup2, i_pop, i_null, i_alen, i_iald, i_bald, i_lald, i_aald, i_iast, i_bast, i_last, i_aast, i_goto, i_icmp_eq, i_icmp_ne, i_icmp_lt, i_icmp_ge, i_icmp_gt, i_icmp_le, i_if_eq, i_if_ne, i_if_lt, i_if_ge, i_if_gt, i_if_le, i_ifnonnull, i_getf, i_putf, i_iret, i_zret, i_aret, i_vret, i_new, i_newa, i_anew, i_oinit, i_callv, i_calls, i_calli, i_max, i_min, i_abs, i_copy, i_throw, i_ldcs, pwt, List.getElem?_cons_zero, List.getElem?_cons_succ, List.set_cons_zero, List.set_cons_succ, List.getD_cons_zero, List.getD_cons_succ, List.length_cons, List.length_nil, List.length_set, List.drop_succ_cons, List.drop_zero, List.take_succ_cons, List.take_zero, List.reverse_cons, List.reverse_nil, List.nil_append, List.cons_append, List.append_nil, List.map_cons, List.map_nil, List.sum_cons, List.sum_nil, Value.category, ne_eq, Nat.reduceEqDiff, reduceIte, ite_self, false_implies, true_implies, true_and, and_true, and_self, Nat.zero_le, Nat.le_refl, Nat.reduceLeDiff, Nat.reduceAdd, Nat.reduceLT, Nat.add_zero, Nat.zero_add, pu_eq, not_false_eq_true, not_true_eq_false, forall_const, if_true, if_false, implies_true, H.f8, H.f9, H.f10, H.f11, H.f12, H.f13, H.f14, H.f15, H.f16, hm, e1, vp_in_nI hN (by decide), nI_clamp (Nat.lt_trans hN (by decide)), pu_add, nI_1]
  refine ⟨rfl, rfl, ?_⟩
  exact hQ _ (((((((((H.ru 9 m _).ru 10 m _).ru 11 m _).ru 12 m _).ru 13 m _).ru 14 m _).ru 15 m _).ru 16 m _).ru 8 0 _) (((((((((FR.rf.pu (by decide)).pu (by decide)).pu (by decide)).pu (by decide)).pu (by decide)).pu (by decide)).pu (by decide)).pu (by decide)).pu (by decide))
/-! Log -/
def rLog (r : AR) (nx m : Nat) (t s f o p : Int32) : AR := ru (ru (ru (ru (ru (ru (ru r 18 (nx * 5) t) 18 (nx * 5 + 1) s) 18 (nx * 5 + 2) f) 18 (nx * 5 + 3) o) 18 (nx * 5 + 4) p) 17 1 (nI ((nx + 1) % 60))) 17 0 (nI (min 60 (m + 1)))
theorem c_X5_add {t s f o p : Int32} {m nx : Nat} (H : AA h a r lw) (hm : r 17 0 = nI m) (hN : m ≤ 60) (hx : r 17 1 = nI nx) (hnx : nx < 60) (hQ : ∀ h', AA h' a (rLog r nx m t s f o p) lw → FR a h h' → Q (.inl none) h' n) : pCall E M_X5_add d [.ref (a + 17), .int t, .int s, .int f, .int o, .int p] h n Q := by
  refine pCall_of rfl rfl (Nat.le_of_ble_eq_true rfl) (by simp [Value.category]) ?_
  refine b_X5_add_0 _ _ _ ?_
  simp only [pEntry, PM.nL, M_X5_add, List.map_cons, List.map_nil, List.length_cons, List.length_nil, Nat.reduceAdd, Nat.reduceSub, Nat.sub_self, List.replicate_succ, List.replicate_zero, List.cons_append, List.nil_append]
  have e1 : nI (nx * 5) + 1 = nI (nx * 5 + 1) := nI_1 _
  have e2 : nI (nx * 5) + 2 = nI (nx * 5 + 2) := nI_add _ 2
  have e3 : nI (nx * 5) + 3 = nI (nx * 5 + 3) := nI_add _ 3
  have e4 : nI (nx * 5) + 4 = nI (nx * 5 + 4) := nI_add _ 4
  have e5 : nI (nx + 1) - nI (nx + 1) / 60 * 60 = nI ((nx + 1) % 60) := pk_rem (d := 60) (by omega) (by decide) (by decide)
  have e6 : (if nI (m + 1) < 60 then nI (m + 1) else 60) = nI (min 60 (m + 1)) := by
    rw [show (60 : Int32) = nI 60 from rfl, nI_mn (by decide) (by omega)]; congr 1; split <;> omega
  have v0 : vp_in (nI (nx * 5)) 300 := vp_in_nI (by omega) (by decide)
  have v1 : vp_in (nI (nx * 5 + 1)) 300 := vp_in_nI (by omega) (by decide)
  have v2 : vp_in (nI (nx * 5 + 2)) 300 := vp_in_nI (by omega) (by decide)
  have v3 : vp_in (nI (nx * 5 + 3)) 300 := vp_in_nI (by omega) (by decide)
  have v4 : vp_in (nI (nx * 5 + 4)) 300 := vp_in_nI (by omega) (by decide)
  have c0 : (nI (nx * 5)).toNatClampNeg = nx * 5 := nI_clamp (by omega)
  have c1 : (nI (nx * 5 + 1)).toNatClampNeg = nx * 5 + 1 := nI_clamp (by omega)
  have c2 : (nI (nx * 5 + 2)).toNatClampNeg = nx * 5 + 2 := nI_clamp (by omega)
  have c3 : (nI (nx * 5 + 3)).toNatClampNeg = nx * 5 + 3 := nI_clamp (by omega)
  have c4 : (nI (nx * 5 + 4)).toNatClampNeg = nx * 5 + 4 := nI_clamp (by omega)
  have g1 : r 17 1 * 5 = nI (nx * 5) := by rw [hx]; exact mul5
  have g2 : r 17 1 + 1 = nI (nx + 1) := by rw [hx]; exact nI_1 nx
  have g3 : r 17 0 + 1 = nI (m + 1) := by rw [hm]; exact nI_1 m
  simp only [i_const, i_load, i_aload, i_store, i_astore, i_inc, i_iadd, i_isub, i_imul, i_idiv, i_irem, i_iand, i_ior, i_ixor, i_ishl, i_ishr, i_iushr, i_ineg, i_i2l, i_i2b, i_i2c, i_lcmp, i_dup, i_dup2, i_pop, i_null, i_alen, i_iald, i_bald, i_lald, i_aald, i_iast, i_bast, i_last, i_aast, i_goto, i_icmp_eq, i_icmp_ne, i_icmp_lt, i_icmp_ge, i_icmp_gt, i_icmp_le, i_if_eq, i_if_ne, i_if_lt, i_if_ge, i_if_gt, i_if_le, i_ifnonnull, i_getf, i_putf, i_iret, i_zret, i_aret, i_vret, i_new, i_newa, i_anew, i_oinit, i_callv, i_calls, i_calli, i_max, i_min, i_abs, i_copy, i_throw, i_ldcs, pwt, List.getElem?_cons_zero, List.getElem?_cons_succ, List.set_cons_zero, List.set_cons_succ, List.getD_cons_zero, List.getD_cons_succ, List.length_cons, List.length_nil, List.length_set, List.drop_succ_cons, List.drop_zero, List.take_succ_cons, List.take_zero, List.reverse_cons, List.reverse_nil, List.nil_append, List.cons_append, List.append_nil, List.map_cons, List.map_nil, List.sum_cons, List.sum_nil, Value.category, ne_eq, Nat.reduceEqDiff, reduceIte, ite_self, false_implies, true_implies, true_and, and_true, and_self, Nat.zero_le, Nat.le_refl, Nat.reduceLeDiff, Nat.reduceAdd, Nat.reduceLT, Nat.add_zero, Nat.zero_add, pu_eq, not_false_eq_true, not_true_eq_false, forall_const, if_true, if_false, implies_true, H.f17, H.f18, g1, g2, g3, e1, e2, e3, e4, v0, v1, v2, v3, v4, c0, c1, c2, c3, c4, pu_add, e5, e6]
  refine ⟨by decide, rfl, rfl, rfl, rfl, ?_⟩
  exact hQ _ (((((((H.ru 18 _ _).ru 18 _ _).ru 18 _ _).ru 18 _ _).ru 18 _ _).ru 17 1 _).ru 17 0 _) (((((((FR.rf.pu (by decide)).pu (by decide)).pu (by decide)).pu (by decide)).pu (by decide)).pu (by decide)).pu (by decide))
end WRITE

/-! the law's loop and its beginning -/
section LOOP
variable {E : PE} {d x : Nat} {Q : PQ}
theorem ln6 {len i : Nat} (hN : len ≤ 3072) (hi : i ≤ 3078) : Int32.ofNat len - 6 < nI i ↔ len < i + 6 := by
  by_cases c : 6 ≤ len
  · have e : Int32.ofNat len - 6 = nI (len - 6) := pk_sub (a := len) (b := 6) c
    rw [e, nI_ltI (by omega) (by omega)]
    omega
  · refine ⟨fun _ => by omega, fun _ => ?_⟩
    have z : (0 : Int32) ≤ nI i := Int32.not_lt.mp (nI_pos (by omega))
    have y : Int32.ofNat len - 6 < 0 := by
      rcases (show len = 0 ∨ len = 1 ∨ len = 2 ∨ len = 3 ∨ len = 4 ∨ len = 5 by omega) with rfl | rfl | rfl | rfl | rfl | rfl <;> decide
    exact Int32.lt_of_lt_of_le y z
set_option maxRecDepth 100000 in
theorem lw_loop (hE : EC E) (hN : E.sc.2.1 ≤ 3072) (hQ : ∀ h n, Q (.inl (some (.int 1))) h n) : ∀ (t i : Nat) (a b : Option Value) (h : PH) (n cs ss : Nat), IV x h n → i ≤ 3078 → E.sc.2.1 ≤ i + 6 * t → cs + 3 * t ≤ 601024 → ss + 463 * t ≤ 7293034 → PW E M_L_law_ (d + 42) Q 23 [some (.ref E.sc.1), some (.ref x), some (.ref (x + 316)), some (.ref (x + 329)), some (.int (nI i)), a, b] [] (h, n, cs, ss) := by
  intro t
  induction t with
  | zero =>
    intro i a b h n cs ss I hi hl hc hs
    have e1 : Int32.ofNat E.sc.2.1 - 6 < nI i := (ln6 hN hi).mpr (by omega)
    refine b_L_law__23 _ _ _ ?_
    simp only [i_const, i_load, i_aload, i_store, i_astore, i_inc, i_iadd, i_isub, i_imul, i_idiv, i_irem, i_iand, i_ior, i_ixor, i_ishl, i_ishr, i_iushr, i_ineg, i_i2l, i_i2b, i_i2c, i_lcmp, i_dup, i_dup2, i_pop, i_null, i_alen, i_iald, i_bald, i_lald, i_aald, i_iast, i_bast, i_last, i_aast, i_goto, i_icmp_eq, i_icmp_ne, i_icmp_lt, i_icmp_ge, i_icmp_gt, i_icmp_le, i_if_eq, i_if_ne, i_if_lt, i_if_ge, i_if_gt, i_if_le, i_ifnonnull, i_getf, i_putf, i_iret, i_zret, i_aret, i_vret, i_new, i_newa, i_anew, i_oinit, i_callv, i_calls, i_calli, i_max, i_min, i_abs, i_copy, i_throw, i_ldcs, pwt, List.getElem?_cons_zero, List.getElem?_cons_succ, List.set_cons_zero, List.set_cons_succ, List.getD_cons_zero, List.getD_cons_succ, List.length_cons, List.length_nil, List.length_set, List.drop_succ_cons, List.drop_zero, List.take_succ_cons, List.take_zero, List.reverse_cons, List.reverse_nil, List.nil_append, List.cons_append, List.append_nil, List.map_cons, List.map_nil, List.sum_cons, List.sum_nil, Value.category, ne_eq, Nat.reduceEqDiff, reduceIte, ite_self, false_implies, true_implies, true_and, and_true, and_self, Nat.zero_le, Nat.le_refl, Nat.reduceLeDiff, Nat.reduceAdd, Nat.reduceLT, Nat.add_zero, Nat.zero_add, pu_eq, not_false_eq_true, not_true_eq_false, forall_const, if_true, if_false, implies_true, i_slen, e1, eq_self]
    exact ⟨Or.inr trivial, by omega, by omega, hQ _ _⟩
  | succ t ih =>
    intro i a b h n cs ss I hi hl hc hs
    by_cases c : E.sc.2.1 < i + 6
    · have e1 : Int32.ofNat E.sc.2.1 - 6 < nI i := (ln6 hN hi).mpr c
      refine b_L_law__23 _ _ _ ?_
      simp only [i_const, i_load, i_aload, i_store, i_astore, i_inc, i_iadd, i_isub, i_imul, i_idiv, i_irem, i_iand, i_ior, i_ixor, i_ishl, i_ishr, i_iushr, i_ineg, i_i2l, i_i2b, i_i2c, i_lcmp, i_dup, i_dup2, i_pop, i_null, i_alen, i_iald, i_bald, i_lald, i_aald, i_iast, i_bast, i_last, i_aast, i_goto, i_icmp_eq, i_icmp_ne, i_icmp_lt, i_icmp_ge, i_icmp_gt, i_icmp_le, i_if_eq, i_if_ne, i_if_lt, i_if_ge, i_if_gt, i_if_le, i_ifnonnull, i_getf, i_putf, i_iret, i_zret, i_aret, i_vret, i_new, i_newa, i_anew, i_oinit, i_callv, i_calls, i_calli, i_max, i_min, i_abs, i_copy, i_throw, i_ldcs, pwt, List.getElem?_cons_zero, List.getElem?_cons_succ, List.set_cons_zero, List.set_cons_succ, List.getD_cons_zero, List.getD_cons_succ, List.length_cons, List.length_nil, List.length_set, List.drop_succ_cons, List.drop_zero, List.take_succ_cons, List.take_zero, List.reverse_cons, List.reverse_nil, List.nil_append, List.cons_append, List.append_nil, List.map_cons, List.map_nil, List.sum_cons, List.sum_nil, Value.category, ne_eq, Nat.reduceEqDiff, reduceIte, ite_self, false_implies, true_implies, true_and, and_true, and_self, Nat.zero_le, Nat.le_refl, Nat.reduceLeDiff, Nat.reduceAdd, Nat.reduceLT, Nat.add_zero, Nat.zero_add, pu_eq, not_false_eq_true, not_true_eq_false, forall_const, if_true, if_false, implies_true, i_slen, e1, eq_self]
      exact ⟨Or.inr trivial, by omega, by omega, hQ _ _⟩
    · have e1 : ¬ Int32.ofNat E.sc.2.1 - 6 < nI i := fun z => c ((ln6 hN hi).mp z)
      have v0 : vp_in (nI i) E.sc.2.1 := vp_in_nI (by omega) (by omega)
      have t0 : (nI i).toNatClampNeg = i := nI_clamp (by omega)
      have hi' : i + 6 ≤ E.sc.2.1 := by omega
      have hc' : cs + 3 ≤ 601024 := by omega
      have hs' : ss + 463 ≤ 7293034 := by omega
      have hK : ∀ (a b : Option Value) (h' : PH) (n' cs' ss' : Nat), IV x h' n' → cs' ≤ cs + 3 → ss' ≤ ss + 463 → PW E M_L_law_ (d + 42) Q 2589 [some (.ref E.sc.1), some (.ref x), some (.ref (x + 316)), some (.ref (x + 329)), some (.int (nI i)), a, b] [] (h', n', cs', ss') := by
        intro a b h' n' cs' ss' I' h1 h2
        refine b_L_law__2589 _ _ _ ?_
        have e6 : nI i + 6 = nI (i + 6) := nI_add i 6
        simp only [i_const, i_load, i_aload, i_store, i_astore, i_inc, i_iadd, i_isub, i_imul, i_idiv, i_irem, i_iand, i_ior, i_ixor, i_ishl, i_ishr, i_iushr, i_ineg, i_i2l, i_i2b, i_i2c, i_lcmp, i_dup, i_dup2, i_pop, i_null, i_alen, i_iald, i_bald, i_lald, i_aald, i_iast, i_bast, i_last, i_aast, i_goto, i_icmp_eq, i_icmp_ne, i_icmp_lt, i_icmp_ge, i_icmp_gt, i_icmp_le, i_if_eq, i_if_ne, i_if_lt, i_if_ge, i_if_gt, i_if_le, i_ifnonnull, i_getf, i_putf, i_iret, i_zret, i_aret, i_vret, i_new, i_newa, i_anew, i_oinit, i_callv, i_calls, i_calli, i_max, i_min, i_abs, i_copy, i_throw, i_ldcs, pwt, List.getElem?_cons_zero, List.getElem?_cons_succ, List.set_cons_zero, List.set_cons_succ, List.getD_cons_zero, List.getD_cons_succ, List.length_cons, List.length_nil, List.length_set, List.drop_succ_cons, List.drop_zero, List.take_succ_cons, List.take_zero, List.reverse_cons, List.reverse_nil, List.nil_append, List.cons_append, List.append_nil, List.map_cons, List.map_nil, List.sum_cons, List.sum_nil, Value.category, ne_eq, Nat.reduceEqDiff, reduceIte, ite_self, false_implies, true_implies, true_and, and_true, and_self, Nat.zero_le, Nat.le_refl, Nat.reduceLeDiff, Nat.reduceAdd, Nat.reduceLT, Nat.add_zero, Nat.zero_add, pu_eq, not_false_eq_true, not_true_eq_false, forall_const, if_true, if_false, implies_true, e6]
        exact ih (i + 6) a b h' n' cs' ss' I' (by omega) (by omega) (by omega) (by omega)
      refine b_L_law__23 _ _ _ ?_
      simp only [i_const, i_load, i_aload, i_store, i_astore, i_inc, i_iadd, i_isub, i_imul, i_idiv, i_irem, i_iand, i_ior, i_ixor, i_ishl, i_ishr, i_iushr, i_ineg, i_i2l, i_i2b, i_i2c, i_lcmp, i_dup, i_dup2, i_pop, i_null, i_alen, i_iald, i_bald, i_lald, i_aald, i_iast, i_bast, i_last, i_aast, i_goto, i_icmp_eq, i_icmp_ne, i_icmp_lt, i_icmp_ge, i_icmp_gt, i_icmp_le, i_if_eq, i_if_ne, i_if_lt, i_if_ge, i_if_gt, i_if_le, i_ifnonnull, i_getf, i_putf, i_iret, i_zret, i_aret, i_vret, i_new, i_newa, i_anew, i_oinit, i_callv, i_calls, i_calli, i_max, i_min, i_abs, i_copy, i_throw, i_ldcs, pwt, List.getElem?_cons_zero, List.getElem?_cons_succ, List.set_cons_zero, List.set_cons_succ, List.getD_cons_zero, List.getD_cons_succ, List.length_cons, List.length_nil, List.length_set, List.drop_succ_cons, List.drop_zero, List.take_succ_cons, List.take_zero, List.reverse_cons, List.reverse_nil, List.nil_append, List.cons_append, List.append_nil, List.map_cons, List.map_nil, List.sum_cons, List.sum_nil, Value.category, ne_eq, Nat.reduceEqDiff, reduceIte, ite_self, false_implies, true_implies, true_and, and_true, and_self, Nat.zero_le, Nat.le_refl, Nat.reduceLeDiff, Nat.reduceAdd, Nat.reduceLT, Nat.add_zero, Nat.zero_add, pu_eq, not_false_eq_true, not_true_eq_false, forall_const, if_true, if_false, implies_true, i_slen, i_sald, i_tsw, e1, v0, t0, eq_self]
      refine ⟨fun c1 c2 => ?_, fun _ => hK _ _ _ _ _ _ I (by omega) (by omega)⟩
      have hv : ((E.sc.2.2 i &&& 63).toInt - 0).toNat < 47 := by omega
      revert hv
      generalize ((E.sc.2.2 i &&& 63).toInt - 0).toNat = v
      intro hv
      match v, hv with
      | 0, _ => exact k_feed I hi' hN hc' hs' hK
      | 1, _ => exact k_end I hi' hN hc' hs' hK
      | 2, _ => exact k_army hE I hi' hN hc' hs' hK
      | 3, _ => exact k_law hE I hi' hN hc' hs' hK
      | 4, _ => exact k_fault I hi' hN hc' hs' hK
      | 5, _ => exact k_battle I hi' hN hc' hs' hK
      | 6, _ => exact k_man I hi' hN hc' hs' hK
      | 7, _ => exact k_scar I hi' hN hc' hs' hK
      | 8, _ => exact k_who I hi' hN hc' hs' hK
      | 9, _ => exact k_hand I hi' hN hc' hs' hK
      | 10, _ => exact k_polish I hi' hN hc' hs' hK
      | 11, _ => exact k_die I hi' hN hc' hs' hK
      | 12, _ => exact k_widow I hi' hN hc' hs' hK
      | 13, _ => exact k_wound I hi' hN hc' hs' hK
      | 14, _ => exact k_days I hi' hN hc' hs' hK
      | 15, _ => exact k_market I hi' hN hc' hs' hK
      | 16, _ => exact k_swaps I hi' hN hc' hs' hK
      | 17, _ => exact k_his I hi' hN hc' hs' hK
      | 18, _ => exact k_largest I hi' hN hc' hs' hK
      | 19, _ => exact k_betrays I hi' hN hc' hs' hK
      | 20, _ => exact k_fewest I hi' hN hc' hs' hK
      | 21, _ => exact k_least I hi' hN hc' hs' hK
      | 22, _ => exact k_gains I hi' hN hc' hs' hK
      | 23, _ => exact k_buyer I hi' hN hc' hs' hK
      | 24, _ => exact k_enemies I hi' hN hc' hs' hK
      | 25, _ => exact k_sergeant I hi' hN hc' hs' hK
      | 26, _ => exact k_turn I hi' hN hc' hs' hK
      | 27, _ => exact k_polished I hi' hN hc' hs' hK
      | 28, _ => exact k_bargain I hi' hN hc' hs' hK
      | 29, _ => exact k_hands I hi' hN hc' hs' hK
      | 30, _ => exact k_mourned I hi' hN hc' hs' hK
      | 31, _ => exact k_after I hi' hN hc' hs' hK
      | 32, _ => exact k_shared I hi' hN hc' hs' hK
      | 33, _ => exact k_route I hi' hN hc' hs' hK
      | 34, _ => exact k_campaign I hi' hN hc' hs' hK
      | 35, _ => exact k_voids I hi' hN hc' hs' hK
      | 36, _ => exact k_lies I hi' hN hc' hs' hK
      | 37, _ => exact k_crosswise I hi' hN hc' hs' hK
      | 38, _ => exact k_trial I hi' hN hc' hs' hK
      | 39, _ => exact k_span I hi' hN hc' hs' hK
      | 40, _ => exact k_led I hi' hN hc' hs' hK
      | 41, _ => exact k_log I hi' hN hc' hs' hK
      | 42, _ => exact k_seed I hi' hN hc' hs' hK
      | 43, _ => exact k_undo I hi' hN hc' hs' hK
      | 44, _ => exact k_image I hi' hN hc' hs' hK
      | 45, _ => exact k_back I hi' hN hc' hs' hK
      | 46, _ => exact k_count I hi' hN hc' hs' hK
      | v + 47, hv => exact absurd hv (by omega)
theorem MR0 : MR w0 0 (fun _ => 0) K0 0 0 0 (-1) := by
  have z1 : cl r0 1 0 = 0 := by decide
  have z5 : cl r0 5 0 = 0 := by decide
  have z8 : cl r0 8 0 = 0 := by decide
  have z17 : cl r0 17 0 = 0 := by decide
  refine ⟨⟨⟨rfl, rfl, rfl, rfl, rfl, rfl, rfl⟩, fun j hj => ?_, fun j hj => ?_, fun j hj => ?_, fun j hj => ?_, rfl⟩, rfl, rfl, rfl, rfl, rfl, fun q => absurd rfl q, fun j hj => absurd hj (Nat.not_lt_zero j), fun i hi => absurd hi (Nat.not_lt_zero i)⟩
  · rw [show cl (K0 0).1 1 0 = 0 from z1] at hj; exact absurd hj (Nat.not_lt_zero j)
  · rw [show cl (K0 0).1 5 0 = 0 from z5] at hj; exact absurd hj (Nat.not_lt_zero j)
  · rw [show cl (K0 0).1 8 0 = 0 from z8] at hj; exact absurd hj (Nat.not_lt_zero j)
  · rw [show cl (K0 0).1 17 0 = 0 from z17] at hj; exact absurd hj (Nat.not_lt_zero j)
set_option maxRecDepth 10000 in
theorem lw_begin (hE : EC E) (hN : E.sc.2.1 ≤ 3072) (hQ : ∀ h n, Q (.inl (some (.int 1))) h n) : PW E M_L_law_ (d + 42) Q 0 (pEntry 7 [.ref E.sc.1]) [] ((fun _ => none), x, 0, 0) := by
  refine b_L_law__0 _ _ _ ?_
  simp only [pEntry, PM.nL, M_L_law_, List.map_cons, List.map_nil, List.length_cons, List.length_nil, Nat.reduceAdd, Nat.reduceSub, Nat.sub_self, List.replicate_succ, List.replicate_zero, List.cons_append, List.nil_append]
  have c1 : ¬ (1 : Int32) < 0 := by decide
  have c2 : (1 : Int32).toNatClampNeg = 1 := by decide
  simp only [i_const, i_load, i_aload, i_store, i_astore, i_inc, i_iadd, i_isub, i_imul, i_idiv, i_irem, i_iand, i_ior, i_ixor, i_ishl, i_ishr, i_iushr, i_ineg, i_i2l, i_i2b, i_i2c, i_lcmp, i_dup, i_dup2, i_pop, i_null, i_alen, i_iald, i_bald, i_lald, i_aald, i_iast, i_bast, i_last, i_aast, i_goto, i_icmp_eq, i_icmp_ne, i_icmp_lt, i_icmp_ge, i_icmp_gt, i_icmp_le, i_if_eq, i_if_ne, i_if_lt, i_if_ge, i_if_gt, i_if_le, i_ifnonnull, i_getf, i_putf, i_iret, i_zret, i_aret, i_vret, i_new, i_newa, i_anew, i_oinit, i_callv, i_calls, i_calli, i_max, i_min, i_abs, i_copy, i_throw, i_ldcs, pwt, List.getElem?_cons_zero, List.getElem?_cons_succ, List.set_cons_zero, List.set_cons_succ, List.getD_cons_zero, List.getD_cons_succ, List.length_cons, List.length_nil, List.length_set, List.drop_succ_cons, List.drop_zero, List.take_succ_cons, List.take_zero, List.reverse_cons, List.reverse_nil, List.nil_append, List.cons_append, List.append_nil, List.map_cons, List.map_nil, List.sum_cons, List.sum_nil, Value.category, ne_eq, Nat.reduceEqDiff, reduceIte, ite_self, false_implies, true_implies, true_and, and_true, and_self, Nat.zero_le, Nat.le_refl, Nat.reduceLeDiff, Nat.reduceAdd, Nat.reduceLT, Nat.add_zero, Nat.zero_add, pu_eq, not_false_eq_true, not_true_eq_false, forall_const, if_true, if_false, implies_true, c1, c2, eq_self]
  refine c_X11_init (pu_eq _ _ _) (fun h1 X1 N1 => ?_)
  simp only [i_const, i_load, i_aload, i_store, i_astore, i_inc, i_iadd, i_isub, i_imul, i_idiv, i_irem, i_iand, i_ior, i_ixor, i_ishl, i_ishr, i_iushr, i_ineg, i_i2l, i_i2b, i_i2c, i_lcmp, i_dup, i_dup2, i_pop, i_null, i_alen, i_iald, i_bald, i_lald, i_aald, i_iast, i_bast, i_last, i_aast, i_goto, i_icmp_eq, i_icmp_ne, i_icmp_lt, i_icmp_ge, i_icmp_gt, i_icmp_le, i_if_eq, i_if_ne, i_if_lt, i_if_ge, i_if_gt, i_if_le, i_ifnonnull, i_getf, i_putf, i_iret, i_zret, i_aret, i_vret, i_new, i_newa, i_anew, i_oinit, i_callv, i_calls, i_calli, i_max, i_min, i_abs, i_copy, i_throw, i_ldcs, pwt, List.getElem?_cons_zero, List.getElem?_cons_succ, List.set_cons_zero, List.set_cons_succ, List.getD_cons_zero, List.getD_cons_succ, List.length_cons, List.length_nil, List.length_set, List.drop_succ_cons, List.drop_zero, List.take_succ_cons, List.take_zero, List.reverse_cons, List.reverse_nil, List.nil_append, List.cons_append, List.append_nil, List.map_cons, List.map_nil, List.sum_cons, List.sum_nil, Value.category, ne_eq, Nat.reduceEqDiff, reduceIte, ite_self, false_implies, true_implies, true_and, and_true, and_self, Nat.zero_le, Nat.le_refl, Nat.reduceLeDiff, Nat.reduceAdd, Nat.reduceLT, Nat.add_zero, Nat.zero_add, pu_eq, not_false_eq_true, not_true_eq_false, forall_const, if_true, if_false, implies_true, pRetI, c1, c2, eq_self]
  refine c_X12_init (m := x + 316) (pu_eq _ _ _) (fun h2 Y2 N2 => ?_)
  simp only [i_const, i_load, i_aload, i_store, i_astore, i_inc, i_iadd, i_isub, i_imul, i_idiv, i_irem, i_iand, i_ior, i_ixor, i_ishl, i_ishr, i_iushr, i_ineg, i_i2l, i_i2b, i_i2c, i_lcmp, i_dup, i_dup2, i_pop, i_null, i_alen, i_iald, i_bald, i_lald, i_aald, i_iast, i_bast, i_last, i_aast, i_goto, i_icmp_eq, i_icmp_ne, i_icmp_lt, i_icmp_ge, i_icmp_gt, i_icmp_le, i_if_eq, i_if_ne, i_if_lt, i_if_ge, i_if_gt, i_if_le, i_ifnonnull, i_getf, i_putf, i_iret, i_zret, i_aret, i_vret, i_new, i_newa, i_anew, i_oinit, i_callv, i_calls, i_calli, i_max, i_min, i_abs, i_copy, i_throw, i_ldcs, pwt, List.getElem?_cons_zero, List.getElem?_cons_succ, List.set_cons_zero, List.set_cons_succ, List.getD_cons_zero, List.getD_cons_succ, List.length_cons, List.length_nil, List.length_set, List.drop_succ_cons, List.drop_zero, List.take_succ_cons, List.take_zero, List.reverse_cons, List.reverse_nil, List.nil_append, List.cons_append, List.append_nil, List.map_cons, List.map_nil, List.sum_cons, List.sum_nil, Value.category, ne_eq, Nat.reduceEqDiff, reduceIte, ite_self, false_implies, true_implies, true_and, and_true, and_self, Nat.zero_le, Nat.le_refl, Nat.reduceLeDiff, Nat.reduceAdd, Nat.reduceLT, Nat.add_zero, Nat.zero_add, pu_eq, not_false_eq_true, not_true_eq_false, forall_const, if_true, if_false, implies_true, pRetI, c1, c2, eq_self, Nat.add_assoc]
  have I : IV x (pu h2 (x + 329) (.inl (.long, (1, .inr (.inl (fun _ => 0)))))) (x + 330) := by
    refine ⟨0, fun _ => 0, K0, 0, 0, 0, -1, w0, fun _ => 0, X1.base (fun q hq => ?_) (by omega), Y2.out, MR0, pu_eq _ _ _⟩
    rw [pu_ne (by omega), N2 q (by omega), pu_ne (by omega)]
  exact lw_loop hE hN hQ 512 0 _ _ _ _ _ _ I (by omega) (by omega) (by omega) (by omega)
end LOOP

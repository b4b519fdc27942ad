/-! the reference: a scar goes over -/
section MOVER
variable {E : PE} {M : PM} {d : Nat} {Q : PQ} {h h' : PH} {n : Nat} {m : Nat} {w : AR} {r r' : AR} {C : Option LawL} {pc : Nat} {ls : LawL} {W W' : Nat → Int32}
theorem c_X12_draw {k : Nat} (X : MX h m w) (hk : 0 < k) (hk2 : k < 100) (hQ : ∀ h', MX h' m (ru w 1 7 (drI (w 1 7))) → FM m h h' → Q (.inl (some (.int (nI (drN (w 1 7) % k))))) h' n) : pCall E M_X12_draw d [.ref m, .int (nI k)] h n Q := by
  refine pCall_of rfl rfl (Nat.le_of_ble_eq_true rfl) (by simp [Value.category]) ?_
  refine b_X12_draw_0 _ _ _ ?_
  simp only [pEntry, PM.nL, M_X12_draw, List.map_cons, List.map_nil, List.length_cons, List.length_nil, Nat.reduceAdd, Nat.reduceSub, Nat.sub_self, List.replicate_succ, List.replicate_zero, List.cons_append, List.nil_append]
  have v7 := v2252 (x := 7) (i := 7) rfl (by decide)
  obtain ⟨X1, F1⟩ := X.set (k := 1) (i := 7) (by decide) (by decide) (drI (w 1 7))
  have e0 : (1103515245 : Int32) * w 1 7 + 12345 = drI (w 1 7) := rfl
  have e7 : ru w 1 7 (drI (w 1 7)) 1 7 = drI (w 1 7) := rfl
  have g0 := X1.f0
  have g1 := X1.f1
  simp only [i_const, i_load, i_aload, i_store, i_astore, i_inc, i_iadd, i_isub, i_imul, i_idiv, i_irem, i_iand, i_ior, i_ixor, i_ishl, i_ishr, i_iushr, i_ineg, i_i2l, i_i2b, i_i2c, i_lcmp, i_dup, i_dup2, i_pop, i_null, i_alen, i_iald, i_bald, i_lald, i_aald, i_iast, i_bast, i_last, i_aast, i_goto, i_icmp_eq, i_icmp_ne, i_icmp_lt, i_icmp_ge, i_icmp_gt, i_icmp_le, i_if_eq, i_if_ne, i_if_lt, i_if_ge, i_if_gt, i_if_le, i_ifnonnull, i_getf, i_putf, i_iret, i_zret, i_aret, i_vret, i_new, i_newa, i_anew, i_oinit, i_callv, i_calls, i_calli, i_max, i_min, i_abs, i_copy, i_throw, i_ldcs, pwt, List.getElem?_cons_zero, List.getElem?_cons_succ, List.set_cons_zero, List.set_cons_succ, List.getD_cons_zero, List.getD_cons_succ, List.length_cons, List.length_nil, List.length_set, List.drop_succ_cons, List.drop_zero, List.take_succ_cons, List.take_zero, List.reverse_cons, List.reverse_nil, List.nil_append, List.cons_append, List.append_nil, List.map_cons, List.map_nil, List.sum_cons, List.sum_nil, Value.category, ne_eq, Nat.reduceEqDiff, reduceIte, ite_self, false_implies, true_implies, true_and, and_true, and_self, Nat.zero_le, Nat.le_refl, Nat.reduceLeDiff, Nat.reduceAdd, Nat.reduceLT, Nat.add_zero, Nat.zero_add, pu_eq, not_false_eq_true, not_true_eq_false, forall_const, if_true, if_false, implies_true, X.f0, X.f1, v7.1, v7.2, e0, pu_add0, upd_eq, show (16 : Int32) &&& 31 = 16 by decide]
  refine ⟨fun q => ?_, ?_⟩
  · exact absurd ((nI_eq (a := k) (b := 0) (by omega) (by decide)).mp q) (by omega)
  · have e1 : (drI (w 1 7) >>> (16 : Int32)) &&& 32767 = nI (drN (w 1 7)) := (nn_nI (and_nn _)).1
    have e2 := nI_rem (x := drN (w 1 7)) hk (by omega) (nn_nI (and_nn _)).2
    rw [e1, e2]
    exact hQ _ X1 F1
theorem c_X12_tells {m0 : Nat} {s f t p : Int32} (X : MX h m w) (hm : w 1 6 = nI m0) (hm2 : m0 ≤ 60) (hQ : ∀ h' w', MX h' m w' → FM m h h' → SW1 w w' → (∀ q, q < 254 → q ≠ 6 → w' 1 q = w 1 q) → w' 1 6 = nI (min 60 (m0 + 1)) → (∀ k, k < 5 → w' 1 (254 + k) = a5 (w 1 5) s f t p k) → (∀ q, q < 295 → w' 1 (259 + q) = w 1 (254 + q)) → Q (.inl none) h' n) : pCall E M_X12_tells d [.ref m, .int s, .int f, .int t, .int p] h n Q := by
  refine pCall_of rfl rfl (Nat.le_of_ble_eq_true rfl) (by simp [Value.category]) ?_
  refine b_X12_tells_0 _ _ _ ?_
  simp only [pEntry, PM.nL, M_X12_tells, List.map_cons, List.map_nil, List.length_cons, List.length_nil, Nat.reduceAdd, Nat.reduceSub, Nat.sub_self, List.replicate_succ, List.replicate_zero, List.cons_append, List.nil_append]
  simp only [i_const, i_load, i_aload, i_store, i_astore, i_inc, i_iadd, i_isub, i_imul, i_idiv, i_irem, i_iand, i_ior, i_ixor, i_ishl, i_ishr, i_iushr, i_ineg, i_i2l, i_i2b, i_i2c, i_lcmp, i_dup, i_dup2, i_pop, i_null, i_alen, i_iald, i_bald, i_lald, i_aald, i_iast, i_bast, i_last, i_aast, i_goto, i_icmp_eq, i_icmp_ne, i_icmp_lt, i_icmp_ge, i_icmp_gt, i_icmp_le, i_if_eq, i_if_ne, i_if_lt, i_if_ge, i_if_gt, i_if_le, i_ifnonnull, i_getf, i_putf, i_iret, i_zret, i_aret, i_vret, i_new, i_newa, i_anew, i_oinit, i_callv, i_calls, i_calli, i_max, i_min, i_abs, i_copy, i_throw, i_ldcs, pwt, List.getElem?_cons_zero, List.getElem?_cons_succ, List.set_cons_zero, List.set_cons_succ, List.getD_cons_zero, List.getD_cons_succ, List.length_cons, List.length_nil, List.length_set, List.drop_succ_cons, List.drop_zero, List.take_succ_cons, List.take_zero, List.reverse_cons, List.reverse_nil, List.nil_append, List.cons_append, List.append_nil, List.map_cons, List.map_nil, List.sum_cons, List.sum_nil, Value.category, ne_eq, Nat.reduceEqDiff, reduceIte, ite_self, false_implies, true_implies, true_and, and_true, and_self, Nat.zero_le, Nat.le_refl, Nat.reduceLeDiff, Nat.reduceAdd, Nat.reduceLT, Nat.add_zero, Nat.zero_add, pu_eq, not_false_eq_true, not_true_eq_false, forall_const, if_true, if_false, implies_true]
  refine pFor 295 (fun j ls σ => ∃ h1 w1, MX h1 m w1 ∧ FM m h h1 ∧ SW1 w w1 ∧ (∀ q, q < 554 - j → w1 1 q = w 1 q) ∧ (∀ q, q < 295 → 554 - j ≤ 259 + q → w1 1 (259 + q) = w 1 (254 + q)) ∧ ls = [some (.ref m), some (.int s), some (.int f), some (.int t), some (.int p), some (.int (nI (299 - j)))] ∧ σ = (h1, n, 0, 0)) ?_ ?_ 0 (Nat.zero_le _) _ _ ⟨h, w, X, FM.rf, SW1.rf, fun _ _ => rfl, fun q q1 q2 => absurd q1 (by omega), rfl, rfl⟩
  · rintro j hj ls σ ⟨h1, w1, X1, F1, S1, a1, a2, rfl, rfl⟩ ih
    have e1 : ¬ nI (299 - j) < 5 := nI_nlt (a := 299 - j) (b := 5) (by omega) (by omega)
    have e2 : (254 : Int32) + nI (299 - j) = nI (254 + (299 - j)) := nI_add 254 _
    have e3 : nI (254 + (299 - j)) - 5 = nI (254 + (299 - j) - 5) := pk_sub (b := 5) (by omega)
    have e4 : nI (299 - j) + (-1) = nI (299 - (j + 1)) := by
      have := pk_m1 (299 - (j + 1))
      rw [show 299 - (j + 1) + 1 = 299 - j by omega] at this
      exact this
    obtain ⟨X2, F2⟩ := X1.set (k := 1) (i := 254 + (299 - j)) (by decide) (by decide) (w1 1 (254 + (299 - j) - 5))
    refine b_X12_tells_5 _ _ _ ?_
    simp only [i_const, i_load, i_aload, i_store, i_astore, i_inc, i_iadd, i_isub, i_imul, i_idiv, i_irem, i_iand, i_ior, i_ixor, i_ishl, i_ishr, i_iushr, i_ineg, i_i2l, i_i2b, i_i2c, i_lcmp, i_dup, i_dup2, i_pop, i_null, i_alen, i_iald, i_bald, i_lald, i_aald, i_iast, i_bast, i_last, i_aast, i_goto, i_icmp_eq, i_icmp_ne, i_icmp_lt, i_icmp_ge, i_icmp_gt, i_icmp_le, i_if_eq, i_if_ne, i_if_lt, i_if_ge, i_if_gt, i_if_le, i_ifnonnull, i_getf, i_putf, i_iret, i_zret, i_aret, i_vret, i_new, i_newa, i_anew, i_oinit, i_callv, i_calls, i_calli, i_max, i_min, i_abs, i_copy, i_throw, i_ldcs, pwt, List.getElem?_cons_zero, List.getElem?_cons_succ, List.set_cons_zero, List.set_cons_succ, List.getD_cons_zero, List.getD_cons_succ, List.length_cons, List.length_nil, List.length_set, List.drop_succ_cons, List.drop_zero, List.take_succ_cons, List.take_zero, List.reverse_cons, List.reverse_nil, List.nil_append, List.cons_append, List.append_nil, List.map_cons, List.map_nil, List.sum_cons, List.sum_nil, Value.category, ne_eq, Nat.reduceEqDiff, reduceIte, ite_self, false_implies, true_implies, true_and, and_true, and_self, Nat.zero_le, Nat.le_refl, Nat.reduceLeDiff, Nat.reduceAdd, Nat.reduceLT, Nat.add_zero, Nat.zero_add, pu_eq, not_false_eq_true, not_true_eq_false, forall_const, if_true, if_false, implies_true, e1, X1.f0, X1.f1, e2, e3, e4, vp_in_nI (show 254 + (299 - j) < 2252 by omega) (by decide), nI_clamp (show 254 + (299 - j) < 2 ^ 31 by omega), vp_in_nI (show 254 + (299 - j) - 5 < 2252 by omega) (by decide), nI_clamp (show 254 + (299 - j) - 5 < 2 ^ 31 by omega)]
    refine ih _ _ ⟨_, _, X2, F1.tr F2, S1.ru (by omega), fun q hq => ?_, fun q q1 q2 => ?_, rfl, rfl⟩
    · rw [ru_eq, upd_ne (by omega)]; exact a1 q (by omega)
    · rw [ru_eq]
      by_cases z : 259 + q = 254 + (299 - j)
      · rw [z, upd_eq, a1 _ (by omega)]; congr 1; omega
      · rw [upd_ne z]; exact a2 q q1 (by omega)
  · rintro ls σ ⟨h1, w1, X1, F1, S1, a1, a2, rfl, rfl⟩
    refine b_X12_tells_5 _ _ _ ?_
    have e1 : nI (299 - 295) < 5 := by decide
    have e6 : w1 1 6 = nI m0 := (a1 6 (by decide)).trans hm
    have e5 : w1 1 5 = w 1 5 := a1 5 (by decide)
    have e7 : nI m0 + 1 = nI (m0 + 1) := nI_1 m0
    have e8 : (if nI (m0 + 1) < 60 then nI (m0 + 1) else 60) = nI (min 60 (m0 + 1)) := by
      rw [show (60 : Int32) = nI 60 from rfl, nI_mn (by decide) (by omega)]; congr 1; split <;> omega
    have k0 := v2252 (x := 254) (i := 254) rfl (by decide)
    have k1 := v2252 (x := 255) (i := 255) rfl (by decide)
    have k2 := v2252 (x := 256) (i := 256) rfl (by decide)
    have k3 := v2252 (x := 257) (i := 257) rfl (by decide)
    have k4 := v2252 (x := 258) (i := 258) rfl (by decide)
    have k5 := v2252 (x := 5) (i := 5) rfl (by decide)
    have k6 := v2252 (x := 6) (i := 6) rfl (by decide)
    have w6 : ∀ x0 x1 x2 x3 x4, upd (upd (upd (upd (upd (w1 1) 254 x0) 255 x1) 256 x2) 257 x3) 258 x4 6 = nI m0 := fun _ _ _ _ _ => e6
    obtain ⟨X2, F2⟩ := X1.set (k := 1) (i := 254) (by decide) (by decide) (w 1 5)
    obtain ⟨X3, F3⟩ := X2.set (k := 1) (i := 255) (by decide) (by decide) s
    obtain ⟨X4, F4⟩ := X3.set (k := 1) (i := 256) (by decide) (by decide) f
    obtain ⟨X5, F5⟩ := X4.set (k := 1) (i := 257) (by decide) (by decide) t
    obtain ⟨X6, F6⟩ := X5.set (k := 1) (i := 258) (by decide) (by decide) p
    obtain ⟨X7, F7⟩ := X6.set (k := 1) (i := 6) (by decide) (by decide) (nI (min 60 (m0 + 1)))
    simp only [i_const, i_load, i_aload, i_store, i_astore, i_inc, i_iadd, i_isub, i_imul, i_idiv, i_irem, i_iand, i_ior, i_ixor, i_ishl, i_ishr, i_iushr, i_ineg, i_i2l, i_i2b, i_i2c, i_lcmp, i_dup, i_dup2, i_pop, i_null, i_alen, i_iald, i_bald, i_lald, i_aald, i_iast, i_bast, i_last, i_aast, i_goto, i_icmp_eq, i_icmp_ne, i_icmp_lt, i_icmp_ge, i_icmp_gt, i_icmp_le, i_if_eq, i_if_ne, i_if_lt, i_if_ge, i_if_gt, i_if_le, i_ifnonnull, i_getf, i_putf, i_iret, i_zret, i_aret, i_vret, i_new, i_newa, i_anew, i_oinit, i_callv, i_calls, i_calli, i_max, i_min, i_abs, i_copy, i_throw, i_ldcs, pwt, List.getElem?_cons_zero, List.getElem?_cons_succ, List.set_cons_zero, List.set_cons_succ, List.getD_cons_zero, List.getD_cons_succ, List.length_cons, List.length_nil, List.length_set, List.drop_succ_cons, List.drop_zero, List.take_succ_cons, List.take_zero, List.reverse_cons, List.reverse_nil, List.nil_append, List.cons_append, List.append_nil, List.map_cons, List.map_nil, List.sum_cons, List.sum_nil, Value.category, ne_eq, Nat.reduceEqDiff, reduceIte, ite_self, false_implies, true_implies, true_and, and_true, and_self, Nat.zero_le, Nat.le_refl, Nat.reduceLeDiff, Nat.reduceAdd, Nat.reduceLT, Nat.add_zero, Nat.zero_add, pu_eq, not_false_eq_true, not_true_eq_false, forall_const, if_true, if_false, implies_true, e1, X1.f0, X1.f1, k0.1, k0.2, k1.1, k1.2, k2.1, k2.2, k3.1, k3.2, k4.1, k4.2, k5.1, k5.2, k6.1, k6.2, e5, e6, w6, e7, e8, pu_add0, pu_eq]
    refine hQ _ _ X7 (F1.tr (F2.tr (F3.tr (F4.tr (F5.tr (F6.tr F7)))))) ((((((S1.ru (by decide)).ru (by decide)).ru (by decide)).ru (by decide)).ru (by decide)).ru (by decide)) (fun q q1 q2 => ?_) ?_ (fun k hk => ?_) (fun q hq => ?_)
    · rw [ru_eq, upd_ne q2, ru_eq, upd_ne (by omega), ru_eq, upd_ne (by omega), ru_eq, upd_ne (by omega), ru_eq, upd_ne (by omega), ru_eq, upd_ne (by omega)]
      exact a1 q (by omega)
    · rw [ru_eq, upd_eq]
    · rcases (show k = 0 ∨ k = 1 ∨ k = 2 ∨ k = 3 ∨ k = 4 by omega) with rfl | rfl | rfl | rfl | rfl <;> rfl
    · rw [ru_eq, upd_ne (by omega), ru_eq, upd_ne (by omega), ru_eq, upd_ne (by omega), ru_eq, upd_ne (by omega), ru_eq, upd_ne (by omega), ru_eq, upd_ne (by omega)]
      exact a2 q hq (by omega)
end MOVER

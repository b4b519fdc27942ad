/-! the reference: numbers -/
section MNUMB
variable {E : PE} {M : PM} {d : Nat} {Q : PQ} {h h' : PH} {n : Nat} {m a : Nat} {w : AR} {r : AR} {C : Option LawL} {pc : Nat} {L p b e : Nat} {cs : List Nat}
theorem dg_tk {f : Nat → Int32} (hb : b ≤ L) : ((b < L ∧ rgP f 48 57 b = true) ↔ adv (rgP f 48 57) L b ≠ b) ∧ ((b < L ∧ rgP f 48 57 b = true) → tkE f L b = adv (rgP f 48 57) L b) := by
  by_cases c : b < L ∧ rgP f 48 57 b = true
  · have s := adv_step _ c.1 c.2
    have g := adv_ge (rgP f 48 57) L (b + 1)
    refine ⟨⟨fun _ => by omega, fun _ => c⟩, fun _ => ?_⟩
    unfold tkE
    have n1 : ¬ (b < L ∧ rgP f 97 122 b = true) := fun q => by
      have a1 := (of_decide_eq_true c.2).2
      have a2 := (of_decide_eq_true q.2).1
      exact absurd (Int32.le_trans a2 a1) (by decide)
    rw [if_neg n1, if_pos c, s]
  · have e1 : adv (rgP f 48 57) L b = b := adv_stop _ (fun q => by
      cases z : rgP f 48 57 b with
      | false => rfl
      | true => exact absurd ⟨q, z⟩ c) hb
    exact ⟨⟨fun q => absurd q c, fun q => absurd e1 q⟩, fun q => absurd q c⟩
theorem c_X12_figures {lo hi : Int32} {dg : Nat} (X : MX h m (pp w p b)) (hL : w 0 11 = nI L) (hL4 : L ≤ 400) (hp : p ≤ L) (hdg : dg ≤ 100)
    (hQ1 : nmB (w 6) L (skb (w 6) L p) dg lo hi = true → ∀ h', MX h' m (pp w (tkE (w 6) L (skb (w 6) L p)) (skb (w 6) L p)) → FM m h h' → Q (.inl (some (.int (numI (w 6) (skb (w 6) L p) (tkE (w 6) L (skb (w 6) L p) - skb (w 6) L p))))) h' n)
    (hQ0 : ¬ nmB (w 6) L (skb (w 6) L p) dg lo hi = true → ∀ h' p', p' ≤ L → MX h' m (pp w p' (skb (w 6) L p)) → FM m h h' → Q (.inl (some (.int (-1)))) h' n) : pCall E M_X12_figures (d + 2) [.ref m, .int lo, .int hi, .int (nI dg)] h n Q := by
  refine pCall_of rfl rfl (Nat.le_of_ble_eq_true rfl) (by simp [Value.category]) ?_
  refine b_X12_figures_0 _ _ _ ?_
  simp only [pEntry, PM.nL, M_X12_figures, List.map_cons, List.map_nil, List.length_cons, List.length_nil, Nat.reduceAdd, Nat.reduceSub, Nat.sub_self, List.replicate_succ, List.replicate_zero, List.cons_append, List.nil_append]
  simp only [i_const, i_load, i_aload, i_store, i_astore, i_inc, i_iadd, i_isub, i_imul, i_idiv, i_irem, i_iand, i_ior, i_ixor, i_ishl, i_ishr, i_iushr, i_ineg, i_i2l, i_i2b, i_i2c, i_lcmp, i_dup, i_dup2, i_pop, i_null, i_alen, i_iald, i_bald, i_lald, i_aald, i_iast, i_bast, i_last, i_aast, i_goto, i_icmp_eq, i_icmp_ne, i_icmp_lt, i_icmp_ge, i_icmp_gt, i_icmp_le, i_if_eq, i_if_ne, i_if_lt, i_if_ge, i_if_gt, i_if_le, i_ifnonnull, i_getf, i_putf, i_iret, i_zret, i_aret, i_vret, i_new, i_newa, i_anew, i_oinit, i_callv, i_calls, i_calli, i_max, i_min, i_abs, i_copy, i_throw, i_ldcs, pwt, List.getElem?_cons_zero, List.getElem?_cons_succ, List.set_cons_zero, List.set_cons_succ, List.getD_cons_zero, List.getD_cons_succ, List.length_cons, List.length_nil, List.length_set, List.drop_succ_cons, List.drop_zero, List.take_succ_cons, List.take_zero, List.reverse_cons, List.reverse_nil, List.nil_append, List.cons_append, List.append_nil, List.map_cons, List.map_nil, List.sum_cons, List.sum_nil, Value.category, ne_eq, Nat.reduceEqDiff, reduceIte, ite_self, false_implies, true_implies, true_and, and_true, and_self, Nat.zero_le, Nat.le_refl, Nat.reduceLeDiff, Nat.reduceAdd, Nat.reduceLT, Nat.add_zero, Nat.zero_add, pu_eq, not_false_eq_true, not_true_eq_false, forall_const, if_true, if_false, implies_true, X.f0]
  refine c_X12_blanks X hL hL4 hp (fun h0 X0 F0 => ?_)
  simp only [i_const, i_load, i_aload, i_store, i_astore, i_inc, i_iadd, i_isub, i_imul, i_idiv, i_irem, i_iand, i_ior, i_ixor, i_ishl, i_ishr, i_iushr, i_ineg, i_i2l, i_i2b, i_i2c, i_lcmp, i_dup, i_dup2, i_pop, i_null, i_alen, i_iald, i_bald, i_lald, i_aald, i_iast, i_bast, i_last, i_aast, i_goto, i_icmp_eq, i_icmp_ne, i_icmp_lt, i_icmp_ge, i_icmp_gt, i_icmp_le, i_if_eq, i_if_ne, i_if_lt, i_if_ge, i_if_gt, i_if_le, i_ifnonnull, i_getf, i_putf, i_iret, i_zret, i_aret, i_vret, i_new, i_newa, i_anew, i_oinit, i_callv, i_calls, i_calli, i_max, i_min, i_abs, i_copy, i_throw, i_ldcs, pwt, List.getElem?_cons_zero, List.getElem?_cons_succ, List.set_cons_zero, List.set_cons_succ, List.getD_cons_zero, List.getD_cons_succ, List.length_cons, List.length_nil, List.length_set, List.drop_succ_cons, List.drop_zero, List.take_succ_cons, List.take_zero, List.reverse_cons, List.reverse_nil, List.nil_append, List.cons_append, List.append_nil, List.map_cons, List.map_nil, List.sum_cons, List.sum_nil, Value.category, ne_eq, Nat.reduceEqDiff, reduceIte, ite_self, false_implies, true_implies, true_and, and_true, and_self, Nat.zero_le, Nat.le_refl, Nat.reduceLeDiff, Nat.reduceAdd, Nat.reduceLT, Nat.add_zero, Nat.zero_add, pu_eq, not_false_eq_true, not_true_eq_false, forall_const, if_true, if_false, implies_true, pRetK]
  have hs : skb (w 6) L p ≤ L := skb_le hp
  generalize skb (w 6) L p = s at hs X0 hQ0 hQ1
  obtain ⟨t1, t2⟩ := dg_tk (f := w 6) hs
  have g1 := adv_ge (rgP (w 6) 48 57) L s
  have g2 := adv_le (rgP (w 6) 48 57) hs
  have g3 : ∀ q, s ≤ q → q < adv (rgP (w 6) 48 57) L s → rgP (w 6) 48 57 q = true := fun q => adv_in (rgP (w 6) 48 57)
  have g4 := adv_out (rgP (w 6) 48 57) hs
  generalize adv (rgP (w 6) 48 57) L s = e at g1 g2 g3 g4 t1 t2
  refine pFor (e - s) (fun j ls σ => ∃ h1, MX h1 m (pp w (s + j) s) ∧ FM m h h1 ∧ ls = [some (.ref m), some (.int lo), some (.int hi), some (.int (nI dg)), some (.int (numI (w 6) s (min j dg)))] ∧ σ = (h1, n, 0, 0)) ?_ ?_ 0 (Nat.zero_le _) _ _ ⟨h0, X0, F0, by rw [Nat.zero_min]; rfl, rfl⟩
  · rintro j hj ls σ ⟨h1, X1, F1, rfl, rfl⟩ ih
    refine b_X12_figures_7 _ _ _ ?_
    simp only [i_const, i_load, i_aload, i_store, i_astore, i_inc, i_iadd, i_isub, i_imul, i_idiv, i_irem, i_iand, i_ior, i_ixor, i_ishl, i_ishr, i_iushr, i_ineg, i_i2l, i_i2b, i_i2c, i_lcmp, i_dup, i_dup2, i_pop, i_null, i_alen, i_iald, i_bald, i_lald, i_aald, i_iast, i_bast, i_last, i_aast, i_goto, i_icmp_eq, i_icmp_ne, i_icmp_lt, i_icmp_ge, i_icmp_gt, i_icmp_le, i_if_eq, i_if_ne, i_if_lt, i_if_ge, i_if_gt, i_if_le, i_ifnonnull, i_getf, i_putf, i_iret, i_zret, i_aret, i_vret, i_new, i_newa, i_anew, i_oinit, i_callv, i_calls, i_calli, i_max, i_min, i_abs, i_copy, i_throw, i_ldcs, pwt, List.getElem?_cons_zero, List.getElem?_cons_succ, List.set_cons_zero, List.set_cons_succ, List.getD_cons_zero, List.getD_cons_succ, List.length_cons, List.length_nil, List.length_set, List.drop_succ_cons, List.drop_zero, List.take_succ_cons, List.take_zero, List.reverse_cons, List.reverse_nil, List.nil_append, List.cons_append, List.append_nil, List.map_cons, List.map_nil, List.sum_cons, List.sum_nil, Value.category, ne_eq, Nat.reduceEqDiff, reduceIte, ite_self, false_implies, true_implies, true_and, and_true, and_self, Nat.zero_le, Nat.le_refl, Nat.reduceLeDiff, Nat.reduceAdd, Nat.reduceLT, Nat.add_zero, Nat.zero_add, pu_eq, not_false_eq_true, not_true_eq_false, forall_const, if_true, if_false, implies_true, X1.f0]
    refine c_X12_isAt X1 hL hL4 (by omega) (fun _ _ => ?_) (fun q => absurd ⟨by omega, g3 _ (by omega) (by omega)⟩ q)
    obtain ⟨X2, F2⟩ := X1.to (p' := s + (j + 1)) (b' := s)
    have e1 : nI (s + j) + 1 = nI (s + (j + 1)) := nI_1 _
    have e2 : nI (s + j) - nI s = nI j := by
      have := pk_sub (a := s + j) (b := s) (by omega)
      rw [show s + j - s = j by omega] at this
      exact this
    have h6 : pp w (s + j) s 6 = w 6 := rfl
    by_cases c : dg ≤ j
    · have e3 : nI dg ≤ nI j := nI_le c (by omega)
      simp only [i_const, i_load, i_aload, i_store, i_astore, i_inc, i_iadd, i_isub, i_imul, i_idiv, i_irem, i_iand, i_ior, i_ixor, i_ishl, i_ishr, i_iushr, i_ineg, i_i2l, i_i2b, i_i2c, i_lcmp, i_dup, i_dup2, i_pop, i_null, i_alen, i_iald, i_bald, i_lald, i_aald, i_iast, i_bast, i_last, i_aast, i_goto, i_icmp_eq, i_icmp_ne, i_icmp_lt, i_icmp_ge, i_icmp_gt, i_icmp_le, i_if_eq, i_if_ne, i_if_lt, i_if_ge, i_if_gt, i_if_le, i_ifnonnull, i_getf, i_putf, i_iret, i_zret, i_aret, i_vret, i_new, i_newa, i_anew, i_oinit, i_callv, i_calls, i_calli, i_max, i_min, i_abs, i_copy, i_throw, i_ldcs, pwt, List.getElem?_cons_zero, List.getElem?_cons_succ, List.set_cons_zero, List.set_cons_succ, List.getD_cons_zero, List.getD_cons_succ, List.length_cons, List.length_nil, List.length_set, List.drop_succ_cons, List.drop_zero, List.take_succ_cons, List.take_zero, List.reverse_cons, List.reverse_nil, List.nil_append, List.cons_append, List.append_nil, List.map_cons, List.map_nil, List.sum_cons, List.sum_nil, Value.category, ne_eq, Nat.reduceEqDiff, reduceIte, ite_self, false_implies, true_implies, true_and, and_true, and_self, Nat.zero_le, Nat.le_refl, Nat.reduceLeDiff, Nat.reduceAdd, Nat.reduceLT, Nat.add_zero, Nat.zero_add, pu_eq, not_false_eq_true, not_true_eq_false, forall_const, if_true, if_false, implies_true, pRetK, show ¬ ((1 : Int32) = 0) by decide, X1.f0, pp10, pp12, e2, e3, e1]
      refine ⟨rfl, rfl, ?_⟩
      exact ih _ _ ⟨_, X2, F1.tr F2, by rw [show min (j + 1) dg = min j dg by omega], rfl⟩
    · have e3 : ¬ nI dg ≤ nI j := nI_ge (by omega) (by omega)
      have e4 : (10 : Int32) * numI (w 6) s (min j dg) + w 6 (s + j) - 48 = numI (w 6) s (min (j + 1) dg) := by
        rw [show min (j + 1) dg = j + 1 by omega, show min j dg = j by omega, numI, Int32.mul_comm]
      simp only [i_const, i_load, i_aload, i_store, i_astore, i_inc, i_iadd, i_isub, i_imul, i_idiv, i_irem, i_iand, i_ior, i_ixor, i_ishl, i_ishr, i_iushr, i_ineg, i_i2l, i_i2b, i_i2c, i_lcmp, i_dup, i_dup2, i_pop, i_null, i_alen, i_iald, i_bald, i_lald, i_aald, i_iast, i_bast, i_last, i_aast, i_goto, i_icmp_eq, i_icmp_ne, i_icmp_lt, i_icmp_ge, i_icmp_gt, i_icmp_le, i_if_eq, i_if_ne, i_if_lt, i_if_ge, i_if_gt, i_if_le, i_ifnonnull, i_getf, i_putf, i_iret, i_zret, i_aret, i_vret, i_new, i_newa, i_anew, i_oinit, i_callv, i_calls, i_calli, i_max, i_min, i_abs, i_copy, i_throw, i_ldcs, pwt, List.getElem?_cons_zero, List.getElem?_cons_succ, List.set_cons_zero, List.set_cons_succ, List.getD_cons_zero, List.getD_cons_succ, List.length_cons, List.length_nil, List.length_set, List.drop_succ_cons, List.drop_zero, List.take_succ_cons, List.take_zero, List.reverse_cons, List.reverse_nil, List.nil_append, List.cons_append, List.append_nil, List.map_cons, List.map_nil, List.sum_cons, List.sum_nil, Value.category, ne_eq, Nat.reduceEqDiff, reduceIte, ite_self, false_implies, true_implies, true_and, and_true, and_self, Nat.zero_le, Nat.le_refl, Nat.reduceLeDiff, Nat.reduceAdd, Nat.reduceLT, Nat.add_zero, Nat.zero_add, pu_eq, not_false_eq_true, not_true_eq_false, forall_const, if_true, if_false, implies_true, pRetK, show ¬ ((1 : Int32) = 0) by decide, X1.f0, X1.f6, h6, pp10, pp12, e2, e3, e4, e1, vp_in_nI (show s + j < 400 by omega) (by decide), nI_clamp (show s + j < 2 ^ 31 by omega)]
      refine ⟨rfl, rfl, ?_⟩
      exact ih _ _ ⟨_, X2, F1.tr F2, rfl, rfl⟩
  · rintro ls σ ⟨h1, X1, F1, rfl, rfl⟩
    have ee : s + (e - s) = e := by omega
    rw [ee] at X1
    refine b_X12_figures_7 _ _ _ ?_
    simp only [i_const, i_load, i_aload, i_store, i_astore, i_inc, i_iadd, i_isub, i_imul, i_idiv, i_irem, i_iand, i_ior, i_ixor, i_ishl, i_ishr, i_iushr, i_ineg, i_i2l, i_i2b, i_i2c, i_lcmp, i_dup, i_dup2, i_pop, i_null, i_alen, i_iald, i_bald, i_lald, i_aald, i_iast, i_bast, i_last, i_aast, i_goto, i_icmp_eq, i_icmp_ne, i_icmp_lt, i_icmp_ge, i_icmp_gt, i_icmp_le, i_if_eq, i_if_ne, i_if_lt, i_if_ge, i_if_gt, i_if_le, i_ifnonnull, i_getf, i_putf, i_iret, i_zret, i_aret, i_vret, i_new, i_newa, i_anew, i_oinit, i_callv, i_calls, i_calli, i_max, i_min, i_abs, i_copy, i_throw, i_ldcs, pwt, List.getElem?_cons_zero, List.getElem?_cons_succ, List.set_cons_zero, List.set_cons_succ, List.getD_cons_zero, List.getD_cons_succ, List.length_cons, List.length_nil, List.length_set, List.drop_succ_cons, List.drop_zero, List.take_succ_cons, List.take_zero, List.reverse_cons, List.reverse_nil, List.nil_append, List.cons_append, List.append_nil, List.map_cons, List.map_nil, List.sum_cons, List.sum_nil, Value.category, ne_eq, Nat.reduceEqDiff, reduceIte, ite_self, false_implies, true_implies, true_and, and_true, and_self, Nat.zero_le, Nat.le_refl, Nat.reduceLeDiff, Nat.reduceAdd, Nat.reduceLT, Nat.add_zero, Nat.zero_add, pu_eq, not_false_eq_true, not_true_eq_false, forall_const, if_true, if_false, implies_true, X1.f0]
    refine c_X12_isAt X1 hL hL4 g2 (fun q1 q2 => ?_) (fun q => ?_)
    · rw [g4 q1] at q2; cases q2
    · have e2 : nI e - nI s = nI (e - s) := pk_sub g1
      simp only [i_const, i_load, i_aload, i_store, i_astore, i_inc, i_iadd, i_isub, i_imul, i_idiv, i_irem, i_iand, i_ior, i_ixor, i_ishl, i_ishr, i_iushr, i_ineg, i_i2l, i_i2b, i_i2c, i_lcmp, i_dup, i_dup2, i_pop, i_null, i_alen, i_iald, i_bald, i_lald, i_aald, i_iast, i_bast, i_last, i_aast, i_goto, i_icmp_eq, i_icmp_ne, i_icmp_lt, i_icmp_ge, i_icmp_gt, i_icmp_le, i_if_eq, i_if_ne, i_if_lt, i_if_ge, i_if_gt, i_if_le, i_ifnonnull, i_getf, i_putf, i_iret, i_zret, i_aret, i_vret, i_new, i_newa, i_anew, i_oinit, i_callv, i_calls, i_calli, i_max, i_min, i_abs, i_copy, i_throw, i_ldcs, pwt, List.getElem?_cons_zero, List.getElem?_cons_succ, List.set_cons_zero, List.set_cons_succ, List.getD_cons_zero, List.getD_cons_succ, List.length_cons, List.length_nil, List.length_set, List.drop_succ_cons, List.drop_zero, List.take_succ_cons, List.take_zero, List.reverse_cons, List.reverse_nil, List.nil_append, List.cons_append, List.append_nil, List.map_cons, List.map_nil, List.sum_cons, List.sum_nil, Value.category, ne_eq, Nat.reduceEqDiff, reduceIte, ite_self, false_implies, true_implies, true_and, and_true, and_self, Nat.zero_le, Nat.le_refl, Nat.reduceLeDiff, Nat.reduceAdd, Nat.reduceLT, Nat.add_zero, Nat.zero_add, pu_eq, not_false_eq_true, not_true_eq_false, forall_const, if_true, if_false, implies_true, pRetK, X1.f0, pp10, pp12, e2]
      refine ⟨fun c => ?_, fun c => ⟨fun c2 => ?_, fun c2 => ?_⟩⟩
      · have : e = s := (nI_eq (by omega) (by omega)).mp c
        exact hQ0 (fun z => (t1.mp (of_decide_eq_true z).1) this) h1 e g2 X1 F1
      · refine hQ0 (fun z => ?_) h1 e g2 X1 F1
        obtain ⟨z1, z2, z3⟩ := of_decide_eq_true z
        rw [t2 z1] at z2
        exact nI_nlt (a := dg) (b := e - s) (by omega) (by omega) c2
      · have ne : e ≠ s := fun q => c (by rw [q])
        have dgt := t1.mpr ne
        have tk := t2 dgt
        have le : e - s ≤ dg := by
          by_cases z : e - s ≤ dg
          · exact z
          · exact absurd (nI_lt (a := dg) (b := e - s) (by omega) (by omega)) c2
        rw [show min (e - s) dg = e - s by omega]
        refine ⟨fun c3 => ?_, fun c3 => ⟨fun c4 => ?_, fun c4 => ?_⟩⟩
        · refine hQ0 (fun z => ?_) h1 e g2 X1 F1
          have := (of_decide_eq_true z).2.2.1
          rw [tk] at this
          exact this c3
        · have hR := hQ1 (decide_eq_true ⟨dgt, by rw [tk]; exact le, by rw [tk]; exact c3, by rw [tk]; exact Int32.not_lt.mpr c4⟩) h1 (by rw [tk]; exact X1) F1
          rw [tk] at hR
          exact hR
        · refine hQ0 (fun z => ?_) h1 e g2 X1 F1
          have := (of_decide_eq_true z).2.2.2
          rw [tk] at this
          exact c4 (Int32.not_lt.mp this)
end MNUMB

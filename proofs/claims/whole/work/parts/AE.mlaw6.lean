/-! the reference: a law is read -/
section MLAW6
variable {E : PE} {M : PM} {d : Nat} {Q : PQ} {h h' : PH} {n : Nat} {m a : Nat} {w w' w'' : AR} {r : AR} {C : Option LawL} {pc : Nat} {L p b e j : Nat} {cs : List Nat} {s : Nat} {f : Nat → Int32}
/-- the text is taken over -/
theorem DT.tx {W : Nat → Int32} {ls : LawL} (D : DT w ls) (hl : ls.length ≤ 12) (hf : (flL ls).length ≤ 400) (ht : ∀ l ∈ ls, lnT l) (e0 : W 554 = nI ls.length) (e : ∀ i, 0 < i → i < 849 → W (554 + i) = w 1 (1403 + i)) : TX W 554 ls := by
  refine ⟨e0, fun i hi l el => ?_, hl, ht⟩
  obtain ⟨d1, d2, d3, d4⟩ := D.2 i l el
  obtain ⟨f1, f2⟩ := flL_at ls i l el
  refine ⟨?_, ?_, ?_, ?_, by omega, fun j hj => ?_⟩
  · rw [show 554 + 1 + 4 * i = 554 + (1 + 4 * i) by omega, e _ (by omega) (by omega), show 1403 + (1 + 4 * i) = 1404 + 4 * i by omega]; exact d1
  · rw [show 554 + 1 + 4 * i + 1 = 554 + (2 + 4 * i) by omega, e _ (by omega) (by omega), show 1403 + (2 + 4 * i) = 1404 + 4 * i + 1 by omega]; exact d2
  · rw [show 554 + 1 + 4 * i + 2 = 554 + (3 + 4 * i) by omega, e _ (by omega) (by omega), show 1403 + (3 + 4 * i) = 1404 + 4 * i + 2 by omega]; exact d3
  · rw [show 554 + 1 + 4 * i + 3 = 554 + (4 + 4 * i) by omega, e _ (by omega) (by omega), show 1403 + (4 + 4 * i) = 1404 + 4 * i + 3 by omega]; exact d4
  · obtain ⟨s1, s2⟩ := D.1.2 (sN ls i + j) (by omega)
    rw [f2 j hj] at s1 s2
    refine ⟨?_, ?_⟩
    · rw [show 554 + 49 + 2 * (sN ls i + j) = 554 + (49 + 2 * (sN ls i + j)) by omega, e _ (by omega) (by omega), show 1403 + (49 + 2 * (sN ls i + j)) = 1452 + 2 * (sN ls i + j) by omega]; exact s1
    · rw [show 554 + 49 + 2 * (sN ls i + j) + 1 = 554 + (50 + 2 * (sN ls i + j)) by omega, e _ (by omega) (by omega), show 1403 + (50 + 2 * (sN ls i + j)) = 1452 + 2 * (sN ls i + j) + 1 by omega]; exact s2
theorem flL_enc : ∀ ls : LawL, (flL ls).length ≤ (encL ls).length
  | [] => Nat.le_refl _
  | (k, z, ops) :: t => by
    have := flL_enc t
    simp only [flL, encL, List.length_append, List.length_cons] at *
    omega
theorem flL_t : ∀ k b, b ≤ L → ∀ q, ltP f L k b = .inr q → (flL q.2).length + b ≤ L := by
  intro k
  induction k with
  | zero => intro b _ q e; cases e
  | succ k ih =>
    intro b hb q e
    rw [ltP] at e
    obtain ⟨b1, c1, p1, e⟩ := bnd_inr e
    obtain ⟨w1, w2, w3, w4⟩ := llP_ln (q := (b1, c1)) hb p1
    simp only at w1 w2 w3 w4
    split at e
    · cases e
      simp only [flL, List.append_nil]
      omega
    · split at e
      · obtain ⟨b2, c2, p2, e⟩ := bnd_inr e
        cases e
        have := ih _ nx_le _ p2
        have h3 : b1 ≤ nx f L b1 := by
          rename_i hh _
          exact Nat.le_of_lt (nx_gt (f := f) (by omega))
        simp only [flL, List.length_append] at *
        omega
      · cases e
theorem lwP_f {q : Nat × LawL} (e : lwP f L = .inr q) : (flL q.2).length ≤ L := by
  unfold lwP at e
  split at e
  · cases e; exact Nat.zero_le _
  · have := flL_t _ _ (skb_le (Nat.zero_le _)) _ e
    omega
theorem RW.law {W W' : Nat → Int32} {ls : LawL} (R : RW W r C) (T : LWR W' (some ls)) (A : WA r) (e : ∀ q, q ≠ 4 → q < 554 → W' q = W q) : RW W' r (some ls) := by
  obtain ⟨⟨a1, a2, a3, a4, a5, a6, a7⟩, b, c5, dd, f, g⟩ := R
  have B := A.bd
  obtain ⟨h1, h2, h3, h4, h5'⟩ := B
  refine ⟨⟨?_, ?_, ?_, ?_, ?_, ?_, ?_⟩, ?_, ?_, ?_, ?_, T⟩
  · rw [e _ (by decide) (by decide)]; exact a1
  · rw [e _ (by decide) (by decide)]; exact a2
  · rw [e _ (by decide) (by decide)]; exact a3
  · rw [e _ (by decide) (by decide)]; exact a4
  · rw [e _ (by decide) (by decide)]; exact a5
  · rw [e _ (by decide) (by decide)]; exact a6
  · rw [e _ (by decide) (by decide)]; exact a7
  · intro j hj i hi
    rw [e _ (by omega) (by omega)]; exact b j hj i hi
  · intro j hj
    rw [e _ (by omega) (by omega), e _ (by omega) (by omega), e _ (by omega) (by omega)]; exact c5 j hj
  · intro s hs i hi
    rw [e _ (by omega) (by omega)]; exact dd s hs i hi
  · intro i hi k hk
    rw [e _ (by omega) (by omega)]; exact f i hi k hk
theorem c_X12_law (hE : EC E) (X : MX h m w) (hT : w 0 9 = nI L) (hL4 : L ≤ 400) (R : RW (w 1) r C) (A : WA r)
    (hQ0 : ∀ b, lwP (w 6) L = .inl b → ∀ h' w', MX h' m w' → FM m h h' → AQ w w' → w' 0 0 = 1 → w' 0 14 = nI b → w' 0 7 = w 0 7 → (∀ q, q < 1403 → w' 1 q = w 1 q) → Q (.inl (some (.int 0))) h' n)
    (hQ1 : ∀ q, lwP (w 6) L = .inr q → ∀ h' w', MX h' m w' → FM m h h' → AQ w w' → w' 0 0 = 0 → w' 0 14 = -1 → w' 0 7 = 0 → RW (w' 1) r (some q.2) → Q (.inl (some (.int (nI q.2.length)))) h' n) : pCall E M_X12_law (d + 31) [.ref m] h n Q := by
  refine pCall_of rfl rfl (Nat.le_of_ble_eq_true rfl) (by simp [Value.category]) ?_
  refine b_X12_law_0 _ _ _ ?_
  simp only [pEntry, PM.nL, M_X12_law, List.map_cons, List.map_nil, List.length_cons, List.length_nil, Nat.reduceAdd, Nat.reduceSub, Nat.sub_self, List.replicate_succ, List.replicate_zero, List.cons_append, List.nil_append]
  simp only [i_const, i_load, i_aload, i_store, i_astore, i_inc, i_iadd, i_isub, i_imul, i_idiv, i_irem, i_iand, i_ior, i_ixor, i_ishl, i_ishr, i_iushr, i_ineg, i_i2l, i_i2b, i_i2c, i_lcmp, i_dup, i_dup2, i_pop, i_null, i_alen, i_iald, i_bald, i_lald, i_aald, i_iast, i_bast, i_last, i_aast, i_goto, i_icmp_eq, i_icmp_ne, i_icmp_lt, i_icmp_ge, i_icmp_gt, i_icmp_le, i_if_eq, i_if_ne, i_if_lt, i_if_ge, i_if_gt, i_if_le, i_ifnonnull, i_getf, i_putf, i_iret, i_zret, i_aret, i_vret, i_new, i_newa, i_anew, i_oinit, i_callv, i_calls, i_calli, i_max, i_min, i_abs, i_copy, i_throw, i_ldcs, pwt, List.getElem?_cons_zero, List.getElem?_cons_succ, List.set_cons_zero, List.set_cons_succ, List.getD_cons_zero, List.getD_cons_succ, List.length_cons, List.length_nil, List.length_set, List.drop_succ_cons, List.drop_zero, List.take_succ_cons, List.take_zero, List.reverse_cons, List.reverse_nil, List.nil_append, List.cons_append, List.append_nil, List.map_cons, List.map_nil, List.sum_cons, List.sum_nil, Value.category, ne_eq, Nat.reduceEqDiff, reduceIte, ite_self, false_implies, true_implies, true_and, and_true, and_self, Nat.zero_le, Nat.le_refl, Nat.reduceLeDiff, Nat.reduceAdd, Nat.reduceLT, Nat.add_zero, Nat.zero_add, pu_eq, not_false_eq_true, not_true_eq_false, forall_const, if_true, if_false, implies_true, X.f0]
  refine c_X12_readAll0 hE X hT hL4 ?_
  cases e : lwP (w 6) L with
  | inl b =>
    intro h2 w2 p2 X2 F2 T2
    obtain ⟨X3, F3⟩ := X2.set (k := 0) (i := 14) (by decide) (by decide) (nI b)
    simp only [i_const, i_load, i_aload, i_store, i_astore, i_inc, i_iadd, i_isub, i_imul, i_idiv, i_irem, i_iand, i_ior, i_ixor, i_ishl, i_ishr, i_iushr, i_ineg, i_i2l, i_i2b, i_i2c, i_lcmp, i_dup, i_dup2, i_pop, i_null, i_alen, i_iald, i_bald, i_lald, i_aald, i_iast, i_bast, i_last, i_aast, i_goto, i_icmp_eq, i_icmp_ne, i_icmp_lt, i_icmp_ge, i_icmp_gt, i_icmp_le, i_if_eq, i_if_ne, i_if_lt, i_if_ge, i_if_gt, i_if_le, i_ifnonnull, i_getf, i_putf, i_iret, i_zret, i_aret, i_vret, i_new, i_newa, i_anew, i_oinit, i_callv, i_calls, i_calli, i_max, i_min, i_abs, i_copy, i_throw, i_ldcs, pwt, List.getElem?_cons_zero, List.getElem?_cons_succ, List.set_cons_zero, List.set_cons_succ, List.getD_cons_zero, List.getD_cons_succ, List.length_cons, List.length_nil, List.length_set, List.drop_succ_cons, List.drop_zero, List.take_succ_cons, List.take_zero, List.reverse_cons, List.reverse_nil, List.nil_append, List.cons_append, List.append_nil, List.map_cons, List.map_nil, List.sum_cons, List.sum_nil, Value.category, ne_eq, Nat.reduceEqDiff, reduceIte, ite_self, false_implies, true_implies, true_and, and_true, and_self, Nat.zero_le, Nat.le_refl, Nat.reduceLeDiff, Nat.reduceAdd, Nat.reduceLT, Nat.add_zero, Nat.zero_add, pu_eq, not_false_eq_true, not_true_eq_false, forall_const, if_true, if_false, implies_true, pRetK, X2.f0, pp12, show ¬ ((0 : Int32) ≤ -1) by decide]
    refine b_X12_law_19 _ _ _ ?_
    simp only [i_const, i_load, i_aload, i_store, i_astore, i_inc, i_iadd, i_isub, i_imul, i_idiv, i_irem, i_iand, i_ior, i_ixor, i_ishl, i_ishr, i_iushr, i_ineg, i_i2l, i_i2b, i_i2c, i_lcmp, i_dup, i_dup2, i_pop, i_null, i_alen, i_iald, i_bald, i_lald, i_aald, i_iast, i_bast, i_last, i_aast, i_goto, i_icmp_eq, i_icmp_ne, i_icmp_lt, i_icmp_ge, i_icmp_gt, i_icmp_le, i_if_eq, i_if_ne, i_if_lt, i_if_ge, i_if_gt, i_if_le, i_ifnonnull, i_getf, i_putf, i_iret, i_zret, i_aret, i_vret, i_new, i_newa, i_anew, i_oinit, i_callv, i_calls, i_calli, i_max, i_min, i_abs, i_copy, i_throw, i_ldcs, pwt, List.getElem?_cons_zero, List.getElem?_cons_succ, List.set_cons_zero, List.set_cons_succ, List.getD_cons_zero, List.getD_cons_succ, List.length_cons, List.length_nil, List.length_set, List.drop_succ_cons, List.drop_zero, List.take_succ_cons, List.take_zero, List.reverse_cons, List.reverse_nil, List.nil_append, List.cons_append, List.append_nil, List.map_cons, List.map_nil, List.sum_cons, List.sum_nil, Value.category, ne_eq, Nat.reduceEqDiff, reduceIte, ite_self, false_implies, true_implies, true_and, and_true, and_self, Nat.zero_le, Nat.le_refl, Nat.reduceLeDiff, Nat.reduceAdd, Nat.reduceLT, Nat.add_zero, Nat.zero_add, pu_eq, not_false_eq_true, not_true_eq_false, forall_const, if_true, if_false, implies_true, X2.f0, pp12, show ¬ ((0 : Int32) ≤ -1) by decide]
    refine ⟨rfl, rfl, ?_⟩
    refine c_X12_thr1 X3 (fun h4 X4 F4 => ?_)
    have z0 : ∀ i, i ≠ 0 → i ≠ 10 → i ≠ 12 → i ≠ 14 → i ≠ 13 → i ≠ 16 → th (ru (pp w2 p2 b) 0 14 (nI b)) 1 0 i = ua w 0 i := fun i q0 q1 q2 q3 q4 q5 => by
      unfold th; rw [ru_eq, upd_ne q0, ru_eq, upd_ne q3, pp_i q1 q2]; exact T2.2.1 i q4 q5
    have zk : ∀ k, k ≠ 0 → k ≠ 1 → th (ru (pp w2 p2 b) 0 14 (nI b)) 1 k = w k := fun k q0 q1 => by
      unfold th; rw [ru_ne q0, ru_ne q0, pp_k q0, T2.1 k q0 q1, ua_k q0]
    simp only [i_const, i_load, i_aload, i_store, i_astore, i_inc, i_iadd, i_isub, i_imul, i_idiv, i_irem, i_iand, i_ior, i_ixor, i_ishl, i_ishr, i_iushr, i_ineg, i_i2l, i_i2b, i_i2c, i_lcmp, i_dup, i_dup2, i_pop, i_null, i_alen, i_iald, i_bald, i_lald, i_aald, i_iast, i_bast, i_last, i_aast, i_goto, i_icmp_eq, i_icmp_ne, i_icmp_lt, i_icmp_ge, i_icmp_gt, i_icmp_le, i_if_eq, i_if_ne, i_if_lt, i_if_ge, i_if_gt, i_if_le, i_ifnonnull, i_getf, i_putf, i_iret, i_zret, i_aret, i_vret, i_new, i_newa, i_anew, i_oinit, i_callv, i_calls, i_calli, i_max, i_min, i_abs, i_copy, i_throw, i_ldcs, pwt, List.getElem?_cons_zero, List.getElem?_cons_succ, List.set_cons_zero, List.set_cons_succ, List.getD_cons_zero, List.getD_cons_succ, List.length_cons, List.length_nil, List.length_set, List.drop_succ_cons, List.drop_zero, List.take_succ_cons, List.take_zero, List.reverse_cons, List.reverse_nil, List.nil_append, List.cons_append, List.append_nil, List.map_cons, List.map_nil, List.sum_cons, List.sum_nil, Value.category, ne_eq, Nat.reduceEqDiff, reduceIte, ite_self, false_implies, true_implies, true_and, and_true, and_self, Nat.zero_le, Nat.le_refl, Nat.reduceLeDiff, Nat.reduceAdd, Nat.reduceLT, Nat.add_zero, Nat.zero_add, pu_eq, not_false_eq_true, not_true_eq_false, forall_const, if_true, if_false, implies_true, pRetK, show ¬ ((1 : Int32) = 0) by decide]
    refine hQ0 b e h4 _ X4 (F2.tr (F3.tr F4)) ⟨zk 2 (by decide) (by decide), zk 5 (by decide) (by decide), zk 6 (by decide) (by decide), ?_, ?_⟩ rfl rfl ?_ (fun q hq => ?_)
    · exact z0 6 (by decide) (by decide) (by decide) (by decide) (by decide) (by decide)
    · exact z0 9 (by decide) (by decide) (by decide) (by decide) (by decide) (by decide)
    · exact z0 7 (by decide) (by decide) (by decide) (by decide) (by decide) (by decide)
    · unfold th; rw [ru_ne (by decide), ru_ne (by decide), pp_k (by decide), T2.2.2 q (by omega), ua_k (by decide)]
  | inr q =>
    intro h2 w2 p2 b2 X2 F2 T2 D2
    obtain ⟨tl, tn, tt⟩ := lwP_t hL4 e
    have tf := lwP_f e
    have e0 : (0 : Int32) ≤ nI q.2.length := nI_le (a := 0) (by omega) (by omega)
    have v3 := v2252 (x := 1403) (i := 1403) rfl (by decide)
    have v4 := v2252 (x := 4) (i := 4) rfl (by decide)
    obtain ⟨X3, F3⟩ := X2.set (k := 0) (i := 14) (by decide) (by decide) (-1)
    have D2' : DT w2 q.2 := D2
    have mid : ∀ h3, MX h3 m (ru (pp w2 p2 b2) 0 14 (-1)) → FM m h2 h3 → PW E M_X12_law (d + 30 + 1) Q 52 [some (.ref m), some (.int (nI q.2.length)), some (.int 0)] [] (pu h3 (m + 1) (MC m (ru (ru (pp w2 p2 b2) 0 14 (-1)) 1 1403 (nI q.2.length)) 1), n, 0, 0) := by
      intro h3 X3 F3
      obtain ⟨X4, F4⟩ := X3.set (k := 1) (i := 1403) (by decide) (by decide) (nI q.2.length)
      have u0 : ∀ i, i ≠ 10 → i ≠ 12 → i ≠ 14 → i ≠ 13 → i ≠ 16 → ru (ru (pp w2 p2 b2) 0 14 (-1)) 1 1403 (nI q.2.length) 0 i = ua w 0 i := fun i q1 q2 q3 q4 q5 => by
        rw [ru_ne (by decide), ru_eq, upd_ne q3, pp_i q1 q2]; exact T2.2.1 i q4 q5
      have u14 : ru (ru (pp w2 p2 b2) 0 14 (-1)) 1 1403 (nI q.2.length) 0 14 = -1 := rfl
      have uk : ∀ k, k ≠ 0 → k ≠ 1 → ru (ru (pp w2 p2 b2) 0 14 (-1)) 1 1403 (nI q.2.length) k = w k := fun k q0 q1 => by
        rw [ru_ne q1, ru_ne q0, pp_k q0, T2.1 k q0 q1, ua_k q0]
      have u1 : ∀ i, i ≠ 1403 → ru (ru (pp w2 p2 b2) 0 14 (-1)) 1 1403 (nI q.2.length) 1 i = w2 1 i := fun i hi => by
        rw [ru_eq, upd_ne hi, ru_ne (by decide), pp_k (by decide)]
      have u13 : ru (ru (pp w2 p2 b2) 0 14 (-1)) 1 1403 (nI q.2.length) 1 1403 = nI q.2.length := rfl
      generalize pu h3 (m + 1) (MC m (ru (ru (pp w2 p2 b2) 0 14 (-1)) 1 1403 (nI q.2.length)) 1) = h4 at X4 F4
      generalize ru (ru (pp w2 p2 b2) 0 14 (-1)) 1 1403 (nI q.2.length) = u at X4 u0 u14 uk u1 u13
      have F04 := F2.tr (F3.tr F4)
      refine pFor 849 (fun t ls σ => ∃ h', MX h' m (rs u 1 (cp (u 1) 554 (fun i => u 1 (1403 + i)) t)) ∧ FM m h h' ∧ ls = [some (.ref m), some (.int (nI q.2.length)), some (.int (nI t))] ∧ σ = (h', n, 0, 0)) ?_ ?_ 0 (Nat.zero_le _) _ _ ⟨h4, X4.row _ cp_0.symm, F04, rfl, rfl⟩
      · rintro t ht ls σ ⟨h1, X1, F1, rfl, rfl⟩ ih
        have e1 : ¬ (849 : Int32) ≤ nI t := nI_ge ht (by decide)
        have e4 : nI t + 1 = nI (t + 1) := nI_1 t
        have ka : (554 : Int32) + nI t = nI (554 + t) := nI_add 554 t
        have kb : (1403 : Int32) + nI t = nI (1403 + t) := nI_add 1403 t
        have va := v2252 (x := nI (554 + t)) rfl (by omega)
        have vb := v2252 (x := nI (1403 + t)) rfl (by omega)
        have es : rs u 1 (cp (u 1) 554 (fun i => u 1 (1403 + i)) t) 1 (1403 + t) = u 1 (1403 + t) := by rw [rs_eq, cp_out (by omega)]
        obtain ⟨X2, F2⟩ := X1.cps (i := 554 + t) (by decide) (by decide) rfl
        refine b_X12_law_52 _ _ _ ?_
        simp only [i_const, i_load, i_aload, i_store, i_astore, i_inc, i_iadd, i_isub, i_imul, i_idiv, i_irem, i_iand, i_ior, i_ixor, i_ishl, i_ishr, i_iushr, i_ineg, i_i2l, i_i2b, i_i2c, i_lcmp, i_dup, i_dup2, i_pop, i_null, i_alen, i_iald, i_bald, i_lald, i_aald, i_iast, i_bast, i_last, i_aast, i_goto, i_icmp_eq, i_icmp_ne, i_icmp_lt, i_icmp_ge, i_icmp_gt, i_icmp_le, i_if_eq, i_if_ne, i_if_lt, i_if_ge, i_if_gt, i_if_le, i_ifnonnull, i_getf, i_putf, i_iret, i_zret, i_aret, i_vret, i_new, i_newa, i_anew, i_oinit, i_callv, i_calls, i_calli, i_max, i_min, i_abs, i_copy, i_throw, i_ldcs, pwt, List.getElem?_cons_zero, List.getElem?_cons_succ, List.set_cons_zero, List.set_cons_succ, List.getD_cons_zero, List.getD_cons_succ, List.length_cons, List.length_nil, List.length_set, List.drop_succ_cons, List.drop_zero, List.take_succ_cons, List.take_zero, List.reverse_cons, List.reverse_nil, List.nil_append, List.cons_append, List.append_nil, List.map_cons, List.map_nil, List.sum_cons, List.sum_nil, Value.category, ne_eq, Nat.reduceEqDiff, reduceIte, ite_self, false_implies, true_implies, true_and, and_true, and_self, Nat.zero_le, Nat.le_refl, Nat.reduceLeDiff, Nat.reduceAdd, Nat.reduceLT, Nat.add_zero, Nat.zero_add, pu_eq, not_false_eq_true, not_true_eq_false, forall_const, if_true, if_false, implies_true, X1.f0, X1.f1, e1, e4, ka, kb, va.1, va.2, vb.1, vb.2, es]
        refine ih _ _ ⟨_, X2, F1.tr F2, rfl, rfl⟩
      · rintro ls σ ⟨h1, X1, F1, rfl, rfl⟩
        have ci : ∀ i, i < 849 → rs u 1 (cp (u 1) 554 (fun i => u 1 (1403 + i)) 849) 1 (554 + i) = u 1 (1403 + i) := fun i hi => by rw [rs_eq]; exact cp_in hi
        have co : ∀ i, i < 554 → rs u 1 (cp (u 1) 554 (fun i => u 1 (1403 + i)) 849) 1 i = u 1 i := fun i hi => by rw [rs_eq]; exact cp_out (Or.inl hi)
        have ck : ∀ k, k ≠ 1 → rs u 1 (cp (u 1) 554 (fun i => u 1 (1403 + i)) 849) k = u k := fun k hk => rs_ne hk
        generalize rs u 1 (cp (u 1) 554 (fun i => u 1 (1403 + i)) 849) = v at X1 ci co ck
        obtain ⟨X5, F5⟩ := X1.set (k := 1) (i := 4) (by decide) (by decide) 1
        obtain ⟨X6, F6⟩ := X5.set (k := 0) (i := 7) (by decide) (by decide) 0
        have pb : ∀ (hh : PH) (c : PC), pu hh (m + 1) c m = hh m := fun hh c => pu_ne (by omega)
        have y1 : ∀ i, i ≠ 4 → ru (ru v 1 4 1) 0 7 0 1 i = v 1 i := fun i hi => by rw [ru_ne (by decide), ru_eq, upd_ne hi]
        have yk : ∀ k, k ≠ 0 → k ≠ 1 → ru (ru v 1 4 1) 0 7 0 k = w k := fun k q0 q1 => by rw [ru_ne q0, ru_ne q1, ck k q1, uk k q0 q1]
        have y0 : ∀ i, i ≠ 7 → ru (ru v 1 4 1) 0 7 0 0 i = u 0 i := fun i hi => by rw [ru_eq, upd_ne hi, ru_ne (by decide), ck 0 (by decide)]
        refine b_X12_law_52 _ _ _ ?_
        simp only [i_const, i_load, i_aload, i_store, i_astore, i_inc, i_iadd, i_isub, i_imul, i_idiv, i_irem, i_iand, i_ior, i_ixor, i_ishl, i_ishr, i_iushr, i_ineg, i_i2l, i_i2b, i_i2c, i_lcmp, i_dup, i_dup2, i_pop, i_null, i_alen, i_iald, i_bald, i_lald, i_aald, i_iast, i_bast, i_last, i_aast, i_goto, i_icmp_eq, i_icmp_ne, i_icmp_lt, i_icmp_ge, i_icmp_gt, i_icmp_le, i_if_eq, i_if_ne, i_if_lt, i_if_ge, i_if_gt, i_if_le, i_ifnonnull, i_getf, i_putf, i_iret, i_zret, i_aret, i_vret, i_new, i_newa, i_anew, i_oinit, i_callv, i_calls, i_calli, i_max, i_min, i_abs, i_copy, i_throw, i_ldcs, pwt, List.getElem?_cons_zero, List.getElem?_cons_succ, List.set_cons_zero, List.set_cons_succ, List.getD_cons_zero, List.getD_cons_succ, List.length_cons, List.length_nil, List.length_set, List.drop_succ_cons, List.drop_zero, List.take_succ_cons, List.take_zero, List.reverse_cons, List.reverse_nil, List.nil_append, List.cons_append, List.append_nil, List.map_cons, List.map_nil, List.sum_cons, List.sum_nil, Value.category, ne_eq, Nat.reduceEqDiff, reduceIte, ite_self, false_implies, true_implies, true_and, and_true, and_self, Nat.zero_le, Nat.le_refl, Nat.reduceLeDiff, Nat.reduceAdd, Nat.reduceLT, Nat.add_zero, Nat.zero_add, pu_eq, not_false_eq_true, not_true_eq_false, forall_const, if_true, if_false, implies_true, show (849 : Int32) ≤ nI 849 by decide, X1.f0, X1.f1, v4.1, v4.2, pb]
        refine ⟨rfl, rfl, ?_⟩
        refine hQ1 q e _ _ X6 (F1.tr (F5.tr F6)) ⟨yk 2 (by decide) (by decide), yk 5 (by decide) (by decide), yk 6 (by decide) (by decide), ?_, ?_⟩ ?_ ?_ rfl ?_
        · rw [y0 6 (by decide), u0 6 (by decide) (by decide) (by decide) (by decide) (by decide)]; rfl
        · rw [y0 9 (by decide), u0 9 (by decide) (by decide) (by decide) (by decide) (by decide)]; rfl
        · rw [y0 0 (by decide), u0 0 (by decide) (by decide) (by decide) (by decide) (by decide)]; rfl
        · rw [y0 14 (by decide)]; exact u14
        · refine R.law ⟨rfl, ?_⟩ A (fun i q4 qi => ?_)
          · refine D2'.tx tn (by omega) tt ?_ (fun i hi hi2 => ?_)
            · rw [y1 _ (by decide)]
              have := ci 0 (by decide)
              rw [this]; exact u13
            · rw [y1 _ (by omega), ci i hi2, u1 _ (by omega)]
          · rw [y1 i q4, co i qi, u1 i (by omega), T2.2.2 i (by omega), ua_k (by decide)]
    simp only [i_const, i_load, i_aload, i_store, i_astore, i_inc, i_iadd, i_isub, i_imul, i_idiv, i_irem, i_iand, i_ior, i_ixor, i_ishl, i_ishr, i_iushr, i_ineg, i_i2l, i_i2b, i_i2c, i_lcmp, i_dup, i_dup2, i_pop, i_null, i_alen, i_iald, i_bald, i_lald, i_aald, i_iast, i_bast, i_last, i_aast, i_goto, i_icmp_eq, i_icmp_ne, i_icmp_lt, i_icmp_ge, i_icmp_gt, i_icmp_le, i_if_eq, i_if_ne, i_if_lt, i_if_ge, i_if_gt, i_if_le, i_ifnonnull, i_getf, i_putf, i_iret, i_zret, i_aret, i_vret, i_new, i_newa, i_anew, i_oinit, i_callv, i_calls, i_calli, i_max, i_min, i_abs, i_copy, i_throw, i_ldcs, pwt, List.getElem?_cons_zero, List.getElem?_cons_succ, List.set_cons_zero, List.set_cons_succ, List.getD_cons_zero, List.getD_cons_succ, List.length_cons, List.length_nil, List.length_set, List.drop_succ_cons, List.drop_zero, List.take_succ_cons, List.take_zero, List.reverse_cons, List.reverse_nil, List.nil_append, List.cons_append, List.append_nil, List.map_cons, List.map_nil, List.sum_cons, List.sum_nil, Value.category, ne_eq, Nat.reduceEqDiff, reduceIte, ite_self, false_implies, true_implies, true_and, and_true, and_self, Nat.zero_le, Nat.le_refl, Nat.reduceLeDiff, Nat.reduceAdd, Nat.reduceLT, Nat.add_zero, Nat.zero_add, pu_eq, not_false_eq_true, not_true_eq_false, forall_const, if_true, if_false, implies_true, pRetK, X2.f0, e0]
    refine b_X12_law_19 _ _ _ ?_
    have pb0 : ∀ (hh : PH) (c : PC), pu hh m c (m + 1) = hh (m + 1) := fun hh c => pu_ne (by omega)
    simp only [i_const, i_load, i_aload, i_store, i_astore, i_inc, i_iadd, i_isub, i_imul, i_idiv, i_irem, i_iand, i_ior, i_ixor, i_ishl, i_ishr, i_iushr, i_ineg, i_i2l, i_i2b, i_i2c, i_lcmp, i_dup, i_dup2, i_pop, i_null, i_alen, i_iald, i_bald, i_lald, i_aald, i_iast, i_bast, i_last, i_aast, i_goto, i_icmp_eq, i_icmp_ne, i_icmp_lt, i_icmp_ge, i_icmp_gt, i_icmp_le, i_if_eq, i_if_ne, i_if_lt, i_if_ge, i_if_gt, i_if_le, i_ifnonnull, i_getf, i_putf, i_iret, i_zret, i_aret, i_vret, i_new, i_newa, i_anew, i_oinit, i_callv, i_calls, i_calli, i_max, i_min, i_abs, i_copy, i_throw, i_ldcs, pwt, List.getElem?_cons_zero, List.getElem?_cons_succ, List.set_cons_zero, List.set_cons_succ, List.getD_cons_zero, List.getD_cons_succ, List.length_cons, List.length_nil, List.length_set, List.drop_succ_cons, List.drop_zero, List.take_succ_cons, List.take_zero, List.reverse_cons, List.reverse_nil, List.nil_append, List.cons_append, List.append_nil, List.map_cons, List.map_nil, List.sum_cons, List.sum_nil, Value.category, ne_eq, Nat.reduceEqDiff, reduceIte, ite_self, false_implies, true_implies, true_and, and_true, and_self, Nat.zero_le, Nat.le_refl, Nat.reduceLeDiff, Nat.reduceAdd, Nat.reduceLT, Nat.add_zero, Nat.zero_add, pu_eq, not_false_eq_true, not_true_eq_false, forall_const, if_true, if_false, implies_true, X2.f0, e0]
    refine ⟨rfl, rfl, ?_⟩
    refine c_X12_thr0 ?_
    simp only [i_const, i_load, i_aload, i_store, i_astore, i_inc, i_iadd, i_isub, i_imul, i_idiv, i_irem, i_iand, i_ior, i_ixor, i_ishl, i_ishr, i_iushr, i_ineg, i_i2l, i_i2b, i_i2c, i_lcmp, i_dup, i_dup2, i_pop, i_null, i_alen, i_iald, i_bald, i_lald, i_aald, i_iast, i_bast, i_last, i_aast, i_goto, i_icmp_eq, i_icmp_ne, i_icmp_lt, i_icmp_ge, i_icmp_gt, i_icmp_le, i_if_eq, i_if_ne, i_if_lt, i_if_ge, i_if_gt, i_if_le, i_ifnonnull, i_getf, i_putf, i_iret, i_zret, i_aret, i_vret, i_new, i_newa, i_anew, i_oinit, i_callv, i_calls, i_calli, i_max, i_min, i_abs, i_copy, i_throw, i_ldcs, pwt, List.getElem?_cons_zero, List.getElem?_cons_succ, List.set_cons_zero, List.set_cons_succ, List.getD_cons_zero, List.getD_cons_succ, List.length_cons, List.length_nil, List.length_set, List.drop_succ_cons, List.drop_zero, List.take_succ_cons, List.take_zero, List.reverse_cons, List.reverse_nil, List.nil_append, List.cons_append, List.append_nil, List.map_cons, List.map_nil, List.sum_cons, List.sum_nil, Value.category, ne_eq, Nat.reduceEqDiff, reduceIte, ite_self, false_implies, true_implies, true_and, and_true, and_self, Nat.zero_le, Nat.le_refl, Nat.reduceLeDiff, Nat.reduceAdd, Nat.reduceLT, Nat.add_zero, Nat.zero_add, pu_eq, not_false_eq_true, not_true_eq_false, forall_const, if_true, if_false, implies_true, pRetK, X2.f1, v3.1, v3.2, pb0]
    exact mid _ X3 F3
end MLAW6

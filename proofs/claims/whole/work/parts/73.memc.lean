/-! the class as a whole: its own cells; the memory's methods; what a call needs -/
section MEMC
variable {E : PE} {M : PM} {d : Nat} {Q : PQ} {h h' : PH} {n n' : Nat} {a b s t x y L ln cnt B sz nx : Nat} {r rb g : AR} {lw lb : Option Nat} {C Cb : Option LawL} {pc : Nat} {f : Nat → Int32} {im wb : Int32} {K : KA}
theorem CX.low (X : CX h x B n L f K sz nx im wb) {L' sz' nx' : Nat} {f' : Nat → Int32} {im' wb' : Int32} (F : ∀ q, (q < x ∨ x + 6 ≤ q) → (q < x + 66 ∨ x + 68 ≤ q) → h' q = h q)
    (h1 : h' x = some (.inr (11, [.ref (x + 1), .ref (x + 3), .ref (x + 4), .ref (x + 6), .ref (x + 26), .ref (x + 46), .ref (x + 66), .ref (x + 308), .int im', .int wb'])))
    (h2 : ∃ b z v e, TR h' (x + 1) L' b z v e f') (h3 : L' ≤ 400) (h4 : h' (x + 3) = some (.inr (1, [.ref (x + 1)])))
    (h5 : ∃ s0 l0 g0, h' (x + 4) = some (.inr (4, [.ref (x + 1), .ref (x + 4 + 1), .int s0, .int l0])) ∧ h' (x + 4 + 1) = some (.inl (.int, (436, .inl g0))))
    (h6 : h' (x + 66) = some (.inr (6, [.int (nI sz'), .int (nI nx'), .ref (x + 67)]))) (h7 : h' (x + 67) = h (x + 67)) (h8 : sz' ≤ 12) (h9 : nx' < 12) : CX h' x B n L' f' K sz' nx' im' wb' ∧ FC x B h h' := by
  have hb := X.bd
  refine ⟨⟨h1, ⟨h2, h3⟩, h4, h5, ?_, ?_, ⟨h6, ?_, h8, h9⟩, ?_, hb, X.bn⟩, fun q q1 q2 => F q (by omega) (by omega)⟩
  · have A := X.ca.gen (h' := h') 14 none (fun L' e => by cases e) (fun k hk c i hi => by
      have := kAd_in (x := x) hk
      exact F _ (by omega) (by omega)) (fun q q1 q2 q3 => F q (by omega) (by omega)) (K 0) (fun q => absurd q (by decide))
    exact A.cong (fun k hk => (uK_ne (by omega)).symm)
  · obtain ⟨r1, l1, H⟩ := X.dr
    exact ⟨r1, l1, H.tr (fun i hi => F _ (by omega) (by omega))⟩
  · obtain ⟨fn, m1, m2⟩ := X.ma
    exact ⟨fn, h7.trans m1, m2⟩
  · obtain ⟨g1, H⟩ := X.se
    exact ⟨g1, H.tr (fun i hi => F _ (by omega) (by omega))⟩
/-- the memory's own cell -/
theorem CX.pm (X : CX h x B n L f K sz nx im wb) {sz' nx' : Nat} (h8 : sz' ≤ 12) (h9 : nx' < 12) : CX (pu h (x + 66) (.inr (6, [.int (nI sz'), .int (nI nx'), .ref (x + 67)]))) x B n L f K sz' nx' im wb ∧ FC x B h (pu h (x + 66) (.inr (6, [.int (nI sz'), .int (nI nx'), .ref (x + 67)]))) := by
  refine X.low (fun q q1 q2 => pu_ne (by omega)) ((pu_ne (by omega)).trans X.o) ?_ X.l4 ((pu_ne (by omega)).trans X.at1) ?_ (pu_eq _ _ _) (pu_ne (by omega)) h8 h9
  · obtain ⟨b, z, v, e, t1, t2⟩ := X.tp
    exact ⟨b, z, v, e, (pu_ne (by omega)).trans t1, (pu_ne (by omega)).trans t2⟩
  · obtain ⟨s0, l0, g0, q1, q2⟩ := X.lt4
    exact ⟨s0, l0, g0, (pu_ne (by omega)).trans q1, (pu_ne (by omega)).trans q2⟩
/-- the object's own cell -/
theorem CX.po (X : CX h x B n L f K sz nx im wb) (im' wb' : Int32) : CX (pu h x (.inr (11, [.ref (x + 1), .ref (x + 3), .ref (x + 4), .ref (x + 6), .ref (x + 26), .ref (x + 46), .ref (x + 66), .ref (x + 308), .int im', .int wb']))) x B n L f K sz nx im' wb' ∧ FC x B h (pu h x (.inr (11, [.ref (x + 1), .ref (x + 3), .ref (x + 4), .ref (x + 6), .ref (x + 26), .ref (x + 46), .ref (x + 66), .ref (x + 308), .int im', .int wb']))) := by
  refine X.low (fun q q1 q2 => pu_ne (by omega)) (pu_eq _ _ _) ?_ X.l4 ((pu_ne (by omega)).trans X.at1) ?_ ((pu_ne (by omega)).trans X.mo) (pu_ne (by omega)) X.s12 X.n12
  · obtain ⟨b, z, v, e, t1, t2⟩ := X.tp
    exact ⟨b, z, v, e, (pu_ne (by omega)).trans t1, (pu_ne (by omega)).trans t2⟩
  · obtain ⟨s0, l0, g0, q1, q2⟩ := X.lt4
    exact ⟨s0, l0, g0, (pu_ne (by omega)).trans q1, (pu_ne (by omega)).trans q2⟩
/-- the tape has changed -/
theorem CX.pt (X : CX h x B n L f K sz nx im wb) {L' b' e' : Nat} {z' v' : Int32} {f' : Nat → Int32} (F : ∀ q, q ≠ x + 1 → q ≠ x + 2 → h' q = h q) (T : TR h' (x + 1) L' b' z' v' e' f') (hL : L' ≤ 400) : CX h' x B n L' f' K sz nx im wb ∧ FC x B h h' := by
  refine X.low (fun q q1 q2 => F q (by omega) (by omega)) ((F _ (by omega) (by omega)).trans X.o) ⟨_, _, _, _, T⟩ hL ((F _ (by omega) (by omega)).trans X.at1) ?_ ((F _ (by omega) (by omega)).trans X.mo) (F _ (by omega) (by omega)) X.s12 X.n12
  obtain ⟨s0, l0, g0, q1, q2⟩ := X.lt4
  exact ⟨s0, l0, g0, (F _ (by omega) (by omega)).trans q1, (F _ (by omega) (by omega)).trans q2⟩
theorem c_X6_forget (X : CX h x B n L f K sz nx im wb) (hQ : ∀ h', CX h' x B n L f K 0 nx im wb → FC x B h h' → Q (.inl none) h' n) : pCall E M_X6_forget d [.ref (x + 66)] h n Q := by
  refine pCall_of rfl rfl (Nat.le_of_ble_eq_true rfl) (by simp [Value.category]) ?_
  refine b_X6_forget_0 _ _ _ ?_
  simp only [pEntry, PM.nL, M_X6_forget, List.map_cons, List.map_nil, List.length_cons, List.length_nil, Nat.reduceAdd, Nat.reduceSub, Nat.sub_self, List.replicate_succ, List.replicate_zero, List.cons_append, List.nil_append]
  simp only [i_const, i_load, i_aload, i_store, i_astore, i_inc, i_iadd, i_isub, i_imul, i_idiv, i_irem, i_iand, i_ior, i_ixor, i_ishl, i_ishr, i_iushr, i_ineg, i_i2l, i_i2b, i_i2c, i_lcmp, i_dup, i_dup2, i_pop, i_null, i_alen, i_iald, i_bald, i_lald, i_aald, i_iast, i_bast, i_last, i_aast, i_goto, i_icmp_eq, i_icmp_ne, i_icmp_lt, i_icmp_ge, i_icmp_gt, i_icmp_le, i_if_eq, i_if_ne, i_if_lt, i_if_ge, i_if_gt, i_if_le, i_ifnonnull, i_getf, i_putf, i_iret, i_zret, i_aret, i_vret, i_new, i_newa, i_anew, i_oinit, i_callv, i_calls, i_calli, i_max, i_min, i_abs, i_copy, i_throw, i_ldcs, pwt, List.getElem?_cons_zero, List.getElem?_cons_succ, List.set_cons_zero, List.set_cons_succ, List.getD_cons_zero, List.getD_cons_succ, List.length_cons, List.length_nil, List.length_set, List.drop_succ_cons, List.drop_zero, List.take_succ_cons, List.take_zero, List.reverse_cons, List.reverse_nil, List.nil_append, List.cons_append, List.append_nil, List.map_cons, List.map_nil, List.sum_cons, List.sum_nil, Value.category, ne_eq, Nat.reduceEqDiff, reduceIte, ite_self, false_implies, true_implies, true_and, and_true, and_self, Nat.zero_le, Nat.le_refl, Nat.reduceLeDiff, Nat.reduceAdd, Nat.reduceLT, Nat.add_zero, Nat.zero_add, pu_eq, not_false_eq_true, not_true_eq_false, forall_const, if_true, if_false, implies_true, X.mo]
  refine ⟨rfl, rfl, ?_⟩
  obtain ⟨X1, F1⟩ := X.pm (sz' := 0) (nx' := nx) (by omega) X.n12
  exact hQ _ X1 F1
theorem c_X6_remember (X : CX h x B n L f K sz nx im wb) (hQ : ∀ h' r', CX h' x B n L f (uK K (nx + 2) (r', (K 0).2)) (min 12 (sz + 1)) ((nx + 1) % 12) im wb → SM (K 0).1 r' → FC x B h h' → Q (.inl none) h' n) : pCall E M_X6_remember (d + 2) [.ref (x + 66), .ref (x + 6)] h n Q := by
  refine pCall_of rfl rfl (Nat.le_of_ble_eq_true rfl) (by simp [Value.category]) ?_
  refine b_X6_remember_0 _ _ _ ?_
  simp only [pEntry, PM.nL, M_X6_remember, List.map_cons, List.map_nil, List.length_cons, List.length_nil, Nat.reduceAdd, Nat.reduceSub, Nat.sub_self, List.replicate_succ, List.replicate_zero, List.cons_append, List.nil_append]
  obtain ⟨fn, m1, m2⟩ := X.ma
  have h12 := X.n12
  have hs12 := X.s12
  have v0 : vp_in (nI nx) 12 := vp_in_nI h12 (by decide)
  have c0 : (nI nx).toNatClampNeg = nx := nI_clamp (by omega)
  have hk : nx + 2 < 14 := by omega
  obtain ⟨⟨⟨ff, H⟩, HX⟩, HW⟩ := X.ca.1 (nx + 2) hk
  have hA := H.f0
  have eA := kAd_m (x := x) nx
  rw [eA] at hA
  simp only [i_const, i_load, i_aload, i_store, i_astore, i_inc, i_iadd, i_isub, i_imul, i_idiv, i_irem, i_iand, i_ior, i_ixor, i_ishl, i_ishr, i_iushr, i_ineg, i_i2l, i_i2b, i_i2c, i_lcmp, i_dup, i_dup2, i_pop, i_null, i_alen, i_iald, i_bald, i_lald, i_aald, i_iast, i_bast, i_last, i_aast, i_goto, i_icmp_eq, i_icmp_ne, i_icmp_lt, i_icmp_ge, i_icmp_gt, i_icmp_le, i_if_eq, i_if_ne, i_if_lt, i_if_ge, i_if_gt, i_if_le, i_ifnonnull, i_getf, i_putf, i_iret, i_zret, i_aret, i_vret, i_new, i_newa, i_anew, i_oinit, i_callv, i_calls, i_calli, i_max, i_min, i_abs, i_copy, i_throw, i_ldcs, pwt, List.getElem?_cons_zero, List.getElem?_cons_succ, List.set_cons_zero, List.set_cons_succ, List.getD_cons_zero, List.getD_cons_succ, List.length_cons, List.length_nil, List.length_set, List.drop_succ_cons, List.drop_zero, List.take_succ_cons, List.take_zero, List.reverse_cons, List.reverse_nil, List.nil_append, List.cons_append, List.append_nil, List.map_cons, List.map_nil, List.sum_cons, List.sum_nil, Value.category, ne_eq, Nat.reduceEqDiff, reduceIte, ite_self, false_implies, true_implies, true_and, and_true, and_self, Nat.zero_le, Nat.le_refl, Nat.reduceLeDiff, Nat.reduceAdd, Nat.reduceLT, Nat.add_zero, Nat.zero_add, pu_eq, not_false_eq_true, not_true_eq_false, forall_const, if_true, if_false, implies_true, X.mo, m1, v0, c0, m2 nx h12, va_rf, hA]
  rw [← eA]
  refine c_X0_copyFrom H X.ax X.wa ?_ (fun h1 r1 H1 F1 S1 => ?_)
  · have := kAd_dj (x := x) (k := 0) (j := nx + 2) (by decide) hk (by omega)
    rw [kAd_0] at this; exact this
  obtain ⟨X1, G1⟩ := X.cpy hk (by decide) H1 F1 S1
  have e1 : nI nx + 1 = nI (nx + 1) := nI_1 nx
  have e2 : nI (nx + 1) - nI (nx + 1) / 12 * 12 = nI ((nx + 1) % 12) := pk_rem (d := 12) (by omega) (by decide) (by decide)
  have e3 : nI sz + 1 = nI (sz + 1) := nI_1 sz
  have e4 : (if nI (sz + 1) < 12 then nI (sz + 1) else 12) = nI (min 12 (sz + 1)) := by
    rw [show (12 : Int32) = nI 12 from rfl, nI_mn (by decide) (by omega)]; congr 1; split <;> omega
  simp only [i_const, i_load, i_aload, i_store, i_astore, i_inc, i_iadd, i_isub, i_imul, i_idiv, i_irem, i_iand, i_ior, i_ixor, i_ishl, i_ishr, i_iushr, i_ineg, i_i2l, i_i2b, i_i2c, i_lcmp, i_dup, i_dup2, i_pop, i_null, i_alen, i_iald, i_bald, i_lald, i_aald, i_iast, i_bast, i_last, i_aast, i_goto, i_icmp_eq, i_icmp_ne, i_icmp_lt, i_icmp_ge, i_icmp_gt, i_icmp_le, i_if_eq, i_if_ne, i_if_lt, i_if_ge, i_if_gt, i_if_le, i_ifnonnull, i_getf, i_putf, i_iret, i_zret, i_aret, i_vret, i_new, i_newa, i_anew, i_oinit, i_callv, i_calls, i_calli, i_max, i_min, i_abs, i_copy, i_throw, i_ldcs, pwt, List.getElem?_cons_zero, List.getElem?_cons_succ, List.set_cons_zero, List.set_cons_succ, List.getD_cons_zero, List.getD_cons_succ, List.length_cons, List.length_nil, List.length_set, List.drop_succ_cons, List.drop_zero, List.take_succ_cons, List.take_zero, List.reverse_cons, List.reverse_nil, List.nil_append, List.cons_append, List.append_nil, List.map_cons, List.map_nil, List.sum_cons, List.sum_nil, Value.category, ne_eq, Nat.reduceEqDiff, reduceIte, ite_self, false_implies, true_implies, true_and, and_true, and_self, Nat.zero_le, Nat.le_refl, Nat.reduceLeDiff, Nat.reduceAdd, Nat.reduceLT, Nat.add_zero, Nat.zero_add, pu_eq, not_false_eq_true, not_true_eq_false, forall_const, if_true, if_false, implies_true, pRetK, X1.mo, e1, e2, e3, e4, pu_pu]
  refine ⟨by decide, rfl, rfl, rfl, rfl, ?_⟩
  obtain ⟨X2, G2⟩ := X1.pm (sz' := min 12 (sz + 1)) (nx' := (nx + 1) % 12) (Nat.min_le_left _ _) (Nat.mod_lt _ (by decide))
  exact hQ _ _ X2 S1 (G1.tr G2)
theorem c_X6_recall (X : CX h x B n L f K sz nx im wb) (hQ0 : sz = 0 → Q (.inl (some (.int 0))) h n) (hQ1 : 0 < sz → ∀ h' r', CX h' x B n L f (uK K 0 (r', (K ((nx + 11) % 12 + 2)).2)) (sz - 1) ((nx + 11) % 12) im wb → SM (K ((nx + 11) % 12 + 2)).1 r' → FC x B h h' → Q (.inl (some (.int 1))) h' n) : pCall E M_X6_recall (d + 2) [.ref (x + 66), .ref (x + 6)] h n Q := by
  refine pCall_of rfl rfl (Nat.le_of_ble_eq_true rfl) (by simp [Value.category]) ?_
  refine b_X6_recall_0 _ _ _ ?_
  simp only [pEntry, PM.nL, M_X6_recall, List.map_cons, List.map_nil, List.length_cons, List.length_nil, Nat.reduceAdd, Nat.reduceSub, Nat.sub_self, List.replicate_succ, List.replicate_zero, List.cons_append, List.nil_append]
  obtain ⟨fn, m1, m2⟩ := X.ma
  have h12 := X.n12
  have hs12 := X.s12
  have hm : (nx + 11) % 12 < 12 := Nat.mod_lt _ (by decide)
  by_cases c : sz = 0
  · have e0 : nI sz = 0 := by rw [c]; rfl
    simp only [i_const, i_load, i_aload, i_store, i_astore, i_inc, i_iadd, i_isub, i_imul, i_idiv, i_irem, i_iand, i_ior, i_ixor, i_ishl, i_ishr, i_iushr, i_ineg, i_i2l, i_i2b, i_i2c, i_lcmp, i_dup, i_dup2, i_pop, i_null, i_alen, i_iald, i_bald, i_lald, i_aald, i_iast, i_bast, i_last, i_aast, i_goto, i_icmp_eq, i_icmp_ne, i_icmp_lt, i_icmp_ge, i_icmp_gt, i_icmp_le, i_if_eq, i_if_ne, i_if_lt, i_if_ge, i_if_gt, i_if_le, i_ifnonnull, i_getf, i_putf, i_iret, i_zret, i_aret, i_vret, i_new, i_newa, i_anew, i_oinit, i_callv, i_calls, i_calli, i_max, i_min, i_abs, i_copy, i_throw, i_ldcs, pwt, List.getElem?_cons_zero, List.getElem?_cons_succ, List.set_cons_zero, List.set_cons_succ, List.getD_cons_zero, List.getD_cons_succ, List.length_cons, List.length_nil, List.length_set, List.drop_succ_cons, List.drop_zero, List.take_succ_cons, List.take_zero, List.reverse_cons, List.reverse_nil, List.nil_append, List.cons_append, List.append_nil, List.map_cons, List.map_nil, List.sum_cons, List.sum_nil, Value.category, ne_eq, Nat.reduceEqDiff, reduceIte, ite_self, false_implies, true_implies, true_and, and_true, and_self, Nat.zero_le, Nat.le_refl, Nat.reduceLeDiff, Nat.reduceAdd, Nat.reduceLT, Nat.add_zero, Nat.zero_add, pu_eq, not_false_eq_true, not_true_eq_false, forall_const, if_true, if_false, implies_true, X.mo, e0]
    exact ⟨Or.inl trivial, hQ0 c⟩
  · have e0 : ¬ nI sz = 0 := fun q => c ((nI_eq (by omega) (by decide)).mp (show nI sz = nI 0 from q))
    have e1 : nI nx + 12 = nI (nx + 12) := nI_add nx 12
    have e2 : nI (nx + 12) - 1 = nI (nx + 11) := nI_pred _
    have e3 : nI (nx + 11) - nI (nx + 11) / 12 * 12 = nI ((nx + 11) % 12) := pk_rem (d := 12) (by omega) (by decide) (by decide)
    have e4 : nI sz - 1 = nI (sz - 1) := by rw [show sz = sz - 1 + 1 by omega]; exact nI_pred _
    have v0 : vp_in (nI ((nx + 11) % 12)) 12 := vp_in_nI hm (by decide)
    have c0 : (nI ((nx + 11) % 12)).toNatClampNeg = (nx + 11) % 12 := nI_clamp (by omega)
    have ma1 : ∀ c : PC, pu h (x + 66) c (x + 67) = some (.inl (.object "ScarArmy$Army", (12, .inr (.inr (.inr (.inr fn)))))) := fun c => (pu_ne (by omega)).trans m1
    have ax0 : ∀ c : PC, pu h (x + 66) c (x + 6) = h (x + 6) := fun c => pu_ne (by omega)
    simp only [i_const, i_load, i_aload, i_store, i_astore, i_inc, i_iadd, i_isub, i_imul, i_idiv, i_irem, i_iand, i_ior, i_ixor, i_ishl, i_ishr, i_iushr, i_ineg, i_i2l, i_i2b, i_i2c, i_lcmp, i_dup, i_dup2, i_pop, i_null, i_alen, i_iald, i_bald, i_lald, i_aald, i_iast, i_bast, i_last, i_aast, i_goto, i_icmp_eq, i_icmp_ne, i_icmp_lt, i_icmp_ge, i_icmp_gt, i_icmp_le, i_if_eq, i_if_ne, i_if_lt, i_if_ge, i_if_gt, i_if_le, i_ifnonnull, i_getf, i_putf, i_iret, i_zret, i_aret, i_vret, i_new, i_newa, i_anew, i_oinit, i_callv, i_calls, i_calli, i_max, i_min, i_abs, i_copy, i_throw, i_ldcs, pwt, List.getElem?_cons_zero, List.getElem?_cons_succ, List.set_cons_zero, List.set_cons_succ, List.getD_cons_zero, List.getD_cons_succ, List.length_cons, List.length_nil, List.length_set, List.drop_succ_cons, List.drop_zero, List.take_succ_cons, List.take_zero, List.reverse_cons, List.reverse_nil, List.nil_append, List.cons_append, List.append_nil, List.map_cons, List.map_nil, List.sum_cons, List.sum_nil, Value.category, ne_eq, Nat.reduceEqDiff, reduceIte, ite_self, false_implies, true_implies, true_and, and_true, and_self, Nat.zero_le, Nat.le_refl, Nat.reduceLeDiff, Nat.reduceAdd, Nat.reduceLT, Nat.add_zero, Nat.zero_add, pu_eq, not_false_eq_true, not_true_eq_false, forall_const, if_true, if_false, implies_true, X.mo, e0, e1, e2, e3, e4, pu_pu, ma1, v0, c0, m2 _ hm, va_rf, ax0, X.ax.f0]
    obtain ⟨X1, G1⟩ := X.pm (sz' := sz - 1) (nx' := (nx + 11) % 12) (by omega) hm
    refine ⟨by decide, rfl, rfl, rfl, rfl, ?_⟩
    have hk : (nx + 11) % 12 + 2 < 14 := by omega
    obtain ⟨f1, H1⟩ := X1.ax.aa
    rw [← kAd_m]
    refine c_X0_copyFrom H1 (X1.ca.1 _ hk).1 (X1.ca.1 _ hk).2 ?_ (fun h2 r2 H2 F2 S2 => ?_)
    · have := kAd_dj (x := x) (k := (nx + 11) % 12 + 2) (j := 0) hk (by decide) (by omega)
      rw [kAd_0] at this; exact this
    obtain ⟨X2, G2⟩ := X1.cpy (k := 0) (by decide) hk H2 F2 S2
    simp only [i_const, i_load, i_aload, i_store, i_astore, i_inc, i_iadd, i_isub, i_imul, i_idiv, i_irem, i_iand, i_ior, i_ixor, i_ishl, i_ishr, i_iushr, i_ineg, i_i2l, i_i2b, i_i2c, i_lcmp, i_dup, i_dup2, i_pop, i_null, i_alen, i_iald, i_bald, i_lald, i_aald, i_iast, i_bast, i_last, i_aast, i_goto, i_icmp_eq, i_icmp_ne, i_icmp_lt, i_icmp_ge, i_icmp_gt, i_icmp_le, i_if_eq, i_if_ne, i_if_lt, i_if_ge, i_if_gt, i_if_le, i_ifnonnull, i_getf, i_putf, i_iret, i_zret, i_aret, i_vret, i_new, i_newa, i_anew, i_oinit, i_callv, i_calls, i_calli, i_max, i_min, i_abs, i_copy, i_throw, i_ldcs, pwt, List.getElem?_cons_zero, List.getElem?_cons_succ, List.set_cons_zero, List.set_cons_succ, List.getD_cons_zero, List.getD_cons_succ, List.length_cons, List.length_nil, List.length_set, List.drop_succ_cons, List.drop_zero, List.take_succ_cons, List.take_zero, List.reverse_cons, List.reverse_nil, List.nil_append, List.cons_append, List.append_nil, List.map_cons, List.map_nil, List.sum_cons, List.sum_nil, Value.category, ne_eq, Nat.reduceEqDiff, reduceIte, ite_self, false_implies, true_implies, true_and, and_true, and_self, Nat.zero_le, Nat.le_refl, Nat.reduceLeDiff, Nat.reduceAdd, Nat.reduceLT, Nat.add_zero, Nat.zero_add, pu_eq, not_false_eq_true, not_true_eq_false, forall_const, if_true, if_false, implies_true, pRetK]
    exact ⟨Or.inr trivial, hQ1 (by omega) _ _ X2 S2 (G1.tr G2)⟩
/-- a number that is one of the first m -/
def ix (y : Int32) (m : Nat) : Prop := ∃ i, i < m ∧ y = nI i
theorem ix_of {y : Int32} {m : Nat} (hm : m ≤ 1000) (h1 : ¬ y < 0) (h2 : y < nI m) : ix y m := by
  obtain ⟨e, hl⟩ := nn_nI (Int32.not_lt.mp h1)
  refine ⟨y.toNatClampNeg, ?_, e⟩
  rw [e] at h2
  by_cases c : y.toNatClampNeg < m
  · exact c
  · exact absurd h2 (nI_nlt (by omega) (by omega))
theorem ix_neg {y : Int32} {m : Nat} (hm : m ≤ 1000) (h1 : y < 0) : ¬ ix y m := by
  rintro ⟨i, hi, e⟩
  rw [e] at h1
  exact nI_pos (by omega) h1
theorem ix_big {y : Int32} {m : Nat} (hm : m ≤ 1000) (h1 : ¬ y < nI m) : ¬ ix y m := by
  rintro ⟨i, hi, e⟩
  rw [e] at h1
  exact h1 (nI_lt hi (by omega))
abbrev xIO : String := "java/lang/IndexOutOfBoundsException"
abbrev xIA : String := "java/lang/IllegalArgumentException"
abbrev xIS : String := "java/lang/IllegalStateException"
abbrev xUO : String := "java/lang/UnsupportedOperationException"
abbrev xNE : String := "java/util/NoSuchElementException"
theorem c_X11_needBattle {y : Int32} (X : CX h x B n L f K sz nx im wb) (hQ1 : ix y (cl (K 0).1 1 0) → Q (.inl none) h n) (hQ0 : ¬ ix y (cl (K 0).1 1 0) → ∀ n', n ≤ n' → Q (.inr xIO) h n') : pCall E M_X11_needBattle d [.ref x, .int y] h n Q := by
  refine pCall_of rfl rfl (Nat.le_of_ble_eq_true rfl) (by simp [Value.category]) ?_
  refine b_X11_needBattle_0 _ _ _ ?_
  simp only [pEntry, PM.nL, M_X11_needBattle, List.map_cons, List.map_nil, List.length_cons, List.length_nil, Nat.reduceAdd, Nat.reduceSub, Nat.sub_self, List.replicate_succ, List.replicate_zero, List.cons_append, List.nil_append]
  have hb : cl (K 0).1 1 0 ≤ 1000 := Nat.le_trans X.wa.b8 (by decide)
  by_cases c : y < 0
  · simp only [i_const, i_load, i_aload, i_store, i_astore, i_inc, i_iadd, i_isub, i_imul, i_idiv, i_irem, i_iand, i_ior, i_ixor, i_ishl, i_ishr, i_iushr, i_ineg, i_i2l, i_i2b, i_i2c, i_lcmp, i_dup, i_dup2, i_pop, i_null, i_alen, i_iald, i_bald, i_lald, i_aald, i_iast, i_bast, i_last, i_aast, i_goto, i_icmp_eq, i_icmp_ne, i_icmp_lt, i_icmp_ge, i_icmp_gt, i_icmp_le, i_if_eq, i_if_ne, i_if_lt, i_if_ge, i_if_gt, i_if_le, i_ifnonnull, i_getf, i_putf, i_iret, i_zret, i_aret, i_vret, i_new, i_newa, i_anew, i_oinit, i_callv, i_calls, i_calli, i_max, i_min, i_abs, i_copy, i_throw, i_ldcs, pwt, List.getElem?_cons_zero, List.getElem?_cons_succ, List.set_cons_zero, List.set_cons_succ, List.getD_cons_zero, List.getD_cons_succ, List.length_cons, List.length_nil, List.length_set, List.drop_succ_cons, List.drop_zero, List.take_succ_cons, List.take_zero, List.reverse_cons, List.reverse_nil, List.nil_append, List.cons_append, List.append_nil, List.map_cons, List.map_nil, List.sum_cons, List.sum_nil, Value.category, ne_eq, Nat.reduceEqDiff, reduceIte, ite_self, false_implies, true_implies, true_and, and_true, and_self, Nat.zero_le, Nat.le_refl, Nat.reduceLeDiff, Nat.reduceAdd, Nat.reduceLT, Nat.add_zero, Nat.zero_add, pu_eq, not_false_eq_true, not_true_eq_false, forall_const, if_true, if_false, implies_true, c]
    exact fun n' hn => hQ0 (ix_neg hb c) n' hn
  · simp only [i_const, i_load, i_aload, i_store, i_astore, i_inc, i_iadd, i_isub, i_imul, i_idiv, i_irem, i_iand, i_ior, i_ixor, i_ishl, i_ishr, i_iushr, i_ineg, i_i2l, i_i2b, i_i2c, i_lcmp, i_dup, i_dup2, i_pop, i_null, i_alen, i_iald, i_bald, i_lald, i_aald, i_iast, i_bast, i_last, i_aast, i_goto, i_icmp_eq, i_icmp_ne, i_icmp_lt, i_icmp_ge, i_icmp_gt, i_icmp_le, i_if_eq, i_if_ne, i_if_lt, i_if_ge, i_if_gt, i_if_le, i_ifnonnull, i_getf, i_putf, i_iret, i_zret, i_aret, i_vret, i_new, i_newa, i_anew, i_oinit, i_callv, i_calls, i_calli, i_max, i_min, i_abs, i_copy, i_throw, i_ldcs, pwt, List.getElem?_cons_zero, List.getElem?_cons_succ, List.set_cons_zero, List.set_cons_succ, List.getD_cons_zero, List.getD_cons_succ, List.length_cons, List.length_nil, List.length_set, List.drop_succ_cons, List.drop_zero, List.take_succ_cons, List.take_zero, List.reverse_cons, List.reverse_nil, List.nil_append, List.cons_append, List.append_nil, List.map_cons, List.map_nil, List.sum_cons, List.sum_nil, Value.category, ne_eq, Nat.reduceEqDiff, reduceIte, ite_self, false_implies, true_implies, true_and, and_true, and_self, Nat.zero_le, Nat.le_refl, Nat.reduceLeDiff, Nat.reduceAdd, Nat.reduceLT, Nat.add_zero, Nat.zero_add, pu_eq, not_false_eq_true, not_true_eq_false, forall_const, if_true, if_false, implies_true, c, X.o, X.ax.f0, X.ax.f1, X.wa.hb]
    refine ⟨fun c2 => hQ1 (ix_of hb c c2), fun c2 => fun n' hn => hQ0 (ix_big hb c2) n' hn⟩
theorem c_X11_needMan {y : Int32} (X : CX h x B n L f K sz nx im wb) (hQ1 : ix y (cl (K 0).1 5 0) → Q (.inl none) h n) (hQ0 : ¬ ix y (cl (K 0).1 5 0) → ∀ n', n ≤ n' → Q (.inr xIO) h n') : pCall E M_X11_needMan d [.ref x, .int y] h n Q := by
  refine pCall_of rfl rfl (Nat.le_of_ble_eq_true rfl) (by simp [Value.category]) ?_
  refine b_X11_needMan_0 _ _ _ ?_
  simp only [pEntry, PM.nL, M_X11_needMan, List.map_cons, List.map_nil, List.length_cons, List.length_nil, Nat.reduceAdd, Nat.reduceSub, Nat.sub_self, List.replicate_succ, List.replicate_zero, List.cons_append, List.nil_append]
  have hb : cl (K 0).1 5 0 ≤ 1000 := Nat.le_trans X.wa.m10 (by decide)
  by_cases c : y < 0
  · simp only [i_const, i_load, i_aload, i_store, i_astore, i_inc, i_iadd, i_isub, i_imul, i_idiv, i_irem, i_iand, i_ior, i_ixor, i_ishl, i_ishr, i_iushr, i_ineg, i_i2l, i_i2b, i_i2c, i_lcmp, i_dup, i_dup2, i_pop, i_null, i_alen, i_iald, i_bald, i_lald, i_aald, i_iast, i_bast, i_last, i_aast, i_goto, i_icmp_eq, i_icmp_ne, i_icmp_lt, i_icmp_ge, i_icmp_gt, i_icmp_le, i_if_eq, i_if_ne, i_if_lt, i_if_ge, i_if_gt, i_if_le, i_ifnonnull, i_getf, i_putf, i_iret, i_zret, i_aret, i_vret, i_new, i_newa, i_anew, i_oinit, i_callv, i_calls, i_calli, i_max, i_min, i_abs, i_copy, i_throw, i_ldcs, pwt, List.getElem?_cons_zero, List.getElem?_cons_succ, List.set_cons_zero, List.set_cons_succ, List.getD_cons_zero, List.getD_cons_succ, List.length_cons, List.length_nil, List.length_set, List.drop_succ_cons, List.drop_zero, List.take_succ_cons, List.take_zero, List.reverse_cons, List.reverse_nil, List.nil_append, List.cons_append, List.append_nil, List.map_cons, List.map_nil, List.sum_cons, List.sum_nil, Value.category, ne_eq, Nat.reduceEqDiff, reduceIte, ite_self, false_implies, true_implies, true_and, and_true, and_self, Nat.zero_le, Nat.le_refl, Nat.reduceLeDiff, Nat.reduceAdd, Nat.reduceLT, Nat.add_zero, Nat.zero_add, pu_eq, not_false_eq_true, not_true_eq_false, forall_const, if_true, if_false, implies_true, c]
    exact fun n' hn => hQ0 (ix_neg hb c) n' hn
  · simp only [i_const, i_load, i_aload, i_store, i_astore, i_inc, i_iadd, i_isub, i_imul, i_idiv, i_irem, i_iand, i_ior, i_ixor, i_ishl, i_ishr, i_iushr, i_ineg, i_i2l, i_i2b, i_i2c, i_lcmp, i_dup, i_dup2, i_pop, i_null, i_alen, i_iald, i_bald, i_lald, i_aald, i_iast, i_bast, i_last, i_aast, i_goto, i_icmp_eq, i_icmp_ne, i_icmp_lt, i_icmp_ge, i_icmp_gt, i_icmp_le, i_if_eq, i_if_ne, i_if_lt, i_if_ge, i_if_gt, i_if_le, i_ifnonnull, i_getf, i_putf, i_iret, i_zret, i_aret, i_vret, i_new, i_newa, i_anew, i_oinit, i_callv, i_calls, i_calli, i_max, i_min, i_abs, i_copy, i_throw, i_ldcs, pwt, List.getElem?_cons_zero, List.getElem?_cons_succ, List.set_cons_zero, List.set_cons_succ, List.getD_cons_zero, List.getD_cons_succ, List.length_cons, List.length_nil, List.length_set, List.drop_succ_cons, List.drop_zero, List.take_succ_cons, List.take_zero, List.reverse_cons, List.reverse_nil, List.nil_append, List.cons_append, List.append_nil, List.map_cons, List.map_nil, List.sum_cons, List.sum_nil, Value.category, ne_eq, Nat.reduceEqDiff, reduceIte, ite_self, false_implies, true_implies, true_and, and_true, and_self, Nat.zero_le, Nat.le_refl, Nat.reduceLeDiff, Nat.reduceAdd, Nat.reduceLT, Nat.add_zero, Nat.zero_add, pu_eq, not_false_eq_true, not_true_eq_false, forall_const, if_true, if_false, implies_true, c, X.o, X.ax.f0, X.ax.f5, X.wa.hm]
    refine ⟨fun c2 => hQ1 (ix_of hb c c2), fun c2 => fun n' hn => hQ0 (ix_big hb c2) n' hn⟩
theorem c_X11_needScar {y : Int32} (X : CX h x B n L f K sz nx im wb) (hQ1 : ix y (cl (K 0).1 8 0) → Q (.inl none) h n) (hQ0 : ¬ ix y (cl (K 0).1 8 0) → ∀ n', n ≤ n' → Q (.inr xIO) h n') : pCall E M_X11_needScar d [.ref x, .int y] h n Q := by
  refine pCall_of rfl rfl (Nat.le_of_ble_eq_true rfl) (by simp [Value.category]) ?_
  refine b_X11_needScar_0 _ _ _ ?_
  simp only [pEntry, PM.nL, M_X11_needScar, List.map_cons, List.map_nil, List.length_cons, List.length_nil, Nat.reduceAdd, Nat.reduceSub, Nat.sub_self, List.replicate_succ, List.replicate_zero, List.cons_append, List.nil_append]
  have hb : cl (K 0).1 8 0 ≤ 1000 := Nat.le_trans X.wa.s24 (by decide)
  by_cases c : y < 0
  · simp only [i_const, i_load, i_aload, i_store, i_astore, i_inc, i_iadd, i_isub, i_imul, i_idiv, i_irem, i_iand, i_ior, i_ixor, i_ishl, i_ishr, i_iushr, i_ineg, i_i2l, i_i2b, i_i2c, i_lcmp, i_dup, i_dup2, i_pop, i_null, i_alen, i_iald, i_bald, i_lald, i_aald, i_iast, i_bast, i_last, i_aast, i_goto, i_icmp_eq, i_icmp_ne, i_icmp_lt, i_icmp_ge, i_icmp_gt, i_icmp_le, i_if_eq, i_if_ne, i_if_lt, i_if_ge, i_if_gt, i_if_le, i_ifnonnull, i_getf, i_putf, i_iret, i_zret, i_aret, i_vret, i_new, i_newa, i_anew, i_oinit, i_callv, i_calls, i_calli, i_max, i_min, i_abs, i_copy, i_throw, i_ldcs, pwt, List.getElem?_cons_zero, List.getElem?_cons_succ, List.set_cons_zero, List.set_cons_succ, List.getD_cons_zero, List.getD_cons_succ, List.length_cons, List.length_nil, List.length_set, List.drop_succ_cons, List.drop_zero, List.take_succ_cons, List.take_zero, List.reverse_cons, List.reverse_nil, List.nil_append, List.cons_append, List.append_nil, List.map_cons, List.map_nil, List.sum_cons, List.sum_nil, Value.category, ne_eq, Nat.reduceEqDiff, reduceIte, ite_self, false_implies, true_implies, true_and, and_true, and_self, Nat.zero_le, Nat.le_refl, Nat.reduceLeDiff, Nat.reduceAdd, Nat.reduceLT, Nat.add_zero, Nat.zero_add, pu_eq, not_false_eq_true, not_true_eq_false, forall_const, if_true, if_false, implies_true, c]
    exact fun n' hn => hQ0 (ix_neg hb c) n' hn
  · simp only [i_const, i_load, i_aload, i_store, i_astore, i_inc, i_iadd, i_isub, i_imul, i_idiv, i_irem, i_iand, i_ior, i_ixor, i_ishl, i_ishr, i_iushr, i_ineg, i_i2l, i_i2b, i_i2c, i_lcmp, i_dup, i_dup2, i_pop, i_null, i_alen, i_iald, i_bald, i_lald, i_aald, i_iast, i_bast, i_last, i_aast, i_goto, i_icmp_eq, i_icmp_ne, i_icmp_lt, i_icmp_ge, i_icmp_gt, i_icmp_le, i_if_eq, i_if_ne, i_if_lt, i_if_ge, i_if_gt, i_if_le, i_ifnonnull, i_getf, i_putf, i_iret, i_zret, i_aret, i_vret, i_new, i_newa, i_anew, i_oinit, i_callv, i_calls, i_calli, i_max, i_min, i_abs, i_copy, i_throw, i_ldcs, pwt, List.getElem?_cons_zero, List.getElem?_cons_succ, List.set_cons_zero, List.set_cons_succ, List.getD_cons_zero, List.getD_cons_succ, List.length_cons, List.length_nil, List.length_set, List.drop_succ_cons, List.drop_zero, List.take_succ_cons, List.take_zero, List.reverse_cons, List.reverse_nil, List.nil_append, List.cons_append, List.append_nil, List.map_cons, List.map_nil, List.sum_cons, List.sum_nil, Value.category, ne_eq, Nat.reduceEqDiff, reduceIte, ite_self, false_implies, true_implies, true_and, and_true, and_self, Nat.zero_le, Nat.le_refl, Nat.reduceLeDiff, Nat.reduceAdd, Nat.reduceLT, Nat.add_zero, Nat.zero_add, pu_eq, not_false_eq_true, not_true_eq_false, forall_const, if_true, if_false, implies_true, c, X.o, X.ax.f0, X.ax.f8, X.wa.hs]
    refine ⟨fun c2 => hQ1 (ix_of hb c c2), fun c2 => fun n' hn => hQ0 (ix_big hb c2) n' hn⟩
theorem c_X11_needTrade {y : Int32} (hQ1 : ix y 3 → Q (.inl none) h n) (hQ0 : ¬ ix y 3 → ∀ n', n ≤ n' → Q (.inr xIO) h n') : pCall E M_X11_needTrade d [.ref x, .int y] h n Q := by
  refine pCall_of rfl rfl (Nat.le_of_ble_eq_true rfl) (by simp [Value.category]) ?_
  refine b_X11_needTrade_0 _ _ _ ?_
  simp only [pEntry, PM.nL, M_X11_needTrade, List.map_cons, List.map_nil, List.length_cons, List.length_nil, Nat.reduceAdd, Nat.reduceSub, Nat.sub_self, List.replicate_succ, List.replicate_zero, List.cons_append, List.nil_append]
  by_cases c : y < 0
  · simp only [i_const, i_load, i_aload, i_store, i_astore, i_inc, i_iadd, i_isub, i_imul, i_idiv, i_irem, i_iand, i_ior, i_ixor, i_ishl, i_ishr, i_iushr, i_ineg, i_i2l, i_i2b, i_i2c, i_lcmp, i_dup, i_dup2, i_pop, i_null, i_alen, i_iald, i_bald, i_lald, i_aald, i_iast, i_bast, i_last, i_aast, i_goto, i_icmp_eq, i_icmp_ne, i_icmp_lt, i_icmp_ge, i_icmp_gt, i_icmp_le, i_if_eq, i_if_ne, i_if_lt, i_if_ge, i_if_gt, i_if_le, i_ifnonnull, i_getf, i_putf, i_iret, i_zret, i_aret, i_vret, i_new, i_newa, i_anew, i_oinit, i_callv, i_calls, i_calli, i_max, i_min, i_abs, i_copy, i_throw, i_ldcs, pwt, List.getElem?_cons_zero, List.getElem?_cons_succ, List.set_cons_zero, List.set_cons_succ, List.getD_cons_zero, List.getD_cons_succ, List.length_cons, List.length_nil, List.length_set, List.drop_succ_cons, List.drop_zero, List.take_succ_cons, List.take_zero, List.reverse_cons, List.reverse_nil, List.nil_append, List.cons_append, List.append_nil, List.map_cons, List.map_nil, List.sum_cons, List.sum_nil, Value.category, ne_eq, Nat.reduceEqDiff, reduceIte, ite_self, false_implies, true_implies, true_and, and_true, and_self, Nat.zero_le, Nat.le_refl, Nat.reduceLeDiff, Nat.reduceAdd, Nat.reduceLT, Nat.add_zero, Nat.zero_add, pu_eq, not_false_eq_true, not_true_eq_false, forall_const, if_true, if_false, implies_true, c]
    exact fun n' hn => hQ0 (ix_neg (by decide) c) n' hn
  · simp only [i_const, i_load, i_aload, i_store, i_astore, i_inc, i_iadd, i_isub, i_imul, i_idiv, i_irem, i_iand, i_ior, i_ixor, i_ishl, i_ishr, i_iushr, i_ineg, i_i2l, i_i2b, i_i2c, i_lcmp, i_dup, i_dup2, i_pop, i_null, i_alen, i_iald, i_bald, i_lald, i_aald, i_iast, i_bast, i_last, i_aast, i_goto, i_icmp_eq, i_icmp_ne, i_icmp_lt, i_icmp_ge, i_icmp_gt, i_icmp_le, i_if_eq, i_if_ne, i_if_lt, i_if_ge, i_if_gt, i_if_le, i_ifnonnull, i_getf, i_putf, i_iret, i_zret, i_aret, i_vret, i_new, i_newa, i_anew, i_oinit, i_callv, i_calls, i_calli, i_max, i_min, i_abs, i_copy, i_throw, i_ldcs, pwt, List.getElem?_cons_zero, List.getElem?_cons_succ, List.set_cons_zero, List.set_cons_succ, List.getD_cons_zero, List.getD_cons_succ, List.length_cons, List.length_nil, List.length_set, List.drop_succ_cons, List.drop_zero, List.take_succ_cons, List.take_zero, List.reverse_cons, List.reverse_nil, List.nil_append, List.cons_append, List.append_nil, List.map_cons, List.map_nil, List.sum_cons, List.sum_nil, Value.category, ne_eq, Nat.reduceEqDiff, reduceIte, ite_self, false_implies, true_implies, true_and, and_true, and_self, Nat.zero_le, Nat.le_refl, Nat.reduceLeDiff, Nat.reduceAdd, Nat.reduceLT, Nat.add_zero, Nat.zero_add, pu_eq, not_false_eq_true, not_true_eq_false, forall_const, if_true, if_false, implies_true, c]
    refine ⟨fun c2 => hQ1 (ix_of (by decide) c c2), fun c2 => fun n' hn => hQ0 (ix_big (by decide) c2) n' hn⟩
theorem le_lt {y : Int32} {k : Nat} (hk : k < 2 ^ 30) : y ≤ nI k ↔ y < nI (k + 1) := by
  rw [Int32.le_iff_toInt_le, Int32.lt_iff_toInt_lt, nI_toInt (by omega), nI_toInt (by omega)]; omega
theorem c_X11_needSales {y : Int32} (hQ1 : ix y 31 → Q (.inl none) h n) (hQ0 : ¬ ix y 31 → ∀ n', n ≤ n' → Q (.inr xIA) h n') : pCall E M_X11_needSales d [.ref x, .int y] h n Q := by
  refine pCall_of rfl rfl (Nat.le_of_ble_eq_true rfl) (by simp [Value.category]) ?_
  refine b_X11_needSales_0 _ _ _ ?_
  simp only [pEntry, PM.nL, M_X11_needSales, List.map_cons, List.map_nil, List.length_cons, List.length_nil, Nat.reduceAdd, Nat.reduceSub, Nat.sub_self, List.replicate_succ, List.replicate_zero, List.cons_append, List.nil_append]
  by_cases c : y < 0
  · simp only [i_const, i_load, i_aload, i_store, i_astore, i_inc, i_iadd, i_isub, i_imul, i_idiv, i_irem, i_iand, i_ior, i_ixor, i_ishl, i_ishr, i_iushr, i_ineg, i_i2l, i_i2b, i_i2c, i_lcmp, i_dup, i_dup2, i_pop, i_null, i_alen, i_iald, i_bald, i_lald, i_aald, i_iast, i_bast, i_last, i_aast, i_goto, i_icmp_eq, i_icmp_ne, i_icmp_lt, i_icmp_ge, i_icmp_gt, i_icmp_le, i_if_eq, i_if_ne, i_if_lt, i_if_ge, i_if_gt, i_if_le, i_ifnonnull, i_getf, i_putf, i_iret, i_zret, i_aret, i_vret, i_new, i_newa, i_anew, i_oinit, i_callv, i_calls, i_calli, i_max, i_min, i_abs, i_copy, i_throw, i_ldcs, pwt, List.getElem?_cons_zero, List.getElem?_cons_succ, List.set_cons_zero, List.set_cons_succ, List.getD_cons_zero, List.getD_cons_succ, List.length_cons, List.length_nil, List.length_set, List.drop_succ_cons, List.drop_zero, List.take_succ_cons, List.take_zero, List.reverse_cons, List.reverse_nil, List.nil_append, List.cons_append, List.append_nil, List.map_cons, List.map_nil, List.sum_cons, List.sum_nil, Value.category, ne_eq, Nat.reduceEqDiff, reduceIte, ite_self, false_implies, true_implies, true_and, and_true, and_self, Nat.zero_le, Nat.le_refl, Nat.reduceLeDiff, Nat.reduceAdd, Nat.reduceLT, Nat.add_zero, Nat.zero_add, pu_eq, not_false_eq_true, not_true_eq_false, forall_const, if_true, if_false, implies_true, c]
    exact fun n' hn => hQ0 (ix_neg (by decide) c) n' hn
  · simp only [i_const, i_load, i_aload, i_store, i_astore, i_inc, i_iadd, i_isub, i_imul, i_idiv, i_irem, i_iand, i_ior, i_ixor, i_ishl, i_ishr, i_iushr, i_ineg, i_i2l, i_i2b, i_i2c, i_lcmp, i_dup, i_dup2, i_pop, i_null, i_alen, i_iald, i_bald, i_lald, i_aald, i_iast, i_bast, i_last, i_aast, i_goto, i_icmp_eq, i_icmp_ne, i_icmp_lt, i_icmp_ge, i_icmp_gt, i_icmp_le, i_if_eq, i_if_ne, i_if_lt, i_if_ge, i_if_gt, i_if_le, i_ifnonnull, i_getf, i_putf, i_iret, i_zret, i_aret, i_vret, i_new, i_newa, i_anew, i_oinit, i_callv, i_calls, i_calli, i_max, i_min, i_abs, i_copy, i_throw, i_ldcs, pwt, List.getElem?_cons_zero, List.getElem?_cons_succ, List.set_cons_zero, List.set_cons_succ, List.getD_cons_zero, List.getD_cons_succ, List.length_cons, List.length_nil, List.length_set, List.drop_succ_cons, List.drop_zero, List.take_succ_cons, List.take_zero, List.reverse_cons, List.reverse_nil, List.nil_append, List.cons_append, List.append_nil, List.map_cons, List.map_nil, List.sum_cons, List.sum_nil, Value.category, ne_eq, Nat.reduceEqDiff, reduceIte, ite_self, false_implies, true_implies, true_and, and_true, and_self, Nat.zero_le, Nat.le_refl, Nat.reduceLeDiff, Nat.reduceAdd, Nat.reduceLT, Nat.add_zero, Nat.zero_add, pu_eq, not_false_eq_true, not_true_eq_false, forall_const, if_true, if_false, implies_true, c]
    refine ⟨fun c2 => hQ1 (ix_of (by decide) c ((le_lt (k := 30) (by decide)).mp c2)), fun c2 => fun n' hn => hQ0 (ix_big (by decide) (fun q => c2 ((le_lt (k := 30) (by decide)).mpr q))) n' hn⟩
end MEMC

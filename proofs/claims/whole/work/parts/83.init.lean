/-! constructors of the class -/
section INIT
variable {E : PE} {M : PM} {d : Nat} {Q : PQ} {h h' : PH} {n n' : Nat} {a b s t x y L ln B sz nx : Nat} {r rb g : AR} {lw lb : Option Nat} {C Cb : Option LawL} {pc : Nat} {f : Nat → Int32} {im wb : Int32} {K : KA}
theorem pu_eq' {h : PH} {a q : Nat} {c : PC} (e : q = a) : pu h a c q = some c := if_pos e
abbrev zI (k : Nat) : PC := .inl (.int, (k, .inl (fun _ => 0)))
/-- only cells from a to b are new or changed -/
def NW (a b : Nat) (h h' : PH) : Prop := ∀ q, (q < a ∨ b ≤ q) → h' q = h q
theorem NW.tr {h'' : PH} {a' b' : Nat} (F : NW a b h h') (G : NW a' b' h' h'') (h1 : a ≤ a') (h2 : b' ≤ b) : NW a b h h'' := fun q hq => (G q (by omega)).trans (F q hq)
theorem NW.pu {c : PC} {q : Nat} (F : NW a b h h') (h1 : a ≤ q) (h2 : q < b) : NW a b h (pu h' q c) := fun p hp => (pu_ne (by omega)).trans (F p hp)
theorem NW.rf : NW a b h h := fun _ _ => rfl
theorem NW.up {a' b' : Nat} (F : NW a b h h') (h1 : a' ≤ a) (h2 : b ≤ b') : NW a' b' h h' := fun q hq => F q (by omega)
theorem c_X10_init (hh : h a = some (.inr (10, [.int 0, .int 0, .int 0, .int 0, .int 0, .null]))) (hQ : ∀ h', TR h' a 0 0 0 0 0 (fun _ => 0) → NW a (a + 2) h h' → Q (.inl none) h' (a + 2)) : pCall E M_X10_init d [.ref a] h (a + 1) Q := by
  refine pCall_of rfl rfl (Nat.le_of_ble_eq_true rfl) (by simp [Value.category]) ?_
  refine b_X10_init_0 _ _ _ ?_
  simp only [pEntry, PM.nL, M_X10_init, List.map_cons, List.map_nil, List.length_cons, List.length_nil, Nat.reduceAdd, Nat.reduceSub, Nat.sub_self, List.replicate_succ, List.replicate_zero, List.cons_append, List.nil_append]
  have p0 : ∀ c : PC, ∀ hh : PH, pu hh (a + 1) c a = hh a := fun c hh => pu_ne (by omega)
  simp only [i_const, i_load, i_aload, i_store, i_astore, i_inc, i_iadd, i_isub, i_imul, i_idiv, i_irem, i_iand, i_ior, i_ixor, i_ishl, i_ishr, i_iushr, i_ineg, i_i2l, i_i2b, i_i2c, i_lcmp, i_dup, i_dup2, i_pop, i_null, i_alen, i_iald, i_bald, i_lald, i_aald, i_iast, i_bast, i_last, i_aast, i_goto, i_icmp_eq, i_icmp_ne, i_icmp_lt, i_icmp_ge, i_icmp_gt, i_icmp_le, i_if_eq, i_if_ne, i_if_lt, i_if_ge, i_if_gt, i_if_le, i_ifnonnull, i_getf, i_putf, i_iret, i_zret, i_aret, i_vret, i_new, i_newa, i_anew, i_oinit, i_callv, i_calls, i_calli, i_max, i_min, i_abs, i_copy, i_throw, i_ldcs, pwt, List.getElem?_cons_zero, List.getElem?_cons_succ, List.set_cons_zero, List.set_cons_succ, List.getD_cons_zero, List.getD_cons_succ, List.length_cons, List.length_nil, List.length_set, List.drop_succ_cons, List.drop_zero, List.take_succ_cons, List.take_zero, List.reverse_cons, List.reverse_nil, List.nil_append, List.cons_append, List.append_nil, List.map_cons, List.map_nil, List.sum_cons, List.sum_nil, Value.category, ne_eq, Nat.reduceEqDiff, reduceIte, ite_self, false_implies, true_implies, true_and, and_true, and_self, Nat.zero_le, Nat.le_refl, Nat.reduceLeDiff, Nat.reduceAdd, Nat.reduceLT, Nat.add_zero, Nat.zero_add, pu_eq, not_false_eq_true, not_true_eq_false, forall_const, if_true, if_false, implies_true, hh, p0, pu_pu]
  repeat refine ⟨by first | exact rfl | decide, ?_⟩
  refine hQ _ ⟨pu_eq _ _ _, ?_⟩ (fun q hq => ?_)
  · rw [pu_ne (by omega), pu_eq]; rfl
  · repeat rw [pu_ne (by omega)]
theorem c_X1_init {b : Nat} (hh : h a = some (.inr (1, [.null]))) (hQ : Q (.inl none) (pu h a (.inr (1, [.ref b]))) n) : pCall E M_X1_init d [.ref a, .ref b] h n Q := by
  refine pCall_of rfl rfl (Nat.le_of_ble_eq_true rfl) (by simp [Value.category]) ?_
  refine b_X1_init_0 _ _ _ ?_
  simp only [pEntry, PM.nL, M_X1_init, List.map_cons, List.map_nil, List.length_cons, List.length_nil, Nat.reduceAdd, Nat.reduceSub, Nat.sub_self, List.replicate_succ, List.replicate_zero, List.cons_append, List.nil_append]
  simp only [i_const, i_load, i_aload, i_store, i_astore, i_inc, i_iadd, i_isub, i_imul, i_idiv, i_irem, i_iand, i_ior, i_ixor, i_ishl, i_ishr, i_iushr, i_ineg, i_i2l, i_i2b, i_i2c, i_lcmp, i_dup, i_dup2, i_pop, i_null, i_alen, i_iald, i_bald, i_lald, i_aald, i_iast, i_bast, i_last, i_aast, i_goto, i_icmp_eq, i_icmp_ne, i_icmp_lt, i_icmp_ge, i_icmp_gt, i_icmp_le, i_if_eq, i_if_ne, i_if_lt, i_if_ge, i_if_gt, i_if_le, i_ifnonnull, i_getf, i_putf, i_iret, i_zret, i_aret, i_vret, i_new, i_newa, i_anew, i_oinit, i_callv, i_calls, i_calli, i_max, i_min, i_abs, i_copy, i_throw, i_ldcs, pwt, List.getElem?_cons_zero, List.getElem?_cons_succ, List.set_cons_zero, List.set_cons_succ, List.getD_cons_zero, List.getD_cons_succ, List.length_cons, List.length_nil, List.length_set, List.drop_succ_cons, List.drop_zero, List.take_succ_cons, List.take_zero, List.reverse_cons, List.reverse_nil, List.nil_append, List.cons_append, List.append_nil, List.map_cons, List.map_nil, List.sum_cons, List.sum_nil, Value.category, ne_eq, Nat.reduceEqDiff, reduceIte, ite_self, false_implies, true_implies, true_and, and_true, and_self, Nat.zero_le, Nat.le_refl, Nat.reduceLeDiff, Nat.reduceAdd, Nat.reduceLT, Nat.add_zero, Nat.zero_add, pu_eq, not_false_eq_true, not_true_eq_false, forall_const, if_true, if_false, implies_true, hh]
  repeat refine ⟨by first | exact rfl | decide, ?_⟩
  exact hQ
theorem c_X4_init {b : Nat} (hh : h a = some (.inr (4, [.null, .null, .int 0, .int 0]))) (hQ : ∀ h', h' a = some (.inr (4, [.ref b, .ref (a + 1), .int 0, .int 0])) → h' (a + 1) = some (zI 436) → NW a (a + 2) h h' → Q (.inl none) h' (a + 2)) : pCall E M_X4_init d [.ref a, .ref b] h (a + 1) Q := by
  refine pCall_of rfl rfl (Nat.le_of_ble_eq_true rfl) (by simp [Value.category]) ?_
  refine b_X4_init_0 _ _ _ ?_
  simp only [pEntry, PM.nL, M_X4_init, List.map_cons, List.map_nil, List.length_cons, List.length_nil, Nat.reduceAdd, Nat.reduceSub, Nat.sub_self, List.replicate_succ, List.replicate_zero, List.cons_append, List.nil_append]
  have p0 : ∀ c : PC, ∀ hh : PH, pu hh (a + 1) c a = hh a := fun c hh => pu_ne (by omega)
  simp only [i_const, i_load, i_aload, i_store, i_astore, i_inc, i_iadd, i_isub, i_imul, i_idiv, i_irem, i_iand, i_ior, i_ixor, i_ishl, i_ishr, i_iushr, i_ineg, i_i2l, i_i2b, i_i2c, i_lcmp, i_dup, i_dup2, i_pop, i_null, i_alen, i_iald, i_bald, i_lald, i_aald, i_iast, i_bast, i_last, i_aast, i_goto, i_icmp_eq, i_icmp_ne, i_icmp_lt, i_icmp_ge, i_icmp_gt, i_icmp_le, i_if_eq, i_if_ne, i_if_lt, i_if_ge, i_if_gt, i_if_le, i_ifnonnull, i_getf, i_putf, i_iret, i_zret, i_aret, i_vret, i_new, i_newa, i_anew, i_oinit, i_callv, i_calls, i_calli, i_max, i_min, i_abs, i_copy, i_throw, i_ldcs, pwt, List.getElem?_cons_zero, List.getElem?_cons_succ, List.set_cons_zero, List.set_cons_succ, List.getD_cons_zero, List.getD_cons_succ, List.length_cons, List.length_nil, List.length_set, List.drop_succ_cons, List.drop_zero, List.take_succ_cons, List.take_zero, List.reverse_cons, List.reverse_nil, List.nil_append, List.cons_append, List.append_nil, List.map_cons, List.map_nil, List.sum_cons, List.sum_nil, Value.category, ne_eq, Nat.reduceEqDiff, reduceIte, ite_self, false_implies, true_implies, true_and, and_true, and_self, Nat.zero_le, Nat.le_refl, Nat.reduceLeDiff, Nat.reduceAdd, Nat.reduceLT, Nat.add_zero, Nat.zero_add, pu_eq, not_false_eq_true, not_true_eq_false, forall_const, if_true, if_false, implies_true, hh, p0, pu_pu]
  repeat refine ⟨by first | exact rfl | decide, ?_⟩
  refine hQ _ (pu_eq _ _ _) ?_ (fun q hq => ?_)
  · rw [pu_ne (by omega), pu_eq]; rfl
  · repeat rw [pu_ne (by omega)]
theorem c_X2_init (hh : h a = some (.inr (2, [.int 0, .null, .null, .null]))) (hQ : ∀ h', h' a = some (.inr (2, [.int 0, .ref (a + 1), .ref (a + 2), .ref (a + 3)])) → (∀ i, i < 3 → h' (a + 1 + i) = some (zI 8)) → NW a (a + 4) h h' → Q (.inl none) h' (a + 4)) : pCall E M_X2_init d [.ref a] h (a + 1) Q := by
  refine pCall_of rfl rfl (Nat.le_of_ble_eq_true rfl) (by simp [Value.category]) ?_
  refine b_X2_init_0 _ _ _ ?_
  simp only [pEntry, PM.nL, M_X2_init, List.map_cons, List.map_nil, List.length_cons, List.length_nil, Nat.reduceAdd, Nat.reduceSub, Nat.sub_self, List.replicate_succ, List.replicate_zero, List.cons_append, List.nil_append]
  have p0 : ∀ c : PC, ∀ hh : PH, pu hh (a + 1) c a = hh a := fun c hh => pu_ne (by omega)
  have p1 : ∀ c : PC, ∀ hh : PH, pu hh (a + 1 + 1) c a = hh a := fun c hh => pu_ne (by omega)
  have p2 : ∀ c : PC, ∀ hh : PH, pu hh (a + 1 + 1 + 1) c a = hh a := fun c hh => pu_ne (by omega)
  simp only [i_const, i_load, i_aload, i_store, i_astore, i_inc, i_iadd, i_isub, i_imul, i_idiv, i_irem, i_iand, i_ior, i_ixor, i_ishl, i_ishr, i_iushr, i_ineg, i_i2l, i_i2b, i_i2c, i_lcmp, i_dup, i_dup2, i_pop, i_null, i_alen, i_iald, i_bald, i_lald, i_aald, i_iast, i_bast, i_last, i_aast, i_goto, i_icmp_eq, i_icmp_ne, i_icmp_lt, i_icmp_ge, i_icmp_gt, i_icmp_le, i_if_eq, i_if_ne, i_if_lt, i_if_ge, i_if_gt, i_if_le, i_ifnonnull, i_getf, i_putf, i_iret, i_zret, i_aret, i_vret, i_new, i_newa, i_anew, i_oinit, i_callv, i_calls, i_calli, i_max, i_min, i_abs, i_copy, i_throw, i_ldcs, pwt, List.getElem?_cons_zero, List.getElem?_cons_succ, List.set_cons_zero, List.set_cons_succ, List.getD_cons_zero, List.getD_cons_succ, List.length_cons, List.length_nil, List.length_set, List.drop_succ_cons, List.drop_zero, List.take_succ_cons, List.take_zero, List.reverse_cons, List.reverse_nil, List.nil_append, List.cons_append, List.append_nil, List.map_cons, List.map_nil, List.sum_cons, List.sum_nil, Value.category, ne_eq, Nat.reduceEqDiff, reduceIte, ite_self, false_implies, true_implies, true_and, and_true, and_self, Nat.zero_le, Nat.le_refl, Nat.reduceLeDiff, Nat.reduceAdd, Nat.reduceLT, Nat.add_zero, Nat.zero_add, pu_eq, not_false_eq_true, not_true_eq_false, forall_const, if_true, if_false, implies_true, hh, p0, p1, p2, pu_pu]
  repeat refine ⟨by first | exact rfl | decide, ?_⟩
  refine hQ _ (pu_eq _ _ _) (fun i hi => ?_) (fun q hq => ?_)
  · have hc : i = 0 ∨ i = 1 ∨ i = 2 := by omega
    rcases hc with rfl | rfl | rfl <;> (repeat first | rw [pu_ne (by omega)] | rw [pu_eq' (by omega)]) <;> rfl
  · repeat rw [pu_ne (by omega)]
theorem c_X7_init (hh : h a = some (.inr (7, [.int 0, .int 0, .null, .null]))) (hQ : ∀ h', h' a = some (.inr (7, [.int 0, .int 0, .ref (a + 1), .ref (a + 2)])) → (∀ i, i < 2 → h' (a + 1 + i) = some (zI 10)) → NW a (a + 3) h h' → Q (.inl none) h' (a + 3)) : pCall E M_X7_init d [.ref a] h (a + 1) Q := by
  refine pCall_of rfl rfl (Nat.le_of_ble_eq_true rfl) (by simp [Value.category]) ?_
  refine b_X7_init_0 _ _ _ ?_
  simp only [pEntry, PM.nL, M_X7_init, List.map_cons, List.map_nil, List.length_cons, List.length_nil, Nat.reduceAdd, Nat.reduceSub, Nat.sub_self, List.replicate_succ, List.replicate_zero, List.cons_append, List.nil_append]
  have p0 : ∀ c : PC, ∀ hh : PH, pu hh (a + 1) c a = hh a := fun c hh => pu_ne (by omega)
  have p1 : ∀ c : PC, ∀ hh : PH, pu hh (a + 1 + 1) c a = hh a := fun c hh => pu_ne (by omega)
  simp only [i_const, i_load, i_aload, i_store, i_astore, i_inc, i_iadd, i_isub, i_imul, i_idiv, i_irem, i_iand, i_ior, i_ixor, i_ishl, i_ishr, i_iushr, i_ineg, i_i2l, i_i2b, i_i2c, i_lcmp, i_dup, i_dup2, i_pop, i_null, i_alen, i_iald, i_bald, i_lald, i_aald, i_iast, i_bast, i_last, i_aast, i_goto, i_icmp_eq, i_icmp_ne, i_icmp_lt, i_icmp_ge, i_icmp_gt, i_icmp_le, i_if_eq, i_if_ne, i_if_lt, i_if_ge, i_if_gt, i_if_le, i_ifnonnull, i_getf, i_putf, i_iret, i_zret, i_aret, i_vret, i_new, i_newa, i_anew, i_oinit, i_callv, i_calls, i_calli, i_max, i_min, i_abs, i_copy, i_throw, i_ldcs, pwt, List.getElem?_cons_zero, List.getElem?_cons_succ, List.set_cons_zero, List.set_cons_succ, List.getD_cons_zero, List.getD_cons_succ, List.length_cons, List.length_nil, List.length_set, List.drop_succ_cons, List.drop_zero, List.take_succ_cons, List.take_zero, List.reverse_cons, List.reverse_nil, List.nil_append, List.cons_append, List.append_nil, List.map_cons, List.map_nil, List.sum_cons, List.sum_nil, Value.category, ne_eq, Nat.reduceEqDiff, reduceIte, ite_self, false_implies, true_implies, true_and, and_true, and_self, Nat.zero_le, Nat.le_refl, Nat.reduceLeDiff, Nat.reduceAdd, Nat.reduceLT, Nat.add_zero, Nat.zero_add, pu_eq, not_false_eq_true, not_true_eq_false, forall_const, if_true, if_false, implies_true, hh, p0, p1, pu_pu]
  repeat refine ⟨by first | exact rfl | decide, ?_⟩
  refine hQ _ (pu_eq _ _ _) (fun i hi => ?_) (fun q hq => ?_)
  · have hc : i = 0 ∨ i = 1 := by omega
    rcases hc with rfl | rfl <;> (repeat first | rw [pu_ne (by omega)] | rw [pu_eq' (by omega)]) <;> rfl
  · repeat rw [pu_ne (by omega)]
theorem c_X8_init (hh : h a = some (.inr (8, [.int 0, .null, .null, .null, .null, .null, .null, .null, .null]))) (hQ : ∀ h', h' a = some (.inr (8, [.int 0, .ref (a + 1), .ref (a + 2), .ref (a + 3), .ref (a + 4), .ref (a + 5), .ref (a + 6), .ref (a + 7), .ref (a + 8)])) → (∀ i, i < 8 → h' (a + 1 + i) = some (zI 24)) → NW a (a + 9) h h' → Q (.inl none) h' (a + 9)) : pCall E M_X8_init d [.ref a] h (a + 1) Q := by
  refine pCall_of rfl rfl (Nat.le_of_ble_eq_true rfl) (by simp [Value.category]) ?_
  refine b_X8_init_0 _ _ _ ?_
  simp only [pEntry, PM.nL, M_X8_init, List.map_cons, List.map_nil, List.length_cons, List.length_nil, Nat.reduceAdd, Nat.reduceSub, Nat.sub_self, List.replicate_succ, List.replicate_zero, List.cons_append, List.nil_append]
  have p0 : ∀ c : PC, ∀ hh : PH, pu hh (a + 1) c a = hh a := fun c hh => pu_ne (by omega)
  have p1 : ∀ c : PC, ∀ hh : PH, pu hh (a + 1 + 1) c a = hh a := fun c hh => pu_ne (by omega)
  have p2 : ∀ c : PC, ∀ hh : PH, pu hh (a + 1 + 1 + 1) c a = hh a := fun c hh => pu_ne (by omega)
  have p3 : ∀ c : PC, ∀ hh : PH, pu hh (a + 1 + 1 + 1 + 1) c a = hh a := fun c hh => pu_ne (by omega)
  have p4 : ∀ c : PC, ∀ hh : PH, pu hh (a + 1 + 1 + 1 + 1 + 1) c a = hh a := fun c hh => pu_ne (by omega)
  have p5 : ∀ c : PC, ∀ hh : PH, pu hh (a + 1 + 1 + 1 + 1 + 1 + 1) c a = hh a := fun c hh => pu_ne (by omega)
  have p6 : ∀ c : PC, ∀ hh : PH, pu hh (a + 1 + 1 + 1 + 1 + 1 + 1 + 1) c a = hh a := fun c hh => pu_ne (by omega)
  have p7 : ∀ c : PC, ∀ hh : PH, pu hh (a + 1 + 1 + 1 + 1 + 1 + 1 + 1 + 1) c a = hh a := fun c hh => pu_ne (by omega)
  simp only [i_const, i_load, i_aload, i_store, i_astore, i_inc, i_iadd, i_isub, i_imul, i_idiv, i_irem, i_iand, i_ior, i_ixor, i_ishl, i_ishr, i_iushr, i_ineg, i_i2l, i_i2b, i_i2c, i_lcmp, i_dup, i_dup2, i_pop, i_null, i_alen, i_iald, i_bald, i_lald, i_aald, i_iast, i_bast, i_last, i_aast, i_goto, i_icmp_eq, i_icmp_ne, i_icmp_lt, i_icmp_ge, i_icmp_gt, i_icmp_le, i_if_eq, i_if_ne, i_if_lt, i_if_ge, i_if_gt, i_if_le, i_ifnonnull, i_getf, i_putf, i_iret, i_zret, i_aret, i_vret, i_new, i_newa, i_anew, i_oinit, i_callv, i_calls, i_calli, i_max, i_min, i_abs, i_copy, i_throw, i_ldcs, pwt, List.getElem?_cons_zero, List.getElem?_cons_succ, List.set_cons_zero, List.set_cons_succ, List.getD_cons_zero, List.getD_cons_succ, List.length_cons, List.length_nil, List.length_set, List.drop_succ_cons, List.drop_zero, List.take_succ_cons, List.take_zero, List.reverse_cons, List.reverse_nil, List.nil_append, List.cons_append, List.append_nil, List.map_cons, List.map_nil, List.sum_cons, List.sum_nil, Value.category, ne_eq, Nat.reduceEqDiff, reduceIte, ite_self, false_implies, true_implies, true_and, and_true, and_self, Nat.zero_le, Nat.le_refl, Nat.reduceLeDiff, Nat.reduceAdd, Nat.reduceLT, Nat.add_zero, Nat.zero_add, pu_eq, not_false_eq_true, not_true_eq_false, forall_const, if_true, if_false, implies_true, hh, p0, p1, p2, p3, p4, p5, p6, p7, pu_pu]
  repeat refine ⟨by first | exact rfl | decide, ?_⟩
  refine hQ _ (pu_eq _ _ _) (fun i hi => ?_) (fun q hq => ?_)
  · have hc : i = 0 ∨ i = 1 ∨ i = 2 ∨ i = 3 ∨ i = 4 ∨ i = 5 ∨ i = 6 ∨ i = 7 := by omega
    rcases hc with rfl | rfl | rfl | rfl | rfl | rfl | rfl | rfl <;> (repeat first | rw [pu_ne (by omega)] | rw [pu_eq' (by omega)]) <;> rfl
  · repeat rw [pu_ne (by omega)]
theorem c_X5_init (hh : h a = some (.inr (5, [.int 0, .int 0, .null]))) (hQ : ∀ h', h' a = some (.inr (5, [.int 0, .int 0, .ref (a + 1)])) → h' (a + 1) = some (zI 300) → NW a (a + 2) h h' → Q (.inl none) h' (a + 2)) : pCall E M_X5_init d [.ref a] h (a + 1) Q := by
  refine pCall_of rfl rfl (Nat.le_of_ble_eq_true rfl) (by simp [Value.category]) ?_
  refine b_X5_init_0 _ _ _ ?_
  simp only [pEntry, PM.nL, M_X5_init, List.map_cons, List.map_nil, List.length_cons, List.length_nil, Nat.reduceAdd, Nat.reduceSub, Nat.sub_self, List.replicate_succ, List.replicate_zero, List.cons_append, List.nil_append]
  have p0 : ∀ c : PC, ∀ hh : PH, pu hh (a + 1) c a = hh a := fun c hh => pu_ne (by omega)
  simp only [i_const, i_load, i_aload, i_store, i_astore, i_inc, i_iadd, i_isub, i_imul, i_idiv, i_irem, i_iand, i_ior, i_ixor, i_ishl, i_ishr, i_iushr, i_ineg, i_i2l, i_i2b, i_i2c, i_lcmp, i_dup, i_dup2, i_pop, i_null, i_alen, i_iald, i_bald, i_lald, i_aald, i_iast, i_bast, i_last, i_aast, i_goto, i_icmp_eq, i_icmp_ne, i_icmp_lt, i_icmp_ge, i_icmp_gt, i_icmp_le, i_if_eq, i_if_ne, i_if_lt, i_if_ge, i_if_gt, i_if_le, i_ifnonnull, i_getf, i_putf, i_iret, i_zret, i_aret, i_vret, i_new, i_newa, i_anew, i_oinit, i_callv, i_calls, i_calli, i_max, i_min, i_abs, i_copy, i_throw, i_ldcs, pwt, List.getElem?_cons_zero, List.getElem?_cons_succ, List.set_cons_zero, List.set_cons_succ, List.getD_cons_zero, List.getD_cons_succ, List.length_cons, List.length_nil, List.length_set, List.drop_succ_cons, List.drop_zero, List.take_succ_cons, List.take_zero, List.reverse_cons, List.reverse_nil, List.nil_append, List.cons_append, List.append_nil, List.map_cons, List.map_nil, List.sum_cons, List.sum_nil, Value.category, ne_eq, Nat.reduceEqDiff, reduceIte, ite_self, false_implies, true_implies, true_and, and_true, and_self, Nat.zero_le, Nat.le_refl, Nat.reduceLeDiff, Nat.reduceAdd, Nat.reduceLT, Nat.add_zero, Nat.zero_add, pu_eq, not_false_eq_true, not_true_eq_false, forall_const, if_true, if_false, implies_true, hh, p0, pu_pu]
  repeat refine ⟨by first | exact rfl | decide, ?_⟩
  refine hQ _ (pu_eq _ _ _) ?_ (fun q hq => ?_)
  · rw [pu_ne (by omega), pu_eq]; rfl
  · repeat rw [pu_ne (by omega)]
theorem c_X9_init (hh : h a = some (.inr (9, [.null, .null, .int 0, .null, .null, .null, .null, .null, .int 0, .int 0]))) (hQ : ∀ h' g, SA h' a g → NW a (a + 8) h h' → Q (.inl none) h' (a + 8)) : pCall E M_X9_init d [.ref a] h (a + 1) Q := by
  refine pCall_of rfl rfl (Nat.le_of_ble_eq_true rfl) (by simp [Value.category]) ?_
  refine b_X9_init_0 _ _ _ ?_
  simp only [pEntry, PM.nL, M_X9_init, List.map_cons, List.map_nil, List.length_cons, List.length_nil, Nat.reduceAdd, Nat.reduceSub, Nat.sub_self, List.replicate_succ, List.replicate_zero, List.cons_append, List.nil_append]
  have p0 : ∀ c : PC, ∀ hh : PH, pu hh (a + 1) c a = hh a := fun c hh => pu_ne (by omega)
  have p1 : ∀ c : PC, ∀ hh : PH, pu hh (a + 1 + 1) c a = hh a := fun c hh => pu_ne (by omega)
  have p2 : ∀ c : PC, ∀ hh : PH, pu hh (a + 1 + 1 + 1) c a = hh a := fun c hh => pu_ne (by omega)
  have p3 : ∀ c : PC, ∀ hh : PH, pu hh (a + 1 + 1 + 1 + 1) c a = hh a := fun c hh => pu_ne (by omega)
  have p4 : ∀ c : PC, ∀ hh : PH, pu hh (a + 1 + 1 + 1 + 1 + 1) c a = hh a := fun c hh => pu_ne (by omega)
  have p5 : ∀ c : PC, ∀ hh : PH, pu hh (a + 1 + 1 + 1 + 1 + 1 + 1) c a = hh a := fun c hh => pu_ne (by omega)
  have p6 : ∀ c : PC, ∀ hh : PH, pu hh (a + 1 + 1 + 1 + 1 + 1 + 1 + 1) c a = hh a := fun c hh => pu_ne (by omega)
  simp only [i_const, i_load, i_aload, i_store, i_astore, i_inc, i_iadd, i_isub, i_imul, i_idiv, i_irem, i_iand, i_ior, i_ixor, i_ishl, i_ishr, i_iushr, i_ineg, i_i2l, i_i2b, i_i2c, i_lcmp, i_dup, i_dup2, i_pop, i_null, i_alen, i_iald, i_bald, i_lald, i_aald, i_iast, i_bast, i_last, i_aast, i_goto, i_icmp_eq, i_icmp_ne, i_icmp_lt, i_icmp_ge, i_icmp_gt, i_icmp_le, i_if_eq, i_if_ne, i_if_lt, i_if_ge, i_if_gt, i_if_le, i_ifnonnull, i_getf, i_putf, i_iret, i_zret, i_aret, i_vret, i_new, i_newa, i_anew, i_oinit, i_callv, i_calls, i_calli, i_max, i_min, i_abs, i_copy, i_throw, i_ldcs, pwt, List.getElem?_cons_zero, List.getElem?_cons_succ, List.set_cons_zero, List.set_cons_succ, List.getD_cons_zero, List.getD_cons_succ, List.length_cons, List.length_nil, List.length_set, List.drop_succ_cons, List.drop_zero, List.take_succ_cons, List.take_zero, List.reverse_cons, List.reverse_nil, List.nil_append, List.cons_append, List.append_nil, List.map_cons, List.map_nil, List.sum_cons, List.sum_nil, Value.category, ne_eq, Nat.reduceEqDiff, reduceIte, ite_self, false_implies, true_implies, true_and, and_true, and_self, Nat.zero_le, Nat.le_refl, Nat.reduceLeDiff, Nat.reduceAdd, Nat.reduceLT, Nat.add_zero, Nat.zero_add, pu_eq, not_false_eq_true, not_true_eq_false, forall_const, if_true, if_false, implies_true, hh, p0, p1, p2, p3, p4, p5, p6, pu_pu]
  repeat refine ⟨by first | exact rfl | decide, ?_⟩
  refine hQ _ (fun k j => if k = 0 ∧ (j = 8 ∨ j = 9) then -1 else 0) (fun i hi => ?_) (fun q hq => ?_)
  · have hc : i = 0 ∨ i = 1 ∨ i = 2 ∨ i = 3 ∨ i = 4 ∨ i = 5 ∨ i = 6 ∨ i = 7 := by omega
    rcases hc with rfl | rfl | rfl | rfl | rfl | rfl | rfl | rfl <;> (repeat first | rw [pu_ne (by omega)] | rw [pu_eq' (by omega)]) <;> rfl
  · repeat rw [pu_ne (by omega)]
def r0 : AR := fun k => match k with
  | 0 => fun j => if j = 6 then 1 else 0
  | _ => fun _ => 0
theorem c_X0_init (hh : h a = some (.inr (0, [.null, .null, .null, .null, .null, .int 0, .int 0, .int 0, .null]))) (hQ : ∀ h', AA h' a r0 none → NW a (a + 20) h h' → Q (.inl none) h' (a + 20)) : pCall E M_X0_init (d + 1) [.ref a] h (a + 1) Q := by
  refine pCall_of rfl rfl (Nat.le_of_ble_eq_true rfl) (by simp [Value.category]) ?_
  refine b_X0_init_0 _ _ _ ?_
  simp only [pEntry, PM.nL, M_X0_init, List.map_cons, List.map_nil, List.length_cons, List.length_nil, Nat.reduceAdd, Nat.reduceSub, Nat.sub_self, List.replicate_succ, List.replicate_zero, List.cons_append, List.nil_append]
  simp only [i_const, i_load, i_aload, i_store, i_astore, i_inc, i_iadd, i_isub, i_imul, i_idiv, i_irem, i_iand, i_ior, i_ixor, i_ishl, i_ishr, i_iushr, i_ineg, i_i2l, i_i2b, i_i2c, i_lcmp, i_dup, i_dup2, i_pop, i_null, i_alen, i_iald, i_bald, i_lald, i_aald, i_iast, i_bast, i_last, i_aast, i_goto, i_icmp_eq, i_icmp_ne, i_icmp_lt, i_icmp_ge, i_icmp_gt, i_icmp_le, i_if_eq, i_if_ne, i_if_lt, i_if_ge, i_if_gt, i_if_le, i_ifnonnull, i_getf, i_putf, i_iret, i_zret, i_aret, i_vret, i_new, i_newa, i_anew, i_oinit, i_callv, i_calls, i_calli, i_max, i_min, i_abs, i_copy, i_throw, i_ldcs, pwt, List.getElem?_cons_zero, List.getElem?_cons_succ, List.set_cons_zero, List.set_cons_succ, List.getD_cons_zero, List.getD_cons_succ, List.length_cons, List.length_nil, List.length_set, List.drop_succ_cons, List.drop_zero, List.take_succ_cons, List.take_zero, List.reverse_cons, List.reverse_nil, List.nil_append, List.cons_append, List.append_nil, List.map_cons, List.map_nil, List.sum_cons, List.sum_nil, Value.category, ne_eq, Nat.reduceEqDiff, reduceIte, ite_self, false_implies, true_implies, true_and, and_true, and_self, Nat.zero_le, Nat.le_refl, Nat.reduceLeDiff, Nat.reduceAdd, Nat.reduceLT, Nat.add_zero, Nat.zero_add, pu_eq, not_false_eq_true, not_true_eq_false, forall_const, if_true, if_false, implies_true, hh]
  repeat refine ⟨by first | exact rfl | decide, ?_⟩
  refine c_X2_init (pu_eq _ _ _) (fun h1 a1 b1 N1 => ?_)
  have o1 : h1 a = _ := (N1 a (by omega)).trans ((pu_ne (by omega)).trans hh)
  have q1 : ∀ c : PC, ∀ hh : PH, pu hh (a + 1 + 4) c a = hh a := fun c hh => pu_ne (by omega)
  simp only [i_const, i_load, i_aload, i_store, i_astore, i_inc, i_iadd, i_isub, i_imul, i_idiv, i_irem, i_iand, i_ior, i_ixor, i_ishl, i_ishr, i_iushr, i_ineg, i_i2l, i_i2b, i_i2c, i_lcmp, i_dup, i_dup2, i_pop, i_null, i_alen, i_iald, i_bald, i_lald, i_aald, i_iast, i_bast, i_last, i_aast, i_goto, i_icmp_eq, i_icmp_ne, i_icmp_lt, i_icmp_ge, i_icmp_gt, i_icmp_le, i_if_eq, i_if_ne, i_if_lt, i_if_ge, i_if_gt, i_if_le, i_ifnonnull, i_getf, i_putf, i_iret, i_zret, i_aret, i_vret, i_new, i_newa, i_anew, i_oinit, i_callv, i_calls, i_calli, i_max, i_min, i_abs, i_copy, i_throw, i_ldcs, pwt, List.getElem?_cons_zero, List.getElem?_cons_succ, List.set_cons_zero, List.set_cons_succ, List.getD_cons_zero, List.getD_cons_succ, List.length_cons, List.length_nil, List.length_set, List.drop_succ_cons, List.drop_zero, List.take_succ_cons, List.take_zero, List.reverse_cons, List.reverse_nil, List.nil_append, List.cons_append, List.append_nil, List.map_cons, List.map_nil, List.sum_cons, List.sum_nil, Value.category, ne_eq, Nat.reduceEqDiff, reduceIte, ite_self, false_implies, true_implies, true_and, and_true, and_self, Nat.zero_le, Nat.le_refl, Nat.reduceLeDiff, Nat.reduceAdd, Nat.reduceLT, Nat.add_zero, Nat.zero_add, pu_eq, not_false_eq_true, not_true_eq_false, forall_const, if_true, if_false, implies_true, pRetI, o1, q1]
  repeat refine ⟨by first | exact rfl | decide, ?_⟩
  refine c_X7_init (a := a + 1 + 4) (pu_eq _ _ _) (fun h2 a2 b2 N2 => ?_)
  have o2 : h2 a = _ := (N2 a (by omega)).trans ((pu_ne (by omega)).trans (pu_eq _ _ _))
  simp only [i_const, i_load, i_aload, i_store, i_astore, i_inc, i_iadd, i_isub, i_imul, i_idiv, i_irem, i_iand, i_ior, i_ixor, i_ishl, i_ishr, i_iushr, i_ineg, i_i2l, i_i2b, i_i2c, i_lcmp, i_dup, i_dup2, i_pop, i_null, i_alen, i_iald, i_bald, i_lald, i_aald, i_iast, i_bast, i_last, i_aast, i_goto, i_icmp_eq, i_icmp_ne, i_icmp_lt, i_icmp_ge, i_icmp_gt, i_icmp_le, i_if_eq, i_if_ne, i_if_lt, i_if_ge, i_if_gt, i_if_le, i_ifnonnull, i_getf, i_putf, i_iret, i_zret, i_aret, i_vret, i_new, i_newa, i_anew, i_oinit, i_callv, i_calls, i_calli, i_max, i_min, i_abs, i_copy, i_throw, i_ldcs, pwt, List.getElem?_cons_zero, List.getElem?_cons_succ, List.set_cons_zero, List.set_cons_succ, List.getD_cons_zero, List.getD_cons_succ, List.length_cons, List.length_nil, List.length_set, List.drop_succ_cons, List.drop_zero, List.take_succ_cons, List.take_zero, List.reverse_cons, List.reverse_nil, List.nil_append, List.cons_append, List.append_nil, List.map_cons, List.map_nil, List.sum_cons, List.sum_nil, Value.category, ne_eq, Nat.reduceEqDiff, reduceIte, ite_self, false_implies, true_implies, true_and, and_true, and_self, Nat.zero_le, Nat.le_refl, Nat.reduceLeDiff, Nat.reduceAdd, Nat.reduceLT, Nat.add_zero, Nat.zero_add, pu_eq, not_false_eq_true, not_true_eq_false, forall_const, if_true, if_false, implies_true, pRetI, o2]
  repeat refine ⟨by first | exact rfl | decide, ?_⟩
  refine c_X8_init (a := a + 1 + 4 + 3) (pu_eq _ _ _) (fun h3 a3 b3 N3 => ?_)
  have o3 : h3 a = _ := (N3 a (by omega)).trans ((pu_ne (by omega)).trans (pu_eq _ _ _))
  simp only [i_const, i_load, i_aload, i_store, i_astore, i_inc, i_iadd, i_isub, i_imul, i_idiv, i_irem, i_iand, i_ior, i_ixor, i_ishl, i_ishr, i_iushr, i_ineg, i_i2l, i_i2b, i_i2c, i_lcmp, i_dup, i_dup2, i_pop, i_null, i_alen, i_iald, i_bald, i_lald, i_aald, i_iast, i_bast, i_last, i_aast, i_goto, i_icmp_eq, i_icmp_ne, i_icmp_lt, i_icmp_ge, i_icmp_gt, i_icmp_le, i_if_eq, i_if_ne, i_if_lt, i_if_ge, i_if_gt, i_if_le, i_ifnonnull, i_getf, i_putf, i_iret, i_zret, i_aret, i_vret, i_new, i_newa, i_anew, i_oinit, i_callv, i_calls, i_calli, i_max, i_min, i_abs, i_copy, i_throw, i_ldcs, pwt, List.getElem?_cons_zero, List.getElem?_cons_succ, List.set_cons_zero, List.set_cons_succ, List.getD_cons_zero, List.getD_cons_succ, List.length_cons, List.length_nil, List.length_set, List.drop_succ_cons, List.drop_zero, List.take_succ_cons, List.take_zero, List.reverse_cons, List.reverse_nil, List.nil_append, List.cons_append, List.append_nil, List.map_cons, List.map_nil, List.sum_cons, List.sum_nil, Value.category, ne_eq, Nat.reduceEqDiff, reduceIte, ite_self, false_implies, true_implies, true_and, and_true, and_self, Nat.zero_le, Nat.le_refl, Nat.reduceLeDiff, Nat.reduceAdd, Nat.reduceLT, Nat.add_zero, Nat.zero_add, pu_eq, not_false_eq_true, not_true_eq_false, forall_const, if_true, if_false, implies_true, pRetI, o3]
  repeat refine ⟨by first | exact rfl | decide, ?_⟩
  refine c_X5_init (a := a + 1 + 4 + 3 + 9) (pu_eq _ _ _) (fun h4 a4 b4 N4 => ?_)
  have o4 : h4 a = _ := (N4 a (by omega)).trans ((pu_ne (by omega)).trans (pu_eq _ _ _))
  have q4 : ∀ c : PC, ∀ hh : PH, pu hh (a + 1 + 4 + 3 + 9 + 2) c a = hh a := fun c hh => pu_ne (by omega)
  simp only [i_const, i_load, i_aload, i_store, i_astore, i_inc, i_iadd, i_isub, i_imul, i_idiv, i_irem, i_iand, i_ior, i_ixor, i_ishl, i_ishr, i_iushr, i_ineg, i_i2l, i_i2b, i_i2c, i_lcmp, i_dup, i_dup2, i_pop, i_null, i_alen, i_iald, i_bald, i_lald, i_aald, i_iast, i_bast, i_last, i_aast, i_goto, i_icmp_eq, i_icmp_ne, i_icmp_lt, i_icmp_ge, i_icmp_gt, i_icmp_le, i_if_eq, i_if_ne, i_if_lt, i_if_ge, i_if_gt, i_if_le, i_ifnonnull, i_getf, i_putf, i_iret, i_zret, i_aret, i_vret, i_new, i_newa, i_anew, i_oinit, i_callv, i_calls, i_calli, i_max, i_min, i_abs, i_copy, i_throw, i_ldcs, pwt, List.getElem?_cons_zero, List.getElem?_cons_succ, List.set_cons_zero, List.set_cons_succ, List.getD_cons_zero, List.getD_cons_succ, List.length_cons, List.length_nil, List.length_set, List.drop_succ_cons, List.drop_zero, List.take_succ_cons, List.take_zero, List.reverse_cons, List.reverse_nil, List.nil_append, List.cons_append, List.append_nil, List.map_cons, List.map_nil, List.sum_cons, List.sum_nil, Value.category, ne_eq, Nat.reduceEqDiff, reduceIte, ite_self, false_implies, true_implies, true_and, and_true, and_self, Nat.zero_le, Nat.le_refl, Nat.reduceLeDiff, Nat.reduceAdd, Nat.reduceLT, Nat.add_zero, Nat.zero_add, pu_eq, not_false_eq_true, not_true_eq_false, forall_const, if_true, if_false, implies_true, pRetI, o4, q4, pu_pu]
  repeat refine ⟨by first | exact rfl | decide, ?_⟩
  refine hQ _ ?_ ?_
  · have z : ∀ q, q ≠ a → q < a + 19 → ∀ c c' c'' : PC, pu (pu (pu h4 a c) (a + 1 + 4 + 3 + 9 + 2) c') a c'' q = h4 q := fun q h1 h2 c c' c'' => by rw [pu_ne h1, pu_ne (by omega), pu_ne h1]
    have t4 : ∀ q, q ≠ a → q < a + 17 → h4 q = h3 q := fun q z1 z2 => (N4 q (by omega)).trans ((pu_ne (by omega)).trans (pu_ne z1))
    have t3 : ∀ q, q ≠ a → q < a + 8 → h3 q = h2 q := fun q z1 z2 => (N3 q (by omega)).trans ((pu_ne (by omega)).trans (pu_ne z1))
    have t2 : ∀ q, q ≠ a → q < a + 5 → h2 q = h1 q := fun q z1 z2 => (N2 q (by omega)).trans ((pu_ne (by omega)).trans (pu_ne z1))
    intro k hk
    match k, hk with
    | 0, _ => exact pu_eq _ _ _
    | 1, _ => rw [z _ (by omega) (by omega), t4 _ (by omega) (by omega), t3 _ (by omega) (by omega), t2 _ (by omega) (by omega)]; exact a1
    | 2, _ => rw [z _ (by omega) (by omega), t4 _ (by omega) (by omega), t3 _ (by omega) (by omega), t2 _ (by omega) (by omega)]; exact b1 0 (by decide)
    | 3, _ => rw [z _ (by omega) (by omega), t4 _ (by omega) (by omega), t3 _ (by omega) (by omega), t2 _ (by omega) (by omega)]; exact b1 1 (by decide)
    | 4, _ => rw [z _ (by omega) (by omega), t4 _ (by omega) (by omega), t3 _ (by omega) (by omega), t2 _ (by omega) (by omega)]; exact b1 2 (by decide)
    | 5, _ => rw [z _ (by omega) (by omega), t4 _ (by omega) (by omega), t3 _ (by omega) (by omega)]; exact a2
    | 6, _ => rw [z _ (by omega) (by omega), t4 _ (by omega) (by omega), t3 _ (by omega) (by omega)]; exact b2 0 (by decide)
    | 7, _ => rw [z _ (by omega) (by omega), t4 _ (by omega) (by omega), t3 _ (by omega) (by omega)]; exact b2 1 (by decide)
    | 8, _ => rw [z _ (by omega) (by omega), t4 _ (by omega) (by omega)]; exact a3
    | 9, _ => rw [z _ (by omega) (by omega), t4 _ (by omega) (by omega)]; exact b3 0 (by decide)
    | 10, _ => rw [z _ (by omega) (by omega), t4 _ (by omega) (by omega)]; exact b3 1 (by decide)
    | 11, _ => rw [z _ (by omega) (by omega), t4 _ (by omega) (by omega)]; exact b3 2 (by decide)
    | 12, _ => rw [z _ (by omega) (by omega), t4 _ (by omega) (by omega)]; exact b3 3 (by decide)
    | 13, _ => rw [z _ (by omega) (by omega), t4 _ (by omega) (by omega)]; exact b3 4 (by decide)
    | 14, _ => rw [z _ (by omega) (by omega), t4 _ (by omega) (by omega)]; exact b3 5 (by decide)
    | 15, _ => rw [z _ (by omega) (by omega), t4 _ (by omega) (by omega)]; exact b3 6 (by decide)
    | 16, _ => rw [z _ (by omega) (by omega), t4 _ (by omega) (by omega)]; exact b3 7 (by decide)
    | 17, _ => rw [z _ (by omega) (by omega)]; exact a4
    | 18, _ => rw [z _ (by omega) (by omega)]; exact b4
    | 19, _ => rw [pu_ne (by omega)]; exact pu_eq _ _ _
    | k + 20, hk => exact absurd hk (by omega)
  · intro q hq
    rw [pu_ne (by omega), pu_ne (by omega), pu_ne (by omega), N4 q (by omega), pu_ne (by omega), pu_ne (by omega), N3 q (by omega), pu_ne (by omega), pu_ne (by omega), N2 q (by omega), pu_ne (by omega), pu_ne (by omega), N1 q (by omega), pu_ne (by omega)]
end INIT

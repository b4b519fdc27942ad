/-! the reference: an army is read -/
section MARMY
variable {E : PE} {M : PM} {d : Nat} {Q : PQ} {h h' : PH} {n : Nat} {m a : Nat} {w : AR} {r : AR} {C : Option LawL} {pc : Nat} {L p b e j : Nat} {cs : List Nat} {s : Nat}
theorem nI_ex (x : Int32) : ∃ k, x = nI k := ⟨x.toBitVec.toNat, by
  apply Int32.toBitVec_inj.mp
  show x.toBitVec = BitVec.ofNat 32 x.toBitVec.toNat
  rw [BitVec.ofNat_toNat, BitVec.setWidth_eq]⟩
/-- the reading begins -/
def ua (w : AR) : AR := ru (us w) 0 16 0
theorem ua_k {k : Nat} (hk : k ≠ 0) : ua w k = w k := by unfold ua us; rw [ru_ne hk, ru_ne hk, ru_ne hk, ru_ne hk, ru_ne hk]
theorem ua_i {i : Nat} (h0 : i ≠ 0) (h9 : i ≠ 9) (h10 : i ≠ 10) (h11 : i ≠ 11) (h16 : i ≠ 16) : ua w 0 i = w 0 i := by unfold ua us; rw [ru_eq, upd_ne h16, ru_eq, upd_ne h10, ru_eq, upd_ne h9, ru_eq, upd_ne h11, ru_eq, upd_ne h0]
theorem ua_pp (hb : w 0 12 = nI b) : ua w = pp (ua w) 0 b := by
  funext k
  by_cases c : k = 0
  · subst c
    funext i
    by_cases c1 : i = 12
    · subst c1; rw [pp12]; exact hb
    · by_cases c2 : i = 10
      · subst c2; rfl
      · rw [pp_i c2 c1]
  · rw [pp_k c]
theorem c_X12_readAll1 (hE : EC E) (X : MX h m w) (hT : w 0 9 = nI L) (hL4 : L ≤ 400) (R : RW (w 1) r C) (A : WA r) (hQ : TQ Q n m 0 h (ua w) r C (arP (w 6) L (cl r 1 0, cl r 5 0, cl r 8 0))) : pCall E M_X12_readAll (d + 9) [.ref m, .int 1] h n Q := by
  refine pCall_of rfl rfl (Nat.le_of_ble_eq_true rfl) (by simp [Value.category]) ?_
  refine b_X12_readAll_0 _ _ _ ?_
  simp only [pEntry, PM.nL, M_X12_readAll, List.map_cons, List.map_nil, List.length_cons, List.length_nil, Nat.reduceAdd, Nat.reduceSub, Nat.sub_self, List.replicate_succ, List.replicate_zero, List.cons_append, List.nil_append]
  simp only [i_const, i_load, i_aload, i_store, i_astore, i_inc, i_iadd, i_isub, i_imul, i_idiv, i_irem, i_iand, i_ior, i_ixor, i_ishl, i_ishr, i_iushr, i_ineg, i_i2l, i_i2b, i_i2c, i_lcmp, i_dup, i_dup2, i_pop, i_null, i_alen, i_iald, i_bald, i_lald, i_aald, i_iast, i_bast, i_last, i_aast, i_goto, i_icmp_eq, i_icmp_ne, i_icmp_lt, i_icmp_ge, i_icmp_gt, i_icmp_le, i_if_eq, i_if_ne, i_if_lt, i_if_ge, i_if_gt, i_if_le, i_ifnonnull, i_getf, i_putf, i_iret, i_zret, i_aret, i_vret, i_new, i_newa, i_anew, i_oinit, i_callv, i_calls, i_calli, i_max, i_min, i_abs, i_copy, i_throw, i_ldcs, pwt, List.getElem?_cons_zero, List.getElem?_cons_succ, List.set_cons_zero, List.set_cons_succ, List.getD_cons_zero, List.getD_cons_succ, List.length_cons, List.length_nil, List.length_set, List.drop_succ_cons, List.drop_zero, List.take_succ_cons, List.take_zero, List.reverse_cons, List.reverse_nil, List.nil_append, List.cons_append, List.append_nil, List.map_cons, List.map_nil, List.sum_cons, List.sum_nil, Value.category, ne_eq, Nat.reduceEqDiff, reduceIte, ite_self, false_implies, true_implies, true_and, and_true, and_self, Nat.zero_le, Nat.le_refl, Nat.reduceLeDiff, Nat.reduceAdd, Nat.reduceLT, Nat.add_zero, Nat.zero_add, pu_eq, not_false_eq_true, not_true_eq_false, forall_const, if_true, if_false, implies_true, X.f0]
  refine c_X12_uses X (fun h1 X1 F1 => ?_)
  obtain ⟨X2, F2⟩ := X1.set (k := 0) (i := 16) (by decide) (by decide) 0
  obtain ⟨b0, hb0⟩ := nI_ex (w 0 12)
  have X2' : MX _ m (ua w) := X2
  rw [ua_pp hb0] at X2'
  have h11 : ua w 0 11 = nI L := hT
  have h6 : ua w 6 = w 6 := ua_k (by decide)
  simp only [i_const, i_load, i_aload, i_store, i_astore, i_inc, i_iadd, i_isub, i_imul, i_idiv, i_irem, i_iand, i_ior, i_ixor, i_ishl, i_ishr, i_iushr, i_ineg, i_i2l, i_i2b, i_i2c, i_lcmp, i_dup, i_dup2, i_pop, i_null, i_alen, i_iald, i_bald, i_lald, i_aald, i_iast, i_bast, i_last, i_aast, i_goto, i_icmp_eq, i_icmp_ne, i_icmp_lt, i_icmp_ge, i_icmp_gt, i_icmp_le, i_if_eq, i_if_ne, i_if_lt, i_if_ge, i_if_gt, i_if_le, i_ifnonnull, i_getf, i_putf, i_iret, i_zret, i_aret, i_vret, i_new, i_newa, i_anew, i_oinit, i_callv, i_calls, i_calli, i_max, i_min, i_abs, i_copy, i_throw, i_ldcs, pwt, List.getElem?_cons_zero, List.getElem?_cons_succ, List.set_cons_zero, List.set_cons_succ, List.getD_cons_zero, List.getD_cons_succ, List.length_cons, List.length_nil, List.length_set, List.drop_succ_cons, List.drop_zero, List.take_succ_cons, List.take_zero, List.reverse_cons, List.reverse_nil, List.nil_append, List.cons_append, List.append_nil, List.map_cons, List.map_nil, List.sum_cons, List.sum_nil, Value.category, ne_eq, Nat.reduceEqDiff, reduceIte, ite_self, false_implies, true_implies, true_and, and_true, and_self, Nat.zero_le, Nat.le_refl, Nat.reduceLeDiff, Nat.reduceAdd, Nat.reduceLT, Nat.add_zero, Nat.zero_add, pu_eq, not_false_eq_true, not_true_eq_false, forall_const, if_true, if_false, implies_true, pRetK, X1.f0]
  refine ⟨rfl, rfl, ?_⟩
  have f2 := X2.f0
  refine c_X12_blanks (d := d + 7) (p := 0) X2' h11 hL4 (Nat.zero_le _) (fun h3 X3 F3 => ?_)
  rw [h6] at X3
  have F13 := F1.tr (F2.tr F3)
  have hsl : skb (w 6) L 0 ≤ L := skb_le (Nat.zero_le _)
  have hss : skb (w 6) L (skb (w 6) L 0) = skb (w 6) L 0 := skb_skb (Nat.zero_le _)
  unfold arP at hQ
  generalize skb (w 6) L 0 = s at *
  have k11 : pp (ua w) s s 0 11 = nI L := hT
  by_cases c : L ≤ s
  · rw [if_pos c] at hQ
    have e0 : nI s = nI L := by rw [show s = L by omega]
    simp only [i_const, i_load, i_aload, i_store, i_astore, i_inc, i_iadd, i_isub, i_imul, i_idiv, i_irem, i_iand, i_ior, i_ixor, i_ishl, i_ishr, i_iushr, i_ineg, i_i2l, i_i2b, i_i2c, i_lcmp, i_dup, i_dup2, i_pop, i_null, i_alen, i_iald, i_bald, i_lald, i_aald, i_iast, i_bast, i_last, i_aast, i_goto, i_icmp_eq, i_icmp_ne, i_icmp_lt, i_icmp_ge, i_icmp_gt, i_icmp_le, i_if_eq, i_if_ne, i_if_lt, i_if_ge, i_if_gt, i_if_le, i_ifnonnull, i_getf, i_putf, i_iret, i_zret, i_aret, i_vret, i_new, i_newa, i_anew, i_oinit, i_callv, i_calls, i_calli, i_max, i_min, i_abs, i_copy, i_throw, i_ldcs, pwt, List.getElem?_cons_zero, List.getElem?_cons_succ, List.set_cons_zero, List.set_cons_succ, List.getD_cons_zero, List.getD_cons_succ, List.length_cons, List.length_nil, List.length_set, List.drop_succ_cons, List.drop_zero, List.take_succ_cons, List.take_zero, List.reverse_cons, List.reverse_nil, List.nil_append, List.cons_append, List.append_nil, List.map_cons, List.map_nil, List.sum_cons, List.sum_nil, Value.category, ne_eq, Nat.reduceEqDiff, reduceIte, ite_self, false_implies, true_implies, true_and, and_true, and_self, Nat.zero_le, Nat.le_refl, Nat.reduceLeDiff, Nat.reduceAdd, Nat.reduceLT, Nat.add_zero, Nat.zero_add, pu_eq, not_false_eq_true, not_true_eq_false, forall_const, if_true, if_false, implies_true, pRetK, X3.f0, pp10, k11, e0]
    refine hQ h3 (ua w) s s X3 F13 (fun _ _ => rfl) ?_ A
    rw [ua_k (by decide)]; exact R
  · rw [if_neg c] at hQ
    have e0 : ¬ nI s = nI L := fun z => c (by rw [(nI_eq (by omega) (by omega)).mp z]; exact Nat.le_refl _)
    simp only [i_const, i_load, i_aload, i_store, i_astore, i_inc, i_iadd, i_isub, i_imul, i_idiv, i_irem, i_iand, i_ior, i_ixor, i_ishl, i_ishr, i_iushr, i_ineg, i_i2l, i_i2b, i_i2c, i_lcmp, i_dup, i_dup2, i_pop, i_null, i_alen, i_iald, i_bald, i_lald, i_aald, i_iast, i_bast, i_last, i_aast, i_goto, i_icmp_eq, i_icmp_ne, i_icmp_lt, i_icmp_ge, i_icmp_gt, i_icmp_le, i_if_eq, i_if_ne, i_if_lt, i_if_ge, i_if_gt, i_if_le, i_ifnonnull, i_getf, i_putf, i_iret, i_zret, i_aret, i_vret, i_new, i_newa, i_anew, i_oinit, i_callv, i_calls, i_calli, i_max, i_min, i_abs, i_copy, i_throw, i_ldcs, pwt, List.getElem?_cons_zero, List.getElem?_cons_succ, List.set_cons_zero, List.set_cons_succ, List.getD_cons_zero, List.getD_cons_succ, List.length_cons, List.length_nil, List.length_set, List.drop_succ_cons, List.drop_zero, List.take_succ_cons, List.take_zero, List.reverse_cons, List.reverse_nil, List.nil_append, List.cons_append, List.append_nil, List.map_cons, List.map_nil, List.sum_cons, List.sum_nil, Value.category, ne_eq, Nat.reduceEqDiff, reduceIte, ite_self, false_implies, true_implies, true_and, and_true, and_self, Nat.zero_le, Nat.le_refl, Nat.reduceLeDiff, Nat.reduceAdd, Nat.reduceLT, Nat.add_zero, Nat.zero_add, pu_eq, not_false_eq_true, not_true_eq_false, forall_const, if_true, if_false, implies_true, pRetK, X3.f0, pp10, k11, e0]
    refine mr_all hE (w := ua w) (C := C) h11 hL4 14 0 s s s h3 (ua w) r rfl hsl ?_ X3 F13 (fun _ _ => rfl) ?_ A ?_
    · rw [h6]; exact hss
    · rw [ua_k (by decide)]; exact R
    · rw [h6]; exact hQ
/-- what an army leaves -/
def AQ (w w' : AR) : Prop := w' 2 = w 2 ∧ w' 5 = w 5 ∧ w' 6 = w 6 ∧ w' 0 6 = w 0 6 ∧ w' 0 9 = 0
theorem RW.txt {W W' : Nat → Int32} {t : Nat} (R : RW W r C) (e : W' 3 = nI t) (eo : ∀ q, q ≠ 3 → W' q = W q) : RW W' (ru r 0 7 (nI t)) C := by
  obtain ⟨⟨a1, a2, a3, a4, a5, a6, a7⟩, b, c5, dd, f, g⟩ := R
  have row : ∀ k, k ≠ 0 → ru r 0 7 (nI t) k = r k := fun k hk => ru_ne hk
  have c0 : ∀ i, i ≠ 7 → ru r 0 7 (nI t) 0 i = r 0 i := fun i hi => by rw [ru_eq, upd_ne hi]
  have clr : ∀ k j, k ≠ 0 → cl (ru r 0 7 (nI t)) k j = cl r k j := fun k j hk => cl_row (row k hk)
  refine ⟨⟨?_, ?_, ?_, ?_, ?_, ?_, ?_⟩, ?_, ?_, ?_, ?_, ?_⟩
  · rw [eo _ (by decide), row 1 (by decide)]; exact a1
  · rw [eo _ (by decide), row 5 (by decide)]; exact a2
  · rw [eo _ (by decide), row 8 (by decide)]; exact a3
  · exact e
  · rw [eo _ (by decide), c0 5 (by decide)]; exact a5
  · rw [eo _ (by decide), row 17 (by decide)]; exact a6
  · rw [eo _ (by decide), c0 6 (by decide)]; exact a7
  · intro j hj i hi
    rw [clr 1 0 (by decide)] at hj
    rw [eo _ (by omega), row (2 + i) (by omega)]; exact b j hj i hi
  · intro j hj
    rw [clr 5 0 (by decide)] at hj
    obtain ⟨y1, y2, y3⟩ := c5 j hj
    refine ⟨?_, ?_, ?_⟩
    · rw [eo _ (by omega), y1]; unfold alvB; rw [row 5 (by decide)]
    · rw [eo _ (by omega), row 6 (by decide)]; exact y2
    · rw [eo _ (by omega), row 7 (by decide)]; exact y3
  · intro s hs i hi
    rw [clr 8 0 (by decide)] at hs
    rw [eo _ (by omega), row (9 + i) (by omega)]; exact dd s hs i hi
  · intro i hi k hk
    rw [clr 17 0 (by decide)] at hi
    rw [clr 17 1 (by decide), eo _ (by omega), row 18 (by decide)]; exact f i hi k hk
  · exact g.cg (eo 4 (by decide)) (fun p hp _ => eo p (by omega))
theorem txP_n {f : Nat → Int32} : ∀ (k b : Nat) (c : Nat × Nat × Nat) (q : Nat × List Cmd), txP f L k b c = .inr q → q.2.length ≤ k := by
  intro k
  induction k with
  | zero => intro b c q e; cases e
  | succ k ih =>
    intro b c q e
    rw [txP] at e
    obtain ⟨b1, c1, p1, e⟩ := bnd_inr e
    split at e
    · cases e; simp
    · split at e
      · obtain ⟨b2, c2, p2, e⟩ := bnd_inr e
        cases e
        have := ih _ _ _ p2
        simpa using this
      · cases e
theorem arP_n {f : Nat → Int32} {c : Nat × Nat × Nat} {q : Nat × List Cmd} (e : arP f L c = .inr q) : q.2.length ≤ 14 := by
  unfold arP at e
  split at e
  · cases e; simp
  · exact txP_n _ _ _ _ e
theorem army_back {x1 : Option Value} (X : MX h m w) (hQ : ∀ h', MX h' m (rs w 1 (cp (w 1) 0 (w 3) 1403)) → FM m h h' → Q (.inl (some (.int 0))) h' n) : PW E M_X12_army (d + 9 + 1) Q 92 [some (.ref m), x1, some (.int 0)] [] (h, n, 0, 0) := by
  refine pFor 1403 (fun t ls σ => ∃ h', MX h' m (rs w 1 (cp (w 1) 0 (w 3) t)) ∧ FM m h h' ∧ ls = [some (.ref m), x1, some (.int (nI t))] ∧ σ = (h', n, 0, 0)) ?_ ?_ 0 (Nat.zero_le _) _ _ ⟨h, X.row _ cp_0.symm, FM.rf, rfl, rfl⟩
  · rintro t ht ls σ ⟨h1, X1, F1, rfl, rfl⟩ ih
    have e1 : ¬ (1403 : Int32) ≤ nI t := nI_ge ht (by decide)
    have e4 : nI t + 1 = nI (t + 1) := nI_1 t
    have c1 : (nI t).toNatClampNeg = t := nI_clamp (by omega)
    have v1403 : vp_in (nI t) 1403 := vp_in_nI (by omega) (by decide)
    have v2252 : vp_in (nI t) 2252 := vp_in_nI (by omega) (by decide)
    obtain ⟨X2, F2⟩ := X1.cps (i := t) (by decide) (by decide) (by omega)
    refine b_X12_army_92 _ _ _ ?_
    simp only [i_const, i_load, i_aload, i_store, i_astore, i_inc, i_iadd, i_isub, i_imul, i_idiv, i_irem, i_iand, i_ior, i_ixor, i_ishl, i_ishr, i_iushr, i_ineg, i_i2l, i_i2b, i_i2c, i_lcmp, i_dup, i_dup2, i_pop, i_null, i_alen, i_iald, i_bald, i_lald, i_aald, i_iast, i_bast, i_last, i_aast, i_goto, i_icmp_eq, i_icmp_ne, i_icmp_lt, i_icmp_ge, i_icmp_gt, i_icmp_le, i_if_eq, i_if_ne, i_if_lt, i_if_ge, i_if_gt, i_if_le, i_ifnonnull, i_getf, i_putf, i_iret, i_zret, i_aret, i_vret, i_new, i_newa, i_anew, i_oinit, i_callv, i_calls, i_calli, i_max, i_min, i_abs, i_copy, i_throw, i_ldcs, pwt, List.getElem?_cons_zero, List.getElem?_cons_succ, List.set_cons_zero, List.set_cons_succ, List.getD_cons_zero, List.getD_cons_succ, List.length_cons, List.length_nil, List.length_set, List.drop_succ_cons, List.drop_zero, List.take_succ_cons, List.take_zero, List.reverse_cons, List.reverse_nil, List.nil_append, List.cons_append, List.append_nil, List.map_cons, List.map_nil, List.sum_cons, List.sum_nil, Value.category, ne_eq, Nat.reduceEqDiff, reduceIte, ite_self, false_implies, true_implies, true_and, and_true, and_self, Nat.zero_le, Nat.le_refl, Nat.reduceLeDiff, Nat.reduceAdd, Nat.reduceLT, Nat.add_zero, Nat.zero_add, pu_eq, not_false_eq_true, not_true_eq_false, forall_const, if_true, if_false, implies_true, X1.f0, X1.f1, X1.f3, e1, e4, c1, v1403, v2252]
    refine ih _ _ ⟨_, X2, F1.tr F2, rfl, rfl⟩
  · rintro ls σ ⟨h1, X1, F1, rfl, rfl⟩
    refine b_X12_army_92 _ _ _ ?_
    simp only [i_const, i_load, i_aload, i_store, i_astore, i_inc, i_iadd, i_isub, i_imul, i_idiv, i_irem, i_iand, i_ior, i_ixor, i_ishl, i_ishr, i_iushr, i_ineg, i_i2l, i_i2b, i_i2c, i_lcmp, i_dup, i_dup2, i_pop, i_null, i_alen, i_iald, i_bald, i_lald, i_aald, i_iast, i_bast, i_last, i_aast, i_goto, i_icmp_eq, i_icmp_ne, i_icmp_lt, i_icmp_ge, i_icmp_gt, i_icmp_le, i_if_eq, i_if_ne, i_if_lt, i_if_ge, i_if_gt, i_if_le, i_ifnonnull, i_getf, i_putf, i_iret, i_zret, i_aret, i_vret, i_new, i_newa, i_anew, i_oinit, i_callv, i_calls, i_calli, i_max, i_min, i_abs, i_copy, i_throw, i_ldcs, pwt, List.getElem?_cons_zero, List.getElem?_cons_succ, List.set_cons_zero, List.set_cons_succ, List.getD_cons_zero, List.getD_cons_succ, List.length_cons, List.length_nil, List.length_set, List.drop_succ_cons, List.drop_zero, List.take_succ_cons, List.take_zero, List.reverse_cons, List.reverse_nil, List.nil_append, List.cons_append, List.append_nil, List.map_cons, List.map_nil, List.sum_cons, List.sum_nil, Value.category, ne_eq, Nat.reduceEqDiff, reduceIte, ite_self, false_implies, true_implies, true_and, and_true, and_self, Nat.zero_le, Nat.le_refl, Nat.reduceLeDiff, Nat.reduceAdd, Nat.reduceLT, Nat.add_zero, Nat.zero_add, pu_eq, not_false_eq_true, not_true_eq_false, forall_const, if_true, if_false, implies_true, show (1403 : Int32) ≤ nI 1403 by decide]
    exact hQ h1 X1 F1
theorem c_X12_army (hE : EC E) (X : MX h m w) (hT : w 0 9 = nI L) (hL4 : L ≤ 400) (R : RW (w 1) r C) (A : WA r)
    (hQ0 : ∀ b, arW (w 6) L r = .inl b → ∀ h' w', MX h' m w' → FM m h h' → AQ w w' → w' 0 0 = 1 → w' 0 14 = nI b → w' 0 7 = w 0 7 → (∀ q, q < 1403 → w' 1 q = w 1 q) → Q (.inl (some (.int 0))) h' n)
    (hQ2 : ∀ q, arW (w 6) L r = .inr q → cl r 0 7 = 12 → ∀ h' w', MX h' m w' → FM m h h' → AQ w w' → w' 0 0 = 2 → w' 0 14 = -1 → w' 0 7 = w 0 7 → (∀ q, q < 1403 → w' 1 q = w 1 q) → Q (.inl (some (.int 0))) h' n)
    (hQ1 : ∀ q, arW (w 6) L r = .inr q → cl r 0 7 < 12 → ∀ h' w', MX h' m w' → FM m h h' → AQ w w' → w' 0 0 = 0 → w' 0 14 = -1 → w' 0 7 = 0 → RW (w' 1) (ru (apL r q.2) 0 7 (nI (cl r 0 7 + 1))) C → Q (.inl (some (.int (nI (cl r 0 7 + 1))))) h' n) : pCall E M_X12_army (d + 10) [.ref m] h n Q := by
  refine pCall_of rfl rfl (Nat.le_of_ble_eq_true rfl) (by simp [Value.category]) ?_
  refine b_X12_army_0 _ _ _ ?_
  simp only [pEntry, PM.nL, M_X12_army, List.map_cons, List.map_nil, List.length_cons, List.length_nil, Nat.reduceAdd, Nat.reduceSub, Nat.sub_self, List.replicate_succ, List.replicate_zero, List.cons_append, List.nil_append]
  simp only [i_const, i_load, i_aload, i_store, i_astore, i_inc, i_iadd, i_isub, i_imul, i_idiv, i_irem, i_iand, i_ior, i_ixor, i_ishl, i_ishr, i_iushr, i_ineg, i_i2l, i_i2b, i_i2c, i_lcmp, i_dup, i_dup2, i_pop, i_null, i_alen, i_iald, i_bald, i_lald, i_aald, i_iast, i_bast, i_last, i_aast, i_goto, i_icmp_eq, i_icmp_ne, i_icmp_lt, i_icmp_ge, i_icmp_gt, i_icmp_le, i_if_eq, i_if_ne, i_if_lt, i_if_ge, i_if_gt, i_if_le, i_ifnonnull, i_getf, i_putf, i_iret, i_zret, i_aret, i_vret, i_new, i_newa, i_anew, i_oinit, i_callv, i_calls, i_calli, i_max, i_min, i_abs, i_copy, i_throw, i_ldcs, pwt, List.getElem?_cons_zero, List.getElem?_cons_succ, List.set_cons_zero, List.set_cons_succ, List.getD_cons_zero, List.getD_cons_succ, List.length_cons, List.length_nil, List.length_set, List.drop_succ_cons, List.drop_zero, List.take_succ_cons, List.take_zero, List.reverse_cons, List.reverse_nil, List.nil_append, List.cons_append, List.append_nil, List.map_cons, List.map_nil, List.sum_cons, List.sum_nil, Value.category, ne_eq, Nat.reduceEqDiff, reduceIte, ite_self, false_implies, true_implies, true_and, and_true, and_self, Nat.zero_le, Nat.le_refl, Nat.reduceLeDiff, Nat.reduceAdd, Nat.reduceLT, Nat.add_zero, Nat.zero_add, pu_eq, not_false_eq_true, not_true_eq_false, forall_const, if_true, if_false, implies_true]
  refine pFor 1403 (fun t ls σ => ∃ h', MX h' m (rs w 3 (cp (w 3) 0 (w 1) t)) ∧ FM m h h' ∧ ls = [some (.ref m), some (.int (nI t)), none] ∧ σ = (h', n, 0, 0)) ?_ ?_ 0 (Nat.zero_le _) _ _ ⟨h, X.row _ cp_0.symm, FM.rf, rfl, rfl⟩
  · rintro t ht ls σ ⟨h1, X1, F1, rfl, rfl⟩ ih
    have e1 : ¬ (1403 : Int32) ≤ nI t := nI_ge ht (by decide)
    have e4 : nI t + 1 = nI (t + 1) := nI_1 t
    have c1 : (nI t).toNatClampNeg = t := nI_clamp (by omega)
    have v1403 : vp_in (nI t) 1403 := vp_in_nI (by omega) (by decide)
    have v2252 : vp_in (nI t) 2252 := vp_in_nI (by omega) (by decide)
    obtain ⟨X2, F2⟩ := X1.cps (i := t) (by decide) (by decide) (by omega)
    refine b_X12_army_2 _ _ _ ?_
    simp only [i_const, i_load, i_aload, i_store, i_astore, i_inc, i_iadd, i_isub, i_imul, i_idiv, i_irem, i_iand, i_ior, i_ixor, i_ishl, i_ishr, i_iushr, i_ineg, i_i2l, i_i2b, i_i2c, i_lcmp, i_dup, i_dup2, i_pop, i_null, i_alen, i_iald, i_bald, i_lald, i_aald, i_iast, i_bast, i_last, i_aast, i_goto, i_icmp_eq, i_icmp_ne, i_icmp_lt, i_icmp_ge, i_icmp_gt, i_icmp_le, i_if_eq, i_if_ne, i_if_lt, i_if_ge, i_if_gt, i_if_le, i_ifnonnull, i_getf, i_putf, i_iret, i_zret, i_aret, i_vret, i_new, i_newa, i_anew, i_oinit, i_callv, i_calls, i_calli, i_max, i_min, i_abs, i_copy, i_throw, i_ldcs, pwt, List.getElem?_cons_zero, List.getElem?_cons_succ, List.set_cons_zero, List.set_cons_succ, List.getD_cons_zero, List.getD_cons_succ, List.length_cons, List.length_nil, List.length_set, List.drop_succ_cons, List.drop_zero, List.take_succ_cons, List.take_zero, List.reverse_cons, List.reverse_nil, List.nil_append, List.cons_append, List.append_nil, List.map_cons, List.map_nil, List.sum_cons, List.sum_nil, Value.category, ne_eq, Nat.reduceEqDiff, reduceIte, ite_self, false_implies, true_implies, true_and, and_true, and_self, Nat.zero_le, Nat.le_refl, Nat.reduceLeDiff, Nat.reduceAdd, Nat.reduceLT, Nat.add_zero, Nat.zero_add, pu_eq, not_false_eq_true, not_true_eq_false, forall_const, if_true, if_false, implies_true, X1.f0, X1.f1, X1.f3, e1, e4, c1, v1403, v2252]
    refine ih _ _ ⟨_, X2, F1.tr F2, rfl, rfl⟩
  rintro ls σ ⟨h1, X1, F1, rfl, rfl⟩
  have w1k : ∀ k, k ≠ 3 → rs w 3 (cp (w 3) 0 (w 1) 1403) k = w k := fun k hk => rs_ne hk
  have w13 : ∀ q, q < 1403 → rs w 3 (cp (w 3) 0 (w 1) 1403) 3 q = w 1 q := fun q hq => by
    rw [rs_eq]; have := cp_in (g := w 3) (a := 0) (f := w 1) hq; rw [Nat.zero_add] at this; exact this
  generalize rs w 3 (cp (w 3) 0 (w 1) 1403) = w1 at X1 w1k w13
  have R1 : RW (w1 1) r C := by rw [w1k 1 (by decide)]; exact R
  have w0 : w1 0 = w 0 := w1k 0 (by decide)
  refine b_X12_army_2 _ _ _ ?_
  simp only [i_const, i_load, i_aload, i_store, i_astore, i_inc, i_iadd, i_isub, i_imul, i_idiv, i_irem, i_iand, i_ior, i_ixor, i_ishl, i_ishr, i_iushr, i_ineg, i_i2l, i_i2b, i_i2c, i_lcmp, i_dup, i_dup2, i_pop, i_null, i_alen, i_iald, i_bald, i_lald, i_aald, i_iast, i_bast, i_last, i_aast, i_goto, i_icmp_eq, i_icmp_ne, i_icmp_lt, i_icmp_ge, i_icmp_gt, i_icmp_le, i_if_eq, i_if_ne, i_if_lt, i_if_ge, i_if_gt, i_if_le, i_ifnonnull, i_getf, i_putf, i_iret, i_zret, i_aret, i_vret, i_new, i_newa, i_anew, i_oinit, i_callv, i_calls, i_calli, i_max, i_min, i_abs, i_copy, i_throw, i_ldcs, pwt, List.getElem?_cons_zero, List.getElem?_cons_succ, List.set_cons_zero, List.set_cons_succ, List.getD_cons_zero, List.getD_cons_succ, List.length_cons, List.length_nil, List.length_set, List.drop_succ_cons, List.drop_zero, List.take_succ_cons, List.take_zero, List.reverse_cons, List.reverse_nil, List.nil_append, List.cons_append, List.append_nil, List.map_cons, List.map_nil, List.sum_cons, List.sum_nil, Value.category, ne_eq, Nat.reduceEqDiff, reduceIte, ite_self, false_implies, true_implies, true_and, and_true, and_self, Nat.zero_le, Nat.le_refl, Nat.reduceLeDiff, Nat.reduceAdd, Nat.reduceLT, Nat.add_zero, Nat.zero_add, pu_eq, not_false_eq_true, not_true_eq_false, forall_const, if_true, if_false, implies_true, show (1403 : Int32) ≤ nI 1403 by decide, X1.f0]
  refine c_X12_readAll1 hE X1 (by rw [w0]; exact hT) hL4 R1 A ?_
  rw [w1k 6 (by decide)]
  have hk3 := v2252 (x := 3) (i := 3) rfl (by decide)
  have fin : ∀ (h2 : PH) (w2 : AR) (t : Int32) (bb : Int32) (x1 : Option Value), MX h2 m w2 → FM m h1 h2 → (∀ k, k ≠ 0 → k ≠ 1 → w2 k = ua w1 k) → (∀ i, i ≠ 10 → i ≠ 12 → i ≠ 14 → w2 0 i = ua w1 0 i) → w2 0 14 = bb → (∀ h' w', MX h' m w' → FM m h h' → AQ w w' → w' 0 0 = t → w' 0 14 = bb → w' 0 7 = w 0 7 → (∀ q, q < 1403 → w' 1 q = w 1 q) → Q (.inl (some (.int 0))) h' n) → ∀ h3, MX h3 m (th w2 t) → FM m h2 h3 → PW E M_X12_army (d + 9 + 1) Q 92 [some (.ref m), x1, some (.int 0)] [] (h3, n, 0, 0) := by
    intro h2 w2 t bb x1 X2 F2 k2 i2 e14 fQ h3 X3 F3
    refine army_back X3 (fun h4 X4 F4 => ?_)
    have z0 : ∀ i, i ≠ 0 → rs (th w2 t) 1 (cp (th w2 t 1) 0 (th w2 t 3) 1403) 0 i = w2 0 i := fun i hi => by
      rw [rs_ne (by decide)]; unfold th; rw [ru_eq, upd_ne hi]
    have zk : ∀ k, k ≠ 0 → k ≠ 1 → rs (th w2 t) 1 (cp (th w2 t 1) 0 (th w2 t 3) 1403) k = w1 k := fun k q0 q1 => by
      rw [rs_ne q1]; unfold th; rw [ru_ne q0, k2 k q0 q1, ua_k q0]
    refine fQ h4 _ X4 (F1.tr (F2.tr (F3.tr F4))) ⟨?_, ?_, ?_, ?_, ?_⟩ ?_ ?_ ?_ ?_
    · rw [zk 2 (by decide) (by decide), w1k 2 (by decide)]
    · rw [zk 5 (by decide) (by decide), w1k 5 (by decide)]
    · rw [zk 6 (by decide) (by decide), w1k 6 (by decide)]
    · rw [z0 6 (by decide), i2 6 (by decide) (by decide) (by decide), ← w0]; rfl
    · rw [z0 9 (by decide), i2 9 (by decide) (by decide) (by decide)]; rfl
    · rw [rs_ne (by decide)]; rfl
    · rw [z0 14 (by decide)]; exact e14
    · rw [z0 7 (by decide), i2 7 (by decide) (by decide) (by decide), ← w0]; rfl
    · intro q hq
      rw [rs_eq]
      have := cp_in (g := th w2 t 1) (a := 0) (f := th w2 t 3) hq
      rw [Nat.zero_add] at this
      rw [this]
      unfold th
      rw [ru_ne (by decide), k2 3 (by decide) (by decide), ua_k (by decide)]
      exact w13 q hq
  cases e : arP (w 6) L (cl r 1 0, cl r 5 0, cl r 8 0) with
  | inl b =>
    intro h2 w2 p2 X2 F2 S2
    obtain ⟨X3, F3⟩ := X2.set (k := 0) (i := 14) (by decide) (by decide) (nI b)
    simp only [i_const, i_load, i_aload, i_store, i_astore, i_inc, i_iadd, i_isub, i_imul, i_idiv, i_irem, i_iand, i_ior, i_ixor, i_ishl, i_ishr, i_iushr, i_ineg, i_i2l, i_i2b, i_i2c, i_lcmp, i_dup, i_dup2, i_pop, i_null, i_alen, i_iald, i_bald, i_lald, i_aald, i_iast, i_bast, i_last, i_aast, i_goto, i_icmp_eq, i_icmp_ne, i_icmp_lt, i_icmp_ge, i_icmp_gt, i_icmp_le, i_if_eq, i_if_ne, i_if_lt, i_if_ge, i_if_gt, i_if_le, i_ifnonnull, i_getf, i_putf, i_iret, i_zret, i_aret, i_vret, i_new, i_newa, i_anew, i_oinit, i_callv, i_calls, i_calli, i_max, i_min, i_abs, i_copy, i_throw, i_ldcs, pwt, List.getElem?_cons_zero, List.getElem?_cons_succ, List.set_cons_zero, List.set_cons_succ, List.getD_cons_zero, List.getD_cons_succ, List.length_cons, List.length_nil, List.length_set, List.drop_succ_cons, List.drop_zero, List.take_succ_cons, List.take_zero, List.reverse_cons, List.reverse_nil, List.nil_append, List.cons_append, List.append_nil, List.map_cons, List.map_nil, List.sum_cons, List.sum_nil, Value.category, ne_eq, Nat.reduceEqDiff, reduceIte, ite_self, false_implies, true_implies, true_and, and_true, and_self, Nat.zero_le, Nat.le_refl, Nat.reduceLeDiff, Nat.reduceAdd, Nat.reduceLT, Nat.add_zero, Nat.zero_add, pu_eq, not_false_eq_true, not_true_eq_false, forall_const, if_true, if_false, implies_true, pRetK, X2.f0, pp12, show ¬ ((0 : Int32) ≤ -1) by decide]
    refine ⟨rfl, rfl, ?_⟩
    refine b_X12_army_59 _ _ _ ?_
    simp only [i_const, i_load, i_aload, i_store, i_astore, i_inc, i_iadd, i_isub, i_imul, i_idiv, i_irem, i_iand, i_ior, i_ixor, i_ishl, i_ishr, i_iushr, i_ineg, i_i2l, i_i2b, i_i2c, i_lcmp, i_dup, i_dup2, i_pop, i_null, i_alen, i_iald, i_bald, i_lald, i_aald, i_iast, i_bast, i_last, i_aast, i_goto, i_icmp_eq, i_icmp_ne, i_icmp_lt, i_icmp_ge, i_icmp_gt, i_icmp_le, i_if_eq, i_if_ne, i_if_lt, i_if_ge, i_if_gt, i_if_le, i_ifnonnull, i_getf, i_putf, i_iret, i_zret, i_aret, i_vret, i_new, i_newa, i_anew, i_oinit, i_callv, i_calls, i_calli, i_max, i_min, i_abs, i_copy, i_throw, i_ldcs, pwt, List.getElem?_cons_zero, List.getElem?_cons_succ, List.set_cons_zero, List.set_cons_succ, List.getD_cons_zero, List.getD_cons_succ, List.length_cons, List.length_nil, List.length_set, List.drop_succ_cons, List.drop_zero, List.take_succ_cons, List.take_zero, List.reverse_cons, List.reverse_nil, List.nil_append, List.cons_append, List.append_nil, List.map_cons, List.map_nil, List.sum_cons, List.sum_nil, Value.category, ne_eq, Nat.reduceEqDiff, reduceIte, ite_self, false_implies, true_implies, true_and, and_true, and_self, Nat.zero_le, Nat.le_refl, Nat.reduceLeDiff, Nat.reduceAdd, Nat.reduceLT, Nat.add_zero, Nat.zero_add, pu_eq, not_false_eq_true, not_true_eq_false, forall_const, if_true, if_false, implies_true]
    refine c_X12_thr1 X3 (fun h4 X4 F4 => ?_)
    simp only [i_const, i_load, i_aload, i_store, i_astore, i_inc, i_iadd, i_isub, i_imul, i_idiv, i_irem, i_iand, i_ior, i_ixor, i_ishl, i_ishr, i_iushr, i_ineg, i_i2l, i_i2b, i_i2c, i_lcmp, i_dup, i_dup2, i_pop, i_null, i_alen, i_iald, i_bald, i_lald, i_aald, i_iast, i_bast, i_last, i_aast, i_goto, i_icmp_eq, i_icmp_ne, i_icmp_lt, i_icmp_ge, i_icmp_gt, i_icmp_le, i_if_eq, i_if_ne, i_if_lt, i_if_ge, i_if_gt, i_if_le, i_ifnonnull, i_getf, i_putf, i_iret, i_zret, i_aret, i_vret, i_new, i_newa, i_anew, i_oinit, i_callv, i_calls, i_calli, i_max, i_min, i_abs, i_copy, i_throw, i_ldcs, pwt, List.getElem?_cons_zero, List.getElem?_cons_succ, List.set_cons_zero, List.set_cons_succ, List.getD_cons_zero, List.getD_cons_succ, List.length_cons, List.length_nil, List.length_set, List.drop_succ_cons, List.drop_zero, List.take_succ_cons, List.take_zero, List.reverse_cons, List.reverse_nil, List.nil_append, List.cons_append, List.append_nil, List.map_cons, List.map_nil, List.sum_cons, List.sum_nil, Value.category, ne_eq, Nat.reduceEqDiff, reduceIte, ite_self, false_implies, true_implies, true_and, and_true, and_self, Nat.zero_le, Nat.le_refl, Nat.reduceLeDiff, Nat.reduceAdd, Nat.reduceLT, Nat.add_zero, Nat.zero_add, pu_eq, not_false_eq_true, not_true_eq_false, forall_const, if_true, if_false, implies_true, pRetK, show ¬ ((1 : Int32) = 0) by decide]
    refine fin _ _ 1 (nI b) _ X3 (F2.tr F3) (fun k q0 q1 => ?_) (fun i q1 q2 q3 => ?_) rfl (fun h' w' => hQ0 b e h' w') h4 X4 F4
    · rw [ru_ne q0, pp_k q0, S2 k q1]
    · rw [ru_eq, upd_ne q3, pp_i q1 q2, S2 0 (by decide)]
  | inr q =>
    intro h2 w2 p2 b2 X2 F2 S2 R2 A2
    have hq := arP_n e
    have e0 : (0 : Int32) ≤ nI q.2.length := nI_le (a := 0) (by omega) (by omega)
    obtain ⟨X3, F3⟩ := X2.set (k := 0) (i := 14) (by decide) (by decide) (-1)
    have t7 : apL r q.2 0 7 = nI (cl r 0 7) := (apL_07 q.2 r).trans A.1.2.2.2.2.2.2.1
    have t13 : cl r 0 7 < 13 := A.1.2.2.2.2.2.2.2
    have W3 : ru (pp w2 p2 b2) 0 14 (-1) 1 3 = nI (cl r 0 7) := R2.1.2.2.2.1.trans t7
    have k2 : ∀ k, k ≠ 0 → k ≠ 1 → ru (pp w2 p2 b2) 0 14 (-1) k = ua w1 k := fun k q0 q1 => by rw [ru_ne q0, pp_k q0, S2 k q1]
    have i2 : ∀ i, i ≠ 10 → i ≠ 12 → i ≠ 14 → ru (pp w2 p2 b2) 0 14 (-1) 0 i = ua w1 0 i := fun i q1 q2 q3 => by rw [ru_eq, upd_ne q3, pp_i q1 q2, S2 0 (by decide)]
    have mid : ∀ h3, MX h3 m (ru (pp w2 p2 b2) 0 14 (-1)) → FM m h2 h3 → PW E M_X12_army (d + 9 + 1) Q 59 [some (.ref m), some (.int (nI q.2.length)), none] [.int 0, .ref m] (h3, n, 0, 0) := by
      intro h3 X3 F3
      refine b_X12_army_59 _ _ _ ?_
      simp only [i_const, i_load, i_aload, i_store, i_astore, i_inc, i_iadd, i_isub, i_imul, i_idiv, i_irem, i_iand, i_ior, i_ixor, i_ishl, i_ishr, i_iushr, i_ineg, i_i2l, i_i2b, i_i2c, i_lcmp, i_dup, i_dup2, i_pop, i_null, i_alen, i_iald, i_bald, i_lald, i_aald, i_iast, i_bast, i_last, i_aast, i_goto, i_icmp_eq, i_icmp_ne, i_icmp_lt, i_icmp_ge, i_icmp_gt, i_icmp_le, i_if_eq, i_if_ne, i_if_lt, i_if_ge, i_if_gt, i_if_le, i_ifnonnull, i_getf, i_putf, i_iret, i_zret, i_aret, i_vret, i_new, i_newa, i_anew, i_oinit, i_callv, i_calls, i_calli, i_max, i_min, i_abs, i_copy, i_throw, i_ldcs, pwt, List.getElem?_cons_zero, List.getElem?_cons_succ, List.set_cons_zero, List.set_cons_succ, List.getD_cons_zero, List.getD_cons_succ, List.length_cons, List.length_nil, List.length_set, List.drop_succ_cons, List.drop_zero, List.take_succ_cons, List.take_zero, List.reverse_cons, List.reverse_nil, List.nil_append, List.cons_append, List.append_nil, List.map_cons, List.map_nil, List.sum_cons, List.sum_nil, Value.category, ne_eq, Nat.reduceEqDiff, reduceIte, ite_self, false_implies, true_implies, true_and, and_true, and_self, Nat.zero_le, Nat.le_refl, Nat.reduceLeDiff, Nat.reduceAdd, Nat.reduceLT, Nat.add_zero, Nat.zero_add, pu_eq, not_false_eq_true, not_true_eq_false, forall_const, if_true, if_false, implies_true, X3.f0]
      refine c_X12_thr0 ?_
      by_cases c : cl r 0 7 = 12
      · have e12 : nI (cl r 0 7) = 12 := by rw [c]; rfl
        simp only [i_const, i_load, i_aload, i_store, i_astore, i_inc, i_iadd, i_isub, i_imul, i_idiv, i_irem, i_iand, i_ior, i_ixor, i_ishl, i_ishr, i_iushr, i_ineg, i_i2l, i_i2b, i_i2c, i_lcmp, i_dup, i_dup2, i_pop, i_null, i_alen, i_iald, i_bald, i_lald, i_aald, i_iast, i_bast, i_last, i_aast, i_goto, i_icmp_eq, i_icmp_ne, i_icmp_lt, i_icmp_ge, i_icmp_gt, i_icmp_le, i_if_eq, i_if_ne, i_if_lt, i_if_ge, i_if_gt, i_if_le, i_ifnonnull, i_getf, i_putf, i_iret, i_zret, i_aret, i_vret, i_new, i_newa, i_anew, i_oinit, i_callv, i_calls, i_calli, i_max, i_min, i_abs, i_copy, i_throw, i_ldcs, pwt, List.getElem?_cons_zero, List.getElem?_cons_succ, List.set_cons_zero, List.set_cons_succ, List.getD_cons_zero, List.getD_cons_succ, List.length_cons, List.length_nil, List.length_set, List.drop_succ_cons, List.drop_zero, List.take_succ_cons, List.take_zero, List.reverse_cons, List.reverse_nil, List.nil_append, List.cons_append, List.append_nil, List.map_cons, List.map_nil, List.sum_cons, List.sum_nil, Value.category, ne_eq, Nat.reduceEqDiff, reduceIte, ite_self, false_implies, true_implies, true_and, and_true, and_self, Nat.zero_le, Nat.le_refl, Nat.reduceLeDiff, Nat.reduceAdd, Nat.reduceLT, Nat.add_zero, Nat.zero_add, pu_eq, not_false_eq_true, not_true_eq_false, forall_const, if_true, if_false, implies_true, pRetK, X3.f0, X3.f1, hk3.1, hk3.2, W3, e12]
        refine b_X12_army_83 _ _ _ ?_
        simp only [i_const, i_load, i_aload, i_store, i_astore, i_inc, i_iadd, i_isub, i_imul, i_idiv, i_irem, i_iand, i_ior, i_ixor, i_ishl, i_ishr, i_iushr, i_ineg, i_i2l, i_i2b, i_i2c, i_lcmp, i_dup, i_dup2, i_pop, i_null, i_alen, i_iald, i_bald, i_lald, i_aald, i_iast, i_bast, i_last, i_aast, i_goto, i_icmp_eq, i_icmp_ne, i_icmp_lt, i_icmp_ge, i_icmp_gt, i_icmp_le, i_if_eq, i_if_ne, i_if_lt, i_if_ge, i_if_gt, i_if_le, i_ifnonnull, i_getf, i_putf, i_iret, i_zret, i_aret, i_vret, i_new, i_newa, i_anew, i_oinit, i_callv, i_calls, i_calli, i_max, i_min, i_abs, i_copy, i_throw, i_ldcs, pwt, List.getElem?_cons_zero, List.getElem?_cons_succ, List.set_cons_zero, List.set_cons_succ, List.getD_cons_zero, List.getD_cons_succ, List.length_cons, List.length_nil, List.length_set, List.drop_succ_cons, List.drop_zero, List.take_succ_cons, List.take_zero, List.reverse_cons, List.reverse_nil, List.nil_append, List.cons_append, List.append_nil, List.map_cons, List.map_nil, List.sum_cons, List.sum_nil, Value.category, ne_eq, Nat.reduceEqDiff, reduceIte, ite_self, false_implies, true_implies, true_and, and_true, and_self, Nat.zero_le, Nat.le_refl, Nat.reduceLeDiff, Nat.reduceAdd, Nat.reduceLT, Nat.add_zero, Nat.zero_add, pu_eq, not_false_eq_true, not_true_eq_false, forall_const, if_true, if_false, implies_true, X3.f0]
        refine c_X12_thr1 X3 (fun h4 X4 F4 => ?_)
        simp only [i_const, i_load, i_aload, i_store, i_astore, i_inc, i_iadd, i_isub, i_imul, i_idiv, i_irem, i_iand, i_ior, i_ixor, i_ishl, i_ishr, i_iushr, i_ineg, i_i2l, i_i2b, i_i2c, i_lcmp, i_dup, i_dup2, i_pop, i_null, i_alen, i_iald, i_bald, i_lald, i_aald, i_iast, i_bast, i_last, i_aast, i_goto, i_icmp_eq, i_icmp_ne, i_icmp_lt, i_icmp_ge, i_icmp_gt, i_icmp_le, i_if_eq, i_if_ne, i_if_lt, i_if_ge, i_if_gt, i_if_le, i_ifnonnull, i_getf, i_putf, i_iret, i_zret, i_aret, i_vret, i_new, i_newa, i_anew, i_oinit, i_callv, i_calls, i_calli, i_max, i_min, i_abs, i_copy, i_throw, i_ldcs, pwt, List.getElem?_cons_zero, List.getElem?_cons_succ, List.set_cons_zero, List.set_cons_succ, List.getD_cons_zero, List.getD_cons_succ, List.length_cons, List.length_nil, List.length_set, List.drop_succ_cons, List.drop_zero, List.take_succ_cons, List.take_zero, List.reverse_cons, List.reverse_nil, List.nil_append, List.cons_append, List.append_nil, List.map_cons, List.map_nil, List.sum_cons, List.sum_nil, Value.category, ne_eq, Nat.reduceEqDiff, reduceIte, ite_self, false_implies, true_implies, true_and, and_true, and_self, Nat.zero_le, Nat.le_refl, Nat.reduceLeDiff, Nat.reduceAdd, Nat.reduceLT, Nat.add_zero, Nat.zero_add, pu_eq, not_false_eq_true, not_true_eq_false, forall_const, if_true, if_false, implies_true, pRetK, show ¬ ((1 : Int32) = 0) by decide]
        exact fin _ _ 2 (-1) _ X3 (F2.tr F3) k2 i2 rfl (fun h' w' => hQ2 q e c h' w') h4 X4 F4
      · have e12 : ¬ nI (cl r 0 7) = 12 := fun z => c ((nI_eq (b := 12) (by omega) (by decide)).mp z)
        simp only [i_const, i_load, i_aload, i_store, i_astore, i_inc, i_iadd, i_isub, i_imul, i_idiv, i_irem, i_iand, i_ior, i_ixor, i_ishl, i_ishr, i_iushr, i_ineg, i_i2l, i_i2b, i_i2c, i_lcmp, i_dup, i_dup2, i_pop, i_null, i_alen, i_iald, i_bald, i_lald, i_aald, i_iast, i_bast, i_last, i_aast, i_goto, i_icmp_eq, i_icmp_ne, i_icmp_lt, i_icmp_ge, i_icmp_gt, i_icmp_le, i_if_eq, i_if_ne, i_if_lt, i_if_ge, i_if_gt, i_if_le, i_ifnonnull, i_getf, i_putf, i_iret, i_zret, i_aret, i_vret, i_new, i_newa, i_anew, i_oinit, i_callv, i_calls, i_calli, i_max, i_min, i_abs, i_copy, i_throw, i_ldcs, pwt, List.getElem?_cons_zero, List.getElem?_cons_succ, List.set_cons_zero, List.set_cons_succ, List.getD_cons_zero, List.getD_cons_succ, List.length_cons, List.length_nil, List.length_set, List.drop_succ_cons, List.drop_zero, List.take_succ_cons, List.take_zero, List.reverse_cons, List.reverse_nil, List.nil_append, List.cons_append, List.append_nil, List.map_cons, List.map_nil, List.sum_cons, List.sum_nil, Value.category, ne_eq, Nat.reduceEqDiff, reduceIte, ite_self, false_implies, true_implies, true_and, and_true, and_self, Nat.zero_le, Nat.le_refl, Nat.reduceLeDiff, Nat.reduceAdd, Nat.reduceLT, Nat.add_zero, Nat.zero_add, pu_eq, not_false_eq_true, not_true_eq_false, forall_const, if_true, if_false, implies_true, pRetK, X3.f0, X3.f1, hk3.1, hk3.2, W3, e12]
        refine b_X12_army_83 _ _ _ ?_
        simp only [i_const, i_load, i_aload, i_store, i_astore, i_inc, i_iadd, i_isub, i_imul, i_idiv, i_irem, i_iand, i_ior, i_ixor, i_ishl, i_ishr, i_iushr, i_ineg, i_i2l, i_i2b, i_i2c, i_lcmp, i_dup, i_dup2, i_pop, i_null, i_alen, i_iald, i_bald, i_lald, i_aald, i_iast, i_bast, i_last, i_aast, i_goto, i_icmp_eq, i_icmp_ne, i_icmp_lt, i_icmp_ge, i_icmp_gt, i_icmp_le, i_if_eq, i_if_ne, i_if_lt, i_if_ge, i_if_gt, i_if_le, i_ifnonnull, i_getf, i_putf, i_iret, i_zret, i_aret, i_vret, i_new, i_newa, i_anew, i_oinit, i_callv, i_calls, i_calli, i_max, i_min, i_abs, i_copy, i_throw, i_ldcs, pwt, List.getElem?_cons_zero, List.getElem?_cons_succ, List.set_cons_zero, List.set_cons_succ, List.getD_cons_zero, List.getD_cons_succ, List.length_cons, List.length_nil, List.length_set, List.drop_succ_cons, List.drop_zero, List.take_succ_cons, List.take_zero, List.reverse_cons, List.reverse_nil, List.nil_append, List.cons_append, List.append_nil, List.map_cons, List.map_nil, List.sum_cons, List.sum_nil, Value.category, ne_eq, Nat.reduceEqDiff, reduceIte, ite_self, false_implies, true_implies, true_and, and_true, and_self, Nat.zero_le, Nat.le_refl, Nat.reduceLeDiff, Nat.reduceAdd, Nat.reduceLT, Nat.add_zero, Nat.zero_add, pu_eq, not_false_eq_true, not_true_eq_false, forall_const, if_true, if_false, implies_true, X3.f0]
        refine c_X12_thr0 ?_
        obtain ⟨X4, F4⟩ := X3.set (k := 1) (i := 3) (by decide) (by decide) (nI (cl r 0 7 + 1))
        obtain ⟨X5, F5⟩ := X4.set (k := 0) (i := 7) (by decide) (by decide) 0
        have W5 : ru (ru (ru (pp w2 p2 b2) 0 14 (-1)) 1 3 (nI (cl r 0 7 + 1))) 0 7 0 1 3 = nI (cl r 0 7 + 1) := rfl
        have pb : ∀ (hh : PH) (c : PC), pu hh (m + 1) c m = hh m := fun hh c => pu_ne (by omega)
        have pb2 : ∀ (hh : PH) (c : PC), pu hh m c (m + 1) = hh (m + 1) := fun hh c => pu_ne (by omega)
        simp only [i_const, i_load, i_aload, i_store, i_astore, i_inc, i_iadd, i_isub, i_imul, i_idiv, i_irem, i_iand, i_ior, i_ixor, i_ishl, i_ishr, i_iushr, i_ineg, i_i2l, i_i2b, i_i2c, i_lcmp, i_dup, i_dup2, i_pop, i_null, i_alen, i_iald, i_bald, i_lald, i_aald, i_iast, i_bast, i_last, i_aast, i_goto, i_icmp_eq, i_icmp_ne, i_icmp_lt, i_icmp_ge, i_icmp_gt, i_icmp_le, i_if_eq, i_if_ne, i_if_lt, i_if_ge, i_if_gt, i_if_le, i_ifnonnull, i_getf, i_putf, i_iret, i_zret, i_aret, i_vret, i_new, i_newa, i_anew, i_oinit, i_callv, i_calls, i_calli, i_max, i_min, i_abs, i_copy, i_throw, i_ldcs, pwt, List.getElem?_cons_zero, List.getElem?_cons_succ, List.set_cons_zero, List.set_cons_succ, List.getD_cons_zero, List.getD_cons_succ, List.length_cons, List.length_nil, List.length_set, List.drop_succ_cons, List.drop_zero, List.take_succ_cons, List.take_zero, List.reverse_cons, List.reverse_nil, List.nil_append, List.cons_append, List.append_nil, List.map_cons, List.map_nil, List.sum_cons, List.sum_nil, Value.category, ne_eq, Nat.reduceEqDiff, reduceIte, ite_self, false_implies, true_implies, true_and, and_true, and_self, Nat.zero_le, Nat.le_refl, Nat.reduceLeDiff, Nat.reduceAdd, Nat.reduceLT, Nat.add_zero, Nat.zero_add, pu_eq, not_false_eq_true, not_true_eq_false, forall_const, if_true, if_false, implies_true, pRetK, X3.f0, X3.f1, hk3.1, hk3.2, W3, nI_1, pb, pb2, upd_eq]
        refine ⟨rfl, rfl, ?_⟩
        refine hQ1 q e (by omega) _ _ X5 (F1.tr (F2.tr (F3.tr (F4.tr F5)))) ⟨?_, ?_, ?_, ?_, ?_⟩ ?_ rfl rfl ?_
        · rw [ru_ne (by decide), ru_ne (by decide), k2 2 (by decide) (by decide), ua_k (by decide), w1k 2 (by decide)]
        · rw [ru_ne (by decide), ru_ne (by decide), k2 5 (by decide) (by decide), ua_k (by decide), w1k 5 (by decide)]
        · rw [ru_ne (by decide), ru_ne (by decide), k2 6 (by decide) (by decide), ua_k (by decide), w1k 6 (by decide)]
        · rw [ru_eq, upd_ne (by decide), ru_ne (by decide), i2 6 (by decide) (by decide) (by decide), ← w0]; rfl
        · rw [ru_eq, upd_ne (by decide), ru_ne (by decide), i2 9 (by decide) (by decide) (by decide)]; rfl
        · rw [ru_eq, upd_ne (by decide), ru_ne (by decide), i2 0 (by decide) (by decide) (by decide)]; rfl
        · refine R2.txt rfl (fun q hq => ?_)
          rw [ru_ne (by decide), ru_eq, upd_ne hq, ru_ne (by decide), pp_k (by decide)]
    simp only [i_const, i_load, i_aload, i_store, i_astore, i_inc, i_iadd, i_isub, i_imul, i_idiv, i_irem, i_iand, i_ior, i_ixor, i_ishl, i_ishr, i_iushr, i_ineg, i_i2l, i_i2b, i_i2c, i_lcmp, i_dup, i_dup2, i_pop, i_null, i_alen, i_iald, i_bald, i_lald, i_aald, i_iast, i_bast, i_last, i_aast, i_goto, i_icmp_eq, i_icmp_ne, i_icmp_lt, i_icmp_ge, i_icmp_gt, i_icmp_le, i_if_eq, i_if_ne, i_if_lt, i_if_ge, i_if_gt, i_if_le, i_ifnonnull, i_getf, i_putf, i_iret, i_zret, i_aret, i_vret, i_new, i_newa, i_anew, i_oinit, i_callv, i_calls, i_calli, i_max, i_min, i_abs, i_copy, i_throw, i_ldcs, pwt, List.getElem?_cons_zero, List.getElem?_cons_succ, List.set_cons_zero, List.set_cons_succ, List.getD_cons_zero, List.getD_cons_succ, List.length_cons, List.length_nil, List.length_set, List.drop_succ_cons, List.drop_zero, List.take_succ_cons, List.take_zero, List.reverse_cons, List.reverse_nil, List.nil_append, List.cons_append, List.append_nil, List.map_cons, List.map_nil, List.sum_cons, List.sum_nil, Value.category, ne_eq, Nat.reduceEqDiff, reduceIte, ite_self, false_implies, true_implies, true_and, and_true, and_self, Nat.zero_le, Nat.le_refl, Nat.reduceLeDiff, Nat.reduceAdd, Nat.reduceLT, Nat.add_zero, Nat.zero_add, pu_eq, not_false_eq_true, not_true_eq_false, forall_const, if_true, if_false, implies_true, pRetK, X2.f0, e0]
    refine ⟨rfl, rfl, ?_⟩
    exact mid _ X3 F3
end MARMY

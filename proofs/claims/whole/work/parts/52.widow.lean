/-! widows; an army is copied -/
section WIDOW
variable {E : PE} {M : PM} {d : Nat} {Q : PQ} {h : PH} {n : Nat} {a b : Nat} {r rb : AR} {lw lb : Option Nat} {C Cb : Option LawL} {pc : Nat}
def ihS (r : AR) (man to : Nat) : Nat → AR × Nat
  | 0 => (r, 0)
  | j + 1 => if r 15 j = nI man then (ru (ihS r man to j).1 15 j (nI to), (ihS r man to j).2 + 1) else ihS r man to j
theorem ihS_at (r : AR) (man to : Nat) : ∀ j k i, (ihS r man to j).1 k i = if k = 15 ∧ i < j ∧ r 15 i = nI man then nI to else r k i
  | 0, k, i => by rw [if_neg (by omega)]; rfl
  | j + 1, k, i => by
    unfold ihS
    split
    · rename_i c
      dsimp only
      rw [ru_at, ihS_at r man to j k i]
      by_cases e : k = 15 ∧ i = j
      · rw [if_pos e, if_pos ⟨e.1, by omega, by rw [e.2]; exact c⟩]
      · rw [if_neg e]
        by_cases e2 : k = 15 ∧ i < j ∧ r 15 i = nI man
        · rw [if_pos e2, if_pos ⟨e2.1, by omega, e2.2.2⟩]
        · rw [if_neg e2, if_neg (fun q => e2 ⟨q.1, Nat.lt_of_le_of_ne (Nat.le_of_lt_succ q.2.1) (fun z => e ⟨q.1, z⟩), q.2.2⟩)]
    · rename_i c
      rw [ihS_at r man to j k i]
      by_cases e2 : k = 15 ∧ i < j ∧ r 15 i = nI man
      · rw [if_pos e2, if_pos ⟨e2.1, by omega, e2.2.2⟩]
      · rw [if_neg e2, if_neg (fun q => e2 ⟨q.1, Nat.lt_of_le_of_ne (Nat.le_of_lt_succ q.2.1) (fun z => c (by rw [← z]; exact q.2.2)), q.2.2⟩)]
theorem ihS_row (r : AR) (man to j : Nat) {k : Nat} (hk : k ≠ 15) : (ihS r man to j).1 k = r k := by
  funext i
  rw [ihS_at, if_neg (fun q => hk q.1)]
theorem ihS_ct (r : AR) (man to : Nat) : ∀ j, (ihS r man to j).2 = ctF (fun i => decide (r 15 i = nI man)) j
  | 0 => rfl
  | j + 1 => by
    unfold ihS ctF
    rw [← ihS_ct r man to j]
    by_cases c : r 15 j = nI man
    · rw [if_pos c, if_pos (decide_eq_true c)]
    · rw [if_neg c, if_neg (by rw [decide_eq_false c]; decide)]
def wdS (r : AR) (man to : Nat) : AR := ru (ru (ihS r man to (cl r 8 0)).1 7 to (nI (min 9999 (cl r 7 to + cl r 7 man)))) 7 man 0
theorem wdS_at {man to : Nat} (hne : man ≠ to) (k j : Nat) : wdS r man to k j = if k = 7 then (if j = man then 0 else if j = to then nI (min 9999 (cl r 7 to + cl r 7 man)) else r 7 j) else if k = 15 then (if j < cl r 8 0 ∧ r 15 j = nI man then nI to else r 15 j) else r k j := by
  unfold wdS
  rw [ru_at, ru_at, ihS_at]
  by_cases k7 : k = 7
  · subst k7; simp
  · by_cases k15 : k = 15
    · subst k15; simp
    · simp [k7, k15]
theorem c_X0_inherit {man to : Nat} (X : AX h a r lw C) (W : WA r) (hm : man < cl r 5 0) (ht : to < cl r 5 0) (hne : man ≠ to) (hQ : ∀ h', AX h' a (wdS r man to) lw C → FX a lw h h' → Q (.inl (some (.int (nI (ctF (fun i => decide (r 15 i = nI man)) (cl r 8 0)))))) h' n) : pCall E M_X0_inherit (d + 1) [.ref a, .int (nI man), .int (nI to)] h n Q := by
  refine pCall_of rfl rfl (Nat.le_of_ble_eq_true rfl) (by simp [Value.category]) ?_
  refine b_X0_inherit_0 _ _ _ ?_
  simp only [pEntry, PM.nL, M_X0_inherit, List.map_cons, List.map_nil, List.length_cons, List.length_nil, Nat.reduceAdd, Nat.reduceSub, Nat.sub_self, List.replicate_succ, List.replicate_zero, List.cons_append, List.nil_append]
  simp only [i_const, i_load, i_aload, i_store, i_astore, i_inc, i_iadd, i_isub, i_imul, i_idiv, i_irem, i_iand, i_ior, i_ixor, i_ishl, i_ishr, i_iushr, i_ineg, i_i2l, i_i2b, i_i2c, i_lcmp, i_dup, i_dup2, i_pop, i_null, i_alen, i_iald, i_bald, i_lald, i_aald, i_iast, i_bast, i_last, i_aast, i_goto, i_icmp_eq, i_icmp_ne, i_icmp_lt, i_icmp_ge, i_icmp_gt, i_icmp_le, i_if_eq, i_if_ne, i_if_lt, i_if_ge, i_if_gt, i_if_le, i_ifnonnull, i_getf, i_putf, i_iret, i_zret, i_aret, i_vret, i_new, i_newa, i_anew, i_oinit, i_callv, i_calls, i_calli, i_max, i_min, i_abs, i_copy, i_throw, i_ldcs, pwt, List.getElem?_cons_zero, List.getElem?_cons_succ, List.set_cons_zero, List.set_cons_succ, List.getD_cons_zero, List.getD_cons_succ, List.length_cons, List.length_nil, List.length_set, List.drop_succ_cons, List.drop_zero, List.take_succ_cons, List.take_zero, List.reverse_cons, List.reverse_nil, List.nil_append, List.cons_append, List.append_nil, List.map_cons, List.map_nil, List.sum_cons, List.sum_nil, Value.category, ne_eq, Nat.reduceEqDiff, reduceIte, ite_self, false_implies, true_implies, true_and, and_true, and_self, Nat.zero_le, Nat.le_refl, Nat.reduceLeDiff, Nat.reduceAdd, Nat.reduceLT, Nat.add_zero, Nat.zero_add, pu_eq, not_false_eq_true, not_true_eq_false, forall_const, if_true, if_false, implies_true]
  have hm10 := W.m10
  refine pFor (cl r 8 0) (fun j ls σ => ∃ h1, AX h1 a (ihS r man to j).1 lw C ∧ FR a h h1 ∧ ls = [some (.ref a), some (.int (nI man)), some (.int (nI to)), some (.int (nI (ihS r man to j).2)), some (.int (nI j))] ∧ σ = (h1, n, 0, 0)) ?_ ?_ 0 (Nat.zero_le _) _ _ ⟨h, X, FR.rf, rfl, rfl⟩
  · rintro j hj ls σ ⟨h1, X1, F1, rfl, rfl⟩ ih
    obtain ⟨e1, e2, e3, e4⟩ := jFacts hj W.s24 (by decide)
    have r8 : (ihS r man to j).1 8 0 = nI (cl r 8 0) := by rw [ihS_row r man to j (by decide)]; exact W.hs
    have r15 : (ihS r man to j).1 15 j = r 15 j := by rw [ihS_at, if_neg (by omega)]
    obtain ⟨f, H⟩ := X1.aa
    refine b_X0_inherit_5 _ _ _ ?_
    simp only [i_const, i_load, i_aload, i_store, i_astore, i_inc, i_iadd, i_isub, i_imul, i_idiv, i_irem, i_iand, i_ior, i_ixor, i_ishl, i_ishr, i_iushr, i_ineg, i_i2l, i_i2b, i_i2c, i_lcmp, i_dup, i_dup2, i_pop, i_null, i_alen, i_iald, i_bald, i_lald, i_aald, i_iast, i_bast, i_last, i_aast, i_goto, i_icmp_eq, i_icmp_ne, i_icmp_lt, i_icmp_ge, i_icmp_gt, i_icmp_le, i_if_eq, i_if_ne, i_if_lt, i_if_ge, i_if_gt, i_if_le, i_ifnonnull, i_getf, i_putf, i_iret, i_zret, i_aret, i_vret, i_new, i_newa, i_anew, i_oinit, i_callv, i_calls, i_calli, i_max, i_min, i_abs, i_copy, i_throw, i_ldcs, pwt, List.getElem?_cons_zero, List.getElem?_cons_succ, List.set_cons_zero, List.set_cons_succ, List.getD_cons_zero, List.getD_cons_succ, List.length_cons, List.length_nil, List.length_set, List.drop_succ_cons, List.drop_zero, List.take_succ_cons, List.take_zero, List.reverse_cons, List.reverse_nil, List.nil_append, List.cons_append, List.append_nil, List.map_cons, List.map_nil, List.sum_cons, List.sum_nil, Value.category, ne_eq, Nat.reduceEqDiff, reduceIte, ite_self, false_implies, true_implies, true_and, and_true, and_self, Nat.zero_le, Nat.le_refl, Nat.reduceLeDiff, Nat.reduceAdd, Nat.reduceLT, Nat.add_zero, Nat.zero_add, pu_eq, not_false_eq_true, not_true_eq_false, forall_const, if_true, if_false, implies_true, X1.f0, X1.f8, X1.f15, r8, r15, e1, e2, e3, e4, nI_1]
    refine ⟨fun c => ?_, fun c => ?_⟩
    · have st : ihS r man to (j + 1) = ihS r man to j := by rw [ihS, if_neg c]
      rw [st] at ih
      exact ih _ _ ⟨h1, X1, F1, rfl, rfl⟩
    · have st : ihS r man to (j + 1) = (ru (ihS r man to j).1 15 j (nI to), (ihS r man to j).2 + 1) := by rw [ihS, if_pos c]
      rw [st] at ih
      have F2 : FR a h1 (pu h1 (a + 15) (AC a (ru (rs (ihS r man to j).1 19 f) 15 j (nI to)) lw 15)) := FR.rf.pu (by decide)
      exact ih _ _ ⟨_, AX.mk (X1.2.fr F2) (H.ru 15 j (nI to)) ((E9.rs _ f).ru (by decide)), F1.tr F2, rfl, rfl⟩
  · rintro ls σ ⟨h1, X1, F1, rfl, rfl⟩
    have r8 : (ihS r man to (cl r 8 0)).1 8 0 = nI (cl r 8 0) := by rw [ihS_row r man to _ (by decide)]; exact W.hs
    have r7 : (ihS r man to (cl r 8 0)).1 7 = r 7 := ihS_row r man to _ (by decide)
    obtain ⟨e1, e2, e3, e4⟩ := jFacts hm W.m10 (by decide)
    have hcm := W.coin hm
    have hct := W.coin ht
    have r7m : (ihS r man to (cl r 8 0)).1 7 man = nI (cl r 7 man) := by rw [r7]; exact hcm.1
    obtain ⟨f, H⟩ := X1.aa
    refine b_X0_inherit_5 _ _ _ ?_
    simp only [i_const, i_load, i_aload, i_store, i_astore, i_inc, i_iadd, i_isub, i_imul, i_idiv, i_irem, i_iand, i_ior, i_ixor, i_ishl, i_ishr, i_iushr, i_ineg, i_i2l, i_i2b, i_i2c, i_lcmp, i_dup, i_dup2, i_pop, i_null, i_alen, i_iald, i_bald, i_lald, i_aald, i_iast, i_bast, i_last, i_aast, i_goto, i_icmp_eq, i_icmp_ne, i_icmp_lt, i_icmp_ge, i_icmp_gt, i_icmp_le, i_if_eq, i_if_ne, i_if_lt, i_if_ge, i_if_gt, i_if_le, i_ifnonnull, i_getf, i_putf, i_iret, i_zret, i_aret, i_vret, i_new, i_newa, i_anew, i_oinit, i_callv, i_calls, i_calli, i_max, i_min, i_abs, i_copy, i_throw, i_ldcs, pwt, List.getElem?_cons_zero, List.getElem?_cons_succ, List.set_cons_zero, List.set_cons_succ, List.getD_cons_zero, List.getD_cons_succ, List.length_cons, List.length_nil, List.length_set, List.drop_succ_cons, List.drop_zero, List.take_succ_cons, List.take_zero, List.reverse_cons, List.reverse_nil, List.nil_append, List.cons_append, List.append_nil, List.map_cons, List.map_nil, List.sum_cons, List.sum_nil, Value.category, ne_eq, Nat.reduceEqDiff, reduceIte, ite_self, false_implies, true_implies, true_and, and_true, and_self, Nat.zero_le, Nat.le_refl, Nat.reduceLeDiff, Nat.reduceAdd, Nat.reduceLT, Nat.add_zero, Nat.zero_add, pu_eq, not_false_eq_true, not_true_eq_false, forall_const, if_true, if_false, implies_true, X1.f0, X1.f8, X1.f5, X1.f7, r8, r7m, e2, e3, nI_le_self]
    refine c_X7_earn (c := cl r 7 to) (s := cl r 7 man) H (by omega) (by show (ihS r man to (cl r 8 0)).1 7 to = _; rw [r7]; exact hct.1) (by have := hct.2; omega) (by have := hcm.2; omega) (fun h2 H2 F2 => ?_)
    simp only [i_const, i_load, i_aload, i_store, i_astore, i_inc, i_iadd, i_isub, i_imul, i_idiv, i_irem, i_iand, i_ior, i_ixor, i_ishl, i_ishr, i_iushr, i_ineg, i_i2l, i_i2b, i_i2c, i_lcmp, i_dup, i_dup2, i_pop, i_null, i_alen, i_iald, i_bald, i_lald, i_aald, i_iast, i_bast, i_last, i_aast, i_goto, i_icmp_eq, i_icmp_ne, i_icmp_lt, i_icmp_ge, i_icmp_gt, i_icmp_le, i_if_eq, i_if_ne, i_if_lt, i_if_ge, i_if_gt, i_if_le, i_ifnonnull, i_getf, i_putf, i_iret, i_zret, i_aret, i_vret, i_new, i_newa, i_anew, i_oinit, i_callv, i_calls, i_calli, i_max, i_min, i_abs, i_copy, i_throw, i_ldcs, pwt, List.getElem?_cons_zero, List.getElem?_cons_succ, List.set_cons_zero, List.set_cons_succ, List.getD_cons_zero, List.getD_cons_succ, List.length_cons, List.length_nil, List.length_set, List.drop_succ_cons, List.drop_zero, List.take_succ_cons, List.take_zero, List.reverse_cons, List.reverse_nil, List.nil_append, List.cons_append, List.append_nil, List.map_cons, List.map_nil, List.sum_cons, List.sum_nil, Value.category, ne_eq, Nat.reduceEqDiff, reduceIte, ite_self, false_implies, true_implies, true_and, and_true, and_self, Nat.zero_le, Nat.le_refl, Nat.reduceLeDiff, Nat.reduceAdd, Nat.reduceLT, Nat.add_zero, Nat.zero_add, pu_eq, not_false_eq_true, not_true_eq_false, forall_const, if_true, if_false, implies_true, pRetK, H2.f0, H2.f5, H2.f7, e2, e3]
    have F3 : FR a h2 (pu h2 (a + 7) (AC a (ru (ru (rs (ihS r man to (cl r 8 0)).1 19 f) 7 to (nI (min 9999 (cl r 7 to + cl r 7 man)))) 7 man 0) lw 7)) := FR.rf.pu (by decide)
    have F : FR a h _ := (F1.tr F2).tr F3
    have := hQ _ (AX.mk (X1.2.fr (F2.tr F3)) (H2.ru 7 man 0) (((E9.rs _ f).ru (by decide)).ru (by decide))) F.fx
    rw [← ihS_ct r man to] at this
    exact this
theorem WA.wd (W : WA r) {man to : Nat} (hm : man < cl r 5 0) (ht : to < cl r 5 0) (hne : man ≠ to) : WA (wdS r man to) := by
  have e : ∀ k, k ≠ 7 → k ≠ 15 → wdS r man to k = r k := fun k h1 h2 => by funext j; rw [wdS_at hne, if_neg h1, if_neg h2]
  have hct := W.coin ht
  have w0 := W
  obtain ⟨⟨w1, w2, w3, w4, w5, w6, w7⟩, w8, w9, w10, w11, w12, w13⟩ := W
  have c1 := cl_row (j := 0) (e 1 (by decide) (by decide))
  have c5 := cl_row (j := 0) (e 5 (by decide) (by decide))
  have c8 := cl_row (j := 0) (e 8 (by decide) (by decide))
  have c17 := cl_row (j := 0) (e 17 (by decide) (by decide))
  have c171 := cl_row (j := 1) (e 17 (by decide) (by decide))
  refine ⟨⟨w1.row (e 1 (by decide) (by decide)), w2.row (e 5 (by decide) (by decide)), w3.row (e 8 (by decide) (by decide)), w4.row (e 17 (by decide) (by decide)), w5.row (e 17 (by decide) (by decide)), w6.row (e 0 (by decide) (by decide)), w7.row (e 0 (by decide) (by decide))⟩, ?_, ?_, ?_, ?_, ?_, ?_⟩
  · intro j hj
    rw [c1] at hj
    obtain ⟨z1, z2, z3⟩ := w8 j hj
    exact ⟨z1.row (e 2 (by decide) (by decide)), z2.row (e 3 (by decide) (by decide)), z3.row (e 4 (by decide) (by decide))⟩
  · intro j hj
    rw [c5] at hj ⊢
    refine ⟨(w9 j hj).1.row (e 6 (by decide) (by decide)), ?_⟩
    by_cases j1 : j = man
    · exact NB.of (x := 0) (by rw [wdS_at hne, if_pos rfl, if_pos j1]; rfl) (by decide) (by decide)
    · by_cases j2 : j = to
      · exact NB.of (x := min 9999 (cl r 7 to + cl r 7 man)) (by rw [wdS_at hne, if_pos rfl, if_neg j1, if_pos j2]) (by omega) (by decide)
      · exact NB.of (x := cl r 7 j) (by rw [wdS_at hne, if_pos rfl, if_neg j1, if_neg j2]; exact (w9 j hj).2.1) (w9 j hj).2.2 (by decide)
  · intro j hj
    rw [c8] at hj
    rw [c1, c5]
    obtain ⟨z1, z2, z3, z4, z5, z6, z7, z8⟩ := w10 j hj
    refine ⟨z1.row (e 9 (by decide) (by decide)), z2.row (e 10 (by decide) (by decide)), z3.row (e 11 (by decide) (by decide)), z4.row (e 12 (by decide) (by decide)), z5.row (e 13 (by decide) (by decide)), z6.row (e 14 (by decide) (by decide)), ?_, z8.row (e 16 (by decide) (by decide))⟩
    by_cases j1 : r 15 j = nI man
    · exact NB.of (x := to) (by rw [wdS_at hne, if_neg (by decide), if_pos rfl, if_pos ⟨hj, j1⟩]) ht (by have := w2.2; omega)
    · exact NB.of (x := cl r 15 j) (by rw [wdS_at hne, if_neg (by decide), if_pos rfl, if_neg (fun q => j1 q.2)]; exact z7.1) z7.2 (by have := w2.2; omega)
  · rw [c5, e 6 (by decide) (by decide)]; exact w11
  · rw [c17, c171]; exact w12
  · rw [c5, e 5 (by decide) (by decide)]; exact w13
/-- r' is a copy of r -/
def SM (r r' : AR) : Prop := (r' 0 5 = r 0 5 ∧ r' 0 6 = r 0 6 ∧ r' 0 7 = r 0 7) ∧ r' 1 0 = r 1 0 ∧ (∀ k ∈ [2, 3, 4], ∀ j, j < cl r 1 0 → r' k j = r k j) ∧ (r' 5 0 = r 5 0 ∧ r' 5 1 = r 5 1) ∧ (∀ j, j < cl r 5 0 → r' 6 j = r 6 j ∧ r' 7 j = r 7 j) ∧
  r' 8 0 = r 8 0 ∧ (∀ k ∈ [9, 10, 11, 12, 13, 14, 15, 16], ∀ j, j < cl r 8 0 → r' k j = r k j) ∧ (r' 17 0 = r 17 0 ∧ r' 17 1 = r 17 1) ∧ ∀ j, j < cl r 17 0 * 5 → r' 18 j = r 18 j
theorem NB.eq {r r' : AR} {k j B : Nat} (h : NB r k j B) (e : r' k j = r k j) : NB r' k j B := by unfold NB cl at *; rw [e]; exact h
theorem cl_eq {r r' : AR} {k j : Nat} (e : r' k j = r k j) : cl r' k j = cl r k j := by unfold cl; rw [e]
theorem WA.sm (W : WA r) {r' : AR} (S : SM r r') : WA r' := by
  obtain ⟨⟨s1, s2, s3⟩, s4, s5, ⟨s6, s7⟩, s8, s9, s10, ⟨s11, s12⟩, s13⟩ := S
  obtain ⟨⟨w1, w2, w3, w4, w5, w6, w7⟩, w8, w9, w10, w11, w12, w13⟩ := W
  have c1 := cl_eq s4
  have c5 := cl_eq s6
  have c8 := cl_eq s9
  have c17 := cl_eq s11
  have c171 := cl_eq s12
  refine ⟨⟨w1.eq s4, w2.eq s6, w3.eq s9, w4.eq s11, w5.eq s12, w6.eq s1, w7.eq s3⟩, ?_, ?_, ?_, ?_, ?_, ?_⟩
  · intro j hj
    rw [c1] at hj
    obtain ⟨z1, z2, z3⟩ := w8 j hj
    exact ⟨z1.eq (s5 2 (by decide) j hj), z2.eq (s5 3 (by decide) j hj), z3.eq (s5 4 (by decide) j hj)⟩
  · intro j hj
    rw [c5] at hj ⊢
    exact ⟨(w9 j hj).1.eq (s8 j hj).1, (w9 j hj).2.eq (s8 j hj).2⟩
  · intro j hj
    rw [c8] at hj
    rw [c1, c5]
    obtain ⟨z1, z2, z3, z4, z5, z6, z7, z8⟩ := w10 j hj
    exact ⟨z1.eq (s10 9 (by decide) j hj), z2.eq (s10 10 (by decide) j hj), z3.eq (s10 11 (by decide) j hj), z4.eq (s10 12 (by decide) j hj), z5.eq (s10 13 (by decide) j hj), z6.eq (s10 14 (by decide) j hj), z7.eq (s10 15 (by decide) j hj), z8.eq (s10 16 (by decide) j hj)⟩
  · intro i j hi hj e
    rw [c5] at hi hj
    rw [(s8 i hi).1, (s8 j hj).1] at e
    exact w11 i j hi hj e
  · rw [c17, c171]; exact w12
  · rw [c5, s7]; exact w13
theorem AC_law {a : Nat} {r : AR} {lw lw' : Option Nat} {j : Nat} (hj : j < 20) (h0 : j ≠ 0) : AC a r lw' j = AC a r lw j := by
  match j, hj, h0 with
  | 0, _, h0 => exact absurd rfl h0
  | 1, _, _ => rfl
  | 2, _, _ => rfl
  | 3, _, _ => rfl
  | 4, _, _ => rfl
  | 5, _, _ => rfl
  | 6, _, _ => rfl
  | 7, _, _ => rfl
  | 8, _, _ => rfl
  | 9, _, _ => rfl
  | 10, _, _ => rfl
  | 11, _, _ => rfl
  | 12, _, _ => rfl
  | 13, _, _ => rfl
  | 14, _, _ => rfl
  | 15, _, _ => rfl
  | 16, _, _ => rfl
  | 17, _, _ => rfl
  | 18, _, _ => rfl
  | 19, _, _ => rfl
  | j + 20, hj, _ => exact absurd hj (by omega)
theorem c_X0_copyFrom (H : AA h a r lw) (Y : AX h b rb lb Cb) (W : WA rb) (hd : b + 20 ≤ a ∨ a + 20 ≤ b) (hQ : ∀ h' r', AA h' a r' lb → FR a h h' → SM rb r' → Q (.inl none) h' n) : pCall E M_X0_copyFrom (d + 1) [.ref a, .ref b] h n Q := by
  refine pCall_of rfl rfl (Nat.le_of_ble_eq_true rfl) (by simp [Value.category]) ?_
  refine b_X0_copyFrom_0 _ _ _ ?_
  simp only [pEntry, PM.nL, M_X0_copyFrom, List.map_cons, List.map_nil, List.length_cons, List.length_nil, Nat.reduceAdd, Nat.reduceSub, Nat.sub_self, List.replicate_succ, List.replicate_zero, List.cons_append, List.nil_append]
  obtain ⟨f, G⟩ := Y.aa
  simp only [i_const, i_load, i_aload, i_store, i_astore, i_inc, i_iadd, i_isub, i_imul, i_idiv, i_irem, i_iand, i_ior, i_ixor, i_ishl, i_ishr, i_iushr, i_ineg, i_i2l, i_i2b, i_i2c, i_lcmp, i_dup, i_dup2, i_pop, i_null, i_alen, i_iald, i_bald, i_lald, i_aald, i_iast, i_bast, i_last, i_aast, i_goto, i_icmp_eq, i_icmp_ne, i_icmp_lt, i_icmp_ge, i_icmp_gt, i_icmp_le, i_if_eq, i_if_ne, i_if_lt, i_if_ge, i_if_gt, i_if_le, i_ifnonnull, i_getf, i_putf, i_iret, i_zret, i_aret, i_vret, i_new, i_newa, i_anew, i_oinit, i_callv, i_calls, i_calli, i_max, i_min, i_abs, i_copy, i_throw, i_ldcs, pwt, List.getElem?_cons_zero, List.getElem?_cons_succ, List.set_cons_zero, List.set_cons_succ, List.getD_cons_zero, List.getD_cons_succ, List.length_cons, List.length_nil, List.length_set, List.drop_succ_cons, List.drop_zero, List.take_succ_cons, List.take_zero, List.reverse_cons, List.reverse_nil, List.nil_append, List.cons_append, List.append_nil, List.map_cons, List.map_nil, List.sum_cons, List.sum_nil, Value.category, ne_eq, Nat.reduceEqDiff, reduceIte, ite_self, false_implies, true_implies, true_and, and_true, and_self, Nat.zero_le, Nat.le_refl, Nat.reduceLeDiff, Nat.reduceAdd, Nat.reduceLT, Nat.add_zero, Nat.zero_add, pu_eq, not_false_eq_true, not_true_eq_false, forall_const, if_true, if_false, implies_true, H.f0, G.f0, H.f1]
  refine c_X2_copyFrom H G hd W.hb W.b8 (fun h1 r1 H1 F1 D1 => ?_)
  have G1 := F1.AA hd G
  simp only [i_const, i_load, i_aload, i_store, i_astore, i_inc, i_iadd, i_isub, i_imul, i_idiv, i_irem, i_iand, i_ior, i_ixor, i_ishl, i_ishr, i_iushr, i_ineg, i_i2l, i_i2b, i_i2c, i_lcmp, i_dup, i_dup2, i_pop, i_null, i_alen, i_iald, i_bald, i_lald, i_aald, i_iast, i_bast, i_last, i_aast, i_goto, i_icmp_eq, i_icmp_ne, i_icmp_lt, i_icmp_ge, i_icmp_gt, i_icmp_le, i_if_eq, i_if_ne, i_if_lt, i_if_ge, i_if_gt, i_if_le, i_ifnonnull, i_getf, i_putf, i_iret, i_zret, i_aret, i_vret, i_new, i_newa, i_anew, i_oinit, i_callv, i_calls, i_calli, i_max, i_min, i_abs, i_copy, i_throw, i_ldcs, pwt, List.getElem?_cons_zero, List.getElem?_cons_succ, List.set_cons_zero, List.set_cons_succ, List.getD_cons_zero, List.getD_cons_succ, List.length_cons, List.length_nil, List.length_set, List.drop_succ_cons, List.drop_zero, List.take_succ_cons, List.take_zero, List.reverse_cons, List.reverse_nil, List.nil_append, List.cons_append, List.append_nil, List.map_cons, List.map_nil, List.sum_cons, List.sum_nil, Value.category, ne_eq, Nat.reduceEqDiff, reduceIte, ite_self, false_implies, true_implies, true_and, and_true, and_self, Nat.zero_le, Nat.le_refl, Nat.reduceLeDiff, Nat.reduceAdd, Nat.reduceLT, Nat.add_zero, Nat.zero_add, pu_eq, not_false_eq_true, not_true_eq_false, forall_const, if_true, if_false, implies_true, pRetK, H1.f0, G1.f0, H1.f5]
  refine c_X7_copyFrom H1 G1 hd W.hm W.m10 (fun h2 r2 H2 F2 D2 => ?_)
  have G2 := F2.AA hd G1
  simp only [i_const, i_load, i_aload, i_store, i_astore, i_inc, i_iadd, i_isub, i_imul, i_idiv, i_irem, i_iand, i_ior, i_ixor, i_ishl, i_ishr, i_iushr, i_ineg, i_i2l, i_i2b, i_i2c, i_lcmp, i_dup, i_dup2, i_pop, i_null, i_alen, i_iald, i_bald, i_lald, i_aald, i_iast, i_bast, i_last, i_aast, i_goto, i_icmp_eq, i_icmp_ne, i_icmp_lt, i_icmp_ge, i_icmp_gt, i_icmp_le, i_if_eq, i_if_ne, i_if_lt, i_if_ge, i_if_gt, i_if_le, i_ifnonnull, i_getf, i_putf, i_iret, i_zret, i_aret, i_vret, i_new, i_newa, i_anew, i_oinit, i_callv, i_calls, i_calli, i_max, i_min, i_abs, i_copy, i_throw, i_ldcs, pwt, List.getElem?_cons_zero, List.getElem?_cons_succ, List.set_cons_zero, List.set_cons_succ, List.getD_cons_zero, List.getD_cons_succ, List.length_cons, List.length_nil, List.length_set, List.drop_succ_cons, List.drop_zero, List.take_succ_cons, List.take_zero, List.reverse_cons, List.reverse_nil, List.nil_append, List.cons_append, List.append_nil, List.map_cons, List.map_nil, List.sum_cons, List.sum_nil, Value.category, ne_eq, Nat.reduceEqDiff, reduceIte, ite_self, false_implies, true_implies, true_and, and_true, and_self, Nat.zero_le, Nat.le_refl, Nat.reduceLeDiff, Nat.reduceAdd, Nat.reduceLT, Nat.add_zero, Nat.zero_add, pu_eq, not_false_eq_true, not_true_eq_false, forall_const, if_true, if_false, implies_true, pRetK, H2.f0, G2.f0, H2.f8]
  refine c_X8_copyFrom H2 G2 hd W.hs W.s24 (fun h3 r3 H3 F3 D3 => ?_)
  have G3 := F3.AA hd G2
  simp only [i_const, i_load, i_aload, i_store, i_astore, i_inc, i_iadd, i_isub, i_imul, i_idiv, i_irem, i_iand, i_ior, i_ixor, i_ishl, i_ishr, i_iushr, i_ineg, i_i2l, i_i2b, i_i2c, i_lcmp, i_dup, i_dup2, i_pop, i_null, i_alen, i_iald, i_bald, i_lald, i_aald, i_iast, i_bast, i_last, i_aast, i_goto, i_icmp_eq, i_icmp_ne, i_icmp_lt, i_icmp_ge, i_icmp_gt, i_icmp_le, i_if_eq, i_if_ne, i_if_lt, i_if_ge, i_if_gt, i_if_le, i_ifnonnull, i_getf, i_putf, i_iret, i_zret, i_aret, i_vret, i_new, i_newa, i_anew, i_oinit, i_callv, i_calls, i_calli, i_max, i_min, i_abs, i_copy, i_throw, i_ldcs, pwt, List.getElem?_cons_zero, List.getElem?_cons_succ, List.set_cons_zero, List.set_cons_succ, List.getD_cons_zero, List.getD_cons_succ, List.length_cons, List.length_nil, List.length_set, List.drop_succ_cons, List.drop_zero, List.take_succ_cons, List.take_zero, List.reverse_cons, List.reverse_nil, List.nil_append, List.cons_append, List.append_nil, List.map_cons, List.map_nil, List.sum_cons, List.sum_nil, Value.category, ne_eq, Nat.reduceEqDiff, reduceIte, ite_self, false_implies, true_implies, true_and, and_true, and_self, Nat.zero_le, Nat.le_refl, Nat.reduceLeDiff, Nat.reduceAdd, Nat.reduceLT, Nat.add_zero, Nat.zero_add, pu_eq, not_false_eq_true, not_true_eq_false, forall_const, if_true, if_false, implies_true, pRetK, H3.f0, G3.f0, H3.f17]
  refine c_X5_copyFrom H3 G3 hd W.hl W.l60 (fun h4 r4 H4 F4 D4 => ?_)
  have G4 := F4.AA hd G3
  have nb : b ≠ a := by omega
  have pb : ∀ c : PC, ∀ hh : PH, pu hh a c b = hh b := fun c hh => pu_ne nb
  have n1 : narrow (.object "ScarArmy$Law") (va_rf lb) = va_rf lb := by cases lb <;> rfl
  have n2 : fits (.object "ScarArmy$Law") (va_rf lb) = true := by cases lb <;> rfl
  simp only [i_const, i_load, i_aload, i_store, i_astore, i_inc, i_iadd, i_isub, i_imul, i_idiv, i_irem, i_iand, i_ior, i_ixor, i_ishl, i_ishr, i_iushr, i_ineg, i_i2l, i_i2b, i_i2c, i_lcmp, i_dup, i_dup2, i_pop, i_null, i_alen, i_iald, i_bald, i_lald, i_aald, i_iast, i_bast, i_last, i_aast, i_goto, i_icmp_eq, i_icmp_ne, i_icmp_lt, i_icmp_ge, i_icmp_gt, i_icmp_le, i_if_eq, i_if_ne, i_if_lt, i_if_ge, i_if_gt, i_if_le, i_ifnonnull, i_getf, i_putf, i_iret, i_zret, i_aret, i_vret, i_new, i_newa, i_anew, i_oinit, i_callv, i_calls, i_calli, i_max, i_min, i_abs, i_copy, i_throw, i_ldcs, pwt, List.getElem?_cons_zero, List.getElem?_cons_succ, List.set_cons_zero, List.set_cons_succ, List.getD_cons_zero, List.getD_cons_succ, List.length_cons, List.length_nil, List.length_set, List.drop_succ_cons, List.drop_zero, List.take_succ_cons, List.take_zero, List.reverse_cons, List.reverse_nil, List.nil_append, List.cons_append, List.append_nil, List.map_cons, List.map_nil, List.sum_cons, List.sum_nil, Value.category, ne_eq, Nat.reduceEqDiff, reduceIte, ite_self, false_implies, true_implies, true_and, and_true, and_self, Nat.zero_le, Nat.le_refl, Nat.reduceLeDiff, Nat.reduceAdd, Nat.reduceLT, Nat.add_zero, Nat.zero_add, pu_eq, not_false_eq_true, not_true_eq_false, forall_const, if_true, if_false, implies_true, pRetK, H4.f0, G4.f0, pb, pu_pu, n1, n2]
  refine ⟨rfl, rfl, rfl, rfl, rfl, rfl, ?_⟩
  have H5 : AA (pu h4 (a + 0) (AC a (ru (ru (ru r4 0 5 (rb 0 5)) 0 6 (rb 0 6)) 0 7 (rb 0 7)) lb 0)) a (ru (ru (ru r4 0 5 (rb 0 5)) 0 6 (rb 0 6)) 0 7 (rb 0 7)) lb := by
    refine H4.put 0 (fun j hj e => ?_)
    exact (AC_row hj (by rw [ru_ne e, ru_ne e, ru_ne e])).trans (AC_law hj e)
  refine hQ _ _ H5 (((F1.tr F2).tr F3).tr (F4.tr (FR.rf.pu (k := 0) (by decide)))) ?_
  obtain ⟨q1, q2, q3, q4⟩ := D1
  obtain ⟨p1, p2, p3, p4⟩ := D2
  obtain ⟨o1, o2, o3, o4⟩ := D3
  obtain ⟨m1, m2, m3, m4⟩ := D4
  have k4 : ∀ k, k ≠ 0 → k ≠ 17 → k ≠ 18 → ru (ru (ru r4 0 5 (rb 0 5)) 0 6 (rb 0 6)) 0 7 (rb 0 7) k = r3 k := fun k z0 z1 z2 => by rw [ru_ne z0, ru_ne z0, ru_ne z0, m4 k z1 z2]
  have k3 : ∀ k, k ∈ [1, 2, 3, 4, 5, 6, 7] → r3 k = r2 k := fun k z => o3 k (by intro e; subst e; revert z; decide) (by intro e; simp only [List.mem_cons, List.not_mem_nil, or_false] at z e; omega)
  have k2 : ∀ k, k ∈ [1, 2, 3, 4] → r2 k = r1 k := fun k z => p4 k (by intro e; subst e; revert z; decide) (by intro e; subst e; revert z; decide) (by intro e; subst e; revert z; decide)
  refine ⟨⟨rfl, rfl, rfl⟩, ?_, ?_, ⟨?_, ?_⟩, ?_, ?_, ?_, ⟨?_, ?_⟩, ?_⟩
  · rw [k4 1 (by decide) (by decide) (by decide), k3 1 (by decide), k2 1 (by decide)]; exact q1
  · intro k hk j hj
    have hk' : k = 2 ∨ k = 3 ∨ k = 4 := by simpa using hk
    rw [k4 k (by omega) (by omega) (by omega), k3 k (by simp; omega), k2 k (by simp; omega), q2 k hk j hj, rs_ne (by omega)]
  · rw [k4 5 (by decide) (by decide) (by decide), k3 5 (by decide)]; exact p1
  · rw [k4 5 (by decide) (by decide) (by decide), k3 5 (by decide)]; exact p2
  · intro j hj
    rw [k4 6 (by decide) (by decide) (by decide), k3 6 (by decide), k4 7 (by decide) (by decide) (by decide), k3 7 (by decide)]; exact p3 j hj
  · rw [k4 8 (by decide) (by decide) (by decide)]; exact o1
  · intro k hk j hj
    have hk' : 9 ≤ k ∧ k ≤ 16 := by simp only [List.mem_cons, List.not_mem_nil, or_false] at hk; omega
    rw [k4 k (by omega) (by omega) (by omega), o2 k hk j hj, rs_ne (by omega)]
  · exact m1
  · exact m2
  · exact m3
theorem c_X0_heldBy {man : Int32} {m : Nat} (X : AX h a r lw C) (hm : r 8 0 = nI m) (hN : m ≤ 24) (hQ : Q (.inl (some (.int (orF (fun j => if r 15 j = man then 1 <<< (r 11 j &&& 31) else 0) m &&& (orF (fun j => if r 15 j = man then 0 else 1 <<< (r 11 j &&& 31)) m ^^^ -1))))) h n) : pCall E M_X0_heldBy (d + 2) [.ref a, .int man] h n Q := by
  refine pCall_of rfl rfl (Nat.le_of_ble_eq_true rfl) (by simp [Value.category]) ?_
  refine b_X0_heldBy_0 _ _ _ ?_
  simp only [pEntry, PM.nL, M_X0_heldBy, List.map_cons, List.map_nil, List.length_cons, List.length_nil, Nat.reduceAdd, Nat.reduceSub, Nat.sub_self, List.replicate_succ, List.replicate_zero, List.cons_append, List.nil_append]
  obtain ⟨f, H⟩ := X.aa
  simp only [i_const, i_load, i_aload, i_store, i_astore, i_inc, i_iadd, i_isub, i_imul, i_idiv, i_irem, i_iand, i_ior, i_ixor, i_ishl, i_ishr, i_iushr, i_ineg, i_i2l, i_i2b, i_i2c, i_lcmp, i_dup, i_dup2, i_pop, i_null, i_alen, i_iald, i_bald, i_lald, i_aald, i_iast, i_bast, i_last, i_aast, i_goto, i_icmp_eq, i_icmp_ne, i_icmp_lt, i_icmp_ge, i_icmp_gt, i_icmp_le, i_if_eq, i_if_ne, i_if_lt, i_if_ge, i_if_gt, i_if_le, i_ifnonnull, i_getf, i_putf, i_iret, i_zret, i_aret, i_vret, i_new, i_newa, i_anew, i_oinit, i_callv, i_calls, i_calli, i_max, i_min, i_abs, i_copy, i_throw, i_ldcs, pwt, List.getElem?_cons_zero, List.getElem?_cons_succ, List.set_cons_zero, List.set_cons_succ, List.getD_cons_zero, List.getD_cons_succ, List.length_cons, List.length_nil, List.length_set, List.drop_succ_cons, List.drop_zero, List.take_succ_cons, List.take_zero, List.reverse_cons, List.reverse_nil, List.nil_append, List.cons_append, List.append_nil, List.map_cons, List.map_nil, List.sum_cons, List.sum_nil, Value.category, ne_eq, Nat.reduceEqDiff, reduceIte, ite_self, false_implies, true_implies, true_and, and_true, and_self, Nat.zero_le, Nat.le_refl, Nat.reduceLeDiff, Nat.reduceAdd, Nat.reduceLT, Nat.add_zero, Nat.zero_add, pu_eq, not_false_eq_true, not_true_eq_false, forall_const, if_true, if_false, implies_true, X.f0, X.f8]
  refine c_X8_battlesBorneBy H hm hN ?_
  simp only [i_const, i_load, i_aload, i_store, i_astore, i_inc, i_iadd, i_isub, i_imul, i_idiv, i_irem, i_iand, i_ior, i_ixor, i_ishl, i_ishr, i_iushr, i_ineg, i_i2l, i_i2b, i_i2c, i_lcmp, i_dup, i_dup2, i_pop, i_null, i_alen, i_iald, i_bald, i_lald, i_aald, i_iast, i_bast, i_last, i_aast, i_goto, i_icmp_eq, i_icmp_ne, i_icmp_lt, i_icmp_ge, i_icmp_gt, i_icmp_le, i_if_eq, i_if_ne, i_if_lt, i_if_ge, i_if_gt, i_if_le, i_ifnonnull, i_getf, i_putf, i_iret, i_zret, i_aret, i_vret, i_new, i_newa, i_anew, i_oinit, i_callv, i_calls, i_calli, i_max, i_min, i_abs, i_copy, i_throw, i_ldcs, pwt, List.getElem?_cons_zero, List.getElem?_cons_succ, List.set_cons_zero, List.set_cons_succ, List.getD_cons_zero, List.getD_cons_succ, List.length_cons, List.length_nil, List.length_set, List.drop_succ_cons, List.drop_zero, List.take_succ_cons, List.take_zero, List.reverse_cons, List.reverse_nil, List.nil_append, List.cons_append, List.append_nil, List.map_cons, List.map_nil, List.sum_cons, List.sum_nil, Value.category, ne_eq, Nat.reduceEqDiff, reduceIte, ite_self, false_implies, true_implies, true_and, and_true, and_self, Nat.zero_le, Nat.le_refl, Nat.reduceLeDiff, Nat.reduceAdd, Nat.reduceLT, Nat.add_zero, Nat.zero_add, pu_eq, not_false_eq_true, not_true_eq_false, forall_const, if_true, if_false, implies_true, pRetK, X.f0, X.f8]
  refine c_X8_battlesNotBorneBy H hm hN ?_
  simp only [i_const, i_load, i_aload, i_store, i_astore, i_inc, i_iadd, i_isub, i_imul, i_idiv, i_irem, i_iand, i_ior, i_ixor, i_ishl, i_ishr, i_iushr, i_ineg, i_i2l, i_i2b, i_i2c, i_lcmp, i_dup, i_dup2, i_pop, i_null, i_alen, i_iald, i_bald, i_lald, i_aald, i_iast, i_bast, i_last, i_aast, i_goto, i_icmp_eq, i_icmp_ne, i_icmp_lt, i_icmp_ge, i_icmp_gt, i_icmp_le, i_if_eq, i_if_ne, i_if_lt, i_if_ge, i_if_gt, i_if_le, i_ifnonnull, i_getf, i_putf, i_iret, i_zret, i_aret, i_vret, i_new, i_newa, i_anew, i_oinit, i_callv, i_calls, i_calli, i_max, i_min, i_abs, i_copy, i_throw, i_ldcs, pwt, List.getElem?_cons_zero, List.getElem?_cons_succ, List.set_cons_zero, List.set_cons_succ, List.getD_cons_zero, List.getD_cons_succ, List.length_cons, List.length_nil, List.length_set, List.drop_succ_cons, List.drop_zero, List.take_succ_cons, List.take_zero, List.reverse_cons, List.reverse_nil, List.nil_append, List.cons_append, List.append_nil, List.map_cons, List.map_nil, List.sum_cons, List.sum_nil, Value.category, ne_eq, Nat.reduceEqDiff, reduceIte, ite_self, false_implies, true_implies, true_and, and_true, and_self, Nat.zero_le, Nat.le_refl, Nat.reduceLeDiff, Nat.reduceAdd, Nat.reduceLT, Nat.add_zero, Nat.zero_add, pu_eq, not_false_eq_true, not_true_eq_false, forall_const, if_true, if_false, implies_true, pRetK]
  exact hQ
end WIDOW

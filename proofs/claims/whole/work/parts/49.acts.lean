/-! Army: acts -/
section ACTS
variable {E : PE} {M : PM} {d : Nat} {Q : PQ} {h : PH} {n : Nat} {a b : Nat} {r rb : AR} {lw lb : Option Nat} {C Cb : Option LawL} {pc : Nat}
def E9 (r r' : AR) : Prop := ∀ k, k ≠ 19 → r k = r' k
theorem E9.rf {r : AR} : E9 r r := fun _ _ => rfl
theorem E9.rs (r : AR) (f : Nat → Int32) : E9 (rs r 19 f) r := fun _ hk => rs_ne hk
theorem E9.tr {r r' r'' : AR} (F : E9 r r') (G : E9 r' r'') : E9 r r'' := fun k hk => (F k hk).trans (G k hk)
theorem E9.ru {r r' : AR} (F : E9 r r') {k i : Nat} {x : Int32} (hk : k ≠ 19) : E9 (ru r k i x) (ru r' k i x) := by
  intro q hq
  by_cases e : q = k
  · subst e; rw [ru_eq, ru_eq, F q hk]
  · rw [ru_ne e, ru_ne e, F q hq]
theorem LX.fr {h h' : PH} {a : Nat} {lw : Option Nat} {C : Option LawL} (X : LX h a lw C) (F : FR a h h') : LX h' a lw C := by
  refine X.kept (fun L e => ?_)
  subst e
  match C, X with
  | some ls, X =>
    obtain ⟨x1, -, ⟨f, x4⟩, -⟩ := X
    exact ⟨F L (by omega), F (L + 1) (by omega), f, (F (L + 2) (by omega)).trans x4⟩
  | none, X => exact X.elim
theorem AX.mk {h : PH} {a : Nat} {r r' : AR} {lw : Option Nat} {C : Option LawL} (X : LX h a lw C) (H : AA h a r lw) (e : E9 r r') : AX h a r' lw C := by
  refine ⟨⟨r 19, ?_⟩, X⟩
  have : rs r' 19 (r 19) = r := by
    funext k
    by_cases q : k = 19
    · subst q; exact rs_eq
    · rw [rs_ne q, e k q]
  rw [this]; exact H
/-- outside of the army and of its law's stack nothing has changed -/
def FX (a : Nat) (lw : Option Nat) (h h' : PH) : Prop := ∀ q, (q < a ∨ a + 20 ≤ q) → (∀ L, lw = some L → q ≠ L + 2) → h' q = h q
theorem FX.rf {a : Nat} {lw : Option Nat} {h : PH} : FX a lw h h := fun _ _ _ => rfl
theorem FX.tr {a : Nat} {lw : Option Nat} {h h' h'' : PH} (F : FX a lw h h') (G : FX a lw h' h'') : FX a lw h h'' := fun q h1 h2 => (G q h1 h2).trans (F q h1 h2)
theorem SE.fx {a : Nat} {lw : Option Nat} {h h' : PH} (F : SE a lw h h') : FX a lw h h' := fun q h1 h2 => F q (by omega) h2
theorem FR.fx {a : Nat} {lw : Option Nat} {h h' : PH} (F : FR a h h') : FX a lw h h' := fun q h1 _ => F q h1
/-- a number of a row -/
def cl (r : AR) (k j : Nat) : Nat := (r k j).toNatClampNeg
def NB (r : AR) (k j B : Nat) : Prop := r k j = nI (cl r k j) ∧ cl r k j < B
theorem NB.of {r : AR} {k j B x : Nat} (e : r k j = nI x) (h : x < B) (hB : B ≤ 2 ^ 30) : NB r k j B := by
  have : cl r k j = x := by unfold cl; rw [e]; exact nI_clamp (by omega)
  exact ⟨by rw [this]; exact e, by rw [this]; exact h⟩
theorem cl_of {r : AR} {k j x : Nat} (e : r k j = nI x) (h : x < 2 ^ 31) : cl r k j = x := by unfold cl; rw [e]; exact nI_clamp h
theorem c_X0_draw (X : AX h a r lw C) (hQ : ∀ h', AX h' a (ru r 0 6 (1103515245 * r 0 6 + 12345)) lw C → FR a h h' → Q (.inl (some (.int (((1103515245 * r 0 6 + 12345) >>> (16 : Int32)) &&& 32767)))) h' n) : pCall E M_X0_draw d [.ref a] h n Q := by
  refine pCall_of rfl rfl (Nat.le_of_ble_eq_true rfl) (by simp [Value.category]) ?_
  refine b_X0_draw_0 _ _ _ ?_
  simp only [pEntry, PM.nL, M_X0_draw, List.map_cons, List.map_nil, List.length_cons, List.length_nil, Nat.reduceAdd, Nat.reduceSub, Nat.sub_self, List.replicate_succ, List.replicate_zero, List.cons_append, List.nil_append]
  obtain ⟨f, H⟩ := X.aa
  simp only [i_const, i_load, i_aload, i_store, i_astore, i_inc, i_iadd, i_isub, i_imul, i_idiv, i_irem, i_iand, i_ior, i_ixor, i_ishl, i_ishr, i_iushr, i_ineg, i_i2l, i_i2b, i_i2c, i_lcmp, i_dup, i_dup2, i_pop, i_null, i_alen, i_iald, i_bald, i_lald, i_aald, i_iast, i_bast, i_last, i_aast, i_goto, i_icmp_eq, i_icmp_ne, i_icmp_lt, i_icmp_ge, i_icmp_gt, i_icmp_le, i_if_eq, i_if_ne, i_if_lt, i_if_ge, i_if_gt, i_if_le, i_ifnonnull, i_getf, i_putf, i_iret, i_zret, i_aret, i_vret, i_new, i_newa, i_anew, i_oinit, i_callv, i_calls, i_calli, i_max, i_min, i_abs, i_copy, i_throw, i_ldcs, pwt, List.getElem?_cons_zero, List.getElem?_cons_succ, List.set_cons_zero, List.set_cons_succ, List.getD_cons_zero, List.getD_cons_succ, List.length_cons, List.length_nil, List.length_set, List.drop_succ_cons, List.drop_zero, List.take_succ_cons, List.take_zero, List.reverse_cons, List.reverse_nil, List.nil_append, List.cons_append, List.append_nil, List.map_cons, List.map_nil, List.sum_cons, List.sum_nil, Value.category, ne_eq, Nat.reduceEqDiff, reduceIte, ite_self, false_implies, true_implies, true_and, and_true, and_self, Nat.zero_le, Nat.le_refl, Nat.reduceLeDiff, Nat.reduceAdd, Nat.reduceLT, Nat.add_zero, Nat.zero_add, pu_eq, not_false_eq_true, not_true_eq_false, forall_const, if_true, if_false, implies_true, H.f0]
  refine ⟨rfl, rfl, ?_⟩
  have F : FR a h (pu h (a + 0) (AC a (ru (rs r 19 f) 0 6 (1103515245 * r 0 6 + 12345)) lw 0)) := FR.rf.pu (by decide)
  exact hQ _ (AX.mk (X.2.fr F) (H.ru 0 6 _) ((E9.rs r f).ru (by decide))) F
def hdS (r : AR) (s to pay : Nat) : AR := rLog (ru (ru (ru (ru (ru r 7 to (nI (cl r 7 to - pay))) 7 (cl r 15 s) (nI (min 9999 (cl r 7 (cl r 15 s) + pay)))) 6 (cl r 15 s) (r 6 to)) 6 to (r 6 (cl r 15 s))) 15 s (nI to)) (cl r 17 1) (cl r 17 0) (r 0 5) (nI s) (nI (cl r 15 s)) (nI to) (nI pay)
theorem c_X0_handOver {s to pay : Nat} (X : AX h a r lw C) (hs : s < 24) (hf : NB r 15 s 10) (ht : to < 10) (hne : cl r 15 s ≠ to) (hc : NB r 7 to 10000) (hp : pay ≤ cl r 7 to) (hc2 : NB r 7 (cl r 15 s) 10000) (hl : NB r 17 0 61) (hx : NB r 17 1 60)
    (hQ : ∀ h', AX h' a (hdS r s to pay) lw C → FX a lw h h' → Q (.inl none) h' n) : pCall E M_X0_handOver (d + 1) [.ref a, .int (nI s), .int (nI to), .int (nI pay)] h n Q := by
  refine pCall_of rfl rfl (Nat.le_of_ble_eq_true rfl) (by simp [Value.category]) ?_
  refine b_X0_handOver_0 _ _ _ ?_
  simp only [pEntry, PM.nL, M_X0_handOver, List.map_cons, List.map_nil, List.length_cons, List.length_nil, Nat.reduceAdd, Nat.reduceSub, Nat.sub_self, List.replicate_succ, List.replicate_zero, List.cons_append, List.nil_append]
  obtain ⟨f, H⟩ := X.aa
  have hfr : cl r 15 s < 10 := hf.2
  have hb : rs r 19 f 15 s = nI (cl r 15 s) := hf.1
  have hct : rs r 19 f 7 to = nI (cl r 7 to) := hc.1
  have v1 : vp_in (nI s) 24 := vp_in_nI hs (by decide)
  have c1 : (nI s).toNatClampNeg = s := nI_clamp (by omega)
  have v2 : vp_in (nI to) 10 := vp_in_nI ht (by decide)
  have c2 : (nI to).toNatClampNeg = to := nI_clamp (by omega)
  have s1 : nI (cl r 7 to) - nI pay = nI (cl r 7 to - pay) := pk_sub hp
  have := hc.2
  have := hc2.2
  simp only [i_const, i_load, i_aload, i_store, i_astore, i_inc, i_iadd, i_isub, i_imul, i_idiv, i_irem, i_iand, i_ior, i_ixor, i_ishl, i_ishr, i_iushr, i_ineg, i_i2l, i_i2b, i_i2c, i_lcmp, i_dup, i_dup2, i_pop, i_null, i_alen, i_iald, i_bald, i_lald, i_aald, i_iast, i_bast, i_last, i_aast, i_goto, i_icmp_eq, i_icmp_ne, i_icmp_lt, i_icmp_ge, i_icmp_gt, i_icmp_le, i_if_eq, i_if_ne, i_if_lt, i_if_ge, i_if_gt, i_if_le, i_ifnonnull, i_getf, i_putf, i_iret, i_zret, i_aret, i_vret, i_new, i_newa, i_anew, i_oinit, i_callv, i_calls, i_calli, i_max, i_min, i_abs, i_copy, i_throw, i_ldcs, pwt, List.getElem?_cons_zero, List.getElem?_cons_succ, List.set_cons_zero, List.set_cons_succ, List.getD_cons_zero, List.getD_cons_succ, List.length_cons, List.length_nil, List.length_set, List.drop_succ_cons, List.drop_zero, List.take_succ_cons, List.take_zero, List.reverse_cons, List.reverse_nil, List.nil_append, List.cons_append, List.append_nil, List.map_cons, List.map_nil, List.sum_cons, List.sum_nil, Value.category, ne_eq, Nat.reduceEqDiff, reduceIte, ite_self, false_implies, true_implies, true_and, and_true, and_self, Nat.zero_le, Nat.le_refl, Nat.reduceLeDiff, Nat.reduceAdd, Nat.reduceLT, Nat.add_zero, Nat.zero_add, pu_eq, not_false_eq_true, not_true_eq_false, forall_const, if_true, if_false, implies_true, H.f0, H.f5, H.f7, H.f8, H.f15, hb, hct, v1, c1, v2, c2, s1, pu_add, pu_add0]
  have F1 : FR a h (pu h (a + 7) (AC a (ru (rs r 19 f) 7 to (nI (cl r 7 to - pay))) lw 7)) := FR.rf.pu (by decide)
  have H1 := H.ru 7 to (nI (cl r 7 to - pay))
  refine c_X7_earn H1 hfr (c := cl r 7 (cl r 15 s)) (s := pay) ?_ (by omega) (by omega) ?_
  · rw [ru_eq, upd, if_neg hne]; exact hc2.1
  intro h2 H2 F2
  simp only [i_const, i_load, i_aload, i_store, i_astore, i_inc, i_iadd, i_isub, i_imul, i_idiv, i_irem, i_iand, i_ior, i_ixor, i_ishl, i_ishr, i_iushr, i_ineg, i_i2l, i_i2b, i_i2c, i_lcmp, i_dup, i_dup2, i_pop, i_null, i_alen, i_iald, i_bald, i_lald, i_aald, i_iast, i_bast, i_last, i_aast, i_goto, i_icmp_eq, i_icmp_ne, i_icmp_lt, i_icmp_ge, i_icmp_gt, i_icmp_le, i_if_eq, i_if_ne, i_if_lt, i_if_ge, i_if_gt, i_if_le, i_ifnonnull, i_getf, i_putf, i_iret, i_zret, i_aret, i_vret, i_new, i_newa, i_anew, i_oinit, i_callv, i_calls, i_calli, i_max, i_min, i_abs, i_copy, i_throw, i_ldcs, pwt, List.getElem?_cons_zero, List.getElem?_cons_succ, List.set_cons_zero, List.set_cons_succ, List.getD_cons_zero, List.getD_cons_succ, List.length_cons, List.length_nil, List.length_set, List.drop_succ_cons, List.drop_zero, List.take_succ_cons, List.take_zero, List.reverse_cons, List.reverse_nil, List.nil_append, List.cons_append, List.append_nil, List.map_cons, List.map_nil, List.sum_cons, List.sum_nil, Value.category, ne_eq, Nat.reduceEqDiff, reduceIte, ite_self, false_implies, true_implies, true_and, and_true, and_self, Nat.zero_le, Nat.le_refl, Nat.reduceLeDiff, Nat.reduceAdd, Nat.reduceLT, Nat.add_zero, Nat.zero_add, pu_eq, not_false_eq_true, not_true_eq_false, forall_const, if_true, if_false, implies_true, pRetK, H2.f0, H2.f5]
  refine c_X7_changeNames H2 hfr ht ?_
  intro h3 H3 F3
  simp only [i_const, i_load, i_aload, i_store, i_astore, i_inc, i_iadd, i_isub, i_imul, i_idiv, i_irem, i_iand, i_ior, i_ixor, i_ishl, i_ishr, i_iushr, i_ineg, i_i2l, i_i2b, i_i2c, i_lcmp, i_dup, i_dup2, i_pop, i_null, i_alen, i_iald, i_bald, i_lald, i_aald, i_iast, i_bast, i_last, i_aast, i_goto, i_icmp_eq, i_icmp_ne, i_icmp_lt, i_icmp_ge, i_icmp_gt, i_icmp_le, i_if_eq, i_if_ne, i_if_lt, i_if_ge, i_if_gt, i_if_le, i_ifnonnull, i_getf, i_putf, i_iret, i_zret, i_aret, i_vret, i_new, i_newa, i_anew, i_oinit, i_callv, i_calls, i_calli, i_max, i_min, i_abs, i_copy, i_throw, i_ldcs, pwt, List.getElem?_cons_zero, List.getElem?_cons_succ, List.set_cons_zero, List.set_cons_succ, List.getD_cons_zero, List.getD_cons_succ, List.length_cons, List.length_nil, List.length_set, List.drop_succ_cons, List.drop_zero, List.take_succ_cons, List.take_zero, List.reverse_cons, List.reverse_nil, List.nil_append, List.cons_append, List.append_nil, List.map_cons, List.map_nil, List.sum_cons, List.sum_nil, Value.category, ne_eq, Nat.reduceEqDiff, reduceIte, ite_self, false_implies, true_implies, true_and, and_true, and_self, Nat.zero_le, Nat.le_refl, Nat.reduceLeDiff, Nat.reduceAdd, Nat.reduceLT, Nat.add_zero, Nat.zero_add, pu_eq, not_false_eq_true, not_true_eq_false, forall_const, if_true, if_false, implies_true, pRetK, H3.f0, H3.f8, H3.f15, H3.f5, H3.f17, v1, c1, pu_add, pu_add0]
  have H4 := H3.ru 15 s (nI to)
  refine c_X5_add (m := cl r 17 0) (nx := cl r 17 1) H4 hl.1 (by have := hl.2; omega) hx.1 hx.2 ?_
  intro h5 H5 F5
  simp only [i_const, i_load, i_aload, i_store, i_astore, i_inc, i_iadd, i_isub, i_imul, i_idiv, i_irem, i_iand, i_ior, i_ixor, i_ishl, i_ishr, i_iushr, i_ineg, i_i2l, i_i2b, i_i2c, i_lcmp, i_dup, i_dup2, i_pop, i_null, i_alen, i_iald, i_bald, i_lald, i_aald, i_iast, i_bast, i_last, i_aast, i_goto, i_icmp_eq, i_icmp_ne, i_icmp_lt, i_icmp_ge, i_icmp_gt, i_icmp_le, i_if_eq, i_if_ne, i_if_lt, i_if_ge, i_if_gt, i_if_le, i_ifnonnull, i_getf, i_putf, i_iret, i_zret, i_aret, i_vret, i_new, i_newa, i_anew, i_oinit, i_callv, i_calls, i_calli, i_max, i_min, i_abs, i_copy, i_throw, i_ldcs, pwt, List.getElem?_cons_zero, List.getElem?_cons_succ, List.set_cons_zero, List.set_cons_succ, List.getD_cons_zero, List.getD_cons_succ, List.length_cons, List.length_nil, List.length_set, List.drop_succ_cons, List.drop_zero, List.take_succ_cons, List.take_zero, List.reverse_cons, List.reverse_nil, List.nil_append, List.cons_append, List.append_nil, List.map_cons, List.map_nil, List.sum_cons, List.sum_nil, Value.category, ne_eq, Nat.reduceEqDiff, reduceIte, ite_self, false_implies, true_implies, true_and, and_true, and_self, Nat.zero_le, Nat.le_refl, Nat.reduceLeDiff, Nat.reduceAdd, Nat.reduceLT, Nat.add_zero, Nat.zero_add, pu_eq, not_false_eq_true, not_true_eq_false, forall_const, if_true, if_false, implies_true, pRetK]
  have F : FR a h h5 := ((F1.tr F2).tr F3).tr (((FR.rf (a := a) (h := h3)).pu (by decide)).tr F5)
  refine hQ h5 (AX.mk (X.2.fr F) H5 ?_) F.fx
  unfold hdS rLog
  exact ((((((((((((E9.rs r f).ru (by decide)).ru (by decide)).ru (by decide)).ru (by decide)).ru (by decide)).ru (by decide)).ru (by decide)).ru (by decide)).ru (by decide)).ru (by decide)).ru (by decide)).ru (by decide)
end ACTS

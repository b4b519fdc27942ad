/-! the reference: a line holds; a scar is void; its worth -/
section MHOLD
variable {E : PE} {M : PM} {d : Nat} {Q : PQ} {h h' : PH} {n : Nat} {m : Nat} {w : AR} {r : AR} {C : Option LawL} {pc : Nat} {ls : LawL}
theorem rs_rs {w : AR} {k : Nat} {f g : Nat → Int32} : rs (rs w k f) k g = rs w k g := by
  funext j
  by_cases e : j = k
  · subst e; rw [rs_eq, rs_eq]
  · rw [rs_ne e, rs_ne e, rs_ne e]
theorem ME.pu {c : PC} (F : ME m h h') : ME m h (pu h' (m + 8) c) := fun q hq => (pu_ne hq).trans (F q hq)
theorem stI_le {o : Nat} (h : o < 1010) : ¬ (10 : Int32) < stI o := by
  unfold stI
  by_cases c : o < 1000
  · rw [if_pos c]; decide
  · rw [if_neg c, if_pos h]
    exact nI_nlt (b := o - 1000) (a := 10) (by omega) (by decide)
theorem c_X12_holdsLine {s i : Nat} {man : Int32} {l : Nat × Nat × List Nat} (X : MX h m w) (R : RW (w 1) r (some ls)) (W : WA r) (hs : s < cl r 8 0) (hi : i < ls.length) (hl : ls[i]? = some l)
    (hQ1 : ∀ h', MX h' m w → ME m h h' → hldB (factS r s (bat r s) man) l.2.2 = true → Q (.inl (some (.int 1))) h' n)
    (hQ0 : ∀ h', MX h' m w → ME m h h' → ¬ hldB (factS r s (bat r s) man) l.2.2 = true → Q (.inl (some (.int 0))) h' n) : pCall E M_X12_holdsLine (d + 4) [.ref m, .int (nI i), .int (nI s), .int man] h n Q := by
  refine pCall_of rfl rfl (Nat.le_of_ble_eq_true rfl) (by simp [Value.category]) ?_
  refine b_X12_holdsLine_0 _ _ _ ?_
  simp only [pEntry, PM.nL, M_X12_holdsLine, List.map_cons, List.map_nil, List.length_cons, List.length_nil, Nat.reduceAdd, Nat.reduceSub, Nat.sub_self, List.replicate_succ, List.replicate_zero, List.cons_append, List.nil_append]
  obtain ⟨T4, T0, TL, T12, TT⟩ := R.2.2.2.2.2
  obtain ⟨k1, k2, k3, k4, k5, k6⟩ := TL i hi l hl
  have lt := TT l (List.mem_of_getElem? hl)
  generalize hS : sN ls i = S at k3 k4 k5 k6
  have e0 : (555 : Int32) + 4 * nI i = nI (555 + 4 * i) := by rw [show (555 : Int32) = nI 555 from rfl, show (4 : Int32) = nI 4 from rfl, pk_mul, nI_add]
  have e1 : nI (555 + 4 * i) + 2 = nI (555 + 4 * i + 2) := nI_add _ 2
  have e2 : nI (555 + 4 * i) + 3 = nI (555 + 4 * i + 3) := nI_add _ 3
  have v1 := v2252 (x := nI (555 + 4 * i + 2)) rfl (by omega)
  have v2 := v2252 (x := nI (555 + 4 * i + 3)) rfl (by omega)
  have k3' : w 1 (555 + 4 * i + 2) = nI S := k3
  have k4' : w 1 (555 + 4 * i + 3) = nI (S + l.2.2.length) := k4
  simp only [i_const, i_load, i_aload, i_store, i_astore, i_inc, i_iadd, i_isub, i_imul, i_idiv, i_irem, i_iand, i_ior, i_ixor, i_ishl, i_ishr, i_iushr, i_ineg, i_i2l, i_i2b, i_i2c, i_lcmp, i_dup, i_dup2, i_pop, i_null, i_alen, i_iald, i_bald, i_lald, i_aald, i_iast, i_bast, i_last, i_aast, i_goto, i_icmp_eq, i_icmp_ne, i_icmp_lt, i_icmp_ge, i_icmp_gt, i_icmp_le, i_if_eq, i_if_ne, i_if_lt, i_if_ge, i_if_gt, i_if_le, i_ifnonnull, i_getf, i_putf, i_iret, i_zret, i_aret, i_vret, i_new, i_newa, i_anew, i_oinit, i_callv, i_calls, i_calli, i_max, i_min, i_abs, i_copy, i_throw, i_ldcs, pwt, List.getElem?_cons_zero, List.getElem?_cons_succ, List.set_cons_zero, List.set_cons_succ, List.getD_cons_zero, List.getD_cons_succ, List.length_cons, List.length_nil, List.length_set, List.drop_succ_cons, List.drop_zero, List.take_succ_cons, List.take_zero, List.reverse_cons, List.reverse_nil, List.nil_append, List.cons_append, List.append_nil, List.map_cons, List.map_nil, List.sum_cons, List.sum_nil, Value.category, ne_eq, Nat.reduceEqDiff, reduceIte, ite_self, false_implies, true_implies, true_and, and_true, and_self, Nat.zero_le, Nat.le_refl, Nat.reduceLeDiff, Nat.reduceAdd, Nat.reduceLT, Nat.add_zero, Nat.zero_add, pu_eq, not_false_eq_true, not_true_eq_false, forall_const, if_true, if_false, implies_true, X.f0, X.f1, e0, e1, v1.1, v1.2, k3']
  obtain ⟨f0, H0⟩ := X
  generalize hops : l.2.2 = ops at *
  have main : ops ≠ [] → tyL ops [] = some [true] ∧ hgL ops 0 = some 1 := fun q => lt.2.2.2.resolve_left (by rw [hops]; exact q) |> fun z => by rw [hops] at z; exact z
  by_cases hn : ops = []
  · subst hn
    refine b_X12_holdsLine_23 _ _ _ ?_
    have X0 : MX h m w := ⟨f0, H0⟩
    simp only [i_const, i_load, i_aload, i_store, i_astore, i_inc, i_iadd, i_isub, i_imul, i_idiv, i_irem, i_iand, i_ior, i_ixor, i_ishl, i_ishr, i_iushr, i_ineg, i_i2l, i_i2b, i_i2c, i_lcmp, i_dup, i_dup2, i_pop, i_null, i_alen, i_iald, i_bald, i_lald, i_aald, i_iast, i_bast, i_last, i_aast, i_goto, i_icmp_eq, i_icmp_ne, i_icmp_lt, i_icmp_ge, i_icmp_gt, i_icmp_le, i_if_eq, i_if_ne, i_if_lt, i_if_ge, i_if_gt, i_if_le, i_ifnonnull, i_getf, i_putf, i_iret, i_zret, i_aret, i_vret, i_new, i_newa, i_anew, i_oinit, i_callv, i_calls, i_calli, i_max, i_min, i_abs, i_copy, i_throw, i_ldcs, pwt, List.getElem?_cons_zero, List.getElem?_cons_succ, List.set_cons_zero, List.set_cons_succ, List.getD_cons_zero, List.getD_cons_succ, List.length_cons, List.length_nil, List.length_set, List.drop_succ_cons, List.drop_zero, List.take_succ_cons, List.take_zero, List.reverse_cons, List.reverse_nil, List.nil_append, List.cons_append, List.append_nil, List.map_cons, List.map_nil, List.sum_cons, List.sum_nil, Value.category, ne_eq, Nat.reduceEqDiff, reduceIte, ite_self, false_implies, true_implies, true_and, and_true, and_self, Nat.zero_le, Nat.le_refl, Nat.reduceLeDiff, Nat.reduceAdd, Nat.reduceLT, Nat.add_zero, Nat.zero_add, pu_eq, not_false_eq_true, not_true_eq_false, forall_const, if_true, if_false, implies_true, X0.f0, X0.f1, e2, v2.1, v2.2, k4', nI_le_self]
    exact ⟨Or.inr trivial, hQ1 _ X0 ME.rf rfl⟩
  obtain ⟨ty0, hg0⟩ := main hn
  have fk := factK W hs (man := man)
  generalize hfc : factS r s (bat r s) man = fc at *
  refine pFor ops.length (fun j ls' σ => ∃ (stk : List Int32) (tys : List Bool) (f : Nat → Int32) (h' : PH), evL fc ops [] = evL fc (ops.drop j) stk ∧ hgL (ops.drop j) stk.length = some 1 ∧ tyL (ops.drop j) tys = some [true] ∧ TyS tys stk ∧ stk.length ≤ 24 ∧ Stk f stk ∧ MM h' m (rs w 8 f) ∧ ME m h h' ∧
    (∃ x7 x8 x9 x10, ls' = [some (.ref m), some (.int (nI i)), some (.int (nI s)), some (.int man), some (.int (nI stk.length)), some (.int (nI (555 + 4 * i))), some (.int (nI (S + j))), x7, x8, x9, x10]) ∧ σ = (h', n, 0, 0)) ?_ ?_ 0 (Nat.zero_le _) _ _
    ⟨[], [], f0, h, rfl, hg0, ty0, trivial, Nat.zero_le _, fun i hi => absurd hi (Nat.not_lt_zero i), H0, ME.rf, ⟨_, _, _, _, rfl⟩, rfl⟩
  · rintro j hj ls' σ ⟨stk, tys, f, h', he, hh, ht, hT, hl24, hst, hM, hE, ⟨x7, x8, x9, x10, rfl⟩, rfl⟩ ih
    have hdrop : ops.drop j = ops.getD j 0 :: ops.drop (j + 1) := by
      rw [List.drop_eq_getElem_cons hj, List.getD_eq_getElem?_getD, List.getElem?_eq_getElem hj]; rfl
    obtain ⟨k6a, k6b⟩ := k6 j hj
    generalize ho : ops.getD j 0 = o at hdrop k6a k6b
    rw [hdrop] at he hh ht
    have Xh : MX h' m w := ⟨f, hM⟩
    cases hh1 : hg1 o stk.length with
    | none => rw [hgL, hh1] at hh; cases hh
    | some z =>
    have hz : (ev1 fc o stk).length = z := ev1_len hh1
    have hh2 : hgL (ops.drop (j + 1)) (ev1 fc o stk).length = some 1 := by rw [hz]; rw [hgL, hh1] at hh; exact hh
    cases ht1 : ty1 o tys with
    | none => rw [tyL, ht1] at ht; cases ht
    | some tys' =>
    have ht2 : tyL (ops.drop (j + 1)) tys' = some [true] := by rw [tyL, ht1] at ht; exact ht
    obtain ⟨hT2, ho6, ho7⟩ := TyS_1 fk hT ht1
    have a1 : ¬ nI (S + ops.length) ≤ nI (S + j) := nI_ge (by omega) (by omega)
    have a3 : (603 : Int32) + 2 * nI (S + j) = nI (603 + 2 * (S + j)) := by rw [show (603 : Int32) = nI 603 from rfl, show (2 : Int32) = nI 2 from rfl, pk_mul, nI_add]
    have a4 := v2252 (x := nI (603 + 2 * (S + j))) rfl (by omega)
    have a5 : nI (603 + 2 * (S + j)) + 1 = nI (603 + 2 * (S + j) + 1) := nI_1 _
    have a6 := v2252 (x := nI (603 + 2 * (S + j) + 1)) rfl (by omega)
    have a7 : nI (S + j) + 1 = nI (S + (j + 1)) := nI_1 _
    have q1 : w 1 (603 + 2 * (S + j)) = stI o := k6a
    have q2 : w 1 (603 + 2 * (S + j) + 1) = stA o := k6b
    have go : ∀ (f2 : Nat → Int32) (h2 : PH) (x7 x8 x9 x10 : Option Value), Stk f2 (ev1 fc o stk) → (ev1 fc o stk).length ≤ 24 → MM h2 m (rs w 8 f2) → ME m h h2 → PW E M_X12_holdsLine (d + 3 + 1) Q 23 [some (.ref m), some (.int (nI i)), some (.int (nI s)), some (.int man), some (.int (nI (ev1 fc o stk).length)), some (.int (nI (555 + 4 * i))), some (.int (nI (S + (j + 1)))), x7, x8, x9, x10] [] (h2, n, 0, 0) :=
      fun f2 h2 x7 x8 x9 x10 z1 z2 z3 z4 => ih _ _ ⟨ev1 fc o stk, tys', f2, h2, he, hh2, ht2, hT2, z2, z1, z3, z4, ⟨_, _, _, _, rfl⟩, rfl⟩
    have put : ∀ f2 : Nat → Int32, MM (pu h' (m + 8) (.inl (.int, (400, .inl f2)))) m (rs w 8 f2) := fun f2 => by
      have := hM.rs 8 f2
      rw [rs_rs] at this
      exact this
    refine b_X12_holdsLine_23 _ _ _ ?_
    simp only [i_const, i_load, i_aload, i_store, i_astore, i_inc, i_iadd, i_isub, i_imul, i_idiv, i_irem, i_iand, i_ior, i_ixor, i_ishl, i_ishr, i_iushr, i_ineg, i_i2l, i_i2b, i_i2c, i_lcmp, i_dup, i_dup2, i_pop, i_null, i_alen, i_iald, i_bald, i_lald, i_aald, i_iast, i_bast, i_last, i_aast, i_goto, i_icmp_eq, i_icmp_ne, i_icmp_lt, i_icmp_ge, i_icmp_gt, i_icmp_le, i_if_eq, i_if_ne, i_if_lt, i_if_ge, i_if_gt, i_if_le, i_ifnonnull, i_getf, i_putf, i_iret, i_zret, i_aret, i_vret, i_new, i_newa, i_anew, i_oinit, i_callv, i_calls, i_calli, i_max, i_min, i_abs, i_copy, i_throw, i_ldcs, pwt, List.getElem?_cons_zero, List.getElem?_cons_succ, List.set_cons_zero, List.set_cons_succ, List.getD_cons_zero, List.getD_cons_succ, List.length_cons, List.length_nil, List.length_set, List.drop_succ_cons, List.drop_zero, List.take_succ_cons, List.take_zero, List.reverse_cons, List.reverse_nil, List.nil_append, List.cons_append, List.append_nil, List.map_cons, List.map_nil, List.sum_cons, List.sum_nil, Value.category, ne_eq, Nat.reduceEqDiff, reduceIte, ite_self, false_implies, true_implies, true_and, and_true, and_self, Nat.zero_le, Nat.le_refl, Nat.reduceLeDiff, Nat.reduceAdd, Nat.reduceLT, Nat.add_zero, Nat.zero_add, pu_eq, not_false_eq_true, not_true_eq_false, forall_const, if_true, if_false, implies_true, hM.f0, hM.f1, show rs w 8 f 1 = w 1 from rfl, e2, v2.1, v2.2, k4', a1, a3, a4.1, a4.2, q1]
    unfold hg1 at hh1
    by_cases c : o < 2000
    · rw [if_pos c] at hh1
      have c10 : o < 1010 := by omega
      have c24 : stk.length < 24 := by
        by_cases q : stk.length < 24
        · exact q
        · rw [if_neg q] at hh1; cases hh1
      have hev : ev1 fc o stk = (if o < 1000 then nI o else fc ((o - 1000) % 10)) :: stk := by unfold ev1; rw [if_pos c]
      have a8 : vp_in (nI stk.length) 400 := vp_in_nI (by omega) (by decide)
      have a9 : (nI stk.length).toNatClampNeg = stk.length := nI_clamp (by omega)
      simp only [i_const, i_load, i_aload, i_store, i_astore, i_inc, i_iadd, i_isub, i_imul, i_idiv, i_irem, i_iand, i_ior, i_ixor, i_ishl, i_ishr, i_iushr, i_ineg, i_i2l, i_i2b, i_i2c, i_lcmp, i_dup, i_dup2, i_pop, i_null, i_alen, i_iald, i_bald, i_lald, i_aald, i_iast, i_bast, i_last, i_aast, i_goto, i_icmp_eq, i_icmp_ne, i_icmp_lt, i_icmp_ge, i_icmp_gt, i_icmp_le, i_if_eq, i_if_ne, i_if_lt, i_if_ge, i_if_gt, i_if_le, i_ifnonnull, i_getf, i_putf, i_iret, i_zret, i_aret, i_vret, i_new, i_newa, i_anew, i_oinit, i_callv, i_calls, i_calli, i_max, i_min, i_abs, i_copy, i_throw, i_ldcs, pwt, List.getElem?_cons_zero, List.getElem?_cons_succ, List.set_cons_zero, List.set_cons_succ, List.getD_cons_zero, List.getD_cons_succ, List.length_cons, List.length_nil, List.length_set, List.drop_succ_cons, List.drop_zero, List.take_succ_cons, List.take_zero, List.reverse_cons, List.reverse_nil, List.nil_append, List.cons_append, List.append_nil, List.map_cons, List.map_nil, List.sum_cons, List.sum_nil, Value.category, ne_eq, Nat.reduceEqDiff, reduceIte, ite_self, false_implies, true_implies, true_and, and_true, and_self, Nat.zero_le, Nat.le_refl, Nat.reduceLeDiff, Nat.reduceAdd, Nat.reduceLT, Nat.add_zero, Nat.zero_add, pu_eq, not_false_eq_true, not_true_eq_false, forall_const, if_true, if_false, implies_true, stI_le c10, hM.f0, hM.f1, show rs w 8 f 1 = w 1 from rfl, a3, a5, a6.1, a6.2, q2]
      refine c_X12_factOf Xh R W hs c10 ?_
      have efc : (if o < 1000 then nI o else factS r s (bat r s) man (o - 1000)) = (if o < 1000 then nI o else fc ((o - 1000) % 10)) := by
        rw [hfc, Nat.mod_eq_of_lt (show o - 1000 < 10 by omega)]
      rw [efc]
      simp only [i_const, i_load, i_aload, i_store, i_astore, i_inc, i_iadd, i_isub, i_imul, i_idiv, i_irem, i_iand, i_ior, i_ixor, i_ishl, i_ishr, i_iushr, i_ineg, i_i2l, i_i2b, i_i2c, i_lcmp, i_dup, i_dup2, i_pop, i_null, i_alen, i_iald, i_bald, i_lald, i_aald, i_iast, i_bast, i_last, i_aast, i_goto, i_icmp_eq, i_icmp_ne, i_icmp_lt, i_icmp_ge, i_icmp_gt, i_icmp_le, i_if_eq, i_if_ne, i_if_lt, i_if_ge, i_if_gt, i_if_le, i_ifnonnull, i_getf, i_putf, i_iret, i_zret, i_aret, i_vret, i_new, i_newa, i_anew, i_oinit, i_callv, i_calls, i_calli, i_max, i_min, i_abs, i_copy, i_throw, i_ldcs, pwt, List.getElem?_cons_zero, List.getElem?_cons_succ, List.set_cons_zero, List.set_cons_succ, List.getD_cons_zero, List.getD_cons_succ, List.length_cons, List.length_nil, List.length_set, List.drop_succ_cons, List.drop_zero, List.take_succ_cons, List.take_zero, List.reverse_cons, List.reverse_nil, List.nil_append, List.cons_append, List.append_nil, List.map_cons, List.map_nil, List.sum_cons, List.sum_nil, Value.category, ne_eq, Nat.reduceEqDiff, reduceIte, ite_self, false_implies, true_implies, true_and, and_true, and_self, Nat.zero_le, Nat.le_refl, Nat.reduceLeDiff, Nat.reduceAdd, Nat.reduceLT, Nat.add_zero, Nat.zero_add, pu_eq, not_false_eq_true, not_true_eq_false, forall_const, if_true, if_false, implies_true, pRetK, hM.f8, show rs w 8 f 8 = f from rfl, a8, a9, nI_1, a7]
      have := go (upd f stk.length (if o < 1000 then nI o else fc ((o - 1000) % 10))) _ (some (.int (stI o))) x8 x9 x10 (by rw [hev]; exact hst.push _) (by rw [hev]; exact c24) (put _) hE.pu
      rw [hev] at this
      exact this
    · rw [if_neg c] at hh1
      have o2 : 2000 ≤ o := by omega
      by_cases c2 : o = 2000
      · subst c2
        rw [if_pos rfl] at hh1
        have s14 : stI 2000 = 14 := rfl
        match stk, hh1, hst, hl24, go, hT with
        | [], hh1, _, _, _, _ => simp at hh1
        | x :: t, hh1, hst, hl24, go, hT =>
          have hev : ev1 fc 2000 (x :: t) = (1 - x) :: t := rfl
          have b2 : nI (t.length + 1) - 1 = nI t.length := nI_pred _
          have b3 : vp_in (nI t.length) 400 := vp_in_nI (by simp only [List.length_cons] at hl24; omega) (by decide)
          have b4 : (nI t.length).toNatClampNeg = t.length := nI_clamp (by simp only [List.length_cons] at hl24; omega)
          simp only [i_const, i_load, i_aload, i_store, i_astore, i_inc, i_iadd, i_isub, i_imul, i_idiv, i_irem, i_iand, i_ior, i_ixor, i_ishl, i_ishr, i_iushr, i_ineg, i_i2l, i_i2b, i_i2c, i_lcmp, i_dup, i_dup2, i_pop, i_null, i_alen, i_iald, i_bald, i_lald, i_aald, i_iast, i_bast, i_last, i_aast, i_goto, i_icmp_eq, i_icmp_ne, i_icmp_lt, i_icmp_ge, i_icmp_gt, i_icmp_le, i_if_eq, i_if_ne, i_if_lt, i_if_ge, i_if_gt, i_if_le, i_ifnonnull, i_getf, i_putf, i_iret, i_zret, i_aret, i_vret, i_new, i_newa, i_anew, i_oinit, i_callv, i_calls, i_calli, i_max, i_min, i_abs, i_copy, i_throw, i_ldcs, pwt, List.getElem?_cons_zero, List.getElem?_cons_succ, List.set_cons_zero, List.set_cons_succ, List.getD_cons_zero, List.getD_cons_succ, List.length_cons, List.length_nil, List.length_set, List.drop_succ_cons, List.drop_zero, List.take_succ_cons, List.take_zero, List.reverse_cons, List.reverse_nil, List.nil_append, List.cons_append, List.append_nil, List.map_cons, List.map_nil, List.sum_cons, List.sum_nil, Value.category, ne_eq, Nat.reduceEqDiff, reduceIte, ite_self, false_implies, true_implies, true_and, and_true, and_self, Nat.zero_le, Nat.le_refl, Nat.reduceLeDiff, Nat.reduceAdd, Nat.reduceLT, Nat.add_zero, Nat.zero_add, pu_eq, not_false_eq_true, not_true_eq_false, forall_const, if_true, if_false, implies_true, s14, show (10 : Int32) < 14 by decide, hM.f0, hM.f8, show rs w 8 f 8 = f from rfl, b2, b3, b4, a7, hst.top]
          have := go (upd f t.length (1 - x)) _ (some (.int 14)) x8 x9 x10 (by rw [hev]; exact hst.tail.push _) (by rw [hev]; exact hl24) (put _) hE.pu
          rw [hev] at this
          exact this
      · rw [if_neg c2, if_pos ho6] at hh1
        match stk, hh1, hst, hl24, go, hT with
        | [], hh1, _, _, _, _ => simp at hh1
        | [x], hh1, _, _, _, _ => simp at hh1
        | y :: x :: t, hh1, hst, hl24, go, hT =>
          have hl2 : t.length + 2 ≤ 24 := by simpa using hl24
          have hev : ev1 fc o (y :: x :: t) = op2 o x y :: t := by unfold ev1; rw [if_neg c, if_neg c2]
          have b2 : nI (t.length + 1 + 1) + (-1) = nI (t.length + 1) := pk_m1 _
          have b3 : nI (t.length + 1) - 1 = nI t.length := nI_pred _
          have b4 : vp_in (nI t.length) 400 := vp_in_nI (by omega) (by decide)
          have b5 : (nI t.length).toNatClampNeg = t.length := nI_clamp (by omega)
          have b6 : vp_in (nI (t.length + 1)) 400 := vp_in_nI (by omega) (by decide)
          have b7 : (nI (t.length + 1)).toNatClampNeg = t.length + 1 := nI_clamp (by omega)
          have t1 : f (t.length + 1) = y := hst.top
          have t2 : f t.length = x := hst.tail.top
          have fin : ∀ (v : Int32) x7 x8 x9 x10, v = op2 o x y → PW E M_X12_holdsLine (d + 3 + 1) Q 23 [some (.ref m), some (.int (nI i)), some (.int (nI s)), some (.int man), some (.int (nI (t.length + 1))), some (.int (nI (555 + 4 * i))), some (.int (nI (S + (j + 1)))), x7, x8, x9, x10] [] (pu h' (m + 8) (.inl (.int, (400, .inl (upd f t.length v)))), n, 0, 0) := by
            intro v x7 x8 x9 x10 ev
            subst ev
            have := go (upd f t.length (op2 o x y)) _ x7 x8 x9 x10 (by rw [hev]; exact hst.tail.tail.push _) (by rw [hev]; simp only [List.length_cons]; omega) (put _) hE.pu
            rw [hev] at this
            exact this
          have tail : ∀ (b : Int32), ((stI o = 11 → op2 o x y = x + y) ∧ (stI o ≠ 11 → op2 o x y = if b = 0 then 0 else 1)) → PW E M_X12_holdsLine (d + 3 + 1) Q 229 [some (.ref m), some (.int (nI i)), some (.int (nI s)), some (.int man), some (.int (nI (t.length + 1))), some (.int (nI (555 + 4 * i))), some (.int (nI (S + j))), some (.int (stI o)), some (.int x), some (.int y), x10] [.int b] (h', n, 0, 0) := by
            intro b hb
            refine b_X12_holdsLine_229 _ _ _ ?_
            by_cases c11 : stI o = 11
            · simp only [i_const, i_load, i_aload, i_store, i_astore, i_inc, i_iadd, i_isub, i_imul, i_idiv, i_irem, i_iand, i_ior, i_ixor, i_ishl, i_ishr, i_iushr, i_ineg, i_i2l, i_i2b, i_i2c, i_lcmp, i_dup, i_dup2, i_pop, i_null, i_alen, i_iald, i_bald, i_lald, i_aald, i_iast, i_bast, i_last, i_aast, i_goto, i_icmp_eq, i_icmp_ne, i_icmp_lt, i_icmp_ge, i_icmp_gt, i_icmp_le, i_if_eq, i_if_ne, i_if_lt, i_if_ge, i_if_gt, i_if_le, i_ifnonnull, i_getf, i_putf, i_iret, i_zret, i_aret, i_vret, i_new, i_newa, i_anew, i_oinit, i_callv, i_calls, i_calli, i_max, i_min, i_abs, i_copy, i_throw, i_ldcs, pwt, List.getElem?_cons_zero, List.getElem?_cons_succ, List.set_cons_zero, List.set_cons_succ, List.getD_cons_zero, List.getD_cons_succ, List.length_cons, List.length_nil, List.length_set, List.drop_succ_cons, List.drop_zero, List.take_succ_cons, List.take_zero, List.reverse_cons, List.reverse_nil, List.nil_append, List.cons_append, List.append_nil, List.map_cons, List.map_nil, List.sum_cons, List.sum_nil, Value.category, ne_eq, Nat.reduceEqDiff, reduceIte, ite_self, false_implies, true_implies, true_and, and_true, and_self, Nat.zero_le, Nat.le_refl, Nat.reduceLeDiff, Nat.reduceAdd, Nat.reduceLT, Nat.add_zero, Nat.zero_add, pu_eq, not_false_eq_true, not_true_eq_false, forall_const, if_true, if_false, implies_true, hM.f0, b3, c11, hM.f8, show rs w 8 f 8 = f from rfl, b4, b5, a7]
              have := fin (x + y) (some (.int (stI o))) (some (.int x)) (some (.int y)) (some (.int b)) (hb.1 c11).symm
              rw [c11] at this
              exact this
            · by_cases cb : b = 0
              · simp only [i_const, i_load, i_aload, i_store, i_astore, i_inc, i_iadd, i_isub, i_imul, i_idiv, i_irem, i_iand, i_ior, i_ixor, i_ishl, i_ishr, i_iushr, i_ineg, i_i2l, i_i2b, i_i2c, i_lcmp, i_dup, i_dup2, i_pop, i_null, i_alen, i_iald, i_bald, i_lald, i_aald, i_iast, i_bast, i_last, i_aast, i_goto, i_icmp_eq, i_icmp_ne, i_icmp_lt, i_icmp_ge, i_icmp_gt, i_icmp_le, i_if_eq, i_if_ne, i_if_lt, i_if_ge, i_if_gt, i_if_le, i_ifnonnull, i_getf, i_putf, i_iret, i_zret, i_aret, i_vret, i_new, i_newa, i_anew, i_oinit, i_callv, i_calls, i_calli, i_max, i_min, i_abs, i_copy, i_throw, i_ldcs, pwt, List.getElem?_cons_zero, List.getElem?_cons_succ, List.set_cons_zero, List.set_cons_succ, List.getD_cons_zero, List.getD_cons_succ, List.length_cons, List.length_nil, List.length_set, List.drop_succ_cons, List.drop_zero, List.take_succ_cons, List.take_zero, List.reverse_cons, List.reverse_nil, List.nil_append, List.cons_append, List.append_nil, List.map_cons, List.map_nil, List.sum_cons, List.sum_nil, Value.category, ne_eq, Nat.reduceEqDiff, reduceIte, ite_self, false_implies, true_implies, true_and, and_true, and_self, Nat.zero_le, Nat.le_refl, Nat.reduceLeDiff, Nat.reduceAdd, Nat.reduceLT, Nat.add_zero, Nat.zero_add, pu_eq, not_false_eq_true, not_true_eq_false, forall_const, if_true, if_false, implies_true, hM.f0, b3, c11, cb, hM.f8, show rs w 8 f 8 = f from rfl, b4, b5, a7]
                have := fin 0 (some (.int (stI o))) (some (.int x)) (some (.int y)) (some (.int b)) (by rw [hb.2 c11, if_pos cb])
                rw [cb] at this
                exact this
              · simp only [i_const, i_load, i_aload, i_store, i_astore, i_inc, i_iadd, i_isub, i_imul, i_idiv, i_irem, i_iand, i_ior, i_ixor, i_ishl, i_ishr, i_iushr, i_ineg, i_i2l, i_i2b, i_i2c, i_lcmp, i_dup, i_dup2, i_pop, i_null, i_alen, i_iald, i_bald, i_lald, i_aald, i_iast, i_bast, i_last, i_aast, i_goto, i_icmp_eq, i_icmp_ne, i_icmp_lt, i_icmp_ge, i_icmp_gt, i_icmp_le, i_if_eq, i_if_ne, i_if_lt, i_if_ge, i_if_gt, i_if_le, i_ifnonnull, i_getf, i_putf, i_iret, i_zret, i_aret, i_vret, i_new, i_newa, i_anew, i_oinit, i_callv, i_calls, i_calli, i_max, i_min, i_abs, i_copy, i_throw, i_ldcs, pwt, List.getElem?_cons_zero, List.getElem?_cons_succ, List.set_cons_zero, List.set_cons_succ, List.getD_cons_zero, List.getD_cons_succ, List.length_cons, List.length_nil, List.length_set, List.drop_succ_cons, List.drop_zero, List.take_succ_cons, List.take_zero, List.reverse_cons, List.reverse_nil, List.nil_append, List.cons_append, List.append_nil, List.map_cons, List.map_nil, List.sum_cons, List.sum_nil, Value.category, ne_eq, Nat.reduceEqDiff, reduceIte, ite_self, false_implies, true_implies, true_and, and_true, and_self, Nat.zero_le, Nat.le_refl, Nat.reduceLeDiff, Nat.reduceAdd, Nat.reduceLT, Nat.add_zero, Nat.zero_add, pu_eq, not_false_eq_true, not_true_eq_false, forall_const, if_true, if_false, implies_true, hM.f0, b3, c11, cb, hM.f8, show rs w 8 f 8 = f from rfl, b4, b5, a7]
                exact fin 1 (some (.int (stI o))) (some (.int x)) (some (.int y)) (some (.int b)) (by rw [hb.2 c11, if_neg cb])
          have ho5 : o = 2001 ∨ o = 2002 ∨ o = 2003 ∨ o = 2004 ∨ o = 2005 := by omega
          rcases ho5 with rfl | rfl | rfl | rfl | rfl
          · have s1 : stI 2001 = 11 := rfl
            rw [s1] at tail
            simp only [i_const, i_load, i_aload, i_store, i_astore, i_inc, i_iadd, i_isub, i_imul, i_idiv, i_irem, i_iand, i_ior, i_ixor, i_ishl, i_ishr, i_iushr, i_ineg, i_i2l, i_i2b, i_i2c, i_lcmp, i_dup, i_dup2, i_pop, i_null, i_alen, i_iald, i_bald, i_lald, i_aald, i_iast, i_bast, i_last, i_aast, i_goto, i_icmp_eq, i_icmp_ne, i_icmp_lt, i_icmp_ge, i_icmp_gt, i_icmp_le, i_if_eq, i_if_ne, i_if_lt, i_if_ge, i_if_gt, i_if_le, i_ifnonnull, i_getf, i_putf, i_iret, i_zret, i_aret, i_vret, i_new, i_newa, i_anew, i_oinit, i_callv, i_calls, i_calli, i_max, i_min, i_abs, i_copy, i_throw, i_ldcs, pwt, List.getElem?_cons_zero, List.getElem?_cons_succ, List.set_cons_zero, List.set_cons_succ, List.getD_cons_zero, List.getD_cons_succ, List.length_cons, List.length_nil, List.length_set, List.drop_succ_cons, List.drop_zero, List.take_succ_cons, List.take_zero, List.reverse_cons, List.reverse_nil, List.nil_append, List.cons_append, List.append_nil, List.map_cons, List.map_nil, List.sum_cons, List.sum_nil, Value.category, ne_eq, Nat.reduceEqDiff, reduceIte, ite_self, false_implies, true_implies, true_and, and_true, and_self, Nat.zero_le, Nat.le_refl, Nat.reduceLeDiff, Nat.reduceAdd, Nat.reduceLT, Nat.add_zero, Nat.zero_add, pu_eq, not_false_eq_true, not_true_eq_false, forall_const, if_true, if_false, implies_true, s1, show (10 : Int32) < 11 by decide, show ¬ ((11 : Int32) = 14) by decide, show ¬ ((11 : Int32) = 12) by decide, show ¬ ((11 : Int32) = 13) by decide, show ¬ ((11 : Int32) = 15) by decide, b2, b3, hM.f0, hM.f8, show rs w 8 f 8 = f from rfl, b4, b5, b6, b7, t1, t2]
            exact ⟨fun _ => tail 0 ⟨fun _ => rfl, fun q => absurd rfl q⟩, fun _ => tail 1 ⟨fun _ => rfl, fun q => absurd rfl q⟩⟩
          · have s1 : stI 2002 = 12 := rfl
            rw [s1] at tail
            simp only [i_const, i_load, i_aload, i_store, i_astore, i_inc, i_iadd, i_isub, i_imul, i_idiv, i_irem, i_iand, i_ior, i_ixor, i_ishl, i_ishr, i_iushr, i_ineg, i_i2l, i_i2b, i_i2c, i_lcmp, i_dup, i_dup2, i_pop, i_null, i_alen, i_iald, i_bald, i_lald, i_aald, i_iast, i_bast, i_last, i_aast, i_goto, i_icmp_eq, i_icmp_ne, i_icmp_lt, i_icmp_ge, i_icmp_gt, i_icmp_le, i_if_eq, i_if_ne, i_if_lt, i_if_ge, i_if_gt, i_if_le, i_ifnonnull, i_getf, i_putf, i_iret, i_zret, i_aret, i_vret, i_new, i_newa, i_anew, i_oinit, i_callv, i_calls, i_calli, i_max, i_min, i_abs, i_copy, i_throw, i_ldcs, pwt, List.getElem?_cons_zero, List.getElem?_cons_succ, List.set_cons_zero, List.set_cons_succ, List.getD_cons_zero, List.getD_cons_succ, List.length_cons, List.length_nil, List.length_set, List.drop_succ_cons, List.drop_zero, List.take_succ_cons, List.take_zero, List.reverse_cons, List.reverse_nil, List.nil_append, List.cons_append, List.append_nil, List.map_cons, List.map_nil, List.sum_cons, List.sum_nil, Value.category, ne_eq, Nat.reduceEqDiff, reduceIte, ite_self, false_implies, true_implies, true_and, and_true, and_self, Nat.zero_le, Nat.le_refl, Nat.reduceLeDiff, Nat.reduceAdd, Nat.reduceLT, Nat.add_zero, Nat.zero_add, pu_eq, not_false_eq_true, not_true_eq_false, forall_const, if_true, if_false, implies_true, s1, show (10 : Int32) < 12 by decide, show ¬ ((12 : Int32) = 14) by decide, b2, b3, hM.f0, hM.f8, show rs w 8 f 8 = f from rfl, b4, b5, b6, b7, t1, t2]
            exact ⟨fun q => tail 0 ⟨fun z => absurd z (by decide), fun _ => if_neg (Int32.not_lt.mpr q)⟩, fun q => tail 1 ⟨fun z => absurd z (by decide), fun _ => if_pos (Int32.not_le.mp q)⟩⟩
          · have s1 : stI 2003 = 13 := rfl
            rw [s1] at tail
            simp only [i_const, i_load, i_aload, i_store, i_astore, i_inc, i_iadd, i_isub, i_imul, i_idiv, i_irem, i_iand, i_ior, i_ixor, i_ishl, i_ishr, i_iushr, i_ineg, i_i2l, i_i2b, i_i2c, i_lcmp, i_dup, i_dup2, i_pop, i_null, i_alen, i_iald, i_bald, i_lald, i_aald, i_iast, i_bast, i_last, i_aast, i_goto, i_icmp_eq, i_icmp_ne, i_icmp_lt, i_icmp_ge, i_icmp_gt, i_icmp_le, i_if_eq, i_if_ne, i_if_lt, i_if_ge, i_if_gt, i_if_le, i_ifnonnull, i_getf, i_putf, i_iret, i_zret, i_aret, i_vret, i_new, i_newa, i_anew, i_oinit, i_callv, i_calls, i_calli, i_max, i_min, i_abs, i_copy, i_throw, i_ldcs, pwt, List.getElem?_cons_zero, List.getElem?_cons_succ, List.set_cons_zero, List.set_cons_succ, List.getD_cons_zero, List.getD_cons_succ, List.length_cons, List.length_nil, List.length_set, List.drop_succ_cons, List.drop_zero, List.take_succ_cons, List.take_zero, List.reverse_cons, List.reverse_nil, List.nil_append, List.cons_append, List.append_nil, List.map_cons, List.map_nil, List.sum_cons, List.sum_nil, Value.category, ne_eq, Nat.reduceEqDiff, reduceIte, ite_self, false_implies, true_implies, true_and, and_true, and_self, Nat.zero_le, Nat.le_refl, Nat.reduceLeDiff, Nat.reduceAdd, Nat.reduceLT, Nat.add_zero, Nat.zero_add, pu_eq, not_false_eq_true, not_true_eq_false, forall_const, if_true, if_false, implies_true, s1, show (10 : Int32) < 13 by decide, show ¬ ((13 : Int32) = 14) by decide, show ¬ ((13 : Int32) = 12) by decide, b2, b3, hM.f0, hM.f8, show rs w 8 f 8 = f from rfl, b4, b5, b6, b7, t1, t2]
            exact ⟨fun q => tail 0 ⟨fun z => absurd z (by decide), fun _ => if_neg (Int32.not_lt.mpr q)⟩, fun q => tail 1 ⟨fun z => absurd z (by decide), fun _ => if_pos (Int32.not_le.mp q)⟩⟩
          · have s1 : stI 2004 = 15 := rfl
            rw [s1] at tail
            obtain ⟨tx, ty⟩ : (x = 0 ∨ x = 1) ∧ (y = 0 ∨ y = 1) := by
              match tys, hT, ht1 with
              | true :: true :: ts, hT, _ => exact ⟨hT.2.1 rfl, hT.1 rfl⟩
              | false :: _, _, ht1 => cases ht1
              | true :: false :: _, _, ht1 => cases ht1
              | [true], _, ht1 => cases ht1
              | [], _, ht1 => cases ht1
            simp only [i_const, i_load, i_aload, i_store, i_astore, i_inc, i_iadd, i_isub, i_imul, i_idiv, i_irem, i_iand, i_ior, i_ixor, i_ishl, i_ishr, i_iushr, i_ineg, i_i2l, i_i2b, i_i2c, i_lcmp, i_dup, i_dup2, i_pop, i_null, i_alen, i_iald, i_bald, i_lald, i_aald, i_iast, i_bast, i_last, i_aast, i_goto, i_icmp_eq, i_icmp_ne, i_icmp_lt, i_icmp_ge, i_icmp_gt, i_icmp_le, i_if_eq, i_if_ne, i_if_lt, i_if_ge, i_if_gt, i_if_le, i_ifnonnull, i_getf, i_putf, i_iret, i_zret, i_aret, i_vret, i_new, i_newa, i_anew, i_oinit, i_callv, i_calls, i_calli, i_max, i_min, i_abs, i_copy, i_throw, i_ldcs, pwt, List.getElem?_cons_zero, List.getElem?_cons_succ, List.set_cons_zero, List.set_cons_succ, List.getD_cons_zero, List.getD_cons_succ, List.length_cons, List.length_nil, List.length_set, List.drop_succ_cons, List.drop_zero, List.take_succ_cons, List.take_zero, List.reverse_cons, List.reverse_nil, List.nil_append, List.cons_append, List.append_nil, List.map_cons, List.map_nil, List.sum_cons, List.sum_nil, Value.category, ne_eq, Nat.reduceEqDiff, reduceIte, ite_self, false_implies, true_implies, true_and, and_true, and_self, Nat.zero_le, Nat.le_refl, Nat.reduceLeDiff, Nat.reduceAdd, Nat.reduceLT, Nat.add_zero, Nat.zero_add, pu_eq, not_false_eq_true, not_true_eq_false, forall_const, if_true, if_false, implies_true, s1, show (10 : Int32) < 15 by decide, show ¬ ((15 : Int32) = 14) by decide, show ¬ ((15 : Int32) = 12) by decide, show ¬ ((15 : Int32) = 13) by decide, b2, b3, hM.f0, hM.f8, show rs w 8 f 8 = f from rfl, b4, b5, b6, b7, t1, t2]
            refine ⟨fun q => tail 0 ⟨fun z => absurd z (by decide), fun _ => ?_⟩, fun q => tail 1 ⟨fun z => absurd z (by decide), fun _ => ?_⟩⟩
            · show x &&& y = 0
              rcases tx with rfl | rfl <;> rcases ty with rfl | rfl <;> first | rfl | exact absurd rfl q
            · show x &&& y = 1
              rcases tx with rfl | rfl <;> rcases ty with rfl | rfl <;> first | rfl | exact absurd q (by decide)
          · have s1 : stI 2005 = 16 := rfl
            rw [s1] at tail
            obtain ⟨tx, ty⟩ : (x = 0 ∨ x = 1) ∧ (y = 0 ∨ y = 1) := by
              match tys, hT, ht1 with
              | true :: true :: ts, hT, _ => exact ⟨hT.2.1 rfl, hT.1 rfl⟩
              | false :: _, _, ht1 => cases ht1
              | true :: false :: _, _, ht1 => cases ht1
              | [true], _, ht1 => cases ht1
              | [], _, ht1 => cases ht1
            simp only [i_const, i_load, i_aload, i_store, i_astore, i_inc, i_iadd, i_isub, i_imul, i_idiv, i_irem, i_iand, i_ior, i_ixor, i_ishl, i_ishr, i_iushr, i_ineg, i_i2l, i_i2b, i_i2c, i_lcmp, i_dup, i_dup2, i_pop, i_null, i_alen, i_iald, i_bald, i_lald, i_aald, i_iast, i_bast, i_last, i_aast, i_goto, i_icmp_eq, i_icmp_ne, i_icmp_lt, i_icmp_ge, i_icmp_gt, i_icmp_le, i_if_eq, i_if_ne, i_if_lt, i_if_ge, i_if_gt, i_if_le, i_ifnonnull, i_getf, i_putf, i_iret, i_zret, i_aret, i_vret, i_new, i_newa, i_anew, i_oinit, i_callv, i_calls, i_calli, i_max, i_min, i_abs, i_copy, i_throw, i_ldcs, pwt, List.getElem?_cons_zero, List.getElem?_cons_succ, List.set_cons_zero, List.set_cons_succ, List.getD_cons_zero, List.getD_cons_succ, List.length_cons, List.length_nil, List.length_set, List.drop_succ_cons, List.drop_zero, List.take_succ_cons, List.take_zero, List.reverse_cons, List.reverse_nil, List.nil_append, List.cons_append, List.append_nil, List.map_cons, List.map_nil, List.sum_cons, List.sum_nil, Value.category, ne_eq, Nat.reduceEqDiff, reduceIte, ite_self, false_implies, true_implies, true_and, and_true, and_self, Nat.zero_le, Nat.le_refl, Nat.reduceLeDiff, Nat.reduceAdd, Nat.reduceLT, Nat.add_zero, Nat.zero_add, pu_eq, not_false_eq_true, not_true_eq_false, forall_const, if_true, if_false, implies_true, s1, show (10 : Int32) < 16 by decide, show ¬ ((16 : Int32) = 14) by decide, show ¬ ((16 : Int32) = 12) by decide, show ¬ ((16 : Int32) = 13) by decide, show ¬ ((16 : Int32) = 15) by decide, b2, b3, hM.f0, hM.f8, show rs w 8 f 8 = f from rfl, b4, b5, b6, b7, t1, t2]
            refine ⟨fun q => tail 0 ⟨fun z => absurd z (by decide), fun _ => ?_⟩, fun q => tail 1 ⟨fun z => absurd z (by decide), fun _ => ?_⟩⟩
            · show x ||| y = 0
              rcases tx with rfl | rfl <;> rcases ty with rfl | rfl <;> first | rfl | exact absurd q (by decide)
            · show x ||| y = 1
              rcases tx with rfl | rfl <;> rcases ty with rfl | rfl <;> first | rfl | exact absurd (show (0 : Int32) + 0 ≤ 0 by decide) q
  · rintro ls' σ ⟨stk, tys, f, h', he, hh, ht, hT, hl24, hst, hM, hE, ⟨x7, x8, x9, x10, rfl⟩, rfl⟩
    rw [List.drop_length] at he hh ht
    have h1 : stk.length = 1 := Option.some.inj hh
    have ht' : tys = [true] := Option.some.inj ht
    subst ht'
    match stk, h1, hst, he, hT with
    | [v], _, hst, he, hT =>
      have t0 : f 0 = v := hst.top
      have Xh : MX h' m w := ⟨f, hM⟩
      have hb : hldB fc ops = decide (v ≠ 0) := by
        unfold hldB
        split
        · exact absurd rfl hn
        · rw [show evL fc ops [] = [v] from he]
      refine b_X12_holdsLine_23 _ _ _ ?_
      have z0 : vp_in (0 : Int32) 400 := vp_in_nI (n := 0) (by decide) (by decide)
      simp only [i_const, i_load, i_aload, i_store, i_astore, i_inc, i_iadd, i_isub, i_imul, i_idiv, i_irem, i_iand, i_ior, i_ixor, i_ishl, i_ishr, i_iushr, i_ineg, i_i2l, i_i2b, i_i2c, i_lcmp, i_dup, i_dup2, i_pop, i_null, i_alen, i_iald, i_bald, i_lald, i_aald, i_iast, i_bast, i_last, i_aast, i_goto, i_icmp_eq, i_icmp_ne, i_icmp_lt, i_icmp_ge, i_icmp_gt, i_icmp_le, i_if_eq, i_if_ne, i_if_lt, i_if_ge, i_if_gt, i_if_le, i_ifnonnull, i_getf, i_putf, i_iret, i_zret, i_aret, i_vret, i_new, i_newa, i_anew, i_oinit, i_callv, i_calls, i_calli, i_max, i_min, i_abs, i_copy, i_throw, i_ldcs, pwt, List.getElem?_cons_zero, List.getElem?_cons_succ, List.set_cons_zero, List.set_cons_succ, List.getD_cons_zero, List.getD_cons_succ, List.length_cons, List.length_nil, List.length_set, List.drop_succ_cons, List.drop_zero, List.take_succ_cons, List.take_zero, List.reverse_cons, List.reverse_nil, List.nil_append, List.cons_append, List.append_nil, List.map_cons, List.map_nil, List.sum_cons, List.sum_nil, Value.category, ne_eq, Nat.reduceEqDiff, reduceIte, ite_self, false_implies, true_implies, true_and, and_true, and_self, Nat.zero_le, Nat.le_refl, Nat.reduceLeDiff, Nat.reduceAdd, Nat.reduceLT, Nat.add_zero, Nat.zero_add, pu_eq, not_false_eq_true, not_true_eq_false, forall_const, if_true, if_false, implies_true, hM.f0, hM.f1, show rs w 8 f 1 = w 1 from rfl, e2, v2.1, v2.2, k4', nI_le_self, show ¬ (nI (0 + 1) = 0) by decide, show ¬ (nI 1 = 0) by decide, hM.f8, show rs w 8 f 8 = f from rfl, i32_0c, t0, z0]
      rcases hT.1 rfl with rfl | rfl
      · refine ⟨fun _ => ⟨Or.inl trivial, hQ0 h' Xh hE (by rw [hb]; decide)⟩, fun q => absurd q (by decide)⟩
      · refine ⟨fun q => absurd rfl q, fun _ => ⟨Or.inr trivial, hQ1 h' Xh hE (by rw [hb]; decide)⟩⟩
end MHOLD

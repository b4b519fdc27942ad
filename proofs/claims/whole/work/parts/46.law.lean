/-! THE LAW: a line is its kind (0 worth, 1 less, 2 void), its number, its condition as codes for a stack -/
section LAW
variable {E : PE} {M : PM} {d : Nat} {Q : PQ} {h : PH} {n : Nat} {a b : Nat} {r rb : AR} {lw lb : Option Nat} {pc : Nat}
abbrev LawL : Type := List (Nat × Nat × List Nat)
def encL : LawL → List Nat
  | [] => []
  | (k, z, ops) :: t => k :: z :: ops.length :: (ops ++ encL t)
def op2 (o : Nat) (x y : Int32) : Int32 := if o = 2001 then x + y else if o = 2002 then (if x < y then 1 else 0) else if o = 2003 then (if y < x then 1 else 0) else if o = 2004 then x &&& y else x ||| y
/-- one code over a stack, the top first -/
def ev1 (fc : Nat → Int32) (o : Nat) (s : List Int32) : List Int32 :=
  if o < 2000 then (if o < 1000 then nI o else fc ((o - 1000) % 10)) :: s
  else if o = 2000 then (match s with | x :: t => (1 - x) :: t | [] => [])
  else (match s with | y :: x :: t => op2 o x y :: t | t => t)
def evL (fc : Nat → Int32) (ops : List Nat) (s : List Int32) : List Int32 := ops.foldl (fun s o => ev1 fc o s) s
/-- the height behind a code, if the code may stand there -/
def hg1 (o z : Nat) : Option Nat := if o < 2000 then (if z < 24 then some (z + 1) else none) else if o = 2000 then (if 0 < z then some z else none) else if o < 2006 then (if 1 < z then some (z - 1) else none) else none
def hgL : List Nat → Nat → Option Nat
  | [], z => some z
  | o :: t, z => (hg1 o z).bind (hgL t)
theorem ev1_len {fc : Nat → Int32} {o z : Nat} {s : List Int32} (h : hg1 o s.length = some z) : (ev1 fc o s).length = z := by
  unfold hg1 at h
  unfold ev1
  by_cases c : o < 2000
  · rw [if_pos c] at h ⊢
    split at h
    · cases h; rfl
    · cases h
  · rw [if_neg c] at h ⊢
    by_cases c2 : o = 2000
    · rw [if_pos c2] at h ⊢
      match s, h with
      | x :: t, h => have h0 : 0 < (x :: t).length := Nat.succ_pos _; rw [if_pos h0] at h; cases h; rfl
    · rw [if_neg c2] at h ⊢
      split at h
      · match s, h with
        | [], h => simp at h
        | [x], h => simp at h
        | y :: x :: t, h => rw [if_pos (by simp)] at h; cases h; simp
      · cases h
def Stk (f : Nat → Int32) (s : List Int32) : Prop := ∀ i, i < s.length → f i = s.getD (s.length - 1 - i) 0
theorem Stk.push {f : Nat → Int32} {s : List Int32} (H : Stk f s) (x : Int32) : Stk (upd f s.length x) (x :: s) := by
  intro i hi
  unfold upd
  simp only [List.length_cons] at hi ⊢
  by_cases e : i = s.length
  · subst e; rw [if_pos rfl, show s.length + 1 - 1 - s.length = 0 by omega]; rfl
  · rw [if_neg e, H i (by omega), show s.length + 1 - 1 - i = (s.length - 1 - i) + 1 by omega]; rfl
theorem Stk.top {f : Nat → Int32} {x : Int32} {s : List Int32} (H : Stk f (x :: s)) : f s.length = x := by
  have := H s.length (by simp)
  rw [this]; simp
theorem Stk.tail {f : Nat → Int32} {x : Int32} {s : List Int32} (H : Stk f (x :: s)) : Stk f s := by
  intro i hi
  rw [H i (by simp; omega)]
  simp only [List.length_cons]
  rw [show s.length + 1 - 1 - i = (s.length - 1 - i) + 1 by omega]; rfl
/-- its facts are the rows' -/
def LH (h : PH) (L : Nat) (cl : Nat) (g : Nat → Int32) (ln : Nat) : Prop := h L = some (.inr (3, [.int (nI ln), .ref (L + 1), .ref (L + 2)])) ∧ h (L + 1) = some (.inl (.int, (cl, .inl g)))
def LF (L : Nat) (h h' : PH) : Prop := ∀ q, q ≠ L + 2 → h' q = h q
theorem LF.rf {L : Nat} {h : PH} : LF L h h := fun _ _ => rfl
theorem LF.tr {L : Nat} {h h' h'' : PH} (F : LF L h h') (G : LF L h' h'') : LF L h h'' := fun q hq => (G q hq).trans (F q hq)
theorem LF.pu {L : Nat} {h h' : PH} {c : PC} (F : LF L h h') : LF L h (pu h' (L + 2) c) := fun q hq => by rw [pu_ne hq]; exact F q hq
theorem c_X3_holds {L fa fr cl ln : Nat} {g fc : Nat → Int32} {ops : List Nat} (H : LH h L cl g ln) (hs : ∃ f, h (L + 2) = some (.inl (.int, (24, .inl f)))) (hf : h fa = some (.inl (.int, (10, .inl fc)))) (hfa : fa ≠ L + 2)
    (hg : ∀ i, i < ops.length → g (fr + i) = nI (ops.getD i 0)) (hle : fr + ops.length ≤ cl) (hcl : cl ≤ 500) (hw : hgL ops 0 = some 1)
    (hQ : ∀ h' v, LF L h h' → (∃ f, h' (L + 2) = some (.inl (.int, (24, .inl f)))) → evL fc ops [] = [v] → Q (.inl (some (.int (if v = 0 then 0 else 1)))) h' n) : pCall E M_X3_holds d [.ref L, .int (nI fr), .int (nI (fr + ops.length)), .ref fa] h n Q := by
  refine pCall_of rfl rfl (Nat.le_of_ble_eq_true rfl) (by simp [Value.category]) ?_
  refine b_X3_holds_0 _ _ _ ?_
  simp only [pEntry, PM.nL, M_X3_holds, List.map_cons, List.map_nil, List.length_cons, List.length_nil, Nat.reduceAdd, Nat.reduceSub, Nat.sub_self, List.replicate_succ, List.replicate_zero, List.cons_append, List.nil_append]
  simp only [i_const, i_load, i_aload, i_store, i_astore, i_inc, i_iadd, i_isub, i_imul, i_idiv, i_irem, i_iand, i_ior, i_ixor, i_ishl, i_ishr, i_iushr, i_ineg, i_i2l, i_i2b, i_i2c, i_lcmp, i_dup, i_dup2, i_pop, i_null, i_alen, i_iald, i_bald, i_lald, i_aald, i_iast, i_bast, i_last, i_aast, i_goto, i_icmp_eq, i_icmp_ne, i_icmp_lt, i_icmp_ge, i_icmp_gt, i_icmp_le, i_if_eq, i_if_ne, i_if_lt, i_if_ge, i_if_gt, i_if_le, i_ifnonnull, i_getf, i_putf, i_iret, i_zret, i_aret, i_vret, i_new, i_newa, i_anew, i_oinit, i_callv, i_calls, i_calli, i_max, i_min, i_abs, i_copy, i_throw, i_ldcs, pwt, List.getElem?_cons_zero, List.getElem?_cons_succ, List.set_cons_zero, List.set_cons_succ, List.getD_cons_zero, List.getD_cons_succ, List.length_cons, List.length_nil, List.length_set, List.drop_succ_cons, List.drop_zero, List.take_succ_cons, List.take_zero, List.reverse_cons, List.reverse_nil, List.nil_append, List.cons_append, List.append_nil, List.map_cons, List.map_nil, List.sum_cons, List.sum_nil, Value.category, ne_eq, Nat.reduceEqDiff, reduceIte, ite_self, false_implies, true_implies, true_and, and_true, and_self, Nat.zero_le, Nat.le_refl, Nat.reduceLeDiff, Nat.reduceAdd, Nat.reduceLT, Nat.add_zero, Nat.zero_add, pu_eq, not_false_eq_true, not_true_eq_false, forall_const, if_true, if_false, implies_true]
  obtain ⟨f0, hf0⟩ := hs
  refine pFor ops.length (fun i ls σ => ∃ (stk : List Int32) (f : Nat → Int32) (h' : PH), evL fc ops [] = evL fc (ops.drop i) stk ∧ hgL (ops.drop i) stk.length = some 1 ∧ stk.length ≤ 24 ∧ Stk f stk ∧ LF L h h' ∧ h' (L + 2) = some (.inl (.int, (24, .inl f))) ∧
    (∃ x6 x7 x8, ls = [some (.ref L), some (.int (nI fr)), some (.int (nI (fr + ops.length))), some (.ref fa), some (.int (nI stk.length)), some (.int (nI (fr + i))), x6, x7, x8]) ∧ σ = (h', n, 0, 0)) ?_ ?_ 0 (Nat.zero_le _) _ _
    ⟨[], f0, h, rfl, hw, Nat.zero_le _, fun i hi => absurd hi (Nat.not_lt_zero i), LF.rf, hf0, ⟨_, _, _, rfl⟩, rfl⟩
  · rintro i hi ls σ ⟨stk, f, h', he, hh, hl, hst, hF, hf', ⟨x6, x7, x8, rfl⟩, rfl⟩ ih
    have hdrop : ops.drop i = ops.getD i 0 :: ops.drop (i + 1) := by
      rw [List.drop_eq_getElem_cons hi, List.getD_eq_getElem?_getD, List.getElem?_eq_getElem hi]; rfl
    generalize ho : ops.getD i 0 = o at hdrop
    rw [hdrop] at he hh
    have hgi := hg i hi
    rw [ho] at hgi
    have a1 : ¬ nI (fr + ops.length) ≤ nI (fr + i) := nI_ge (by omega) (by omega)
    have a2 : ¬ Int32.ofNat cl ≤ nI (fr + i) := nI_ge (b := cl) (by omega) (by omega)
    have a3 : vp_in (nI (fr + i)) cl := vp_in_nI (by omega) (by omega)
    have a4 : (nI (fr + i)).toNatClampNeg = fr + i := nI_clamp (by omega)
    have a5 : nI (fr + i) + 1 = nI (fr + (i + 1)) := nI_1 _
    have hL : h' L = _ := (hF L (by omega)).trans H.1
    have hC : h' (L + 1) = _ := (hF (L + 1) (by omega)).trans H.2
    have hA : h' fa = _ := (hF fa hfa).trans hf
    cases hh1 : hg1 o stk.length with
    | none => rw [hgL, hh1] at hh; cases hh
    | some z =>
    have hz : (ev1 fc o stk).length = z := ev1_len hh1
    have hh2 : hgL (ops.drop (i + 1)) (ev1 fc o stk).length = some 1 := by rw [hz]; rw [hgL, hh1] at hh; exact hh
    have go : ∀ (f2 : Nat → Int32) (x6 x7 x8 : Option Value), Stk f2 (ev1 fc o stk) → (ev1 fc o stk).length ≤ 24 → PW E M_X3_holds d Q 6 [some (.ref L), some (.int (nI fr)), some (.int (nI (fr + ops.length))), some (.ref fa), some (.int (nI (ev1 fc o stk).length)), some (.int (nI (fr + (i + 1)))), x6, x7, x8] [] (pu h' (L + 2) (.inl (.int, (24, .inl f2))), n, 0, 0) :=
      fun f2 x6 x7 x8 k1 k2 => ih _ _ ⟨ev1 fc o stk, f2, _, he, hh2, k2, k1, hF.pu, pu_eq _ _ _, ⟨_, _, _, rfl⟩, rfl⟩
    refine b_X3_holds_6 _ _ _ ?_
    simp only [i_const, i_load, i_aload, i_store, i_astore, i_inc, i_iadd, i_isub, i_imul, i_idiv, i_irem, i_iand, i_ior, i_ixor, i_ishl, i_ishr, i_iushr, i_ineg, i_i2l, i_i2b, i_i2c, i_lcmp, i_dup, i_dup2, i_pop, i_null, i_alen, i_iald, i_bald, i_lald, i_aald, i_iast, i_bast, i_last, i_aast, i_goto, i_icmp_eq, i_icmp_ne, i_icmp_lt, i_icmp_ge, i_icmp_gt, i_icmp_le, i_if_eq, i_if_ne, i_if_lt, i_if_ge, i_if_gt, i_if_le, i_ifnonnull, i_getf, i_putf, i_iret, i_zret, i_aret, i_vret, i_new, i_newa, i_anew, i_oinit, i_callv, i_calls, i_calli, i_max, i_min, i_abs, i_copy, i_throw, i_ldcs, pwt, List.getElem?_cons_zero, List.getElem?_cons_succ, List.set_cons_zero, List.set_cons_succ, List.getD_cons_zero, List.getD_cons_succ, List.length_cons, List.length_nil, List.length_set, List.drop_succ_cons, List.drop_zero, List.take_succ_cons, List.take_zero, List.reverse_cons, List.reverse_nil, List.nil_append, List.cons_append, List.append_nil, List.map_cons, List.map_nil, List.sum_cons, List.sum_nil, Value.category, ne_eq, Nat.reduceEqDiff, reduceIte, ite_self, false_implies, true_implies, true_and, and_true, and_self, Nat.zero_le, Nat.le_refl, Nat.reduceLeDiff, Nat.reduceAdd, Nat.reduceLT, Nat.add_zero, Nat.zero_add, pu_eq, not_false_eq_true, not_true_eq_false, forall_const, if_true, if_false, implies_true, hL, hC, hf', a1, a2, a3, a4, hgi]
    unfold hg1 at hh1
    by_cases c : o < 2000
    · rw [if_pos c] at hh1
      have c24 : stk.length < 24 := by
        by_cases q : stk.length < 24
        · exact q
        · rw [if_neg q] at hh1; cases hh1
      have a6 : ¬ (2000 : Int32) ≤ nI o := nI_ge (b := 2000) c (by decide)
      have a7 : ¬ (24 : Int32) ≤ nI stk.length := nI_ge (b := 24) c24 (by decide)
      have a8 : vp_in (nI stk.length) 24 := vp_in_nI c24 (by decide)
      have a9 : (nI stk.length).toNatClampNeg = stk.length := nI_clamp (by omega)
      have hev : ev1 fc o stk = (if o < 1000 then nI o else fc ((o - 1000) % 10)) :: stk := by unfold ev1; rw [if_pos c]
      simp only [i_const, i_load, i_aload, i_store, i_astore, i_inc, i_iadd, i_isub, i_imul, i_idiv, i_irem, i_iand, i_ior, i_ixor, i_ishl, i_ishr, i_iushr, i_ineg, i_i2l, i_i2b, i_i2c, i_lcmp, i_dup, i_dup2, i_pop, i_null, i_alen, i_iald, i_bald, i_lald, i_aald, i_iast, i_bast, i_last, i_aast, i_goto, i_icmp_eq, i_icmp_ne, i_icmp_lt, i_icmp_ge, i_icmp_gt, i_icmp_le, i_if_eq, i_if_ne, i_if_lt, i_if_ge, i_if_gt, i_if_le, i_ifnonnull, i_getf, i_putf, i_iret, i_zret, i_aret, i_vret, i_new, i_newa, i_anew, i_oinit, i_callv, i_calls, i_calli, i_max, i_min, i_abs, i_copy, i_throw, i_ldcs, pwt, List.getElem?_cons_zero, List.getElem?_cons_succ, List.set_cons_zero, List.set_cons_succ, List.getD_cons_zero, List.getD_cons_succ, List.length_cons, List.length_nil, List.length_set, List.drop_succ_cons, List.drop_zero, List.take_succ_cons, List.take_zero, List.reverse_cons, List.reverse_nil, List.nil_append, List.cons_append, List.append_nil, List.map_cons, List.map_nil, List.sum_cons, List.sum_nil, Value.category, ne_eq, Nat.reduceEqDiff, reduceIte, ite_self, false_implies, true_implies, true_and, and_true, and_self, Nat.zero_le, Nat.le_refl, Nat.reduceLeDiff, Nat.reduceAdd, Nat.reduceLT, Nat.add_zero, Nat.zero_add, pu_eq, not_false_eq_true, not_true_eq_false, forall_const, if_true, if_false, implies_true, a6, a7, hA]
      refine ⟨fun c2 => ?_, fun c2 => ?_⟩
      · have hc2 : ¬ o < 1000 := fun q => (nI_ge (b := 1000) q (by decide)) c2
        have b1 : nI o - 1000 = nI (o - 1000) := pk_sub (b := 1000) (by omega)
        have b2 : nI (o - 1000) - nI (o - 1000) / 10 * 10 = nI ((o - 1000) % 10) := pk_rem (d := 10) (by omega) (by decide) (by decide)
        have b3 : vp_in (nI ((o - 1000) % 10)) 10 := vp_in_nI (Nat.mod_lt _ (by decide)) (by decide)
        have b4 : (nI ((o - 1000) % 10)).toNatClampNeg = (o - 1000) % 10 := nI_clamp (Nat.lt_trans (Nat.mod_lt _ (by decide)) (by decide))
        simp only [i_const, i_load, i_aload, i_store, i_astore, i_inc, i_iadd, i_isub, i_imul, i_idiv, i_irem, i_iand, i_ior, i_ixor, i_ishl, i_ishr, i_iushr, i_ineg, i_i2l, i_i2b, i_i2c, i_lcmp, i_dup, i_dup2, i_pop, i_null, i_alen, i_iald, i_bald, i_lald, i_aald, i_iast, i_bast, i_last, i_aast, i_goto, i_icmp_eq, i_icmp_ne, i_icmp_lt, i_icmp_ge, i_icmp_gt, i_icmp_le, i_if_eq, i_if_ne, i_if_lt, i_if_ge, i_if_gt, i_if_le, i_ifnonnull, i_getf, i_putf, i_iret, i_zret, i_aret, i_vret, i_new, i_newa, i_anew, i_oinit, i_callv, i_calls, i_calli, i_max, i_min, i_abs, i_copy, i_throw, i_ldcs, pwt, List.getElem?_cons_zero, List.getElem?_cons_succ, List.set_cons_zero, List.set_cons_succ, List.getD_cons_zero, List.getD_cons_succ, List.length_cons, List.length_nil, List.length_set, List.drop_succ_cons, List.drop_zero, List.take_succ_cons, List.take_zero, List.reverse_cons, List.reverse_nil, List.nil_append, List.cons_append, List.append_nil, List.map_cons, List.map_nil, List.sum_cons, List.sum_nil, Value.category, ne_eq, Nat.reduceEqDiff, reduceIte, ite_self, false_implies, true_implies, true_and, and_true, and_self, Nat.zero_le, Nat.le_refl, Nat.reduceLeDiff, Nat.reduceAdd, Nat.reduceLT, Nat.add_zero, Nat.zero_add, pu_eq, not_false_eq_true, not_true_eq_false, forall_const, if_true, if_false, implies_true, b1, b2, b3, b4, hf', a5, a8, a9, nI_1]
        refine ⟨by decide, ?_⟩
        have := go (upd f stk.length (fc ((o - 1000) % 10))) (some (.int (nI o))) x7 x8 (by rw [hev, if_neg hc2]; exact hst.push _) (by rw [hev]; exact c24)
        rw [hev] at this
        exact this
      · have hc2 : o < 1000 := by
          by_cases q : o < 1000
          · exact q
          · exact absurd (nI_le (a := 1000) (b := o) (by omega) (by omega)) c2
        simp only [i_const, i_load, i_aload, i_store, i_astore, i_inc, i_iadd, i_isub, i_imul, i_idiv, i_irem, i_iand, i_ior, i_ixor, i_ishl, i_ishr, i_iushr, i_ineg, i_i2l, i_i2b, i_i2c, i_lcmp, i_dup, i_dup2, i_pop, i_null, i_alen, i_iald, i_bald, i_lald, i_aald, i_iast, i_bast, i_last, i_aast, i_goto, i_icmp_eq, i_icmp_ne, i_icmp_lt, i_icmp_ge, i_icmp_gt, i_icmp_le, i_if_eq, i_if_ne, i_if_lt, i_if_ge, i_if_gt, i_if_le, i_ifnonnull, i_getf, i_putf, i_iret, i_zret, i_aret, i_vret, i_new, i_newa, i_anew, i_oinit, i_callv, i_calls, i_calli, i_max, i_min, i_abs, i_copy, i_throw, i_ldcs, pwt, List.getElem?_cons_zero, List.getElem?_cons_succ, List.set_cons_zero, List.set_cons_succ, List.getD_cons_zero, List.getD_cons_succ, List.length_cons, List.length_nil, List.length_set, List.drop_succ_cons, List.drop_zero, List.take_succ_cons, List.take_zero, List.reverse_cons, List.reverse_nil, List.nil_append, List.cons_append, List.append_nil, List.map_cons, List.map_nil, List.sum_cons, List.sum_nil, Value.category, ne_eq, Nat.reduceEqDiff, reduceIte, ite_self, false_implies, true_implies, true_and, and_true, and_self, Nat.zero_le, Nat.le_refl, Nat.reduceLeDiff, Nat.reduceAdd, Nat.reduceLT, Nat.add_zero, Nat.zero_add, pu_eq, not_false_eq_true, not_true_eq_false, forall_const, if_true, if_false, implies_true, hf', a5, a8, a9, nI_1]
        have := go (upd f stk.length (nI o)) (some (.int (nI o))) x7 x8 (by rw [hev, if_pos hc2]; exact hst.push _) (by rw [hev]; exact c24)
        rw [hev] at this
        exact this
    · rw [if_neg c] at hh1
      have ho6 : o < 2006 := by
        by_cases q : o = 2000
        · omega
        · rw [if_neg q] at hh1
          by_cases q2 : o < 2006
          · exact q2
          · rw [if_neg q2] at hh1; cases hh1
      have a6 : (2000 : Int32) ≤ nI o := nI_le (a := 2000) (by omega) (by omega)
      simp only [i_const, i_load, i_aload, i_store, i_astore, i_inc, i_iadd, i_isub, i_imul, i_idiv, i_irem, i_iand, i_ior, i_ixor, i_ishl, i_ishr, i_iushr, i_ineg, i_i2l, i_i2b, i_i2c, i_lcmp, i_dup, i_dup2, i_pop, i_null, i_alen, i_iald, i_bald, i_lald, i_aald, i_iast, i_bast, i_last, i_aast, i_goto, i_icmp_eq, i_icmp_ne, i_icmp_lt, i_icmp_ge, i_icmp_gt, i_icmp_le, i_if_eq, i_if_ne, i_if_lt, i_if_ge, i_if_gt, i_if_le, i_ifnonnull, i_getf, i_putf, i_iret, i_zret, i_aret, i_vret, i_new, i_newa, i_anew, i_oinit, i_callv, i_calls, i_calli, i_max, i_min, i_abs, i_copy, i_throw, i_ldcs, pwt, List.getElem?_cons_zero, List.getElem?_cons_succ, List.set_cons_zero, List.set_cons_succ, List.getD_cons_zero, List.getD_cons_succ, List.length_cons, List.length_nil, List.length_set, List.drop_succ_cons, List.drop_zero, List.take_succ_cons, List.take_zero, List.reverse_cons, List.reverse_nil, List.nil_append, List.cons_append, List.append_nil, List.map_cons, List.map_nil, List.sum_cons, List.sum_nil, Value.category, ne_eq, Nat.reduceEqDiff, reduceIte, ite_self, false_implies, true_implies, true_and, and_true, and_self, Nat.zero_le, Nat.le_refl, Nat.reduceLeDiff, Nat.reduceAdd, Nat.reduceLT, Nat.add_zero, Nat.zero_add, pu_eq, not_false_eq_true, not_true_eq_false, forall_const, if_true, if_false, implies_true, a6]
      refine b_X3_holds_83 _ _ _ ?_
      by_cases c2 : o = 2000
      · subst c2
        rw [if_pos rfl] at hh1
        match stk, hh1, hst, hl, go with
        | [], hh1, _, _, _ => simp at hh1
        | x :: t, hh1, hst, hl, go =>
          have hev : ev1 fc 2000 (x :: t) = (1 - x) :: t := rfl
          have b1 : ¬ nI (x :: t).length ≤ 0 := nI_nle (Nat.succ_pos _) (by simp only [List.length_cons] at hl ⊢; omega)
          have b2 : nI (x :: t).length - 1 = nI t.length := nI_pred _
          have b3 : vp_in (nI t.length) 24 := vp_in_nI (by simp only [List.length_cons] at hl; omega) (by decide)
          have b4 : (nI t.length).toNatClampNeg = t.length := nI_clamp (by simp only [List.length_cons] at hl; omega)
          simp only [List.length_cons] at b1 b2
          simp only [i_const, i_load, i_aload, i_store, i_astore, i_inc, i_iadd, i_isub, i_imul, i_idiv, i_irem, i_iand, i_ior, i_ixor, i_ishl, i_ishr, i_iushr, i_ineg, i_i2l, i_i2b, i_i2c, i_lcmp, i_dup, i_dup2, i_pop, i_null, i_alen, i_iald, i_bald, i_lald, i_aald, i_iast, i_bast, i_last, i_aast, i_goto, i_icmp_eq, i_icmp_ne, i_icmp_lt, i_icmp_ge, i_icmp_gt, i_icmp_le, i_if_eq, i_if_ne, i_if_lt, i_if_ge, i_if_gt, i_if_le, i_ifnonnull, i_getf, i_putf, i_iret, i_zret, i_aret, i_vret, i_new, i_newa, i_anew, i_oinit, i_callv, i_calls, i_calli, i_max, i_min, i_abs, i_copy, i_throw, i_ldcs, pwt, List.getElem?_cons_zero, List.getElem?_cons_succ, List.set_cons_zero, List.set_cons_succ, List.getD_cons_zero, List.getD_cons_succ, List.length_cons, List.length_nil, List.length_set, List.drop_succ_cons, List.drop_zero, List.take_succ_cons, List.take_zero, List.reverse_cons, List.reverse_nil, List.nil_append, List.cons_append, List.append_nil, List.map_cons, List.map_nil, List.sum_cons, List.sum_nil, Value.category, ne_eq, Nat.reduceEqDiff, reduceIte, ite_self, false_implies, true_implies, true_and, and_true, and_self, Nat.zero_le, Nat.le_refl, Nat.reduceLeDiff, Nat.reduceAdd, Nat.reduceLT, Nat.add_zero, Nat.zero_add, pu_eq, not_false_eq_true, not_true_eq_false, forall_const, if_true, if_false, implies_true, show (nI 2000 = 2000) = True from eq_true rfl, b1, b2, b3, b4, hL, hf', a5, hst.top]
          have := go (upd f t.length (1 - x)) (some (.int (nI 2000))) x7 x8 (by rw [hev]; exact hst.tail.push _) (by rw [hev]; exact hl)
          rw [hev] at this
          exact this
      · rw [if_neg c2, if_pos ho6] at hh1
        have b0 : ¬ nI o = 2000 := fun q => c2 ((nI_eq (by omega) (by decide)).mp (show nI o = nI 2000 from q))
        simp only [i_const, i_load, i_aload, i_store, i_astore, i_inc, i_iadd, i_isub, i_imul, i_idiv, i_irem, i_iand, i_ior, i_ixor, i_ishl, i_ishr, i_iushr, i_ineg, i_i2l, i_i2b, i_i2c, i_lcmp, i_dup, i_dup2, i_pop, i_null, i_alen, i_iald, i_bald, i_lald, i_aald, i_iast, i_bast, i_last, i_aast, i_goto, i_icmp_eq, i_icmp_ne, i_icmp_lt, i_icmp_ge, i_icmp_gt, i_icmp_le, i_if_eq, i_if_ne, i_if_lt, i_if_ge, i_if_gt, i_if_le, i_ifnonnull, i_getf, i_putf, i_iret, i_zret, i_aret, i_vret, i_new, i_newa, i_anew, i_oinit, i_callv, i_calls, i_calli, i_max, i_min, i_abs, i_copy, i_throw, i_ldcs, pwt, List.getElem?_cons_zero, List.getElem?_cons_succ, List.set_cons_zero, List.set_cons_succ, List.getD_cons_zero, List.getD_cons_succ, List.length_cons, List.length_nil, List.length_set, List.drop_succ_cons, List.drop_zero, List.take_succ_cons, List.take_zero, List.reverse_cons, List.reverse_nil, List.nil_append, List.cons_append, List.append_nil, List.map_cons, List.map_nil, List.sum_cons, List.sum_nil, Value.category, ne_eq, Nat.reduceEqDiff, reduceIte, ite_self, false_implies, true_implies, true_and, and_true, and_self, Nat.zero_le, Nat.le_refl, Nat.reduceLeDiff, Nat.reduceAdd, Nat.reduceLT, Nat.add_zero, Nat.zero_add, pu_eq, not_false_eq_true, not_true_eq_false, forall_const, if_true, if_false, implies_true, b0]
        refine b_X3_holds_119 _ _ _ ?_
        match stk, hh1, hst, hl, go with
        | [], hh1, _, _, _ => simp at hh1
        | [x], hh1, _, _, _ => simp at hh1
        | y :: x :: t, hh1, hst, hl, go =>
          have hl2 : t.length + 2 ≤ 24 := by simpa using hl
          have hev : ev1 fc o (y :: x :: t) = op2 o x y :: t := by unfold ev1; rw [if_neg c, if_neg c2]
          have b1 : ¬ nI (t.length + 1 + 1) ≤ 1 := nI_ge (a := 1) (by omega) (by omega)
          have b2 : nI (t.length + 1 + 1) + (-1) = nI (t.length + 1) := pk_m1 _
          have b3 : nI (t.length + 1) - 1 = nI t.length := nI_pred _
          have b4 : vp_in (nI t.length) 24 := vp_in_nI (by omega) (by decide)
          have b5 : (nI t.length).toNatClampNeg = t.length := nI_clamp (by omega)
          have b6 : vp_in (nI (t.length + 1)) 24 := vp_in_nI (by omega) (by decide)
          have b7 : (nI (t.length + 1)).toNatClampNeg = t.length + 1 := nI_clamp (by omega)
          have t1 : f (t.length + 1) = y := hst.top
          have t2 : f t.length = x := hst.tail.top
          have fin : ∀ x6 x7 x8, PW E M_X3_holds d Q 6 [some (.ref L), some (.int (nI fr)), some (.int (nI (fr + ops.length))), some (.ref fa), some (.int (nI (t.length + 1))), some (.int (nI (fr + (i + 1)))), x6, x7, x8] [] (pu h' (L + 2) (.inl (.int, (24, .inl (upd f t.length (op2 o x y))))), n, 0, 0) := by
            intro x6 x7 x8
            have := go (upd f t.length (op2 o x y)) x6 x7 x8 (by rw [hev]; exact hst.tail.tail.push _) (by rw [hev]; simp only [List.length_cons]; omega)
            rw [hev] at this
            exact this
          have ho5 : o = 2001 ∨ o = 2002 ∨ o = 2003 ∨ o = 2004 ∨ o = 2005 := by omega
          have toI : (nI o).toInt = (o : Int) := nI_toInt (by omega)
          simp only [i_const, i_load, i_aload, i_store, i_astore, i_inc, i_iadd, i_isub, i_imul, i_idiv, i_irem, i_iand, i_ior, i_ixor, i_ishl, i_ishr, i_iushr, i_ineg, i_i2l, i_i2b, i_i2c, i_lcmp, i_dup, i_dup2, i_pop, i_null, i_alen, i_iald, i_bald, i_lald, i_aald, i_iast, i_bast, i_last, i_aast, i_goto, i_icmp_eq, i_icmp_ne, i_icmp_lt, i_icmp_ge, i_icmp_gt, i_icmp_le, i_if_eq, i_if_ne, i_if_lt, i_if_ge, i_if_gt, i_if_le, i_ifnonnull, i_getf, i_putf, i_iret, i_zret, i_aret, i_vret, i_new, i_newa, i_anew, i_oinit, i_callv, i_calls, i_calli, i_max, i_min, i_abs, i_copy, i_throw, i_ldcs, pwt, List.getElem?_cons_zero, List.getElem?_cons_succ, List.set_cons_zero, List.set_cons_succ, List.getD_cons_zero, List.getD_cons_succ, List.length_cons, List.length_nil, List.length_set, List.drop_succ_cons, List.drop_zero, List.take_succ_cons, List.take_zero, List.reverse_cons, List.reverse_nil, List.nil_append, List.cons_append, List.append_nil, List.map_cons, List.map_nil, List.sum_cons, List.sum_nil, Value.category, ne_eq, Nat.reduceEqDiff, reduceIte, ite_self, false_implies, true_implies, true_and, and_true, and_self, Nat.zero_le, Nat.le_refl, Nat.reduceLeDiff, Nat.reduceAdd, Nat.reduceLT, Nat.add_zero, Nat.zero_add, pu_eq, not_false_eq_true, not_true_eq_false, forall_const, if_true, if_false, implies_true, b1, b2, b3, b4, b5, b6, b7, hL, hf', t1, t2, i_tsw, toI, a5]
          rcases ho5 with rfl | rfl | rfl | rfl | rfl
          · refine ⟨fun _ _ => ?_, fun q => absurd q (by decide)⟩
            simp only [i_const, i_load, i_aload, i_store, i_astore, i_inc, i_iadd, i_isub, i_imul, i_idiv, i_irem, i_iand, i_ior, i_ixor, i_ishl, i_ishr, i_iushr, i_ineg, i_i2l, i_i2b, i_i2c, i_lcmp, i_dup, i_dup2, i_pop, i_null, i_alen, i_iald, i_bald, i_lald, i_aald, i_iast, i_bast, i_last, i_aast, i_goto, i_icmp_eq, i_icmp_ne, i_icmp_lt, i_icmp_ge, i_icmp_gt, i_icmp_le, i_if_eq, i_if_ne, i_if_lt, i_if_ge, i_if_gt, i_if_le, i_ifnonnull, i_getf, i_putf, i_iret, i_zret, i_aret, i_vret, i_new, i_newa, i_anew, i_oinit, i_callv, i_calls, i_calli, i_max, i_min, i_abs, i_copy, i_throw, i_ldcs, pwt, List.getElem?_cons_zero, List.getElem?_cons_succ, List.set_cons_zero, List.set_cons_succ, List.getD_cons_zero, List.getD_cons_succ, List.length_cons, List.length_nil, List.length_set, List.drop_succ_cons, List.drop_zero, List.take_succ_cons, List.take_zero, List.reverse_cons, List.reverse_nil, List.nil_append, List.cons_append, List.append_nil, List.map_cons, List.map_nil, List.sum_cons, List.sum_nil, Value.category, ne_eq, Nat.reduceEqDiff, reduceIte, ite_self, false_implies, true_implies, true_and, and_true, and_self, Nat.zero_le, Nat.le_refl, Nat.reduceLeDiff, Nat.reduceAdd, Nat.reduceLT, Nat.add_zero, Nat.zero_add, pu_eq, not_false_eq_true, not_true_eq_false, forall_const, if_true, if_false, implies_true, show (((2001 : Nat) : Int) - 2001).toNat = 0 from rfl, b3, b4, b5, hL, hf', a5]
            exact fin _ _ _
          · refine ⟨fun _ _ => ?_, fun q => absurd q (by decide)⟩
            simp only [i_const, i_load, i_aload, i_store, i_astore, i_inc, i_iadd, i_isub, i_imul, i_idiv, i_irem, i_iand, i_ior, i_ixor, i_ishl, i_ishr, i_iushr, i_ineg, i_i2l, i_i2b, i_i2c, i_lcmp, i_dup, i_dup2, i_pop, i_null, i_alen, i_iald, i_bald, i_lald, i_aald, i_iast, i_bast, i_last, i_aast, i_goto, i_icmp_eq, i_icmp_ne, i_icmp_lt, i_icmp_ge, i_icmp_gt, i_icmp_le, i_if_eq, i_if_ne, i_if_lt, i_if_ge, i_if_gt, i_if_le, i_ifnonnull, i_getf, i_putf, i_iret, i_zret, i_aret, i_vret, i_new, i_newa, i_anew, i_oinit, i_callv, i_calls, i_calli, i_max, i_min, i_abs, i_copy, i_throw, i_ldcs, pwt, List.getElem?_cons_zero, List.getElem?_cons_succ, List.set_cons_zero, List.set_cons_succ, List.getD_cons_zero, List.getD_cons_succ, List.length_cons, List.length_nil, List.length_set, List.drop_succ_cons, List.drop_zero, List.take_succ_cons, List.take_zero, List.reverse_cons, List.reverse_nil, List.nil_append, List.cons_append, List.append_nil, List.map_cons, List.map_nil, List.sum_cons, List.sum_nil, Value.category, ne_eq, Nat.reduceEqDiff, reduceIte, ite_self, false_implies, true_implies, true_and, and_true, and_self, Nat.zero_le, Nat.le_refl, Nat.reduceLeDiff, Nat.reduceAdd, Nat.reduceLT, Nat.add_zero, Nat.zero_add, pu_eq, not_false_eq_true, not_true_eq_false, forall_const, if_true, if_false, implies_true, show (((2002 : Nat) : Int) - 2001).toNat = 1 from rfl, b3, b4, b5, hL, hf', a5]
            refine ⟨fun q => ?_, fun q => ?_⟩
            · have := fin (some (.int (nI 2002))) (some (.int x)) (some (.int y))
              rw [show op2 2002 x y = 0 from if_neg (Int32.not_lt.mpr q)] at this
              exact this
            · have := fin (some (.int (nI 2002))) (some (.int x)) (some (.int y))
              rw [show op2 2002 x y = 1 from if_pos (Int32.not_le.mp q)] at this
              exact this
          · refine ⟨fun _ _ => ?_, fun q => absurd q (by decide)⟩
            simp only [i_const, i_load, i_aload, i_store, i_astore, i_inc, i_iadd, i_isub, i_imul, i_idiv, i_irem, i_iand, i_ior, i_ixor, i_ishl, i_ishr, i_iushr, i_ineg, i_i2l, i_i2b, i_i2c, i_lcmp, i_dup, i_dup2, i_pop, i_null, i_alen, i_iald, i_bald, i_lald, i_aald, i_iast, i_bast, i_last, i_aast, i_goto, i_icmp_eq, i_icmp_ne, i_icmp_lt, i_icmp_ge, i_icmp_gt, i_icmp_le, i_if_eq, i_if_ne, i_if_lt, i_if_ge, i_if_gt, i_if_le, i_ifnonnull, i_getf, i_putf, i_iret, i_zret, i_aret, i_vret, i_new, i_newa, i_anew, i_oinit, i_callv, i_calls, i_calli, i_max, i_min, i_abs, i_copy, i_throw, i_ldcs, pwt, List.getElem?_cons_zero, List.getElem?_cons_succ, List.set_cons_zero, List.set_cons_succ, List.getD_cons_zero, List.getD_cons_succ, List.length_cons, List.length_nil, List.length_set, List.drop_succ_cons, List.drop_zero, List.take_succ_cons, List.take_zero, List.reverse_cons, List.reverse_nil, List.nil_append, List.cons_append, List.append_nil, List.map_cons, List.map_nil, List.sum_cons, List.sum_nil, Value.category, ne_eq, Nat.reduceEqDiff, reduceIte, ite_self, false_implies, true_implies, true_and, and_true, and_self, Nat.zero_le, Nat.le_refl, Nat.reduceLeDiff, Nat.reduceAdd, Nat.reduceLT, Nat.add_zero, Nat.zero_add, pu_eq, not_false_eq_true, not_true_eq_false, forall_const, if_true, if_false, implies_true, show (((2003 : Nat) : Int) - 2001).toNat = 2 from rfl, b3, b4, b5, hL, hf', a5]
            refine ⟨fun q => ?_, fun q => ?_⟩
            · have := fin (some (.int (nI 2003))) (some (.int x)) (some (.int y))
              rw [show op2 2003 x y = 0 from if_neg (Int32.not_lt.mpr q)] at this
              exact this
            · have := fin (some (.int (nI 2003))) (some (.int x)) (some (.int y))
              rw [show op2 2003 x y = 1 from if_pos (Int32.not_le.mp q)] at this
              exact this
          · refine ⟨fun _ _ => ?_, fun q => absurd q (by decide)⟩
            simp only [i_const, i_load, i_aload, i_store, i_astore, i_inc, i_iadd, i_isub, i_imul, i_idiv, i_irem, i_iand, i_ior, i_ixor, i_ishl, i_ishr, i_iushr, i_ineg, i_i2l, i_i2b, i_i2c, i_lcmp, i_dup, i_dup2, i_pop, i_null, i_alen, i_iald, i_bald, i_lald, i_aald, i_iast, i_bast, i_last, i_aast, i_goto, i_icmp_eq, i_icmp_ne, i_icmp_lt, i_icmp_ge, i_icmp_gt, i_icmp_le, i_if_eq, i_if_ne, i_if_lt, i_if_ge, i_if_gt, i_if_le, i_ifnonnull, i_getf, i_putf, i_iret, i_zret, i_aret, i_vret, i_new, i_newa, i_anew, i_oinit, i_callv, i_calls, i_calli, i_max, i_min, i_abs, i_copy, i_throw, i_ldcs, pwt, List.getElem?_cons_zero, List.getElem?_cons_succ, List.set_cons_zero, List.set_cons_succ, List.getD_cons_zero, List.getD_cons_succ, List.length_cons, List.length_nil, List.length_set, List.drop_succ_cons, List.drop_zero, List.take_succ_cons, List.take_zero, List.reverse_cons, List.reverse_nil, List.nil_append, List.cons_append, List.append_nil, List.map_cons, List.map_nil, List.sum_cons, List.sum_nil, Value.category, ne_eq, Nat.reduceEqDiff, reduceIte, ite_self, false_implies, true_implies, true_and, and_true, and_self, Nat.zero_le, Nat.le_refl, Nat.reduceLeDiff, Nat.reduceAdd, Nat.reduceLT, Nat.add_zero, Nat.zero_add, pu_eq, not_false_eq_true, not_true_eq_false, forall_const, if_true, if_false, implies_true, show (((2004 : Nat) : Int) - 2001).toNat = 3 from rfl, b3, b4, b5, hL, hf', a5]
            exact fin _ _ _
          · refine ⟨fun _ q => absurd q (by decide), fun _ => ?_⟩
            exact fin _ _ _
  · rintro ls σ ⟨stk, f, h', he, hh, hl, hst, hF, hf', ⟨x6, x7, x8, rfl⟩, rfl⟩
    rw [List.drop_length] at he hh
    have h1 : stk.length = 1 := Option.some.inj hh
    match stk, h1, hst, he with
    | [v], _, hst, he =>
      have t0 : f 0 = v := hst.top
      have hL : h' L = _ := (hF L (by omega)).trans H.1
      refine b_X3_holds_6 _ _ _ ?_
      simp only [i_const, i_load, i_aload, i_store, i_astore, i_inc, i_iadd, i_isub, i_imul, i_idiv, i_irem, i_iand, i_ior, i_ixor, i_ishl, i_ishr, i_iushr, i_ineg, i_i2l, i_i2b, i_i2c, i_lcmp, i_dup, i_dup2, i_pop, i_null, i_alen, i_iald, i_bald, i_lald, i_aald, i_iast, i_bast, i_last, i_aast, i_goto, i_icmp_eq, i_icmp_ne, i_icmp_lt, i_icmp_ge, i_icmp_gt, i_icmp_le, i_if_eq, i_if_ne, i_if_lt, i_if_ge, i_if_gt, i_if_le, i_ifnonnull, i_getf, i_putf, i_iret, i_zret, i_aret, i_vret, i_new, i_newa, i_anew, i_oinit, i_callv, i_calls, i_calli, i_max, i_min, i_abs, i_copy, i_throw, i_ldcs, pwt, List.getElem?_cons_zero, List.getElem?_cons_succ, List.set_cons_zero, List.set_cons_succ, List.getD_cons_zero, List.getD_cons_succ, List.length_cons, List.length_nil, List.length_set, List.drop_succ_cons, List.drop_zero, List.take_succ_cons, List.take_zero, List.reverse_cons, List.reverse_nil, List.nil_append, List.cons_append, List.append_nil, List.map_cons, List.map_nil, List.sum_cons, List.sum_nil, Value.category, ne_eq, Nat.reduceEqDiff, reduceIte, ite_self, false_implies, true_implies, true_and, and_true, and_self, Nat.zero_le, Nat.le_refl, Nat.reduceLeDiff, Nat.reduceAdd, Nat.reduceLT, Nat.add_zero, Nat.zero_add, pu_eq, not_false_eq_true, not_true_eq_false, forall_const, if_true, if_false, implies_true, nI_le_self, nI_nle (n := 1) (by decide) (by decide), hL, hf', i32_0c, t0]
      refine ⟨vp_in_nI (n := 0) (by decide) (by decide), ?_, ?_⟩
      · intro c
        refine ⟨Or.inl trivial, ?_⟩
        have := hQ h' v hF ⟨f, hf'⟩ he
        rw [if_pos c] at this
        exact this
      · intro c
        refine ⟨Or.inr trivial, ?_⟩
        have := hQ h' v hF ⟨f, hf'⟩ he
        rw [if_neg c] at this
        exact this
def hldB (fc : Nat → Int32) (ops : List Nat) : Bool := match ops with
  | [] => true
  | _ => match evL fc ops [] with
    | [v] => decide (v ≠ 0)
    | _ => false
def jgL (fc : Nat → Int32) : LawL → Int32 → Option Int32
  | [], w => some w
  | (k, z, ops) :: t, w => if hldB fc ops = true then (if k = 2 then none else jgL fc t (w + (if k = 0 then nI z else -nI z))) else jgL fc t w
def judS (fc : Nat → Int32) (ls : LawL) : Int32 := match jgL fc ls 0 with
  | none => -1
  | some w => if 0 < w then w else 0
def lnOK (l : Nat × Nat × List Nat) : Prop := l.1 ≤ 2 ∧ l.2.1 ≤ 999 ∧ (l.2.2 = [] ∨ hgL l.2.2 0 = some 1)
theorem getD_at {α : Type} {pre t : List α} {x d0 : α} : (pre ++ x :: t).getD pre.length d0 = x := by
  rw [List.getD_eq_getElem?_getD, List.getElem?_append_right (Nat.le_refl _), Nat.sub_self]; rfl
theorem getD_ap {α : Type} {pre t : List α} {d0 : α} (i : Nat) : (pre ++ t).getD (pre.length + i) d0 = t.getD i d0 := by
  rw [List.getD_eq_getElem?_getD, List.getElem?_append_right (by omega), List.getD_eq_getElem?_getD]; congr 2; omega
theorem c_X3_judge {L fa cl : Nat} {g fc : Nat → Int32} {ls : LawL} (H : LH h L cl g ls.length) (hs : ∃ f, h (L + 2) = some (.inl (.int, (24, .inl f)))) (hf : h fa = some (.inl (.int, (10, .inl fc)))) (hfa : fa ≠ L + 2)
    (hcl : cl = (encL ls).length) (hg : ∀ i, i < cl → g i = nI ((encL ls).getD i 0)) (h500 : cl ≤ 500) (h12 : ls.length ≤ 100) (hok : ∀ l ∈ ls, lnOK l)
    (hQ : ∀ h', LF L h h' → (∃ f, h' (L + 2) = some (.inl (.int, (24, .inl f)))) → Q (.inl (some (.int (judS fc ls)))) h' n) : pCall E M_X3_judge (d + 1) [.ref L, .ref fa] h n Q := by
  refine pCall_of rfl rfl (Nat.le_of_ble_eq_true rfl) (by simp [Value.category]) ?_
  refine b_X3_judge_0 _ _ _ ?_
  simp only [pEntry, PM.nL, M_X3_judge, List.map_cons, List.map_nil, List.length_cons, List.length_nil, Nat.reduceAdd, Nat.reduceSub, Nat.sub_self, List.replicate_succ, List.replicate_zero, List.cons_append, List.nil_append]
  simp only [i_const, i_load, i_aload, i_store, i_astore, i_inc, i_iadd, i_isub, i_imul, i_idiv, i_irem, i_iand, i_ior, i_ixor, i_ishl, i_ishr, i_iushr, i_ineg, i_i2l, i_i2b, i_i2c, i_lcmp, i_dup, i_dup2, i_pop, i_null, i_alen, i_iald, i_bald, i_lald, i_aald, i_iast, i_bast, i_last, i_aast, i_goto, i_icmp_eq, i_icmp_ne, i_icmp_lt, i_icmp_ge, i_icmp_gt, i_icmp_le, i_if_eq, i_if_ne, i_if_lt, i_if_ge, i_if_gt, i_if_le, i_ifnonnull, i_getf, i_putf, i_iret, i_zret, i_aret, i_vret, i_new, i_newa, i_anew, i_oinit, i_callv, i_calls, i_calli, i_max, i_min, i_abs, i_copy, i_throw, i_ldcs, pwt, List.getElem?_cons_zero, List.getElem?_cons_succ, List.set_cons_zero, List.set_cons_succ, List.getD_cons_zero, List.getD_cons_succ, List.length_cons, List.length_nil, List.length_set, List.drop_succ_cons, List.drop_zero, List.take_succ_cons, List.take_zero, List.reverse_cons, List.reverse_nil, List.nil_append, List.cons_append, List.append_nil, List.map_cons, List.map_nil, List.sum_cons, List.sum_nil, Value.category, ne_eq, Nat.reduceEqDiff, reduceIte, ite_self, false_implies, true_implies, true_and, and_true, and_self, Nat.zero_le, Nat.le_refl, Nat.reduceLeDiff, Nat.reduceAdd, Nat.reduceLT, Nat.add_zero, Nat.zero_add, pu_eq, not_false_eq_true, not_true_eq_false, forall_const, if_true, if_false, implies_true]
  refine pFor ls.length (fun j lv σ => ∃ (rest : LawL) (pre : List Nat) (w : Int32) (h' : PH), encL ls = pre ++ encL rest ∧ rest.length + j = ls.length ∧ jgL fc ls 0 = jgL fc rest w ∧ (∀ l ∈ rest, lnOK l) ∧ LF L h h' ∧ (∃ f, h' (L + 2) = some (.inl (.int, (24, .inl f)))) ∧
    (∃ x5 x6 x7, lv = [some (.ref L), some (.ref fa), some (.int w), some (.int (nI pre.length)), some (.int (nI j)), x5, x6, x7]) ∧ σ = (h', n, 0, 0)) ?_ ?_ 0 (Nat.zero_le _) _ _
    ⟨ls, [], 0, h, rfl, rfl, rfl, hok, LF.rf, hs, ⟨_, _, _, rfl⟩, rfl⟩
  · rintro j hj lv σ ⟨rest, pre, w, h', hen, hlen, hjg, hrk, hF, hst, ⟨x5, x6, x7, rfl⟩, rfl⟩ ih
    match rest, hen, hlen, hjg, hrk with
    | [], _, hlen, _, _ => simp at hlen; omega
    | (k, z, ops) :: t, hen, hlen, hjg, hrk =>
      obtain ⟨k2, z9, hops⟩ := hrk _ List.mem_cons_self
      simp only at k2 z9 hops
      have hlt : (encL ls).length = pre.length + (3 + (ops.length + (encL t).length)) := by
        rw [hen, List.length_append]; simp only [encL, List.length_cons, List.length_append]; omega
      have hL : h' L = _ := (hF L (by omega)).trans H.1
      have hC : h' (L + 1) = _ := (hF (L + 1) (by omega)).trans H.2
      have hA : h' fa = _ := (hF fa hfa).trans hf
      have a1 : ¬ nI ls.length ≤ nI j := nI_ge hj (by omega)
      have a2 : ¬ Int32.ofNat cl < nI (pre.length + 3) := nI_nlt (a := cl) (by omega) (by omega)
      have a0 : nI pre.length + 3 = nI (pre.length + 3) := nI_add _ 3
      have a01 : nI pre.length + 1 = nI (pre.length + 1) := nI_1 _
      have a02 : nI pre.length + 2 = nI (pre.length + 2) := nI_add _ 2
      have v0 : vp_in (nI pre.length) cl := vp_in_nI (by omega) (by omega)
      have v1 : vp_in (nI (pre.length + 1)) cl := vp_in_nI (by omega) (by omega)
      have v2 : vp_in (nI (pre.length + 2)) cl := vp_in_nI (by omega) (by omega)
      have c0 : (nI pre.length).toNatClampNeg = pre.length := nI_clamp (by omega)
      have c1 : (nI (pre.length + 1)).toNatClampNeg = pre.length + 1 := nI_clamp (by omega)
      have c2 : (nI (pre.length + 2)).toNatClampNeg = pre.length + 2 := nI_clamp (by omega)
      have g0 : g pre.length = nI k := by rw [hg _ (by omega), hen]; exact congrArg nI getD_at
      have g1 : g (pre.length + 1) = nI z := by rw [hg _ (by omega), hen, getD_ap]; rfl
      have g2 : g (pre.length + 2) = nI ops.length := by rw [hg _ (by omega), hen, getD_ap]; rfl
      have s1 : nI (pre.length + 3) + nI ops.length = nI (pre.length + 3 + ops.length) := nI_add _ _
      have e4 : nI j + 1 = nI (j + 1) := nI_1 j
      have next : ∀ w' h'' x5 x6 x7, jgL fc ls 0 = jgL fc t w' → LF L h h'' → (∃ f, h'' (L + 2) = some (.inl (.int, (24, .inl f)))) → PW E M_X3_judge (d + 1) Q 7 [some (.ref L), some (.ref fa), some (.int w'), some (.int (nI (pre.length + 3 + ops.length))), some (.int (nI (j + 1))), x5, x6, x7] [] (h'', n, 0, 0) := by
        intro w' h'' x5 x6 x7 q1 q2 q3
        refine ih _ _ ⟨t, pre ++ k :: z :: ops.length :: ops, w', h'', ?_, ?_, q1, fun l hl => hrk l (List.mem_cons_of_mem _ hl), q2, q3, ⟨x5, x6, x7, ?_⟩, rfl⟩
        · rw [hen, List.append_assoc]; simp only [encL, List.cons_append]
        · simp only [List.length_cons] at hlen; omega
        · simp only [List.length_append, List.length_cons]; rw [show pre.length + (ops.length + 1 + 1 + 1) = pre.length + 3 + ops.length by omega]
      have tail : ∀ h'', hldB fc ops = true → LF L h h'' → (∃ f, h'' (L + 2) = some (.inl (.int, (24, .inl f)))) → PW E M_X3_judge (d + 1) Q 79 [some (.ref L), some (.ref fa), some (.int w), some (.int (nI (pre.length + 3 + ops.length))), some (.int (nI j)), some (.int (nI k)), some (.int (nI z)), some (.int (nI (pre.length + 3)))] [] (h'', n, 0, 0) := by
        intro h'' hh q2 q3
        have hjg2 : jgL fc ls 0 = (if k = 2 then none else jgL fc t (w + (if k = 0 then nI z else -nI z))) := by rw [hjg]; show (if hldB fc ops = true then _ else _) = _; rw [if_pos hh]
        refine b_X3_judge_79 _ _ _ ?_
        simp only [i_const, i_load, i_aload, i_store, i_astore, i_inc, i_iadd, i_isub, i_imul, i_idiv, i_irem, i_iand, i_ior, i_ixor, i_ishl, i_ishr, i_iushr, i_ineg, i_i2l, i_i2b, i_i2c, i_lcmp, i_dup, i_dup2, i_pop, i_null, i_alen, i_iald, i_bald, i_lald, i_aald, i_iast, i_bast, i_last, i_aast, i_goto, i_icmp_eq, i_icmp_ne, i_icmp_lt, i_icmp_ge, i_icmp_gt, i_icmp_le, i_if_eq, i_if_ne, i_if_lt, i_if_ge, i_if_gt, i_if_le, i_ifnonnull, i_getf, i_putf, i_iret, i_zret, i_aret, i_vret, i_new, i_newa, i_anew, i_oinit, i_callv, i_calls, i_calli, i_max, i_min, i_abs, i_copy, i_throw, i_ldcs, pwt, List.getElem?_cons_zero, List.getElem?_cons_succ, List.set_cons_zero, List.set_cons_succ, List.getD_cons_zero, List.getD_cons_succ, List.length_cons, List.length_nil, List.length_set, List.drop_succ_cons, List.drop_zero, List.take_succ_cons, List.take_zero, List.reverse_cons, List.reverse_nil, List.nil_append, List.cons_append, List.append_nil, List.map_cons, List.map_nil, List.sum_cons, List.sum_nil, Value.category, ne_eq, Nat.reduceEqDiff, reduceIte, ite_self, false_implies, true_implies, true_and, and_true, and_self, Nat.zero_le, Nat.le_refl, Nat.reduceLeDiff, Nat.reduceAdd, Nat.reduceLT, Nat.add_zero, Nat.zero_add, pu_eq, not_false_eq_true, not_true_eq_false, forall_const, if_true, if_false, implies_true, e4]
        refine ⟨fun q => ⟨fun p0 => ?_, fun p0 => ?_⟩, fun q => ?_⟩
        · have hk2 : ¬ k = 2 := fun e => q (by rw [e]; rfl)
          have hk0 : ¬ k = 0 := fun e => p0 (by rw [e]; rfl)
          rw [if_neg hk2, if_neg hk0] at hjg2
          exact next _ _ _ _ _ hjg2 q2 q3
        · have hk0 : k = 0 := (nI_eq (by omega) (by decide)).mp (show nI k = nI 0 from p0)
          rw [if_neg (by omega), if_pos hk0] at hjg2
          exact next _ _ _ _ _ hjg2 q2 q3
        · have hk2 : k = 2 := (nI_eq (by omega) (by decide)).mp (show nI k = nI 2 from q)
          rw [if_pos hk2] at hjg2
          have := hQ h'' q2 q3
          unfold judS at this
          rw [hjg2] at this
          exact this
      refine b_X3_judge_7 _ _ _ ?_
      simp only [i_const, i_load, i_aload, i_store, i_astore, i_inc, i_iadd, i_isub, i_imul, i_idiv, i_irem, i_iand, i_ior, i_ixor, i_ishl, i_ishr, i_iushr, i_ineg, i_i2l, i_i2b, i_i2c, i_lcmp, i_dup, i_dup2, i_pop, i_null, i_alen, i_iald, i_bald, i_lald, i_aald, i_iast, i_bast, i_last, i_aast, i_goto, i_icmp_eq, i_icmp_ne, i_icmp_lt, i_icmp_ge, i_icmp_gt, i_icmp_le, i_if_eq, i_if_ne, i_if_lt, i_if_ge, i_if_gt, i_if_le, i_ifnonnull, i_getf, i_putf, i_iret, i_zret, i_aret, i_vret, i_new, i_newa, i_anew, i_oinit, i_callv, i_calls, i_calli, i_max, i_min, i_abs, i_copy, i_throw, i_ldcs, pwt, List.getElem?_cons_zero, List.getElem?_cons_succ, List.set_cons_zero, List.set_cons_succ, List.getD_cons_zero, List.getD_cons_succ, List.length_cons, List.length_nil, List.length_set, List.drop_succ_cons, List.drop_zero, List.take_succ_cons, List.take_zero, List.reverse_cons, List.reverse_nil, List.nil_append, List.cons_append, List.append_nil, List.map_cons, List.map_nil, List.sum_cons, List.sum_nil, Value.category, ne_eq, Nat.reduceEqDiff, reduceIte, ite_self, false_implies, true_implies, true_and, and_true, and_self, Nat.zero_le, Nat.le_refl, Nat.reduceLeDiff, Nat.reduceAdd, Nat.reduceLT, Nat.add_zero, Nat.zero_add, pu_eq, not_false_eq_true, not_true_eq_false, forall_const, if_true, if_false, implies_true, hL, hC, a1, a2, a0, a01, a02, v0, v1, v2, c0, c1, c2, g0, g1, g2, s1]
      refine ⟨fun q => ?_, fun q => ?_⟩
      · have : ops = [] := by
          have := (nI_eq (by omega) (by omega)).mp q
          exact List.length_eq_zero_iff.mp (by omega)
        subst this
        exact tail _ rfl hF hst
      · have hne : ops ≠ [] := fun e => q (by rw [e]; rfl)
        have hw1 : hgL ops 0 = some 1 := hops.resolve_left hne
        refine c_X3_holds (g := g) (ln := ls.length) ⟨hL, hC⟩ hst hA hfa ?_ (by omega) h500 hw1 ?_
        · intro i hi
          rw [hg _ (by omega), hen, show pre.length + 3 + i = pre.length + (3 + i) by omega, getD_ap]
          show nI ((k :: z :: ops.length :: (ops ++ encL t)).getD (3 + i) 0) = _
          rw [show 3 + i = i + 1 + 1 + 1 by omega]
          simp only [List.getD_cons_succ]
          rw [List.getD_eq_getElem?_getD, List.getElem?_append_left hi, List.getD_eq_getElem?_getD]
        · intro h'' v q2 q3 q4
          have hb : hldB fc ops = decide (v ≠ 0) := by
            unfold hldB
            split
            · exact absurd rfl hne
            · rw [q4]
          simp only [i_const, i_load, i_aload, i_store, i_astore, i_inc, i_iadd, i_isub, i_imul, i_idiv, i_irem, i_iand, i_ior, i_ixor, i_ishl, i_ishr, i_iushr, i_ineg, i_i2l, i_i2b, i_i2c, i_lcmp, i_dup, i_dup2, i_pop, i_null, i_alen, i_iald, i_bald, i_lald, i_aald, i_iast, i_bast, i_last, i_aast, i_goto, i_icmp_eq, i_icmp_ne, i_icmp_lt, i_icmp_ge, i_icmp_gt, i_icmp_le, i_if_eq, i_if_ne, i_if_lt, i_if_ge, i_if_gt, i_if_le, i_ifnonnull, i_getf, i_putf, i_iret, i_zret, i_aret, i_vret, i_new, i_newa, i_anew, i_oinit, i_callv, i_calls, i_calli, i_max, i_min, i_abs, i_copy, i_throw, i_ldcs, pwt, List.getElem?_cons_zero, List.getElem?_cons_succ, List.set_cons_zero, List.set_cons_succ, List.getD_cons_zero, List.getD_cons_succ, List.length_cons, List.length_nil, List.length_set, List.drop_succ_cons, List.drop_zero, List.take_succ_cons, List.take_zero, List.reverse_cons, List.reverse_nil, List.nil_append, List.cons_append, List.append_nil, List.map_cons, List.map_nil, List.sum_cons, List.sum_nil, Value.category, ne_eq, Nat.reduceEqDiff, reduceIte, ite_self, false_implies, true_implies, true_and, and_true, and_self, Nat.zero_le, Nat.le_refl, Nat.reduceLeDiff, Nat.reduceAdd, Nat.reduceLT, Nat.add_zero, Nat.zero_add, pu_eq, not_false_eq_true, not_true_eq_false, forall_const, if_true, if_false, implies_true, pRetK, e4]
          refine ⟨fun c => ?_, fun c => ?_⟩
          · have hv : v = 0 := by
              by_cases e : v = 0
              · exact e
              · rw [if_neg e] at c; exact absurd c (by decide)
            have hjg2 : jgL fc ls 0 = jgL fc t w := by rw [hjg]; show (if hldB fc ops = true then _ else _) = _; rw [if_neg (by rw [hb, hv]; decide)]
            exact next _ _ _ _ _ hjg2 (hF.tr q2) q3
          · have hv : v ≠ 0 := by
              intro e
              rw [if_pos e] at c; exact c rfl
            exact tail _ (by rw [hb]; exact decide_eq_true hv) (hF.tr q2) q3
  · rintro lv σ ⟨rest, pre, w, h', hen, hlen, hjg, hrk, hF, hst, ⟨x5, x6, x7, rfl⟩, rfl⟩
    match rest, hlen, hjg with
    | _ :: _, hlen, _ => simp at hlen
    | [], _, hjg =>
      have hL : h' L = _ := (hF L (by omega)).trans H.1
      refine b_X3_judge_7 _ _ _ ?_
      simp only [i_const, i_load, i_aload, i_store, i_astore, i_inc, i_iadd, i_isub, i_imul, i_idiv, i_irem, i_iand, i_ior, i_ixor, i_ishl, i_ishr, i_iushr, i_ineg, i_i2l, i_i2b, i_i2c, i_lcmp, i_dup, i_dup2, i_pop, i_null, i_alen, i_iald, i_bald, i_lald, i_aald, i_iast, i_bast, i_last, i_aast, i_goto, i_icmp_eq, i_icmp_ne, i_icmp_lt, i_icmp_ge, i_icmp_gt, i_icmp_le, i_if_eq, i_if_ne, i_if_lt, i_if_ge, i_if_gt, i_if_le, i_ifnonnull, i_getf, i_putf, i_iret, i_zret, i_aret, i_vret, i_new, i_newa, i_anew, i_oinit, i_callv, i_calls, i_calli, i_max, i_min, i_abs, i_copy, i_throw, i_ldcs, pwt, List.getElem?_cons_zero, List.getElem?_cons_succ, List.set_cons_zero, List.set_cons_succ, List.getD_cons_zero, List.getD_cons_succ, List.length_cons, List.length_nil, List.length_set, List.drop_succ_cons, List.drop_zero, List.take_succ_cons, List.take_zero, List.reverse_cons, List.reverse_nil, List.nil_append, List.cons_append, List.append_nil, List.map_cons, List.map_nil, List.sum_cons, List.sum_nil, Value.category, ne_eq, Nat.reduceEqDiff, reduceIte, ite_self, false_implies, true_implies, true_and, and_true, and_self, Nat.zero_le, Nat.le_refl, Nat.reduceLeDiff, Nat.reduceAdd, Nat.reduceLT, Nat.add_zero, Nat.zero_add, pu_eq, not_false_eq_true, not_true_eq_false, forall_const, if_true, if_false, implies_true, hL, nI_le_self]
      have := hQ h' hF hst
      unfold judS at this
      rw [hjg] at this
      exact this
end LAW

/-! Army: what is judged -/
section ARMY
variable {E : PE} {M : PM} {d : Nat} {Q : PQ} {h : PH} {n : Nat} {a b : Nat} {r rb : AR} {lw lb : Option Nat} {C : Option LawL} {pc : Nat}
theorem kc0 : (0 : Int32).toNatClampNeg = 0 := rfl
theorem kc1 : (1 : Int32).toNatClampNeg = 1 := rfl
theorem kc2 : (2 : Int32).toNatClampNeg = 2 := rfl
theorem kc3 : (3 : Int32).toNatClampNeg = 3 := rfl
theorem kc4 : (4 : Int32).toNatClampNeg = 4 := rfl
theorem kc5 : (5 : Int32).toNatClampNeg = 5 := rfl
theorem kc6 : (6 : Int32).toNatClampNeg = 6 := rfl
theorem kc7 : (7 : Int32).toNatClampNeg = 7 := rfl
theorem kc8 : (8 : Int32).toNatClampNeg = 8 := rfl
theorem kc9 : (9 : Int32).toNatClampNeg = 9 := rfl
theorem ev1_congr {f g : Nat → Int32} (e : ∀ k, k < 10 → f k = g k) (o : Nat) (s : List Int32) : ev1 f o s = ev1 g o s := by
  unfold ev1
  rw [e ((o - 1000) % 10) (Nat.mod_lt _ (by decide))]
theorem evL_congr {f g : Nat → Int32} (e : ∀ k, k < 10 → f k = g k) (ops : List Nat) (s : List Int32) : evL f ops s = evL g ops s := by
  unfold evL
  induction ops generalizing s with
  | nil => rfl
  | cons o t ih => simp only [List.foldl_cons]; rw [ev1_congr e]; exact ih _
theorem hldB_congr {f g : Nat → Int32} (e : ∀ k, k < 10 → f k = g k) (ops : List Nat) : hldB f ops = hldB g ops := by
  unfold hldB
  split
  · rfl
  · rw [evL_congr e]
theorem jgL_congr {f g : Nat → Int32} (e : ∀ k, k < 10 → f k = g k) : ∀ (ls : LawL) (w : Int32), jgL f ls w = jgL g ls w
  | [], _ => rfl
  | (k, z, ops) :: t, w => by
    unfold jgL
    rw [hldB_congr e, jgL_congr e t, jgL_congr e t]
theorem judS_congr {f g : Nat → Int32} (e : ∀ k, k < 10 → f k = g k) (ls : LawL) : judS f ls = judS g ls := by unfold judS; rw [jgL_congr e]
def LX (h : PH) (a : Nat) (lw : Option Nat) (C : Option LawL) : Prop := match lw, C with
  | none, none => True
  | some L, some ls => (L + 3 ≤ a ∨ a + 20 ≤ L) ∧ (∃ g, LH h L (encL ls).length g ls.length ∧ ∀ i, i < (encL ls).length → g i = nI ((encL ls).getD i 0)) ∧ (∃ f, h (L + 2) = some (.inl (.int, (24, .inl f)))) ∧ (encL ls).length ≤ 500 ∧ ls.length ≤ 100 ∧ ∀ l ∈ ls, lnOK l
  | _, _ => False
/-- an army and its law, whatever its row of facts and the law's stack hold -/
def AX (h : PH) (a : Nat) (r : AR) (lw : Option Nat) (C : Option LawL) : Prop := (∃ f, AA h a (rs r 19 f) lw) ∧ LX h a lw C
def SE (a : Nat) (lw : Option Nat) (h h' : PH) : Prop := ∀ q, q ≠ a + 19 → (∀ L, lw = some L → q ≠ L + 2) → h' q = h q
theorem SE.rf {a : Nat} {lw : Option Nat} {h : PH} : SE a lw h h := fun _ _ _ => rfl
theorem SE.tr {a : Nat} {lw : Option Nat} {h h' h'' : PH} (F : SE a lw h h') (G : SE a lw h' h'') : SE a lw h h'' := fun q h1 h2 => (G q h1 h2).trans (F q h1 h2)
def factS (r : AR) (s b : Nat) (man : Int32) : Nat → Int32
  | 0 => r 9 s
  | 1 => r 10 s
  | 2 => r 11 s
  | 3 => r 12 s
  | 4 => r 13 s
  | 5 => r 0 5 - r 3 b
  | 6 => man
  | 7 => if r 14 s = man then 1 else 0
  | 8 => (r 4 b >>> (r 10 s &&& 31)) &&& 1
  | _ => if earB (r 9 s) = 0 then 0 else 1
/-- where a scar's battle lies -/
def bat (r : AR) (s : Nat) : Nat := (r 11 s).toNatClampNeg
def jdS (r : AR) (C : Option LawL) (s : Nat) (man : Int32) : Int32 := match C with
  | none => r 12 s + r 13 s
  | some ls => judS (factS r s (bat r s) man) ls
theorem LX.kept {h h' : PH} {a : Nat} {lw : Option Nat} {C : Option LawL} (X : LX h a lw C) (F : ∀ L, lw = some L → h' L = h L ∧ h' (L + 1) = h (L + 1) ∧ ∃ f, h' (L + 2) = some (.inl (.int, (24, .inl f)))) : LX h' a lw C := by
  unfold LX at X ⊢
  match lw, C, X, F with
  | none, none, X, _ => exact X
  | some L, some ls, X, F =>
    obtain ⟨h1, ⟨g, h2, h3⟩, h4, h5⟩ := X
    obtain ⟨f1, f2, f3⟩ := F L rfl
    exact ⟨h1, ⟨g, ⟨by rw [f1]; exact h2.1, by rw [f2]; exact h2.2⟩, h3⟩, f3, h5⟩
theorem c_X0_judgedOn {s bb : Nat} {man : Int32} (X : AX h a r lw C) (hs : s < 24) (hb : r 11 s = nI bb) (hb8 : bb < 8) (hQ : ∀ h', AX h' a r lw C → SE a lw h h' → Q (.inl (some (.int (jdS r C s man)))) h' n) : pCall E M_X0_judgedOn (d + 2) [.ref a, .int (nI s), .int man] h n Q := by
  obtain ⟨⟨f, H⟩, X2⟩ := X
  refine pCall_of rfl rfl (Nat.le_of_ble_eq_true rfl) (by simp [Value.category]) ?_
  refine b_X0_judgedOn_0 _ _ _ ?_
  simp only [pEntry, PM.nL, M_X0_judgedOn, List.map_cons, List.map_nil, List.length_cons, List.length_nil, Nat.reduceAdd, Nat.reduceSub, Nat.sub_self, List.replicate_succ, List.replicate_zero, List.cons_append, List.nil_append]
  have v : vp_in (nI s) 24 := vp_in_nI hs (by decide)
  have c : (nI s).toNatClampNeg = s := nI_clamp (Nat.lt_trans hs (by decide))
  have vb : vp_in (nI bb) 8 := vp_in_nI hb8 (by decide)
  have cb : (nI bb).toNatClampNeg = bb := nI_clamp (Nat.lt_trans hb8 (by decide))
  have hbat : bat r s = bb := by unfold bat; rw [hb]; exact cb
  match lw, C, X2, H, hQ with
  | none, none, X2, H, hQ =>
    simp only [i_const, i_load, i_aload, i_store, i_astore, i_inc, i_iadd, i_isub, i_imul, i_idiv, i_irem, i_iand, i_ior, i_ixor, i_ishl, i_ishr, i_iushr, i_ineg, i_i2l, i_i2b, i_i2c, i_lcmp, i_dup, i_dup2, i_pop, i_null, i_alen, i_iald, i_bald, i_lald, i_aald, i_iast, i_bast, i_last, i_aast, i_goto, i_icmp_eq, i_icmp_ne, i_icmp_lt, i_icmp_ge, i_icmp_gt, i_icmp_le, i_if_eq, i_if_ne, i_if_lt, i_if_ge, i_if_gt, i_if_le, i_ifnonnull, i_getf, i_putf, i_iret, i_zret, i_aret, i_vret, i_new, i_newa, i_anew, i_oinit, i_callv, i_calls, i_calli, i_max, i_min, i_abs, i_copy, i_throw, i_ldcs, pwt, List.getElem?_cons_zero, List.getElem?_cons_succ, List.set_cons_zero, List.set_cons_succ, List.getD_cons_zero, List.getD_cons_succ, List.length_cons, List.length_nil, List.length_set, List.drop_succ_cons, List.drop_zero, List.take_succ_cons, List.take_zero, List.reverse_cons, List.reverse_nil, List.nil_append, List.cons_append, List.append_nil, List.map_cons, List.map_nil, List.sum_cons, List.sum_nil, Value.category, ne_eq, Nat.reduceEqDiff, reduceIte, ite_self, false_implies, true_implies, true_and, and_true, and_self, Nat.zero_le, Nat.le_refl, Nat.reduceLeDiff, Nat.reduceAdd, Nat.reduceLT, Nat.add_zero, Nat.zero_add, pu_eq, not_false_eq_true, not_true_eq_false, forall_const, if_true, if_false, implies_true, H.f0, H.f8, H.f12, H.f13, va_rf, v, c]
    exact hQ h ⟨⟨f, H⟩, X2⟩ SE.rf
  | some L, some ls, X2, H, hQ =>
    obtain ⟨x1, ⟨g, x2, x3⟩, x4, x5, x6, x7'⟩ := X2
    have w0 : vp_in (0 : Int32) 10 := vp_in_nI (n := 0) (by decide) (by decide)
    have w1 : vp_in (1 : Int32) 10 := vp_in_nI (n := 1) (by decide) (by decide)
    have w2 : vp_in (2 : Int32) 10 := vp_in_nI (n := 2) (by decide) (by decide)
    have w3 : vp_in (3 : Int32) 10 := vp_in_nI (n := 3) (by decide) (by decide)
    have w4 : vp_in (4 : Int32) 10 := vp_in_nI (n := 4) (by decide) (by decide)
    have w5 : vp_in (5 : Int32) 10 := vp_in_nI (n := 5) (by decide) (by decide)
    have w6 : vp_in (6 : Int32) 10 := vp_in_nI (n := 6) (by decide) (by decide)
    have w7 : vp_in (7 : Int32) 10 := vp_in_nI (n := 7) (by decide) (by decide)
    have w8 : vp_in (8 : Int32) 10 := vp_in_nI (n := 8) (by decide) (by decide)
    have w9 : vp_in (9 : Int32) 10 := vp_in_nI (n := 9) (by decide) (by decide)
    have hb2 : rs r 19 f 11 s = nI bb := hb
    simp only [i_const, i_load, i_aload, i_store, i_astore, i_inc, i_iadd, i_isub, i_imul, i_idiv, i_irem, i_iand, i_ior, i_ixor, i_ishl, i_ishr, i_iushr, i_ineg, i_i2l, i_i2b, i_i2c, i_lcmp, i_dup, i_dup2, i_pop, i_null, i_alen, i_iald, i_bald, i_lald, i_aald, i_iast, i_bast, i_last, i_aast, i_goto, i_icmp_eq, i_icmp_ne, i_icmp_lt, i_icmp_ge, i_icmp_gt, i_icmp_le, i_if_eq, i_if_ne, i_if_lt, i_if_ge, i_if_gt, i_if_le, i_ifnonnull, i_getf, i_putf, i_iret, i_zret, i_aret, i_vret, i_new, i_newa, i_anew, i_oinit, i_callv, i_calls, i_calli, i_max, i_min, i_abs, i_copy, i_throw, i_ldcs, pwt, List.getElem?_cons_zero, List.getElem?_cons_succ, List.set_cons_zero, List.set_cons_succ, List.getD_cons_zero, List.getD_cons_succ, List.length_cons, List.length_nil, List.length_set, List.drop_succ_cons, List.drop_zero, List.take_succ_cons, List.take_zero, List.reverse_cons, List.reverse_nil, List.nil_append, List.cons_append, List.append_nil, List.map_cons, List.map_nil, List.sum_cons, List.sum_nil, Value.category, ne_eq, Nat.reduceEqDiff, reduceIte, ite_self, false_implies, true_implies, true_and, and_true, and_self, Nat.zero_le, Nat.le_refl, Nat.reduceLeDiff, Nat.reduceAdd, Nat.reduceLT, Nat.add_zero, Nat.zero_add, pu_eq, not_false_eq_true, not_true_eq_false, forall_const, if_true, if_false, implies_true, H.f0, H.f1, H.f3, H.f8, H.f9, H.f10, H.f11, H.f12, H.f13, H.f14, H.f19, va_rf, v, c, hb2, vb, cb, pu_add, pu_add0, pu_pu, w0, w1, w2, w3, w4, w5, w6, w7, kc0, kc1, kc2, kc3, kc4, kc5, kc6, kc7]
    have key : ∀ (x7 : Int32) (f6 : Nat → Int32), (x7 = if r 14 s = man then 1 else 0) → (∀ k, k < 7 → f6 k = factS r s bb man k) → PW E M_X0_judgedOn (d + 2) Q 160 [some (.ref a), some (.int (nI s)), some (.int man), some (.int (nI bb)), some (.int (r 10 s))] [.int x7, .int 7, .ref (a + 19)] (pu h (a + 19) (.inl (.int, (10, .inl f6))), n, 0, 0) := by
      intro x7 f6 e7 e6
      have H6 : AA (pu h (a + 19) (.inl (.int, (10, .inl f6)))) a (rs (rs r 19 f) 19 f6) (some L) := H.rs 19 f6
      refine b_X0_judgedOn_160 _ _ _ ?_
      simp only [i_const, i_load, i_aload, i_store, i_astore, i_inc, i_iadd, i_isub, i_imul, i_idiv, i_irem, i_iand, i_ior, i_ixor, i_ishl, i_ishr, i_iushr, i_ineg, i_i2l, i_i2b, i_i2c, i_lcmp, i_dup, i_dup2, i_pop, i_null, i_alen, i_iald, i_bald, i_lald, i_aald, i_iast, i_bast, i_last, i_aast, i_goto, i_icmp_eq, i_icmp_ne, i_icmp_lt, i_icmp_ge, i_icmp_gt, i_icmp_le, i_if_eq, i_if_ne, i_if_lt, i_if_ge, i_if_gt, i_if_le, i_ifnonnull, i_getf, i_putf, i_iret, i_zret, i_aret, i_vret, i_new, i_newa, i_anew, i_oinit, i_callv, i_calls, i_calli, i_max, i_min, i_abs, i_copy, i_throw, i_ldcs, pwt, List.getElem?_cons_zero, List.getElem?_cons_succ, List.set_cons_zero, List.set_cons_succ, List.getD_cons_zero, List.getD_cons_succ, List.length_cons, List.length_nil, List.length_set, List.drop_succ_cons, List.drop_zero, List.take_succ_cons, List.take_zero, List.reverse_cons, List.reverse_nil, List.nil_append, List.cons_append, List.append_nil, List.map_cons, List.map_nil, List.sum_cons, List.sum_nil, Value.category, ne_eq, Nat.reduceEqDiff, reduceIte, ite_self, false_implies, true_implies, true_and, and_true, and_self, Nat.zero_le, Nat.le_refl, Nat.reduceLeDiff, Nat.reduceAdd, Nat.reduceLT, Nat.add_zero, Nat.zero_add, pu_eq, not_false_eq_true, not_true_eq_false, forall_const, if_true, if_false, implies_true, H.f0, H.f1, H.f4, H.f8, v, c, vb, cb, w7, w8, w9, kc7, kc8, kc9, pu_add, pu_add0, pu_pu]
      have H8 : AA (pu h (a + 19) (.inl (.int, (10, .inl (upd (upd f6 7 x7) 8 ((r 4 bb >>> (r 10 s &&& 31)) &&& 1)))))) a (rs (rs r 19 f) 19 (upd (upd f6 7 x7) 8 ((r 4 bb >>> (r 10 s &&& 31)) &&& 1))) (some L) := H.rs 19 _
      refine c_X8_earBit H8 hs ?_
      have fin : ∀ x9, (x9 = if earB (r 9 s) = 0 then 0 else 1) → pCall E M_X3_judge (d + 1) [.ref L, .ref (a + 19)] (pu h (a + 19) (.inl (.int, (10, .inl (upd (upd (upd f6 7 x7) 8 ((r 4 bb >>> (r 10 s &&& 31)) &&& 1)) 9 x9))))) n (pRetK (i_iret 0 0 Q) Q [some (.ref a), some (.int (nI s)), some (.int man), some (.int (nI bb)), some (.int (r 10 s))] [] (0, 0)) := by
        intro x9 e9
        have hne : a + 19 ≠ L + 2 := by omega
        refine c_X3_judge (g := g) (ls := ls) (cl := (encL ls).length) ⟨by rw [pu_ne (by omega)]; exact x2.1, by rw [pu_ne (by omega)]; exact x2.2⟩ (by obtain ⟨z, hz⟩ := x4; exact ⟨z, by rw [pu_ne (by omega)]; exact hz⟩) (pu_eq _ _ _) hne rfl x3 x5 x6 x7' ?_
        intro h' hF hst
        simp only [i_const, i_load, i_aload, i_store, i_astore, i_inc, i_iadd, i_isub, i_imul, i_idiv, i_irem, i_iand, i_ior, i_ixor, i_ishl, i_ishr, i_iushr, i_ineg, i_i2l, i_i2b, i_i2c, i_lcmp, i_dup, i_dup2, i_pop, i_null, i_alen, i_iald, i_bald, i_lald, i_aald, i_iast, i_bast, i_last, i_aast, i_goto, i_icmp_eq, i_icmp_ne, i_icmp_lt, i_icmp_ge, i_icmp_gt, i_icmp_le, i_if_eq, i_if_ne, i_if_lt, i_if_ge, i_if_gt, i_if_le, i_ifnonnull, i_getf, i_putf, i_iret, i_zret, i_aret, i_vret, i_new, i_newa, i_anew, i_oinit, i_callv, i_calls, i_calli, i_max, i_min, i_abs, i_copy, i_throw, i_ldcs, pwt, List.getElem?_cons_zero, List.getElem?_cons_succ, List.set_cons_zero, List.set_cons_succ, List.getD_cons_zero, List.getD_cons_succ, List.length_cons, List.length_nil, List.length_set, List.drop_succ_cons, List.drop_zero, List.take_succ_cons, List.take_zero, List.reverse_cons, List.reverse_nil, List.nil_append, List.cons_append, List.append_nil, List.map_cons, List.map_nil, List.sum_cons, List.sum_nil, Value.category, ne_eq, Nat.reduceEqDiff, reduceIte, ite_self, false_implies, true_implies, true_and, and_true, and_self, Nat.zero_le, Nat.le_refl, Nat.reduceLeDiff, Nat.reduceAdd, Nat.reduceLT, Nat.add_zero, Nat.zero_add, pu_eq, not_false_eq_true, not_true_eq_false, forall_const, if_true, if_false, implies_true, pRetK]
        have hj : judS (upd (upd (upd f6 7 x7) 8 ((r 4 bb >>> (r 10 s &&& 31)) &&& 1)) 9 x9) ls = jdS r (some ls) s man := by
          show _ = judS (factS r s (bat r s) man) ls
          rw [hbat]
          refine judS_congr (fun k hk => ?_) ls
          match k, hk with
          | 0, _ => exact e6 0 (by decide)
          | 1, _ => exact e6 1 (by decide)
          | 2, _ => exact e6 2 (by decide)
          | 3, _ => exact e6 3 (by decide)
          | 4, _ => exact e6 4 (by decide)
          | 5, _ => exact e6 5 (by decide)
          | 6, _ => exact e6 6 (by decide)
          | 7, _ => exact e7
          | 8, _ => rfl
          | 9, _ => exact e9
          | k + 10, hk => exact absurd hk (by omega)
        rw [hj]
        have HA : AA h' a (rs (rs r 19 f) 19 (upd (upd (upd f6 7 x7) 8 ((r 4 bb >>> (r 10 s &&& 31)) &&& 1)) 9 x9)) (some L) := fun q hq => (hF (a + q) (by omega)).trans (H.rs 19 _ q hq)
        have HE : rs (rs r 19 f) 19 (upd (upd (upd f6 7 x7) 8 ((r 4 bb >>> (r 10 s &&& 31)) &&& 1)) 9 x9) = rs r 19 (upd (upd (upd f6 7 x7) 8 ((r 4 bb >>> (r 10 s &&& 31)) &&& 1)) 9 x9) := by
          funext q
          unfold rs
          by_cases e : q = 19
          · rw [if_pos e, if_pos e]
          · rw [if_neg e, if_neg e, if_neg e]
        rw [HE] at HA
        refine hQ h' ⟨⟨_, HA⟩, ?_⟩ ?_
        · refine LX.kept (h := h) (C := some ls) (lw := some L) ⟨x1, ⟨g, x2, x3⟩, x4, x5, x6, x7'⟩ (fun L' e => ?_)
          cases e
          exact ⟨(hF L (by omega)).trans (pu_ne (by omega)), (hF (L + 1) (by omega)).trans (pu_ne (by omega)), hst⟩
        · intro q q1 q2
          rw [hF q (q2 L rfl), pu_ne q1]
      simp only [i_const, i_load, i_aload, i_store, i_astore, i_inc, i_iadd, i_isub, i_imul, i_idiv, i_irem, i_iand, i_ior, i_ixor, i_ishl, i_ishr, i_iushr, i_ineg, i_i2l, i_i2b, i_i2c, i_lcmp, i_dup, i_dup2, i_pop, i_null, i_alen, i_iald, i_bald, i_lald, i_aald, i_iast, i_bast, i_last, i_aast, i_goto, i_icmp_eq, i_icmp_ne, i_icmp_lt, i_icmp_ge, i_icmp_gt, i_icmp_le, i_if_eq, i_if_ne, i_if_lt, i_if_ge, i_if_gt, i_if_le, i_ifnonnull, i_getf, i_putf, i_iret, i_zret, i_aret, i_vret, i_new, i_newa, i_anew, i_oinit, i_callv, i_calls, i_calli, i_max, i_min, i_abs, i_copy, i_throw, i_ldcs, pwt, List.getElem?_cons_zero, List.getElem?_cons_succ, List.set_cons_zero, List.set_cons_succ, List.getD_cons_zero, List.getD_cons_succ, List.length_cons, List.length_nil, List.length_set, List.drop_succ_cons, List.drop_zero, List.take_succ_cons, List.take_zero, List.reverse_cons, List.reverse_nil, List.nil_append, List.cons_append, List.append_nil, List.map_cons, List.map_nil, List.sum_cons, List.sum_nil, Value.category, ne_eq, Nat.reduceEqDiff, reduceIte, ite_self, false_implies, true_implies, true_and, and_true, and_self, Nat.zero_le, Nat.le_refl, Nat.reduceLeDiff, Nat.reduceAdd, Nat.reduceLT, Nat.add_zero, Nat.zero_add, pu_eq, not_false_eq_true, not_true_eq_false, forall_const, if_true, if_false, implies_true, pRetK, w9, kc9, pu_add, pu_add0, pu_pu, va_rf, H.f0]
      have hLz : ∀ cz, pu h (a + 19) cz L = some (.inr (3, [.int (nI ls.length), .ref (L + 1), .ref (L + 2)])) := fun cz => by rw [pu_ne (by omega)]; exact x2.1
      simp only [i_const, i_load, i_aload, i_store, i_astore, i_inc, i_iadd, i_isub, i_imul, i_idiv, i_irem, i_iand, i_ior, i_ixor, i_ishl, i_ishr, i_iushr, i_ineg, i_i2l, i_i2b, i_i2c, i_lcmp, i_dup, i_dup2, i_pop, i_null, i_alen, i_iald, i_bald, i_lald, i_aald, i_iast, i_bast, i_last, i_aast, i_goto, i_icmp_eq, i_icmp_ne, i_icmp_lt, i_icmp_ge, i_icmp_gt, i_icmp_le, i_if_eq, i_if_ne, i_if_lt, i_if_ge, i_if_gt, i_if_le, i_ifnonnull, i_getf, i_putf, i_iret, i_zret, i_aret, i_vret, i_new, i_newa, i_anew, i_oinit, i_callv, i_calls, i_calli, i_max, i_min, i_abs, i_copy, i_throw, i_ldcs, pwt, List.getElem?_cons_zero, List.getElem?_cons_succ, List.set_cons_zero, List.set_cons_succ, List.getD_cons_zero, List.getD_cons_succ, List.length_cons, List.length_nil, List.length_set, List.drop_succ_cons, List.drop_zero, List.take_succ_cons, List.take_zero, List.reverse_cons, List.reverse_nil, List.nil_append, List.cons_append, List.append_nil, List.map_cons, List.map_nil, List.sum_cons, List.sum_nil, Value.category, ne_eq, Nat.reduceEqDiff, reduceIte, ite_self, false_implies, true_implies, true_and, and_true, and_self, Nat.zero_le, Nat.le_refl, Nat.reduceLeDiff, Nat.reduceAdd, Nat.reduceLT, Nat.add_zero, Nat.zero_add, pu_eq, not_false_eq_true, not_true_eq_false, forall_const, if_true, if_false, implies_true, hLz]
      refine ⟨fun q => fin 0 (by rw [if_pos (show earB (r 9 s) = 0 from q)]), fun q => fin 1 (by rw [if_neg (show ¬ earB (r 9 s) = 0 from q)])⟩
    refine ⟨fun q => key 0 _ (by rw [if_neg (show ¬ r 14 s = man from q)]) ?_, fun q => key 1 _ (by rw [if_pos (show r 14 s = man from q)]) ?_⟩
    all_goals
      intro k hk
      match k, hk with
      | 0, _ => rfl
      | 1, _ => rfl
      | 2, _ => exact hb.symm
      | 3, _ => rfl
      | 4, _ => rfl
      | 5, _ => rfl
      | 6, _ => rfl
      | k + 7, hk => exact absurd hk (by omega)
end ARMY

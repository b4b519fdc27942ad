/-! how many enemies can be right: the class -/
section KUHN
variable {E : PE} {M : PM} {d : Nat} {Q : PQ} {h : PH} {n : Nat} {a b s t x y L ln cnt : Nat} {r rb g : AR} {lw lb : Option Nat} {C Cb : Option LawL} {pc : Nat}
/-- how many men were not asked -/
def un (A : Int32) : Nat := ctF (fun j => !bI A j) 10
theorem ctF_mono {p q : Nat → Bool} : ∀ n, (∀ j, j < n → p j = true → q j = true) → ctF p n ≤ ctF q n
  | 0, _ => Nat.le_refl _
  | n + 1, h => by
    have ih := ctF_mono n (fun j hj => h j (by omega))
    unfold ctF
    by_cases c : p n = true
    · rw [if_pos c, if_pos (h n (by omega) c)]; omega
    · rw [if_neg c]; split <;> omega
theorem ctF_strict {p q : Nat → Bool} {k : Nat} : ∀ n, (∀ j, j < n → p j = true → q j = true) → k < n → p k = false → q k = true → ctF p n + 1 ≤ ctF q n
  | 0, _, hk, _, _ => absurd hk (Nat.not_lt_zero k)
  | n + 1, h, hk, h1, h2 => by
    unfold ctF
    by_cases e : k = n
    · subst e
      rw [if_neg (by rw [h1]; decide), if_pos h2]
      have := ctF_mono k (fun j hj => h j (by omega))
      omega
    · have ih := ctF_strict n (fun j hj => h j (by omega)) (by omega) h1 h2
      by_cases c : p n = true
      · rw [if_pos c, if_pos (h n (by omega) c)]; omega
      · rw [if_neg c]; split <;> omega
def ge (A A' : Int32) : Prop := ∀ j, j < 10 → bI A j = true → bI A' j = true
theorem un_le {A A' : Int32} (h : ge A A') : un A' ≤ un A := ctF_mono 10 (fun j hj q => by
  cases c : bI A j
  · rfl
  · rw [h j hj c] at q; exact absurd q (by decide))
theorem un_lt {A : Int32} {m : Nat} (hm : m < 10) (h : bI A m = false) : un (A ||| bitI m) + 1 ≤ un A := ctF_strict (k := m) 10 (fun j hj q => by
    cases c : bI A j
    · rfl
    · rw [bI_or, c, Bool.true_or] at q; exact absurd q (by decide)) hm (by rw [bI_or, bI_bit (by omega), decide_eq_true rfl, Bool.or_true]; rfl) (by rw [h]; rfl)
/-- a matching of the men that were not asked -/
def MI (cnt : Nat) (A : Int32) (g : AR) : Prop := (∀ m, m < 10 → bI A m = false → g 2 m = -1 ∨ ∃ e, e < cnt ∧ g 2 m = nI e ∧ bI (g 1 e) m = true) ∧ ∀ m m', m < 10 → m' < 10 → bI A m = false → bI A m' = false → g 2 m = g 2 m' → g 2 m ≠ -1 → m = m'
def im (A : Int32) (g : AR) (e : Nat) : Prop := ∃ m, m < 10 ∧ bI A m = false ∧ g 2 m = nI e
/-- rows but for who is asked and whose enemy each is -/
def SR (g g' : AR) : Prop := g' 1 = g 1 ∧ ∀ k, k ≠ 0 → k ≠ 2 → g' k = g k
theorem neg1 {e : Nat} (he : e < 2 ^ 31) : nI e ≠ -1 := fun q => by
  have : (nI e).toInt = (-1 : Int32).toInt := by rw [q]
  rw [nI_toInt he] at this
  have : (-1 : Int32).toInt = -1 := rfl
  omega
theorem bit_ne (x : Int32) {m : Nat} (hm : m < 32) : (x &&& bitI m ≠ 0) ↔ bI x m = true := by
  constructor
  · intro h
    cases c : bI x m
    · exfalso
      apply h
      apply bI_ext
      intro j hj
      rw [bI_and, bI_bit hm, bI_0]
      by_cases e : m = j
      · subst e; rw [c]; rfl
      · rw [decide_eq_false e, Bool.and_false]
    · rfl
  · intro c e
    have : bI (x &&& bitI m) m = bI 0 m := by rw [e]
    rw [bI_and, bI_bit hm, c, decide_eq_true rfl, bI_0] at this
    exact absurd this (by decide)
theorem c_X9_findMan (u : Nat) : ∀ {h : PH} {g : AR} {Q : PQ} {e : Nat}, SA h s g → e < cnt → cnt ≤ 10 → un (g 0 2) ≤ u → MI cnt (g 0 2) g → ¬ im (g 0 2) g e →
    (∀ h' g', SA h' s g' → FS s h h' → SR g g' → ge (g 0 2) (g' 0 2) → MI cnt (g 0 2) g' → (∀ e', e' < cnt → (im (g 0 2) g' e' ↔ e' = e ∨ im (g 0 2) g e')) → (∀ m, m < 10 → bI (g 0 2) m = true → g' 2 m = g 2 m) → Q (.inl (some (.int 1))) h' n) →
    (∀ h' g', SA h' s g' → FS s h h' → SR g g' → g' 2 = g 2 → ge (g 0 2) (g' 0 2) → (∀ m, m < 10 → bI (g 1 e) m = true → bI (g' 0 2) m = true) → (∀ m, m < 10 → bI (g' 0 2) m = true → bI (g 0 2) m = false → ∃ e', e' < cnt ∧ g 2 m = nI e' ∧ ∀ m', m' < 10 → bI (g 1 e') m' = true → bI (g' 0 2) m' = true) → Q (.inl (some (.int 0))) h' n) →
    pCall E M_X9_findMan (d + u + 1) [.ref s, .int (nI e)] h n Q := by
  induction u with
  | zero =>
    intro h g Q e H he hc hu hM hi hQ1 hQ0
    refine pCall_of rfl rfl (Nat.le_of_ble_eq_true rfl) (by simp [Value.category]) ?_
    refine b_X9_findMan_0 _ _ _ ?_
    simp only [pEntry, PM.nL, M_X9_findMan, List.map_cons, List.map_nil, List.length_cons, List.length_nil, Nat.reduceAdd, Nat.reduceSub, Nat.sub_self, List.replicate_succ, List.replicate_zero, List.cons_append, List.nil_append]
    simp only [i_const, i_load, i_aload, i_store, i_astore, i_inc, i_iadd, i_isub, i_imul, i_idiv, i_irem, i_iand, i_ior, i_ixor, i_ishl, i_ishr, i_iushr, i_ineg, i_i2l, i_i2b, i_i2c, i_lcmp, i_dup, i_dup2, i_pop, i_null, i_alen, i_iald, i_bald, i_lald, i_aald, i_iast, i_bast, i_last, i_aast, i_goto, i_icmp_eq, i_icmp_ne, i_icmp_lt, i_icmp_ge, i_icmp_gt, i_icmp_le, i_if_eq, i_if_ne, i_if_lt, i_if_ge, i_if_gt, i_if_le, i_ifnonnull, i_getf, i_putf, i_iret, i_zret, i_aret, i_vret, i_new, i_newa, i_anew, i_oinit, i_callv, i_calls, i_calli, i_max, i_min, i_abs, i_copy, i_throw, i_ldcs, pwt, List.getElem?_cons_zero, List.getElem?_cons_succ, List.set_cons_zero, List.set_cons_succ, List.getD_cons_zero, List.getD_cons_succ, List.length_cons, List.length_nil, List.length_set, List.drop_succ_cons, List.drop_zero, List.take_succ_cons, List.take_zero, List.reverse_cons, List.reverse_nil, List.nil_append, List.cons_append, List.append_nil, List.map_cons, List.map_nil, List.sum_cons, List.sum_nil, Value.category, ne_eq, Nat.reduceEqDiff, reduceIte, ite_self, false_implies, true_implies, true_and, and_true, and_self, Nat.zero_le, Nat.le_refl, Nat.reduceLeDiff, Nat.reduceAdd, Nat.reduceLT, Nat.add_zero, Nat.zero_add, pu_eq, not_false_eq_true, not_true_eq_false, forall_const, if_true, if_false, implies_true]
    -- all were asked
    have all : ∀ m, m < 10 → bI (g 0 2) m = true := by
      intro m hm
      cases c : bI (g 0 2) m
      · have := un_lt hm c; omega
      · rfl
    refine pLoop 10 (fun j => [some (.ref s), some (.int (nI e)), some (.int (nI j))]) ?_ ?_
    · intro j hj ih
      have e1 : ¬ (10 : Int32) ≤ nI j := nI_ge (b := 10) hj (by decide)
      have e4 : nI j + 1 = nI (j + 1) := nI_1 j
      have hb : (1 : Int32) <<< (nI j &&& 31) = bitI j := rfl
      have ez : g 1 e &&& (g 0 2 ^^^ -1) &&& bitI j = 0 := by
        apply Decidable.byContradiction
        intro q
        have := (bit_ne _ (by omega)).mp q
        rw [bI_and, bI_not _ (by omega), all j hj] at this
        simp at this
      refine b_X9_findMan_2 _ _ _ ?_
      simp only [i_const, i_load, i_aload, i_store, i_astore, i_inc, i_iadd, i_isub, i_imul, i_idiv, i_irem, i_iand, i_ior, i_ixor, i_ishl, i_ishr, i_iushr, i_ineg, i_i2l, i_i2b, i_i2c, i_lcmp, i_dup, i_dup2, i_pop, i_null, i_alen, i_iald, i_bald, i_lald, i_aald, i_iast, i_bast, i_last, i_aast, i_goto, i_icmp_eq, i_icmp_ne, i_icmp_lt, i_icmp_ge, i_icmp_gt, i_icmp_le, i_if_eq, i_if_ne, i_if_lt, i_if_ge, i_if_gt, i_if_le, i_ifnonnull, i_getf, i_putf, i_iret, i_zret, i_aret, i_vret, i_new, i_newa, i_anew, i_oinit, i_callv, i_calls, i_calli, i_max, i_min, i_abs, i_copy, i_throw, i_ldcs, pwt, List.getElem?_cons_zero, List.getElem?_cons_succ, List.set_cons_zero, List.set_cons_succ, List.getD_cons_zero, List.getD_cons_succ, List.length_cons, List.length_nil, List.length_set, List.drop_succ_cons, List.drop_zero, List.take_succ_cons, List.take_zero, List.reverse_cons, List.reverse_nil, List.nil_append, List.cons_append, List.append_nil, List.map_cons, List.map_nil, List.sum_cons, List.sum_nil, Value.category, ne_eq, Nat.reduceEqDiff, reduceIte, ite_self, false_implies, true_implies, true_and, and_true, and_self, Nat.zero_le, Nat.le_refl, Nat.reduceLeDiff, Nat.reduceAdd, Nat.reduceLT, Nat.add_zero, Nat.zero_add, pu_eq, not_false_eq_true, not_true_eq_false, forall_const, if_true, if_false, implies_true, e1, e4, H.f0, H.f1, vp_in_nI (show e < 10 by omega) (by decide), nI_clamp (show e < 2 ^ 31 by omega), hb, ez]
      exact ih
    · refine b_X9_findMan_2 _ _ _ ?_
      simp only [i_const, i_load, i_aload, i_store, i_astore, i_inc, i_iadd, i_isub, i_imul, i_idiv, i_irem, i_iand, i_ior, i_ixor, i_ishl, i_ishr, i_iushr, i_ineg, i_i2l, i_i2b, i_i2c, i_lcmp, i_dup, i_dup2, i_pop, i_null, i_alen, i_iald, i_bald, i_lald, i_aald, i_iast, i_bast, i_last, i_aast, i_goto, i_icmp_eq, i_icmp_ne, i_icmp_lt, i_icmp_ge, i_icmp_gt, i_icmp_le, i_if_eq, i_if_ne, i_if_lt, i_if_ge, i_if_gt, i_if_le, i_ifnonnull, i_getf, i_putf, i_iret, i_zret, i_aret, i_vret, i_new, i_newa, i_anew, i_oinit, i_callv, i_calls, i_calli, i_max, i_min, i_abs, i_copy, i_throw, i_ldcs, pwt, List.getElem?_cons_zero, List.getElem?_cons_succ, List.set_cons_zero, List.set_cons_succ, List.getD_cons_zero, List.getD_cons_succ, List.length_cons, List.length_nil, List.length_set, List.drop_succ_cons, List.drop_zero, List.take_succ_cons, List.take_zero, List.reverse_cons, List.reverse_nil, List.nil_append, List.cons_append, List.append_nil, List.map_cons, List.map_nil, List.sum_cons, List.sum_nil, Value.category, ne_eq, Nat.reduceEqDiff, reduceIte, ite_self, false_implies, true_implies, true_and, and_true, and_self, Nat.zero_le, Nat.le_refl, Nat.reduceLeDiff, Nat.reduceAdd, Nat.reduceLT, Nat.add_zero, Nat.zero_add, pu_eq, not_false_eq_true, not_true_eq_false, forall_const, if_true, if_false, implies_true, show ((10 : Int32) ≤ nI 10) = True from eq_true (nI_le_self 10)]
      exact ⟨Or.inl trivial, hQ0 h g H FS.rf ⟨rfl, fun _ _ _ => rfl⟩ rfl (fun _ _ q => q) (fun m hm _ => all m hm) (fun m hm _ q => by rw [all m hm] at q; cases q)⟩
  | succ u ihu =>
    intro h g Q e H he hc hu hM hi hQ1 hQ0
    refine pCall_of rfl rfl (Nat.le_of_ble_eq_true rfl) (by simp [Value.category]) ?_
    refine b_X9_findMan_0 _ _ _ ?_
    simp only [pEntry, PM.nL, M_X9_findMan, List.map_cons, List.map_nil, List.length_cons, List.length_nil, Nat.reduceAdd, Nat.reduceSub, Nat.sub_self, List.replicate_succ, List.replicate_zero, List.cons_append, List.nil_append]
    simp only [i_const, i_load, i_aload, i_store, i_astore, i_inc, i_iadd, i_isub, i_imul, i_idiv, i_irem, i_iand, i_ior, i_ixor, i_ishl, i_ishr, i_iushr, i_ineg, i_i2l, i_i2b, i_i2c, i_lcmp, i_dup, i_dup2, i_pop, i_null, i_alen, i_iald, i_bald, i_lald, i_aald, i_iast, i_bast, i_last, i_aast, i_goto, i_icmp_eq, i_icmp_ne, i_icmp_lt, i_icmp_ge, i_icmp_gt, i_icmp_le, i_if_eq, i_if_ne, i_if_lt, i_if_ge, i_if_gt, i_if_le, i_ifnonnull, i_getf, i_putf, i_iret, i_zret, i_aret, i_vret, i_new, i_newa, i_anew, i_oinit, i_callv, i_calls, i_calli, i_max, i_min, i_abs, i_copy, i_throw, i_ldcs, pwt, List.getElem?_cons_zero, List.getElem?_cons_succ, List.set_cons_zero, List.set_cons_succ, List.getD_cons_zero, List.getD_cons_succ, List.length_cons, List.length_nil, List.length_set, List.drop_succ_cons, List.drop_zero, List.take_succ_cons, List.take_zero, List.reverse_cons, List.reverse_nil, List.nil_append, List.cons_append, List.append_nil, List.map_cons, List.map_nil, List.sum_cons, List.sum_nil, Value.category, ne_eq, Nat.reduceEqDiff, reduceIte, ite_self, false_implies, true_implies, true_and, and_true, and_self, Nat.zero_le, Nat.le_refl, Nat.reduceLeDiff, Nat.reduceAdd, Nat.reduceLT, Nat.add_zero, Nat.zero_add, pu_eq, not_false_eq_true, not_true_eq_false, forall_const, if_true, if_false, implies_true]
    refine pFor 10 (fun j ls σ => ∃ h1 g1, SA h1 s g1 ∧ FS s h h1 ∧ SR g g1 ∧ g1 2 = g 2 ∧ ge (g 0 2) (g1 0 2) ∧ (∀ m, m < j → bI (g 1 e) m = true → bI (g1 0 2) m = true) ∧ (∀ m, m < 10 → bI (g1 0 2) m = true → bI (g 0 2) m = false → ∃ e', e' < cnt ∧ g 2 m = nI e' ∧ ∀ m', m' < 10 → bI (g 1 e') m' = true → bI (g1 0 2) m' = true) ∧ ls = [some (.ref s), some (.int (nI e)), some (.int (nI j))] ∧ σ = (h1, n, 0, 0)) ?_ ?_ 0 (Nat.zero_le _) _ _ ⟨h, g, H, FS.rf, ⟨rfl, fun _ _ _ => rfl⟩, rfl, fun _ _ q => q, fun m hm => absurd hm (Nat.not_lt_zero m), (fun m hm q1 q2 => absurd (q1.symm.trans q2) (by decide)), rfl, rfl⟩
    · rintro j hj ls σ ⟨h1, g1, H1, F1, S1, G2, A1, N1, K1, rfl, rfl⟩ ih
      have e1 : ¬ (10 : Int32) ≤ nI j := nI_ge (b := 10) hj (by decide)
      have e4 : nI j + 1 = nI (j + 1) := nI_1 j
      have hb : (1 : Int32) <<< (nI j &&& 31) = bitI j := rfl
      have vj : vp_in (nI j) 10 := vp_in_nI hj (by decide)
      have cj : (nI j).toNatClampNeg = j := nI_clamp (by omega)
      refine b_X9_findMan_2 _ _ _ ?_
      simp only [i_const, i_load, i_aload, i_store, i_astore, i_inc, i_iadd, i_isub, i_imul, i_idiv, i_irem, i_iand, i_ior, i_ixor, i_ishl, i_ishr, i_iushr, i_ineg, i_i2l, i_i2b, i_i2c, i_lcmp, i_dup, i_dup2, i_pop, i_null, i_alen, i_iald, i_bald, i_lald, i_aald, i_iast, i_bast, i_last, i_aast, i_goto, i_icmp_eq, i_icmp_ne, i_icmp_lt, i_icmp_ge, i_icmp_gt, i_icmp_le, i_if_eq, i_if_ne, i_if_lt, i_if_ge, i_if_gt, i_if_le, i_ifnonnull, i_getf, i_putf, i_iret, i_zret, i_aret, i_vret, i_new, i_newa, i_anew, i_oinit, i_callv, i_calls, i_calli, i_max, i_min, i_abs, i_copy, i_throw, i_ldcs, pwt, List.getElem?_cons_zero, List.getElem?_cons_succ, List.set_cons_zero, List.set_cons_succ, List.getD_cons_zero, List.getD_cons_succ, List.length_cons, List.length_nil, List.length_set, List.drop_succ_cons, List.drop_zero, List.take_succ_cons, List.take_zero, List.reverse_cons, List.reverse_nil, List.nil_append, List.cons_append, List.append_nil, List.map_cons, List.map_nil, List.sum_cons, List.sum_nil, Value.category, ne_eq, Nat.reduceEqDiff, reduceIte, ite_self, false_implies, true_implies, true_and, and_true, and_self, Nat.zero_le, Nat.le_refl, Nat.reduceLeDiff, Nat.reduceAdd, Nat.reduceLT, Nat.add_zero, Nat.zero_add, pu_eq, not_false_eq_true, not_true_eq_false, forall_const, if_true, if_false, implies_true, e1, e4, H1.f0, H1.f1, vp_in_nI (show e < 10 by omega) (by decide), nI_clamp (show e < 2 ^ 31 by omega), hb, S1.1]
      refine ⟨fun c => ?_, fun c => ?_⟩
      · refine ih _ _ ⟨h1, g1, H1, F1, S1, G2, A1, fun m hm q => ?_, K1, rfl, rfl⟩
        by_cases em : m = j
        · subst em
          cases z : bI (g1 0 2) m
          · exfalso
            refine (bit_ne _ (by omega)).mpr ?_ c
            rw [bI_and, q, bI_not _ (by omega), z]; rfl
          · rfl
        · exact N1 m (by omega) q
      · have cb := (bit_ne _ (show j < 32 by omega)).mp c
        rw [bI_and, bI_not _ (by omega), Bool.and_eq_true, Bool.not_eq_true'] at cb
        obtain ⟨cm, ca⟩ := cb
        have caA : bI (g 0 2) j = false := by
          cases z : bI (g 0 2) j
          · rfl
          · rw [A1 j hj z] at ca; cases ca
        -- asked once more
        have H2 := H1.ru 0 2 (g1 0 2 ||| bitI j)
        have F2 : FS s h1 (pu h1 (s + 0) (SC s (ru g1 0 2 (g1 0 2 ||| bitI j)) 0)) := FS.rf.pu (by decide)
        have A2 : ge (g 0 2) (g1 0 2 ||| bitI j) := fun m hm q => by rw [bI_or, A1 m hm q, Bool.true_or]
        simp only [i_const, i_load, i_aload, i_store, i_astore, i_inc, i_iadd, i_isub, i_imul, i_idiv, i_irem, i_iand, i_ior, i_ixor, i_ishl, i_ishr, i_iushr, i_ineg, i_i2l, i_i2b, i_i2c, i_lcmp, i_dup, i_dup2, i_pop, i_null, i_alen, i_iald, i_bald, i_lald, i_aald, i_iast, i_bast, i_last, i_aast, i_goto, i_icmp_eq, i_icmp_ne, i_icmp_lt, i_icmp_ge, i_icmp_gt, i_icmp_le, i_if_eq, i_if_ne, i_if_lt, i_if_ge, i_if_gt, i_if_le, i_ifnonnull, i_getf, i_putf, i_iret, i_zret, i_aret, i_vret, i_new, i_newa, i_anew, i_oinit, i_callv, i_calls, i_calli, i_max, i_min, i_abs, i_copy, i_throw, i_ldcs, pwt, List.getElem?_cons_zero, List.getElem?_cons_succ, List.set_cons_zero, List.set_cons_succ, List.getD_cons_zero, List.getD_cons_succ, List.length_cons, List.length_nil, List.length_set, List.drop_succ_cons, List.drop_zero, List.take_succ_cons, List.take_zero, List.reverse_cons, List.reverse_nil, List.nil_append, List.cons_append, List.append_nil, List.map_cons, List.map_nil, List.sum_cons, List.sum_nil, Value.category, ne_eq, Nat.reduceEqDiff, reduceIte, ite_self, false_implies, true_implies, true_and, and_true, and_self, Nat.zero_le, Nat.le_refl, Nat.reduceLeDiff, Nat.reduceAdd, Nat.reduceLT, Nat.add_zero, Nat.zero_add, pu_eq, not_false_eq_true, not_true_eq_false, forall_const, if_true, if_false, implies_true, pu_add, pu_add0, pu_0add, H2.f0, H1.f0, H1.f2, vj, cj]
        have G2j : g1 2 j = g 2 j := by rw [G2]
        refine ⟨rfl, rfl, fun c2 => ?_, fun c2 => ?_⟩
        · -- a free man
          rw [G2j] at c2
          have H3 := H2.ru 2 j (nI e)
          have F3 : FS s h1 (pu (pu h1 (s + 0) (SC s (ru g1 0 2 (g1 0 2 ||| bitI j)) 0)) (s + 2) (SC s (ru (ru g1 0 2 (g1 0 2 ||| bitI j)) 2 j (nI e)) 2)) := F2.pu (by decide)
          have g3 : ∀ m, ru (ru g1 0 2 (g1 0 2 ||| bitI j)) 2 j (nI e) 2 m = if m = j then nI e else g 2 m := fun m => by
            rw [ru_at, ru_at, G2]
            by_cases em : m = j
            · rw [if_pos ⟨rfl, em⟩, if_pos em]
            · rw [if_neg (fun z => em z.2), if_neg (fun z => absurd z.1 (by decide)), if_neg em]
          have g31 : ru (ru g1 0 2 (g1 0 2 ||| bitI j)) 2 j (nI e) 1 = g 1 := S1.1
          refine ⟨Or.inr trivial, hQ1 _ _ H3 (F1.tr F3) ⟨g31, fun k k0 k2 => by rw [ru_ne k2, ru_ne k0]; exact S1.2 k k0 k2⟩ ?_ ⟨fun m hm q => ?_, fun m m' hm hm' q q' ee ne => ?_⟩ (fun e' he' => ?_) (fun m hm q => ?_)⟩
          · exact A2
          · rw [g3]
            by_cases em : m = j
            · rw [if_pos em, em]; exact Or.inr ⟨e, he, rfl, by rw [g31]; exact cm⟩
            · rw [if_neg em, g31]; exact hM.1 m hm q
          · rw [g3] at ee ne
            rw [g3] at ee
            have noe : ∀ w, w < 10 → bI (g 0 2) w = false → w ≠ j → nI e ≠ g 2 w := fun w hw qw _ z => hi ⟨w, hw, qw, z.symm⟩
            by_cases em : m = j
            · by_cases em' : m' = j
              · omega
              · rw [if_pos em, if_neg em'] at ee
                exact absurd ee (noe m' hm' q' em')
            · by_cases em' : m' = j
              · rw [if_neg em, if_pos em'] at ee
                exact absurd ee.symm (noe m hm q em)
              · rw [if_neg em, if_neg em'] at ee
                rw [if_neg em] at ne
                exact hM.2 m m' hm hm' q q' ee ne
          · constructor
            · rintro ⟨w, hw, qw, ew⟩
              rw [g3] at ew
              by_cases em : w = j
              · rw [if_pos em] at ew
                exact Or.inl ((nI_eq (by omega) (by omega)).mp ew).symm
              · rw [if_neg em] at ew
                exact Or.inr ⟨w, hw, qw, ew⟩
            · rintro (ew | ⟨w, hw, qw, ew⟩)
              · exact ⟨j, hj, caA, by rw [g3, if_pos rfl, ew]⟩
              · refine ⟨w, hw, qw, ?_⟩
                rw [g3]
                by_cases em : w = j
                · rw [em, c2] at ew
                  exact absurd ew.symm (neg1 (by omega))
                · rw [if_neg em]; exact ew
          · rw [g3]
            by_cases em : m = j
            · rw [em, caA] at q; cases q
            · rw [if_neg em]
        · -- whose enemy is asked for another man
          rw [G2j] at c2
          obtain ⟨e2, he2, ee2, be2⟩ := (hM.1 j hj caA).resolve_left c2
          rw [G2j, ee2]
          have SR2 : SR g (ru g1 0 2 (g1 0 2 ||| bitI j)) := ⟨S1.1, fun k k0 k2 => by rw [ru_ne k0]; exact S1.2 k k0 k2⟩
          have g22 : ru g1 0 2 (g1 0 2 ||| bitI j) 2 = g 2 := G2
          have g21 : ru g1 0 2 (g1 0 2 ||| bitI j) 1 = g 1 := S1.1
          have g20 : ru g1 0 2 (g1 0 2 ||| bitI j) 0 2 = g1 0 2 ||| bitI j := by rw [ru_at, if_pos ⟨rfl, rfl⟩]
          have notA2 : ∀ m, m < 10 → bI (g1 0 2 ||| bitI j) m = false → bI (g 0 2) m = false ∧ m ≠ j := by
            intro m hm q
            refine ⟨?_, fun z => ?_⟩
            · cases w : bI (g 0 2) m
              · rfl
              · rw [A2 m hm w] at q; cases q
            · rw [z, bI_or, bI_bit (by omega), decide_eq_true rfl, Bool.or_true] at q; cases q
          have M2 : MI cnt (ru g1 0 2 (g1 0 2 ||| bitI j) 0 2) (ru g1 0 2 (g1 0 2 ||| bitI j)) := by
            rw [g20]
            refine ⟨fun m hm q => ?_, fun m m' hm hm' q q' ee ne => ?_⟩
            · rw [g22, g21]; exact hM.1 m hm (notA2 m hm q).1
            · rw [g22] at ee ne; exact hM.2 m m' hm hm' (notA2 m hm q).1 (notA2 m' hm' q').1 ee ne
          have I2 : ¬ im (ru g1 0 2 (g1 0 2 ||| bitI j) 0 2) (ru g1 0 2 (g1 0 2 ||| bitI j)) e2 := by
            rw [g20]
            rintro ⟨w, hw, qw, ew⟩
            rw [g22] at ew
            have nw := notA2 w hw qw
            exact nw.2 (hM.2 w j hw hj nw.1 caA (ew.trans ee2.symm) (by rw [ew]; exact neg1 (by omega)))
          refine ihu (h := pu h1 (s + 0) (SC s (ru g1 0 2 (g1 0 2 ||| bitI j)) 0)) H2 he2 hc ?_ M2 I2 (fun h3 g3 H3 F3 S3 G3 M3 J3 K3 => ?_) (fun h3 g3 H3 F3 S3 E3 G3 N3 C3 => ?_)
          · rw [g20]; have := un_lt hj ca; have := un_le A1; omega
          · rw [g20] at G3 M3 J3 K3
            simp only [i_const, i_load, i_aload, i_store, i_astore, i_inc, i_iadd, i_isub, i_imul, i_idiv, i_irem, i_iand, i_ior, i_ixor, i_ishl, i_ishr, i_iushr, i_ineg, i_i2l, i_i2b, i_i2c, i_lcmp, i_dup, i_dup2, i_pop, i_null, i_alen, i_iald, i_bald, i_lald, i_aald, i_iast, i_bast, i_last, i_aast, i_goto, i_icmp_eq, i_icmp_ne, i_icmp_lt, i_icmp_ge, i_icmp_gt, i_icmp_le, i_if_eq, i_if_ne, i_if_lt, i_if_ge, i_if_gt, i_if_le, i_ifnonnull, i_getf, i_putf, i_iret, i_zret, i_aret, i_vret, i_new, i_newa, i_anew, i_oinit, i_callv, i_calls, i_calli, i_max, i_min, i_abs, i_copy, i_throw, i_ldcs, pwt, List.getElem?_cons_zero, List.getElem?_cons_succ, List.set_cons_zero, List.set_cons_succ, List.getD_cons_zero, List.getD_cons_succ, List.length_cons, List.length_nil, List.length_set, List.drop_succ_cons, List.drop_zero, List.take_succ_cons, List.take_zero, List.reverse_cons, List.reverse_nil, List.nil_append, List.cons_append, List.append_nil, List.map_cons, List.map_nil, List.sum_cons, List.sum_nil, Value.category, ne_eq, Nat.reduceEqDiff, reduceIte, ite_self, false_implies, true_implies, true_and, and_true, and_self, Nat.zero_le, Nat.le_refl, Nat.reduceLeDiff, Nat.reduceAdd, Nat.reduceLT, Nat.add_zero, Nat.zero_add, pu_eq, not_false_eq_true, not_true_eq_false, forall_const, if_true, if_false, implies_true, pRetK, H3.f0, H3.f2, vj, cj]
            refine ⟨fun q => absurd q (by decide), fun _ => ?_⟩
            have H4 := H3.ru 2 j (nI e)
            have F4 : FS s h3 (pu h3 (s + 2) (SC s (ru g3 2 j (nI e)) 2)) := FS.rf.pu (by decide)
            have g4 : ∀ m, ru g3 2 j (nI e) 2 m = if m = j then nI e else g3 2 m := fun m => by
              rw [ru_at]
              by_cases em : m = j
              · rw [if_pos ⟨rfl, em⟩, if_pos em]
              · rw [if_neg (fun z => em z.2), if_neg em]
            have g31 : g3 1 = g 1 := S3.1.trans g21
            have g41 : ru g3 2 j (nI e) 1 = g 1 := g31
            have ne2 : e ≠ e2 := fun z => hi ⟨j, hj, caA, by rw [ee2, z]⟩
            have noe : ∀ w, w < 10 → bI (g 0 2) w = false → w ≠ j → nI e ≠ g3 2 w := by
              intro w hw qw wj z
              cases qa : bI (g1 0 2 ||| bitI j) w
              · rcases (J3 e he).mp ⟨w, hw, qa, z.symm⟩ with q | ⟨w2, hw2, qw2, ew2⟩
                · exact ne2 q
                · rw [g22] at ew2
                  exact hi ⟨w2, hw2, (notA2 w2 hw2 qw2).1, ew2⟩
              · rw [K3 w hw qa, g22] at z
                exact hi ⟨w, hw, qw, z.symm⟩
            refine ⟨Or.inr trivial, hQ1 _ _ H4 (((F1.tr F2).tr F3).tr F4) ⟨g41, fun k k0 k2 => by rw [ru_ne k2, S3.2 k k0 k2]; exact SR2.2 k k0 k2⟩ ?_ ⟨fun m hm q => ?_, fun m m' hm hm' q q' ee ne => ?_⟩ (fun e' he' => ?_) (fun m hm q => ?_)⟩
            · exact fun m hm q => G3 m hm (A2 m hm q)
            · rw [g4]
              by_cases em : m = j
              · rw [if_pos em, em]; exact Or.inr ⟨e, he, rfl, by rw [g41]; exact cm⟩
              · rw [if_neg em, g41]
                cases qa : bI (g1 0 2 ||| bitI j) m
                · rw [← g31]; exact M3.1 m hm qa
                · rw [K3 m hm qa, g22]; exact hM.1 m hm q
            · rw [g4] at ee ne
              rw [g4] at ee
              by_cases em : m = j
              · by_cases em' : m' = j
                · omega
                · rw [if_pos em, if_neg em'] at ee
                  exact absurd ee (noe m' hm' q' em')
              · by_cases em' : m' = j
                · rw [if_neg em, if_pos em'] at ee
                  exact absurd ee.symm (noe m hm q em)
                · rw [if_neg em, if_neg em'] at ee
                  rw [if_neg em] at ne
                  cases qa : bI (g1 0 2 ||| bitI j) m
                  · cases qa' : bI (g1 0 2 ||| bitI j) m'
                    · exact M3.2 m m' hm hm' qa qa' ee ne
                    · -- m' keeps its enemy, and m has one of the others
                      exfalso
                      rw [K3 m' hm' qa', g22] at ee
                      obtain ⟨w, hw, ew, -⟩ := (hM.1 m' hm' q').resolve_left (by rw [← ee]; exact ne)
                      rcases (J3 w hw).mp ⟨m, hm, qa, ee.trans ew⟩ with z | ⟨w2, hw2, qw2, ew2⟩
                      · rw [z] at ew
                        exact em' (hM.2 m' j hm' hj q' caA (ew.trans ee2.symm) (by rw [ew]; exact neg1 (by omega)))
                      · rw [g22] at ew2
                        have := hM.2 m' w2 hm' hw2 q' (notA2 w2 hw2 qw2).1 (ew.trans ew2.symm) (by rw [ew]; exact neg1 (by omega))
                        rw [this, qw2] at qa'; cases qa'
                  · cases qa' : bI (g1 0 2 ||| bitI j) m'
                    · exfalso
                      rw [K3 m hm qa, g22] at ee ne
                      obtain ⟨w, hw, ew, -⟩ := (hM.1 m hm q).resolve_left ne
                      rcases (J3 w hw).mp ⟨m', hm', qa', ee.symm.trans ew⟩ with z | ⟨w2, hw2, qw2, ew2⟩
                      · rw [z] at ew
                        exact em (hM.2 m j hm hj q caA (ew.trans ee2.symm) ne)
                      · rw [g22] at ew2
                        have := hM.2 m w2 hm hw2 q (notA2 w2 hw2 qw2).1 (ew.trans ew2.symm) ne
                        rw [this, qw2] at qa; cases qa
                    · rw [K3 m hm qa, K3 m' hm' qa', g22] at ee
                      rw [K3 m hm qa, g22] at ne
                      exact hM.2 m m' hm hm' q q' ee ne
            · constructor
              · rintro ⟨w, hw, qw, ew⟩
                rw [g4] at ew
                by_cases em : w = j
                · rw [if_pos em] at ew
                  exact Or.inl ((nI_eq (by omega) (by omega)).mp ew).symm
                · rw [if_neg em] at ew
                  right
                  cases qa : bI (g1 0 2 ||| bitI j) w
                  · rcases (J3 e' he').mp ⟨w, hw, qa, ew⟩ with z | ⟨w2, hw2, qw2, ew2⟩
                    · exact ⟨j, hj, caA, by rw [ee2, z]⟩
                    · rw [g22] at ew2; exact ⟨w2, hw2, (notA2 w2 hw2 qw2).1, ew2⟩
                  · rw [K3 w hw qa, g22] at ew; exact ⟨w, hw, qw, ew⟩
              · rintro (ew | ⟨w, hw, qw, ew⟩)
                · exact ⟨j, hj, caA, by rw [g4, if_pos rfl, ew]⟩
                · by_cases em : w = j
                  · rw [em, ee2] at ew
                    have ew' := (nI_eq (by omega) (by omega)).mp ew
                    obtain ⟨w2, hw2, qw2, ew2⟩ := (J3 e' he').mpr (Or.inl ew'.symm)
                    exact ⟨w2, hw2, (notA2 w2 hw2 qw2).1, by rw [g4, if_neg (notA2 w2 hw2 qw2).2]; exact ew2⟩
                  · cases qa : bI (g1 0 2 ||| bitI j) w
                    · obtain ⟨w2, hw2, qw2, ew2⟩ := (J3 e' he').mpr (Or.inr ⟨w, hw, qa, by rw [g22]; exact ew⟩)
                      exact ⟨w2, hw2, (notA2 w2 hw2 qw2).1, by rw [g4, if_neg (notA2 w2 hw2 qw2).2]; exact ew2⟩
                    · exact ⟨w, hw, qw, by rw [g4, if_neg em, K3 w hw qa, g22]; exact ew⟩
            · rw [g4]
              by_cases em : m = j
              · rw [em, caA] at q; cases q
              · rw [if_neg em, K3 m hm (A2 m hm q), g22]
          · rw [g20] at G3 C3
            rw [g21] at N3 C3
            rw [g22] at E3 C3
            simp only [i_const, i_load, i_aload, i_store, i_astore, i_inc, i_iadd, i_isub, i_imul, i_idiv, i_irem, i_iand, i_ior, i_ixor, i_ishl, i_ishr, i_iushr, i_ineg, i_i2l, i_i2b, i_i2c, i_lcmp, i_dup, i_dup2, i_pop, i_null, i_alen, i_iald, i_bald, i_lald, i_aald, i_iast, i_bast, i_last, i_aast, i_goto, i_icmp_eq, i_icmp_ne, i_icmp_lt, i_icmp_ge, i_icmp_gt, i_icmp_le, i_if_eq, i_if_ne, i_if_lt, i_if_ge, i_if_gt, i_if_le, i_ifnonnull, i_getf, i_putf, i_iret, i_zret, i_aret, i_vret, i_new, i_newa, i_anew, i_oinit, i_callv, i_calls, i_calli, i_max, i_min, i_abs, i_copy, i_throw, i_ldcs, pwt, List.getElem?_cons_zero, List.getElem?_cons_succ, List.set_cons_zero, List.set_cons_succ, List.getD_cons_zero, List.getD_cons_succ, List.length_cons, List.length_nil, List.length_set, List.drop_succ_cons, List.drop_zero, List.take_succ_cons, List.take_zero, List.reverse_cons, List.reverse_nil, List.nil_append, List.cons_append, List.append_nil, List.map_cons, List.map_nil, List.sum_cons, List.sum_nil, Value.category, ne_eq, Nat.reduceEqDiff, reduceIte, ite_self, false_implies, true_implies, true_and, and_true, and_self, Nat.zero_le, Nat.le_refl, Nat.reduceLeDiff, Nat.reduceAdd, Nat.reduceLT, Nat.add_zero, Nat.zero_add, pu_eq, not_false_eq_true, not_true_eq_false, forall_const, if_true, if_false, implies_true, pRetK, e4]
            refine ih _ _ ⟨h3, g3, H3, (F1.tr F2).tr F3, ⟨S3.1.trans g21, fun k k0 k2 => (S3.2 k k0 k2).trans (SR2.2 k k0 k2)⟩, E3, fun m hm q => G3 m hm (A2 m hm q), fun m hm q => ?_, fun m hm q1 q2 => ?_, rfl, rfl⟩
            · by_cases em : m = j
              · exact G3 m (by omega) (by rw [em, bI_or, bI_bit (by omega), decide_eq_true rfl, Bool.or_true])
              · exact G3 m (by omega) (by rw [bI_or, N1 m (by omega) q, Bool.true_or])
            · cases qa : bI (g1 0 2 ||| bitI j) m
              · exact C3 m hm q1 qa
              · by_cases em : m = j
                · rw [em]; exact ⟨e2, he2, ee2, N3⟩
                · rw [bI_or, bI_bit (by omega), decide_eq_false (fun z => em z.symm), Bool.or_false] at qa
                  obtain ⟨w, hw, ew, cw⟩ := K1 m hm qa q2
                  exact ⟨w, hw, ew, fun m' hm' q' => G3 m' hm' (by rw [bI_or, cw m' hm' q', Bool.true_or])⟩
    · rintro ls σ ⟨h1, g1, H1, F1, S1, G2, A1, N1, K1, rfl, rfl⟩
      refine b_X9_findMan_2 _ _ _ ?_
      simp only [i_const, i_load, i_aload, i_store, i_astore, i_inc, i_iadd, i_isub, i_imul, i_idiv, i_irem, i_iand, i_ior, i_ixor, i_ishl, i_ishr, i_iushr, i_ineg, i_i2l, i_i2b, i_i2c, i_lcmp, i_dup, i_dup2, i_pop, i_null, i_alen, i_iald, i_bald, i_lald, i_aald, i_iast, i_bast, i_last, i_aast, i_goto, i_icmp_eq, i_icmp_ne, i_icmp_lt, i_icmp_ge, i_icmp_gt, i_icmp_le, i_if_eq, i_if_ne, i_if_lt, i_if_ge, i_if_gt, i_if_le, i_ifnonnull, i_getf, i_putf, i_iret, i_zret, i_aret, i_vret, i_new, i_newa, i_anew, i_oinit, i_callv, i_calls, i_calli, i_max, i_min, i_abs, i_copy, i_throw, i_ldcs, pwt, List.getElem?_cons_zero, List.getElem?_cons_succ, List.set_cons_zero, List.set_cons_succ, List.getD_cons_zero, List.getD_cons_succ, List.length_cons, List.length_nil, List.length_set, List.drop_succ_cons, List.drop_zero, List.take_succ_cons, List.take_zero, List.reverse_cons, List.reverse_nil, List.nil_append, List.cons_append, List.append_nil, List.map_cons, List.map_nil, List.sum_cons, List.sum_nil, Value.category, ne_eq, Nat.reduceEqDiff, reduceIte, ite_self, false_implies, true_implies, true_and, and_true, and_self, Nat.zero_le, Nat.le_refl, Nat.reduceLeDiff, Nat.reduceAdd, Nat.reduceLT, Nat.add_zero, Nat.zero_add, pu_eq, not_false_eq_true, not_true_eq_false, forall_const, if_true, if_false, implies_true, show ((10 : Int32) ≤ nI 10) = True from eq_true (nI_le_self 10)]
      exact ⟨Or.inl trivial, hQ0 h1 g1 H1 F1 S1 G2 A1 N1 K1⟩
end KUHN

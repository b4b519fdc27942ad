/-! what a scar's worth is bounded by; days, widows -/
section DAYS
variable {E : PE} {M : PM} {d : Nat} {Q : PQ} {h : PH} {n : Nat} {a b : Nat} {r rb : AR} {lw lb : Option Nat} {C Cb : Option LawL} {pc : Nat}
def LK (C : Option LawL) : Prop := match C with
  | none => True
  | some ls => ls.length ≤ 100 ∧ ∀ l ∈ ls, lnOK l
theorem LX.lk {h : PH} {a : Nat} {lw : Option Nat} {C : Option LawL} (X : LX h a lw C) : LK C := by
  match lw, C, X with
  | none, none, _ => trivial
  | some _, some ls, X => exact ⟨X.2.2.2.2.1, X.2.2.2.2.2⟩
theorem toInt_nI {x : Nat} (h : x < 2 ^ 31) : (nI x).toInt = (x : Int) := nI_toInt h
theorem add_toInt {x y : Int32} (h1 : -2147483648 ≤ x.toInt + y.toInt) (h2 : x.toInt + y.toInt < 2147483648) : (x + y).toInt = x.toInt + y.toInt := by
  rw [Int32.toInt_add]
  exact Int.bmod_eq_of_le (by omega) (by omega)
theorem neg_toInt {x : Int32} (h : -2147483648 < x.toInt) : (-x).toInt = -x.toInt := by
  have := Int32.toInt_le x
  have hm : Int32.maxValue.toInt = 2147483647 := rfl
  rw [Int32.toInt_neg]
  exact Int.bmod_eq_of_le (by omega) (by omega)
theorem jgL_bd {fc : Nat → Int32} : ∀ (ls : LawL) (w : Int32) (B : Nat), B + 999 * ls.length < 2 ^ 30 → (∀ l ∈ ls, lnOK l) → -(B : Int) ≤ w.toInt → w.toInt ≤ B → ∀ v, jgL fc ls w = some v → v.toInt ≤ ((B + 999 * ls.length : Nat) : Int)
  | [], w, B, _, _, _, h2, v, e => by cases e; simpa using h2
  | (k, z, ops) :: t, w, B, hB, hl, h1, h2, v, e => by
    have hz := (hl _ List.mem_cons_self).2.1
    simp only at hz
    have hlt : ∀ l ∈ t, lnOK l := fun l hm => hl l (List.mem_cons_of_mem _ hm)
    simp only [List.length_cons] at hB ⊢
    have zi : (nI z).toInt = z := nI_toInt (by omega)
    unfold jgL at e
    split at e
    · split at e
      · cases e
      · have hw : -((B + 999 : Nat) : Int) ≤ (w + (if k = 0 then nI z else -nI z)).toInt ∧ (w + (if k = 0 then nI z else -nI z)).toInt ≤ ((B + 999 : Nat) : Int) := by
          split
          · rw [add_toInt (by omega) (by omega), zi]; omega
          · rw [add_toInt (by rw [neg_toInt (by omega)]; omega) (by rw [neg_toInt (by omega)]; omega), neg_toInt (by omega), zi]; omega
        have := jgL_bd t _ (B + 999) (by omega) hlt hw.1 hw.2 v e
        have e2 : B + 999 + 999 * t.length = B + 999 * (t.length + 1) := by omega
        rw [e2] at this; exact this
    · have := jgL_bd t w B (by omega) hlt h1 h2 v e
      omega
theorem judS_bd {fc : Nat → Int32} {ls : LawL} (h1 : ls.length ≤ 100) (h2 : ∀ l ∈ ls, lnOK l) : judS fc ls = -1 ∨ ∃ x, x ≤ 99900 ∧ judS fc ls = nI x := by
  unfold judS
  split
  · exact Or.inl rfl
  · rename_i w e
    have hb := jgL_bd ls 0 0 (by omega) h2 (by decide) (by decide) w e
    right
    split
    · rename_i c
      obtain ⟨q1, q2⟩ := nn_nI (Int32.le_of_lt c)
      refine ⟨w.toNatClampNeg, ?_, q1⟩
      have : w.toInt = (w.toNatClampNeg : Int) := by
        conv => lhs; rw [q1]
        exact nI_toInt q2
      omega
    · exact ⟨0, by omega, rfl⟩
/-- judged: void or a number -/
theorem jdS_bd {s : Nat} {man : Int32} (L : LK C) (h1 : NB r 12 s 10) (h2 : NB r 13 s 10) : jdS r C s man = -1 ∨ ∃ x, x ≤ 99900 ∧ jdS r C s man = nI x := by
  match C, L with
  | none, _ =>
    right
    refine ⟨cl r 12 s + cl r 13 s, by have := h1.2; have := h2.2; omega, ?_⟩
    show r 12 s + r 13 s = _
    rw [h1.1, h2.1, nI_add]
  | some ls, L => exact judS_bd L.1 L.2
theorem mx0_nI (x : Nat) : x < 2 ^ 31 → mx0 (nI x) = nI x := by
  intro hx
  unfold mx0
  by_cases e : x = 0
  · subst e; rfl
  · rw [if_pos (show (0 : Int32) < nI x from nI_lt (a := 0) (by omega) hx)]
theorem wthS_bd {s : Nat} (L : LK C) (h1 : NB r 12 s 10) (h2 : NB r 13 s 10) : ∃ x, x ≤ 99900 ∧ wthS r C s = nI x := by
  unfold wthS
  rcases jdS_bd (man := r 15 s) L h1 h2 with e | ⟨x, hx, e⟩
  · rw [e]; exact ⟨0, by omega, rfl⟩
  · rw [e, mx0_nI x (by omega)]; exact ⟨x, hx, rfl⟩
theorem suF_bd {f : Nat → Int32} {B : Nat} : ∀ n, n * B < 2 ^ 30 → (∀ j, j < n → ∃ x, x ≤ B ∧ f j = nI x) → ∃ x, x ≤ n * B ∧ suF f n = nI x
  | 0, _, _ => ⟨0, by omega, rfl⟩
  | n + 1, hB, h => by
    rw [Nat.succ_mul] at hB
    obtain ⟨x, hx, e⟩ := suF_bd n (by omega) (fun j hj => h j (by omega))
    obtain ⟨y, hy, e2⟩ := h n (by omega)
    refine ⟨x + y, by rw [Nat.succ_mul]; omega, ?_⟩
    rw [suF, e, e2, nI_add]
theorem WA.wth (W : WA r) (L : LK C) {s : Nat} (hs : s < cl r 8 0) : ∃ x, x ≤ 99900 ∧ wthS r C s = nI x := wthS_bd L (W.2.2.2.1 s hs).2.2.2.1 (W.2.2.2.1 s hs).2.2.2.2.1
theorem WA.pn (W : WA r) (L : LK C) (man : Int32) : ∃ x, x ≤ 2400000 ∧ pnS r C (cl r 8 0) man = nI x := by
  obtain ⟨x, hx, e⟩ := suF_bd (f := fun j => if r 14 j = man then wthS r C j else 0) (B := 99900) (cl r 8 0) (by have := W.s24; omega) (fun j hj => by
    show ∃ x, x ≤ 99900 ∧ (if r 14 j = man then wthS r C j else 0) = nI x
    split
    · exact W.wth L hj
    · exact ⟨0, by omega, rfl⟩)
  exact ⟨x, by have := W.s24; omega, e⟩
def pnN (r : AR) (C : Option LawL) (j : Nat) : Nat := (pnS r C (cl r 8 0) (r 6 j)).toNatClampNeg
theorem WA.pnE (W : WA r) (L : LK C) (j : Nat) : pnS r C (cl r 8 0) (r 6 j) = nI (pnN r C j) ∧ pnN r C j ≤ 2400000 := by
  obtain ⟨x, hx, e⟩ := W.pn L (r 6 j)
  unfold pnN
  rw [e, nI_clamp (by omega)]
  exact ⟨rfl, hx⟩
theorem jdS_coin {i : Nat} {x : Int32} {C : Option LawL} {s : Nat} {man : Int32} : jdS (ru r 7 i x) C s man = jdS r C s man := by
  unfold jdS
  split
  · rfl
  · refine judS_congr (fun k hk => ?_) _
    match k, hk with
    | 0, _ => rfl
    | 1, _ => rfl
    | 2, _ => rfl
    | 3, _ => rfl
    | 4, _ => rfl
    | 5, _ => rfl
    | 6, _ => rfl
    | 7, _ => rfl
    | 8, _ => rfl
    | 9, _ => rfl
    | k + 10, hk => exact absurd hk (by omega)
theorem pnS_coin {i : Nat} {x : Int32} {C : Option LawL} {m : Nat} {man : Int32} : pnS (ru r 7 i x) C m man = pnS r C m man := by
  unfold pnS
  refine suF_congr (fun j _ => ?_)
  show (if r 14 j = man then wthS (ru r 7 i x) C j else 0) = _
  unfold wthS
  rw [jdS_coin]
  rfl
/-- pensions: the army and what was got behind the first j men -/
def pyN (r : AR) (C : Option LawL) (j : Nat) : Nat := min 9999 (cl r 7 j + pnN r C j)
def ppS (C : Option LawL) (r : AR) : Nat → AR × Nat
  | 0 => (r, 0)
  | j + 1 => if alvB r (nI j) = true then (ru (ppS C r j).1 7 j (nI (pyN r C j)), (ppS C r j).2 + (pyN r C j - cl r 7 j)) else ppS C r j
theorem ppS_at (C : Option LawL) (r : AR) : ∀ j k i, (ppS C r j).1 k i = if k = 7 ∧ i < j ∧ alvB r (nI i) = true then nI (pyN r C i) else r k i
  | 0, k, i => by rw [if_neg (by omega)]; rfl
  | j + 1, k, i => by
    unfold ppS
    split
    · rename_i c
      dsimp only
      rw [ru_at, ppS_at C r j k i]
      by_cases e : k = 7 ∧ i = j
      · rw [if_pos e, if_pos ⟨e.1, by omega, by rw [e.2]; exact c⟩, e.2]
      · rw [if_neg e]
        by_cases e2 : k = 7 ∧ i < j ∧ alvB r (nI i) = true
        · rw [if_pos e2, if_pos ⟨e2.1, by omega, e2.2.2⟩]
        · rw [if_neg e2, if_neg (fun q => e2 ⟨q.1, Nat.lt_of_le_of_ne (Nat.le_of_lt_succ q.2.1) (fun z => e ⟨q.1, z⟩), q.2.2⟩)]
    · rename_i c
      rw [ppS_at C r j k i]
      by_cases e2 : k = 7 ∧ i < j ∧ alvB r (nI i) = true
      · rw [if_pos e2, if_pos ⟨e2.1, by omega, e2.2.2⟩]
      · rw [if_neg e2, if_neg (fun q => e2 ⟨q.1, Nat.lt_of_le_of_ne (Nat.le_of_lt_succ q.2.1) (fun z => c (by rw [← z]; exact q.2.2)), q.2.2⟩)]
theorem ppS_row (C : Option LawL) (r : AR) (j : Nat) {k : Nat} (hk : k ≠ 7) : (ppS C r j).1 k = r k := by
  funext i
  rw [ppS_at, if_neg (fun q => hk q.1)]
theorem ppS_le (C : Option LawL) (r : AR) : ∀ j, (ppS C r j).2 ≤ j * 9999
  | 0 => Nat.le_refl _
  | j + 1 => by
    have := ppS_le C r j
    have h2 : pyN r C j ≤ 9999 := Nat.min_le_left _ _
    unfold ppS
    split
    · show (ppS C r j).2 + (pyN r C j - cl r 7 j) ≤ (j + 1) * 9999
      omega
    · exact Nat.le_trans this (Nat.mul_le_mul_right _ (Nat.le_succ j))
theorem pnS_pp (C : Option LawL) (r : AR) (m : Nat) (man : Int32) : ∀ j, pnS (ppS C r j).1 C m man = pnS r C m man
  | 0 => rfl
  | j + 1 => by
    unfold ppS
    split
    · dsimp only
      rw [pnS_coin, pnS_pp C r m man j]
    · exact pnS_pp C r m man j
theorem WA.rows (W : WA r) {r' : AR} (e : ∀ k, k ≠ 7 → r' k = r k) (h7 : ∀ j, j < cl r 5 0 → NB r' 7 j 10000) : WA r' := by
  obtain ⟨⟨w1, w2, w3, w4, w5, w6, w7⟩, w8, w9, w10, w11, w12, w13⟩ := W
  have c1 := cl_row (j := 0) (e 1 (by decide))
  have c5 := cl_row (j := 0) (e 5 (by decide))
  have c8 := cl_row (j := 0) (e 8 (by decide))
  have c17 := cl_row (j := 0) (e 17 (by decide))
  have c171 := cl_row (j := 1) (e 17 (by decide))
  refine ⟨⟨w1.row (e 1 (by decide)), w2.row (e 5 (by decide)), w3.row (e 8 (by decide)), w4.row (e 17 (by decide)), w5.row (e 17 (by decide)), w6.row (e 0 (by decide)), w7.row (e 0 (by decide))⟩, ?_, ?_, ?_, ?_, ?_, ?_⟩
  · intro j hj
    rw [c1] at hj
    obtain ⟨z1, z2, z3⟩ := w8 j hj
    exact ⟨z1.row (e 2 (by decide)), z2.row (e 3 (by decide)), z3.row (e 4 (by decide))⟩
  · intro j hj
    rw [c5] at hj ⊢
    exact ⟨(w9 j hj).1.row (e 6 (by decide)), h7 j hj⟩
  · intro j hj
    rw [c8] at hj
    rw [c1, c5]
    obtain ⟨z1, z2, z3, z4, z5, z6, z7, z8⟩ := w10 j hj
    exact ⟨z1.row (e 9 (by decide)), z2.row (e 10 (by decide)), z3.row (e 11 (by decide)), z4.row (e 12 (by decide)), z5.row (e 13 (by decide)), z6.row (e 14 (by decide)), z7.row (e 15 (by decide)), z8.row (e 16 (by decide))⟩
  · rw [c5, e 6 (by decide)]; exact w11
  · rw [c17, c171]; exact w12
  · rw [c5, e 5 (by decide)]; exact w13
theorem WA.pp (W : WA r) (C : Option LawL) (j : Nat) : WA (ppS C r j).1 := by
  refine W.rows (fun k hk => ppS_row C r j hk) (fun i hi => ?_)
  by_cases c : i < j ∧ alvB r (nI i) = true
  · exact NB.of (x := pyN r C i) (by rw [ppS_at, if_pos ⟨rfl, c⟩]) (by unfold pyN; omega) (by decide)
  · exact NB.of (x := cl r 7 i) (by rw [ppS_at, if_neg (fun q => c q.2)]; exact (W.coin hi).1) (W.coin hi).2 (by decide)
theorem c_X0_payPensions (X : AX h a r lw C) (W : WA r) (hQ : ∀ h', AX h' a (ppS C r (cl r 5 0)).1 lw C → FX a lw h h' → Q (.inl (some (.int (nI (ppS C r (cl r 5 0)).2)))) h' n) : pCall E M_X0_payPensions (d + 5) [.ref a] h n Q := by
  refine pCall_of rfl rfl (Nat.le_of_ble_eq_true rfl) (by simp [Value.category]) ?_
  refine b_X0_payPensions_0 _ _ _ ?_
  simp only [pEntry, PM.nL, M_X0_payPensions, List.map_cons, List.map_nil, List.length_cons, List.length_nil, Nat.reduceAdd, Nat.reduceSub, Nat.sub_self, List.replicate_succ, List.replicate_zero, List.cons_append, List.nil_append]
  simp only [i_const, i_load, i_aload, i_store, i_astore, i_inc, i_iadd, i_isub, i_imul, i_idiv, i_irem, i_iand, i_ior, i_ixor, i_ishl, i_ishr, i_iushr, i_ineg, i_i2l, i_i2b, i_i2c, i_lcmp, i_dup, i_dup2, i_pop, i_null, i_alen, i_iald, i_bald, i_lald, i_aald, i_iast, i_bast, i_last, i_aast, i_goto, i_icmp_eq, i_icmp_ne, i_icmp_lt, i_icmp_ge, i_icmp_gt, i_icmp_le, i_if_eq, i_if_ne, i_if_lt, i_if_ge, i_if_gt, i_if_le, i_ifnonnull, i_getf, i_putf, i_iret, i_zret, i_aret, i_vret, i_new, i_newa, i_anew, i_oinit, i_callv, i_calls, i_calli, i_max, i_min, i_abs, i_copy, i_throw, i_ldcs, pwt, List.getElem?_cons_zero, List.getElem?_cons_succ, List.set_cons_zero, List.set_cons_succ, List.getD_cons_zero, List.getD_cons_succ, List.length_cons, List.length_nil, List.length_set, List.drop_succ_cons, List.drop_zero, List.take_succ_cons, List.take_zero, List.reverse_cons, List.reverse_nil, List.nil_append, List.cons_append, List.append_nil, List.map_cons, List.map_nil, List.sum_cons, List.sum_nil, Value.category, ne_eq, Nat.reduceEqDiff, reduceIte, ite_self, false_implies, true_implies, true_and, and_true, and_self, Nat.zero_le, Nat.le_refl, Nat.reduceLeDiff, Nat.reduceAdd, Nat.reduceLT, Nat.add_zero, Nat.zero_add, pu_eq, not_false_eq_true, not_true_eq_false, forall_const, if_true, if_false, implies_true]
  have L := X.2.lk
  refine pFor (cl r 5 0) (fun j ls σ => ∃ h1, AX h1 a (ppS C r j).1 lw C ∧ FX a lw h h1 ∧ ls = [some (.ref a), some (.int (nI (ppS C r j).2)), some (.int (nI j))] ∧ σ = (h1, n, 0, 0)) ?_ ?_ 0 (Nat.zero_le _) _ _ ⟨h, X, FX.rf, rfl, rfl⟩
  · rintro j hj ls σ ⟨h1, X1, F1, rfl, rfl⟩ ih
    obtain ⟨e1, e2, e3, e4⟩ := jFacts hj W.m10 (by decide)
    have W1 := W.pp C j
    have r5 : (ppS C r j).1 5 = r 5 := ppS_row C r j (by decide)
    have r6 : (ppS C r j).1 6 = r 6 := ppS_row C r j (by decide)
    have r8 : (ppS C r j).1 8 = r 8 := ppS_row C r j (by decide)
    have hm1 : (ppS C r j).1 5 0 = nI (cl r 5 0) := by rw [r5]; exact W.hm
    have c8 : cl (ppS C r j).1 8 0 = cl r 8 0 := cl_row r8
    have al : ∀ x, alvI (rs (ppS C r j).1 19 x) (nI j) ↔ alvI r (nI j) := fun x => by
      show alvI (ppS C r j).1 (nI j) ↔ _
      unfold alvI; rw [r5]
    refine b_X0_payPensions_4 _ _ _ ?_
    simp only [i_const, i_load, i_aload, i_store, i_astore, i_inc, i_iadd, i_isub, i_imul, i_idiv, i_irem, i_iand, i_ior, i_ixor, i_ishl, i_ishr, i_iushr, i_ineg, i_i2l, i_i2b, i_i2c, i_lcmp, i_dup, i_dup2, i_pop, i_null, i_alen, i_iald, i_bald, i_lald, i_aald, i_iast, i_bast, i_last, i_aast, i_goto, i_icmp_eq, i_icmp_ne, i_icmp_lt, i_icmp_ge, i_icmp_gt, i_icmp_le, i_if_eq, i_if_ne, i_if_lt, i_if_ge, i_if_gt, i_if_le, i_ifnonnull, i_getf, i_putf, i_iret, i_zret, i_aret, i_vret, i_new, i_newa, i_anew, i_oinit, i_callv, i_calls, i_calli, i_max, i_min, i_abs, i_copy, i_throw, i_ldcs, pwt, List.getElem?_cons_zero, List.getElem?_cons_succ, List.set_cons_zero, List.set_cons_succ, List.getD_cons_zero, List.getD_cons_succ, List.length_cons, List.length_nil, List.length_set, List.drop_succ_cons, List.drop_zero, List.take_succ_cons, List.take_zero, List.reverse_cons, List.reverse_nil, List.nil_append, List.cons_append, List.append_nil, List.map_cons, List.map_nil, List.sum_cons, List.sum_nil, Value.category, ne_eq, Nat.reduceEqDiff, reduceIte, ite_self, false_implies, true_implies, true_and, and_true, and_self, Nat.zero_le, Nat.le_refl, Nat.reduceLeDiff, Nat.reduceAdd, Nat.reduceLT, Nat.add_zero, Nat.zero_add, pu_eq, not_false_eq_true, not_true_eq_false, forall_const, if_true, if_false, implies_true, X1.f0, X1.f5, hm1, e1]
    obtain ⟨f, H⟩ := X1.aa
    refine c_X7_isAlive H (fun c => ?_) (fun c => ?_)
    · have c' := (al f).mp c
      simp only [i_const, i_load, i_aload, i_store, i_astore, i_inc, i_iadd, i_isub, i_imul, i_idiv, i_irem, i_iand, i_ior, i_ixor, i_ishl, i_ishr, i_iushr, i_ineg, i_i2l, i_i2b, i_i2c, i_lcmp, i_dup, i_dup2, i_pop, i_null, i_alen, i_iald, i_bald, i_lald, i_aald, i_iast, i_bast, i_last, i_aast, i_goto, i_icmp_eq, i_icmp_ne, i_icmp_lt, i_icmp_ge, i_icmp_gt, i_icmp_le, i_if_eq, i_if_ne, i_if_lt, i_if_ge, i_if_gt, i_if_le, i_ifnonnull, i_getf, i_putf, i_iret, i_zret, i_aret, i_vret, i_new, i_newa, i_anew, i_oinit, i_callv, i_calls, i_calli, i_max, i_min, i_abs, i_copy, i_throw, i_ldcs, pwt, List.getElem?_cons_zero, List.getElem?_cons_succ, List.set_cons_zero, List.set_cons_succ, List.getD_cons_zero, List.getD_cons_succ, List.length_cons, List.length_nil, List.length_set, List.drop_succ_cons, List.drop_zero, List.take_succ_cons, List.take_zero, List.reverse_cons, List.reverse_nil, List.nil_append, List.cons_append, List.append_nil, List.map_cons, List.map_nil, List.sum_cons, List.sum_nil, Value.category, ne_eq, Nat.reduceEqDiff, reduceIte, ite_self, false_implies, true_implies, true_and, and_true, and_self, Nat.zero_le, Nat.le_refl, Nat.reduceLeDiff, Nat.reduceAdd, Nat.reduceLT, Nat.add_zero, Nat.zero_add, pu_eq, not_false_eq_true, not_true_eq_false, forall_const, if_true, if_false, implies_true, pRetK, X1.f0, X1.f5, X1.f6, e2, e3, e4]
      refine ⟨fun q => absurd q (by decide), fun _ => ?_⟩
      refine c_X0_pensionOf X1 W1.hs W1.s24 W1.wr (fun h2 X2 F2 => ?_)
      obtain ⟨p1, p2⟩ := W.pnE L j
      have hp : suF (fun i => if (ppS C r j).1 14 i = (ppS C r j).1 6 j then wthS (ppS C r j).1 C i else 0) (cl (ppS C r j).1 8 0) = nI (pnN r C j) := by
        rw [c8, r6]
        exact (pnS_pp C r _ _ j).trans p1
      rw [hp]
      simp only [i_const, i_load, i_aload, i_store, i_astore, i_inc, i_iadd, i_isub, i_imul, i_idiv, i_irem, i_iand, i_ior, i_ixor, i_ishl, i_ishr, i_iushr, i_ineg, i_i2l, i_i2b, i_i2c, i_lcmp, i_dup, i_dup2, i_pop, i_null, i_alen, i_iald, i_bald, i_lald, i_aald, i_iast, i_bast, i_last, i_aast, i_goto, i_icmp_eq, i_icmp_ne, i_icmp_lt, i_icmp_ge, i_icmp_gt, i_icmp_le, i_if_eq, i_if_ne, i_if_lt, i_if_ge, i_if_gt, i_if_le, i_ifnonnull, i_getf, i_putf, i_iret, i_zret, i_aret, i_vret, i_new, i_newa, i_anew, i_oinit, i_callv, i_calls, i_calli, i_max, i_min, i_abs, i_copy, i_throw, i_ldcs, pwt, List.getElem?_cons_zero, List.getElem?_cons_succ, List.set_cons_zero, List.set_cons_succ, List.getD_cons_zero, List.getD_cons_succ, List.length_cons, List.length_nil, List.length_set, List.drop_succ_cons, List.drop_zero, List.take_succ_cons, List.take_zero, List.reverse_cons, List.reverse_nil, List.nil_append, List.cons_append, List.append_nil, List.map_cons, List.map_nil, List.sum_cons, List.sum_nil, Value.category, ne_eq, Nat.reduceEqDiff, reduceIte, ite_self, false_implies, true_implies, true_and, and_true, and_self, Nat.zero_le, Nat.le_refl, Nat.reduceLeDiff, Nat.reduceAdd, Nat.reduceLT, Nat.add_zero, Nat.zero_add, pu_eq, not_false_eq_true, not_true_eq_false, forall_const, if_true, if_false, implies_true, pRetK, X2.f0, X2.f5]
      obtain ⟨f2, H2⟩ := X2.aa
      have hcj : (ppS C r j).1 7 j = nI (cl r 7 j) := by rw [ppS_at, if_neg (by omega)]; exact (W.coin hj).1
      refine c_X7_earn (c := cl r 7 j) (s := pnN r C j) H2 (Nat.lt_of_lt_of_le hj W.m10) hcj (by have := (W.coin hj).2; omega) (by omega) (fun h3 H3 F3 => ?_)
      simp only [i_const, i_load, i_aload, i_store, i_astore, i_inc, i_iadd, i_isub, i_imul, i_idiv, i_irem, i_iand, i_ior, i_ixor, i_ishl, i_ishr, i_iushr, i_ineg, i_i2l, i_i2b, i_i2c, i_lcmp, i_dup, i_dup2, i_pop, i_null, i_alen, i_iald, i_bald, i_lald, i_aald, i_iast, i_bast, i_last, i_aast, i_goto, i_icmp_eq, i_icmp_ne, i_icmp_lt, i_icmp_ge, i_icmp_gt, i_icmp_le, i_if_eq, i_if_ne, i_if_lt, i_if_ge, i_if_gt, i_if_le, i_ifnonnull, i_getf, i_putf, i_iret, i_zret, i_aret, i_vret, i_new, i_newa, i_anew, i_oinit, i_callv, i_calls, i_calli, i_max, i_min, i_abs, i_copy, i_throw, i_ldcs, pwt, List.getElem?_cons_zero, List.getElem?_cons_succ, List.set_cons_zero, List.set_cons_succ, List.getD_cons_zero, List.getD_cons_succ, List.length_cons, List.length_nil, List.length_set, List.drop_succ_cons, List.drop_zero, List.take_succ_cons, List.take_zero, List.reverse_cons, List.reverse_nil, List.nil_append, List.cons_append, List.append_nil, List.map_cons, List.map_nil, List.sum_cons, List.sum_nil, Value.category, ne_eq, Nat.reduceEqDiff, reduceIte, ite_self, false_implies, true_implies, true_and, and_true, and_self, Nat.zero_le, Nat.le_refl, Nat.reduceLeDiff, Nat.reduceAdd, Nat.reduceLT, Nat.add_zero, Nat.zero_add, pu_eq, not_false_eq_true, not_true_eq_false, forall_const, if_true, if_false, implies_true, pRetK, e4, nI_add]
      have st : ppS C r (j + 1) = (ru (ppS C r j).1 7 j (nI (pyN r C j)), (ppS C r j).2 + (pyN r C j - cl r 7 j)) := by rw [ppS, if_pos (alvB_t c')]
      rw [st] at ih
      exact ih _ _ ⟨h3, AX.mk (X2.2.fr F3) H3 ((E9.rs _ _).ru (by decide)), (F1.tr F2.fx).tr F3.fx, rfl, rfl⟩
    · have c' : ¬ alvI r (nI j) := fun q => c ((al f).mpr q)
      simp only [i_const, i_load, i_aload, i_store, i_astore, i_inc, i_iadd, i_isub, i_imul, i_idiv, i_irem, i_iand, i_ior, i_ixor, i_ishl, i_ishr, i_iushr, i_ineg, i_i2l, i_i2b, i_i2c, i_lcmp, i_dup, i_dup2, i_pop, i_null, i_alen, i_iald, i_bald, i_lald, i_aald, i_iast, i_bast, i_last, i_aast, i_goto, i_icmp_eq, i_icmp_ne, i_icmp_lt, i_icmp_ge, i_icmp_gt, i_icmp_le, i_if_eq, i_if_ne, i_if_lt, i_if_ge, i_if_gt, i_if_le, i_ifnonnull, i_getf, i_putf, i_iret, i_zret, i_aret, i_vret, i_new, i_newa, i_anew, i_oinit, i_callv, i_calls, i_calli, i_max, i_min, i_abs, i_copy, i_throw, i_ldcs, pwt, List.getElem?_cons_zero, List.getElem?_cons_succ, List.set_cons_zero, List.set_cons_succ, List.getD_cons_zero, List.getD_cons_succ, List.length_cons, List.length_nil, List.length_set, List.drop_succ_cons, List.drop_zero, List.take_succ_cons, List.take_zero, List.reverse_cons, List.reverse_nil, List.nil_append, List.cons_append, List.append_nil, List.map_cons, List.map_nil, List.sum_cons, List.sum_nil, Value.category, ne_eq, Nat.reduceEqDiff, reduceIte, ite_self, false_implies, true_implies, true_and, and_true, and_self, Nat.zero_le, Nat.le_refl, Nat.reduceLeDiff, Nat.reduceAdd, Nat.reduceLT, Nat.add_zero, Nat.zero_add, pu_eq, not_false_eq_true, not_true_eq_false, forall_const, if_true, if_false, implies_true, pRetK, e4]
      have st : ppS C r (j + 1) = ppS C r j := by rw [ppS, if_neg (by rw [alvB_f c']; decide)]
      rw [st] at ih
      exact ih _ _ ⟨h1, X1, F1, rfl, rfl⟩
  · rintro ls σ ⟨h1, X1, F1, rfl, rfl⟩
    have r5 : (ppS C r (cl r 5 0)).1 5 = r 5 := ppS_row C r _ (by decide)
    have hm1 : (ppS C r (cl r 5 0)).1 5 0 = nI (cl r 5 0) := by rw [r5]; exact W.hm
    refine b_X0_payPensions_4 _ _ _ ?_
    simp only [i_const, i_load, i_aload, i_store, i_astore, i_inc, i_iadd, i_isub, i_imul, i_idiv, i_irem, i_iand, i_ior, i_ixor, i_ishl, i_ishr, i_iushr, i_ineg, i_i2l, i_i2b, i_i2c, i_lcmp, i_dup, i_dup2, i_pop, i_null, i_alen, i_iald, i_bald, i_lald, i_aald, i_iast, i_bast, i_last, i_aast, i_goto, i_icmp_eq, i_icmp_ne, i_icmp_lt, i_icmp_ge, i_icmp_gt, i_icmp_le, i_if_eq, i_if_ne, i_if_lt, i_if_ge, i_if_gt, i_if_le, i_ifnonnull, i_getf, i_putf, i_iret, i_zret, i_aret, i_vret, i_new, i_newa, i_anew, i_oinit, i_callv, i_calls, i_calli, i_max, i_min, i_abs, i_copy, i_throw, i_ldcs, pwt, List.getElem?_cons_zero, List.getElem?_cons_succ, List.set_cons_zero, List.set_cons_succ, List.getD_cons_zero, List.getD_cons_succ, List.length_cons, List.length_nil, List.length_set, List.drop_succ_cons, List.drop_zero, List.take_succ_cons, List.take_zero, List.reverse_cons, List.reverse_nil, List.nil_append, List.cons_append, List.append_nil, List.map_cons, List.map_nil, List.sum_cons, List.sum_nil, Value.category, ne_eq, Nat.reduceEqDiff, reduceIte, ite_self, false_implies, true_implies, true_and, and_true, and_self, Nat.zero_le, Nat.le_refl, Nat.reduceLeDiff, Nat.reduceAdd, Nat.reduceLT, Nat.add_zero, Nat.zero_add, pu_eq, not_false_eq_true, not_true_eq_false, forall_const, if_true, if_false, implies_true, X1.f0, X1.f5, hm1, nI_le_self]
    exact hQ h1 X1 F1
/-- k days: the army and what was got -/
def pdS (C : Option LawL) (r : AR) : Nat → AR × Nat
  | 0 => (r, 0)
  | k + 1 => if (cl r 0 5 + (k + 1)) % 30 = 0 then ((ppS C (ru (pdS C r k).1 0 5 (nI (cl r 0 5 + (k + 1)))) (cl r 5 0)).1, (pdS C r k).2 + (ppS C (ru (pdS C r k).1 0 5 (nI (cl r 0 5 + (k + 1)))) (cl r 5 0)).2) else (ru (pdS C r k).1 0 5 (nI (cl r 0 5 + (k + 1))), (pdS C r k).2)
theorem WA.day (W : WA r) {t : Nat} (ht : t < 10000) : WA (ru r 0 5 (nI t)) := by
  obtain ⟨⟨w1, w2, w3, w4, w5, w6, w7⟩, w8⟩ := W
  refine ⟨⟨w1, w2, w3, w4, w5, ?_, ?_⟩, w8⟩
  · exact w6.put (fun _ _ => ⟨t, ht, rfl⟩) (by decide)
  · exact w7.put (fun _ e => absurd e (by decide)) (by decide)
theorem pdS_5 (C : Option LawL) (r : AR) : ∀ k, (pdS C r k).1 5 = r 5
  | 0 => rfl
  | k + 1 => by
    have := pdS_5 C r k
    unfold pdS
    split
    · dsimp only; rw [ppS_row _ _ _ (by decide)]; exact this
    · exact this
theorem pdS_today (C : Option LawL) (r : AR) (ht : r 0 5 = nI (cl r 0 5)) : ∀ k, (pdS C r k).1 0 5 = nI (cl r 0 5 + k)
  | 0 => ht
  | k + 1 => by
    unfold pdS
    split
    · dsimp only; rw [ppS_row _ _ _ (by decide)]; rfl
    · rfl
theorem WA.pd (W : WA r) (C : Option LawL) : ∀ k, cl r 0 5 + k < 10000 → WA (pdS C r k).1
  | 0, _ => W
  | k + 1, hk => by
    have := W.pd C k (by omega)
    unfold pdS
    split
    · exact (this.day hk).pp C _
    · exact this.day hk
theorem c_X0_passDays {k : Nat} (X : AX h a r lw C) (W : WA r) (hk : k ≤ 400) (hQ : ∀ h', AX h' a (pdS C r (min 9999 (cl r 0 5 + k) - cl r 0 5)).1 lw C → FX a lw h h' → Q (.inl (some (.int (nI (pdS C r (min 9999 (cl r 0 5 + k) - cl r 0 5)).2)))) h' n) : pCall E M_X0_passDays (d + 6) [.ref a, .int (nI k)] h n Q := by
  refine pCall_of rfl rfl (Nat.le_of_ble_eq_true rfl) (by simp [Value.category]) ?_
  refine b_X0_passDays_0 _ _ _ ?_
  simp only [pEntry, PM.nL, M_X0_passDays, List.map_cons, List.map_nil, List.length_cons, List.length_nil, Nat.reduceAdd, Nat.reduceSub, Nat.sub_self, List.replicate_succ, List.replicate_zero, List.cons_append, List.nil_append]
  have ht : NB r 0 5 10000 := W.1.2.2.2.2.2.1
  have ht2 := ht.2
  have g1 : r 0 5 + nI k = nI (cl r 0 5 + k) := by rw [ht.1, cl_of ht.1 (by omega), nI_add]
  have g2 : (if nI (cl r 0 5 + k) < 9999 then nI (cl r 0 5 + k) else 9999) = nI (min 9999 (cl r 0 5 + k)) := by
    rw [show (9999 : Int32) = nI 9999 from rfl, nI_mn (by decide) (by omega)]; congr 1; split <;> omega
  have g3 : r 0 5 + 1 = nI (cl r 0 5 + 0 + 1) := by rw [ht.1, cl_of ht.1 (by omega)]; exact nI_1 _
  generalize hK : min 9999 (cl r 0 5 + k) - cl r 0 5 = K at hQ
  have hK2 : min 9999 (cl r 0 5 + k) = cl r 0 5 + K := by omega
  rw [hK2] at g2
  simp only [i_const, i_load, i_aload, i_store, i_astore, i_inc, i_iadd, i_isub, i_imul, i_idiv, i_irem, i_iand, i_ior, i_ixor, i_ishl, i_ishr, i_iushr, i_ineg, i_i2l, i_i2b, i_i2c, i_lcmp, i_dup, i_dup2, i_pop, i_null, i_alen, i_iald, i_bald, i_lald, i_aald, i_iast, i_bast, i_last, i_aast, i_goto, i_icmp_eq, i_icmp_ne, i_icmp_lt, i_icmp_ge, i_icmp_gt, i_icmp_le, i_if_eq, i_if_ne, i_if_lt, i_if_ge, i_if_gt, i_if_le, i_ifnonnull, i_getf, i_putf, i_iret, i_zret, i_aret, i_vret, i_new, i_newa, i_anew, i_oinit, i_callv, i_calls, i_calli, i_max, i_min, i_abs, i_copy, i_throw, i_ldcs, pwt, List.getElem?_cons_zero, List.getElem?_cons_succ, List.set_cons_zero, List.set_cons_succ, List.getD_cons_zero, List.getD_cons_succ, List.length_cons, List.length_nil, List.length_set, List.drop_succ_cons, List.drop_zero, List.take_succ_cons, List.take_zero, List.reverse_cons, List.reverse_nil, List.nil_append, List.cons_append, List.append_nil, List.map_cons, List.map_nil, List.sum_cons, List.sum_nil, Value.category, ne_eq, Nat.reduceEqDiff, reduceIte, ite_self, false_implies, true_implies, true_and, and_true, and_self, Nat.zero_le, Nat.le_refl, Nat.reduceLeDiff, Nat.reduceAdd, Nat.reduceLT, Nat.add_zero, Nat.zero_add, pu_eq, not_false_eq_true, not_true_eq_false, forall_const, if_true, if_false, implies_true, X.f0, g1, g2, g3]
  refine pFor K (fun j ls σ => ∃ h1, AX h1 a (pdS C r j).1 lw C ∧ FX a lw h h1 ∧ ls = [some (.ref a), some (.int (nI k)), some (.int (nI (pdS C r j).2)), some (.int (nI (cl r 0 5 + K))), some (.int (nI (cl r 0 5 + j + 1)))] ∧ σ = (h1, n, 0, 0)) ?_ ?_ 0 (Nat.zero_le _) _ _ ⟨h, X, FX.rf, rfl, rfl⟩
  · rintro j hj ls σ ⟨h1, X1, F1, rfl, rfl⟩ ih
    have W1 := W.pd C j (by omega)
    have e1 : ¬ nI (cl r 0 5 + K) < nI (cl r 0 5 + j + 1) := nI_nlt (by omega) (by omega)
    have e2 : nI (cl r 0 5 + j + 1) + 1 = nI (cl r 0 5 + (j + 1) + 1) := nI_1 _
    have e3 : nI (cl r 0 5 + j + 1) - nI (cl r 0 5 + j + 1) / 30 * 30 = nI ((cl r 0 5 + j + 1) % 30) := nI_rem (m := 30) (by decide) (by decide) (by omega)
    obtain ⟨f, H⟩ := X1.aa
    have F2 : FR a h1 (pu h1 (a + 0) (AC a (ru (rs (pdS C r j).1 19 f) 0 5 (nI (cl r 0 5 + j + 1))) lw 0)) := FR.rf.pu (by decide)
    have X2 : AX (pu h1 (a + 0) (AC a (ru (rs (pdS C r j).1 19 f) 0 5 (nI (cl r 0 5 + j + 1))) lw 0)) a (ru (pdS C r j).1 0 5 (nI (cl r 0 5 + j + 1))) lw C := AX.mk (X1.2.fr F2) (H.ru 0 5 _) ((E9.rs _ f).ru (by decide))
    have W2 : WA (ru (pdS C r j).1 0 5 (nI (cl r 0 5 + j + 1))) := W1.day (by omega)
    have c5 : cl (ru (pdS C r j).1 0 5 (nI (cl r 0 5 + j + 1))) 5 0 = cl r 5 0 := cl_row (pdS_5 C r j)
    refine b_X0_passDays_23 _ _ _ ?_
    simp only [i_const, i_load, i_aload, i_store, i_astore, i_inc, i_iadd, i_isub, i_imul, i_idiv, i_irem, i_iand, i_ior, i_ixor, i_ishl, i_ishr, i_iushr, i_ineg, i_i2l, i_i2b, i_i2c, i_lcmp, i_dup, i_dup2, i_pop, i_null, i_alen, i_iald, i_bald, i_lald, i_aald, i_iast, i_bast, i_last, i_aast, i_goto, i_icmp_eq, i_icmp_ne, i_icmp_lt, i_icmp_ge, i_icmp_gt, i_icmp_le, i_if_eq, i_if_ne, i_if_lt, i_if_ge, i_if_gt, i_if_le, i_ifnonnull, i_getf, i_putf, i_iret, i_zret, i_aret, i_vret, i_new, i_newa, i_anew, i_oinit, i_callv, i_calls, i_calli, i_max, i_min, i_abs, i_copy, i_throw, i_ldcs, pwt, List.getElem?_cons_zero, List.getElem?_cons_succ, List.set_cons_zero, List.set_cons_succ, List.getD_cons_zero, List.getD_cons_succ, List.length_cons, List.length_nil, List.length_set, List.drop_succ_cons, List.drop_zero, List.take_succ_cons, List.take_zero, List.reverse_cons, List.reverse_nil, List.nil_append, List.cons_append, List.append_nil, List.map_cons, List.map_nil, List.sum_cons, List.sum_nil, Value.category, ne_eq, Nat.reduceEqDiff, reduceIte, ite_self, false_implies, true_implies, true_and, and_true, and_self, Nat.zero_le, Nat.le_refl, Nat.reduceLeDiff, Nat.reduceAdd, Nat.reduceLT, Nat.add_zero, Nat.zero_add, pu_eq, not_false_eq_true, not_true_eq_false, forall_const, if_true, if_false, implies_true, H.f0, e1, e3, e2]
    refine ⟨rfl, rfl, by decide, fun c => ?_, fun c => ?_⟩
    · have hc : ¬ (cl r 0 5 + (j + 1)) % 30 = 0 := fun q => c (by rw [show cl r 0 5 + j + 1 = cl r 0 5 + (j + 1) by omega, q]; rfl)
      have st : pdS C r (j + 1) = (ru (pdS C r j).1 0 5 (nI (cl r 0 5 + (j + 1))), (pdS C r j).2) := by rw [pdS, if_neg hc]
      rw [st] at ih
      exact ih _ _ ⟨_, X2, F1.tr F2.fx, rfl, rfl⟩
    · have hc : (cl r 0 5 + (j + 1)) % 30 = 0 := (nI_eq (by omega) (by decide)).mp (show nI ((cl r 0 5 + (j + 1)) % 30) = nI 0 from c)
      have st : pdS C r (j + 1) = ((ppS C (ru (pdS C r j).1 0 5 (nI (cl r 0 5 + (j + 1)))) (cl r 5 0)).1, (pdS C r j).2 + (ppS C (ru (pdS C r j).1 0 5 (nI (cl r 0 5 + (j + 1)))) (cl r 5 0)).2) := by rw [pdS, if_pos hc]
      rw [st] at ih
      refine c_X0_payPensions (h := pu h1 (a + 0) (AC a (ru (rs (pdS C r j).1 19 f) 0 5 (nI (cl r 0 5 + j + 1))) lw 0)) X2 W2 (fun h3 X3 F3 => ?_)
      simp only [i_const, i_load, i_aload, i_store, i_astore, i_inc, i_iadd, i_isub, i_imul, i_idiv, i_irem, i_iand, i_ior, i_ixor, i_ishl, i_ishr, i_iushr, i_ineg, i_i2l, i_i2b, i_i2c, i_lcmp, i_dup, i_dup2, i_pop, i_null, i_alen, i_iald, i_bald, i_lald, i_aald, i_iast, i_bast, i_last, i_aast, i_goto, i_icmp_eq, i_icmp_ne, i_icmp_lt, i_icmp_ge, i_icmp_gt, i_icmp_le, i_if_eq, i_if_ne, i_if_lt, i_if_ge, i_if_gt, i_if_le, i_ifnonnull, i_getf, i_putf, i_iret, i_zret, i_aret, i_vret, i_new, i_newa, i_anew, i_oinit, i_callv, i_calls, i_calli, i_max, i_min, i_abs, i_copy, i_throw, i_ldcs, pwt, List.getElem?_cons_zero, List.getElem?_cons_succ, List.set_cons_zero, List.set_cons_succ, List.getD_cons_zero, List.getD_cons_succ, List.length_cons, List.length_nil, List.length_set, List.drop_succ_cons, List.drop_zero, List.take_succ_cons, List.take_zero, List.reverse_cons, List.reverse_nil, List.nil_append, List.cons_append, List.append_nil, List.map_cons, List.map_nil, List.sum_cons, List.sum_nil, Value.category, ne_eq, Nat.reduceEqDiff, reduceIte, ite_self, false_implies, true_implies, true_and, and_true, and_self, Nat.zero_le, Nat.le_refl, Nat.reduceLeDiff, Nat.reduceAdd, Nat.reduceLT, Nat.add_zero, Nat.zero_add, pu_eq, not_false_eq_true, not_true_eq_false, forall_const, if_true, if_false, implies_true, pRetK, e2, nI_add]
      rw [c5] at X3 ⊢
      exact ih _ _ ⟨h3, X3, (F1.tr F2.fx).tr F3, rfl, rfl⟩
  · rintro ls σ ⟨h1, X1, F1, rfl, rfl⟩
    have e1 : nI (cl r 0 5 + K) < nI (cl r 0 5 + K + 1) := nI_lt (by omega) (by omega)
    refine b_X0_passDays_23 _ _ _ ?_
    simp only [i_const, i_load, i_aload, i_store, i_astore, i_inc, i_iadd, i_isub, i_imul, i_idiv, i_irem, i_iand, i_ior, i_ixor, i_ishl, i_ishr, i_iushr, i_ineg, i_i2l, i_i2b, i_i2c, i_lcmp, i_dup, i_dup2, i_pop, i_null, i_alen, i_iald, i_bald, i_lald, i_aald, i_iast, i_bast, i_last, i_aast, i_goto, i_icmp_eq, i_icmp_ne, i_icmp_lt, i_icmp_ge, i_icmp_gt, i_icmp_le, i_if_eq, i_if_ne, i_if_lt, i_if_ge, i_if_gt, i_if_le, i_ifnonnull, i_getf, i_putf, i_iret, i_zret, i_aret, i_vret, i_new, i_newa, i_anew, i_oinit, i_callv, i_calls, i_calli, i_max, i_min, i_abs, i_copy, i_throw, i_ldcs, pwt, List.getElem?_cons_zero, List.getElem?_cons_succ, List.set_cons_zero, List.set_cons_succ, List.getD_cons_zero, List.getD_cons_succ, List.length_cons, List.length_nil, List.length_set, List.drop_succ_cons, List.drop_zero, List.take_succ_cons, List.take_zero, List.reverse_cons, List.reverse_nil, List.nil_append, List.cons_append, List.append_nil, List.map_cons, List.map_nil, List.sum_cons, List.sum_nil, Value.category, ne_eq, Nat.reduceEqDiff, reduceIte, ite_self, false_implies, true_implies, true_and, and_true, and_self, Nat.zero_le, Nat.le_refl, Nat.reduceLeDiff, Nat.reduceAdd, Nat.reduceLT, Nat.add_zero, Nat.zero_add, pu_eq, not_false_eq_true, not_true_eq_false, forall_const, if_true, if_false, implies_true, e1]
    exact hQ h1 X1 F1
end DAYS

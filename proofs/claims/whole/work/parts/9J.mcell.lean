/-! the reference: a cell of the world is a cell of the army -/
section MCELL
variable {E : PE} {M : PM} {d : Nat} {Q : PQ} {h h' : PH} {n : Nat} {m : Nat} {w : AR} {r r' : AR} {C : Option LawL} {pc : Nat} {ls : LawL} {W W' : Nat → Int32}
theorem upd_ne {f : Nat → Int32} {i j : Nat} {x : Int32} (e : j ≠ i) : upd f i x j = f j := if_neg e
theorem upd_eq {f : Nat → Int32} {i : Nat} {x : Int32} : upd f i x i = x := if_pos rfl
theorem TX.cg (T : TX W 554 ls) (e : ∀ p, 554 ≤ p → p < 1403 → W' p = W p) : TX W' 554 ls := by
  obtain ⟨t1, t2, t3, t4⟩ := T
  refine ⟨(e _ (by omega) (by omega)).trans t1, fun i hi l hl => ?_, t3, t4⟩
  obtain ⟨a1, a2, a3, a4, a5, a6⟩ := t2 i hi l hl
  refine ⟨(e _ (by omega) (by omega)).trans a1, (e _ (by omega) (by omega)).trans a2, (e _ (by omega) (by omega)).trans a3, (e _ (by omega) (by omega)).trans a4, a5, fun j hj => ?_⟩
  obtain ⟨b1, b2⟩ := a6 j hj
  exact ⟨(e _ (by omega) (by omega)).trans b1, (e _ (by omega) (by omega)).trans b2⟩
theorem LWR.cg (T : LWR W C) (e4 : W' 4 = W 4) (e : ∀ p, 554 ≤ p → p < 1403 → W' p = W p) : LWR W' C := by
  cases C with
  | none => exact e4.trans T
  | some l => exact ⟨e4.trans T.1, TX.cg T.2 e⟩
theorem RW.cg (R : RW W r C) (A : WA r) (e : ∀ p, p < 1403 → W' p = W p) : RW W' r C := by
  obtain ⟨⟨a1, a2, a3, a4, a5, a6, a7⟩, b, c, dd, f, g⟩ := R
  have h1 := A.1.1.2
  have h2 := A.m10
  have h3 := A.s24
  have h4 := A.1.2.2.2.1.2
  refine ⟨⟨(e _ (by decide)).trans a1, (e _ (by decide)).trans a2, (e _ (by decide)).trans a3, (e _ (by decide)).trans a4, (e _ (by decide)).trans a5, (e _ (by decide)).trans a6, (e _ (by decide)).trans a7⟩, fun j hj i hi => (e _ (by omega)).trans (b j hj i hi), fun j hj => ?_, fun s hs i hi => (e _ (by omega)).trans (dd s hs i hi), fun i hi k hk => (e _ (by omega)).trans (f i hi k hk), g.cg (e 4 (by decide)) (fun p _ hp => e p hp)⟩
  obtain ⟨c1, c2, c3⟩ := c j hj
  exact ⟨(e _ (by omega)).trans c1, (e _ (by omega)).trans c2, (e _ (by omega)).trans c3⟩
theorem cellEq {q p k j k' j' : Nat} {x : Int32} (e : W p = r k' j') (i : p = q ↔ k' = k ∧ j' = j) : upd W q x p = ru r k j x k' j' := by
  rw [ru_at]
  by_cases c : p = q
  · rw [if_pos (i.mp c), c, upd_eq]
  · rw [if_neg (fun z => c (i.mpr z)), upd_ne c, e]
/-- as many as there can be -/
def BD (r : AR) : Prop := cl r 1 0 ≤ 8 ∧ cl r 5 0 ≤ 10 ∧ cl r 8 0 ≤ 24 ∧ cl r 17 0 ≤ 60 ∧ cl r 17 1 < 60
theorem WA.bd (A : WA r) : BD r := ⟨by have := A.1.1.2; omega, A.m10, A.s24, by have := A.1.2.2.2.1.2; omega, A.1.2.2.2.2.1.2⟩
theorem BD.ru {k j : Nat} {x : Int32} (A : BD r) (h1 : k ≠ 1) (h5 : k ≠ 5) (h8 : k ≠ 8) (h17 : k ≠ 17) : BD (ru r k j x) := by
  unfold BD
  rw [cl_row (ru_ne (Ne.symm h1)), cl_row (ru_ne (Ne.symm h5)), cl_row (ru_ne (Ne.symm h8)), cl_row (j := 0) (ru_ne (Ne.symm h17)), cl_row (j := 1) (ru_ne (Ne.symm h17))]
  exact A
/-- which cell is which -/
def CR (q k j : Nat) : Prop := (∃ i, j < 24 ∧ i < 8 ∧ q = 62 + 8 * j + i ∧ k = 9 + i) ∨ (j < 10 ∧ q = 32 + 3 * j + 1 ∧ k = 6) ∨ (j < 10 ∧ q = 32 + 3 * j + 2 ∧ k = 7) ∨ (q = 5 ∧ k = 0 ∧ j = 5) ∨ (q = 7 ∧ k = 0 ∧ j = 6)
theorem CR.lt {q k j : Nat} (c : CR q k j) : q < 254 ∧ q ≠ 4 ∧ q ≠ 6 ∧ k ≠ 1 ∧ k ≠ 5 ∧ k ≠ 8 ∧ k ≠ 17 ∧ k ≠ 18 := by
  rcases c with ⟨i, c1, c2, c3, c4⟩ | ⟨c1, c2, c3⟩ | ⟨c1, c2, c3⟩ | ⟨c1, c2, c3⟩ | ⟨c1, c2, c3⟩ <;> omega
theorem RW.cell {q k j : Nat} {x : Int32} (R : RW W r C) (A : BD r) (c : CR q k j) : RW (upd W q x) (ru r k j x) C := by
  obtain ⟨⟨a1, a2, a3, a4, a5, a6, a7⟩, b, c5, dd, f, g⟩ := R
  obtain ⟨h1, h2, h3, h4, h5⟩ := A
  obtain ⟨l1, l2, l3, l4, l5, l6, l7, l8⟩ := c.lt
  have i1 : cl (ru r k j x) 1 0 = cl r 1 0 := cl_row (ru_ne (Ne.symm l4))
  have i5 : cl (ru r k j x) 5 0 = cl r 5 0 := cl_row (ru_ne (Ne.symm l5))
  have i8 : cl (ru r k j x) 8 0 = cl r 8 0 := cl_row (ru_ne (Ne.symm l6))
  have i17 : cl (ru r k j x) 17 0 = cl r 17 0 := cl_row (ru_ne (Ne.symm l7))
  have i171 : cl (ru r k j x) 17 1 = cl r 17 1 := cl_row (ru_ne (Ne.symm l7))
  have i51 : ru r k j x 5 = r 5 := ru_ne (Ne.symm l5)
  refine ⟨⟨cellEq a1 ?_, cellEq a2 ?_, cellEq a3 ?_, cellEq a4 ?_, cellEq a5 ?_, cellEq a6 ?_, cellEq a7 ?_⟩, ?_, ?_, ?_, ?_, ?_⟩
  any_goals (rcases c with ⟨i, c1, c2, c3, c4⟩ | ⟨c1, c2, c3⟩ | ⟨c1, c2, c3⟩ | ⟨c1, c2, c3⟩ | ⟨c1, c2, c3⟩ <;> constructor <;> intro z <;> omega)
  · intro p hp i hi
    rw [i1] at hp
    refine cellEq (b p hp i hi) ?_
    rcases c with ⟨i, c1, c2, c3, c4⟩ | ⟨c1, c2, c3⟩ | ⟨c1, c2, c3⟩ | ⟨c1, c2, c3⟩ | ⟨c1, c2, c3⟩ <;> constructor <;> intro z <;> omega
  · intro p hp
    rw [i5] at hp
    obtain ⟨e1, e2, e3⟩ := c5 p hp
    refine ⟨?_, cellEq e2 ?_, cellEq e3 ?_⟩
    · rw [upd_ne (by rcases c with ⟨i, c1, c2, c3, c4⟩ | ⟨c1, c2, c3⟩ | ⟨c1, c2, c3⟩ | ⟨c1, c2, c3⟩ | ⟨c1, c2, c3⟩ <;> omega), e1]
      unfold alvB
      rw [i51]
    · rcases c with ⟨i, c1, c2, c3, c4⟩ | ⟨c1, c2, c3⟩ | ⟨c1, c2, c3⟩ | ⟨c1, c2, c3⟩ | ⟨c1, c2, c3⟩ <;> constructor <;> intro z <;> omega
    · rcases c with ⟨i, c1, c2, c3, c4⟩ | ⟨c1, c2, c3⟩ | ⟨c1, c2, c3⟩ | ⟨c1, c2, c3⟩ | ⟨c1, c2, c3⟩ <;> constructor <;> intro z <;> omega
  · intro p hp i hi
    rw [i8] at hp
    refine cellEq (dd p hp i hi) ?_
    rcases c with ⟨i, c1, c2, c3, c4⟩ | ⟨c1, c2, c3⟩ | ⟨c1, c2, c3⟩ | ⟨c1, c2, c3⟩ | ⟨c1, c2, c3⟩ <;> constructor <;> intro z <;> omega
  · intro p hp i hi
    rw [i17] at hp
    rw [i171, upd_ne (by omega), ru_ne (Ne.symm l8)]
    exact f p hp i hi
  · exact g.cg (upd_ne (Ne.symm l2)) (fun p hp _ => upd_ne (by omega))
theorem RW.sm (R : RW W r C) (A : WA r) (S : SM r r') : RW W r' C := by
  obtain ⟨⟨s1, s2, s3⟩, s4, s5, ⟨s6, s7⟩, s8, s9, s10, ⟨s11, s12⟩, s13⟩ := S
  obtain ⟨⟨a1, a2, a3, a4, a5, a6, a7⟩, b, c5, dd, f, g⟩ := R
  refine ⟨⟨a1.trans s4.symm, a2.trans s6.symm, a3.trans s9.symm, a4.trans s3.symm, a5.trans s1.symm, a6.trans s11.symm, a7.trans s2.symm⟩, ?_, ?_, ?_, ?_, g⟩
  · intro j hj i hi
    rw [cl_eq s4] at hj
    rw [b j hj i hi]
    refine (s5 (2 + i) ?_ j hj).symm
    rcases (show i = 0 ∨ i = 1 ∨ i = 2 by omega) with rfl | rfl | rfl <;> decide
  · intro j hj
    rw [cl_eq s6] at hj
    obtain ⟨e1, e2, e3⟩ := c5 j hj
    obtain ⟨t1, t2⟩ := s8 j hj
    refine ⟨?_, e2.trans t1.symm, e3.trans t2.symm⟩
    rw [e1]
    unfold alvB
    rw [s7]
  · intro j hj i hi
    rw [cl_eq s9] at hj
    rw [dd j hj i hi]
    refine (s10 (9 + i) ?_ j hj).symm
    rcases (show i = 0 ∨ i = 1 ∨ i = 2 ∨ i = 3 ∨ i = 4 ∨ i = 5 ∨ i = 6 ∨ i = 7 by omega) with rfl | rfl | rfl | rfl | rfl | rfl | rfl | rfl <;> decide
  · intro j hj i hi
    rw [cl_eq s11] at hj
    rw [cl_eq s12, f j hj i hi]
    have := lgP_in A hj
    exact (s13 _ (by omega)).symm
/-- one more word in the log -/
theorem RW.log {x : Nat → Int32} {W1 : Nat → Int32} {m0 : Nat} (R : RW W r C) (A : BD r) (hm : cl r 17 0 = m0) (e0 : ∀ p, p < 254 → p ≠ 6 → W1 p = W p) (e6 : W1 6 = nI (min 60 (m0 + 1))) (ea : ∀ k, k < 5 → W1 (254 + k) = x k) (eb : ∀ p, p < 295 → W1 (259 + p) = W (254 + p)) (ec : ∀ p, 554 ≤ p → W1 p = W p) : RW W1 (rLog r (cl r 17 1) m0 (x 0) (x 1) (x 2) (x 3) (x 4)) C := by
  subst hm
  obtain ⟨⟨a1, a2, a3, a4, a5, a6, a7⟩, b, c5, dd, f, g⟩ := R
  obtain ⟨h1, h2, h3, h4, h5⟩ := A
  have row : ∀ k, k ≠ 17 → k ≠ 18 → rLog r (cl r 17 1) (cl r 17 0) (x 0) (x 1) (x 2) (x 3) (x 4) k = r k := fun k k1 k2 => by
    unfold rLog
    rw [ru_ne k1, ru_ne k1, ru_ne k2, ru_ne k2, ru_ne k2, ru_ne k2, ru_ne k2]
  generalize hr : rLog r (cl r 17 1) (cl r 17 0) (x 0) (x 1) (x 2) (x 3) (x 4) = r1 at row
  have i1 : cl r1 1 0 = cl r 1 0 := cl_row (row 1 (by decide) (by decide))
  have i5 : cl r1 5 0 = cl r 5 0 := cl_row (row 5 (by decide) (by decide))
  have i8 : cl r1 8 0 = cl r 8 0 := cl_row (row 8 (by decide) (by decide))
  have j17 : r1 17 0 = nI (min 60 (cl r 17 0 + 1)) := by rw [← hr]; unfold rLog; rw [ru_eq, upd_eq]
  have j171 : r1 17 1 = nI ((cl r 17 1 + 1) % 60) := by rw [← hr]; unfold rLog; rw [ru_eq, upd_ne (by decide), ru_eq, upd_eq]
  have i17 : cl r1 17 0 = min 60 (cl r 17 0 + 1) := cl_of j17 (by omega)
  have i171 : cl r1 17 1 = (cl r 17 1 + 1) % 60 := cl_of j171 (by omega)
  have j18 : ∀ p, r1 18 p = if p = cl r 17 1 * 5 + 4 then x 4 else if p = cl r 17 1 * 5 + 3 then x 3 else if p = cl r 17 1 * 5 + 2 then x 2 else if p = cl r 17 1 * 5 + 1 then x 1 else if p = cl r 17 1 * 5 then x 0 else r 18 p := fun p => by
    rw [← hr]; unfold rLog
    rw [ru_ne (by decide), ru_ne (by decide), ru_eq, ru_eq, ru_eq, ru_eq, ru_eq]
    rfl
  clear hr
  refine ⟨⟨?_, ?_, ?_, ?_, ?_, ?_, ?_⟩, ?_, ?_, ?_, ?_, ?_⟩
  · rw [e0 _ (by decide) (by decide), row 1 (by decide) (by decide)]; exact a1
  · rw [e0 _ (by decide) (by decide), row 5 (by decide) (by decide)]; exact a2
  · rw [e0 _ (by decide) (by decide), row 8 (by decide) (by decide)]; exact a3
  · rw [e0 _ (by decide) (by decide), row 0 (by decide) (by decide)]; exact a4
  · rw [e0 _ (by decide) (by decide), row 0 (by decide) (by decide)]; exact a5
  · rw [e6, j17]
  · rw [e0 _ (by decide) (by decide), row 0 (by decide) (by decide)]; exact a7
  · intro j hj i hi
    rw [i1] at hj
    rw [e0 _ (by omega) (by omega), row (2 + i) (by omega) (by omega)]; exact b j hj i hi
  · intro j hj
    rw [i5] at hj
    obtain ⟨e1, e2, e3⟩ := c5 j hj
    refine ⟨?_, ?_, ?_⟩
    · rw [e0 _ (by omega) (by omega), e1]
      unfold alvB
      rw [row 5 (by decide) (by decide)]
    · rw [e0 _ (by omega) (by omega), row 6 (by decide) (by decide)]; exact e2
    · rw [e0 _ (by omega) (by omega), row 7 (by decide) (by decide)]; exact e3
  · intro j hj i hi
    rw [i8] at hj
    rw [e0 _ (by omega) (by omega), row (9 + i) (by omega) (by omega)]; exact dd j hj i hi
  · intro i hi k hk
    rw [i17] at hi
    rw [i171, j18]
    cases i with
    | zero =>
      have : lgP ((cl r 17 1 + 1) % 60) 0 = cl r 17 1 := by unfold lgP; omega
      rw [this, Nat.mul_zero, Nat.add_zero, ea k hk]
      rcases (show k = 0 ∨ k = 1 ∨ k = 2 ∨ k = 3 ∨ k = 4 by omega) with rfl | rfl | rfl | rfl | rfl
      · rw [if_neg (by omega), if_neg (by omega), if_neg (by omega), if_neg (by omega), if_pos (by omega)]
      · rw [if_neg (by omega), if_neg (by omega), if_neg (by omega), if_pos (by omega)]
      · rw [if_neg (by omega), if_neg (by omega), if_pos (by omega)]
      · rw [if_neg (by omega), if_pos (by omega)]
      · rw [if_pos (by omega)]
    | succ i =>
      have e1 : lgP ((cl r 17 1 + 1) % 60) (i + 1) = lgP (cl r 17 1) i := by unfold lgP; omega
      have e2 : lgP (cl r 17 1) i ≠ cl r 17 1 := by unfold lgP; omega
      have e3 := f i (by omega) k hk
      rw [e1, if_neg (by omega), if_neg (by omega), if_neg (by omega), if_neg (by omega), if_neg (by omega), ← e3, show 254 + 5 * (i + 1) + k = 259 + (5 * i + k) by omega, eb _ (by omega)]
      congr 1
      omega
  · exact g.cg (e0 4 (by decide) (by decide)) (fun p hp _ => ec p hp)
theorem ru_comm {k k' i j : Nat} {x y : Int32} (e : k ≠ k') : ru (ru r k i x) k' j y = ru (ru r k' j y) k i x := by
  funext q
  by_cases c : q = k
  · subst c; rw [ru_ne e, ru_eq, ru_eq, ru_ne e]
  · rw [ru_ne c]
    by_cases c2 : q = k'
    · subst c2; rw [ru_eq, ru_eq, ru_ne (Ne.symm e)]
    · rw [ru_ne c2, ru_ne c2, ru_ne c]
/-- only the world's first cells may have changed -/
def SW1 (w w' : AR) : Prop := (∀ k, k ≠ 1 → w' k = w k) ∧ ∀ p, 554 ≤ p → w' 1 p = w 1 p
theorem SW1.rf : SW1 w w := ⟨fun _ _ => rfl, fun _ _ => rfl⟩
theorem SW1.ru {w' : AR} {q : Nat} {x : Int32} (S : SW1 w w') (hq : q < 554) : SW1 w (ru w' 1 q x) := ⟨fun k hk => by rw [ru_ne hk]; exact S.1 k hk, fun p hp => by rw [ru_eq, upd_ne (by omega)]; exact S.2 p hp⟩
theorem SW1.tr {w' w'' : AR} (S : SW1 w w') (T : SW1 w' w'') : SW1 w w'' := ⟨fun k hk => (T.1 k hk).trans (S.1 k hk), fun p hp => (T.2 p hp).trans (S.2 p hp)⟩
theorem c_X12_ofManW {s : Nat} (i : Nat) (X : MX h m w) (hs : s < 10) (hi : i < 3) (hQ : Q (.inl (some (.int (w 1 (32 + 3 * s + i))))) h n) : pCall E M_X12_ofMan (d + 1) [.ref m, .int (nI s), .int (nI i)] h n Q := by
  refine pCall_of rfl rfl (Nat.le_of_ble_eq_true rfl) (by simp [Value.category]) ?_
  refine b_X12_ofMan_0 _ _ _ ?_
  simp only [pEntry, PM.nL, M_X12_ofMan, List.map_cons, List.map_nil, List.length_cons, List.length_nil, Nat.reduceAdd, Nat.reduceSub, Nat.sub_self, List.replicate_succ, List.replicate_zero, List.cons_append, List.nil_append]
  simp only [i_const, i_load, i_aload, i_store, i_astore, i_inc, i_iadd, i_isub, i_imul, i_idiv, i_irem, i_iand, i_ior, i_ixor, i_ishl, i_ishr, i_iushr, i_ineg, i_i2l, i_i2b, i_i2c, i_lcmp, i_dup, i_dup2, i_pop, i_null, i_alen, i_iald, i_bald, i_lald, i_aald, i_iast, i_bast, i_last, i_aast, i_goto, i_icmp_eq, i_icmp_ne, i_icmp_lt, i_icmp_ge, i_icmp_gt, i_icmp_le, i_if_eq, i_if_ne, i_if_lt, i_if_ge, i_if_gt, i_if_le, i_ifnonnull, i_getf, i_putf, i_iret, i_zret, i_aret, i_vret, i_new, i_newa, i_anew, i_oinit, i_callv, i_calls, i_calli, i_max, i_min, i_abs, i_copy, i_throw, i_ldcs, pwt, List.getElem?_cons_zero, List.getElem?_cons_succ, List.set_cons_zero, List.set_cons_succ, List.getD_cons_zero, List.getD_cons_succ, List.length_cons, List.length_nil, List.length_set, List.drop_succ_cons, List.drop_zero, List.take_succ_cons, List.take_zero, List.reverse_cons, List.reverse_nil, List.nil_append, List.cons_append, List.append_nil, List.map_cons, List.map_nil, List.sum_cons, List.sum_nil, Value.category, ne_eq, Nat.reduceEqDiff, reduceIte, ite_self, false_implies, true_implies, true_and, and_true, and_self, Nat.zero_le, Nat.le_refl, Nat.reduceLeDiff, Nat.reduceAdd, Nat.reduceLT, Nat.add_zero, Nat.zero_add, pu_eq, not_false_eq_true, not_true_eq_false, forall_const, if_true, if_false, implies_true, X.f0]
  refine c_X12_manAt s i ?_
  simp only [i_const, i_load, i_aload, i_store, i_astore, i_inc, i_iadd, i_isub, i_imul, i_idiv, i_irem, i_iand, i_ior, i_ixor, i_ishl, i_ishr, i_iushr, i_ineg, i_i2l, i_i2b, i_i2c, i_lcmp, i_dup, i_dup2, i_pop, i_null, i_alen, i_iald, i_bald, i_lald, i_aald, i_iast, i_bast, i_last, i_aast, i_goto, i_icmp_eq, i_icmp_ne, i_icmp_lt, i_icmp_ge, i_icmp_gt, i_icmp_le, i_if_eq, i_if_ne, i_if_lt, i_if_ge, i_if_gt, i_if_le, i_ifnonnull, i_getf, i_putf, i_iret, i_zret, i_aret, i_vret, i_new, i_newa, i_anew, i_oinit, i_callv, i_calls, i_calli, i_max, i_min, i_abs, i_copy, i_throw, i_ldcs, pwt, List.getElem?_cons_zero, List.getElem?_cons_succ, List.set_cons_zero, List.set_cons_succ, List.getD_cons_zero, List.getD_cons_succ, List.length_cons, List.length_nil, List.length_set, List.drop_succ_cons, List.drop_zero, List.take_succ_cons, List.take_zero, List.reverse_cons, List.reverse_nil, List.nil_append, List.cons_append, List.append_nil, List.map_cons, List.map_nil, List.sum_cons, List.sum_nil, Value.category, ne_eq, Nat.reduceEqDiff, reduceIte, ite_self, false_implies, true_implies, true_and, and_true, and_self, Nat.zero_le, Nat.le_refl, Nat.reduceLeDiff, Nat.reduceAdd, Nat.reduceLT, Nat.add_zero, Nat.zero_add, pu_eq, not_false_eq_true, not_true_eq_false, forall_const, if_true, if_false, implies_true, pRetK, X.f1, vp_in_nI (show 32 + 3 * s + i < 2252 by omega) (by decide), nI_clamp (show 32 + 3 * s + i < 2 ^ 31 by omega)]
  exact hQ
theorem c_X12_ofW {s : Nat} (i : Nat) (X : MX h m w) (hs : s < 24) (hi : i < 8) (hQ : Q (.inl (some (.int (w 1 (62 + 8 * s + i))))) h n) : pCall E M_X12_of (d + 1) [.ref m, .int (nI s), .int (nI i)] h n Q := by
  refine pCall_of rfl rfl (Nat.le_of_ble_eq_true rfl) (by simp [Value.category]) ?_
  refine b_X12_of_0 _ _ _ ?_
  simp only [pEntry, PM.nL, M_X12_of, List.map_cons, List.map_nil, List.length_cons, List.length_nil, Nat.reduceAdd, Nat.reduceSub, Nat.sub_self, List.replicate_succ, List.replicate_zero, List.cons_append, List.nil_append]
  simp only [i_const, i_load, i_aload, i_store, i_astore, i_inc, i_iadd, i_isub, i_imul, i_idiv, i_irem, i_iand, i_ior, i_ixor, i_ishl, i_ishr, i_iushr, i_ineg, i_i2l, i_i2b, i_i2c, i_lcmp, i_dup, i_dup2, i_pop, i_null, i_alen, i_iald, i_bald, i_lald, i_aald, i_iast, i_bast, i_last, i_aast, i_goto, i_icmp_eq, i_icmp_ne, i_icmp_lt, i_icmp_ge, i_icmp_gt, i_icmp_le, i_if_eq, i_if_ne, i_if_lt, i_if_ge, i_if_gt, i_if_le, i_ifnonnull, i_getf, i_putf, i_iret, i_zret, i_aret, i_vret, i_new, i_newa, i_anew, i_oinit, i_callv, i_calls, i_calli, i_max, i_min, i_abs, i_copy, i_throw, i_ldcs, pwt, List.getElem?_cons_zero, List.getElem?_cons_succ, List.set_cons_zero, List.set_cons_succ, List.getD_cons_zero, List.getD_cons_succ, List.length_cons, List.length_nil, List.length_set, List.drop_succ_cons, List.drop_zero, List.take_succ_cons, List.take_zero, List.reverse_cons, List.reverse_nil, List.nil_append, List.cons_append, List.append_nil, List.map_cons, List.map_nil, List.sum_cons, List.sum_nil, Value.category, ne_eq, Nat.reduceEqDiff, reduceIte, ite_self, false_implies, true_implies, true_and, and_true, and_self, Nat.zero_le, Nat.le_refl, Nat.reduceLeDiff, Nat.reduceAdd, Nat.reduceLT, Nat.add_zero, Nat.zero_add, pu_eq, not_false_eq_true, not_true_eq_false, forall_const, if_true, if_false, implies_true, X.f0]
  refine c_X12_scarAt s i ?_
  simp only [i_const, i_load, i_aload, i_store, i_astore, i_inc, i_iadd, i_isub, i_imul, i_idiv, i_irem, i_iand, i_ior, i_ixor, i_ishl, i_ishr, i_iushr, i_ineg, i_i2l, i_i2b, i_i2c, i_lcmp, i_dup, i_dup2, i_pop, i_null, i_alen, i_iald, i_bald, i_lald, i_aald, i_iast, i_bast, i_last, i_aast, i_goto, i_icmp_eq, i_icmp_ne, i_icmp_lt, i_icmp_ge, i_icmp_gt, i_icmp_le, i_if_eq, i_if_ne, i_if_lt, i_if_ge, i_if_gt, i_if_le, i_ifnonnull, i_getf, i_putf, i_iret, i_zret, i_aret, i_vret, i_new, i_newa, i_anew, i_oinit, i_callv, i_calls, i_calli, i_max, i_min, i_abs, i_copy, i_throw, i_ldcs, pwt, List.getElem?_cons_zero, List.getElem?_cons_succ, List.set_cons_zero, List.set_cons_succ, List.getD_cons_zero, List.getD_cons_succ, List.length_cons, List.length_nil, List.length_set, List.drop_succ_cons, List.drop_zero, List.take_succ_cons, List.take_zero, List.reverse_cons, List.reverse_nil, List.nil_append, List.cons_append, List.append_nil, List.map_cons, List.map_nil, List.sum_cons, List.sum_nil, Value.category, ne_eq, Nat.reduceEqDiff, reduceIte, ite_self, false_implies, true_implies, true_and, and_true, and_self, Nat.zero_le, Nat.le_refl, Nat.reduceLeDiff, Nat.reduceAdd, Nat.reduceLT, Nat.add_zero, Nat.zero_add, pu_eq, not_false_eq_true, not_true_eq_false, forall_const, if_true, if_false, implies_true, pRetK, X.f1, vp_in_nI (show 62 + 8 * s + i < 2252 by omega) (by decide), nI_clamp (show 62 + 8 * s + i < 2 ^ 31 by omega)]
  exact hQ
theorem c_X12_gets {s c p : Nat} (X : MX h m w) (hs : s < 10) (hc : w 1 (32 + 3 * s + 2) = nI c) (hc2 : c + p < 2 ^ 30) (hQ : ∀ h', MX h' m (ru w 1 (32 + 3 * s + 2) (nI (min 9999 (c + p)))) → FM m h h' → Q (.inl none) h' n) : pCall E M_X12_gets (d + 2) [.ref m, .int (nI s), .int (nI p)] h n Q := by
  refine pCall_of rfl rfl (Nat.le_of_ble_eq_true rfl) (by simp [Value.category]) ?_
  refine b_X12_gets_0 _ _ _ ?_
  simp only [pEntry, PM.nL, M_X12_gets, List.map_cons, List.map_nil, List.length_cons, List.length_nil, Nat.reduceAdd, Nat.reduceSub, Nat.sub_self, List.replicate_succ, List.replicate_zero, List.cons_append, List.nil_append]
  simp only [i_const, i_load, i_aload, i_store, i_astore, i_inc, i_iadd, i_isub, i_imul, i_idiv, i_irem, i_iand, i_ior, i_ixor, i_ishl, i_ishr, i_iushr, i_ineg, i_i2l, i_i2b, i_i2c, i_lcmp, i_dup, i_dup2, i_pop, i_null, i_alen, i_iald, i_bald, i_lald, i_aald, i_iast, i_bast, i_last, i_aast, i_goto, i_icmp_eq, i_icmp_ne, i_icmp_lt, i_icmp_ge, i_icmp_gt, i_icmp_le, i_if_eq, i_if_ne, i_if_lt, i_if_ge, i_if_gt, i_if_le, i_ifnonnull, i_getf, i_putf, i_iret, i_zret, i_aret, i_vret, i_new, i_newa, i_anew, i_oinit, i_callv, i_calls, i_calli, i_max, i_min, i_abs, i_copy, i_throw, i_ldcs, pwt, List.getElem?_cons_zero, List.getElem?_cons_succ, List.set_cons_zero, List.set_cons_succ, List.getD_cons_zero, List.getD_cons_succ, List.length_cons, List.length_nil, List.length_set, List.drop_succ_cons, List.drop_zero, List.take_succ_cons, List.take_zero, List.reverse_cons, List.reverse_nil, List.nil_append, List.cons_append, List.append_nil, List.map_cons, List.map_nil, List.sum_cons, List.sum_nil, Value.category, ne_eq, Nat.reduceEqDiff, reduceIte, ite_self, false_implies, true_implies, true_and, and_true, and_self, Nat.zero_le, Nat.le_refl, Nat.reduceLeDiff, Nat.reduceAdd, Nat.reduceLT, Nat.add_zero, Nat.zero_add, pu_eq, not_false_eq_true, not_true_eq_false, forall_const, if_true, if_false, implies_true, X.f0]
  refine c_X12_manAt s 2 ?_
  simp only [i_const, i_load, i_aload, i_store, i_astore, i_inc, i_iadd, i_isub, i_imul, i_idiv, i_irem, i_iand, i_ior, i_ixor, i_ishl, i_ishr, i_iushr, i_ineg, i_i2l, i_i2b, i_i2c, i_lcmp, i_dup, i_dup2, i_pop, i_null, i_alen, i_iald, i_bald, i_lald, i_aald, i_iast, i_bast, i_last, i_aast, i_goto, i_icmp_eq, i_icmp_ne, i_icmp_lt, i_icmp_ge, i_icmp_gt, i_icmp_le, i_if_eq, i_if_ne, i_if_lt, i_if_ge, i_if_gt, i_if_le, i_ifnonnull, i_getf, i_putf, i_iret, i_zret, i_aret, i_vret, i_new, i_newa, i_anew, i_oinit, i_callv, i_calls, i_calli, i_max, i_min, i_abs, i_copy, i_throw, i_ldcs, pwt, List.getElem?_cons_zero, List.getElem?_cons_succ, List.set_cons_zero, List.set_cons_succ, List.getD_cons_zero, List.getD_cons_succ, List.length_cons, List.length_nil, List.length_set, List.drop_succ_cons, List.drop_zero, List.take_succ_cons, List.take_zero, List.reverse_cons, List.reverse_nil, List.nil_append, List.cons_append, List.append_nil, List.map_cons, List.map_nil, List.sum_cons, List.sum_nil, Value.category, ne_eq, Nat.reduceEqDiff, reduceIte, ite_self, false_implies, true_implies, true_and, and_true, and_self, Nat.zero_le, Nat.le_refl, Nat.reduceLeDiff, Nat.reduceAdd, Nat.reduceLT, Nat.add_zero, Nat.zero_add, pu_eq, not_false_eq_true, not_true_eq_false, forall_const, if_true, if_false, implies_true, pRetK, X.f0]
  refine c_X12_ofManW 2 X hs (by decide) ?_
  have e1 : nI c + nI p = nI (c + p) := nI_add c p
  have e2 : (if nI (c + p) < 9999 then nI (c + p) else 9999) = nI (min 9999 (c + p)) := by
    rw [show (9999 : Int32) = nI 9999 from rfl, nI_mn (by decide) (by omega)]; congr 1; split <;> omega
  obtain ⟨X1, F1⟩ := X.set (k := 1) (i := 32 + 3 * s + 2) (by decide) (by decide) (nI (min 9999 (c + p)))
  simp only [i_const, i_load, i_aload, i_store, i_astore, i_inc, i_iadd, i_isub, i_imul, i_idiv, i_irem, i_iand, i_ior, i_ixor, i_ishl, i_ishr, i_iushr, i_ineg, i_i2l, i_i2b, i_i2c, i_lcmp, i_dup, i_dup2, i_pop, i_null, i_alen, i_iald, i_bald, i_lald, i_aald, i_iast, i_bast, i_last, i_aast, i_goto, i_icmp_eq, i_icmp_ne, i_icmp_lt, i_icmp_ge, i_icmp_gt, i_icmp_le, i_if_eq, i_if_ne, i_if_lt, i_if_ge, i_if_gt, i_if_le, i_ifnonnull, i_getf, i_putf, i_iret, i_zret, i_aret, i_vret, i_new, i_newa, i_anew, i_oinit, i_callv, i_calls, i_calli, i_max, i_min, i_abs, i_copy, i_throw, i_ldcs, pwt, List.getElem?_cons_zero, List.getElem?_cons_succ, List.set_cons_zero, List.set_cons_succ, List.getD_cons_zero, List.getD_cons_succ, List.length_cons, List.length_nil, List.length_set, List.drop_succ_cons, List.drop_zero, List.take_succ_cons, List.take_zero, List.reverse_cons, List.reverse_nil, List.nil_append, List.cons_append, List.append_nil, List.map_cons, List.map_nil, List.sum_cons, List.sum_nil, Value.category, ne_eq, Nat.reduceEqDiff, reduceIte, ite_self, false_implies, true_implies, true_and, and_true, and_self, Nat.zero_le, Nat.le_refl, Nat.reduceLeDiff, Nat.reduceAdd, Nat.reduceLT, Nat.add_zero, Nat.zero_add, pu_eq, not_false_eq_true, not_true_eq_false, forall_const, if_true, if_false, implies_true, pRetK, hc, e1, e2, X.f1, vp_in_nI (show 32 + 3 * s + 2 < 2252 by omega) (by decide), nI_clamp (show 32 + 3 * s + 2 < 2 ^ 31 by omega)]
  exact hQ _ X1 F1
end MCELL

/-! the class's face: laws, enemies -/
section FACE7
variable {E : PE} {M : PM} {d : Nat} {Q : PQ} {h h' : PH} {n n' : Nat} {a b s t x y L ln cnt B sz nx : Nat} {r rb g : AR} {lw lb : Option Nat} {C Cb : Option LawL} {pc : Nat} {f : Nat → Int32} {im wb : Int32} {K : KA}
/-- the law of now is a new one -/
theorem CX.law (X : CX h x B n L f K sz nx im wb) {ls : LawL} (F : ∀ q, q ≠ x + 6 → q < n → h' q = h q) (H : ∃ f, AA h' (x + 6) (rs (K 0).1 19 f) (some n)) (Z : LX h' (x + 6) (some n) (some ls)) : CX h' x B (n + 3) L f (uK K 0 ((K 0).1, some n, some ls)) sz nx im wb ∧ FC x B h h' := by
  have hb := X.bd
  have hn := X.bn
  refine ⟨X.move (fun q hq => F q (by omega) (by omega)) ?_ (by omega) ?_ ?_, fun q q1 q2 => F q (by omega) (by omega)⟩
  · obtain ⟨A1, A2, A3⟩ := X.ca
    refine ⟨fun k hk => ?_, fun k hk L' e => ?_, fun k j hk hj L' L'' e e' => ?_⟩
    · by_cases c : k = 0
      · subst c; rw [uK_eq]; exact ⟨⟨H, Z⟩, X.wa⟩
      · rw [uK_ne c]
        have := kAd_dj (x := x) (k := k) (j := 0) hk (by decide) c
        have := kAd_in (x := x) hk
        rw [kAd_0] at *
        refine ⟨(A1 k hk).1.tr (fun i hi => F _ (by omega) (by omega)) (fun L' e => ?_), (A1 k hk).2⟩
        have := A2 k hk L' e
        obtain ⟨ff, hf⟩ : stk h L' := by have := (A1 k hk).1.2; rw [e] at this; exact this.stk
        exact ⟨F _ (by omega) (by omega), F _ (by omega) (by omega), ff, (F _ (by omega) (by omega)).trans hf⟩
    · by_cases c : k = 0
      · subst c; rw [uK_eq] at e; cases e; omega
      · rw [uK_ne c] at e; have := A2 k hk L' e; omega
    · by_cases c : k = 0
      · subst c; rw [uK_eq] at e; cases e
        by_cases c2 : j = 0
        · subst c2; rw [uK_eq] at e'; cases e'; exact Or.inl rfl
        · rw [uK_ne c2] at e'; have := A2 j hj L'' e'; omega
      · rw [uK_ne c] at e
        by_cases c2 : j = 0
        · subst c2; rw [uK_eq] at e'; cases e'; have := A2 k hk L' e; omega
        · rw [uK_ne c2] at e'; exact A3 k j hk hj L' L'' e e'
  · obtain ⟨r1, l1, H⟩ := X.dr
    exact ⟨r1, l1, H.tr (fun i hi => F _ (by omega) (by omega))⟩
  · obtain ⟨g1, H⟩ := X.se
    exact ⟨g1, H.tr (fun i hi => F _ (by omega) (by omega))⟩
/-- only the tape and the law's reader have changed -/
theorem CX.lr (X : CX h x B n L f K sz nx im wb) (F : FL (x + 4) (x + 1) h h') {b e : Nat} {z v : Int32} (T : TR h' (x + 1) L b z v e f) (l4 : ∃ s0 l0 g0, h' (x + 4) = some (.inr (4, [.ref (x + 1), .ref (x + 4 + 1), .int s0, .int l0])) ∧ h' (x + 4 + 1) = some (.inl (.int, (436, .inl g0)))) : CX h' x B n L f K sz nx im wb ∧ FC x B h h' := by
  refine X.low (fun q q1 q2 => F q (by omega) (by omega) (by omega)) ((F _ (by omega) (by omega) (by omega)).trans X.o) ⟨_, _, _, _, T⟩ X.l4 ((F _ (by omega) (by omega) (by omega)).trans X.at1) l4 ((F _ (by omega) (by omega) (by omega)).trans X.mo) (F _ (by omega) (by omega) (by omega)) X.s12 X.n12
theorem c_X11_law (hE : EC E) (X : CX h x B n L f K sz nx im wb)
    (hQ0 : ∀ b, lwP f L = .inl b → ∀ h' n', n ≤ n' → CX h' x B n' 0 f K sz nx im (nI b) → FC x B h h' → Q (.inr xIA) h' n')
    (hQ1 : ∀ q, lwP f L = .inr q → ∀ h', CX h' x B (n + 3) 0 f (uK K 0 ((K 0).1, some n, some q.2)) 0 nx im (-1) → FC x B h h' → Q (.inl (some (.int (nI q.2.length)))) h' (n + 3)) : pCall E M_X11_law (d + 23) [.ref x] h n Q := by
  refine pCall_of rfl rfl (Nat.le_of_ble_eq_true rfl) (by simp [Value.category]) ?_
  refine b_X11_law_0 _ _ _ ?_
  simp only [pEntry, PM.nL, M_X11_law, List.map_cons, List.map_nil, List.length_cons, List.length_nil, Nat.reduceAdd, Nat.reduceSub, Nat.sub_self, List.replicate_succ, List.replicate_zero, List.cons_append, List.nil_append]
  have W := X.wa
  have hb := X.bd
  have hn := X.bn
  obtain ⟨b, z, v, e, T⟩ := X.tp
  obtain ⟨s0, l0, g0, p1, p2⟩ := X.lt4
  simp only [i_const, i_load, i_aload, i_store, i_astore, i_inc, i_iadd, i_isub, i_imul, i_idiv, i_irem, i_iand, i_ior, i_ixor, i_ishl, i_ishr, i_iushr, i_ineg, i_i2l, i_i2b, i_i2c, i_lcmp, i_dup, i_dup2, i_pop, i_null, i_alen, i_iald, i_bald, i_lald, i_aald, i_iast, i_bast, i_last, i_aast, i_goto, i_icmp_eq, i_icmp_ne, i_icmp_lt, i_icmp_ge, i_icmp_gt, i_icmp_le, i_if_eq, i_if_ne, i_if_lt, i_if_ge, i_if_gt, i_if_le, i_ifnonnull, i_getf, i_putf, i_iret, i_zret, i_aret, i_vret, i_new, i_newa, i_anew, i_oinit, i_callv, i_calls, i_calli, i_max, i_min, i_abs, i_copy, i_throw, i_ldcs, pwt, List.getElem?_cons_zero, List.getElem?_cons_succ, List.set_cons_zero, List.set_cons_succ, List.getD_cons_zero, List.getD_cons_succ, List.length_cons, List.length_nil, List.length_set, List.drop_succ_cons, List.drop_zero, List.take_succ_cons, List.take_zero, List.reverse_cons, List.reverse_nil, List.nil_append, List.cons_append, List.append_nil, List.map_cons, List.map_nil, List.sum_cons, List.sum_nil, Value.category, ne_eq, Nat.reduceEqDiff, reduceIte, ite_self, false_implies, true_implies, true_and, and_true, and_self, Nat.zero_le, Nat.le_refl, Nat.reduceLeDiff, Nat.reduceAdd, Nat.reduceLT, Nat.add_zero, Nat.zero_add, pu_eq, not_false_eq_true, not_true_eq_false, forall_const, if_true, if_false, implies_true, X.o, p1]
  refine c_X4_read hE T p1 p2 ⟨by omega, by omega, by omega⟩ X.l4 ?_
  cases hp : lwP f L with
  | inl bb =>
    intro h2 v2 ln2 P2 F2
    obtain ⟨P2a, ⟨sz2, P2b⟩, ⟨g2, P2c⟩⟩ := P2
    obtain ⟨X2, G2⟩ := X.lr F2 P2a ⟨_, _, _, P2b, P2c⟩
    have pb : ∀ c : PC, ∀ hh : PH, pu hh (x + 1) c x = hh x := fun c hh => pu_ne (by omega)
    have pb1 : ∀ c : PC, pu h2 x c (x + 1) = h2 (x + 1) := fun c => pu_ne (by omega)
    have T2 := P2a.1
    have ne1 : ¬ nI bb = -1 := neg1 (by have := lwP_le hp; have := X.l4; omega)
    simp only [i_const, i_load, i_aload, i_store, i_astore, i_inc, i_iadd, i_isub, i_imul, i_idiv, i_irem, i_iand, i_ior, i_ixor, i_ishl, i_ishr, i_iushr, i_ineg, i_i2l, i_i2b, i_i2c, i_lcmp, i_dup, i_dup2, i_pop, i_null, i_alen, i_iald, i_bald, i_lald, i_aald, i_iast, i_bast, i_last, i_aast, i_goto, i_icmp_eq, i_icmp_ne, i_icmp_lt, i_icmp_ge, i_icmp_gt, i_icmp_le, i_if_eq, i_if_ne, i_if_lt, i_if_ge, i_if_gt, i_if_le, i_ifnonnull, i_getf, i_putf, i_iret, i_zret, i_aret, i_vret, i_new, i_newa, i_anew, i_oinit, i_callv, i_calls, i_calli, i_max, i_min, i_abs, i_copy, i_throw, i_ldcs, pwt, List.getElem?_cons_zero, List.getElem?_cons_succ, List.set_cons_zero, List.set_cons_succ, List.getD_cons_zero, List.getD_cons_succ, List.length_cons, List.length_nil, List.length_set, List.drop_succ_cons, List.drop_zero, List.take_succ_cons, List.take_zero, List.reverse_cons, List.reverse_nil, List.nil_append, List.cons_append, List.append_nil, List.map_cons, List.map_nil, List.sum_cons, List.sum_nil, Value.category, ne_eq, Nat.reduceEqDiff, reduceIte, ite_self, false_implies, true_implies, true_and, and_true, and_self, Nat.zero_le, Nat.le_refl, Nat.reduceLeDiff, Nat.reduceAdd, Nat.reduceLT, Nat.add_zero, Nat.zero_add, pu_eq, not_false_eq_true, not_true_eq_false, forall_const, if_true, if_false, implies_true, pRetK, X2.o, pb1, T2, pb, ne1]
    refine ⟨rfl, rfl, rfl, rfl, ?_⟩
    obtain ⟨X3, G3⟩ := X2.pow P2a (nI bb)
    exact fun n' hn' => hQ0 bb hp _ n' hn' (X3.grow hn') (G2.tr G3)
  | inr q =>
    intro h2 v2 P2 F2
    obtain ⟨tl, tn, tt⟩ := lwP_t X.l4 hp
    have P2' := P2
    obtain ⟨P2a, P2b, ⟨g2, P2c, P2d⟩⟩ := P2'
    obtain ⟨X2, G2⟩ := X.lr F2 P2a ⟨_, _, _, P2b, P2c⟩
    have pb : ∀ c : PC, ∀ hh : PH, pu hh (x + 1) c x = hh x := fun c hh => pu_ne (by omega)
    have pb1 : ∀ c : PC, pu h2 x c (x + 1) = h2 (x + 1) := fun c => pu_ne (by omega)
    have pb2 : ∀ c c' : PC, pu (pu h2 x c) (x + 1) c' (x + 4) = h2 (x + 4) := fun c c' => (pu_ne (by omega)).trans (pu_ne (by omega))
    have T2 := P2a.1
    obtain ⟨X3, G3⟩ := X2.pow P2a (-1)
    simp only [i_const, i_load, i_aload, i_store, i_astore, i_inc, i_iadd, i_isub, i_imul, i_idiv, i_irem, i_iand, i_ior, i_ixor, i_ishl, i_ishr, i_iushr, i_ineg, i_i2l, i_i2b, i_i2c, i_lcmp, i_dup, i_dup2, i_pop, i_null, i_alen, i_iald, i_bald, i_lald, i_aald, i_iast, i_bast, i_last, i_aast, i_goto, i_icmp_eq, i_icmp_ne, i_icmp_lt, i_icmp_ge, i_icmp_gt, i_icmp_le, i_if_eq, i_if_ne, i_if_lt, i_if_ge, i_if_gt, i_if_le, i_ifnonnull, i_getf, i_putf, i_iret, i_zret, i_aret, i_vret, i_new, i_newa, i_anew, i_oinit, i_callv, i_calls, i_calli, i_max, i_min, i_abs, i_copy, i_throw, i_ldcs, pwt, List.getElem?_cons_zero, List.getElem?_cons_succ, List.set_cons_zero, List.set_cons_succ, List.getD_cons_zero, List.getD_cons_succ, List.length_cons, List.length_nil, List.length_set, List.drop_succ_cons, List.drop_zero, List.take_succ_cons, List.take_zero, List.reverse_cons, List.reverse_nil, List.nil_append, List.cons_append, List.append_nil, List.map_cons, List.map_nil, List.sum_cons, List.sum_nil, Value.category, ne_eq, Nat.reduceEqDiff, reduceIte, ite_self, false_implies, true_implies, true_and, and_true, and_self, Nat.zero_le, Nat.le_refl, Nat.reduceLeDiff, Nat.reduceAdd, Nat.reduceLT, Nat.add_zero, Nat.zero_add, pu_eq, not_false_eq_true, not_true_eq_false, forall_const, if_true, if_false, implies_true, pRetK, X2.o, pb1, T2, pb, pb2, P2b]
    refine ⟨rfl, rfl, rfl, rfl, ?_⟩
    refine c_X4_compiled' (cs := encL q.2) (ln := q.2.length) ((pu_ne (by omega)).trans ((pu_ne (by omega)).trans P2b)) ((pu_ne (by omega)).trans ((pu_ne (by omega)).trans P2c)) P2d (by omega) (by omega) (fun h3 g3 F3 L3 E3 S3 => ?_)
    have o3 : h3 x = _ := (F3 x (by omega) (by omega) (by omega)).trans X3.o
    have a3 : h3 (x + 6) = _ := (F3 (x + 6) (by omega) (by omega) (by omega)).trans X3.ax.f0
    have pb5 : ∀ c : PC, pu h3 (x + 6) c x = h3 x := fun c => pu_ne (by omega)
    have n2 : fits (.object "ScarArmy$Law") (.ref n) = true := rfl
    have F4 : ∀ q', q' ≠ x + 6 → q' < n → (pu h3 (x + 6 + 0) (AC (x + 6) (K 0).1 (some n) 0)) q' = (pu (pu h2 x (.inr (11, [.ref (x + 1), .ref (x + 3), .ref (x + 4), .ref (x + 6), .ref (x + 26), .ref (x + 46), .ref (x + 66), .ref (x + 308), .int im, .int (-1)]))) (x + 1) (.inr (10, [.int 0, .int (nI q.1), .int (dgI f L q.1), .int v2, .int (nI (tkE f L q.1)), .ref (x + 1 + 1)]))) q' := fun q' q1 q2 => (pu_ne (by omega)).trans (F3 q' (by omega) (by omega) (by omega))
    have H4 : ∃ f, AA (pu h3 (x + 6 + 0) (AC (x + 6) (K 0).1 (some n) 0)) (x + 6) (rs (K 0).1 19 f) (some n) := by
      obtain ⟨f3, H3⟩ := X3.ax.aa
      refine ⟨f3, ?_⟩
      have : AA h3 (x + 6) (rs (K 0).1 19 f3) (K 0).2.1 := H3.tr (fun i hi => F3 _ (by omega) (by omega) (by omega))
      exact this.put 0 (fun j hj e => AC_law hj e)
    have Z4 : LX (pu h3 (x + 6 + 0) (AC (x + 6) (K 0).1 (some n) 0)) (x + 6) (some n) (some q.2) := by
      refine ⟨by omega, ⟨g3, ⟨(pu_ne (by omega)).trans L3.1, (pu_ne (by omega)).trans L3.2⟩, E3⟩, ?_, by omega, by omega, fun l hl => (tt l hl).ok⟩
      obtain ⟨f3, S3⟩ := S3
      exact ⟨f3, (pu_ne (by omega)).trans S3⟩
    obtain ⟨X4, G4⟩ := X3.law F4 H4 Z4
    simp only [i_const, i_load, i_aload, i_store, i_astore, i_inc, i_iadd, i_isub, i_imul, i_idiv, i_irem, i_iand, i_ior, i_ixor, i_ishl, i_ishr, i_iushr, i_ineg, i_i2l, i_i2b, i_i2c, i_lcmp, i_dup, i_dup2, i_pop, i_null, i_alen, i_iald, i_bald, i_lald, i_aald, i_iast, i_bast, i_last, i_aast, i_goto, i_icmp_eq, i_icmp_ne, i_icmp_lt, i_icmp_ge, i_icmp_gt, i_icmp_le, i_if_eq, i_if_ne, i_if_lt, i_if_ge, i_if_gt, i_if_le, i_ifnonnull, i_getf, i_putf, i_iret, i_zret, i_aret, i_vret, i_new, i_newa, i_anew, i_oinit, i_callv, i_calls, i_calli, i_max, i_min, i_abs, i_copy, i_throw, i_ldcs, pwt, List.getElem?_cons_zero, List.getElem?_cons_succ, List.set_cons_zero, List.set_cons_succ, List.getD_cons_zero, List.getD_cons_succ, List.length_cons, List.length_nil, List.length_set, List.drop_succ_cons, List.drop_zero, List.take_succ_cons, List.take_zero, List.reverse_cons, List.reverse_nil, List.nil_append, List.cons_append, List.append_nil, List.map_cons, List.map_nil, List.sum_cons, List.sum_nil, Value.category, ne_eq, Nat.reduceEqDiff, reduceIte, ite_self, false_implies, true_implies, true_and, and_true, and_self, Nat.zero_le, Nat.le_refl, Nat.reduceLeDiff, Nat.reduceAdd, Nat.reduceLT, Nat.add_zero, Nat.zero_add, pu_eq, not_false_eq_true, not_true_eq_false, forall_const, if_true, if_false, implies_true, pRetK, o3, a3, pb5, n2]
    refine ⟨rfl, ?_⟩
    have m4 := X4.mo
    have e4 : pu h3 (x + 6) (.inr (0, [.ref (x + 6 + 1), .ref (x + 6 + 5), .ref (x + 6 + 8), .ref (x + 6 + 17), .ref n, .int ((K 0).1 0 5), .int ((K 0).1 0 6), .int ((K 0).1 0 7), .ref (x + 6 + 19)])) (x + 66) = _ := m4
    simp only [i_const, i_load, i_aload, i_store, i_astore, i_inc, i_iadd, i_isub, i_imul, i_idiv, i_irem, i_iand, i_ior, i_ixor, i_ishl, i_ishr, i_iushr, i_ineg, i_i2l, i_i2b, i_i2c, i_lcmp, i_dup, i_dup2, i_pop, i_null, i_alen, i_iald, i_bald, i_lald, i_aald, i_iast, i_bast, i_last, i_aast, i_goto, i_icmp_eq, i_icmp_ne, i_icmp_lt, i_icmp_ge, i_icmp_gt, i_icmp_le, i_if_eq, i_if_ne, i_if_lt, i_if_ge, i_if_gt, i_if_le, i_ifnonnull, i_getf, i_putf, i_iret, i_zret, i_aret, i_vret, i_new, i_newa, i_anew, i_oinit, i_callv, i_calls, i_calli, i_max, i_min, i_abs, i_copy, i_throw, i_ldcs, pwt, List.getElem?_cons_zero, List.getElem?_cons_succ, List.set_cons_zero, List.set_cons_succ, List.getD_cons_zero, List.getD_cons_succ, List.length_cons, List.length_nil, List.length_set, List.drop_succ_cons, List.drop_zero, List.take_succ_cons, List.take_zero, List.reverse_cons, List.reverse_nil, List.nil_append, List.cons_append, List.append_nil, List.map_cons, List.map_nil, List.sum_cons, List.sum_nil, Value.category, ne_eq, Nat.reduceEqDiff, reduceIte, ite_self, false_implies, true_implies, true_and, and_true, and_self, Nat.zero_le, Nat.le_refl, Nat.reduceLeDiff, Nat.reduceAdd, Nat.reduceLT, Nat.add_zero, Nat.zero_add, pu_eq, not_false_eq_true, not_true_eq_false, forall_const, if_true, if_false, implies_true, e4]
    refine c_X6_forget X4 (fun h5 X5 G5 => ?_)
    have a5 := X5.ax.f0
    rw [uK_eq] at a5
    have z5 := X5.ax.2
    rw [uK_eq] at z5
    obtain ⟨-, ⟨g5, x5, -⟩, -⟩ := z5
    simp only [i_const, i_load, i_aload, i_store, i_astore, i_inc, i_iadd, i_isub, i_imul, i_idiv, i_irem, i_iand, i_ior, i_ixor, i_ishl, i_ishr, i_iushr, i_ineg, i_i2l, i_i2b, i_i2c, i_lcmp, i_dup, i_dup2, i_pop, i_null, i_alen, i_iald, i_bald, i_lald, i_aald, i_iast, i_bast, i_last, i_aast, i_goto, i_icmp_eq, i_icmp_ne, i_icmp_lt, i_icmp_ge, i_icmp_gt, i_icmp_le, i_if_eq, i_if_ne, i_if_lt, i_if_ge, i_if_gt, i_if_le, i_ifnonnull, i_getf, i_putf, i_iret, i_zret, i_aret, i_vret, i_new, i_newa, i_anew, i_oinit, i_callv, i_calls, i_calli, i_max, i_min, i_abs, i_copy, i_throw, i_ldcs, pwt, List.getElem?_cons_zero, List.getElem?_cons_succ, List.set_cons_zero, List.set_cons_succ, List.getD_cons_zero, List.getD_cons_succ, List.length_cons, List.length_nil, List.length_set, List.drop_succ_cons, List.drop_zero, List.take_succ_cons, List.take_zero, List.reverse_cons, List.reverse_nil, List.nil_append, List.cons_append, List.append_nil, List.map_cons, List.map_nil, List.sum_cons, List.sum_nil, Value.category, ne_eq, Nat.reduceEqDiff, reduceIte, ite_self, false_implies, true_implies, true_and, and_true, and_self, Nat.zero_le, Nat.le_refl, Nat.reduceLeDiff, Nat.reduceAdd, Nat.reduceLT, Nat.add_zero, Nat.zero_add, pu_eq, not_false_eq_true, not_true_eq_false, forall_const, if_true, if_false, implies_true, pRetK, X5.o, a5, va_rf, x5.1]
    exact hQ1 q hp _ X5 (((G2.tr G3).tr G4).tr G5)
def emI (r : AR) (f : Nat → Int32) (e : Nat) : Int32 := meS r (cl r 8 0) f e
theorem c_X11_enemies {y : Int32} (X : CX h x B n L f K sz nx im wb)
    (hQ0 : ¬ (hrOK f L = true ∧ (y = -1 ∨ ix y (L / 2))) → ∀ h' n', n ≤ n' → CX h' x B n' 0 f K sz nx im wb → FC x B h h' → Q (.inr xIA) h' n')
    (hQ1 : hrOK f L = true → y = -1 → ∀ h', CX h' x B n 0 f K sz nx im wb → FC x B h h' → Q (.inl (some (.int (nI (dpN (emI (K 0).1 f) (L / 2) S10))))) h' n)
    (hQ2 : hrOK f L = true → ∀ i, i < L / 2 → y = nI i → ∀ h', CX h' x B n 0 f K sz nx im wb → FC x B h h' → Q (.inl (some (.int (emI (K 0).1 f i)))) h' n) : pCall E M_X11_enemies (d + 13) [.ref x, .int y] h n Q := by
  refine pCall_of rfl rfl (Nat.le_of_ble_eq_true rfl) (by simp [Value.category]) ?_
  refine b_X11_enemies_0 _ _ _ ?_
  simp only [pEntry, PM.nL, M_X11_enemies, List.map_cons, List.map_nil, List.length_cons, List.length_nil, Nat.reduceAdd, Nat.reduceSub, Nat.sub_self, List.replicate_succ, List.replicate_zero, List.cons_append, List.nil_append]
  have W := X.wa
  have hb := X.bd
  have hl4 := X.l4
  obtain ⟨b, z, v, e, T⟩ := X.tp
  obtain ⟨g, S⟩ := X.se
  simp only [i_const, i_load, i_aload, i_store, i_astore, i_inc, i_iadd, i_isub, i_imul, i_idiv, i_irem, i_iand, i_ior, i_ixor, i_ishl, i_ishr, i_iushr, i_ineg, i_i2l, i_i2b, i_i2c, i_lcmp, i_dup, i_dup2, i_pop, i_null, i_alen, i_iald, i_bald, i_lald, i_aald, i_iast, i_bast, i_last, i_aast, i_goto, i_icmp_eq, i_icmp_ne, i_icmp_lt, i_icmp_ge, i_icmp_gt, i_icmp_le, i_if_eq, i_if_ne, i_if_lt, i_if_ge, i_if_gt, i_if_le, i_ifnonnull, i_getf, i_putf, i_iret, i_zret, i_aret, i_vret, i_new, i_newa, i_anew, i_oinit, i_callv, i_calls, i_calli, i_max, i_min, i_abs, i_copy, i_throw, i_ldcs, pwt, List.getElem?_cons_zero, List.getElem?_cons_succ, List.set_cons_zero, List.set_cons_succ, List.getD_cons_zero, List.getD_cons_succ, List.length_cons, List.length_nil, List.length_set, List.drop_succ_cons, List.drop_zero, List.take_succ_cons, List.take_zero, List.reverse_cons, List.reverse_nil, List.nil_append, List.cons_append, List.append_nil, List.map_cons, List.map_nil, List.sum_cons, List.sum_nil, Value.category, ne_eq, Nat.reduceEqDiff, reduceIte, ite_self, false_implies, true_implies, true_and, and_true, and_self, Nat.zero_le, Nat.le_refl, Nat.reduceLeDiff, Nat.reduceAdd, Nat.reduceLT, Nat.add_zero, Nat.zero_add, pu_eq, not_false_eq_true, not_true_eq_false, forall_const, if_true, if_false, implies_true, X.o, S.f0]
  refine c_X9_hear X.ax S X.dj T hl4 (by omega) W.hs W.s24 (fun h1 g1 Y1 S1 F1 hg => ?_)
  obtain ⟨X1, G1⟩ := X.sch Y1 S1 F1.fq
  have T1 : TR h1 (x + 1) L b z v e f := ⟨(F1 _ (by omega)).trans T.1, (F1 _ (by omega)).trans T.2⟩
  have pb : ∀ c : PC, ∀ hh : PH, pu hh (x + 1) c x = hh x := fun c hh => pu_ne (by omega)
  have pb2 : ∀ c : PC, ∀ hh : PH, pu hh (x + 1) c (x + 308) = hh (x + 308) := fun c hh => pu_ne (by omega)
  have pb3 : ∀ c : PC, ∀ hh : PH, pu hh (x + 1) c (x + 308 + 1) = hh (x + 308 + 1) := fun c hh => pu_ne (by omega)
  obtain ⟨X2, G2⟩ := X1.pt (fun q z1 z2 => pu_ne z1) (T1.put (L' := 0) (b' := b) (z' := z) (v' := v) (e' := e)) (by decide)
  have G := G1.tr G2
  by_cases c : hrOK f L = true
  · have hL2 : L / 2 ≤ 10 := by
      unfold hrOK at c
      rw [Bool.and_eq_true, Bool.and_eq_true] at c
      exact of_decide_eq_true c.1.2
    have ne1 : ¬ nI (L / 2) = -1 := neg1 (by omega)
    rw [if_pos c]
    by_cases c1 : y < -1
    · simp only [i_const, i_load, i_aload, i_store, i_astore, i_inc, i_iadd, i_isub, i_imul, i_idiv, i_irem, i_iand, i_ior, i_ixor, i_ishl, i_ishr, i_iushr, i_ineg, i_i2l, i_i2b, i_i2c, i_lcmp, i_dup, i_dup2, i_pop, i_null, i_alen, i_iald, i_bald, i_lald, i_aald, i_iast, i_bast, i_last, i_aast, i_goto, i_icmp_eq, i_icmp_ne, i_icmp_lt, i_icmp_ge, i_icmp_gt, i_icmp_le, i_if_eq, i_if_ne, i_if_lt, i_if_ge, i_if_gt, i_if_le, i_ifnonnull, i_getf, i_putf, i_iret, i_zret, i_aret, i_vret, i_new, i_newa, i_anew, i_oinit, i_callv, i_calls, i_calli, i_max, i_min, i_abs, i_copy, i_throw, i_ldcs, pwt, List.getElem?_cons_zero, List.getElem?_cons_succ, List.set_cons_zero, List.set_cons_succ, List.getD_cons_zero, List.getD_cons_succ, List.length_cons, List.length_nil, List.length_set, List.drop_succ_cons, List.drop_zero, List.take_succ_cons, List.take_zero, List.reverse_cons, List.reverse_nil, List.nil_append, List.cons_append, List.append_nil, List.map_cons, List.map_nil, List.sum_cons, List.sum_nil, Value.category, ne_eq, Nat.reduceEqDiff, reduceIte, ite_self, false_implies, true_implies, true_and, and_true, and_self, Nat.zero_le, Nat.le_refl, Nat.reduceLeDiff, Nat.reduceAdd, Nat.reduceLT, Nat.add_zero, Nat.zero_add, pu_eq, not_false_eq_true, not_true_eq_false, forall_const, if_true, if_false, implies_true, pRetK, X1.o, T1.1, ne1, c1]
      refine ⟨rfl, rfl, fun n' hn => hQ0 (fun q => ?_) _ n' hn (X2.grow hn) G⟩
      rcases q.2 with q | q
      · rw [q] at c1; exact absurd c1 (by decide)
      · exact ix_neg (m := L / 2) (by omega) (Int32.lt_trans c1 (by decide)) q
    · by_cases c2 : y < nI (L / 2)
      · by_cases c3 : y = -1
        · simp only [i_const, i_load, i_aload, i_store, i_astore, i_inc, i_iadd, i_isub, i_imul, i_idiv, i_irem, i_iand, i_ior, i_ixor, i_ishl, i_ishr, i_iushr, i_ineg, i_i2l, i_i2b, i_i2c, i_lcmp, i_dup, i_dup2, i_pop, i_null, i_alen, i_iald, i_bald, i_lald, i_aald, i_iast, i_bast, i_last, i_aast, i_goto, i_icmp_eq, i_icmp_ne, i_icmp_lt, i_icmp_ge, i_icmp_gt, i_icmp_le, i_if_eq, i_if_ne, i_if_lt, i_if_ge, i_if_gt, i_if_le, i_ifnonnull, i_getf, i_putf, i_iret, i_zret, i_aret, i_vret, i_new, i_newa, i_anew, i_oinit, i_callv, i_calls, i_calli, i_max, i_min, i_abs, i_copy, i_throw, i_ldcs, pwt, List.getElem?_cons_zero, List.getElem?_cons_succ, List.set_cons_zero, List.set_cons_succ, List.getD_cons_zero, List.getD_cons_succ, List.length_cons, List.length_nil, List.length_set, List.drop_succ_cons, List.drop_zero, List.take_succ_cons, List.take_zero, List.reverse_cons, List.reverse_nil, List.nil_append, List.cons_append, List.append_nil, List.map_cons, List.map_nil, List.sum_cons, List.sum_nil, Value.category, ne_eq, Nat.reduceEqDiff, reduceIte, ite_self, false_implies, true_implies, true_and, and_true, and_self, Nat.zero_le, Nat.le_refl, Nat.reduceLeDiff, Nat.reduceAdd, Nat.reduceLT, Nat.add_zero, Nat.zero_add, pu_eq, not_false_eq_true, not_true_eq_false, forall_const, if_true, if_false, implies_true, pRetK, X1.o, T1.1, ne1, c1, c2, c3, pb, pb2, S1.f0]
          have c2' : (-1 : Int32) < nI (L / 2) := by rw [← c3]; exact c2
          simp only [i_const, i_load, i_aload, i_store, i_astore, i_inc, i_iadd, i_isub, i_imul, i_idiv, i_irem, i_iand, i_ior, i_ixor, i_ishl, i_ishr, i_iushr, i_ineg, i_i2l, i_i2b, i_i2c, i_lcmp, i_dup, i_dup2, i_pop, i_null, i_alen, i_iald, i_bald, i_lald, i_aald, i_iast, i_bast, i_last, i_aast, i_goto, i_icmp_eq, i_icmp_ne, i_icmp_lt, i_icmp_ge, i_icmp_gt, i_icmp_le, i_if_eq, i_if_ne, i_if_lt, i_if_ge, i_if_gt, i_if_le, i_ifnonnull, i_getf, i_putf, i_iret, i_zret, i_aret, i_vret, i_new, i_newa, i_anew, i_oinit, i_callv, i_calls, i_calli, i_max, i_min, i_abs, i_copy, i_throw, i_ldcs, pwt, List.getElem?_cons_zero, List.getElem?_cons_succ, List.set_cons_zero, List.set_cons_succ, List.getD_cons_zero, List.getD_cons_succ, List.length_cons, List.length_nil, List.length_set, List.drop_succ_cons, List.drop_zero, List.take_succ_cons, List.take_zero, List.reverse_cons, List.reverse_nil, List.nil_append, List.cons_append, List.append_nil, List.map_cons, List.map_nil, List.sum_cons, List.sum_nil, Value.category, ne_eq, Nat.reduceEqDiff, reduceIte, ite_self, false_implies, true_implies, true_and, and_true, and_self, Nat.zero_le, Nat.le_refl, Nat.reduceLeDiff, Nat.reduceAdd, Nat.reduceLT, Nat.add_zero, Nat.zero_add, pu_eq, not_false_eq_true, not_true_eq_false, forall_const, if_true, if_false, implies_true, c2', show ¬ ((-1 : Int32) < -1) by decide]
          refine ⟨rfl, rfl, ?_⟩
          have S2 : SA (pu h1 (x + 1) (.inr (10, [.int 0, .int (nI b), .int z, .int v, .int (nI e), .ref (x + 1 + 1)]))) (x + 308) g1 := S1.tr (fun i hi => pu_ne (by omega))
          refine c_X9_mostRight (me := emI (K 0).1 f) S2 hL2 (fun i hi => hg c i hi) (fun h3 g3 S3 F3 => ?_)
          have Y3 : AX h3 (x + 6) (K 0).1 (K 0).2.1 (K 0).2.2 := F3.ax X2.dj X2.ax
          obtain ⟨X3, G3⟩ := X2.sch Y3 S3 F3.fq
          simp only [i_const, i_load, i_aload, i_store, i_astore, i_inc, i_iadd, i_isub, i_imul, i_idiv, i_irem, i_iand, i_ior, i_ixor, i_ishl, i_ishr, i_iushr, i_ineg, i_i2l, i_i2b, i_i2c, i_lcmp, i_dup, i_dup2, i_pop, i_null, i_alen, i_iald, i_bald, i_lald, i_aald, i_iast, i_bast, i_last, i_aast, i_goto, i_icmp_eq, i_icmp_ne, i_icmp_lt, i_icmp_ge, i_icmp_gt, i_icmp_le, i_if_eq, i_if_ne, i_if_lt, i_if_ge, i_if_gt, i_if_le, i_ifnonnull, i_getf, i_putf, i_iret, i_zret, i_aret, i_vret, i_new, i_newa, i_anew, i_oinit, i_callv, i_calls, i_calli, i_max, i_min, i_abs, i_copy, i_throw, i_ldcs, pwt, List.getElem?_cons_zero, List.getElem?_cons_succ, List.set_cons_zero, List.set_cons_succ, List.getD_cons_zero, List.getD_cons_succ, List.length_cons, List.length_nil, List.length_set, List.drop_succ_cons, List.drop_zero, List.take_succ_cons, List.take_zero, List.reverse_cons, List.reverse_nil, List.nil_append, List.cons_append, List.append_nil, List.map_cons, List.map_nil, List.sum_cons, List.sum_nil, Value.category, ne_eq, Nat.reduceEqDiff, reduceIte, ite_self, false_implies, true_implies, true_and, and_true, and_self, Nat.zero_le, Nat.le_refl, Nat.reduceLeDiff, Nat.reduceAdd, Nat.reduceLT, Nat.add_zero, Nat.zero_add, pu_eq, not_false_eq_true, not_true_eq_false, forall_const, if_true, if_false, implies_true, pRetK]
          exact hQ1 c c3 _ X3 (G.tr G3)
        · have hy : ix y (L / 2) := by
            refine ix_of (by omega) (fun q => ?_) c2
            have t1 := Int32.lt_iff_toInt_lt.mp q
            have t2 : ¬ y.toInt < (-1 : Int32).toInt := fun z => c1 (Int32.lt_iff_toInt_lt.mpr z)
            have t3 : y.toInt ≠ (-1 : Int32).toInt := fun z => c3 (Int32.toInt_inj.mp z)
            have e0 : (0 : Int32).toInt = 0 := rfl
            have e1 : (-1 : Int32).toInt = -1 := rfl
            rw [e0] at t1
            rw [e1] at t2 t3
            omega
          obtain ⟨i, hi, ei⟩ := hy
          have hR := hQ2 c i hi ei
          subst ei
          have v0 : vp_in (nI i) 10 := vp_in_nI (by omega) (by decide)
          have c0 : (nI i).toNatClampNeg = i := nI_clamp (by omega)
          simp only [i_const, i_load, i_aload, i_store, i_astore, i_inc, i_iadd, i_isub, i_imul, i_idiv, i_irem, i_iand, i_ior, i_ixor, i_ishl, i_ishr, i_iushr, i_ineg, i_i2l, i_i2b, i_i2c, i_lcmp, i_dup, i_dup2, i_pop, i_null, i_alen, i_iald, i_bald, i_lald, i_aald, i_iast, i_bast, i_last, i_aast, i_goto, i_icmp_eq, i_icmp_ne, i_icmp_lt, i_icmp_ge, i_icmp_gt, i_icmp_le, i_if_eq, i_if_ne, i_if_lt, i_if_ge, i_if_gt, i_if_le, i_ifnonnull, i_getf, i_putf, i_iret, i_zret, i_aret, i_vret, i_new, i_newa, i_anew, i_oinit, i_callv, i_calls, i_calli, i_max, i_min, i_abs, i_copy, i_throw, i_ldcs, pwt, List.getElem?_cons_zero, List.getElem?_cons_succ, List.set_cons_zero, List.set_cons_succ, List.getD_cons_zero, List.getD_cons_succ, List.length_cons, List.length_nil, List.length_set, List.drop_succ_cons, List.drop_zero, List.take_succ_cons, List.take_zero, List.reverse_cons, List.reverse_nil, List.nil_append, List.cons_append, List.append_nil, List.map_cons, List.map_nil, List.sum_cons, List.sum_nil, Value.category, ne_eq, Nat.reduceEqDiff, reduceIte, ite_self, false_implies, true_implies, true_and, and_true, and_self, Nat.zero_le, Nat.le_refl, Nat.reduceLeDiff, Nat.reduceAdd, Nat.reduceLT, Nat.add_zero, Nat.zero_add, pu_eq, not_false_eq_true, not_true_eq_false, forall_const, if_true, if_false, implies_true, pRetK, X1.o, T1.1, ne1, c1, c2, c3, pb, pb2, pb3, S1.f0, S1.f1, v0, c0, hg c i hi]
          exact ⟨rfl, rfl, hR _ X2 G⟩
      · simp only [i_const, i_load, i_aload, i_store, i_astore, i_inc, i_iadd, i_isub, i_imul, i_idiv, i_irem, i_iand, i_ior, i_ixor, i_ishl, i_ishr, i_iushr, i_ineg, i_i2l, i_i2b, i_i2c, i_lcmp, i_dup, i_dup2, i_pop, i_null, i_alen, i_iald, i_bald, i_lald, i_aald, i_iast, i_bast, i_last, i_aast, i_goto, i_icmp_eq, i_icmp_ne, i_icmp_lt, i_icmp_ge, i_icmp_gt, i_icmp_le, i_if_eq, i_if_ne, i_if_lt, i_if_ge, i_if_gt, i_if_le, i_ifnonnull, i_getf, i_putf, i_iret, i_zret, i_aret, i_vret, i_new, i_newa, i_anew, i_oinit, i_callv, i_calls, i_calli, i_max, i_min, i_abs, i_copy, i_throw, i_ldcs, pwt, List.getElem?_cons_zero, List.getElem?_cons_succ, List.set_cons_zero, List.set_cons_succ, List.getD_cons_zero, List.getD_cons_succ, List.length_cons, List.length_nil, List.length_set, List.drop_succ_cons, List.drop_zero, List.take_succ_cons, List.take_zero, List.reverse_cons, List.reverse_nil, List.nil_append, List.cons_append, List.append_nil, List.map_cons, List.map_nil, List.sum_cons, List.sum_nil, Value.category, ne_eq, Nat.reduceEqDiff, reduceIte, ite_self, false_implies, true_implies, true_and, and_true, and_self, Nat.zero_le, Nat.le_refl, Nat.reduceLeDiff, Nat.reduceAdd, Nat.reduceLT, Nat.add_zero, Nat.zero_add, pu_eq, not_false_eq_true, not_true_eq_false, forall_const, if_true, if_false, implies_true, pRetK, X1.o, T1.1, ne1, c1, c2]
        refine ⟨rfl, rfl, fun n' hn => hQ0 (fun q => ?_) _ n' hn (X2.grow hn) G⟩
        rcases q.2 with q | q
        · rw [q] at c2; exact c2 (Int32.lt_of_lt_of_le (show (-1 : Int32) < 0 by decide) (Int32.not_lt.mp (nI_pos (by omega))))
        · exact ix_big (m := L / 2) (by omega) c2 q
  · rw [if_neg c]
    simp only [i_const, i_load, i_aload, i_store, i_astore, i_inc, i_iadd, i_isub, i_imul, i_idiv, i_irem, i_iand, i_ior, i_ixor, i_ishl, i_ishr, i_iushr, i_ineg, i_i2l, i_i2b, i_i2c, i_lcmp, i_dup, i_dup2, i_pop, i_null, i_alen, i_iald, i_bald, i_lald, i_aald, i_iast, i_bast, i_last, i_aast, i_goto, i_icmp_eq, i_icmp_ne, i_icmp_lt, i_icmp_ge, i_icmp_gt, i_icmp_le, i_if_eq, i_if_ne, i_if_lt, i_if_ge, i_if_gt, i_if_le, i_ifnonnull, i_getf, i_putf, i_iret, i_zret, i_aret, i_vret, i_new, i_newa, i_anew, i_oinit, i_callv, i_calls, i_calli, i_max, i_min, i_abs, i_copy, i_throw, i_ldcs, pwt, List.getElem?_cons_zero, List.getElem?_cons_succ, List.set_cons_zero, List.set_cons_succ, List.getD_cons_zero, List.getD_cons_succ, List.length_cons, List.length_nil, List.length_set, List.drop_succ_cons, List.drop_zero, List.take_succ_cons, List.take_zero, List.reverse_cons, List.reverse_nil, List.nil_append, List.cons_append, List.append_nil, List.map_cons, List.map_nil, List.sum_cons, List.sum_nil, Value.category, ne_eq, Nat.reduceEqDiff, reduceIte, ite_self, false_implies, true_implies, true_and, and_true, and_self, Nat.zero_le, Nat.le_refl, Nat.reduceLeDiff, Nat.reduceAdd, Nat.reduceLT, Nat.add_zero, Nat.zero_add, pu_eq, not_false_eq_true, not_true_eq_false, forall_const, if_true, if_false, implies_true, pRetK, X1.o, T1.1]
    exact ⟨rfl, rfl, fun n' hn => hQ0 (fun q => c q.1) _ n' hn (X2.grow hn) G⟩
end FACE7

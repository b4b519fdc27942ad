/-! the class's face: texts and enemies -/
section FACE6
variable {E : PE} {M : PM} {d : Nat} {Q : PQ} {h h' : PH} {n n' : Nat} {a b s t x y L ln cnt B sz nx : Nat} {r rb g : AR} {lw lb : Option Nat} {C Cb : Option LawL} {pc : Nat} {f : Nat → Int32} {im wb : Int32} {K : KA}
theorem CX.grow (X : CX h x B n L f K sz nx im wb) (hn : n ≤ n') : CX h x B n' L f K sz nx im wb := by
  obtain ⟨h1, h2, h3, h4, h5, h6, h7, h8, h9, h10⟩ := X
  exact ⟨h1, h2, h3, h4, h5.grow hn, h6, h7, h8, h9, Nat.le_trans h10 hn⟩
/-- wrongByte and the tape's length -/
theorem CX.pow (X : CX h x B n L f K sz nx im wb) {b e : Nat} {z v : Int32} (T : TR h (x + 1) L b z v e f) (wb' : Int32) :
    CX (pu (pu h x (.inr (11, [.ref (x + 1), .ref (x + 3), .ref (x + 4), .ref (x + 6), .ref (x + 26), .ref (x + 46), .ref (x + 66), .ref (x + 308), .int im, .int wb']))) (x + 1) (.inr (10, [.int 0, .int (nI b), .int z, .int v, .int (nI e), .ref (x + 1 + 1)]))) x B n 0 f K sz nx im wb' ∧ FC x B h (pu (pu h x (.inr (11, [.ref (x + 1), .ref (x + 3), .ref (x + 4), .ref (x + 6), .ref (x + 26), .ref (x + 46), .ref (x + 66), .ref (x + 308), .int im, .int wb']))) (x + 1) (.inr (10, [.int 0, .int (nI b), .int z, .int v, .int (nI e), .ref (x + 1 + 1)]))) := by
  obtain ⟨X1, G1⟩ := X.po im wb'
  have T1 : TR (pu h x (.inr (11, [.ref (x + 1), .ref (x + 3), .ref (x + 4), .ref (x + 6), .ref (x + 26), .ref (x + 46), .ref (x + 66), .ref (x + 308), .int im, .int wb']))) (x + 1) L b z v e f := ⟨(pu_ne (by omega)).trans T.1, (pu_ne (by omega)).trans T.2⟩
  obtain ⟨X2, G2⟩ := X1.pt (fun q z1 z2 => pu_ne z1) (T1.put (L' := 0) (b' := b) (z' := z) (v' := v) (e' := e)) (by decide)
  exact ⟨X2, G1.tr G2⟩
theorem apC_07 (c : Cmd) : apC r c 0 7 = r 0 7 := by
  match c with
  | (0, x, y, z, q) => rfl
  | (1, x, q) => rfl
  | (2, p, w, b, dp, mn, be) => rfl
  | (3, s, k, q) => rfl
  | (4, k, q) => rfl
  | (5, k, q) => rfl
  | (t + 6, k, q) => rfl
theorem apL_07 : ∀ (cs : List Cmd) (r : AR), apL r cs 0 7 = r 0 7
  | [], _ => rfl
  | c :: cs, r => (apL_07 cs (apC r c)).trans (apC_07 c)
theorem WA.txt (W : WA r) {t : Nat} (ht : t < 13) : WA (ru r 0 7 (nI t)) :=
  ⟨⟨W.1.1, W.1.2.1, W.1.2.2.1, W.1.2.2.2.1, W.1.2.2.2.2.1, W.1.2.2.2.2.2.1, NB.of (show _ = nI t from rfl) ht (by decide)⟩, W.2.1, W.2.2.1, W.2.2.2.1, W.2.2.2.2.1, W.2.2.2.2.2.1, W.2.2.2.2.2.2⟩
theorem SM.cs3 {r r' : AR} (S : SM r r') : cl r' 1 0 = cl r 1 0 ∧ cl r' 5 0 = cl r 5 0 ∧ cl r' 8 0 = cl r 8 0 := ⟨cl_eq S.2.1, cl_eq S.2.2.2.1.1, cl_eq S.2.2.2.2.2.1⟩
/-- the parser's way through the texts -/
def arW (f : Nat → Int32) (L : Nat) (r : AR) : PR (List Cmd) := arP f L (cl r 1 0, cl r 5 0, cl r 8 0)
theorem c_X11_army (hE : EC E) (X : CX h x B n L f K sz nx im wb)
    (hQ0 : ∀ b, arW f L (K 0).1 = .inl b → ∀ h' n', n ≤ n' → CX h' x B n' 0 f K sz nx im (nI b) → FC x B h h' → Q (.inr xIA) h' n')
    (hQ2 : ∀ q, arW f L (K 0).1 = .inr q → cl (K 0).1 0 7 = 12 → ∀ h' n', n ≤ n' → CX h' x B n' 0 f K sz nx im (-1) → FC x B h h' → Q (.inr xUO) h' n')
    (hQ1 : ∀ q, arW f L (K 0).1 = .inr q → cl (K 0).1 0 7 < 12 → ∀ h' r1 r', SM (K 0).1 r1 → SM (ru (apL r1 q.2) 0 7 (nI (cl (K 0).1 0 7 + 1))) r' → WA (ru (apL r1 q.2) 0 7 (nI (cl (K 0).1 0 7 + 1))) → CX h' x B n 0 f (uK K 0 (r', (K 0).2)) 0 nx im (-1) → FC x B h h' → Q (.inl (some (.int (nI (cl (K 0).1 0 7 + 1))))) h' n) : pCall E M_X11_army (d + 9) [.ref x] h n Q := by
  refine pCall_of rfl rfl (Nat.le_of_ble_eq_true rfl) (by simp [Value.category]) ?_
  refine b_X11_army_0 _ _ _ ?_
  simp only [pEntry, PM.nL, M_X11_army, List.map_cons, List.map_nil, List.length_cons, List.length_nil, Nat.reduceAdd, Nat.reduceSub, Nat.sub_self, List.replicate_succ, List.replicate_zero, List.cons_append, List.nil_append]
  have W := X.wa
  have hb := X.bd
  obtain ⟨r0, l0, H0⟩ := X.dr
  simp only [i_const, i_load, i_aload, i_store, i_astore, i_inc, i_iadd, i_isub, i_imul, i_idiv, i_irem, i_iand, i_ior, i_ixor, i_ishl, i_ishr, i_iushr, i_ineg, i_i2l, i_i2b, i_i2c, i_lcmp, i_dup, i_dup2, i_pop, i_null, i_alen, i_iald, i_bald, i_lald, i_aald, i_iast, i_bast, i_last, i_aast, i_goto, i_icmp_eq, i_icmp_ne, i_icmp_lt, i_icmp_ge, i_icmp_gt, i_icmp_le, i_if_eq, i_if_ne, i_if_lt, i_if_ge, i_if_gt, i_if_le, i_ifnonnull, i_getf, i_putf, i_iret, i_zret, i_aret, i_vret, i_new, i_newa, i_anew, i_oinit, i_callv, i_calls, i_calli, i_max, i_min, i_abs, i_copy, i_throw, i_ldcs, pwt, List.getElem?_cons_zero, List.getElem?_cons_succ, List.set_cons_zero, List.set_cons_succ, List.getD_cons_zero, List.getD_cons_succ, List.length_cons, List.length_nil, List.length_set, List.drop_succ_cons, List.drop_zero, List.take_succ_cons, List.take_zero, List.reverse_cons, List.reverse_nil, List.nil_append, List.cons_append, List.append_nil, List.map_cons, List.map_nil, List.sum_cons, List.sum_nil, Value.category, ne_eq, Nat.reduceEqDiff, reduceIte, ite_self, false_implies, true_implies, true_and, and_true, and_self, Nat.zero_le, Nat.le_refl, Nat.reduceLeDiff, Nat.reduceAdd, Nat.reduceLT, Nat.add_zero, Nat.zero_add, pu_eq, not_false_eq_true, not_true_eq_false, forall_const, if_true, if_false, implies_true, X.o, H0.f0]
  refine c_X0_copyFrom H0 X.ax W (by omega) (fun h1 r1 H1 F1 S1 => ?_)
  have Y1 := X.toD H1 F1
  obtain ⟨X1, G1⟩ := X.dd Y1 F1.fx
  obtain ⟨b, z, v, e, T⟩ := X1.tp
  obtain ⟨c1, c2, c3⟩ := S1.cs3
  have W1 := W.sm S1
  have cn := W1.cn
  rw [c1, c2, c3] at cn
  simp only [i_const, i_load, i_aload, i_store, i_astore, i_inc, i_iadd, i_isub, i_imul, i_idiv, i_irem, i_iand, i_ior, i_ixor, i_ishl, i_ishr, i_iushr, i_ineg, i_i2l, i_i2b, i_i2c, i_lcmp, i_dup, i_dup2, i_pop, i_null, i_alen, i_iald, i_bald, i_lald, i_aald, i_iast, i_bast, i_last, i_aast, i_goto, i_icmp_eq, i_icmp_ne, i_icmp_lt, i_icmp_ge, i_icmp_gt, i_icmp_le, i_if_eq, i_if_ne, i_if_lt, i_if_ge, i_if_gt, i_if_le, i_ifnonnull, i_getf, i_putf, i_iret, i_zret, i_aret, i_vret, i_new, i_newa, i_anew, i_oinit, i_callv, i_calls, i_calli, i_max, i_min, i_abs, i_copy, i_throw, i_ldcs, pwt, List.getElem?_cons_zero, List.getElem?_cons_succ, List.set_cons_zero, List.set_cons_succ, List.getD_cons_zero, List.getD_cons_succ, List.length_cons, List.length_nil, List.length_set, List.drop_succ_cons, List.drop_zero, List.take_succ_cons, List.take_zero, List.reverse_cons, List.reverse_nil, List.nil_append, List.cons_append, List.append_nil, List.map_cons, List.map_nil, List.sum_cons, List.sum_nil, Value.category, ne_eq, Nat.reduceEqDiff, reduceIte, ite_self, false_implies, true_implies, true_and, and_true, and_self, Nat.zero_le, Nat.le_refl, Nat.reduceLeDiff, Nat.reduceAdd, Nat.reduceLT, Nat.add_zero, Nat.zero_add, pu_eq, not_false_eq_true, not_true_eq_false, forall_const, if_true, if_false, implies_true, pRetK, X1.o, X1.at1]
  have hlw : ∀ q, q < B → ∀ L', (K 0).2.1 = some L' → q ≠ L' + 2 := fun q hq L' e => X.lne (k := 0) (by decide) hq e
  have side : ∀ h2, FP (x + 1) (x + 46) h1 h2 → (∃ r lw, AA h2 (x + 46) r lw) → ∀ b' z' v' e', TR h2 (x + 1) L b' z' v' e' f → CX h2 x B n L f K sz nx im wb ∧ FC x B h1 h2 := by
    intro h2 F2 D2 b' z' v' e' T2
    have A : ∀ q, q ≠ x + 1 → (q < x + 46 ∨ x + 66 ≤ q) → h2 q = h1 q := fun q q1 q2 => F2 q q1 (by omega)
    refine ⟨⟨(A _ (by omega) (by omega)).trans X1.o, ⟨⟨_, _, _, _, T2⟩, X1.l4⟩, (A _ (by omega) (by omega)).trans X1.at1, ?_, ?_, D2, ⟨(A _ (by omega) (by omega)).trans X1.mo, ?_, X1.s12, X1.n12⟩, ?_, hb, X1.bn⟩, fun q q1 q2 => A q (by omega) (by omega)⟩
    · obtain ⟨s0, l0, g0, p1, p2⟩ := X1.lt4
      exact ⟨s0, l0, g0, (A _ (by omega) (by omega)).trans p1, (A _ (by omega) (by omega)).trans p2⟩
    · have Z := X1.ca.gen (h' := h2) 14 none (fun L' e => by cases e) (fun k hk c i hi => by
        have := kAd_in (x := x) hk
        exact A _ (by omega) (by omega)) (fun q q1 q2 q3 => A q (by omega) (by omega)) (K 0) (fun q => absurd q (by decide))
      exact Z.cong (fun k hk => (uK_ne (by omega)).symm)
    · obtain ⟨fn, m1, m2⟩ := X1.ma
      exact ⟨fn, (A _ (by omega) (by omega)).trans m1, m2⟩
    · obtain ⟨g1, Hg⟩ := X1.se
      exact ⟨g1, Hg.tr (fun i hi => A _ (by omega) (by omega))⟩
  refine c_X1_read hE H1 T X1.at1 ⟨by omega, by omega, by omega, by omega⟩ X1.l4 cn ?_
  cases hp : arP f L (cl (K 0).1 1 0, cl (K 0).1 5 0, cl (K 0).1 8 0) with
  | inl bb =>
    intro h2 r2 v2 P2 F2
    obtain ⟨X2, G2⟩ := side h2 F2 ⟨_, _, P2.1⟩ _ _ _ _ P2.2.1
    have pb : ∀ c : PC, ∀ hh : PH, pu hh (x + 1) c x = hh x := fun c hh => pu_ne (by omega)
    have pb1 : ∀ c : PC, pu h2 x c (x + 1) = h2 (x + 1) := fun c => pu_ne (by omega)
    have T2 := P2.2.1.1
    have ne1 : ¬ nI bb = -1 := by
      have hbb : bb ≤ L := by
        have : arP f L (cl (K 0).1 1 0, cl (K 0).1 5 0, cl (K 0).1 8 0) = .inl bb := hp
        exact arP_le this
      exact neg1 (by have := X.l4; omega)
    simp only [i_const, i_load, i_aload, i_store, i_astore, i_inc, i_iadd, i_isub, i_imul, i_idiv, i_irem, i_iand, i_ior, i_ixor, i_ishl, i_ishr, i_iushr, i_ineg, i_i2l, i_i2b, i_i2c, i_lcmp, i_dup, i_dup2, i_pop, i_null, i_alen, i_iald, i_bald, i_lald, i_aald, i_iast, i_bast, i_last, i_aast, i_goto, i_icmp_eq, i_icmp_ne, i_icmp_lt, i_icmp_ge, i_icmp_gt, i_icmp_le, i_if_eq, i_if_ne, i_if_lt, i_if_ge, i_if_gt, i_if_le, i_ifnonnull, i_getf, i_putf, i_iret, i_zret, i_aret, i_vret, i_new, i_newa, i_anew, i_oinit, i_callv, i_calls, i_calli, i_max, i_min, i_abs, i_copy, i_throw, i_ldcs, pwt, List.getElem?_cons_zero, List.getElem?_cons_succ, List.set_cons_zero, List.set_cons_succ, List.getD_cons_zero, List.getD_cons_succ, List.length_cons, List.length_nil, List.length_set, List.drop_succ_cons, List.drop_zero, List.take_succ_cons, List.take_zero, List.reverse_cons, List.reverse_nil, List.nil_append, List.cons_append, List.append_nil, List.map_cons, List.map_nil, List.sum_cons, List.sum_nil, Value.category, ne_eq, Nat.reduceEqDiff, reduceIte, ite_self, false_implies, true_implies, true_and, and_true, and_self, Nat.zero_le, Nat.le_refl, Nat.reduceLeDiff, Nat.reduceAdd, Nat.reduceLT, Nat.add_zero, Nat.zero_add, pu_eq, not_false_eq_true, not_true_eq_false, forall_const, if_true, if_false, implies_true, pRetK, X2.o, pb1, T2, pb, ne1]
    refine ⟨rfl, rfl, rfl, rfl, ?_⟩
    obtain ⟨X3, G3⟩ := X2.pow P2.2.1 (nI bb)
    exact fun n' hn => hQ0 bb hp _ n' hn (X3.grow hn) ((G1.tr G2).tr G3)
  | inr q =>
    intro h2 v2 P2 F2
    obtain ⟨X2, G2⟩ := side h2 F2 ⟨_, _, P2.1⟩ _ _ _ _ P2.2.1
    have pb : ∀ c : PC, ∀ hh : PH, pu hh (x + 1) c x = hh x := fun c hh => pu_ne (by omega)
    have pb1 : ∀ c : PC, pu h2 x c (x + 1) = h2 (x + 1) := fun c => pu_ne (by omega)
    have pb2 : ∀ c c' : PC, pu (pu h2 x c) (x + 1) c' (x + 6) = h2 (x + 6) := fun c c' => (pu_ne (by omega)).trans (pu_ne (by omega))
    have pb3 : ∀ c c' : PC, pu (pu h2 x c) (x + 1) c' (x + 46) = h2 (x + 46) := fun c c' => (pu_ne (by omega)).trans (pu_ne (by omega))
    have T2 := P2.2.1.1
    obtain ⟨X3, G3⟩ := X2.pow P2.2.1 (-1)
    have a0 := X2.ax.f0
    have d0 := P2.1.f0
    have t7 := W.1.2.2.2.2.2.2
    simp only [i_const, i_load, i_aload, i_store, i_astore, i_inc, i_iadd, i_isub, i_imul, i_idiv, i_irem, i_iand, i_ior, i_ixor, i_ishl, i_ishr, i_iushr, i_ineg, i_i2l, i_i2b, i_i2c, i_lcmp, i_dup, i_dup2, i_pop, i_null, i_alen, i_iald, i_bald, i_lald, i_aald, i_iast, i_bast, i_last, i_aast, i_goto, i_icmp_eq, i_icmp_ne, i_icmp_lt, i_icmp_ge, i_icmp_gt, i_icmp_le, i_if_eq, i_if_ne, i_if_lt, i_if_ge, i_if_gt, i_if_le, i_ifnonnull, i_getf, i_putf, i_iret, i_zret, i_aret, i_vret, i_new, i_newa, i_anew, i_oinit, i_callv, i_calls, i_calli, i_max, i_min, i_abs, i_copy, i_throw, i_ldcs, pwt, List.getElem?_cons_zero, List.getElem?_cons_succ, List.set_cons_zero, List.set_cons_succ, List.getD_cons_zero, List.getD_cons_succ, List.length_cons, List.length_nil, List.length_set, List.drop_succ_cons, List.drop_zero, List.take_succ_cons, List.take_zero, List.reverse_cons, List.reverse_nil, List.nil_append, List.cons_append, List.append_nil, List.map_cons, List.map_nil, List.sum_cons, List.sum_nil, Value.category, ne_eq, Nat.reduceEqDiff, reduceIte, ite_self, false_implies, true_implies, true_and, and_true, and_self, Nat.zero_le, Nat.le_refl, Nat.reduceLeDiff, Nat.reduceAdd, Nat.reduceLT, Nat.add_zero, Nat.zero_add, pu_eq, not_false_eq_true, not_true_eq_false, forall_const, if_true, if_false, implies_true, pRetK, X2.o, pb1, T2, pb, pb2, a0]
    refine ⟨rfl, rfl, rfl, rfl, fun c7 => ?_, fun c7 => ?_⟩
    · have l7 : cl (K 0).1 0 7 < 12 := by
        by_cases c : cl (K 0).1 0 7 < 12
        · exact c
        · rw [t7.1] at c7
          exact absurd c7 (nI_nlt (b := 12) (by omega) (by have := t7.2; omega))
      have pb4 : ∀ c : PC, ∀ hh : PH, pu hh (x + 46) c (x + 6) = hh (x + 6) := fun c hh => pu_ne (by omega)
      simp only [i_const, i_load, i_aload, i_store, i_astore, i_inc, i_iadd, i_isub, i_imul, i_idiv, i_irem, i_iand, i_ior, i_ixor, i_ishl, i_ishr, i_iushr, i_ineg, i_i2l, i_i2b, i_i2c, i_lcmp, i_dup, i_dup2, i_pop, i_null, i_alen, i_iald, i_bald, i_lald, i_aald, i_iast, i_bast, i_last, i_aast, i_goto, i_icmp_eq, i_icmp_ne, i_icmp_lt, i_icmp_ge, i_icmp_gt, i_icmp_le, i_if_eq, i_if_ne, i_if_lt, i_if_ge, i_if_gt, i_if_le, i_ifnonnull, i_getf, i_putf, i_iret, i_zret, i_aret, i_vret, i_new, i_newa, i_anew, i_oinit, i_callv, i_calls, i_calli, i_max, i_min, i_abs, i_copy, i_throw, i_ldcs, pwt, List.getElem?_cons_zero, List.getElem?_cons_succ, List.set_cons_zero, List.set_cons_succ, List.getD_cons_zero, List.getD_cons_succ, List.length_cons, List.length_nil, List.length_set, List.drop_succ_cons, List.drop_zero, List.take_succ_cons, List.take_zero, List.reverse_cons, List.reverse_nil, List.nil_append, List.cons_append, List.append_nil, List.map_cons, List.map_nil, List.sum_cons, List.sum_nil, Value.category, ne_eq, Nat.reduceEqDiff, reduceIte, ite_self, false_implies, true_implies, true_and, and_true, and_self, Nat.zero_le, Nat.le_refl, Nat.reduceLeDiff, Nat.reduceAdd, Nat.reduceLT, Nat.add_zero, Nat.zero_add, pu_eq, not_false_eq_true, not_true_eq_false, forall_const, if_true, if_false, implies_true, pb3, d0, pu_ne (show x ≠ x + 46 by omega), X2.o, pb, pb4, pb2, a0]
      have e7 : apL r1 q.2 0 7 + 1 = nI (cl (K 0).1 0 7 + 1) := by
        rw [apL_07, S1.1.2.2, t7.1]
        exact nI_1 _
      rw [e7]
      have arw : arP f L (cl r1 1 0, cl r1 5 0, cl r1 8 0) = .inr q := by rw [c1, c2, c3]; exact hp
      have W2 : WA (ru (apL r1 q.2) 0 7 (nI (cl (K 0).1 0 7 + 1))) := (arP_wa W1 arw).txt (by omega)
      have Dr : AA (pu (pu h2 x (.inr (11, [.ref (x + 1), .ref (x + 3), .ref (x + 4), .ref (x + 6), .ref (x + 26), .ref (x + 46), .ref (x + 66), .ref (x + 308), .int im, .int (-1)]))) (x + 1) (.inr (10, [.int 0, .int (nI q.1), .int (dgI f L q.1), .int v2, .int (nI (tkE f L q.1)), .ref (x + 1 + 1)]))) (x + 46) (apL r1 q.2) (K 0).2.1 := P2.1.tr (fun i hi => (pu_ne (by omega)).trans (pu_ne (by omega)))
      have F4 : FR (x + 46) (pu (pu h2 x (.inr (11, [.ref (x + 1), .ref (x + 3), .ref (x + 4), .ref (x + 6), .ref (x + 26), .ref (x + 46), .ref (x + 66), .ref (x + 308), .int im, .int (-1)]))) (x + 1) (.inr (10, [.int 0, .int (nI q.1), .int (dgI f L q.1), .int v2, .int (nI (tkE f L q.1)), .ref (x + 1 + 1)]))) _ := FR.rf.pu (k := 0) (c := AC (x + 46) (ru (apL r1 q.2) 0 7 (nI (cl (K 0).1 0 7 + 1))) (K 0).2.1 0) (by decide)
      have H4 := Dr.ru 0 7 (nI (cl (K 0).1 0 7 + 1))
      have Y4 := X3.toD H4 F4
      obtain ⟨X4, G4⟩ := X3.dd Y4 F4.fx
      obtain ⟨fA, HA⟩ := X4.ax.aa
      refine ⟨rfl, rfl, ?_⟩
      refine c_X0_copyFrom HA Y4 W2 (by omega) (fun h5 r5 H5 F5 S5 => ?_)
      have Y5 : AX h5 (x + 6) r5 (K 0).2.1 (K 0).2.2 := by
        refine AX.mk (LX.fr (LX.at Y4.2 (fun L' e => ?_)) F5) H5 E9.rf
        have := (X.lbd e).1
        omega
      obtain ⟨X5, G5⟩ := X4.now Y5 (W2.sm S5) F5.fx
      simp only [i_const, i_load, i_aload, i_store, i_astore, i_inc, i_iadd, i_isub, i_imul, i_idiv, i_irem, i_iand, i_ior, i_ixor, i_ishl, i_ishr, i_iushr, i_ineg, i_i2l, i_i2b, i_i2c, i_lcmp, i_dup, i_dup2, i_pop, i_null, i_alen, i_iald, i_bald, i_lald, i_aald, i_iast, i_bast, i_last, i_aast, i_goto, i_icmp_eq, i_icmp_ne, i_icmp_lt, i_icmp_ge, i_icmp_gt, i_icmp_le, i_if_eq, i_if_ne, i_if_lt, i_if_ge, i_if_gt, i_if_le, i_ifnonnull, i_getf, i_putf, i_iret, i_zret, i_aret, i_vret, i_new, i_newa, i_anew, i_oinit, i_callv, i_calls, i_calli, i_max, i_min, i_abs, i_copy, i_throw, i_ldcs, pwt, List.getElem?_cons_zero, List.getElem?_cons_succ, List.set_cons_zero, List.set_cons_succ, List.getD_cons_zero, List.getD_cons_succ, List.length_cons, List.length_nil, List.length_set, List.drop_succ_cons, List.drop_zero, List.take_succ_cons, List.take_zero, List.reverse_cons, List.reverse_nil, List.nil_append, List.cons_append, List.append_nil, List.map_cons, List.map_nil, List.sum_cons, List.sum_nil, Value.category, ne_eq, Nat.reduceEqDiff, reduceIte, ite_self, false_implies, true_implies, true_and, and_true, and_self, Nat.zero_le, Nat.le_refl, Nat.reduceLeDiff, Nat.reduceAdd, Nat.reduceLT, Nat.add_zero, Nat.zero_add, pu_eq, not_false_eq_true, not_true_eq_false, forall_const, if_true, if_false, implies_true, pRetK, X5.o, X5.mo]
      refine c_X6_forget X5 (fun h6 X6 G6 => ?_)
      have a6 := X6.ax.f0
      rw [uK_eq] at a6
      simp only [i_const, i_load, i_aload, i_store, i_astore, i_inc, i_iadd, i_isub, i_imul, i_idiv, i_irem, i_iand, i_ior, i_ixor, i_ishl, i_ishr, i_iushr, i_ineg, i_i2l, i_i2b, i_i2c, i_lcmp, i_dup, i_dup2, i_pop, i_null, i_alen, i_iald, i_bald, i_lald, i_aald, i_iast, i_bast, i_last, i_aast, i_goto, i_icmp_eq, i_icmp_ne, i_icmp_lt, i_icmp_ge, i_icmp_gt, i_icmp_le, i_if_eq, i_if_ne, i_if_lt, i_if_ge, i_if_gt, i_if_le, i_ifnonnull, i_getf, i_putf, i_iret, i_zret, i_aret, i_vret, i_new, i_newa, i_anew, i_oinit, i_callv, i_calls, i_calli, i_max, i_min, i_abs, i_copy, i_throw, i_ldcs, pwt, List.getElem?_cons_zero, List.getElem?_cons_succ, List.set_cons_zero, List.set_cons_succ, List.getD_cons_zero, List.getD_cons_succ, List.length_cons, List.length_nil, List.length_set, List.drop_succ_cons, List.drop_zero, List.take_succ_cons, List.take_zero, List.reverse_cons, List.reverse_nil, List.nil_append, List.cons_append, List.append_nil, List.map_cons, List.map_nil, List.sum_cons, List.sum_nil, Value.category, ne_eq, Nat.reduceEqDiff, reduceIte, ite_self, false_implies, true_implies, true_and, and_true, and_self, Nat.zero_le, Nat.le_refl, Nat.reduceLeDiff, Nat.reduceAdd, Nat.reduceLT, Nat.add_zero, Nat.zero_add, pu_eq, not_false_eq_true, not_true_eq_false, forall_const, if_true, if_false, implies_true, pRetK, X6.o, a6]
      have ans : r5 0 7 = nI (cl (K 0).1 0 7 + 1) := S5.1.2.2
      rw [ans]
      exact hQ1 q hp l7 _ r1 r5 S1 S5 W2 X6 (((((G1.tr G2).tr G3).tr G4).tr G5).tr G6)
    · have l7 : cl (K 0).1 0 7 = 12 := by
        have := t7.2
        by_cases c : cl (K 0).1 0 7 < 12
        · rw [t7.1] at c7
          exact absurd (nI_lt (b := 12) c (by decide)) c7
        · omega
      exact fun n' hn => hQ2 q hp l7 _ n' hn (X3.grow hn) ((G1.tr G2).tr G3)
end FACE6

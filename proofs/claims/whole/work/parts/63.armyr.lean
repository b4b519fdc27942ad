/-! a text of the army: scars, lines, the whole; what is valid -/
section ARMYR
variable {E : PE} {M : PM} {d : Nat} {Q : PQ} {h : PH} {n : Nat} {a b s t x L : Nat} {r rb g : AR} {lw lb : Option Nat} {C Cb : Option LawL} {pc : Nat} {f : Nat → Int32} {v : Int32}
theorem rg_ix {y : Int32} {m : Nat} (hm : m ≤ 1000) (h1 : ¬ y < 0) (h2 : ¬ nI m - 1 < y) : ∃ i, i < m ∧ y = nI i := by
  rcases pk_ix y (n := m) (by omega) with q | q | q
  · exact absurd q h1
  · exfalso
    apply h2
    by_cases m0 : m = 0
    · subst m0
      exact Int32.lt_of_lt_of_le (show nI 0 - 1 < 0 by decide) q
    · rw [show nI m - 1 = nI (m - 1) from pk_sub (b := 1) (by omega)]
      exact Int32.lt_of_lt_of_le (nI_lt (by omega) (by omega)) q
  · exact q
theorem rg_in {y : Int32} {lo hi : Nat} (hh : hi < 100000) (h1 : ¬ y < nI lo) (h2 : ¬ nI hi < y) (hl : lo ≤ hi) : ∃ i, lo ≤ i ∧ i ≤ hi ∧ y = nI i := by
  rcases pk_ix y (n := hi + 1) (by omega) with q | q | ⟨i, hi, rfl⟩
  · exact absurd (Int32.lt_of_lt_of_le q (nI_pos' (by omega))) h1
  · exact absurd (Int32.lt_of_lt_of_le (nI_lt (by omega) (by omega)) q) h2
  · refine ⟨i, ?_, by omega, rfl⟩
    by_cases z : lo ≤ i
    · exact z
    · exact absurd (nI_lt (by omega) (by omega)) h1
theorem bnd_inr {α β : Type} {p : PR α} {k : Nat → α → PR β} {q : Nat × β} (e : bnd p k = .inr q) : ∃ b x, p = .inr (b, x) ∧ k b x = .inr q := by
  match p, e with
  | .inr z, e => exact ⟨z.1, z.2, rfl, e⟩
theorem nmP_inr {dg : Nat} {lo hi : Int32} {q : Nat × Int32} (e : nmP f L dg lo hi b = .inr q) : nmB f L b dg lo hi = true ∧ q.1 ≤ L ∧ ¬ q.2 < lo ∧ ¬ hi < q.2 := by
  unfold nmP at e
  split at e
  · rename_i c
    cases e
    exact ⟨c, nx_le, nmv c⟩
  · cases e
theorem wdP_inr {cs : List Nat} {q : Nat × Unit} (e : wdP f L cs b = .inr q) : q.1 ≤ L := by
  unfold wdP at e
  split at e
  · cases e; exact nx_le
  · cases e
def vC (nb nm ns : Nat) (c : Cmd) : Prop := match c with
  | (0, x, y, z, _) => nb < 8 ∧ (∃ i, i < 10 ∧ x = nI i) ∧ (∃ i, i < 1000 ∧ y = nI i) ∧ (∃ i, i < 64 ∧ z = nI i)
  | (1, x, _) => nm < 10 ∧ ∃ i, i < 10000 ∧ x = nI i
  | (2, p, w, b, dp, mn, be) => ns < 24 ∧ (∃ i, i < 12 ∧ p = nI i) ∧ (∃ i, i < 6 ∧ w = nI i) ∧ (∃ i, i < nb ∧ b = nI i) ∧ (∃ i, i < 10 ∧ dp = nI i) ∧ (∃ i, i < nm ∧ mn = nI i) ∧ (∃ i, i < nm ∧ be = nI i)
  | (3, s, k, _) => (∃ i, i < ns ∧ s = nI i) ∧ ∃ i, i < 10 ∧ k = nI i
  | (4, k, _) => ∃ i, i < 1000 ∧ k = nI i
  | (5, k, _) => ∃ i, i < nm ∧ k = nI i
  | _ => False
theorem nI_or (x y : Nat) : nI x ||| nI y = nI (x ||| y) := by
  apply Int32.toBitVec_inj.mp
  show BitVec.ofNat 32 x ||| BitVec.ofNat 32 y = BitVec.ofNat 32 (x ||| y)
  exact (BitVec.ofNat_or).symm
theorem arm1 {i : Nat} (hi : i < 6) : ∃ k, k < 64 ∧ (1 : Int32) <<< (nI i &&& 31) = nI k := ⟨2 ^ i, Nat.lt_of_lt_of_le (Nat.pow_lt_pow_right (by decide) hi) (by decide), bitI_nI (by omega)⟩
theorem wpP_ok : ∀ k b w, b ≤ L → (∃ i, i < 64 ∧ w = nI i) → ∀ q, wpP f L k b w = .inr q → q.1 ≤ L ∧ ∃ i, i < 64 ∧ q.2 = nI i
  | 0, b, w, hb, hw, q, e => by cases e; exact ⟨hb, hw⟩
  | k + 1, b, w, hb, hw, q, e => by
    unfold wpP at e
    split at e
    · split at e
      · rename_i c
        have hv := nmv c
        obtain ⟨i, _, hi, ei⟩ := rg_in (lo := 0) (hi := 5) (by decide) hv.1 hv.2 (by decide)
        rw [ei] at e
        obtain ⟨k1, hk1, ek1⟩ := arm1 (i := i) (by omega)
        obtain ⟨k2, hk2, ek2⟩ := hw
        rw [ek1, ek2, nI_or] at e
        exact wpP_ok k _ _ nx_le ⟨_, Nat.or_lt_two_pow (n := 6) hk2 hk1, rfl⟩ q e
      · cases e
    · cases e; exact ⟨hb, hw⟩
theorem lnP_ok {nb nm ns : Nat} (h1 : nb ≤ 8) (h2 : nm ≤ 10) (h3 : ns ≤ 24) (hb : b ≤ L) {q : Nat × Cmd} (e : lnP f L nb nm ns b = .inr q) : q.1 ≤ L ∧ vC nb nm ns q.2 := by
  unfold lnP at e
  split at e
  · unfold baP at e
    split at e
    · cases e
    · obtain ⟨b1, v1, p1, e⟩ := bnd_inr e
      obtain ⟨b2, v2, p2, e⟩ := bnd_inr e
      obtain ⟨b3, v3, p3, e⟩ := bnd_inr e
      obtain ⟨b4, v4, p4, e⟩ := bnd_inr e
      obtain ⟨b5, v5, p5, e⟩ := bnd_inr e
      obtain ⟨b6, v6, p6, e⟩ := bnd_inr e
      cases e
      obtain ⟨-, l1, x1, y1⟩ := nmP_inr p1
      obtain ⟨-, l3, x3, y3⟩ := nmP_inr p3
      obtain ⟨-, l5, x5, y5⟩ := nmP_inr p5
      obtain ⟨i5, _, hi5, e5⟩ := rg_in (lo := 0) (hi := 5) (by decide) x5 y5 (by decide)
      obtain ⟨i1, _, hi1, e1⟩ := rg_in (lo := 0) (hi := 9) (by decide) x1 y1 (by decide)
      obtain ⟨i3, _, hi3, e3⟩ := rg_in (lo := 0) (hi := 999) (by decide) x3 y3 (by decide)
      simp only at e5
      rw [e5] at p6
      obtain ⟨l6, w6⟩ := wpP_ok _ _ _ l5 (arm1 (by omega)) _ p6
      exact ⟨l6, by omega, ⟨i1, by omega, e1⟩, ⟨i3, by omega, e3⟩, w6⟩
  · split at e
    · unfold maP at e
      split at e
      · cases e
      · obtain ⟨b1, v1, p1, e⟩ := bnd_inr e
        cases e
        obtain ⟨-, l1, x1, y1⟩ := nmP_inr p1
        obtain ⟨i1, _, hi1, e1⟩ := rg_in (lo := 0) (hi := 9999) (by decide) x1 y1 (by decide)
        exact ⟨l1, by omega, i1, by omega, e1⟩
    · split at e
      · unfold scP at e
        split at e
        · cases e
        · obtain ⟨b1, v1, p1, e⟩ := bnd_inr e
          obtain ⟨b2, v2, p2, e⟩ := bnd_inr e
          obtain ⟨b3, v3, p3, e⟩ := bnd_inr e
          obtain ⟨b4, v4, p4, e⟩ := bnd_inr e
          obtain ⟨b5, v5, p5, e⟩ := bnd_inr e
          obtain ⟨b6, v6, p6, e⟩ := bnd_inr e
          obtain ⟨b7, v7, p7, e⟩ := bnd_inr e
          obtain ⟨b8, v8, p8, e⟩ := bnd_inr e
          obtain ⟨b9, v9, p9, e⟩ := bnd_inr e
          obtain ⟨-, l1, x1, y1⟩ := nmP_inr p1
          obtain ⟨-, l3, x3, y3⟩ := nmP_inr p3
          obtain ⟨-, l5, x5, y5⟩ := nmP_inr p5
          obtain ⟨-, l7, x7, y7⟩ := nmP_inr p7
          obtain ⟨-, l9, x9, y9⟩ := nmP_inr p9
          obtain ⟨i1, _, hi1, e1⟩ := rg_in (lo := 0) (hi := 11) (by decide) x1 y1 (by decide)
          obtain ⟨i3, _, hi3, e3⟩ := rg_in (lo := 0) (hi := 5) (by decide) x3 y3 (by decide)
          obtain ⟨i5, hi5, e5⟩ := rg_ix (m := nb) (by omega) x5 y5
          obtain ⟨i7, _, hi7, e7⟩ := rg_in (lo := 1) (hi := 9) (by decide) x7 y7 (by decide)
          obtain ⟨i9, hi9, e9⟩ := rg_ix (m := nm) (by omega) x9 y9
          split at e
          · obtain ⟨b10, v10, p10, e⟩ := bnd_inr e
            cases e
            obtain ⟨-, l10, x10, y10⟩ := nmP_inr p10
            obtain ⟨i10, hi10, e10⟩ := rg_ix (m := nm) (by omega) x10 y10
            exact ⟨l10, by omega, ⟨i1, by omega, e1⟩, ⟨i3, by omega, e3⟩, ⟨i5, hi5, e5⟩, ⟨i7, by omega, e7⟩, ⟨i9, hi9, e9⟩, ⟨i10, hi10, e10⟩⟩
          · cases e
            exact ⟨l9, by omega, ⟨i1, by omega, e1⟩, ⟨i3, by omega, e3⟩, ⟨i5, hi5, e5⟩, ⟨i7, by omega, e7⟩, ⟨i9, hi9, e9⟩, ⟨i9, hi9, e9⟩⟩
      · split at e
        · unfold toP at e
          obtain ⟨b1, v1, p1, e⟩ := bnd_inr e
          obtain ⟨b2, v2, p2, e⟩ := bnd_inr e
          cases e
          obtain ⟨-, l1, x1, y1⟩ := nmP_inr p1
          obtain ⟨-, l2, x2, y2⟩ := nmP_inr p2
          obtain ⟨i1, hi1, e1⟩ := rg_ix (m := ns) (by omega) x1 y1
          obtain ⟨i2, _, hi2, e2⟩ := rg_in (lo := 0) (hi := 9) (by decide) x2 y2 (by decide)
          exact ⟨l2, ⟨i1, hi1, e1⟩, i2, by omega, e2⟩
        · split at e
          · obtain ⟨b1, v1, p1, e⟩ := bnd_inr e
            cases e
            obtain ⟨-, l1, x1, y1⟩ := nmP_inr p1
            obtain ⟨i2, _, hi2, e2⟩ := rg_in (lo := 0) (hi := 999) (by decide) x1 y1 (by decide)
            exact ⟨l1, i2, by omega, e2⟩
          · split at e
            · obtain ⟨b1, v1, p1, e⟩ := bnd_inr e
              cases e
              obtain ⟨-, l1, x1, y1⟩ := nmP_inr p1
              exact ⟨l1, rg_ix (m := nm) (by omega) x1 y1⟩
            · cases e
/-- the counts behind a line -/
def ctC (c : Cmd) (q : Nat × Nat × Nat) : Nat × Nat × Nat := if c.1 = 0 then (q.1 + 1, q.2.1, q.2.2) else if c.1 = 1 then (q.1, q.2.1 + 1, q.2.2) else if c.1 = 2 then (q.1, q.2.1, q.2.2 + 1) else q
def CN (r : AR) (q : Nat × Nat × Nat) : Prop := r 1 0 = nI q.1 ∧ q.1 ≤ 8 ∧ r 5 0 = nI q.2.1 ∧ q.2.1 ≤ 10 ∧ r 8 0 = nI q.2.2 ∧ q.2.2 ≤ 24
theorem CN.ap {q : Nat × Nat × Nat} {c : Cmd} (K : CN r q) (V : vC q.1 q.2.1 q.2.2 c) : CN (apC r c) (ctC c q) := by
  obtain ⟨k1, k2, k3, k4, k5, k6⟩ := K
  have c1 := cl_of k1 (by omega)
  have c5 := cl_of k3 (by omega)
  have c8 := cl_of k5 (by omega)
  obtain ⟨kd, x1, x2, x3, x4, x5, x6⟩ := c
  match kd, V with
  | 0, V =>
    obtain ⟨v1, -⟩ := V
    refine ⟨?_, by show q.1 + 1 ≤ 8; omega, k3, k4, k5, k6⟩
    show apC r (0, x1, x2, x3, x4, x5, x6) 1 0 = nI (q.1 + 1)
    simp only [apC, ru_at, c1]; simp
  | 1, V =>
    obtain ⟨v1, -⟩ := V
    refine ⟨k1, k2, ?_, by show q.2.1 + 1 ≤ 10; omega, k5, k6⟩
    show apC r (1, x1, x2, x3, x4, x5, x6) 5 0 = nI (q.2.1 + 1)
    simp only [apC, ru_at, c5]; simp
  | 2, V =>
    obtain ⟨v1, -⟩ := V
    refine ⟨k1, k2, k3, k4, ?_, by show q.2.2 + 1 ≤ 24; omega⟩
    show apC r (2, x1, x2, x3, x4, x5, x6) 8 0 = nI (q.2.2 + 1)
    simp only [apC, rAdd, ru_at, c8]; simp
  | 3, V => exact ⟨k1, k2, k3, k4, k5, k6⟩
  | 4, V => exact ⟨k1, k2, k3, k4, k5, k6⟩
  | 5, V => exact ⟨k1, k2, k3, k4, k5, k6⟩
theorem rAdd_15 {m : Nat} {p w bt dp mn : Int32} : ru (rAdd r m p w bt dp mn) 15 m mn = rAdd r m p w bt dp mn := by
  funext k j
  rw [ru_at]
  split
  · rename_i c
    rw [c.1, c.2]
    simp only [rAdd, ru_at]; simp
  · rfl
theorem c_X1_readScar (hE : EC E) (P : PT h a r lw x t L f b v) (D : DX x t a) (hL : L ≤ 400) (hb : b ≤ L) {nb nm ns : Nat} (hK : CN r (nb, nm, ns)) (hQ : RQ Q n a r lw x t L f h (scP f L nb nm ns b)) : pCall E M_X1_readScar (d + 6) [.ref x, .ref a] h n Q := by
  refine pCall_of rfl rfl (Nat.le_of_ble_eq_true rfl) (by simp [Value.category]) ?_
  refine b_X1_readScar_0 _ _ _ ?_
  simp only [pEntry, PM.nL, M_X1_readScar, List.map_cons, List.map_nil, List.length_cons, List.length_nil, Nat.reduceAdd, Nat.reduceSub, Nat.sub_self, List.replicate_succ, List.replicate_zero, List.cons_append, List.nil_append]
  obtain ⟨k1, k2, k3, k4, k5, k6⟩ := hK
  simp only at k1 k2 k3 k4 k5 k6
  simp only [i_const, i_load, i_aload, i_store, i_astore, i_inc, i_iadd, i_isub, i_imul, i_idiv, i_irem, i_iand, i_ior, i_ixor, i_ishl, i_ishr, i_iushr, i_ineg, i_i2l, i_i2b, i_i2c, i_lcmp, i_dup, i_dup2, i_pop, i_null, i_alen, i_iald, i_bald, i_lald, i_aald, i_iast, i_bast, i_last, i_aast, i_goto, i_icmp_eq, i_icmp_ne, i_icmp_lt, i_icmp_ge, i_icmp_gt, i_icmp_le, i_if_eq, i_if_ne, i_if_lt, i_if_ge, i_if_gt, i_if_le, i_ifnonnull, i_getf, i_putf, i_iret, i_zret, i_aret, i_vret, i_new, i_newa, i_anew, i_oinit, i_callv, i_calls, i_calli, i_max, i_min, i_abs, i_copy, i_throw, i_ldcs, pwt, List.getElem?_cons_zero, List.getElem?_cons_succ, List.set_cons_zero, List.set_cons_succ, List.getD_cons_zero, List.getD_cons_succ, List.length_cons, List.length_nil, List.length_set, List.drop_succ_cons, List.drop_zero, List.take_succ_cons, List.take_zero, List.reverse_cons, List.reverse_nil, List.nil_append, List.cons_append, List.append_nil, List.map_cons, List.map_nil, List.sum_cons, List.sum_nil, Value.category, ne_eq, Nat.reduceEqDiff, reduceIte, ite_self, false_implies, true_implies, true_and, and_true, and_self, Nat.zero_le, Nat.le_refl, Nat.reduceLeDiff, Nat.reduceAdd, Nat.reduceLT, Nat.add_zero, Nat.zero_add, pu_eq, not_false_eq_true, not_true_eq_false, forall_const, if_true, if_false, implies_true, P.1.f0, P.1.f8, P.2.2, P.2.1.1, k5]
  unfold scP at hQ
  refine ⟨fun c => ?_, fun c => ?_⟩
  · have c' : ns < 24 := (nI_ltI (b := 24) (by omega) (by decide)).mp c
    rw [if_neg (by omega)] at hQ
    refine p_adv P D hL (fun h1 P1 F1 => ?_)
    simp only [i_const, i_load, i_aload, i_store, i_astore, i_inc, i_iadd, i_isub, i_imul, i_idiv, i_irem, i_iand, i_ior, i_ixor, i_ishl, i_ishr, i_iushr, i_ineg, i_i2l, i_i2b, i_i2c, i_lcmp, i_dup, i_dup2, i_pop, i_null, i_alen, i_iald, i_bald, i_lald, i_aald, i_iast, i_bast, i_last, i_aast, i_goto, i_icmp_eq, i_icmp_ne, i_icmp_lt, i_icmp_ge, i_icmp_gt, i_icmp_le, i_if_eq, i_if_ne, i_if_lt, i_if_ge, i_if_gt, i_if_le, i_ifnonnull, i_getf, i_putf, i_iret, i_zret, i_aret, i_vret, i_new, i_newa, i_anew, i_oinit, i_callv, i_calls, i_calli, i_max, i_min, i_abs, i_copy, i_throw, i_ldcs, pwt, List.getElem?_cons_zero, List.getElem?_cons_succ, List.set_cons_zero, List.set_cons_succ, List.getD_cons_zero, List.getD_cons_succ, List.length_cons, List.length_nil, List.length_set, List.drop_succ_cons, List.drop_zero, List.take_succ_cons, List.take_zero, List.reverse_cons, List.reverse_nil, List.nil_append, List.cons_append, List.append_nil, List.map_cons, List.map_nil, List.sum_cons, List.sum_nil, Value.category, ne_eq, Nat.reduceEqDiff, reduceIte, ite_self, false_implies, true_implies, true_and, and_true, and_self, Nat.zero_le, Nat.le_refl, Nat.reduceLeDiff, Nat.reduceAdd, Nat.reduceLT, Nat.add_zero, Nat.zero_add, pu_eq, not_false_eq_true, not_true_eq_false, forall_const, if_true, if_false, implies_true, pRetK, P1.2.2]
    have hl1 : nx f L b ≤ L := nx_le
    generalize nx f L b = b1 at *
    refine c_X1_takeNumber (d := d + 3) P1 D hL hl1 (fun c2 h2 P2 F2 => ?_) (fun c2 => ?_)
    · simp only [nmP, wdP, bnd, if_pos c2] at hQ
      have G2 := F1.tr F2
      simp only [i_const, i_load, i_aload, i_store, i_astore, i_inc, i_iadd, i_isub, i_imul, i_idiv, i_irem, i_iand, i_ior, i_ixor, i_ishl, i_ishr, i_iushr, i_ineg, i_i2l, i_i2b, i_i2c, i_lcmp, i_dup, i_dup2, i_pop, i_null, i_alen, i_iald, i_bald, i_lald, i_aald, i_iast, i_bast, i_last, i_aast, i_goto, i_icmp_eq, i_icmp_ne, i_icmp_lt, i_icmp_ge, i_icmp_gt, i_icmp_le, i_if_eq, i_if_ne, i_if_lt, i_if_ge, i_if_gt, i_if_le, i_ifnonnull, i_getf, i_putf, i_iret, i_zret, i_aret, i_vret, i_new, i_newa, i_anew, i_oinit, i_callv, i_calls, i_calli, i_max, i_min, i_abs, i_copy, i_throw, i_ldcs, pwt, List.getElem?_cons_zero, List.getElem?_cons_succ, List.set_cons_zero, List.set_cons_succ, List.getD_cons_zero, List.getD_cons_succ, List.length_cons, List.length_nil, List.length_set, List.drop_succ_cons, List.drop_zero, List.take_succ_cons, List.take_zero, List.reverse_cons, List.reverse_nil, List.nil_append, List.cons_append, List.append_nil, List.map_cons, List.map_nil, List.sum_cons, List.sum_nil, Value.category, ne_eq, Nat.reduceEqDiff, reduceIte, ite_self, false_implies, true_implies, true_and, and_true, and_self, Nat.zero_le, Nat.le_refl, Nat.reduceLeDiff, Nat.reduceAdd, Nat.reduceLT, Nat.add_zero, Nat.zero_add, pu_eq, not_false_eq_true, not_true_eq_false, forall_const, if_true, if_false, implies_true, pRetK, P2.2.2, P2.2.1.1, P2.1.f0, P2.1.f1, P2.1.f5, P2.1.f8, k1, k3]
      refine ⟨fun _ => ?_, fun q => absurd q (by decide)⟩
      generalize numI f b1 (tkE f L b1 - b1) = pv at *
      have hl2 : nx f L b1 ≤ L := nx_le
      generalize nx f L b1 = b2 at *
      refine p_take P2 D hL hl2 (es_X1_123 hE) (fun c3 h3 P3 F3 => ?_) (fun c3 => ?_)
      · simp only [if_pos c3] at hQ
        have G3 := G2.tr F3
        simp only [i_const, i_load, i_aload, i_store, i_astore, i_inc, i_iadd, i_isub, i_imul, i_idiv, i_irem, i_iand, i_ior, i_ixor, i_ishl, i_ishr, i_iushr, i_ineg, i_i2l, i_i2b, i_i2c, i_lcmp, i_dup, i_dup2, i_pop, i_null, i_alen, i_iald, i_bald, i_lald, i_aald, i_iast, i_bast, i_last, i_aast, i_goto, i_icmp_eq, i_icmp_ne, i_icmp_lt, i_icmp_ge, i_icmp_gt, i_icmp_le, i_if_eq, i_if_ne, i_if_lt, i_if_ge, i_if_gt, i_if_le, i_ifnonnull, i_getf, i_putf, i_iret, i_zret, i_aret, i_vret, i_new, i_newa, i_anew, i_oinit, i_callv, i_calls, i_calli, i_max, i_min, i_abs, i_copy, i_throw, i_ldcs, pwt, List.getElem?_cons_zero, List.getElem?_cons_succ, List.set_cons_zero, List.set_cons_succ, List.getD_cons_zero, List.getD_cons_succ, List.length_cons, List.length_nil, List.length_set, List.drop_succ_cons, List.drop_zero, List.take_succ_cons, List.take_zero, List.reverse_cons, List.reverse_nil, List.nil_append, List.cons_append, List.append_nil, List.map_cons, List.map_nil, List.sum_cons, List.sum_nil, Value.category, ne_eq, Nat.reduceEqDiff, reduceIte, ite_self, false_implies, true_implies, true_and, and_true, and_self, Nat.zero_le, Nat.le_refl, Nat.reduceLeDiff, Nat.reduceAdd, Nat.reduceLT, Nat.add_zero, Nat.zero_add, pu_eq, not_false_eq_true, not_true_eq_false, forall_const, if_true, if_false, implies_true, pRetK, P3.2.2, P3.2.1.1, P3.1.f0, P3.1.f1, P3.1.f5, P3.1.f8, k1, k3]
        refine ⟨fun q => absurd q (by decide), fun _ => ?_⟩
        have hl3 : nx f L b2 ≤ L := nx_le
        generalize nx f L b2 = b3 at *
        refine c_X1_takeNumber (d := d + 3) P3 D hL hl3 (fun c4 h4 P4 F4 => ?_) (fun c4 => ?_)
        · simp only [if_pos c4] at hQ
          have G4 := G3.tr F4
          simp only [i_const, i_load, i_aload, i_store, i_astore, i_inc, i_iadd, i_isub, i_imul, i_idiv, i_irem, i_iand, i_ior, i_ixor, i_ishl, i_ishr, i_iushr, i_ineg, i_i2l, i_i2b, i_i2c, i_lcmp, i_dup, i_dup2, i_pop, i_null, i_alen, i_iald, i_bald, i_lald, i_aald, i_iast, i_bast, i_last, i_aast, i_goto, i_icmp_eq, i_icmp_ne, i_icmp_lt, i_icmp_ge, i_icmp_gt, i_icmp_le, i_if_eq, i_if_ne, i_if_lt, i_if_ge, i_if_gt, i_if_le, i_ifnonnull, i_getf, i_putf, i_iret, i_zret, i_aret, i_vret, i_new, i_newa, i_anew, i_oinit, i_callv, i_calls, i_calli, i_max, i_min, i_abs, i_copy, i_throw, i_ldcs, pwt, List.getElem?_cons_zero, List.getElem?_cons_succ, List.set_cons_zero, List.set_cons_succ, List.getD_cons_zero, List.getD_cons_succ, List.length_cons, List.length_nil, List.length_set, List.drop_succ_cons, List.drop_zero, List.take_succ_cons, List.take_zero, List.reverse_cons, List.reverse_nil, List.nil_append, List.cons_append, List.append_nil, List.map_cons, List.map_nil, List.sum_cons, List.sum_nil, Value.category, ne_eq, Nat.reduceEqDiff, reduceIte, ite_self, false_implies, true_implies, true_and, and_true, and_self, Nat.zero_le, Nat.le_refl, Nat.reduceLeDiff, Nat.reduceAdd, Nat.reduceLT, Nat.add_zero, Nat.zero_add, pu_eq, not_false_eq_true, not_true_eq_false, forall_const, if_true, if_false, implies_true, pRetK, P4.2.2, P4.2.1.1, P4.1.f0, P4.1.f1, P4.1.f5, P4.1.f8, k1, k3]
          refine ⟨fun _ => ?_, fun q => absurd q (by decide)⟩
          generalize numI f b3 (tkE f L b3 - b3) = wv at *
          have hl4 : nx f L b3 ≤ L := nx_le
          generalize nx f L b3 = b4 at *
          refine p_take P4 D hL hl4 (es_X1_125 hE) (fun c5 h5 P5 F5 => ?_) (fun c5 => ?_)
          · simp only [if_pos c5] at hQ
            have G5 := G4.tr F5
            simp only [i_const, i_load, i_aload, i_store, i_astore, i_inc, i_iadd, i_isub, i_imul, i_idiv, i_irem, i_iand, i_ior, i_ixor, i_ishl, i_ishr, i_iushr, i_ineg, i_i2l, i_i2b, i_i2c, i_lcmp, i_dup, i_dup2, i_pop, i_null, i_alen, i_iald, i_bald, i_lald, i_aald, i_iast, i_bast, i_last, i_aast, i_goto, i_icmp_eq, i_icmp_ne, i_icmp_lt, i_icmp_ge, i_icmp_gt, i_icmp_le, i_if_eq, i_if_ne, i_if_lt, i_if_ge, i_if_gt, i_if_le, i_ifnonnull, i_getf, i_putf, i_iret, i_zret, i_aret, i_vret, i_new, i_newa, i_anew, i_oinit, i_callv, i_calls, i_calli, i_max, i_min, i_abs, i_copy, i_throw, i_ldcs, pwt, List.getElem?_cons_zero, List.getElem?_cons_succ, List.set_cons_zero, List.set_cons_succ, List.getD_cons_zero, List.getD_cons_succ, List.length_cons, List.length_nil, List.length_set, List.drop_succ_cons, List.drop_zero, List.take_succ_cons, List.take_zero, List.reverse_cons, List.reverse_nil, List.nil_append, List.cons_append, List.append_nil, List.map_cons, List.map_nil, List.sum_cons, List.sum_nil, Value.category, ne_eq, Nat.reduceEqDiff, reduceIte, ite_self, false_implies, true_implies, true_and, and_true, and_self, Nat.zero_le, Nat.le_refl, Nat.reduceLeDiff, Nat.reduceAdd, Nat.reduceLT, Nat.add_zero, Nat.zero_add, pu_eq, not_false_eq_true, not_true_eq_false, forall_const, if_true, if_false, implies_true, pRetK, P5.2.2, P5.2.1.1, P5.1.f0, P5.1.f1, P5.1.f5, P5.1.f8, k1, k3]
            refine ⟨fun q => absurd q (by decide), fun _ => ?_⟩
            have hl5 : nx f L b4 ≤ L := nx_le
            generalize nx f L b4 = b5 at *
            refine c_X1_takeNumber (d := d + 3) P5 D hL hl5 (fun c6 h6 P6 F6 => ?_) (fun c6 => ?_)
            · simp only [if_pos c6] at hQ
              have G6 := G5.tr F6
              simp only [i_const, i_load, i_aload, i_store, i_astore, i_inc, i_iadd, i_isub, i_imul, i_idiv, i_irem, i_iand, i_ior, i_ixor, i_ishl, i_ishr, i_iushr, i_ineg, i_i2l, i_i2b, i_i2c, i_lcmp, i_dup, i_dup2, i_pop, i_null, i_alen, i_iald, i_bald, i_lald, i_aald, i_iast, i_bast, i_last, i_aast, i_goto, i_icmp_eq, i_icmp_ne, i_icmp_lt, i_icmp_ge, i_icmp_gt, i_icmp_le, i_if_eq, i_if_ne, i_if_lt, i_if_ge, i_if_gt, i_if_le, i_ifnonnull, i_getf, i_putf, i_iret, i_zret, i_aret, i_vret, i_new, i_newa, i_anew, i_oinit, i_callv, i_calls, i_calli, i_max, i_min, i_abs, i_copy, i_throw, i_ldcs, pwt, List.getElem?_cons_zero, List.getElem?_cons_succ, List.set_cons_zero, List.set_cons_succ, List.getD_cons_zero, List.getD_cons_succ, List.length_cons, List.length_nil, List.length_set, List.drop_succ_cons, List.drop_zero, List.take_succ_cons, List.take_zero, List.reverse_cons, List.reverse_nil, List.nil_append, List.cons_append, List.append_nil, List.map_cons, List.map_nil, List.sum_cons, List.sum_nil, Value.category, ne_eq, Nat.reduceEqDiff, reduceIte, ite_self, false_implies, true_implies, true_and, and_true, and_self, Nat.zero_le, Nat.le_refl, Nat.reduceLeDiff, Nat.reduceAdd, Nat.reduceLT, Nat.add_zero, Nat.zero_add, pu_eq, not_false_eq_true, not_true_eq_false, forall_const, if_true, if_false, implies_true, pRetK, P6.2.2, P6.2.1.1, P6.1.f0, P6.1.f1, P6.1.f5, P6.1.f8, k1, k3]
              refine ⟨fun _ => ?_, fun q => absurd q (by decide)⟩
              generalize numI f b5 (tkE f L b5 - b5) = bv at *
              have hl6 : nx f L b5 ≤ L := nx_le
              generalize nx f L b5 = b6 at *
              refine p_take P6 D hL hl6 (es_X1_127 hE) (fun c7 h7 P7 F7 => ?_) (fun c7 => ?_)
              · simp only [if_pos c7] at hQ
                have G7 := G6.tr F7
                simp only [i_const, i_load, i_aload, i_store, i_astore, i_inc, i_iadd, i_isub, i_imul, i_idiv, i_irem, i_iand, i_ior, i_ixor, i_ishl, i_ishr, i_iushr, i_ineg, i_i2l, i_i2b, i_i2c, i_lcmp, i_dup, i_dup2, i_pop, i_null, i_alen, i_iald, i_bald, i_lald, i_aald, i_iast, i_bast, i_last, i_aast, i_goto, i_icmp_eq, i_icmp_ne, i_icmp_lt, i_icmp_ge, i_icmp_gt, i_icmp_le, i_if_eq, i_if_ne, i_if_lt, i_if_ge, i_if_gt, i_if_le, i_ifnonnull, i_getf, i_putf, i_iret, i_zret, i_aret, i_vret, i_new, i_newa, i_anew, i_oinit, i_callv, i_calls, i_calli, i_max, i_min, i_abs, i_copy, i_throw, i_ldcs, pwt, List.getElem?_cons_zero, List.getElem?_cons_succ, List.set_cons_zero, List.set_cons_succ, List.getD_cons_zero, List.getD_cons_succ, List.length_cons, List.length_nil, List.length_set, List.drop_succ_cons, List.drop_zero, List.take_succ_cons, List.take_zero, List.reverse_cons, List.reverse_nil, List.nil_append, List.cons_append, List.append_nil, List.map_cons, List.map_nil, List.sum_cons, List.sum_nil, Value.category, ne_eq, Nat.reduceEqDiff, reduceIte, ite_self, false_implies, true_implies, true_and, and_true, and_self, Nat.zero_le, Nat.le_refl, Nat.reduceLeDiff, Nat.reduceAdd, Nat.reduceLT, Nat.add_zero, Nat.zero_add, pu_eq, not_false_eq_true, not_true_eq_false, forall_const, if_true, if_false, implies_true, pRetK, P7.2.2, P7.2.1.1, P7.1.f0, P7.1.f1, P7.1.f5, P7.1.f8, k1, k3]
                refine ⟨fun q => absurd q (by decide), fun _ => ?_⟩
                have hl7 : nx f L b6 ≤ L := nx_le
                generalize nx f L b6 = b7 at *
                refine c_X1_takeNumber (d := d + 3) P7 D hL hl7 (fun c8 h8 P8 F8 => ?_) (fun c8 => ?_)
                · simp only [if_pos c8] at hQ
                  have G8 := G7.tr F8
                  simp only [i_const, i_load, i_aload, i_store, i_astore, i_inc, i_iadd, i_isub, i_imul, i_idiv, i_irem, i_iand, i_ior, i_ixor, i_ishl, i_ishr, i_iushr, i_ineg, i_i2l, i_i2b, i_i2c, i_lcmp, i_dup, i_dup2, i_pop, i_null, i_alen, i_iald, i_bald, i_lald, i_aald, i_iast, i_bast, i_last, i_aast, i_goto, i_icmp_eq, i_icmp_ne, i_icmp_lt, i_icmp_ge, i_icmp_gt, i_icmp_le, i_if_eq, i_if_ne, i_if_lt, i_if_ge, i_if_gt, i_if_le, i_ifnonnull, i_getf, i_putf, i_iret, i_zret, i_aret, i_vret, i_new, i_newa, i_anew, i_oinit, i_callv, i_calls, i_calli, i_max, i_min, i_abs, i_copy, i_throw, i_ldcs, pwt, List.getElem?_cons_zero, List.getElem?_cons_succ, List.set_cons_zero, List.set_cons_succ, List.getD_cons_zero, List.getD_cons_succ, List.length_cons, List.length_nil, List.length_set, List.drop_succ_cons, List.drop_zero, List.take_succ_cons, List.take_zero, List.reverse_cons, List.reverse_nil, List.nil_append, List.cons_append, List.append_nil, List.map_cons, List.map_nil, List.sum_cons, List.sum_nil, Value.category, ne_eq, Nat.reduceEqDiff, reduceIte, ite_self, false_implies, true_implies, true_and, and_true, and_self, Nat.zero_le, Nat.le_refl, Nat.reduceLeDiff, Nat.reduceAdd, Nat.reduceLT, Nat.add_zero, Nat.zero_add, pu_eq, not_false_eq_true, not_true_eq_false, forall_const, if_true, if_false, implies_true, pRetK, P8.2.2, P8.2.1.1, P8.1.f0, P8.1.f1, P8.1.f5, P8.1.f8, k1, k3]
                  refine ⟨fun _ => ?_, fun q => absurd q (by decide)⟩
                  generalize numI f b7 (tkE f L b7 - b7) = dv at *
                  have hl8 : nx f L b7 ≤ L := nx_le
                  generalize nx f L b7 = b8 at *
                  refine p_take P8 D hL hl8 (es_X1_129 hE) (fun c9 h9 P9 F9 => ?_) (fun c9 => ?_)
                  · simp only [if_pos c9] at hQ
                    have G9 := G8.tr F9
                    simp only [i_const, i_load, i_aload, i_store, i_astore, i_inc, i_iadd, i_isub, i_imul, i_idiv, i_irem, i_iand, i_ior, i_ixor, i_ishl, i_ishr, i_iushr, i_ineg, i_i2l, i_i2b, i_i2c, i_lcmp, i_dup, i_dup2, i_pop, i_null, i_alen, i_iald, i_bald, i_lald, i_aald, i_iast, i_bast, i_last, i_aast, i_goto, i_icmp_eq, i_icmp_ne, i_icmp_lt, i_icmp_ge, i_icmp_gt, i_icmp_le, i_if_eq, i_if_ne, i_if_lt, i_if_ge, i_if_gt, i_if_le, i_ifnonnull, i_getf, i_putf, i_iret, i_zret, i_aret, i_vret, i_new, i_newa, i_anew, i_oinit, i_callv, i_calls, i_calli, i_max, i_min, i_abs, i_copy, i_throw, i_ldcs, pwt, List.getElem?_cons_zero, List.getElem?_cons_succ, List.set_cons_zero, List.set_cons_succ, List.getD_cons_zero, List.getD_cons_succ, List.length_cons, List.length_nil, List.length_set, List.drop_succ_cons, List.drop_zero, List.take_succ_cons, List.take_zero, List.reverse_cons, List.reverse_nil, List.nil_append, List.cons_append, List.append_nil, List.map_cons, List.map_nil, List.sum_cons, List.sum_nil, Value.category, ne_eq, Nat.reduceEqDiff, reduceIte, ite_self, false_implies, true_implies, true_and, and_true, and_self, Nat.zero_le, Nat.le_refl, Nat.reduceLeDiff, Nat.reduceAdd, Nat.reduceLT, Nat.add_zero, Nat.zero_add, pu_eq, not_false_eq_true, not_true_eq_false, forall_const, if_true, if_false, implies_true, pRetK, P9.2.2, P9.2.1.1, P9.1.f0, P9.1.f1, P9.1.f5, P9.1.f8, k1, k3]
                    refine ⟨fun q => absurd q (by decide), fun _ => ?_⟩
                    have hl9 : nx f L b8 ≤ L := nx_le
                    generalize nx f L b8 = b9 at *
                    refine c_X1_takeNumber (d := d + 3) P9 D hL hl9 (fun c10 h10 P10 F10 => ?_) (fun c10 => ?_)
                    · simp only [if_pos c10] at hQ
                      have G10 := G9.tr F10
                      simp only [i_const, i_load, i_aload, i_store, i_astore, i_inc, i_iadd, i_isub, i_imul, i_idiv, i_irem, i_iand, i_ior, i_ixor, i_ishl, i_ishr, i_iushr, i_ineg, i_i2l, i_i2b, i_i2c, i_lcmp, i_dup, i_dup2, i_pop, i_null, i_alen, i_iald, i_bald, i_lald, i_aald, i_iast, i_bast, i_last, i_aast, i_goto, i_icmp_eq, i_icmp_ne, i_icmp_lt, i_icmp_ge, i_icmp_gt, i_icmp_le, i_if_eq, i_if_ne, i_if_lt, i_if_ge, i_if_gt, i_if_le, i_ifnonnull, i_getf, i_putf, i_iret, i_zret, i_aret, i_vret, i_new, i_newa, i_anew, i_oinit, i_callv, i_calls, i_calli, i_max, i_min, i_abs, i_copy, i_throw, i_ldcs, pwt, List.getElem?_cons_zero, List.getElem?_cons_succ, List.set_cons_zero, List.set_cons_succ, List.getD_cons_zero, List.getD_cons_succ, List.length_cons, List.length_nil, List.length_set, List.drop_succ_cons, List.drop_zero, List.take_succ_cons, List.take_zero, List.reverse_cons, List.reverse_nil, List.nil_append, List.cons_append, List.append_nil, List.map_cons, List.map_nil, List.sum_cons, List.sum_nil, Value.category, ne_eq, Nat.reduceEqDiff, reduceIte, ite_self, false_implies, true_implies, true_and, and_true, and_self, Nat.zero_le, Nat.le_refl, Nat.reduceLeDiff, Nat.reduceAdd, Nat.reduceLT, Nat.add_zero, Nat.zero_add, pu_eq, not_false_eq_true, not_true_eq_false, forall_const, if_true, if_false, implies_true, pRetK, P10.2.2, P10.2.1.1, P10.1.f0, P10.1.f1, P10.1.f5, P10.1.f8, k1, k3]
                      refine ⟨fun _ => ?_, fun q => absurd q (by decide)⟩
                      generalize numI f b9 (tkE f L b9 - b9) = mv at *
                      have hl10 : nx f L b9 ≤ L := nx_le
                      generalize nx f L b9 = b10 at *
                      refine c_X8_add P10.1 k5 c' (fun hA HA FA => ?_)
                      have PA := P10.fr D FA HA
                      have GA := G10.tr FA.fp
                      simp only [i_const, i_load, i_aload, i_store, i_astore, i_inc, i_iadd, i_isub, i_imul, i_idiv, i_irem, i_iand, i_ior, i_ixor, i_ishl, i_ishr, i_iushr, i_ineg, i_i2l, i_i2b, i_i2c, i_lcmp, i_dup, i_dup2, i_pop, i_null, i_alen, i_iald, i_bald, i_lald, i_aald, i_iast, i_bast, i_last, i_aast, i_goto, i_icmp_eq, i_icmp_ne, i_icmp_lt, i_icmp_ge, i_icmp_gt, i_icmp_le, i_if_eq, i_if_ne, i_if_lt, i_if_ge, i_if_gt, i_if_le, i_ifnonnull, i_getf, i_putf, i_iret, i_zret, i_aret, i_vret, i_new, i_newa, i_anew, i_oinit, i_callv, i_calls, i_calli, i_max, i_min, i_abs, i_copy, i_throw, i_ldcs, pwt, List.getElem?_cons_zero, List.getElem?_cons_succ, List.set_cons_zero, List.set_cons_succ, List.getD_cons_zero, List.getD_cons_succ, List.length_cons, List.length_nil, List.length_set, List.drop_succ_cons, List.drop_zero, List.take_succ_cons, List.take_zero, List.reverse_cons, List.reverse_nil, List.nil_append, List.cons_append, List.append_nil, List.map_cons, List.map_nil, List.sum_cons, List.sum_nil, Value.category, ne_eq, Nat.reduceEqDiff, reduceIte, ite_self, false_implies, true_implies, true_and, and_true, and_self, Nat.zero_le, Nat.le_refl, Nat.reduceLeDiff, Nat.reduceAdd, Nat.reduceLT, Nat.add_zero, Nat.zero_add, pu_eq, not_false_eq_true, not_true_eq_false, forall_const, if_true, if_false, implies_true, pRetK, PA.2.2, PA.2.1.1]
                      refine p_take PA D hL hl10 (es_X1_134 hE) (fun cB hB PB FB => ?_) (fun cB => ?_)
                      · simp only [if_pos cB] at hQ
                        have GB := GA.tr FB
                        have k3' : rAdd r ns pv wv bv dv mv 5 0 = nI nm := k3
                        simp only [i_const, i_load, i_aload, i_store, i_astore, i_inc, i_iadd, i_isub, i_imul, i_idiv, i_irem, i_iand, i_ior, i_ixor, i_ishl, i_ishr, i_iushr, i_ineg, i_i2l, i_i2b, i_i2c, i_lcmp, i_dup, i_dup2, i_pop, i_null, i_alen, i_iald, i_bald, i_lald, i_aald, i_iast, i_bast, i_last, i_aast, i_goto, i_icmp_eq, i_icmp_ne, i_icmp_lt, i_icmp_ge, i_icmp_gt, i_icmp_le, i_if_eq, i_if_ne, i_if_lt, i_if_ge, i_if_gt, i_if_le, i_ifnonnull, i_getf, i_putf, i_iret, i_zret, i_aret, i_vret, i_new, i_newa, i_anew, i_oinit, i_callv, i_calls, i_calli, i_max, i_min, i_abs, i_copy, i_throw, i_ldcs, pwt, List.getElem?_cons_zero, List.getElem?_cons_succ, List.set_cons_zero, List.set_cons_succ, List.getD_cons_zero, List.getD_cons_succ, List.length_cons, List.length_nil, List.length_set, List.drop_succ_cons, List.drop_zero, List.take_succ_cons, List.take_zero, List.reverse_cons, List.reverse_nil, List.nil_append, List.cons_append, List.append_nil, List.map_cons, List.map_nil, List.sum_cons, List.sum_nil, Value.category, ne_eq, Nat.reduceEqDiff, reduceIte, ite_self, false_implies, true_implies, true_and, and_true, and_self, Nat.zero_le, Nat.le_refl, Nat.reduceLeDiff, Nat.reduceAdd, Nat.reduceLT, Nat.add_zero, Nat.zero_add, pu_eq, not_false_eq_true, not_true_eq_false, forall_const, if_true, if_false, implies_true, pRetK, PB.2.2, PB.2.1.1, PB.1.f0, PB.1.f5, k3']
                        refine ⟨fun q => absurd q (by decide), fun _ => ?_⟩
                        refine c_X1_takeNumber (d := d + 3) PB D hL nx_le (fun cC hC PC FC => ?_) (fun cC => ?_)
                        · simp only [if_pos cC] at hQ
                          have vs : vp_in (nI ns) 24 := vp_in_nI c' (by decide)
                          have cs : (nI ns).toNatClampNeg = ns := nI_clamp (by omega)
                          simp only [i_const, i_load, i_aload, i_store, i_astore, i_inc, i_iadd, i_isub, i_imul, i_idiv, i_irem, i_iand, i_ior, i_ixor, i_ishl, i_ishr, i_iushr, i_ineg, i_i2l, i_i2b, i_i2c, i_lcmp, i_dup, i_dup2, i_pop, i_null, i_alen, i_iald, i_bald, i_lald, i_aald, i_iast, i_bast, i_last, i_aast, i_goto, i_icmp_eq, i_icmp_ne, i_icmp_lt, i_icmp_ge, i_icmp_gt, i_icmp_le, i_if_eq, i_if_ne, i_if_lt, i_if_ge, i_if_gt, i_if_le, i_ifnonnull, i_getf, i_putf, i_iret, i_zret, i_aret, i_vret, i_new, i_newa, i_anew, i_oinit, i_callv, i_calls, i_calli, i_max, i_min, i_abs, i_copy, i_throw, i_ldcs, pwt, List.getElem?_cons_zero, List.getElem?_cons_succ, List.set_cons_zero, List.set_cons_succ, List.getD_cons_zero, List.getD_cons_succ, List.length_cons, List.length_nil, List.length_set, List.drop_succ_cons, List.drop_zero, List.take_succ_cons, List.take_zero, List.reverse_cons, List.reverse_nil, List.nil_append, List.cons_append, List.append_nil, List.map_cons, List.map_nil, List.sum_cons, List.sum_nil, Value.category, ne_eq, Nat.reduceEqDiff, reduceIte, ite_self, false_implies, true_implies, true_and, and_true, and_self, Nat.zero_le, Nat.le_refl, Nat.reduceLeDiff, Nat.reduceAdd, Nat.reduceLT, Nat.add_zero, Nat.zero_add, pu_eq, not_false_eq_true, not_true_eq_false, forall_const, if_true, if_false, implies_true, pRetK, PC.2.2, PC.2.1.1, PC.1.f0, PC.1.f8, PC.1.f15, vs, cs]
                          refine ⟨fun _ => ⟨Or.inr trivial, ?_⟩, fun q => absurd q (by decide)⟩
                          refine hQ _ (numI f (nx f L b10) (tkE f L (nx f L b10) - nx f L b10)) ?_ ((GB.tr FC).tr (FR.rf.pu (k := 15) (by decide)).fp)
                          simp only [apC, cl_of k5 (show ns < 2 ^ 31 by omega)]
                          exact PC.fr D (FR.rf.pu (k := 15) (by decide)) (PC.1.ru 15 ns _)
                        · simp only [if_neg cC] at hQ
                          simp only [i_const, i_load, i_aload, i_store, i_astore, i_inc, i_iadd, i_isub, i_imul, i_idiv, i_irem, i_iand, i_ior, i_ixor, i_ishl, i_ishr, i_iushr, i_ineg, i_i2l, i_i2b, i_i2c, i_lcmp, i_dup, i_dup2, i_pop, i_null, i_alen, i_iald, i_bald, i_lald, i_aald, i_iast, i_bast, i_last, i_aast, i_goto, i_icmp_eq, i_icmp_ne, i_icmp_lt, i_icmp_ge, i_icmp_gt, i_icmp_le, i_if_eq, i_if_ne, i_if_lt, i_if_ge, i_if_gt, i_if_le, i_ifnonnull, i_getf, i_putf, i_iret, i_zret, i_aret, i_vret, i_new, i_newa, i_anew, i_oinit, i_callv, i_calls, i_calli, i_max, i_min, i_abs, i_copy, i_throw, i_ldcs, pwt, List.getElem?_cons_zero, List.getElem?_cons_succ, List.set_cons_zero, List.set_cons_succ, List.getD_cons_zero, List.getD_cons_succ, List.length_cons, List.length_nil, List.length_set, List.drop_succ_cons, List.drop_zero, List.take_succ_cons, List.take_zero, List.reverse_cons, List.reverse_nil, List.nil_append, List.cons_append, List.append_nil, List.map_cons, List.map_nil, List.sum_cons, List.sum_nil, Value.category, ne_eq, Nat.reduceEqDiff, reduceIte, ite_self, false_implies, true_implies, true_and, and_true, and_self, Nat.zero_le, Nat.le_refl, Nat.reduceLeDiff, Nat.reduceAdd, Nat.reduceLT, Nat.add_zero, Nat.zero_add, pu_eq, not_false_eq_true, not_true_eq_false, forall_const, if_true, if_false, implies_true, pRetK]
                          exact ⟨Or.inl trivial, hQ hB _ _ PB GB⟩
                      · simp only [if_neg cB] at hQ
                        simp only [i_const, i_load, i_aload, i_store, i_astore, i_inc, i_iadd, i_isub, i_imul, i_idiv, i_irem, i_iand, i_ior, i_ixor, i_ishl, i_ishr, i_iushr, i_ineg, i_i2l, i_i2b, i_i2c, i_lcmp, i_dup, i_dup2, i_pop, i_null, i_alen, i_iald, i_bald, i_lald, i_aald, i_iast, i_bast, i_last, i_aast, i_goto, i_icmp_eq, i_icmp_ne, i_icmp_lt, i_icmp_ge, i_icmp_gt, i_icmp_le, i_if_eq, i_if_ne, i_if_lt, i_if_ge, i_if_gt, i_if_le, i_ifnonnull, i_getf, i_putf, i_iret, i_zret, i_aret, i_vret, i_new, i_newa, i_anew, i_oinit, i_callv, i_calls, i_calli, i_max, i_min, i_abs, i_copy, i_throw, i_ldcs, pwt, List.getElem?_cons_zero, List.getElem?_cons_succ, List.set_cons_zero, List.set_cons_succ, List.getD_cons_zero, List.getD_cons_succ, List.length_cons, List.length_nil, List.length_set, List.drop_succ_cons, List.drop_zero, List.take_succ_cons, List.take_zero, List.reverse_cons, List.reverse_nil, List.nil_append, List.cons_append, List.append_nil, List.map_cons, List.map_nil, List.sum_cons, List.sum_nil, Value.category, ne_eq, Nat.reduceEqDiff, reduceIte, ite_self, false_implies, true_implies, true_and, and_true, and_self, Nat.zero_le, Nat.le_refl, Nat.reduceLeDiff, Nat.reduceAdd, Nat.reduceLT, Nat.add_zero, Nat.zero_add, pu_eq, not_false_eq_true, not_true_eq_false, forall_const, if_true, if_false, implies_true, pRetK]
                        refine ⟨Or.inr trivial, hQ hA mv ?_ GA⟩
                        simp only [apC, cl_of k5 (show ns < 2 ^ 31 by omega)]
                        rw [rAdd_15]; exact PA
                    · simp only [if_neg c10] at hQ
                      simp only [i_const, i_load, i_aload, i_store, i_astore, i_inc, i_iadd, i_isub, i_imul, i_idiv, i_irem, i_iand, i_ior, i_ixor, i_ishl, i_ishr, i_iushr, i_ineg, i_i2l, i_i2b, i_i2c, i_lcmp, i_dup, i_dup2, i_pop, i_null, i_alen, i_iald, i_bald, i_lald, i_aald, i_iast, i_bast, i_last, i_aast, i_goto, i_icmp_eq, i_icmp_ne, i_icmp_lt, i_icmp_ge, i_icmp_gt, i_icmp_le, i_if_eq, i_if_ne, i_if_lt, i_if_ge, i_if_gt, i_if_le, i_ifnonnull, i_getf, i_putf, i_iret, i_zret, i_aret, i_vret, i_new, i_newa, i_anew, i_oinit, i_callv, i_calls, i_calli, i_max, i_min, i_abs, i_copy, i_throw, i_ldcs, pwt, List.getElem?_cons_zero, List.getElem?_cons_succ, List.set_cons_zero, List.set_cons_succ, List.getD_cons_zero, List.getD_cons_succ, List.length_cons, List.length_nil, List.length_set, List.drop_succ_cons, List.drop_zero, List.take_succ_cons, List.take_zero, List.reverse_cons, List.reverse_nil, List.nil_append, List.cons_append, List.append_nil, List.map_cons, List.map_nil, List.sum_cons, List.sum_nil, Value.category, ne_eq, Nat.reduceEqDiff, reduceIte, ite_self, false_implies, true_implies, true_and, and_true, and_self, Nat.zero_le, Nat.le_refl, Nat.reduceLeDiff, Nat.reduceAdd, Nat.reduceLT, Nat.add_zero, Nat.zero_add, pu_eq, not_false_eq_true, not_true_eq_false, forall_const, if_true, if_false, implies_true, pRetK]
                      exact ⟨Or.inl trivial, hQ h9 r _ P9 G9⟩
                  · simp only [if_neg c9] at hQ
                    simp only [i_const, i_load, i_aload, i_store, i_astore, i_inc, i_iadd, i_isub, i_imul, i_idiv, i_irem, i_iand, i_ior, i_ixor, i_ishl, i_ishr, i_iushr, i_ineg, i_i2l, i_i2b, i_i2c, i_lcmp, i_dup, i_dup2, i_pop, i_null, i_alen, i_iald, i_bald, i_lald, i_aald, i_iast, i_bast, i_last, i_aast, i_goto, i_icmp_eq, i_icmp_ne, i_icmp_lt, i_icmp_ge, i_icmp_gt, i_icmp_le, i_if_eq, i_if_ne, i_if_lt, i_if_ge, i_if_gt, i_if_le, i_ifnonnull, i_getf, i_putf, i_iret, i_zret, i_aret, i_vret, i_new, i_newa, i_anew, i_oinit, i_callv, i_calls, i_calli, i_max, i_min, i_abs, i_copy, i_throw, i_ldcs, pwt, List.getElem?_cons_zero, List.getElem?_cons_succ, List.set_cons_zero, List.set_cons_succ, List.getD_cons_zero, List.getD_cons_succ, List.length_cons, List.length_nil, List.length_set, List.drop_succ_cons, List.drop_zero, List.take_succ_cons, List.take_zero, List.reverse_cons, List.reverse_nil, List.nil_append, List.cons_append, List.append_nil, List.map_cons, List.map_nil, List.sum_cons, List.sum_nil, Value.category, ne_eq, Nat.reduceEqDiff, reduceIte, ite_self, false_implies, true_implies, true_and, and_true, and_self, Nat.zero_le, Nat.le_refl, Nat.reduceLeDiff, Nat.reduceAdd, Nat.reduceLT, Nat.add_zero, Nat.zero_add, pu_eq, not_false_eq_true, not_true_eq_false, forall_const, if_true, if_false, implies_true, pRetK]
                    exact ⟨Or.inl trivial, hQ h8 r _ P8 G8⟩
                · simp only [if_neg c8] at hQ
                  simp only [i_const, i_load, i_aload, i_store, i_astore, i_inc, i_iadd, i_isub, i_imul, i_idiv, i_irem, i_iand, i_ior, i_ixor, i_ishl, i_ishr, i_iushr, i_ineg, i_i2l, i_i2b, i_i2c, i_lcmp, i_dup, i_dup2, i_pop, i_null, i_alen, i_iald, i_bald, i_lald, i_aald, i_iast, i_bast, i_last, i_aast, i_goto, i_icmp_eq, i_icmp_ne, i_icmp_lt, i_icmp_ge, i_icmp_gt, i_icmp_le, i_if_eq, i_if_ne, i_if_lt, i_if_ge, i_if_gt, i_if_le, i_ifnonnull, i_getf, i_putf, i_iret, i_zret, i_aret, i_vret, i_new, i_newa, i_anew, i_oinit, i_callv, i_calls, i_calli, i_max, i_min, i_abs, i_copy, i_throw, i_ldcs, pwt, List.getElem?_cons_zero, List.getElem?_cons_succ, List.set_cons_zero, List.set_cons_succ, List.getD_cons_zero, List.getD_cons_succ, List.length_cons, List.length_nil, List.length_set, List.drop_succ_cons, List.drop_zero, List.take_succ_cons, List.take_zero, List.reverse_cons, List.reverse_nil, List.nil_append, List.cons_append, List.append_nil, List.map_cons, List.map_nil, List.sum_cons, List.sum_nil, Value.category, ne_eq, Nat.reduceEqDiff, reduceIte, ite_self, false_implies, true_implies, true_and, and_true, and_self, Nat.zero_le, Nat.le_refl, Nat.reduceLeDiff, Nat.reduceAdd, Nat.reduceLT, Nat.add_zero, Nat.zero_add, pu_eq, not_false_eq_true, not_true_eq_false, forall_const, if_true, if_false, implies_true, pRetK]
                  exact ⟨Or.inl trivial, hQ h7 r _ P7 G7⟩
              · simp only [if_neg c7] at hQ
                simp only [i_const, i_load, i_aload, i_store, i_astore, i_inc, i_iadd, i_isub, i_imul, i_idiv, i_irem, i_iand, i_ior, i_ixor, i_ishl, i_ishr, i_iushr, i_ineg, i_i2l, i_i2b, i_i2c, i_lcmp, i_dup, i_dup2, i_pop, i_null, i_alen, i_iald, i_bald, i_lald, i_aald, i_iast, i_bast, i_last, i_aast, i_goto, i_icmp_eq, i_icmp_ne, i_icmp_lt, i_icmp_ge, i_icmp_gt, i_icmp_le, i_if_eq, i_if_ne, i_if_lt, i_if_ge, i_if_gt, i_if_le, i_ifnonnull, i_getf, i_putf, i_iret, i_zret, i_aret, i_vret, i_new, i_newa, i_anew, i_oinit, i_callv, i_calls, i_calli, i_max, i_min, i_abs, i_copy, i_throw, i_ldcs, pwt, List.getElem?_cons_zero, List.getElem?_cons_succ, List.set_cons_zero, List.set_cons_succ, List.getD_cons_zero, List.getD_cons_succ, List.length_cons, List.length_nil, List.length_set, List.drop_succ_cons, List.drop_zero, List.take_succ_cons, List.take_zero, List.reverse_cons, List.reverse_nil, List.nil_append, List.cons_append, List.append_nil, List.map_cons, List.map_nil, List.sum_cons, List.sum_nil, Value.category, ne_eq, Nat.reduceEqDiff, reduceIte, ite_self, false_implies, true_implies, true_and, and_true, and_self, Nat.zero_le, Nat.le_refl, Nat.reduceLeDiff, Nat.reduceAdd, Nat.reduceLT, Nat.add_zero, Nat.zero_add, pu_eq, not_false_eq_true, not_true_eq_false, forall_const, if_true, if_false, implies_true, pRetK]
                exact ⟨Or.inl trivial, hQ h6 r _ P6 G6⟩
            · simp only [if_neg c6] at hQ
              simp only [i_const, i_load, i_aload, i_store, i_astore, i_inc, i_iadd, i_isub, i_imul, i_idiv, i_irem, i_iand, i_ior, i_ixor, i_ishl, i_ishr, i_iushr, i_ineg, i_i2l, i_i2b, i_i2c, i_lcmp, i_dup, i_dup2, i_pop, i_null, i_alen, i_iald, i_bald, i_lald, i_aald, i_iast, i_bast, i_last, i_aast, i_goto, i_icmp_eq, i_icmp_ne, i_icmp_lt, i_icmp_ge, i_icmp_gt, i_icmp_le, i_if_eq, i_if_ne, i_if_lt, i_if_ge, i_if_gt, i_if_le, i_ifnonnull, i_getf, i_putf, i_iret, i_zret, i_aret, i_vret, i_new, i_newa, i_anew, i_oinit, i_callv, i_calls, i_calli, i_max, i_min, i_abs, i_copy, i_throw, i_ldcs, pwt, List.getElem?_cons_zero, List.getElem?_cons_succ, List.set_cons_zero, List.set_cons_succ, List.getD_cons_zero, List.getD_cons_succ, List.length_cons, List.length_nil, List.length_set, List.drop_succ_cons, List.drop_zero, List.take_succ_cons, List.take_zero, List.reverse_cons, List.reverse_nil, List.nil_append, List.cons_append, List.append_nil, List.map_cons, List.map_nil, List.sum_cons, List.sum_nil, Value.category, ne_eq, Nat.reduceEqDiff, reduceIte, ite_self, false_implies, true_implies, true_and, and_true, and_self, Nat.zero_le, Nat.le_refl, Nat.reduceLeDiff, Nat.reduceAdd, Nat.reduceLT, Nat.add_zero, Nat.zero_add, pu_eq, not_false_eq_true, not_true_eq_false, forall_const, if_true, if_false, implies_true, pRetK]
              exact ⟨Or.inl trivial, hQ h5 r _ P5 G5⟩
          · simp only [if_neg c5] at hQ
            simp only [i_const, i_load, i_aload, i_store, i_astore, i_inc, i_iadd, i_isub, i_imul, i_idiv, i_irem, i_iand, i_ior, i_ixor, i_ishl, i_ishr, i_iushr, i_ineg, i_i2l, i_i2b, i_i2c, i_lcmp, i_dup, i_dup2, i_pop, i_null, i_alen, i_iald, i_bald, i_lald, i_aald, i_iast, i_bast, i_last, i_aast, i_goto, i_icmp_eq, i_icmp_ne, i_icmp_lt, i_icmp_ge, i_icmp_gt, i_icmp_le, i_if_eq, i_if_ne, i_if_lt, i_if_ge, i_if_gt, i_if_le, i_ifnonnull, i_getf, i_putf, i_iret, i_zret, i_aret, i_vret, i_new, i_newa, i_anew, i_oinit, i_callv, i_calls, i_calli, i_max, i_min, i_abs, i_copy, i_throw, i_ldcs, pwt, List.getElem?_cons_zero, List.getElem?_cons_succ, List.set_cons_zero, List.set_cons_succ, List.getD_cons_zero, List.getD_cons_succ, List.length_cons, List.length_nil, List.length_set, List.drop_succ_cons, List.drop_zero, List.take_succ_cons, List.take_zero, List.reverse_cons, List.reverse_nil, List.nil_append, List.cons_append, List.append_nil, List.map_cons, List.map_nil, List.sum_cons, List.sum_nil, Value.category, ne_eq, Nat.reduceEqDiff, reduceIte, ite_self, false_implies, true_implies, true_and, and_true, and_self, Nat.zero_le, Nat.le_refl, Nat.reduceLeDiff, Nat.reduceAdd, Nat.reduceLT, Nat.add_zero, Nat.zero_add, pu_eq, not_false_eq_true, not_true_eq_false, forall_const, if_true, if_false, implies_true, pRetK]
            exact ⟨Or.inl trivial, hQ h4 r _ P4 G4⟩
        · simp only [if_neg c4] at hQ
          simp only [i_const, i_load, i_aload, i_store, i_astore, i_inc, i_iadd, i_isub, i_imul, i_idiv, i_irem, i_iand, i_ior, i_ixor, i_ishl, i_ishr, i_iushr, i_ineg, i_i2l, i_i2b, i_i2c, i_lcmp, i_dup, i_dup2, i_pop, i_null, i_alen, i_iald, i_bald, i_lald, i_aald, i_iast, i_bast, i_last, i_aast, i_goto, i_icmp_eq, i_icmp_ne, i_icmp_lt, i_icmp_ge, i_icmp_gt, i_icmp_le, i_if_eq, i_if_ne, i_if_lt, i_if_ge, i_if_gt, i_if_le, i_ifnonnull, i_getf, i_putf, i_iret, i_zret, i_aret, i_vret, i_new, i_newa, i_anew, i_oinit, i_callv, i_calls, i_calli, i_max, i_min, i_abs, i_copy, i_throw, i_ldcs, pwt, List.getElem?_cons_zero, List.getElem?_cons_succ, List.set_cons_zero, List.set_cons_succ, List.getD_cons_zero, List.getD_cons_succ, List.length_cons, List.length_nil, List.length_set, List.drop_succ_cons, List.drop_zero, List.take_succ_cons, List.take_zero, List.reverse_cons, List.reverse_nil, List.nil_append, List.cons_append, List.append_nil, List.map_cons, List.map_nil, List.sum_cons, List.sum_nil, Value.category, ne_eq, Nat.reduceEqDiff, reduceIte, ite_self, false_implies, true_implies, true_and, and_true, and_self, Nat.zero_le, Nat.le_refl, Nat.reduceLeDiff, Nat.reduceAdd, Nat.reduceLT, Nat.add_zero, Nat.zero_add, pu_eq, not_false_eq_true, not_true_eq_false, forall_const, if_true, if_false, implies_true, pRetK]
          exact ⟨Or.inl trivial, hQ h3 r _ P3 G3⟩
      · simp only [if_neg c3] at hQ
        simp only [i_const, i_load, i_aload, i_store, i_astore, i_inc, i_iadd, i_isub, i_imul, i_idiv, i_irem, i_iand, i_ior, i_ixor, i_ishl, i_ishr, i_iushr, i_ineg, i_i2l, i_i2b, i_i2c, i_lcmp, i_dup, i_dup2, i_pop, i_null, i_alen, i_iald, i_bald, i_lald, i_aald, i_iast, i_bast, i_last, i_aast, i_goto, i_icmp_eq, i_icmp_ne, i_icmp_lt, i_icmp_ge, i_icmp_gt, i_icmp_le, i_if_eq, i_if_ne, i_if_lt, i_if_ge, i_if_gt, i_if_le, i_ifnonnull, i_getf, i_putf, i_iret, i_zret, i_aret, i_vret, i_new, i_newa, i_anew, i_oinit, i_callv, i_calls, i_calli, i_max, i_min, i_abs, i_copy, i_throw, i_ldcs, pwt, List.getElem?_cons_zero, List.getElem?_cons_succ, List.set_cons_zero, List.set_cons_succ, List.getD_cons_zero, List.getD_cons_succ, List.length_cons, List.length_nil, List.length_set, List.drop_succ_cons, List.drop_zero, List.take_succ_cons, List.take_zero, List.reverse_cons, List.reverse_nil, List.nil_append, List.cons_append, List.append_nil, List.map_cons, List.map_nil, List.sum_cons, List.sum_nil, Value.category, ne_eq, Nat.reduceEqDiff, reduceIte, ite_self, false_implies, true_implies, true_and, and_true, and_self, Nat.zero_le, Nat.le_refl, Nat.reduceLeDiff, Nat.reduceAdd, Nat.reduceLT, Nat.add_zero, Nat.zero_add, pu_eq, not_false_eq_true, not_true_eq_false, forall_const, if_true, if_false, implies_true, pRetK]
        exact ⟨Or.inl trivial, hQ h2 r _ P2 G2⟩
    · simp only [nmP, wdP, bnd, if_neg c2] at hQ
      simp only [i_const, i_load, i_aload, i_store, i_astore, i_inc, i_iadd, i_isub, i_imul, i_idiv, i_irem, i_iand, i_ior, i_ixor, i_ishl, i_ishr, i_iushr, i_ineg, i_i2l, i_i2b, i_i2c, i_lcmp, i_dup, i_dup2, i_pop, i_null, i_alen, i_iald, i_bald, i_lald, i_aald, i_iast, i_bast, i_last, i_aast, i_goto, i_icmp_eq, i_icmp_ne, i_icmp_lt, i_icmp_ge, i_icmp_gt, i_icmp_le, i_if_eq, i_if_ne, i_if_lt, i_if_ge, i_if_gt, i_if_le, i_ifnonnull, i_getf, i_putf, i_iret, i_zret, i_aret, i_vret, i_new, i_newa, i_anew, i_oinit, i_callv, i_calls, i_calli, i_max, i_min, i_abs, i_copy, i_throw, i_ldcs, pwt, List.getElem?_cons_zero, List.getElem?_cons_succ, List.set_cons_zero, List.set_cons_succ, List.getD_cons_zero, List.getD_cons_succ, List.length_cons, List.length_nil, List.length_set, List.drop_succ_cons, List.drop_zero, List.take_succ_cons, List.take_zero, List.reverse_cons, List.reverse_nil, List.nil_append, List.cons_append, List.append_nil, List.map_cons, List.map_nil, List.sum_cons, List.sum_nil, Value.category, ne_eq, Nat.reduceEqDiff, reduceIte, ite_self, false_implies, true_implies, true_and, and_true, and_self, Nat.zero_le, Nat.le_refl, Nat.reduceLeDiff, Nat.reduceAdd, Nat.reduceLT, Nat.add_zero, Nat.zero_add, pu_eq, not_false_eq_true, not_true_eq_false, forall_const, if_true, if_false, implies_true, pRetK]
      exact ⟨Or.inl trivial, hQ h1 r _ P1 F1⟩
  · have c' : 24 ≤ ns := by
      by_cases q : 24 ≤ ns
      · exact q
      · exact absurd (nI_lt (b := 24) (by omega) (by decide)) c
    rw [if_pos c'] at hQ
    exact ⟨Or.inl trivial, hQ h r v P FP.rf⟩
end ARMYR

/-! the least pay: the class -/
section LEAST
variable {E : PE} {M : PM} {d : Nat} {Q : PQ} {h : PH} {n : Nat} {a b s : Nat} {r rb g : AR} {lw lb : Option Nat} {C Cb : Option LawL} {pc : Nat}
def btr (st : Option (Nat × Int32)) (p : Nat) : Bool := match st with
  | none => true
  | some q => decide (p < q.1)
/-- the best so far behind all sets of the first k, from the empty one up -/
def buN (pr wo mb : Nat → Nat) : Nat → Int32 → Nat → Int → Option (Nat × Int32) → Option (Nat × Int32)
  | 0, T, p, ms, st => if ms ≤ 0 ∧ btr st p = true then some (p, T) else st
  | k + 1, T, p, ms, st => buN pr wo mb k (T ||| bitI (mb k)) (p + pr k) (ms - wo k) (buN pr wo mb k T p ms st)
def bpI (st : Option (Nat × Int32)) : Int32 := match st with
  | none => -1
  | some q => nI q.1
def bsI (st : Option (Nat × Int32)) : Int32 := match st with
  | none => -1
  | some q => q.2
theorem buN_stay {pr wo mb : Nat → Nat} : ∀ (k : Nat) {T : Int32} {p : Nat} {ms : Int} {st : Option (Nat × Int32)}, btr st p = false → buN pr wo mb k T p ms st = st
  | 0, T, p, ms, st, h => by unfold buN; rw [if_neg (fun q => by rw [h] at q; exact absurd q.2 (by decide))]
  | k + 1, T, p, ms, st, h => by
    unfold buN
    rw [buN_stay k h]
    apply buN_stay k
    match st, h with
    | some q, h =>
      have : ¬ p < q.1 := by simpa [btr] using h
      exact decide_eq_false (by omega)
theorem buN_hit {pr wo mb : Nat → Nat} : ∀ (k : Nat) {T : Int32} {p : Nat} {ms : Int} {st : Option (Nat × Int32)}, ms ≤ 0 → btr st p = true → buN pr wo mb k T p ms st = some (p, T)
  | 0, T, p, ms, st, h1, h2 => by unfold buN; rw [if_pos ⟨h1, h2⟩]
  | k + 1, T, p, ms, st, h1, h2 => by
    unfold buN
    rw [buN_hit k h1 h2]
    exact buN_stay k (decide_eq_false (by simp only; omega))
def okS (st : Option (Nat × Int32)) : Prop := ∀ q, st = some q → q.1 < 2 ^ 30
theorem sub_toInt {x y : Int32} (h1 : -2147483648 ≤ x.toInt - y.toInt) (h2 : x.toInt - y.toInt < 2147483648) : (x - y).toInt = x.toInt - y.toInt := by
  rw [Int32.toInt_sub]
  exact Int.bmod_eq_of_le (by omega) (by omega)
theorem buy_of {pr wo mb : Nat → Nat} {k : Nat} {at_ T x : Int32} {p : Nat} {ms : Int} {st : Option (Nat × Int32)} (H : SA h s g) (hp : p < 1073741824) (h8 : g 0 8 = bpI st) (h9 : g 0 9 = bsI st) (hok : okS st)
    (hQ : ∀ h' g', SA h' s g' → FS s h h' → (∀ k, k ≠ 0 → g' k = g k) → g' 0 8 = bpI (buN pr wo mb k T p ms st) → g' 0 9 = bsI (buN pr wo mb k T p ms st) → okS (buN pr wo mb k T p ms st) → Q (.inl none) h' n)
    (main : btr st p = true → PW E M_X9_buy (d + 1) Q 17 [some (.ref s), some (.int at_), some (.int T), some (.int (nI p)), some (.int x)] [] (h, n, 0, 0)) : pCall E M_X9_buy (d + 1) [.ref s, .int at_, .int T, .int (nI p), .int x] h n Q := by
  refine pCall_of rfl rfl (Nat.le_of_ble_eq_true rfl) (by simp [Value.category]) ?_
  refine b_X9_buy_0 _ _ _ ?_
  simp only [pEntry, PM.nL, M_X9_buy, List.map_cons, List.map_nil, List.length_cons, List.length_nil, Nat.reduceAdd, Nat.reduceSub, Nat.sub_self, List.replicate_succ, List.replicate_zero, List.cons_append, List.nil_append]
  simp only [i_const, i_load, i_aload, i_store, i_astore, i_inc, i_iadd, i_isub, i_imul, i_idiv, i_irem, i_iand, i_ior, i_ixor, i_ishl, i_ishr, i_iushr, i_ineg, i_i2l, i_i2b, i_i2c, i_lcmp, i_dup, i_dup2, i_pop, i_null, i_alen, i_iald, i_bald, i_lald, i_aald, i_iast, i_bast, i_last, i_aast, i_goto, i_icmp_eq, i_icmp_ne, i_icmp_lt, i_icmp_ge, i_icmp_gt, i_icmp_le, i_if_eq, i_if_ne, i_if_lt, i_if_ge, i_if_gt, i_if_le, i_ifnonnull, i_getf, i_putf, i_iret, i_zret, i_aret, i_vret, i_new, i_newa, i_anew, i_oinit, i_callv, i_calls, i_calli, i_max, i_min, i_abs, i_copy, i_throw, i_ldcs, pwt, List.getElem?_cons_zero, List.getElem?_cons_succ, List.set_cons_zero, List.set_cons_succ, List.getD_cons_zero, List.getD_cons_succ, List.length_cons, List.length_nil, List.length_set, List.drop_succ_cons, List.drop_zero, List.take_succ_cons, List.take_zero, List.reverse_cons, List.reverse_nil, List.nil_append, List.cons_append, List.append_nil, List.map_cons, List.map_nil, List.sum_cons, List.sum_nil, Value.category, ne_eq, Nat.reduceEqDiff, reduceIte, ite_self, false_implies, true_implies, true_and, and_true, and_self, Nat.zero_le, Nat.le_refl, Nat.reduceLeDiff, Nat.reduceAdd, Nat.reduceLT, Nat.add_zero, Nat.zero_add, pu_eq, not_false_eq_true, not_true_eq_false, forall_const, if_true, if_false, implies_true, H.f0, h8]
  refine ⟨fun c => ?_, fun c => ⟨fun c2 => ?_, fun c2 => ?_⟩⟩
  · apply main
    match st, hok, c with
    | none, _, _ => rfl
    | some q, hok, c =>
      have := hok q rfl
      exact absurd (show nI q.1 = -1 from c) (fun e => by
        have : (nI q.1).toInt = (-1 : Int32).toInt := by rw [e]
        rw [nI_toInt (by omega)] at this
        have : (-1 : Int32).toInt = -1 := rfl
        omega)
  · apply main
    match st, hok, c2 with
    | none, _, _ => rfl
    | some q, hok, c2 =>
      have := hok q rfl
      exact decide_eq_true ((nI_ltI (by omega) (by omega)).mp (show nI p < nI q.1 from c2))
  · match st, hok, c, c2, hQ, h8, h9 with
    | none, _, c, _, _, _, _ => exact absurd rfl c
    | some q, hok, c, c2, hQ, h8, h9 =>
      have := hok q rfl
      have hf : btr (some q) p = false := decide_eq_false (fun z => c2 (nI_lt z (by omega)))
      have e := buN_stay (pr := pr) (wo := wo) (mb := mb) k (T := T) (ms := ms) hf
      rw [e] at hQ
      exact hQ h g H FS.rf (fun _ _ => rfl) h8 h9 hok
theorem c_X9_buy {pr wo mb : Nat → Nat} (k : Nat) : ∀ {h : PH} {g : AR} {Q : PQ} {T x : Int32} {p : Nat} {ms : Int} {st : Option (Nat × Int32)}, SA h s g → k ≤ 12 → (∀ i, i < k → g 4 i = nI (mb i) ∧ g 6 i = nI (wo i) ∧ wo i ≤ 100000 ∧ g 7 i = nI (pr i) ∧ pr i ≤ 400000) → p + 400000 * k < 1073741824 → x.toInt = ms → -1073741824 + 100000 * (k : Int) < ms → ms < 1073741824 → g 0 8 = bpI st → g 0 9 = bsI st → okS st →
    (∀ h' g', SA h' s g' → FS s h h' → (∀ k, k ≠ 0 → g' k = g k) → g' 0 8 = bpI (buN pr wo mb k T p ms st) → g' 0 9 = bsI (buN pr wo mb k T p ms st) → okS (buN pr wo mb k T p ms st) → Q (.inl none) h' n) → pCall E M_X9_buy (d + k + 1) [.ref s, .int (nI k - 1), .int T, .int (nI p), .int x] h n Q := by
  induction k with
  | zero =>
    intro h g Q T x p ms st H hk hm hp hx hms1 hms2 h8 h9 hok hQ
    refine buy_of (pr := pr) (wo := wo) (mb := mb) (k := 0) (ms := ms) (st := st) H (by omega) h8 h9 hok hQ (fun hb => ?_)
    refine b_X9_buy_17 _ _ _ ?_
    simp only [i_const, i_load, i_aload, i_store, i_astore, i_inc, i_iadd, i_isub, i_imul, i_idiv, i_irem, i_iand, i_ior, i_ixor, i_ishl, i_ishr, i_iushr, i_ineg, i_i2l, i_i2b, i_i2c, i_lcmp, i_dup, i_dup2, i_pop, i_null, i_alen, i_iald, i_bald, i_lald, i_aald, i_iast, i_bast, i_last, i_aast, i_goto, i_icmp_eq, i_icmp_ne, i_icmp_lt, i_icmp_ge, i_icmp_gt, i_icmp_le, i_if_eq, i_if_ne, i_if_lt, i_if_ge, i_if_gt, i_if_le, i_ifnonnull, i_getf, i_putf, i_iret, i_zret, i_aret, i_vret, i_new, i_newa, i_anew, i_oinit, i_callv, i_calls, i_calli, i_max, i_min, i_abs, i_copy, i_throw, i_ldcs, pwt, List.getElem?_cons_zero, List.getElem?_cons_succ, List.set_cons_zero, List.set_cons_succ, List.getD_cons_zero, List.getD_cons_succ, List.length_cons, List.length_nil, List.length_set, List.drop_succ_cons, List.drop_zero, List.take_succ_cons, List.take_zero, List.reverse_cons, List.reverse_nil, List.nil_append, List.cons_append, List.append_nil, List.map_cons, List.map_nil, List.sum_cons, List.sum_nil, Value.category, ne_eq, Nat.reduceEqDiff, reduceIte, ite_self, false_implies, true_implies, true_and, and_true, and_self, Nat.zero_le, Nat.le_refl, Nat.reduceLeDiff, Nat.reduceAdd, Nat.reduceLT, Nat.add_zero, Nat.zero_add, pu_eq, not_false_eq_true, not_true_eq_false, forall_const, if_true, if_false, implies_true, H.f0, pu_add, pu_add0, pu_pu]
    refine ⟨fun c => ?_, fun c => ?_⟩
    · have hpos : ¬ ms ≤ 0 := by
        have : (0 : Int32).toInt < x.toInt := Int32.lt_iff_toInt_lt.mp c
        rw [hx] at this
        have e0 : (0 : Int32).toInt = 0 := rfl
        omega
      have e1 : nI 0 - 1 < 0 := by decide
      have hQ' := hQ h g H FS.rf (fun _ _ => rfl)
      have e : buN pr wo mb 0 T p ms st = st := by unfold buN; rw [if_neg (fun q => hpos q.1)]
      rw [e] at hQ'
      refine ⟨fun _ => hQ' h8 h9 hok, fun q => absurd e1 q⟩
    · have hneg : ms ≤ 0 := by
        have : x ≤ 0 := Int32.not_lt.mp c
        have := Int32.le_iff_toInt_le.mp this
        rw [hx] at this
        exact this
      have e := buN_hit (pr := pr) (wo := wo) (mb := mb) 0 (T := T) hneg hb
      rw [e] at hQ
      have H2 : SA (pu (pu h (s + 0) (SC s (ru g 0 8 (nI p)) 0)) (s + 0) (SC s (ru (ru g 0 8 (nI p)) 0 9 T) 0)) s (ru (ru g 0 8 (nI p)) 0 9 T) := (H.ru 0 8 (nI p)).ru 0 9 T
      rw [pu_pu] at H2
      have hQ' := hQ _ _ H2 (FS.rf.pu (by decide)) (fun q hq => by rw [ru_ne hq, ru_ne hq]) rfl rfl (fun q eq => by cases eq; simp only; omega)
      exact ⟨rfl, rfl, rfl, rfl, hQ'⟩
  | succ k ihk =>
    intro h g Q T x p ms st H hk hm hp hx hms1 hms2 h8 h9 hok hQ
    refine buy_of (pr := pr) (wo := wo) (mb := mb) (k := k + 1) (ms := ms) (st := st) H (by omega) h8 h9 hok hQ (fun hb => ?_)
    refine b_X9_buy_17 _ _ _ ?_
    simp only [i_const, i_load, i_aload, i_store, i_astore, i_inc, i_iadd, i_isub, i_imul, i_idiv, i_irem, i_iand, i_ior, i_ixor, i_ishl, i_ishr, i_iushr, i_ineg, i_i2l, i_i2b, i_i2c, i_lcmp, i_dup, i_dup2, i_pop, i_null, i_alen, i_iald, i_bald, i_lald, i_aald, i_iast, i_bast, i_last, i_aast, i_goto, i_icmp_eq, i_icmp_ne, i_icmp_lt, i_icmp_ge, i_icmp_gt, i_icmp_le, i_if_eq, i_if_ne, i_if_lt, i_if_ge, i_if_gt, i_if_le, i_ifnonnull, i_getf, i_putf, i_iret, i_zret, i_aret, i_vret, i_new, i_newa, i_anew, i_oinit, i_callv, i_calls, i_calli, i_max, i_min, i_abs, i_copy, i_throw, i_ldcs, pwt, List.getElem?_cons_zero, List.getElem?_cons_succ, List.set_cons_zero, List.set_cons_succ, List.getD_cons_zero, List.getD_cons_succ, List.length_cons, List.length_nil, List.length_set, List.drop_succ_cons, List.drop_zero, List.take_succ_cons, List.take_zero, List.reverse_cons, List.reverse_nil, List.nil_append, List.cons_append, List.append_nil, List.map_cons, List.map_nil, List.sum_cons, List.sum_nil, Value.category, ne_eq, Nat.reduceEqDiff, reduceIte, ite_self, false_implies, true_implies, true_and, and_true, and_self, Nat.zero_le, Nat.le_refl, Nat.reduceLeDiff, Nat.reduceAdd, Nat.reduceLT, Nat.add_zero, Nat.zero_add, pu_eq, not_false_eq_true, not_true_eq_false, forall_const, if_true, if_false, implies_true, H.f0, pu_add, pu_add0, pu_pu]
    refine ⟨fun c => ?_, fun c => ?_⟩
    · obtain ⟨m1, m2, m3, m4, m5⟩ := hm k (by omega)
      have e0 : nI (k + 1) - 1 = nI k := nI_pred k
      rw [e0]
      have e1 : ¬ nI k < 0 := nI_pos (by omega)
      have e2 : ¬ (12 : Int32) ≤ nI k := nI_ge (b := 12) (by omega) (by decide)
      have v24 : vp_in (nI k) 24 := vp_in_nI (by omega) (by decide)
      have ck : (nI k).toNatClampNeg = k := nI_clamp (by omega)
      refine ⟨fun q => absurd q e1, fun _ => ⟨fun q => absurd q e2, fun _ => ?_⟩⟩
      refine ihk (ms := ms) (st := st) H (by omega) (fun i hi => hm i (by omega)) (by omega) hx (by omega) hms2 h8 h9 hok (fun h1 g1 H1 F1 K1 a8 a9 aok => ?_)
      have r4 : g1 4 = g 4 := K1 4 (by decide)
      have r6 : g1 6 = g 6 := K1 6 (by decide)
      have r7 : g1 7 = g 7 := K1 7 (by decide)
      simp only [i_const, i_load, i_aload, i_store, i_astore, i_inc, i_iadd, i_isub, i_imul, i_idiv, i_irem, i_iand, i_ior, i_ixor, i_ishl, i_ishr, i_iushr, i_ineg, i_i2l, i_i2b, i_i2c, i_lcmp, i_dup, i_dup2, i_pop, i_null, i_alen, i_iald, i_bald, i_lald, i_aald, i_iast, i_bast, i_last, i_aast, i_goto, i_icmp_eq, i_icmp_ne, i_icmp_lt, i_icmp_ge, i_icmp_gt, i_icmp_le, i_if_eq, i_if_ne, i_if_lt, i_if_ge, i_if_gt, i_if_le, i_ifnonnull, i_getf, i_putf, i_iret, i_zret, i_aret, i_vret, i_new, i_newa, i_anew, i_oinit, i_callv, i_calls, i_calli, i_max, i_min, i_abs, i_copy, i_throw, i_ldcs, pwt, List.getElem?_cons_zero, List.getElem?_cons_succ, List.set_cons_zero, List.set_cons_succ, List.getD_cons_zero, List.getD_cons_succ, List.length_cons, List.length_nil, List.length_set, List.drop_succ_cons, List.drop_zero, List.take_succ_cons, List.take_zero, List.reverse_cons, List.reverse_nil, List.nil_append, List.cons_append, List.append_nil, List.map_cons, List.map_nil, List.sum_cons, List.sum_nil, Value.category, ne_eq, Nat.reduceEqDiff, reduceIte, ite_self, false_implies, true_implies, true_and, and_true, and_self, Nat.zero_le, Nat.le_refl, Nat.reduceLeDiff, Nat.reduceAdd, Nat.reduceLT, Nat.add_zero, Nat.zero_add, pu_eq, not_false_eq_true, not_true_eq_false, forall_const, if_true, if_false, implies_true, pRetK, H1.f0, H1.f4, H1.f6, H1.f7, r4, r6, r7, v24, ck, m1, m2, m4, nI_add]
      have hw : (nI (wo k)).toInt = wo k := nI_toInt (by omega)
      refine ihk (ms := ms - wo k) H1 (by omega) (fun i hi => ?_) (by omega) ?_ (by omega) (by omega) a8 a9 aok (fun h2 g2 H2 F2 K2 b8 b9 bok => ?_)
      · rw [r4, r6, r7]; exact hm i (by omega)
      · rw [sub_toInt (by omega) (by omega), hx, hw]
      · simp only [i_const, i_load, i_aload, i_store, i_astore, i_inc, i_iadd, i_isub, i_imul, i_idiv, i_irem, i_iand, i_ior, i_ixor, i_ishl, i_ishr, i_iushr, i_ineg, i_i2l, i_i2b, i_i2c, i_lcmp, i_dup, i_dup2, i_pop, i_null, i_alen, i_iald, i_bald, i_lald, i_aald, i_iast, i_bast, i_last, i_aast, i_goto, i_icmp_eq, i_icmp_ne, i_icmp_lt, i_icmp_ge, i_icmp_gt, i_icmp_le, i_if_eq, i_if_ne, i_if_lt, i_if_ge, i_if_gt, i_if_le, i_ifnonnull, i_getf, i_putf, i_iret, i_zret, i_aret, i_vret, i_new, i_newa, i_anew, i_oinit, i_callv, i_calls, i_calli, i_max, i_min, i_abs, i_copy, i_throw, i_ldcs, pwt, List.getElem?_cons_zero, List.getElem?_cons_succ, List.set_cons_zero, List.set_cons_succ, List.getD_cons_zero, List.getD_cons_succ, List.length_cons, List.length_nil, List.length_set, List.drop_succ_cons, List.drop_zero, List.take_succ_cons, List.take_zero, List.reverse_cons, List.reverse_nil, List.nil_append, List.cons_append, List.append_nil, List.map_cons, List.map_nil, List.sum_cons, List.sum_nil, Value.category, ne_eq, Nat.reduceEqDiff, reduceIte, ite_self, false_implies, true_implies, true_and, and_true, and_self, Nat.zero_le, Nat.le_refl, Nat.reduceLeDiff, Nat.reduceAdd, Nat.reduceLT, Nat.add_zero, Nat.zero_add, pu_eq, not_false_eq_true, not_true_eq_false, forall_const, if_true, if_false, implies_true, pRetK]
        exact hQ h2 g2 H2 (F1.tr F2) (fun q hq => (K2 q hq).trans (K1 q hq)) b8 b9 bok
    · have hneg : ms ≤ 0 := by
        have : x ≤ 0 := Int32.not_lt.mp c
        have := Int32.le_iff_toInt_le.mp this
        rw [hx] at this
        exact this
      have e := buN_hit (pr := pr) (wo := wo) (mb := mb) (k + 1) (T := T) hneg hb
      rw [e] at hQ
      have H2 : SA (pu (pu h (s + 0) (SC s (ru g 0 8 (nI p)) 0)) (s + 0) (SC s (ru (ru g 0 8 (nI p)) 0 9 T) 0)) s (ru (ru g 0 8 (nI p)) 0 9 T) := (H.ru 0 8 (nI p)).ru 0 9 T
      rw [pu_pu] at H2
      have hQ' := hQ _ _ H2 (FS.rf.pu (by decide)) (fun q hq => by rw [ru_ne hq, ru_ne hq]) rfl rfl (fun q eq => by cases eq; simp only; omega)
      exact ⟨rfl, rfl, rfl, rfl, hQ'⟩
def ofS (r : AR) (m : Nat) (man : Int32) : Int32 := orF (fun j => if (!decide (r 15 j = man) && alvB r (r 15 j)) = true then bitI j else 0) m
def woN (r : AR) (C : Option LawL) (man : Int32) (j : Nat) : Nat := (mx0 (jdS r C j man)).toNatClampNeg
def prN (r : AR) (C : Option LawL) (nl : Nat) (j : Nat) : Nat := (prS r C nl j).toNatClampNeg
def lsS (r : AR) (C : Option LawL) (man : Int32) (lk : Nat) : Option (Nat × Int32) :=
  buN (fun i => prN r C (cl r 17 0) (sl (ofS r (cl r 8 0) man) i)) (fun i => woN r C man (sl (ofS r (cl r 8 0) man) i)) (sl (ofS r (cl r 8 0) man)) (rk (ofS r (cl r 8 0) man) 24) 0 0 ((lk : Int) - (pbS r C (cl r 8 0) man).toInt) none
theorem WA.wo (W : WA r) (L : LK C) {man : Int32} {j : Nat} (hj : j < cl r 8 0) : mx0 (jdS r C j man) = nI (woN r C man j) ∧ woN r C man j ≤ 99900 := by
  have hh := W.2.2.2.1 j hj
  unfold woN
  rcases jdS_bd (man := man) L hh.2.2.2.1 hh.2.2.2.2.1 with e | ⟨x, hx, e⟩
  · rw [e]; exact ⟨by decide, by decide⟩
  · rw [e, mx0_nI x (by omega), nI_clamp (by omega)]; exact ⟨rfl, hx⟩
theorem lgT_le {r : AR} {m : Nat} {x : Int32} : lgT r m x ≤ m := ctF_le _ _
theorem WA.pr (W : WA r) (L : LK C) {j : Nat} (hj : j < cl r 8 0) : prS r C (cl r 17 0) j = nI (prN r C (cl r 17 0) j) ∧ prN r C (cl r 17 0) j ≤ 300000 := by
  refine ⟨(nn_nI prS_nn).1, ?_⟩
  unfold prN prS
  split
  · obtain ⟨x, hx, e⟩ := W.wth L hj
    have hd := (W.2.2.2.1 j hj).2.2.2.1
    have hl := lgT_le (r := r) (m := cl r 17 0) (x := nI j)
    have h60 := W.l60
    have hd2 := hd.2
    rw [e, hd.1, show (3 : Int32) = nI 3 from rfl, show (2 : Int32) = nI 2 from rfl, pk_mul, pk_mul, nI_add]
    generalize hA : x * 3 + cl r 12 j = A
    generalize hB : 2 * lgT r (cl r 17 0) (nI j) = B
    by_cases c : B ≤ A
    · rw [pk_sub c, mx0_nI _ (by omega), nI_clamp (by omega)]
      have := W.2.2.2.1 j hj
      omega
    · have : nI A - nI B < 0 := pk_sneg (by omega) (by omega)
      unfold mx0
      rw [if_neg (Int32.not_lt.mpr (Int32.le_of_lt this))]
      decide
  · decide
theorem WA.pb (W : WA r) (L : LK C) (man : Int32) : ∃ x, x ≤ 2400000 ∧ pbS r C (cl r 8 0) man = nI x := by
  obtain ⟨x, hx, e⟩ := suF_bd (f := fun j => if r 15 j = man then wthS r C j else 0) (B := 99900) (cl r 8 0) (by have := W.s24; omega) (fun j hj => by
    show ∃ x, x ≤ 99900 ∧ (if r 15 j = man then wthS r C j else 0) = nI x
    split
    · exact W.wth L hj
    · exact ⟨0, by omega, rfl⟩)
  exact ⟨x, by have := W.s24; omega, e⟩
theorem ofS_bit {m : Nat} (hm : m ≤ 24) {man : Int32} {j : Nat} (h : bI (ofS r m man) j = true) : j < m := by
  unfold ofS at h
  rw [bI_set (fun j => !decide (r 15 j = man) && alvB r (r 15 j)) (by omega), Bool.and_eq_true, decide_eq_true_iff] at h
  exact h.1
theorem c_X9_cheapest {man z : Int32} {lk : Nat} (X : AX h a r lw C) (W : WA r) (H : SA h s g) (D : DJ s a lw) (hlk : lk ≤ 999) (hQ : ∀ h' g', AX h' a r lw C → SA h' s g' → FQ s a lw h h' → Q (.inl (some (.int (if 12 < rk (ofS r (cl r 8 0) man) 24 then -3 else if z = 0 then bpI (lsS r C man lk) else bsI (lsS r C man lk))))) h' n) : pCall E M_X9_cheapest (d + 20) [.ref s, .ref a, .int man, .int (nI lk), .int z] h n Q := by
  refine pCall_of rfl rfl (Nat.le_of_ble_eq_true rfl) (by simp [Value.category]) ?_
  refine b_X9_cheapest_0 _ _ _ ?_
  simp only [pEntry, PM.nL, M_X9_cheapest, List.map_cons, List.map_nil, List.length_cons, List.length_nil, Nat.reduceAdd, Nat.reduceSub, Nat.sub_self, List.replicate_succ, List.replicate_zero, List.cons_append, List.nil_append]
  simp only [i_const, i_load, i_aload, i_store, i_astore, i_inc, i_iadd, i_isub, i_imul, i_idiv, i_irem, i_iand, i_ior, i_ixor, i_ishl, i_ishr, i_iushr, i_ineg, i_i2l, i_i2b, i_i2c, i_lcmp, i_dup, i_dup2, i_pop, i_null, i_alen, i_iald, i_bald, i_lald, i_aald, i_iast, i_bast, i_last, i_aast, i_goto, i_icmp_eq, i_icmp_ne, i_icmp_lt, i_icmp_ge, i_icmp_gt, i_icmp_le, i_if_eq, i_if_ne, i_if_lt, i_if_ge, i_if_gt, i_if_le, i_ifnonnull, i_getf, i_putf, i_iret, i_zret, i_aret, i_vret, i_new, i_newa, i_anew, i_oinit, i_callv, i_calls, i_calli, i_max, i_min, i_abs, i_copy, i_throw, i_ldcs, pwt, List.getElem?_cons_zero, List.getElem?_cons_succ, List.set_cons_zero, List.set_cons_succ, List.getD_cons_zero, List.getD_cons_succ, List.length_cons, List.length_nil, List.length_set, List.drop_succ_cons, List.drop_zero, List.take_succ_cons, List.take_zero, List.reverse_cons, List.reverse_nil, List.nil_append, List.cons_append, List.append_nil, List.map_cons, List.map_nil, List.sum_cons, List.sum_nil, Value.category, ne_eq, Nat.reduceEqDiff, reduceIte, ite_self, false_implies, true_implies, true_and, and_true, and_self, Nat.zero_le, Nat.le_refl, Nat.reduceLeDiff, Nat.reduceAdd, Nat.reduceLT, Nat.add_zero, Nat.zero_add, pu_eq, not_false_eq_true, not_true_eq_false, forall_const, if_true, if_false, implies_true]
  have L := X.2.lk
  refine pFor (cl r 8 0) (fun j ls σ => (∃ x7, ls = [some (.ref s), some (.ref a), some (.int man), some (.int (nI lk)), some (.int z), some (.int (ofS r j man)), some (.int (nI j)), x7]) ∧ σ = (h, n, 0, 0)) ?_ ?_ 0 (Nat.zero_le _) _ _ ⟨⟨_, rfl⟩, rfl⟩
  · rintro j hj ls σ ⟨⟨x7, rfl⟩, rfl⟩ ih
    obtain ⟨e1, e2, e3, e4⟩ := jFacts hj W.s24 (by decide)
    obtain ⟨f, HA⟩ := X.aa
    have no : ¬ (!decide (r 15 j = man) && alvB r (r 15 j)) = true → ofS r (j + 1) man = ofS r j man := fun q => by rw [ofS, orF, if_neg q, Int32.or_0]; rfl
    refine b_X9_cheapest_6 _ _ _ ?_
    simp only [i_const, i_load, i_aload, i_store, i_astore, i_inc, i_iadd, i_isub, i_imul, i_idiv, i_irem, i_iand, i_ior, i_ixor, i_ishl, i_ishr, i_iushr, i_ineg, i_i2l, i_i2b, i_i2c, i_lcmp, i_dup, i_dup2, i_pop, i_null, i_alen, i_iald, i_bald, i_lald, i_aald, i_iast, i_bast, i_last, i_aast, i_goto, i_icmp_eq, i_icmp_ne, i_icmp_lt, i_icmp_ge, i_icmp_gt, i_icmp_le, i_if_eq, i_if_ne, i_if_lt, i_if_ge, i_if_gt, i_if_le, i_ifnonnull, i_getf, i_putf, i_iret, i_zret, i_aret, i_vret, i_new, i_newa, i_anew, i_oinit, i_callv, i_calls, i_calli, i_max, i_min, i_abs, i_copy, i_throw, i_ldcs, pwt, List.getElem?_cons_zero, List.getElem?_cons_succ, List.set_cons_zero, List.set_cons_succ, List.getD_cons_zero, List.getD_cons_succ, List.length_cons, List.length_nil, List.length_set, List.drop_succ_cons, List.drop_zero, List.take_succ_cons, List.take_zero, List.reverse_cons, List.reverse_nil, List.nil_append, List.cons_append, List.append_nil, List.map_cons, List.map_nil, List.sum_cons, List.sum_nil, Value.category, ne_eq, Nat.reduceEqDiff, reduceIte, ite_self, false_implies, true_implies, true_and, and_true, and_self, Nat.zero_le, Nat.le_refl, Nat.reduceLeDiff, Nat.reduceAdd, Nat.reduceLT, Nat.add_zero, Nat.zero_add, pu_eq, not_false_eq_true, not_true_eq_false, forall_const, if_true, if_false, implies_true, X.f0, X.f8, X.f15, X.f5, W.hs, e1, e2, e3, e4]
    refine ⟨fun c => ?_, fun c => ?_⟩
    · rw [no (by rw [decide_eq_true c]; simp)] at ih
      exact ih _ _ ⟨⟨_, rfl⟩, rfl⟩
    · refine c_X7_isAlive HA (fun c2 => ?_) (fun c2 => ?_)
      · simp only [i_const, i_load, i_aload, i_store, i_astore, i_inc, i_iadd, i_isub, i_imul, i_idiv, i_irem, i_iand, i_ior, i_ixor, i_ishl, i_ishr, i_iushr, i_ineg, i_i2l, i_i2b, i_i2c, i_lcmp, i_dup, i_dup2, i_pop, i_null, i_alen, i_iald, i_bald, i_lald, i_aald, i_iast, i_bast, i_last, i_aast, i_goto, i_icmp_eq, i_icmp_ne, i_icmp_lt, i_icmp_ge, i_icmp_gt, i_icmp_le, i_if_eq, i_if_ne, i_if_lt, i_if_ge, i_if_gt, i_if_le, i_ifnonnull, i_getf, i_putf, i_iret, i_zret, i_aret, i_vret, i_new, i_newa, i_anew, i_oinit, i_callv, i_calls, i_calli, i_max, i_min, i_abs, i_copy, i_throw, i_ldcs, pwt, List.getElem?_cons_zero, List.getElem?_cons_succ, List.set_cons_zero, List.set_cons_succ, List.getD_cons_zero, List.getD_cons_succ, List.length_cons, List.length_nil, List.length_set, List.drop_succ_cons, List.drop_zero, List.take_succ_cons, List.take_zero, List.reverse_cons, List.reverse_nil, List.nil_append, List.cons_append, List.append_nil, List.map_cons, List.map_nil, List.sum_cons, List.sum_nil, Value.category, ne_eq, Nat.reduceEqDiff, reduceIte, ite_self, false_implies, true_implies, true_and, and_true, and_self, Nat.zero_le, Nat.le_refl, Nat.reduceLeDiff, Nat.reduceAdd, Nat.reduceLT, Nat.add_zero, Nat.zero_add, pu_eq, not_false_eq_true, not_true_eq_false, forall_const, if_true, if_false, implies_true, pRetK, e4]
        refine ⟨fun q => absurd q (by decide), fun _ => ?_⟩
        rw [ofS, orF, if_pos (by rw [decide_eq_false c, alvB_t (r := r) (x := r 15 j) c2]; rfl)] at ih
        exact ih _ _ ⟨⟨_, rfl⟩, rfl⟩
      · simp only [i_const, i_load, i_aload, i_store, i_astore, i_inc, i_iadd, i_isub, i_imul, i_idiv, i_irem, i_iand, i_ior, i_ixor, i_ishl, i_ishr, i_iushr, i_ineg, i_i2l, i_i2b, i_i2c, i_lcmp, i_dup, i_dup2, i_pop, i_null, i_alen, i_iald, i_bald, i_lald, i_aald, i_iast, i_bast, i_last, i_aast, i_goto, i_icmp_eq, i_icmp_ne, i_icmp_lt, i_icmp_ge, i_icmp_gt, i_icmp_le, i_if_eq, i_if_ne, i_if_lt, i_if_ge, i_if_gt, i_if_le, i_ifnonnull, i_getf, i_putf, i_iret, i_zret, i_aret, i_vret, i_new, i_newa, i_anew, i_oinit, i_callv, i_calls, i_calli, i_max, i_min, i_abs, i_copy, i_throw, i_ldcs, pwt, List.getElem?_cons_zero, List.getElem?_cons_succ, List.set_cons_zero, List.set_cons_succ, List.getD_cons_zero, List.getD_cons_succ, List.length_cons, List.length_nil, List.length_set, List.drop_succ_cons, List.drop_zero, List.take_succ_cons, List.take_zero, List.reverse_cons, List.reverse_nil, List.nil_append, List.cons_append, List.append_nil, List.map_cons, List.map_nil, List.sum_cons, List.sum_nil, Value.category, ne_eq, Nat.reduceEqDiff, reduceIte, ite_self, false_implies, true_implies, true_and, and_true, and_self, Nat.zero_le, Nat.le_refl, Nat.reduceLeDiff, Nat.reduceAdd, Nat.reduceLT, Nat.add_zero, Nat.zero_add, pu_eq, not_false_eq_true, not_true_eq_false, forall_const, if_true, if_false, implies_true, pRetK, e4]
        rw [no (by rw [alvB_f (r := r) (x := r 15 j) c2]; simp)] at ih
        exact ih _ _ ⟨⟨_, rfl⟩, rfl⟩
  · rintro ls σ ⟨⟨x7, rfl⟩, rfl⟩
    refine b_X9_cheapest_6 _ _ _ ?_
    simp only [i_const, i_load, i_aload, i_store, i_astore, i_inc, i_iadd, i_isub, i_imul, i_idiv, i_irem, i_iand, i_ior, i_ixor, i_ishl, i_ishr, i_iushr, i_ineg, i_i2l, i_i2b, i_i2c, i_lcmp, i_dup, i_dup2, i_pop, i_null, i_alen, i_iald, i_bald, i_lald, i_aald, i_iast, i_bast, i_last, i_aast, i_goto, i_icmp_eq, i_icmp_ne, i_icmp_lt, i_icmp_ge, i_icmp_gt, i_icmp_le, i_if_eq, i_if_ne, i_if_lt, i_if_ge, i_if_gt, i_if_le, i_ifnonnull, i_getf, i_putf, i_iret, i_zret, i_aret, i_vret, i_new, i_newa, i_anew, i_oinit, i_callv, i_calls, i_calli, i_max, i_min, i_abs, i_copy, i_throw, i_ldcs, pwt, List.getElem?_cons_zero, List.getElem?_cons_succ, List.set_cons_zero, List.set_cons_succ, List.getD_cons_zero, List.getD_cons_succ, List.length_cons, List.length_nil, List.length_set, List.drop_succ_cons, List.drop_zero, List.take_succ_cons, List.take_zero, List.reverse_cons, List.reverse_nil, List.nil_append, List.cons_append, List.append_nil, List.map_cons, List.map_nil, List.sum_cons, List.sum_nil, Value.category, ne_eq, Nat.reduceEqDiff, reduceIte, ite_self, false_implies, true_implies, true_and, and_true, and_self, Nat.zero_le, Nat.le_refl, Nat.reduceLeDiff, Nat.reduceAdd, Nat.reduceLT, Nat.add_zero, Nat.zero_add, pu_eq, not_false_eq_true, not_true_eq_false, forall_const, if_true, if_false, implies_true, X.f0, X.f8, W.hs, nI_le_self, H.f0]
    unfold lsS at hQ
    have hbits : ∀ j, bI (ofS r (cl r 8 0) man) j = true → j < cl r 8 0 := fun j hj => ofS_bit W.s24 hj
    generalize hO : ofS r (cl r 8 0) man = O at *
    refine c_X9_listMembers H (fun h1 g1 H1 F1 K1 L1 => ?_)
    have X1 := F1.ax D X
    have h24 : rk O 24 ≤ 24 := rk_le
    simp only [i_const, i_load, i_aload, i_store, i_astore, i_inc, i_iadd, i_isub, i_imul, i_idiv, i_irem, i_iand, i_ior, i_ixor, i_ishl, i_ishr, i_iushr, i_ineg, i_i2l, i_i2b, i_i2c, i_lcmp, i_dup, i_dup2, i_pop, i_null, i_alen, i_iald, i_bald, i_lald, i_aald, i_iast, i_bast, i_last, i_aast, i_goto, i_icmp_eq, i_icmp_ne, i_icmp_lt, i_icmp_ge, i_icmp_gt, i_icmp_le, i_if_eq, i_if_ne, i_if_lt, i_if_ge, i_if_gt, i_if_le, i_ifnonnull, i_getf, i_putf, i_iret, i_zret, i_aret, i_vret, i_new, i_newa, i_anew, i_oinit, i_callv, i_calls, i_calli, i_max, i_min, i_abs, i_copy, i_throw, i_ldcs, pwt, List.getElem?_cons_zero, List.getElem?_cons_succ, List.set_cons_zero, List.set_cons_succ, List.getD_cons_zero, List.getD_cons_succ, List.length_cons, List.length_nil, List.length_set, List.drop_succ_cons, List.drop_zero, List.take_succ_cons, List.take_zero, List.reverse_cons, List.reverse_nil, List.nil_append, List.cons_append, List.append_nil, List.map_cons, List.map_nil, List.sum_cons, List.sum_nil, Value.category, ne_eq, Nat.reduceEqDiff, reduceIte, ite_self, false_implies, true_implies, true_and, and_true, and_self, Nat.zero_le, Nat.le_refl, Nat.reduceLeDiff, Nat.reduceAdd, Nat.reduceLT, Nat.add_zero, Nat.zero_add, pu_eq, not_false_eq_true, not_true_eq_false, forall_const, if_true, if_false, implies_true, pRetK]
    refine ⟨fun c => ?_, fun c => ?_⟩
    · have c' : rk O 24 ≤ 12 := (nI_leI (b := 12) (by omega) (by decide)).mp c
      rw [if_neg (by omega)] at hQ
      have slm : ∀ i, i < rk O 24 → sl O i < cl r 8 0 := fun i hi => hbits _ (sl_of hi).2.1
      refine pFor (rk O 24) (fun i ls σ => ∃ h2 g2, AX h2 a r lw C ∧ SA h2 s g2 ∧ FQ s a lw h h2 ∧ (∀ q, q < rk O 24 → g2 4 q = nI (sl O q)) ∧ (∀ q, q < i → g2 6 q = nI (woN r C man (sl O q)) ∧ g2 7 q = nI (prN r C (cl r 17 0) (sl O q))) ∧ ls = [some (.ref s), some (.ref a), some (.int man), some (.int (nI lk)), some (.int z), some (.int O), some (.int (nI (rk O 24))), some (.int (nI i))] ∧ σ = (h2, n, 0, 0)) ?_ ?_ 0 (Nat.zero_le _) _ _ ⟨h1, g1, X1, H1, F1.fq, L1, fun q hq => absurd hq (Nat.not_lt_zero q), rfl, rfl⟩
      · rintro i hi ls σ ⟨h2, g2, X2, H2, F2, L2, K2, rfl, rfl⟩ ih
        obtain ⟨e1, e2, e3, e4⟩ := jFacts hi h24 (by decide)
        obtain ⟨bb, hb, hb2⟩ := W.wr (sl O i) (slm i hi)
        refine b_X9_cheapest_84 _ _ _ ?_
        simp only [i_const, i_load, i_aload, i_store, i_astore, i_inc, i_iadd, i_isub, i_imul, i_idiv, i_irem, i_iand, i_ior, i_ixor, i_ishl, i_ishr, i_iushr, i_ineg, i_i2l, i_i2b, i_i2c, i_lcmp, i_dup, i_dup2, i_pop, i_null, i_alen, i_iald, i_bald, i_lald, i_aald, i_iast, i_bast, i_last, i_aast, i_goto, i_icmp_eq, i_icmp_ne, i_icmp_lt, i_icmp_ge, i_icmp_gt, i_icmp_le, i_if_eq, i_if_ne, i_if_lt, i_if_ge, i_if_gt, i_if_le, i_ifnonnull, i_getf, i_putf, i_iret, i_zret, i_aret, i_vret, i_new, i_newa, i_anew, i_oinit, i_callv, i_calls, i_calli, i_max, i_min, i_abs, i_copy, i_throw, i_ldcs, pwt, List.getElem?_cons_zero, List.getElem?_cons_succ, List.set_cons_zero, List.set_cons_succ, List.getD_cons_zero, List.getD_cons_succ, List.length_cons, List.length_nil, List.length_set, List.drop_succ_cons, List.drop_zero, List.take_succ_cons, List.take_zero, List.reverse_cons, List.reverse_nil, List.nil_append, List.cons_append, List.append_nil, List.map_cons, List.map_nil, List.sum_cons, List.sum_nil, Value.category, ne_eq, Nat.reduceEqDiff, reduceIte, ite_self, false_implies, true_implies, true_and, and_true, and_self, Nat.zero_le, Nat.le_refl, Nat.reduceLeDiff, Nat.reduceAdd, Nat.reduceLT, Nat.add_zero, Nat.zero_add, pu_eq, not_false_eq_true, not_true_eq_false, forall_const, if_true, if_false, implies_true, e1, e2, e3, H2.f0, H2.f4, L2 i hi, X2.f0]
        refine c_X0_judgedOn (d := d + 17) X2 (Nat.lt_of_lt_of_le (slm i hi) W.s24) hb2 hb (fun h3 X3 F3 => ?_)
        have H3 := F3.sa D H2
        have hwo := W.wo L (man := man) (slm i hi)
        have hwo' : (if 0 < jdS r C (sl O i) man then jdS r C (sl O i) man else 0) = nI (woN r C man (sl O i)) := hwo.1
        have pa : ∀ c : PC, pu h3 (s + 6) c a = h3 a := fun c => pu_ne (by have := D.1; omega)
        simp only [i_const, i_load, i_aload, i_store, i_astore, i_inc, i_iadd, i_isub, i_imul, i_idiv, i_irem, i_iand, i_ior, i_ixor, i_ishl, i_ishr, i_iushr, i_ineg, i_i2l, i_i2b, i_i2c, i_lcmp, i_dup, i_dup2, i_pop, i_null, i_alen, i_iald, i_bald, i_lald, i_aald, i_iast, i_bast, i_last, i_aast, i_goto, i_icmp_eq, i_icmp_ne, i_icmp_lt, i_icmp_ge, i_icmp_gt, i_icmp_le, i_if_eq, i_if_ne, i_if_lt, i_if_ge, i_if_gt, i_if_le, i_ifnonnull, i_getf, i_putf, i_iret, i_zret, i_aret, i_vret, i_new, i_newa, i_anew, i_oinit, i_callv, i_calls, i_calli, i_max, i_min, i_abs, i_copy, i_throw, i_ldcs, pwt, List.getElem?_cons_zero, List.getElem?_cons_succ, List.set_cons_zero, List.set_cons_succ, List.getD_cons_zero, List.getD_cons_succ, List.length_cons, List.length_nil, List.length_set, List.drop_succ_cons, List.drop_zero, List.take_succ_cons, List.take_zero, List.reverse_cons, List.reverse_nil, List.nil_append, List.cons_append, List.append_nil, List.map_cons, List.map_nil, List.sum_cons, List.sum_nil, Value.category, ne_eq, Nat.reduceEqDiff, reduceIte, ite_self, false_implies, true_implies, true_and, and_true, and_self, Nat.zero_le, Nat.le_refl, Nat.reduceLeDiff, Nat.reduceAdd, Nat.reduceLT, Nat.add_zero, Nat.zero_add, pu_eq, not_false_eq_true, not_true_eq_false, forall_const, if_true, if_false, implies_true, pRetK, hwo', e2, e3, H3.f0, H3.f4, H3.f6, H3.f7, L2 i hi, X3.f0, pu_add, pu_add0, pa]
        have F4 : FS s h3 (pu h3 (s + 6) (SC s (ru g2 6 i (nI (woN r C man (sl O i)))) 6)) := FS.rf.pu (by decide)
        have X4 := F4.ax D X3
        have H4 := H3.ru 6 i (nI (woN r C man (sl O i)))
        refine c_X0_priceOf (d := d + 15) X4 (slm i hi) W.s24 W.wr W.hl W.l60 (fun h5 X5 F5 => ?_)
        have H5 := F5.sa D H4
        have hpr := W.pr L (slm i hi)
        rw [hpr.1]
        simp only [i_const, i_load, i_aload, i_store, i_astore, i_inc, i_iadd, i_isub, i_imul, i_idiv, i_irem, i_iand, i_ior, i_ixor, i_ishl, i_ishr, i_iushr, i_ineg, i_i2l, i_i2b, i_i2c, i_lcmp, i_dup, i_dup2, i_pop, i_null, i_alen, i_iald, i_bald, i_lald, i_aald, i_iast, i_bast, i_last, i_aast, i_goto, i_icmp_eq, i_icmp_ne, i_icmp_lt, i_icmp_ge, i_icmp_gt, i_icmp_le, i_if_eq, i_if_ne, i_if_lt, i_if_ge, i_if_gt, i_if_le, i_ifnonnull, i_getf, i_putf, i_iret, i_zret, i_aret, i_vret, i_new, i_newa, i_anew, i_oinit, i_callv, i_calls, i_calli, i_max, i_min, i_abs, i_copy, i_throw, i_ldcs, pwt, List.getElem?_cons_zero, List.getElem?_cons_succ, List.set_cons_zero, List.set_cons_succ, List.getD_cons_zero, List.getD_cons_succ, List.length_cons, List.length_nil, List.length_set, List.drop_succ_cons, List.drop_zero, List.take_succ_cons, List.take_zero, List.reverse_cons, List.reverse_nil, List.nil_append, List.cons_append, List.append_nil, List.map_cons, List.map_nil, List.sum_cons, List.sum_nil, Value.category, ne_eq, Nat.reduceEqDiff, reduceIte, ite_self, false_implies, true_implies, true_and, and_true, and_self, Nat.zero_le, Nat.le_refl, Nat.reduceLeDiff, Nat.reduceAdd, Nat.reduceLT, Nat.add_zero, Nat.zero_add, pu_eq, not_false_eq_true, not_true_eq_false, forall_const, if_true, if_false, implies_true, pRetK, e2, e3, e4, H5.f0, H5.f7]
        have F6 : FS s h5 (pu h5 (s + 7) (SC s (ru (ru g2 6 i (nI (woN r C man (sl O i)))) 7 i (nI (prN r C (cl r 17 0) (sl O i)))) 7)) := FS.rf.pu (by decide)
        refine ih _ _ ⟨_, _, F6.ax D X5, H5.ru 7 i _, (((F2.tr F3.fq).tr F4.fq).tr F5.fq).tr F6.fq, fun q hq => L2 q hq, fun q hq => ?_, rfl, rfl⟩
        simp only [ru_at]
        by_cases e : q = i
        · subst e
          exact ⟨by simp, by simp⟩
        · rw [if_neg (by omega), if_neg (by omega), if_neg (by omega), if_neg (by omega)]
          exact K2 q (by omega)
      · rintro ls σ ⟨h2, g2, X2, H2, F2, L2, K2, rfl, rfl⟩
        have H3 : SA (pu (pu h2 (s + 0) (SC s (ru g2 0 8 (-1)) 0)) (s + 0) (SC s (ru (ru g2 0 8 (-1)) 0 9 (-1)) 0)) s (ru (ru g2 0 8 (-1)) 0 9 (-1)) := (H2.ru 0 8 (-1)).ru 0 9 (-1)
        rw [pu_pu] at H3
        have F3 : FS s h2 (pu h2 (s + 0) (SC s (ru (ru g2 0 8 (-1)) 0 9 (-1)) 0)) := FS.rf.pu (by decide)
        have X3 := F3.ax D X2
        have pa : ∀ c : PC, pu h2 s c a = h2 a := fun c => pu_ne (by have := D.1; omega)
        refine b_X9_cheapest_84 _ _ _ ?_
        simp only [i_const, i_load, i_aload, i_store, i_astore, i_inc, i_iadd, i_isub, i_imul, i_idiv, i_irem, i_iand, i_ior, i_ixor, i_ishl, i_ishr, i_iushr, i_ineg, i_i2l, i_i2b, i_i2c, i_lcmp, i_dup, i_dup2, i_pop, i_null, i_alen, i_iald, i_bald, i_lald, i_aald, i_iast, i_bast, i_last, i_aast, i_goto, i_icmp_eq, i_icmp_ne, i_icmp_lt, i_icmp_ge, i_icmp_gt, i_icmp_le, i_if_eq, i_if_ne, i_if_lt, i_if_ge, i_if_gt, i_if_le, i_ifnonnull, i_getf, i_putf, i_iret, i_zret, i_aret, i_vret, i_new, i_newa, i_anew, i_oinit, i_callv, i_calls, i_calli, i_max, i_min, i_abs, i_copy, i_throw, i_ldcs, pwt, List.getElem?_cons_zero, List.getElem?_cons_succ, List.set_cons_zero, List.set_cons_succ, List.getD_cons_zero, List.getD_cons_succ, List.length_cons, List.length_nil, List.length_set, List.drop_succ_cons, List.drop_zero, List.take_succ_cons, List.take_zero, List.reverse_cons, List.reverse_nil, List.nil_append, List.cons_append, List.append_nil, List.map_cons, List.map_nil, List.sum_cons, List.sum_nil, Value.category, ne_eq, Nat.reduceEqDiff, reduceIte, ite_self, false_implies, true_implies, true_and, and_true, and_self, Nat.zero_le, Nat.le_refl, Nat.reduceLeDiff, Nat.reduceAdd, Nat.reduceLT, Nat.add_zero, Nat.zero_add, pu_eq, not_false_eq_true, not_true_eq_false, forall_const, if_true, if_false, implies_true, nI_le_self, H2.f0, X2.f0, pu_pu, pa]
        refine ⟨rfl, rfl, rfl, rfl, ?_⟩
        refine c_X0_worthBorneBy (d := d + 15) (h := pu h2 (s + 0) (SC s (ru (ru g2 0 8 (-1)) 0 9 (-1)) 0)) X3 W.hs W.s24 W.wr (fun h4 X4 F4 => ?_)
        have H4 := F4.sa D H3
        obtain ⟨w, hw, ew⟩ := W.pb L man
        have ew' : suF (fun j => if r 15 j = man then wthS r C j else 0) (cl r 8 0) = nI w := ew
        rw [ew']
        rw [ew, nI_toInt (by omega)] at hQ
        simp only [i_const, i_load, i_aload, i_store, i_astore, i_inc, i_iadd, i_isub, i_imul, i_idiv, i_irem, i_iand, i_ior, i_ixor, i_ishl, i_ishr, i_iushr, i_ineg, i_i2l, i_i2b, i_i2c, i_lcmp, i_dup, i_dup2, i_pop, i_null, i_alen, i_iald, i_bald, i_lald, i_aald, i_iast, i_bast, i_last, i_aast, i_goto, i_icmp_eq, i_icmp_ne, i_icmp_lt, i_icmp_ge, i_icmp_gt, i_icmp_le, i_if_eq, i_if_ne, i_if_lt, i_if_ge, i_if_gt, i_if_le, i_ifnonnull, i_getf, i_putf, i_iret, i_zret, i_aret, i_vret, i_new, i_newa, i_anew, i_oinit, i_callv, i_calls, i_calli, i_max, i_min, i_abs, i_copy, i_throw, i_ldcs, pwt, List.getElem?_cons_zero, List.getElem?_cons_succ, List.set_cons_zero, List.set_cons_succ, List.getD_cons_zero, List.getD_cons_succ, List.length_cons, List.length_nil, List.length_set, List.drop_succ_cons, List.drop_zero, List.take_succ_cons, List.take_zero, List.reverse_cons, List.reverse_nil, List.nil_append, List.cons_append, List.append_nil, List.map_cons, List.map_nil, List.sum_cons, List.sum_nil, Value.category, ne_eq, Nat.reduceEqDiff, reduceIte, ite_self, false_implies, true_implies, true_and, and_true, and_self, Nat.zero_le, Nat.le_refl, Nat.reduceLeDiff, Nat.reduceAdd, Nat.reduceLT, Nat.add_zero, Nat.zero_add, pu_eq, not_false_eq_true, not_true_eq_false, forall_const, if_true, if_false, implies_true, pRetK, H4.f0]
        have hms : (nI lk - nI w).toInt = (lk : Int) - w := pk_sub_toInt (by omega) (by omega)
        have call := c_X9_buy (E := E) (n := n) (s := s) (d := d + 18 - rk O 24) (pr := fun i => prN r C (cl r 17 0) (sl O i)) (wo := fun i => woN r C man (sl O i)) (mb := sl O) (rk O 24) (h := h4) (g := ru (ru g2 0 8 (-1)) 0 9 (-1)) (Q := pRetK (i_load 4 (i_if_eq (i_aload 0 (i_getf 9 8 (i_iret 0 0 Q))) (i_aload 0 (i_getf 9 9 (i_goto (i_iret 0 0 Q)))))) Q [some (.ref s), some (.ref a), some (.int man), some (.int (nI lk)), some (.int z), some (.int O), some (.int (nI (rk O 24))), some (.int (nI (rk O 24)))] [] (0, 0)) (T := 0) (p := 0) (x := nI lk - nI w) (ms := (lk : Int) - w) (st := none) H4 c' (fun i hi => ⟨L2 i hi, (K2 i hi).1, by have := (W.wo L (man := man) (slm i hi)).2; omega, (K2 i hi).2, by have := (W.pr L (slm i hi)).2; omega⟩) (by omega) hms (by omega) (by omega) rfl rfl (fun q e => by cases e) (fun h5 g5 H5 F5 K5 a8 a9 _ => ?_)
        · rw [show d + 18 - rk O 24 + rk O 24 + 1 = d + 19 by omega] at call
          exact call
        · have X5 := F5.ax D X4
          have hQ' := hQ h5 g5 X5 H5 (((F2.tr F3.fq).tr F4.fq).tr F5.fq)
          simp only [i_const, i_load, i_aload, i_store, i_astore, i_inc, i_iadd, i_isub, i_imul, i_idiv, i_irem, i_iand, i_ior, i_ixor, i_ishl, i_ishr, i_iushr, i_ineg, i_i2l, i_i2b, i_i2c, i_lcmp, i_dup, i_dup2, i_pop, i_null, i_alen, i_iald, i_bald, i_lald, i_aald, i_iast, i_bast, i_last, i_aast, i_goto, i_icmp_eq, i_icmp_ne, i_icmp_lt, i_icmp_ge, i_icmp_gt, i_icmp_le, i_if_eq, i_if_ne, i_if_lt, i_if_ge, i_if_gt, i_if_le, i_ifnonnull, i_getf, i_putf, i_iret, i_zret, i_aret, i_vret, i_new, i_newa, i_anew, i_oinit, i_callv, i_calls, i_calli, i_max, i_min, i_abs, i_copy, i_throw, i_ldcs, pwt, List.getElem?_cons_zero, List.getElem?_cons_succ, List.set_cons_zero, List.set_cons_succ, List.getD_cons_zero, List.getD_cons_succ, List.length_cons, List.length_nil, List.length_set, List.drop_succ_cons, List.drop_zero, List.take_succ_cons, List.take_zero, List.reverse_cons, List.reverse_nil, List.nil_append, List.cons_append, List.append_nil, List.map_cons, List.map_nil, List.sum_cons, List.sum_nil, Value.category, ne_eq, Nat.reduceEqDiff, reduceIte, ite_self, false_implies, true_implies, true_and, and_true, and_self, Nat.zero_le, Nat.le_refl, Nat.reduceLeDiff, Nat.reduceAdd, Nat.reduceLT, Nat.add_zero, Nat.zero_add, pu_eq, not_false_eq_true, not_true_eq_false, forall_const, if_true, if_false, implies_true, pRetK, H5.f0, a8, a9]
          refine ⟨fun q => ?_, fun q => ?_⟩
          · rw [if_pos q] at hQ'; exact hQ'
          · rw [if_neg q] at hQ'; exact hQ'
    · have c' : 12 < rk O 24 := by
        by_cases q : 12 < rk O 24
        · exact q
        · exact absurd (nI_le (b := 12) (by omega) (by decide)) c
      rw [if_pos c'] at hQ
      exact hQ h1 g1 X1 H1 F1.fq
end LEAST

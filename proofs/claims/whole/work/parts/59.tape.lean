/-! the tape: things that are read -/
section TAPE
variable {E : PE} {M : PM} {d : Nat} {Q : PQ} {h : PH} {n : Nat} {a b s t : Nat} {r rb g : AR} {lw lb : Option Nat} {C Cb : Option LawL} {pc : Nat}
def runF (P : Nat → Bool) : Nat → Nat → Nat
  | 0, p => p
  | k + 1, p => if P p = true then runF P k (p + 1) else p
/-- from p on as long as P holds, below L -/
def adv (P : Nat → Bool) (L p : Nat) : Nat := runF P (L - p) p
theorem runF_spec (P : Nat → Bool) : ∀ k p, p ≤ runF P k p ∧ runF P k p ≤ p + k ∧ (∀ q, p ≤ q → q < runF P k p → P q = true) ∧ (runF P k p < p + k → P (runF P k p) = false)
  | 0, p => ⟨Nat.le_refl _, Nat.le_refl _, fun q h1 h2 => absurd h2 (by show ¬ q < p; omega), fun h => absurd h (Nat.lt_irrefl _)⟩
  | k + 1, p => by
    unfold runF
    by_cases c : P p = true
    · rw [if_pos c]
      obtain ⟨h1, h2, h3, h4⟩ := runF_spec P k (p + 1)
      refine ⟨by omega, by omega, fun q q1 q2 => ?_, fun q => h4 (by omega)⟩
      by_cases e : q = p
      · subst e; exact c
      · exact h3 q (by omega) q2
    · rw [if_neg c]
      exact ⟨Nat.le_refl _, by omega, fun q q1 q2 => absurd q2 (by omega), fun _ => by cases h : P p <;> simp_all⟩
theorem adv_ge (P : Nat → Bool) (L p : Nat) : p ≤ adv P L p := (runF_spec P (L - p) p).1
theorem adv_le (P : Nat → Bool) {L p : Nat} (h : p ≤ L) : adv P L p ≤ L := by have := (runF_spec P (L - p) p).2.1; unfold adv; omega
theorem adv_in (P : Nat → Bool) {L p q : Nat} (h1 : p ≤ q) (h2 : q < adv P L p) : P q = true := (runF_spec P (L - p) p).2.2.1 q h1 h2
theorem adv_out (P : Nat → Bool) {L p : Nat} (h0 : p ≤ L) (h : adv P L p < L) : P (adv P L p) = false := (runF_spec P (L - p) p).2.2.2 (by unfold adv at h; omega)
theorem adv_eq (P : Nat → Bool) {L p e : Nat} (h1 : p ≤ e) (h2 : e ≤ L) (h3 : ∀ q, p ≤ q → q < e → P q = true) (h4 : e < L → P e = false) : adv P L p = e := by
  have k1 := adv_ge P L p
  have k2 := adv_le P (show p ≤ L by omega)
  by_cases c : adv P L p < e
  · have := adv_out P (show p ≤ L by omega) (show adv P L p < L by omega)
    rw [h3 _ k1 c] at this; cases this
  · by_cases c2 : e < adv P L p
    · have := adv_in P h1 c2
      rw [h4 (by omega)] at this; cases this
    · omega
def blP (f : Nat → Int32) (q : Nat) : Bool := decide (f q = 32)
def rgP (f : Nat → Int32) (lo hi : Int32) (q : Nat) : Bool := decide (lo ≤ f q ∧ f q ≤ hi)
def skb (f : Nat → Int32) (L p : Nat) : Nat := adv (blP f) L p
/-- where the thing ends that begins at b -/
def tkE (f : Nat → Int32) (L b : Nat) : Nat := if b < L ∧ rgP f 97 122 b = true then adv (rgP f 97 122) L (b + 1) else if b < L ∧ rgP f 48 57 b = true then adv (rgP f 48 57) L (b + 1) else min L (b + 1)
def dgI (f : Nat → Int32) (L b : Nat) : Int32 := if b < L ∧ rgP f 48 57 b = true then 1 else 0
theorem tkE_le {f : Nat → Int32} {L b : Nat} : tkE f L b ≤ L := by
  unfold tkE
  split
  · rename_i c; exact adv_le _ (by omega)
  · split
    · rename_i c; exact adv_le _ (by omega)
    · omega
theorem tkE_ge {f : Nat → Int32} {L b : Nat} (h : b ≤ L) : b ≤ tkE f L b := by
  unfold tkE
  split
  · exact Nat.le_trans (Nat.le_succ b) (adv_ge _ _ _)
  · split
    · exact Nat.le_trans (Nat.le_succ b) (adv_ge _ _ _)
    · omega
theorem skb_le {f : Nat → Int32} {L p : Nat} (h : p ≤ L) : skb f L p ≤ L := adv_le _ h
def TR (h : PH) (t L b : Nat) (z v : Int32) (e : Nat) (f : Nat → Int32) : Prop := h t = some (.inr (10, [.int (nI L), .int (nI b), .int z, .int v, .int (nI e), .ref (t + 1)])) ∧ h (t + 1) = some (.inl (.byte, (400, .inl f)))
/-- the tape stands at the thing that begins at b -/
def TP (h : PH) (t L : Nat) (f : Nat → Int32) (b : Nat) (v : Int32) : Prop := TR h t L b (dgI f L b) v (tkE f L b) f
def FT (t : Nat) (h h' : PH) : Prop := ∀ q, q ≠ t → h' q = h q
theorem FT.rf : FT t h h := fun _ _ => rfl
theorem FT.tr {h' h'' : PH} (F : FT t h h') (G : FT t h' h'') : FT t h h'' := fun q hq => (G q hq).trans (F q hq)
theorem FT.pu {h' : PH} {c : PC} (F : FT t h h') : FT t h (pu h' t c) := fun q hq => by rw [pu_ne hq]; exact F q hq
theorem TR.put {L b L' b' : Nat} {z v z' v' : Int32} {e e' : Nat} {f : Nat → Int32} (T : TR h t L b z v e f) : TR (pu h t (.inr (10, [.int (nI L'), .int (nI b'), .int z', .int v', .int (nI e'), .ref (t + 1)]))) t L' b' z' v' e' f := ⟨pu_eq _ _ _, by rw [pu_ne (by omega)]; exact T.2⟩
theorem rg_t {f : Nat → Int32} {lo hi : Int32} {q : Nat} (h1 : ¬ f q < lo) (h2 : ¬ hi < f q) : rgP f lo hi q = true := decide_eq_true ⟨Int32.not_lt.mp h1, Int32.not_lt.mp h2⟩
theorem rg_f1 {f : Nat → Int32} {lo hi : Int32} {q : Nat} (h : f q < lo) : rgP f lo hi q = false := decide_eq_false (fun z => absurd z.1 (Int32.not_le.mpr h))
theorem rg_f2 {f : Nat → Int32} {lo hi : Int32} {q : Nat} (h : hi < f q) : rgP f lo hi q = false := decide_eq_false (fun z => absurd z.2 (Int32.not_le.mpr h))
theorem adv_step (P : Nat → Bool) {L q : Nat} (h : q < L) (c : P q = true) : adv P L q = adv P L (q + 1) := by
  unfold adv
  rw [show L - q = (L - (q + 1)) + 1 by omega, runF, if_pos c]
theorem adv_stop (P : Nat → Bool) {L q : Nat} (c : q < L → P q = false) (hq : q ≤ L) : adv P L q = q := adv_eq P (Nat.le_refl _) hq (fun x h1 h2 => absurd h2 (by omega)) c
theorem adv_tail {L bb e q : Nat} {wI zI v lo hi : Int32} {f : Nat → Int32} (T : TR h t L bb zI v e f) (hL : L ≤ 400) (act : wI ≠ 0 ∨ zI ≠ 0) (hq : q ≤ L) (done : ∀ h2, TR h2 t L bb zI v (adv (rgP f lo hi) L q) f → FT t h h2 → Q (.inl none) h2 n) : PW E M_X10_advance d Q 146 [some (.ref t), some (.int (nI q)), some (.int wI), some (.int lo), some (.int hi)] [] (h, n, 0, 0) := by
  have key : ∀ k q, L - q = k → q ≤ L → adv (rgP f lo hi) L q = adv (rgP f lo hi) L q → (∀ h2, TR h2 t L bb zI v (adv (rgP f lo hi) L q) f → FT t h h2 → Q (.inl none) h2 n) → PW E M_X10_advance d Q 157 [some (.ref t), some (.int (nI q)), some (.int wI), some (.int lo), some (.int hi)] [] (h, n, 0, 0) := by
    intro k
    induction k with
    | zero =>
      intro q h1 h2 _ done
      have e1 : q = L := by omega
      refine b_X10_advance_157 _ _ _ ?_
      rw [adv_stop _ (fun z => absurd z (by omega)) h2] at done
      subst e1
      simp only [i_const, i_load, i_aload, i_store, i_astore, i_inc, i_iadd, i_isub, i_imul, i_idiv, i_irem, i_iand, i_ior, i_ixor, i_ishl, i_ishr, i_iushr, i_ineg, i_i2l, i_i2b, i_i2c, i_lcmp, i_dup, i_dup2, i_pop, i_null, i_alen, i_iald, i_bald, i_lald, i_aald, i_iast, i_bast, i_last, i_aast, i_goto, i_icmp_eq, i_icmp_ne, i_icmp_lt, i_icmp_ge, i_icmp_gt, i_icmp_le, i_if_eq, i_if_ne, i_if_lt, i_if_ge, i_if_gt, i_if_le, i_ifnonnull, i_getf, i_putf, i_iret, i_zret, i_aret, i_vret, i_new, i_newa, i_anew, i_oinit, i_callv, i_calls, i_calli, i_max, i_min, i_abs, i_copy, i_throw, i_ldcs, pwt, List.getElem?_cons_zero, List.getElem?_cons_succ, List.set_cons_zero, List.set_cons_succ, List.getD_cons_zero, List.getD_cons_succ, List.length_cons, List.length_nil, List.length_set, List.drop_succ_cons, List.drop_zero, List.take_succ_cons, List.take_zero, List.reverse_cons, List.reverse_nil, List.nil_append, List.cons_append, List.append_nil, List.map_cons, List.map_nil, List.sum_cons, List.sum_nil, Value.category, ne_eq, Nat.reduceEqDiff, reduceIte, ite_self, false_implies, true_implies, true_and, and_true, and_self, Nat.zero_le, Nat.le_refl, Nat.reduceLeDiff, Nat.reduceAdd, Nat.reduceLT, Nat.add_zero, Nat.zero_add, pu_eq, not_false_eq_true, not_true_eq_false, forall_const, if_true, if_false, implies_true, T.1, nI_le_self]
      exact ⟨rfl, rfl, done _ T.put FT.rf.pu⟩
    | succ k ih =>
      intro q h1 h2 _ done
      have hlt : q < L := by omega
      have e1 : ¬ nI L ≤ nI q := nI_ge hlt (by omega)
      have e2 : vp_in (nI q) 400 := vp_in_nI (by omega) (by decide)
      have e3 : (nI q).toNatClampNeg = q := nI_clamp (by omega)
      refine b_X10_advance_157 _ _ _ ?_
      simp only [i_const, i_load, i_aload, i_store, i_astore, i_inc, i_iadd, i_isub, i_imul, i_idiv, i_irem, i_iand, i_ior, i_ixor, i_ishl, i_ishr, i_iushr, i_ineg, i_i2l, i_i2b, i_i2c, i_lcmp, i_dup, i_dup2, i_pop, i_null, i_alen, i_iald, i_bald, i_lald, i_aald, i_iast, i_bast, i_last, i_aast, i_goto, i_icmp_eq, i_icmp_ne, i_icmp_lt, i_icmp_ge, i_icmp_gt, i_icmp_le, i_if_eq, i_if_ne, i_if_lt, i_if_ge, i_if_gt, i_if_le, i_ifnonnull, i_getf, i_putf, i_iret, i_zret, i_aret, i_vret, i_new, i_newa, i_anew, i_oinit, i_callv, i_calls, i_calli, i_max, i_min, i_abs, i_copy, i_throw, i_ldcs, pwt, List.getElem?_cons_zero, List.getElem?_cons_succ, List.set_cons_zero, List.set_cons_succ, List.getD_cons_zero, List.getD_cons_succ, List.length_cons, List.length_nil, List.length_set, List.drop_succ_cons, List.drop_zero, List.take_succ_cons, List.take_zero, List.reverse_cons, List.reverse_nil, List.nil_append, List.cons_append, List.append_nil, List.map_cons, List.map_nil, List.sum_cons, List.sum_nil, Value.category, ne_eq, Nat.reduceEqDiff, reduceIte, ite_self, false_implies, true_implies, true_and, and_true, and_self, Nat.zero_le, Nat.le_refl, Nat.reduceLeDiff, Nat.reduceAdd, Nat.reduceLT, Nat.add_zero, Nat.zero_add, pu_eq, not_false_eq_true, not_true_eq_false, forall_const, if_true, if_false, implies_true, T.1, T.2, e1, e2, e3, nI_1]
      refine ⟨fun c => ?_, fun c => ⟨fun c2 => ?_, fun c2 => ?_⟩⟩
      · rw [adv_stop _ (fun _ => rg_f1 c) h2] at done
        exact ⟨rfl, rfl, done _ T.put FT.rf.pu⟩
      · rw [adv_stop _ (fun _ => rg_f2 c2) h2] at done
        exact ⟨rfl, rfl, done _ T.put FT.rf.pu⟩
      · rw [adv_step _ hlt (rg_t c c2)] at done
        refine b_X10_advance_146 _ _ _ ?_
        simp only [i_const, i_load, i_aload, i_store, i_astore, i_inc, i_iadd, i_isub, i_imul, i_idiv, i_irem, i_iand, i_ior, i_ixor, i_ishl, i_ishr, i_iushr, i_ineg, i_i2l, i_i2b, i_i2c, i_lcmp, i_dup, i_dup2, i_pop, i_null, i_alen, i_iald, i_bald, i_lald, i_aald, i_iast, i_bast, i_last, i_aast, i_goto, i_icmp_eq, i_icmp_ne, i_icmp_lt, i_icmp_ge, i_icmp_gt, i_icmp_le, i_if_eq, i_if_ne, i_if_lt, i_if_ge, i_if_gt, i_if_le, i_ifnonnull, i_getf, i_putf, i_iret, i_zret, i_aret, i_vret, i_new, i_newa, i_anew, i_oinit, i_callv, i_calls, i_calli, i_max, i_min, i_abs, i_copy, i_throw, i_ldcs, pwt, List.getElem?_cons_zero, List.getElem?_cons_succ, List.set_cons_zero, List.set_cons_succ, List.getD_cons_zero, List.getD_cons_succ, List.length_cons, List.length_nil, List.length_set, List.drop_succ_cons, List.drop_zero, List.take_succ_cons, List.take_zero, List.reverse_cons, List.reverse_nil, List.nil_append, List.cons_append, List.append_nil, List.map_cons, List.map_nil, List.sum_cons, List.sum_nil, Value.category, ne_eq, Nat.reduceEqDiff, reduceIte, ite_self, false_implies, true_implies, true_and, and_true, and_self, Nat.zero_le, Nat.le_refl, Nat.reduceLeDiff, Nat.reduceAdd, Nat.reduceLT, Nat.add_zero, Nat.zero_add, pu_eq, not_false_eq_true, not_true_eq_false, forall_const, if_true, if_false, implies_true, T.1]
        have nx := ih (q + 1) (by omega) (by omega) rfl done
        refine ⟨fun _ => nx, fun cw => ⟨fun cz => ?_, fun _ => nx⟩⟩
        rcases act with act | act
        · exact absurd cw act
        · exact absurd cz act
  have nx := key (L - q) q rfl hq rfl done
  refine b_X10_advance_146 _ _ _ ?_
  simp only [i_const, i_load, i_aload, i_store, i_astore, i_inc, i_iadd, i_isub, i_imul, i_idiv, i_irem, i_iand, i_ior, i_ixor, i_ishl, i_ishr, i_iushr, i_ineg, i_i2l, i_i2b, i_i2c, i_lcmp, i_dup, i_dup2, i_pop, i_null, i_alen, i_iald, i_bald, i_lald, i_aald, i_iast, i_bast, i_last, i_aast, i_goto, i_icmp_eq, i_icmp_ne, i_icmp_lt, i_icmp_ge, i_icmp_gt, i_icmp_le, i_if_eq, i_if_ne, i_if_lt, i_if_ge, i_if_gt, i_if_le, i_ifnonnull, i_getf, i_putf, i_iret, i_zret, i_aret, i_vret, i_new, i_newa, i_anew, i_oinit, i_callv, i_calls, i_calli, i_max, i_min, i_abs, i_copy, i_throw, i_ldcs, pwt, List.getElem?_cons_zero, List.getElem?_cons_succ, List.set_cons_zero, List.set_cons_succ, List.getD_cons_zero, List.getD_cons_succ, List.length_cons, List.length_nil, List.length_set, List.drop_succ_cons, List.drop_zero, List.take_succ_cons, List.take_zero, List.reverse_cons, List.reverse_nil, List.nil_append, List.cons_append, List.append_nil, List.map_cons, List.map_nil, List.sum_cons, List.sum_nil, Value.category, ne_eq, Nat.reduceEqDiff, reduceIte, ite_self, false_implies, true_implies, true_and, and_true, and_self, Nat.zero_le, Nat.le_refl, Nat.reduceLeDiff, Nat.reduceAdd, Nat.reduceLT, Nat.add_zero, Nat.zero_add, pu_eq, not_false_eq_true, not_true_eq_false, forall_const, if_true, if_false, implies_true, T.1]
  refine ⟨fun _ => nx, fun cw => ⟨fun cz => ?_, fun _ => nx⟩⟩
  rcases act with act | act
  · exact absurd cw act
  · exact absurd cz act
theorem c_X10_advance {L b : Nat} {z v : Int32} {e : Nat} {f : Nat → Int32} (T : TR h t L b z v e f) (hL : L ≤ 400) (he : e ≤ L) (hQ : ∀ h', TP h' t L f (skb f L e) v → FT t h h' → Q (.inl none) h' n) : pCall E M_X10_advance d [.ref t] h n Q := by
  refine pCall_of rfl rfl (Nat.le_of_ble_eq_true rfl) (by simp [Value.category]) ?_
  refine b_X10_advance_0 _ _ _ ?_
  simp only [pEntry, PM.nL, M_X10_advance, List.map_cons, List.map_nil, List.length_cons, List.length_nil, Nat.reduceAdd, Nat.reduceSub, Nat.sub_self, List.replicate_succ, List.replicate_zero, List.cons_append, List.nil_append]
  simp only [i_const, i_load, i_aload, i_store, i_astore, i_inc, i_iadd, i_isub, i_imul, i_idiv, i_irem, i_iand, i_ior, i_ixor, i_ishl, i_ishr, i_iushr, i_ineg, i_i2l, i_i2b, i_i2c, i_lcmp, i_dup, i_dup2, i_pop, i_null, i_alen, i_iald, i_bald, i_lald, i_aald, i_iast, i_bast, i_last, i_aast, i_goto, i_icmp_eq, i_icmp_ne, i_icmp_lt, i_icmp_ge, i_icmp_gt, i_icmp_le, i_if_eq, i_if_ne, i_if_lt, i_if_ge, i_if_gt, i_if_le, i_ifnonnull, i_getf, i_putf, i_iret, i_zret, i_aret, i_vret, i_new, i_newa, i_anew, i_oinit, i_callv, i_calls, i_calli, i_max, i_min, i_abs, i_copy, i_throw, i_ldcs, pwt, List.getElem?_cons_zero, List.getElem?_cons_succ, List.set_cons_zero, List.set_cons_succ, List.getD_cons_zero, List.getD_cons_succ, List.length_cons, List.length_nil, List.length_set, List.drop_succ_cons, List.drop_zero, List.take_succ_cons, List.take_zero, List.reverse_cons, List.reverse_nil, List.nil_append, List.cons_append, List.append_nil, List.map_cons, List.map_nil, List.sum_cons, List.sum_nil, Value.category, ne_eq, Nat.reduceEqDiff, reduceIte, ite_self, false_implies, true_implies, true_and, and_true, and_self, Nat.zero_le, Nat.le_refl, Nat.reduceLeDiff, Nat.reduceAdd, Nat.reduceLT, Nat.add_zero, Nat.zero_add, pu_eq, not_false_eq_true, not_true_eq_false, forall_const, if_true, if_false, implies_true, T.1]
  have hs2 : skb f L e ≤ L := skb_le he
  have g3 : PW E M_X10_advance d Q 30 [some (.ref t), some (.int (nI (skb f L e))), none, none, none] [] (h, n, 0, 0) := by
    generalize hbb : skb f L e = bb at hQ hs2
    have ep : nI bb + 1 = nI (bb + 1) := nI_1 bb
    have emin : (if nI (bb + 1) < nI L then nI (bb + 1) else nI L) = nI (min L (bb + 1)) := by rw [nI_mn (by omega) (by omega)]; congr 1; split <;> omega
    have v1 : bb < L → vp_in (nI bb) 400 := fun q => vp_in_nI (by omega) (by decide)
    have v2 : (nI bb).toNatClampNeg = bb := nI_clamp (by omega)
    -- behind the flags
    have g4 : ∀ h1, TR h1 t L bb (dgI f L bb) v e f → FT t h h1 → (bb < L ∧ rgP f 97 122 bb = true) → PW E M_X10_advance d Q 121 [some (.ref t), some (.int (nI bb)), some (.int 1), none, none] [.int 97] (h1, n, 0, 0) := by
      intro h1 T1 F1 cw
      refine b_X10_advance_121 _ _ _ ?_
      simp only [i_const, i_load, i_aload, i_store, i_astore, i_inc, i_iadd, i_isub, i_imul, i_idiv, i_irem, i_iand, i_ior, i_ixor, i_ishl, i_ishr, i_iushr, i_ineg, i_i2l, i_i2b, i_i2c, i_lcmp, i_dup, i_dup2, i_pop, i_null, i_alen, i_iald, i_bald, i_lald, i_aald, i_iast, i_bast, i_last, i_aast, i_goto, i_icmp_eq, i_icmp_ne, i_icmp_lt, i_icmp_ge, i_icmp_gt, i_icmp_le, i_if_eq, i_if_ne, i_if_lt, i_if_ge, i_if_gt, i_if_le, i_ifnonnull, i_getf, i_putf, i_iret, i_zret, i_aret, i_vret, i_new, i_newa, i_anew, i_oinit, i_callv, i_calls, i_calli, i_max, i_min, i_abs, i_copy, i_throw, i_ldcs, pwt, List.getElem?_cons_zero, List.getElem?_cons_succ, List.set_cons_zero, List.set_cons_succ, List.getD_cons_zero, List.getD_cons_succ, List.length_cons, List.length_nil, List.length_set, List.drop_succ_cons, List.drop_zero, List.take_succ_cons, List.take_zero, List.reverse_cons, List.reverse_nil, List.nil_append, List.cons_append, List.append_nil, List.map_cons, List.map_nil, List.sum_cons, List.sum_nil, Value.category, ne_eq, Nat.reduceEqDiff, reduceIte, ite_self, false_implies, true_implies, true_and, and_true, and_self, Nat.zero_le, Nat.le_refl, Nat.reduceLeDiff, Nat.reduceAdd, Nat.reduceLT, Nat.add_zero, Nat.zero_add, pu_eq, not_false_eq_true, not_true_eq_false, forall_const, if_true, if_false, implies_true, T1.1, ep, emin]
      refine ⟨fun q => absurd q (by decide), fun _ => ?_⟩
      rw [show min L (bb + 1) = bb + 1 by omega]
      refine adv_tail T1 hL (Or.inl (by decide)) (by omega) (fun h2 T2 F2 => ?_)
      refine hQ h2 ?_ (F1.tr F2)
      unfold TP tkE
      rw [if_pos cw]; exact T2
    have g5 : ∀ h1, TR h1 t L bb (dgI f L bb) v e f → FT t h h1 → ¬ (bb < L ∧ rgP f 97 122 bb = true) → PW E M_X10_advance d Q 121 [some (.ref t), some (.int (nI bb)), some (.int 0), none, none] [.int 48] (h1, n, 0, 0) := by
      intro h1 T1 F1 cw
      refine b_X10_advance_121 _ _ _ ?_
      simp only [i_const, i_load, i_aload, i_store, i_astore, i_inc, i_iadd, i_isub, i_imul, i_idiv, i_irem, i_iand, i_ior, i_ixor, i_ishl, i_ishr, i_iushr, i_ineg, i_i2l, i_i2b, i_i2c, i_lcmp, i_dup, i_dup2, i_pop, i_null, i_alen, i_iald, i_bald, i_lald, i_aald, i_iast, i_bast, i_last, i_aast, i_goto, i_icmp_eq, i_icmp_ne, i_icmp_lt, i_icmp_ge, i_icmp_gt, i_icmp_le, i_if_eq, i_if_ne, i_if_lt, i_if_ge, i_if_gt, i_if_le, i_ifnonnull, i_getf, i_putf, i_iret, i_zret, i_aret, i_vret, i_new, i_newa, i_anew, i_oinit, i_callv, i_calls, i_calli, i_max, i_min, i_abs, i_copy, i_throw, i_ldcs, pwt, List.getElem?_cons_zero, List.getElem?_cons_succ, List.set_cons_zero, List.set_cons_succ, List.getD_cons_zero, List.getD_cons_succ, List.length_cons, List.length_nil, List.length_set, List.drop_succ_cons, List.drop_zero, List.take_succ_cons, List.take_zero, List.reverse_cons, List.reverse_nil, List.nil_append, List.cons_append, List.append_nil, List.map_cons, List.map_nil, List.sum_cons, List.sum_nil, Value.category, ne_eq, Nat.reduceEqDiff, reduceIte, ite_self, false_implies, true_implies, true_and, and_true, and_self, Nat.zero_le, Nat.le_refl, Nat.reduceLeDiff, Nat.reduceAdd, Nat.reduceLT, Nat.add_zero, Nat.zero_add, pu_eq, not_false_eq_true, not_true_eq_false, forall_const, if_true, if_false, implies_true, T1.1, ep, emin]
      by_cases cd : bb < L ∧ rgP f 48 57 bb = true
      · rw [show min L (bb + 1) = bb + 1 by omega]
        refine adv_tail T1 hL (Or.inr ?_) (by omega) (fun h2 T2 F2 => ?_)
        · unfold dgI; rw [if_pos cd]; decide
        · refine hQ h2 ?_ (F1.tr F2)
          unfold TP tkE
          rw [if_neg cw, if_pos cd]; exact T2
      · have hz : dgI f L bb = 0 := by unfold dgI; rw [if_neg cd]
        refine b_X10_advance_146 _ _ _ ?_
        simp only [i_const, i_load, i_aload, i_store, i_astore, i_inc, i_iadd, i_isub, i_imul, i_idiv, i_irem, i_iand, i_ior, i_ixor, i_ishl, i_ishr, i_iushr, i_ineg, i_i2l, i_i2b, i_i2c, i_lcmp, i_dup, i_dup2, i_pop, i_null, i_alen, i_iald, i_bald, i_lald, i_aald, i_iast, i_bast, i_last, i_aast, i_goto, i_icmp_eq, i_icmp_ne, i_icmp_lt, i_icmp_ge, i_icmp_gt, i_icmp_le, i_if_eq, i_if_ne, i_if_lt, i_if_ge, i_if_gt, i_if_le, i_ifnonnull, i_getf, i_putf, i_iret, i_zret, i_aret, i_vret, i_new, i_newa, i_anew, i_oinit, i_callv, i_calls, i_calli, i_max, i_min, i_abs, i_copy, i_throw, i_ldcs, pwt, List.getElem?_cons_zero, List.getElem?_cons_succ, List.set_cons_zero, List.set_cons_succ, List.getD_cons_zero, List.getD_cons_succ, List.length_cons, List.length_nil, List.length_set, List.drop_succ_cons, List.drop_zero, List.take_succ_cons, List.take_zero, List.reverse_cons, List.reverse_nil, List.nil_append, List.cons_append, List.append_nil, List.map_cons, List.map_nil, List.sum_cons, List.sum_nil, Value.category, ne_eq, Nat.reduceEqDiff, reduceIte, ite_self, false_implies, true_implies, true_and, and_true, and_self, Nat.zero_le, Nat.le_refl, Nat.reduceLeDiff, Nat.reduceAdd, Nat.reduceLT, Nat.add_zero, Nat.zero_add, pu_eq, not_false_eq_true, not_true_eq_false, forall_const, if_true, if_false, implies_true, T1.1, hz]
        refine ⟨rfl, rfl, ?_⟩
        refine hQ _ ?_ F1.pu
        unfold TP tkE
        rw [if_neg cw, if_neg cd, hz]
        exact T1.put
    -- number
    have g6 : ∀ h1, TR h1 t L bb z v e f → FT t h h1 → ((bb < L ∧ rgP f 97 122 bb = true) → PW E M_X10_advance d Q 70 [some (.ref t), some (.int (nI bb)), none, none, none] [.int 1] (h1, n, 0, 0)) ∧ (¬ (bb < L ∧ rgP f 97 122 bb = true) → PW E M_X10_advance d Q 70 [some (.ref t), some (.int (nI bb)), none, none, none] [.int 0] (h1, n, 0, 0)) := by
      intro h1 T1 F1
      have tt : ∀ zz : Int32, zz = dgI f L bb → TR (pu h1 t (.inr (10, [.int (nI L), .int (nI bb), .int zz, .int v, .int (nI e), .ref (t + 1)]))) t L bb (dgI f L bb) v e f := fun zz ez => by rw [ez]; exact T1.put
      refine ⟨fun cw => ?_, fun cw => ?_⟩
      · refine b_X10_advance_70 _ _ _ ?_
        have e1 : ¬ nI L ≤ nI bb := nI_ge cw.1 (by omega)
        have h1010 : ∀ zz : Int32, zz = dgI f L bb → (if (1 : Int32) = 0 then False else True) → PW E M_X10_advance d Q 121 [some (.ref t), some (.int (nI bb)), some (.int 1), none, none] [.int 97] (pu h1 t (.inr (10, [.int (nI L), .int (nI bb), .int zz, .int v, .int (nI e), .ref (t + 1)])), n, 0, 0) := fun zz ez _ => g4 _ (tt zz ez) F1.pu cw
        simp only [i_const, i_load, i_aload, i_store, i_astore, i_inc, i_iadd, i_isub, i_imul, i_idiv, i_irem, i_iand, i_ior, i_ixor, i_ishl, i_ishr, i_iushr, i_ineg, i_i2l, i_i2b, i_i2c, i_lcmp, i_dup, i_dup2, i_pop, i_null, i_alen, i_iald, i_bald, i_lald, i_aald, i_iast, i_bast, i_last, i_aast, i_goto, i_icmp_eq, i_icmp_ne, i_icmp_lt, i_icmp_ge, i_icmp_gt, i_icmp_le, i_if_eq, i_if_ne, i_if_lt, i_if_ge, i_if_gt, i_if_le, i_ifnonnull, i_getf, i_putf, i_iret, i_zret, i_aret, i_vret, i_new, i_newa, i_anew, i_oinit, i_callv, i_calls, i_calli, i_max, i_min, i_abs, i_copy, i_throw, i_ldcs, pwt, List.getElem?_cons_zero, List.getElem?_cons_succ, List.set_cons_zero, List.set_cons_succ, List.getD_cons_zero, List.getD_cons_succ, List.length_cons, List.length_nil, List.length_set, List.drop_succ_cons, List.drop_zero, List.take_succ_cons, List.take_zero, List.reverse_cons, List.reverse_nil, List.nil_append, List.cons_append, List.append_nil, List.map_cons, List.map_nil, List.sum_cons, List.sum_nil, Value.category, ne_eq, Nat.reduceEqDiff, reduceIte, ite_self, false_implies, true_implies, true_and, and_true, and_self, Nat.zero_le, Nat.le_refl, Nat.reduceLeDiff, Nat.reduceAdd, Nat.reduceLT, Nat.add_zero, Nat.zero_add, pu_eq, not_false_eq_true, not_true_eq_false, forall_const, if_true, if_false, implies_true, T1.1, T1.2, e1, v1 cw.1, v2]
        refine ⟨fun c => ?_, fun c => ⟨fun c2 => ?_, fun c2 => ?_⟩⟩
        · exact ⟨rfl, rfl, fun q => absurd q (by decide), fun _ => h1010 0 (by unfold dgI; rw [if_neg (fun q => by rw [rg_f1 c] at q; exact absurd q.2 (by decide))]) trivial⟩
        · exact ⟨rfl, rfl, fun q => absurd q (by decide), fun _ => h1010 0 (by unfold dgI; rw [if_neg (fun q => by rw [rg_f2 c2] at q; exact absurd q.2 (by decide))]) trivial⟩
        · exact ⟨rfl, rfl, fun q => absurd q (by decide), fun _ => h1010 1 (by unfold dgI; rw [if_pos ⟨cw.1, rg_t c c2⟩]) trivial⟩
      · refine b_X10_advance_70 _ _ _ ?_
        by_cases cl : bb < L
        · have e1 : ¬ nI L ≤ nI bb := nI_ge cl (by omega)
          simp only [i_const, i_load, i_aload, i_store, i_astore, i_inc, i_iadd, i_isub, i_imul, i_idiv, i_irem, i_iand, i_ior, i_ixor, i_ishl, i_ishr, i_iushr, i_ineg, i_i2l, i_i2b, i_i2c, i_lcmp, i_dup, i_dup2, i_pop, i_null, i_alen, i_iald, i_bald, i_lald, i_aald, i_iast, i_bast, i_last, i_aast, i_goto, i_icmp_eq, i_icmp_ne, i_icmp_lt, i_icmp_ge, i_icmp_gt, i_icmp_le, i_if_eq, i_if_ne, i_if_lt, i_if_ge, i_if_gt, i_if_le, i_ifnonnull, i_getf, i_putf, i_iret, i_zret, i_aret, i_vret, i_new, i_newa, i_anew, i_oinit, i_callv, i_calls, i_calli, i_max, i_min, i_abs, i_copy, i_throw, i_ldcs, pwt, List.getElem?_cons_zero, List.getElem?_cons_succ, List.set_cons_zero, List.set_cons_succ, List.getD_cons_zero, List.getD_cons_succ, List.length_cons, List.length_nil, List.length_set, List.drop_succ_cons, List.drop_zero, List.take_succ_cons, List.take_zero, List.reverse_cons, List.reverse_nil, List.nil_append, List.cons_append, List.append_nil, List.map_cons, List.map_nil, List.sum_cons, List.sum_nil, Value.category, ne_eq, Nat.reduceEqDiff, reduceIte, ite_self, false_implies, true_implies, true_and, and_true, and_self, Nat.zero_le, Nat.le_refl, Nat.reduceLeDiff, Nat.reduceAdd, Nat.reduceLT, Nat.add_zero, Nat.zero_add, pu_eq, not_false_eq_true, not_true_eq_false, forall_const, if_true, if_false, implies_true, T1.1, T1.2, e1, v1 cl, v2]
          refine ⟨fun c => ?_, fun c => ⟨fun c2 => ?_, fun c2 => ?_⟩⟩
          · exact ⟨rfl, rfl, g5 _ (tt 0 (by unfold dgI; rw [if_neg (fun q => by rw [rg_f1 c] at q; exact absurd q.2 (by decide))])) F1.pu cw⟩
          · exact ⟨rfl, rfl, g5 _ (tt 0 (by unfold dgI; rw [if_neg (fun q => by rw [rg_f2 c2] at q; exact absurd q.2 (by decide))])) F1.pu cw⟩
          · exact ⟨rfl, rfl, g5 _ (tt 1 (by unfold dgI; rw [if_pos ⟨cl, rg_t c c2⟩])) F1.pu cw⟩
        · have e1 : nI L ≤ nI bb := nI_le (by omega) (by omega)
          simp only [i_const, i_load, i_aload, i_store, i_astore, i_inc, i_iadd, i_isub, i_imul, i_idiv, i_irem, i_iand, i_ior, i_ixor, i_ishl, i_ishr, i_iushr, i_ineg, i_i2l, i_i2b, i_i2c, i_lcmp, i_dup, i_dup2, i_pop, i_null, i_alen, i_iald, i_bald, i_lald, i_aald, i_iast, i_bast, i_last, i_aast, i_goto, i_icmp_eq, i_icmp_ne, i_icmp_lt, i_icmp_ge, i_icmp_gt, i_icmp_le, i_if_eq, i_if_ne, i_if_lt, i_if_ge, i_if_gt, i_if_le, i_ifnonnull, i_getf, i_putf, i_iret, i_zret, i_aret, i_vret, i_new, i_newa, i_anew, i_oinit, i_callv, i_calls, i_calli, i_max, i_min, i_abs, i_copy, i_throw, i_ldcs, pwt, List.getElem?_cons_zero, List.getElem?_cons_succ, List.set_cons_zero, List.set_cons_succ, List.getD_cons_zero, List.getD_cons_succ, List.length_cons, List.length_nil, List.length_set, List.drop_succ_cons, List.drop_zero, List.take_succ_cons, List.take_zero, List.reverse_cons, List.reverse_nil, List.nil_append, List.cons_append, List.append_nil, List.map_cons, List.map_nil, List.sum_cons, List.sum_nil, Value.category, ne_eq, Nat.reduceEqDiff, reduceIte, ite_self, false_implies, true_implies, true_and, and_true, and_self, Nat.zero_le, Nat.le_refl, Nat.reduceLeDiff, Nat.reduceAdd, Nat.reduceLT, Nat.add_zero, Nat.zero_add, pu_eq, not_false_eq_true, not_true_eq_false, forall_const, if_true, if_false, implies_true, T1.1, e1]
          exact ⟨rfl, rfl, g5 _ (tt 0 (by unfold dgI; rw [if_neg (fun q => cl q.1)])) F1.pu cw⟩
    refine b_X10_advance_30 _ _ _ ?_
    have T1 : TR (pu h t (.inr (10, [.int (nI L), .int (nI bb), .int z, .int v, .int (nI e), .ref (t + 1)]))) t L bb z v e f := T.put
    have G := g6 _ T1 FT.rf.pu
    by_cases cl : bb < L
    · have e1 : ¬ nI L ≤ nI bb := nI_ge cl (by omega)
      simp only [i_const, i_load, i_aload, i_store, i_astore, i_inc, i_iadd, i_isub, i_imul, i_idiv, i_irem, i_iand, i_ior, i_ixor, i_ishl, i_ishr, i_iushr, i_ineg, i_i2l, i_i2b, i_i2c, i_lcmp, i_dup, i_dup2, i_pop, i_null, i_alen, i_iald, i_bald, i_lald, i_aald, i_iast, i_bast, i_last, i_aast, i_goto, i_icmp_eq, i_icmp_ne, i_icmp_lt, i_icmp_ge, i_icmp_gt, i_icmp_le, i_if_eq, i_if_ne, i_if_lt, i_if_ge, i_if_gt, i_if_le, i_ifnonnull, i_getf, i_putf, i_iret, i_zret, i_aret, i_vret, i_new, i_newa, i_anew, i_oinit, i_callv, i_calls, i_calli, i_max, i_min, i_abs, i_copy, i_throw, i_ldcs, pwt, List.getElem?_cons_zero, List.getElem?_cons_succ, List.set_cons_zero, List.set_cons_succ, List.getD_cons_zero, List.getD_cons_succ, List.length_cons, List.length_nil, List.length_set, List.drop_succ_cons, List.drop_zero, List.take_succ_cons, List.take_zero, List.reverse_cons, List.reverse_nil, List.nil_append, List.cons_append, List.append_nil, List.map_cons, List.map_nil, List.sum_cons, List.sum_nil, Value.category, ne_eq, Nat.reduceEqDiff, reduceIte, ite_self, false_implies, true_implies, true_and, and_true, and_self, Nat.zero_le, Nat.le_refl, Nat.reduceLeDiff, Nat.reduceAdd, Nat.reduceLT, Nat.add_zero, Nat.zero_add, pu_eq, not_false_eq_true, not_true_eq_false, forall_const, if_true, if_false, implies_true, T.1, T1.2, e1, v1 cl, v2]
      refine ⟨rfl, rfl, fun c => ?_, fun c => ⟨fun c2 => ?_, fun c2 => ?_⟩⟩
      · exact G.2 (fun q => by rw [rg_f1 c] at q; exact absurd q.2 (by decide))
      · exact G.2 (fun q => by rw [rg_f2 c2] at q; exact absurd q.2 (by decide))
      · exact G.1 ⟨cl, rg_t c c2⟩
    · have e1 : nI L ≤ nI bb := nI_le (by omega) (by omega)
      simp only [i_const, i_load, i_aload, i_store, i_astore, i_inc, i_iadd, i_isub, i_imul, i_idiv, i_irem, i_iand, i_ior, i_ixor, i_ishl, i_ishr, i_iushr, i_ineg, i_i2l, i_i2b, i_i2c, i_lcmp, i_dup, i_dup2, i_pop, i_null, i_alen, i_iald, i_bald, i_lald, i_aald, i_iast, i_bast, i_last, i_aast, i_goto, i_icmp_eq, i_icmp_ne, i_icmp_lt, i_icmp_ge, i_icmp_gt, i_icmp_le, i_if_eq, i_if_ne, i_if_lt, i_if_ge, i_if_gt, i_if_le, i_ifnonnull, i_getf, i_putf, i_iret, i_zret, i_aret, i_vret, i_new, i_newa, i_anew, i_oinit, i_callv, i_calls, i_calli, i_max, i_min, i_abs, i_copy, i_throw, i_ldcs, pwt, List.getElem?_cons_zero, List.getElem?_cons_succ, List.set_cons_zero, List.set_cons_succ, List.getD_cons_zero, List.getD_cons_succ, List.length_cons, List.length_nil, List.length_set, List.drop_succ_cons, List.drop_zero, List.take_succ_cons, List.take_zero, List.reverse_cons, List.reverse_nil, List.nil_append, List.cons_append, List.append_nil, List.map_cons, List.map_nil, List.sum_cons, List.sum_nil, Value.category, ne_eq, Nat.reduceEqDiff, reduceIte, ite_self, false_implies, true_implies, true_and, and_true, and_self, Nat.zero_le, Nat.le_refl, Nat.reduceLeDiff, Nat.reduceAdd, Nat.reduceLT, Nat.add_zero, Nat.zero_add, pu_eq, not_false_eq_true, not_true_eq_false, forall_const, if_true, if_false, implies_true, T.1, e1]
      exact ⟨rfl, rfl, G.2 (fun q => cl q.1)⟩
  -- blanks
  have key : ∀ k q, L - q = k → q ≤ L → adv (blP f) L q = skb f L e → PW E M_X10_advance d Q 5 [some (.ref t), some (.int (nI q)), none, none, none] [] (h, n, 0, 0) := by
    intro k
    induction k with
    | zero =>
      intro q h1 h2 h3
      have e1 : q = L := by omega
      rw [adv_stop _ (fun z => absurd z (by omega)) h2] at h3
      refine b_X10_advance_5 _ _ _ ?_
      rw [← h3] at g3
      subst e1
      simp only [i_const, i_load, i_aload, i_store, i_astore, i_inc, i_iadd, i_isub, i_imul, i_idiv, i_irem, i_iand, i_ior, i_ixor, i_ishl, i_ishr, i_iushr, i_ineg, i_i2l, i_i2b, i_i2c, i_lcmp, i_dup, i_dup2, i_pop, i_null, i_alen, i_iald, i_bald, i_lald, i_aald, i_iast, i_bast, i_last, i_aast, i_goto, i_icmp_eq, i_icmp_ne, i_icmp_lt, i_icmp_ge, i_icmp_gt, i_icmp_le, i_if_eq, i_if_ne, i_if_lt, i_if_ge, i_if_gt, i_if_le, i_ifnonnull, i_getf, i_putf, i_iret, i_zret, i_aret, i_vret, i_new, i_newa, i_anew, i_oinit, i_callv, i_calls, i_calli, i_max, i_min, i_abs, i_copy, i_throw, i_ldcs, pwt, List.getElem?_cons_zero, List.getElem?_cons_succ, List.set_cons_zero, List.set_cons_succ, List.getD_cons_zero, List.getD_cons_succ, List.length_cons, List.length_nil, List.length_set, List.drop_succ_cons, List.drop_zero, List.take_succ_cons, List.take_zero, List.reverse_cons, List.reverse_nil, List.nil_append, List.cons_append, List.append_nil, List.map_cons, List.map_nil, List.sum_cons, List.sum_nil, Value.category, ne_eq, Nat.reduceEqDiff, reduceIte, ite_self, false_implies, true_implies, true_and, and_true, and_self, Nat.zero_le, Nat.le_refl, Nat.reduceLeDiff, Nat.reduceAdd, Nat.reduceLT, Nat.add_zero, Nat.zero_add, pu_eq, not_false_eq_true, not_true_eq_false, forall_const, if_true, if_false, implies_true, T.1, nI_le_self]
      exact g3
    | succ k ih =>
      intro q h1 h2 h3
      have hlt : q < L := by omega
      have e1 : ¬ nI L ≤ nI q := nI_ge hlt (by omega)
      have e2 : vp_in (nI q) 400 := vp_in_nI (by omega) (by decide)
      have e3 : (nI q).toNatClampNeg = q := nI_clamp (by omega)
      refine b_X10_advance_5 _ _ _ ?_
      simp only [i_const, i_load, i_aload, i_store, i_astore, i_inc, i_iadd, i_isub, i_imul, i_idiv, i_irem, i_iand, i_ior, i_ixor, i_ishl, i_ishr, i_iushr, i_ineg, i_i2l, i_i2b, i_i2c, i_lcmp, i_dup, i_dup2, i_pop, i_null, i_alen, i_iald, i_bald, i_lald, i_aald, i_iast, i_bast, i_last, i_aast, i_goto, i_icmp_eq, i_icmp_ne, i_icmp_lt, i_icmp_ge, i_icmp_gt, i_icmp_le, i_if_eq, i_if_ne, i_if_lt, i_if_ge, i_if_gt, i_if_le, i_ifnonnull, i_getf, i_putf, i_iret, i_zret, i_aret, i_vret, i_new, i_newa, i_anew, i_oinit, i_callv, i_calls, i_calli, i_max, i_min, i_abs, i_copy, i_throw, i_ldcs, pwt, List.getElem?_cons_zero, List.getElem?_cons_succ, List.set_cons_zero, List.set_cons_succ, List.getD_cons_zero, List.getD_cons_succ, List.length_cons, List.length_nil, List.length_set, List.drop_succ_cons, List.drop_zero, List.take_succ_cons, List.take_zero, List.reverse_cons, List.reverse_nil, List.nil_append, List.cons_append, List.append_nil, List.map_cons, List.map_nil, List.sum_cons, List.sum_nil, Value.category, ne_eq, Nat.reduceEqDiff, reduceIte, ite_self, false_implies, true_implies, true_and, and_true, and_self, Nat.zero_le, Nat.le_refl, Nat.reduceLeDiff, Nat.reduceAdd, Nat.reduceLT, Nat.add_zero, Nat.zero_add, pu_eq, not_false_eq_true, not_true_eq_false, forall_const, if_true, if_false, implies_true, T.1, T.2, e1, e2, e3, nI_1]
      refine ⟨fun c => ?_, fun c => ?_⟩
      · rw [adv_stop _ (fun _ => decide_eq_false c) h2] at h3
        rw [← h3] at g3
        exact g3
      · rw [adv_step _ hlt (decide_eq_true c)] at h3
        exact ih (q + 1) (by omega) (by omega) h3
  exact key (L - e) e rfl he rfl
end TAPE

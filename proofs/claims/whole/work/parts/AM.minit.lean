/-! the reference begins -/
section MINIT
variable {E : PE} {M : PM} {d : Nat} {Q : PQ} {h h' : PH} {n : Nat} {m : Nat} {w : AR}
def w0 : AR := ru (ru (fun _ _ => 0) 0 14 (-1)) 1 7 1
theorem tn_n (k : Nat) (hk : k < 65536) : (Int32.ofNat k).toNatClampNeg = k ∧ ¬ (Int32.ofNat k) < 0 := ⟨nI_clamp (by omega), nI_pos (by omega)⟩
theorem c_X12_init (hh : h m = some (.inr (12, [.int 0, .null, .null, .null, .null, .null, .int 0, .int 0, .null, .int 0, .int 0, .int 0, .int 0, .int 0, .int 0, .null, .int 0, .null, .null, .null, .null, .null, .int 0]))) (hQ : ∀ h', MX h' m w0 → NW m (m + 13) h h' → Q (.inl none) h' (m + 13)) : pCall E M_X12_init d [.ref m] h (m + 1) Q := by
  refine pCall_of rfl rfl (Nat.le_of_ble_eq_true rfl) (by simp [Value.category]) ?_
  refine b_X12_init_0 _ _ _ ?_
  simp only [pEntry, PM.nL, M_X12_init, List.map_cons, List.map_nil, List.length_cons, List.length_nil, Nat.reduceAdd, Nat.reduceSub, Nat.sub_self, List.replicate_succ, List.replicate_zero, List.cons_append, List.nil_append]
  have a1 := tn_n 2252 (by decide)
  have a2 := tn_n 1403 (by decide)
  have a3 := tn_n 554 (by decide)
  have a4 := tn_n 6648 (by decide)
  have a5 := tn_n 400 (by decide)
  have a6 := tn_n 5 (by decide)
  have a7 := tn_n 12 (by decide)
  have a8 := tn_n 1024 (by decide)
  have a9 : vp_in 7 2252 ∧ (7 : Int32).toNatClampNeg = 7 := ⟨vp_in_nI (n := 7) (by decide) (by decide), nI_clamp (n := 7) (by decide)⟩
  have b1 : (2252 : Int32).toNatClampNeg = 2252 ∧ ¬ (2252 : Int32) < 0 := a1
  have b2 : (1403 : Int32).toNatClampNeg = 1403 ∧ ¬ (1403 : Int32) < 0 := a2
  have b3 : (554 : Int32).toNatClampNeg = 554 ∧ ¬ (554 : Int32) < 0 := a3
  have b4 : (6648 : Int32).toNatClampNeg = 6648 ∧ ¬ (6648 : Int32) < 0 := a4
  have b5 : (400 : Int32).toNatClampNeg = 400 ∧ ¬ (400 : Int32) < 0 := a5
  have b6 : (5 : Int32).toNatClampNeg = 5 ∧ ¬ (5 : Int32) < 0 := a6
  have b7 : (12 : Int32).toNatClampNeg = 12 ∧ ¬ (12 : Int32) < 0 := a7
  have b8 : (1024 : Int32).toNatClampNeg = 1024 ∧ ¬ (1024 : Int32) < 0 := a8
  have pn : ∀ k : Nat, 0 < k → ∀ c : PC, ∀ hh : PH, pu hh (m + k) c m = hh m := fun k hk c hh => pu_ne (by omega)
  have p1 := pn 1 (by decide)
  have p2 := pn 2 (by decide)
  have p3 := pn 3 (by decide)
  have p4 := pn 4 (by decide)
  have p5 := pn 5 (by decide)
  have p6 := pn 6 (by decide)
  have p7 := pn 7 (by decide)
  have p8 := pn 8 (by decide)
  have p9 := pn 9 (by decide)
  have pa := pn 10 (by decide)
  have pb := pn 11 (by decide)
  have pc := pn 12 (by decide)
  have qn : ∀ k : Nat, 1 < k → ∀ c : PC, ∀ hh : PH, pu hh (m + k) c (m + 1) = hh (m + 1) := fun k hk c hh => pu_ne (by omega)
  have q2 := qn 2 (by decide)
  have q3 := qn 3 (by decide)
  have q4 := qn 4 (by decide)
  have q5 := qn 5 (by decide)
  have q6 := qn 6 (by decide)
  have q7 := qn 7 (by decide)
  have q8 := qn 8 (by decide)
  have q9 := qn 9 (by decide)
  have qa := qn 10 (by decide)
  have qb := qn 11 (by decide)
  have qc := qn 12 (by decide)
  have q0 : ∀ c : PC, ∀ hh : PH, pu hh m c (m + 1) = hh (m + 1) := fun c hh => pu_ne (by omega)
  simp only [i_const, i_load, i_aload, i_store, i_astore, i_inc, i_iadd, i_isub, i_imul, i_idiv, i_irem, i_iand, i_ior, i_ixor, i_ishl, i_ishr, i_iushr, i_ineg, i_i2l, i_i2b, i_i2c, i_lcmp, i_dup, i_dup2, i_pop, i_null, i_alen, i_iald, i_bald, i_lald, i_aald, i_iast, i_bast, i_last, i_aast, i_goto, i_icmp_eq, i_icmp_ne, i_icmp_lt, i_icmp_ge, i_icmp_gt, i_icmp_le, i_if_eq, i_if_ne, i_if_lt, i_if_ge, i_if_gt, i_if_le, i_ifnonnull, i_getf, i_putf, i_iret, i_zret, i_aret, i_vret, i_new, i_newa, i_anew, i_oinit, i_callv, i_calls, i_calli, i_max, i_min, i_abs, i_copy, i_throw, i_ldcs, pwt, List.getElem?_cons_zero, List.getElem?_cons_succ, List.set_cons_zero, List.set_cons_succ, List.getD_cons_zero, List.getD_cons_succ, List.length_cons, List.length_nil, List.length_set, List.drop_succ_cons, List.drop_zero, List.take_succ_cons, List.take_zero, List.reverse_cons, List.reverse_nil, List.nil_append, List.cons_append, List.append_nil, List.map_cons, List.map_nil, List.sum_cons, List.sum_nil, Value.category, ne_eq, Nat.reduceEqDiff, reduceIte, ite_self, false_implies, true_implies, true_and, and_true, and_self, Nat.zero_le, Nat.le_refl, Nat.reduceLeDiff, Nat.reduceAdd, Nat.reduceLT, Nat.add_zero, Nat.zero_add, pu_eq, not_false_eq_true, not_true_eq_false, forall_const, if_true, if_false, implies_true, hh, p1, p2, p3, p4, p5, p6, p7, p8, p9, pa, pb, pc, q0, q2, q3, q4, q5, q6, q7, q8, q9, qa, qb, qc, b1, b2, b3, b4, b5, b6, b7, b8, a9, Nat.add_assoc, eq_self, pu_pu]
  repeat refine ⟨by first | exact rfl | decide, ?_⟩
  refine hQ _ ⟨fun _ => 0, fun k hk => ?_⟩ (fun q hq => ?_)
  · rcases (show k = 0 ∨ k = 1 ∨ k = 2 ∨ k = 3 ∨ k = 4 ∨ k = 5 ∨ k = 6 ∨ k = 7 ∨ k = 8 ∨ k = 9 ∨ k = 10 ∨ k = 11 ∨ k = 12 by omega) with rfl | rfl | rfl | rfl | rfl | rfl | rfl | rfl | rfl | rfl | rfl | rfl | rfl <;> simp [pu, MC, rs, w0, ru, upd] <;> rfl
  · simp only [pu]
    repeat rw [if_neg (by omega)]
end MINIT

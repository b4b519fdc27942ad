/-! bits of ints; how many there are -/
section BITS
variable {E : PE} {M : PM} {d : Nat} {Q : PQ} {h : PH} {n : Nat} {a b : Nat} {r rb : AR} {lw lb : Option Nat} {C Cb : Option LawL} {pc : Nat}
theorem and_split {k a m : Nat} (b M : Nat) (ha : a < 2 ^ k) (hm : m < 2 ^ k) : (a + 2 ^ k * b) &&& (m + 2 ^ k * M) = (a &&& m) + 2 ^ k * (b &&& M) := by
  have h1 : ((a + 2 ^ k * b) &&& (m + 2 ^ k * M)) % 2 ^ k = a &&& m := by
    rw [Nat.and_mod_two_pow, Nat.add_mul_mod_self_left, Nat.add_mul_mod_self_left, Nat.mod_eq_of_lt ha, Nat.mod_eq_of_lt hm]
  have h2 : ((a + 2 ^ k * b) &&& (m + 2 ^ k * M)) / 2 ^ k = b &&& M := by
    rw [Nat.and_div_two_pow, Nat.add_mul_div_left _ _ (Nat.two_pow_pos k), Nat.add_mul_div_left _ _ (Nat.two_pow_pos k), Nat.div_eq_of_lt ha, Nat.div_eq_of_lt hm, Nat.zero_add, Nat.zero_add]
  have := Nat.mod_add_div ((a + 2 ^ k * b) &&& (m + 2 ^ k * M)) (2 ^ k)
  rw [h1, h2] at this
  exact this.symm
def M1 : Nat → Nat
  | 0 => 0
  | n + 1 => 1 + 4 * M1 n
def M2 : Nat → Nat
  | 0 => 0
  | n + 1 => 3 + 16 * M2 n
def M3 : Nat → Nat
  | 0 => 0
  | n + 1 => 15 + 256 * M3 n
def c2 (p : Nat) : Nat := p % 2 + p / 2
def e4 : Nat → Nat → Nat
  | 0, _ => 0
  | n + 1, Y => c2 (Y % 4) + 4 * e4 n (Y / 4)
def e16 : Nat → Nat → Nat
  | 0, _ => 0
  | n + 1, Y => (c2 (Y % 4) + c2 (Y / 4 % 4)) + 16 * e16 n (Y / 4 / 4)
def e256 : Nat → Nat → Nat
  | 0, _ => 0
  | n + 1, Y => (c2 (Y % 4) + c2 (Y / 4 % 4) + (c2 (Y / 4 / 4 % 4) + c2 (Y / 4 / 4 / 4 % 4))) + 256 * e256 n (Y / 4 / 4 / 4 / 4)
theorem c2_le (Y : Nat) : c2 (Y % 4) ≤ 2 := by unfold c2; omega
theorem S1 : ∀ n Y, Y < 4 ^ n → ((Y / 2) &&& M1 n) ≤ Y ∧ Y - ((Y / 2) &&& M1 n) = e4 n Y
  | 0, Y, h => by have : Y = 0 := by omega
                  subst this; exact ⟨by decide, by decide⟩
  | n + 1, Y, h => by
    rw [Nat.pow_succ] at h
    obtain ⟨i1, i2⟩ := S1 n (Y / 4) (by omega)
    have e : Y / 2 = (Y % 4 / 2 + 2 * (Y / 4 % 2)) + 2 ^ 2 * (Y / 4 / 2) := by omega
    have e2 : (Y % 4 / 2 + 2 * (Y / 4 % 2)) &&& 1 = Y % 4 / 2 := by rw [Nat.and_one_is_mod]; omega
    have e3 : (Y / 2) &&& M1 (n + 1) = Y % 4 / 2 + 4 * ((Y / 4 / 2) &&& M1 n) := by
      rw [e]
      show ((Y % 4 / 2 + 2 * (Y / 4 % 2)) + 2 ^ 2 * (Y / 4 / 2)) &&& (1 + 2 ^ 2 * M1 n) = _
      rw [and_split (k := 2) _ _ (by omega) (by decide), e2]
    rw [e3]
    show _ ∧ _ = c2 (Y % 4) + 4 * e4 n (Y / 4)
    rw [← i2]
    unfold c2
    generalize (Y / 4 / 2) &&& M1 n = t at *
    omega
theorem S2 : ∀ n Y, (e4 (2 * n) Y &&& M2 n) + ((e4 (2 * n) Y / 4) &&& M2 n) = e16 n Y
  | 0, Y => by simp [e4, e16, M2]
  | n + 1, Y => by
    have ih := S2 n (Y / 4 / 4)
    rw [show 2 * (n + 1) = 2 * n + 1 + 1 by omega]
    have hX : e4 (2 * n + 1 + 1) Y = c2 (Y % 4) + 4 * (c2 (Y / 4 % 4) + 4 * e4 (2 * n) (Y / 4 / 4)) := rfl
    have hE : e16 (n + 1) Y = (c2 (Y % 4) + c2 (Y / 4 % 4)) + 16 * e16 n (Y / 4 / 4) := rfl
    rw [hX, hE]
    have l0 := c2_le Y
    have l1 := c2_le (Y / 4)
    generalize c2 (Y % 4) = q0 at *
    generalize c2 (Y / 4 % 4) = q1 at *
    generalize e4 (2 * n) (Y / 4 / 4) = Z at *
    have a1 : q0 + 4 * (q1 + 4 * Z) = (q0 + 4 * q1) + 2 ^ 4 * Z := by omega
    have a2 : (q0 + 4 * (q1 + 4 * Z)) / 4 = (q1 + 4 * (Z % 4)) + 2 ^ 4 * (Z / 4) := by omega
    have a3 : (q0 + 4 * q1) &&& 3 = q0 := by rw [show 3 = 2 ^ 2 - 1 from rfl, Nat.and_two_pow_sub_one_eq_mod]; omega
    have a4 : (q1 + 4 * (Z % 4)) &&& 3 = q1 := by rw [show 3 = 2 ^ 2 - 1 from rfl, Nat.and_two_pow_sub_one_eq_mod]; omega
    rw [a2, a1]
    show (((q0 + 4 * q1) + 2 ^ 4 * Z) &&& (3 + 2 ^ 4 * M2 n)) + (((q1 + 4 * (Z % 4)) + 2 ^ 4 * (Z / 4)) &&& (3 + 2 ^ 4 * M2 n)) = (q0 + q1) + 16 * e16 n (Y / 4 / 4)
    rw [and_split (k := 4) _ _ (by omega) (by decide), and_split (k := 4) _ _ (by omega) (by decide), a3, a4, ← ih]
    omega
theorem e16_mod : ∀ n Y, e16 n Y % 16 ≤ 4
  | 0, _ => by simp [e16]
  | n + 1, Y => by
    have l0 := c2_le Y
    have l1 := c2_le (Y / 4)
    show ((c2 (Y % 4) + c2 (Y / 4 % 4)) + 16 * e16 n (Y / 4 / 4)) % 16 ≤ 4
    omega
theorem S3 : ∀ n Y, ((e16 (2 * n) Y + e16 (2 * n) Y / 16) &&& M3 n) = e256 n Y
  | 0, Y => by simp [e16, e256, M3]
  | n + 1, Y => by
    have ih := S3 n (Y / 4 / 4 / 4 / 4)
    have hz := e16_mod (2 * n) (Y / 4 / 4 / 4 / 4)
    rw [show 2 * (n + 1) = 2 * n + 1 + 1 by omega]
    have hX : e16 (2 * n + 1 + 1) Y = (c2 (Y % 4) + c2 (Y / 4 % 4)) + 16 * ((c2 (Y / 4 / 4 % 4) + c2 (Y / 4 / 4 / 4 % 4)) + 16 * e16 (2 * n) (Y / 4 / 4 / 4 / 4)) := rfl
    rw [hX]
    have hE : e256 (n + 1) Y = (c2 (Y % 4) + c2 (Y / 4 % 4) + (c2 (Y / 4 / 4 % 4) + c2 (Y / 4 / 4 / 4 % 4))) + 256 * e256 n (Y / 4 / 4 / 4 / 4) := rfl
    rw [hE, ← ih]
    have l0 := c2_le Y
    have l1 := c2_le (Y / 4)
    have l2 := c2_le (Y / 4 / 4)
    have l3 := c2_le (Y / 4 / 4 / 4)
    have a0 : c2 (Y % 4) + c2 (Y / 4 % 4) ≤ 4 := by omega
    have a0' : c2 (Y / 4 / 4 % 4) + c2 (Y / 4 / 4 / 4 % 4) ≤ 4 := by omega
    generalize c2 (Y % 4) + c2 (Y / 4 % 4) = t0 at *
    generalize c2 (Y / 4 / 4 % 4) + c2 (Y / 4 / 4 / 4 % 4) = t1 at *
    generalize e16 (2 * n) (Y / 4 / 4 / 4 / 4) = Z at *
    have a1 : t0 + 16 * (t1 + 16 * Z) + (t0 + 16 * (t1 + 16 * Z)) / 16 = ((t0 + t1) + 16 * (t1 + Z % 16)) + 2 ^ 8 * (Z + Z / 16) := by omega
    have a3 : ((t0 + t1) + 16 * (t1 + Z % 16)) &&& 15 = t0 + t1 := by rw [show 15 = 2 ^ 4 - 1 from rfl, Nat.and_two_pow_sub_one_eq_mod]; omega
    rw [a1]
    show (((t0 + t1) + 16 * (t1 + Z % 16)) + 2 ^ 8 * (Z + Z / 16)) &&& (15 + 2 ^ 8 * M3 n) = _
    rw [and_split (k := 8) _ _ (by omega) (by decide), a3]
/-- the sum of pairs -/
def pcR : Nat → Nat → Nat
  | 0, _ => 0
  | n + 1, Y => c2 (Y % 4) + pcR n (Y / 4)
theorem ctF_2 (f : Nat → Bool) : ∀ n, ctF f (n + 2) = (if f 0 then 1 else 0) + (if f 1 then 1 else 0) + ctF (fun j => f (j + 2)) n
  | 0 => by show (if f 1 then (if f 0 then 0 + 1 else 0) + 1 else (if f 0 then 0 + 1 else 0)) = _; cases f 0 <;> cases f 1 <;> rfl
  | n + 1 => by
    have ih := ctF_2 f n
    show (if f (n + 2) then ctF f (n + 2) + 1 else ctF f (n + 2)) = _ + (if f (n + 2) then ctF (fun j => f (j + 2)) n + 1 else ctF (fun j => f (j + 2)) n)
    rw [ih]
    split <;> omega
theorem pcR_ct : ∀ n Y, pcR n Y = ctF (fun j => Y.testBit j) (2 * n)
  | 0, _ => rfl
  | n + 1, Y => by
    rw [show 2 * (n + 1) = 2 * n + 2 by omega, ctF_2, show pcR (n + 1) Y = c2 (Y % 4) + pcR n (Y / 4) from rfl, pcR_ct n (Y / 4)]
    have e : (fun j => (Y / 4).testBit j) = fun j => Y.testBit (j + 2) := by
      funext j
      rw [show Y / 4 = Y / 2 ^ 2 from rfl, Nat.testBit_div_two_pow]
    rw [e]
    congr 1
    rw [Nat.testBit_zero, Nat.testBit_succ, Nat.testBit_zero]
    unfold c2
    by_cases h0 : Y % 2 = 1 <;> by_cases h1 : Y / 2 % 2 = 1 <;> simp [h0, h1] <;> omega
/-- the bit j of x -/
def bI (x : Int32) (j : Nat) : Bool := x.toBitVec.toNat.testBit j
def pcI (x : Int32) : Nat := ctF (bI x) 32
theorem eq_tn (x : Int32) : x = nI x.toBitVec.toNat := by
  apply Int32.toBitVec_inj.mp
  show x.toBitVec = BitVec.ofNat 32 x.toBitVec.toNat
  rw [BitVec.ofNat_toNat, BitVec.setWidth_eq]
theorem nI_and (x y : Nat) : nI x &&& nI y = nI (x &&& y) := by
  apply Int32.toBitVec_inj.mp
  show BitVec.ofNat 32 x &&& BitVec.ofNat 32 y = BitVec.ofNat 32 (x &&& y)
  exact (BitVec.ofNat_and).symm
theorem e4_lt : ∀ n Y, e4 n Y < 4 ^ n
  | 0, _ => Nat.one_pos
  | n + 1, Y => by
    have := e4_lt n (Y / 4)
    have := c2_le Y
    rw [Nat.pow_succ]
    show c2 (Y % 4) + 4 * e4 n (Y / 4) < _
    omega
theorem e16_lt : ∀ n Y, e16 n Y < 16 ^ n
  | 0, _ => Nat.one_pos
  | n + 1, Y => by
    have := e16_lt n (Y / 4 / 4)
    have := c2_le Y
    have := c2_le (Y / 4)
    rw [Nat.pow_succ]
    show (c2 (Y % 4) + c2 (Y / 4 % 4)) + 16 * e16 n (Y / 4 / 4) < _
    omega
theorem c_J6_bitCount {x : Int32} (hQ : Q (.inl (some (.int (nI (pcI x))))) h n) : pCall E M_J6_bitCount_0f7a4 d [.int x] h n Q := by
  refine pCall_of rfl rfl (Nat.le_of_ble_eq_true rfl) (by simp [Value.category]) ?_
  refine b_J6_bitCount_0f7a4_0 _ _ _ ?_
  simp only [pEntry, PM.nL, M_J6_bitCount_0f7a4, List.map_cons, List.map_nil, List.length_cons, List.length_nil, Nat.reduceAdd, Nat.reduceSub, Nat.sub_self, List.replicate_succ, List.replicate_zero, List.cons_append, List.nil_append]
  have hx := eq_tn x
  have hlt : x.toBitVec.toNat < 2 ^ 32 := x.toBitVec.isLt
  have hpc : pcI x = ctF (fun j => x.toBitVec.toNat.testBit j) 32 := rfl
  generalize x.toBitVec.toNat = Y at *
  subst hx
  obtain ⟨i1, i2⟩ := S1 16 Y hlt
  have b1 : ((nI Y).toUInt32 >>> ((1 : Int32).toUInt32 &&& Int32.toUInt32 31)).toInt32 = nI (Y / 2) := pk_ushrN hlt 1 1 rfl
  have b2 : nI (Y / 2) &&& 1431655765 = nI (Y / 2 &&& M1 16) := nI_and _ 1431655765
  have b3 : nI Y - nI (Y / 2 &&& M1 16) = nI (e4 16 Y) := by rw [pk_sub i1, i2]
  have l4 := e4_lt 16 Y
  have b4 : ((nI (e4 16 Y)).toUInt32 >>> ((2 : Int32).toUInt32 &&& Int32.toUInt32 31)).toInt32 = nI (e4 16 Y / 4) := pk_ushrN l4 2 2 rfl
  have b5 : nI (e4 16 Y) &&& 858993459 = nI (e4 16 Y &&& M2 8) := nI_and _ 858993459
  have b6 : nI (e4 16 Y / 4) &&& 858993459 = nI (e4 16 Y / 4 &&& M2 8) := nI_and _ 858993459
  have b7 : nI (e4 16 Y &&& M2 8) + nI (e4 16 Y / 4 &&& M2 8) = nI (e16 8 Y) := by rw [nI_add, S2 8 Y]
  have l16 := e16_lt 8 Y
  have b8 : ((nI (e16 8 Y)).toUInt32 >>> ((4 : Int32).toUInt32 &&& Int32.toUInt32 31)).toInt32 = nI (e16 8 Y / 16) := pk_ushrN l16 4 4 rfl
  have b9 : nI (e16 8 Y + e16 8 Y / 16) &&& 252645135 = nI (e256 4 Y) := by rw [← S3 4 Y]; exact nI_and _ 252645135
  have hE : e256 4 Y = (c2 (Y % 4) + c2 (Y / 4 % 4) + (c2 (Y / 4 / 4 % 4) + c2 (Y / 4 / 4 / 4 % 4))) + 256 * e256 3 (Y / 4 / 4 / 4 / 4) := rfl
  have key : ∃ v0 v1 v2 v3, e256 4 Y = v0 + 256 * (v1 + 256 * (v2 + 256 * v3)) ∧ pcR 16 Y = v0 + v1 + v2 + v3 ∧ v0 ≤ 8 ∧ v1 ≤ 8 ∧ v2 ≤ 8 ∧ v3 ≤ 8 := by
    have q : ∀ n Z, ∃ v, v ≤ 8 ∧ e256 (n + 1) Z = v + 256 * e256 n (Z / 4 / 4 / 4 / 4) ∧ pcR (4 * n + 4) Z = v + pcR (4 * n) (Z / 4 / 4 / 4 / 4) := by
      intro n Z
      refine ⟨c2 (Z % 4) + c2 (Z / 4 % 4) + (c2 (Z / 4 / 4 % 4) + c2 (Z / 4 / 4 / 4 % 4)), ?_, rfl, ?_⟩
      · have := c2_le Z; have := c2_le (Z / 4); have := c2_le (Z / 4 / 4); have := c2_le (Z / 4 / 4 / 4); omega
      · show c2 (Z % 4) + (c2 (Z / 4 % 4) + (c2 (Z / 4 / 4 % 4) + (c2 (Z / 4 / 4 / 4 % 4) + pcR (4 * n) (Z / 4 / 4 / 4 / 4)))) = _
        omega
    obtain ⟨v0, l0, x0, y0⟩ := q 3 Y
    obtain ⟨v1, l1, x1, y1⟩ := q 2 (Y / 4 / 4 / 4 / 4)
    obtain ⟨v2, l2, x2, y2⟩ := q 1 (Y / 4 / 4 / 4 / 4 / 4 / 4 / 4 / 4)
    obtain ⟨v3, l3, x3, y3⟩ := q 0 (Y / 4 / 4 / 4 / 4 / 4 / 4 / 4 / 4 / 4 / 4 / 4 / 4)
    refine ⟨v0, v1, v2, v3, ?_, ?_, l0, l1, l2, l3⟩
    · rw [x0, x1, x2, x3]; rfl
    · have y3' : pcR 4 (Y / 4 / 4 / 4 / 4 / 4 / 4 / 4 / 4 / 4 / 4 / 4 / 4) = v3 := y3
      have y2' : pcR 8 (Y / 4 / 4 / 4 / 4 / 4 / 4 / 4 / 4) = v2 + pcR 4 (Y / 4 / 4 / 4 / 4 / 4 / 4 / 4 / 4 / 4 / 4 / 4 / 4) := y2
      have y1' : pcR 12 (Y / 4 / 4 / 4 / 4) = v1 + pcR 8 (Y / 4 / 4 / 4 / 4 / 4 / 4 / 4 / 4) := y1
      have y0' : pcR 16 Y = v0 + pcR 12 (Y / 4 / 4 / 4 / 4) := y0
      omega
  obtain ⟨v0, v1, v2, v3, k1, k2, l0, l1, l2, l3⟩ := key
  have hX : e256 4 Y < 2 ^ 32 := by omega
  have b10 : ((nI (e256 4 Y)).toUInt32 >>> ((8 : Int32).toUInt32 &&& Int32.toUInt32 31)).toInt32 = nI (e256 4 Y / 256) := pk_ushrN hX 8 8 rfl
  generalize hX4 : e256 4 Y + e256 4 Y / 256 = X4
  have hX4l : X4 < 2 ^ 32 := by omega
  have b11 : ((nI X4).toUInt32 >>> ((16 : Int32).toUInt32 &&& Int32.toUInt32 31)).toInt32 = nI (X4 / 65536) := pk_ushrN hX4l 16 16 rfl
  have b12 : nI (X4 + X4 / 65536) &&& 63 = nI ((X4 + X4 / 65536) % 64) := pk_andN (by omega) 6 rfl
  have b13 : (X4 + X4 / 65536) % 64 = pcR 16 Y := by
    clear b12 b11 b10 b9 b8 b7 b6 b5 b4 b3 b2 b1 i1 i2 l4 l16 hE hpc hQ hlt
    have z1 : e256 4 Y / 256 = v1 + 256 * (v2 + 256 * v3) := by omega
    have z2 : X4 = (v0 + v1 + 256 * (v1 + v2)) + 65536 * (v2 + v3 + 256 * v3) := by omega
    have z3 : X4 / 65536 = v2 + v3 + 256 * v3 := by omega
    rw [z3, z2, k2]
    omega
  simp only [i_const, i_load, i_aload, i_store, i_astore, i_inc, i_iadd, i_isub, i_imul, i_idiv, i_irem, i_iand, i_ior, i_ixor, i_ishl, i_ishr, i_iushr, i_ineg, i_i2l, i_i2b, i_i2c, i_lcmp, i_dup, i_dup2, i_pop, i_null, i_alen, i_iald, i_bald, i_lald, i_aald, i_iast, i_bast, i_last, i_aast, i_goto, i_icmp_eq, i_icmp_ne, i_icmp_lt, i_icmp_ge, i_icmp_gt, i_icmp_le, i_if_eq, i_if_ne, i_if_lt, i_if_ge, i_if_gt, i_if_le, i_ifnonnull, i_getf, i_putf, i_iret, i_zret, i_aret, i_vret, i_new, i_newa, i_anew, i_oinit, i_callv, i_calls, i_calli, i_max, i_min, i_abs, i_copy, i_throw, i_ldcs, pwt, List.getElem?_cons_zero, List.getElem?_cons_succ, List.set_cons_zero, List.set_cons_succ, List.getD_cons_zero, List.getD_cons_succ, List.length_cons, List.length_nil, List.length_set, List.drop_succ_cons, List.drop_zero, List.take_succ_cons, List.take_zero, List.reverse_cons, List.reverse_nil, List.nil_append, List.cons_append, List.append_nil, List.map_cons, List.map_nil, List.sum_cons, List.sum_nil, Value.category, ne_eq, Nat.reduceEqDiff, reduceIte, ite_self, false_implies, true_implies, true_and, and_true, and_self, Nat.zero_le, Nat.le_refl, Nat.reduceLeDiff, Nat.reduceAdd, Nat.reduceLT, Nat.add_zero, Nat.zero_add, pu_eq, not_false_eq_true, not_true_eq_false, forall_const, if_true, if_false, implies_true, b1, b2, b3, b4, b5, b6, b7, b8, nI_add, b9, b10, hX4, b11, b12, b13]
  rw [hpc, ← pcR_ct 16 Y] at hQ
  exact hQ
end BITS

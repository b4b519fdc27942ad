/-! sets as bits -/
section SETS
variable {E : PE} {M : PM} {d : Nat} {Q : PQ} {h : PH} {n : Nat} {a b : Nat} {r rb : AR} {lw lb : Option Nat} {C Cb : Option LawL} {pc : Nat}
theorem bI_or (x y : Int32) (j : Nat) : bI (x ||| y) j = (bI x j || bI y j) := by
  unfold bI
  rw [show (x ||| y).toBitVec = x.toBitVec ||| y.toBitVec from rfl, BitVec.toNat_or, Nat.testBit_or]
theorem bI_and (x y : Int32) (j : Nat) : bI (x &&& y) j = (bI x j && bI y j) := by
  unfold bI
  rw [show (x &&& y).toBitVec = x.toBitVec &&& y.toBitVec from rfl, BitVec.toNat_and, Nat.testBit_and]
theorem bI_xor (x y : Int32) (j : Nat) : bI (x ^^^ y) j = (bI x j ^^ bI y j) := by
  unfold bI
  rw [show (x ^^^ y).toBitVec = x.toBitVec ^^^ y.toBitVec from rfl, BitVec.toNat_xor, Nat.testBit_xor]
theorem bI_m1 {j : Nat} (hj : j < 32) : bI (-1) j = true := by
  have : ∀ j : Fin 32, bI (-1) j.1 = true := by decide
  exact this ⟨j, hj⟩
theorem bI_not (x : Int32) {j : Nat} (hj : j < 32) : bI (x ^^^ -1) j = !bI x j := by rw [bI_xor, bI_m1 hj, Bool.xor_true]
theorem bI_0 (j : Nat) : bI 0 j = false := Nat.zero_testBit j
theorem bI_nI {k : Nat} (hk : k < 2 ^ 32) (j : Nat) : bI (nI k) j = k.testBit j := by unfold bI; rw [pk_tn hk]
theorem bitI_nI {k : Nat} (hk : k < 32) : bitI k = nI (2 ^ k) := by
  have : ∀ k : Fin 32, bitI k.1 = nI (2 ^ k.1) := by decide
  exact this ⟨k, hk⟩
theorem bI_bit {k : Nat} (hk : k < 32) (j : Nat) : bI (bitI k) j = decide (k = j) := by
  rw [bitI_nI hk, bI_nI (Nat.pow_lt_pow_right (by decide) hk), Nat.testBit_two_pow]
theorem bI_big (x : Int32) {j : Nat} (hj : 32 ≤ j) : bI x j = false := by
  unfold bI
  exact Nat.testBit_lt_two_pow (Nat.lt_of_lt_of_le x.toBitVec.isLt (Nat.pow_le_pow_right (by decide) hj))
theorem bI_ext {x y : Int32} (h : ∀ j, j < 32 → bI x j = bI y j) : x = y := by
  rw [eq_tn x, eq_tn y]
  congr 1
  apply Nat.eq_of_testBit_eq
  intro j
  by_cases hj : j < 32
  · exact h j hj
  · exact (bI_big x (by omega)).trans (bI_big y (by omega)).symm
theorem bI_all {m : Nat} (hm : m < 31) (j : Nat) : bI (bitI m - 1) j = decide (j < m) := by
  have h2 : 2 ^ m < 2 ^ 31 := Nat.pow_lt_pow_right (by decide) hm
  have h1 : 1 ≤ 2 ^ m := Nat.one_le_two_pow
  rw [bitI_nI (by omega), show (1 : Int32) = nI 1 from rfl, pk_sub h1, bI_nI (by omega), Nat.testBit_two_pow_sub_one]
theorem smod31 {j : Nat} (hj : j < 32) : ((nI j &&& 31).toBitVec.smod 32).toNat = j := by
  have : ∀ j : Fin 32, ((nI j.1 &&& 31).toBitVec.smod 32).toNat = j.1 := by decide
  exact this ⟨j, hj⟩
theorem shr1 (x : Int32) {j : Nat} (hj : j < 32) : (x >>> (nI j &&& 31)) &&& 1 = if bI x j = true then 1 else 0 := by
  have h1 := pk_shr x (nI j &&& 31) j (smod31 hj)
  have h2 := pk_and (x >>> (nI j &&& 31)) (m := 1) 1 rfl
  rw [h2]
  have e : (x >>> (nI j &&& 31)).toBitVec.toNat % 2 ^ 1 = if bI x j = true then 1 else 0 := by
    have h3 : (x >>> (nI j &&& 31)).toInt = (x >>> (nI j &&& 31)).toBitVec.toInt := rfl
    have h4 : x.toInt = x.toBitVec.toInt := rfl
    have h5 := BitVec.toInt_eq_toNat_bmod (x >>> (nI j &&& 31)).toBitVec
    have h6 := BitVec.toInt_eq_toNat_cond x.toBitVec
    have h7 := BitVec.toInt_eq_toNat_cond (x >>> (nI j &&& 31)).toBitVec
    rw [h3, h4, Int.shiftRight_eq_div_pow] at h1
    have hb : bI x j = decide (x.toBitVec.toNat / 2 ^ j % 2 = 1) := Nat.testBit_eq_decide_div_mod_eq
    rw [hb]
    have hlt := x.toBitVec.isLt
    have hlt2 := (x >>> (nI j &&& 31)).toBitVec.isLt
    generalize (x >>> (nI j &&& 31)).toBitVec.toNat = Y at *
    generalize (x >>> (nI j &&& 31)).toBitVec.toInt = YI at *
    generalize x.toBitVec.toInt = XI at *
    generalize x.toBitVec.toNat = X at *
    -- YI = XI / 2^j ; parity of Y is that of YI ; parity of XI / 2^j is that of X / 2^j
    have p1 : (Y : Int) % 2 = YI % 2 := by rw [h7]; split <;> omega
    have p2 : (XI / ((2 ^ j : Nat) : Int)) % 2 = ((X / 2 ^ j : Nat) : Int) % 2 := by
      rw [h6]
      split
      · rw [Int.natCast_ediv]
      · obtain ⟨k, hk⟩ : ∃ k, 2 ^ 32 = 2 ^ j * (2 * k) := ⟨2 ^ (31 - j), by rw [← Nat.mul_assoc, ← Nat.pow_succ, ← Nat.pow_add]; congr 1; omega⟩
        rw [Int.natCast_ediv, hk, show ((X : Int) - ((2 ^ j * (2 * k) : Nat) : Int)) = (X : Int) + ((2 ^ j : Nat) : Int) * (-(2 * (k : Int))) by rw [Int.natCast_mul, Int.natCast_mul, Int.mul_neg, Int.sub_eq_add_neg]; rfl]
        rw [Int.add_mul_ediv_left _ _ (by have := Nat.two_pow_pos j; omega)]
        omega
    have p3 : ((Y % 2 : Nat) : Int) = ((X / 2 ^ j % 2 : Nat) : Int) := by
      rw [Int.natCast_emod, Int.natCast_emod]
      rw [show ((2 : Nat) : Int) = 2 from rfl, p1, h1]
      exact p2
    have p4 : Y % 2 = X / 2 ^ j % 2 := Int.ofNat.inj p3
    rw [show 2 ^ 1 = 2 from rfl, p4]
    by_cases c : X / 2 ^ j % 2 = 1
    · rw [decide_eq_true c, if_pos rfl]; exact c
    · rw [decide_eq_false c, if_neg (by decide)]; omega
  rw [e]
  split <;> rfl
theorem bt_iff (x : Int32) {j : Nat} (hj : j < 32) : bt x j ↔ bI x j = true := by
  show ¬ ((x >>> (nI j &&& 31)) &&& 1 = 0) ↔ _
  rw [shr1 x hj]
  cases bI x j
  · exact ⟨fun q => absurd rfl q, fun q => absurd q (by decide)⟩
  · exact ⟨fun _ => rfl, fun _ => by decide⟩
theorem bI_orF (f : Nat → Int32) (j : Nat) : ∀ m, bI (orF f m) j = true ↔ ∃ i, i < m ∧ bI (f i) j = true
  | 0 => by
    show bI 0 j = true ↔ _
    rw [bI_0]
    exact ⟨fun q => absurd q (by decide), fun ⟨i, hi, _⟩ => absurd hi (Nat.not_lt_zero i)⟩
  | m + 1 => by
    show bI (orF f m ||| f m) j = true ↔ _
    rw [bI_or, Bool.or_eq_true, bI_orF f j m]
    constructor
    · rintro (⟨i, h1, h2⟩ | q)
      · exact ⟨i, by omega, h2⟩
      · exact ⟨m, by omega, q⟩
    · rintro ⟨i, h1, h2⟩
      by_cases e : i = m
      · subst e; exact Or.inr h2
      · exact Or.inl ⟨i, by omega, h2⟩
/-- a set that is said by a test of its numbers -/
theorem bI_set (P : Nat → Bool) {m : Nat} (hm : m ≤ 32) (j : Nat) : bI (orF (fun i => if P i = true then bitI i else 0) m) j = (decide (j < m) && P j) := by
  have h := bI_orF (fun i => if P i = true then bitI i else 0) j m
  rw [Bool.eq_iff_iff, h, Bool.and_eq_true, decide_eq_true_iff]
  constructor
  · rintro ⟨i, h1, h2⟩
    by_cases c : P i = true
    · simp only [c, if_true] at h2
      rw [bI_bit (by omega), decide_eq_true_iff] at h2
      subst h2
      exact ⟨h1, c⟩
    · simp only [c] at h2
      rw [if_neg (by simp), bI_0] at h2
      cases h2
  · rintro ⟨h1, h2⟩
    refine ⟨j, h1, ?_⟩
    simp only [h2, if_true]
    rw [bI_bit (by omega)]
    exact decide_eq_true rfl
theorem ctF_lt (f : Nat → Bool) {m : Nat} : ∀ N, m ≤ N → (∀ j, m ≤ j → f j = false) → ctF f N = ctF f m
  | 0, h, _ => by have : m = 0 := by omega
                  subst this; rfl
  | N + 1, h, hf => by
    by_cases e : m = N + 1
    · subst e; rfl
    · show (if f N then _ else _) = _
      rw [hf N (by omega)]
      exact ctF_lt f N (by omega) hf
/-- how many a set has -/
theorem pcI_set (P : Nat → Bool) {m : Nat} (hm : m ≤ 32) : pcI (orF (fun i => if P i = true then bitI i else 0) m) = ctF P m := by
  unfold pcI
  rw [ctF_lt (m := m) _ 32 hm (fun j hj => by rw [bI_set P hm, decide_eq_false (by omega)]; rfl)]
  exact ctF_congr (fun j hj => by rw [bI_set P hm, decide_eq_true hj]; rfl)
theorem pcI_le (x : Int32) : pcI x ≤ 32 := ctF_le _ _
end SETS

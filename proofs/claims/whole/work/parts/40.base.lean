/-! loops; the picture of an army -/
section BASE
variable {E : PE} {M : PM} {d : Nat} {Q : PQ} {pc : Nat}
/-- a loop that counts up to n: P j holds at its head when j rounds are done -/
theorem pFor (n : Nat) (P : Nat → PL → PS → Prop) (hstep : ∀ j, j < n → ∀ ls σ, P j ls σ → (∀ ls' σ', P (j + 1) ls' σ' → PW E M d Q pc ls' [] σ') → PW E M d Q pc ls [] σ) (hend : ∀ ls σ, P n ls σ → PW E M d Q pc ls [] σ) :
    ∀ j, j ≤ n → ∀ ls σ, P j ls σ → PW E M d Q pc ls [] σ := by
  have key : ∀ k j, n - j = k → j ≤ n → ∀ ls σ, P j ls σ → PW E M d Q pc ls [] σ := by
    intro k
    induction k with
    | zero => intro j h1 h2 ls σ h; have : j = n := by omega
              subst this; exact hend ls σ h
    | succ k ih => intro j h1 h2 ls σ h; exact hstep j (by omega) ls σ h (fun ls' σ' h' => ih (j + 1) (by omega) (by omega) ls' σ' h')
  intro j hj
  exact key _ j rfl hj
theorem pu_pu (h : PH) (a : Nat) (c c' : PC) : pu (pu h a c) a c' = pu h a c' := by
  funext q
  unfold pu
  by_cases e : q = a
  · rw [if_pos e, if_pos e]
  · rw [if_neg e, if_neg e, if_neg e]
/-- a raw army: row k, place j -/
abbrev AR : Type := Nat → Nat → Int32
def ru (r : AR) (k j : Nat) (x : Int32) : AR := fun k' => if k' = k then upd (r k) j x else r k'
def rs (r : AR) (k : Nat) (f : Nat → Int32) : AR := fun k' => if k' = k then f else r k'
def AC (a : Nat) (r : AR) (lw : Option Nat) : Nat → PC
  | 0 => .inr (0, [.ref (a + 1), .ref (a + 5), .ref (a + 8), .ref (a + 17), va_rf lw, .int (r 0 5), .int (r 0 6), .int (r 0 7), .ref (a + 19)])
  | 1 => .inr (2, [.int (r 1 0), .ref (a + 2), .ref (a + 3), .ref (a + 4)])
  | 2 => .inl (.int, (8, .inl (r 2)))
  | 3 => .inl (.int, (8, .inl (r 3)))
  | 4 => .inl (.int, (8, .inl (r 4)))
  | 5 => .inr (7, [.int (r 5 0), .int (r 5 1), .ref (a + 6), .ref (a + 7)])
  | 6 => .inl (.int, (10, .inl (r 6)))
  | 7 => .inl (.int, (10, .inl (r 7)))
  | 8 => .inr (8, [.int (r 8 0), .ref (a + 9), .ref (a + 10), .ref (a + 11), .ref (a + 12), .ref (a + 13), .ref (a + 14), .ref (a + 15), .ref (a + 16)])
  | 9 => .inl (.int, (24, .inl (r 9)))
  | 10 => .inl (.int, (24, .inl (r 10)))
  | 11 => .inl (.int, (24, .inl (r 11)))
  | 12 => .inl (.int, (24, .inl (r 12)))
  | 13 => .inl (.int, (24, .inl (r 13)))
  | 14 => .inl (.int, (24, .inl (r 14)))
  | 15 => .inl (.int, (24, .inl (r 15)))
  | 16 => .inl (.int, (24, .inl (r 16)))
  | 17 => .inr (5, [.int (r 17 0), .int (r 17 1), .ref (a + 18)])
  | 18 => .inl (.int, (300, .inl (r 18)))
  | _ => .inl (.int, (10, .inl (r 19)))
def AA (h : PH) (a : Nat) (r : AR) (lw : Option Nat) : Prop := ∀ k, k < 20 → h (a + k) = some (AC a r lw k)
theorem AA.f0 {h : PH} {a : Nat} {r : AR} {lw : Option Nat} (H : AA h a r lw) : h a = some (.inr (0, [.ref (a + 1), .ref (a + 5), .ref (a + 8), .ref (a + 17), va_rf lw, .int (r 0 5), .int (r 0 6), .int (r 0 7), .ref (a + 19)])) := H 0 (by decide)
theorem AA.f1 {h : PH} {a : Nat} {r : AR} {lw : Option Nat} (H : AA h a r lw) : h (a + 1) = some (.inr (2, [.int (r 1 0), .ref (a + 2), .ref (a + 3), .ref (a + 4)])) := H 1 (by decide)
theorem AA.f2 {h : PH} {a : Nat} {r : AR} {lw : Option Nat} (H : AA h a r lw) : h (a + 2) = some (.inl (.int, (8, .inl (r 2)))) := H 2 (by decide)
theorem AA.f3 {h : PH} {a : Nat} {r : AR} {lw : Option Nat} (H : AA h a r lw) : h (a + 3) = some (.inl (.int, (8, .inl (r 3)))) := H 3 (by decide)
theorem AA.f4 {h : PH} {a : Nat} {r : AR} {lw : Option Nat} (H : AA h a r lw) : h (a + 4) = some (.inl (.int, (8, .inl (r 4)))) := H 4 (by decide)
theorem AA.f5 {h : PH} {a : Nat} {r : AR} {lw : Option Nat} (H : AA h a r lw) : h (a + 5) = some (.inr (7, [.int (r 5 0), .int (r 5 1), .ref (a + 6), .ref (a + 7)])) := H 5 (by decide)
theorem AA.f6 {h : PH} {a : Nat} {r : AR} {lw : Option Nat} (H : AA h a r lw) : h (a + 6) = some (.inl (.int, (10, .inl (r 6)))) := H 6 (by decide)
theorem AA.f7 {h : PH} {a : Nat} {r : AR} {lw : Option Nat} (H : AA h a r lw) : h (a + 7) = some (.inl (.int, (10, .inl (r 7)))) := H 7 (by decide)
theorem AA.f8 {h : PH} {a : Nat} {r : AR} {lw : Option Nat} (H : AA h a r lw) : h (a + 8) = some (.inr (8, [.int (r 8 0), .ref (a + 9), .ref (a + 10), .ref (a + 11), .ref (a + 12), .ref (a + 13), .ref (a + 14), .ref (a + 15), .ref (a + 16)])) := H 8 (by decide)
theorem AA.f9 {h : PH} {a : Nat} {r : AR} {lw : Option Nat} (H : AA h a r lw) : h (a + 9) = some (.inl (.int, (24, .inl (r 9)))) := H 9 (by decide)
theorem AA.f10 {h : PH} {a : Nat} {r : AR} {lw : Option Nat} (H : AA h a r lw) : h (a + 10) = some (.inl (.int, (24, .inl (r 10)))) := H 10 (by decide)
theorem AA.f11 {h : PH} {a : Nat} {r : AR} {lw : Option Nat} (H : AA h a r lw) : h (a + 11) = some (.inl (.int, (24, .inl (r 11)))) := H 11 (by decide)
theorem AA.f12 {h : PH} {a : Nat} {r : AR} {lw : Option Nat} (H : AA h a r lw) : h (a + 12) = some (.inl (.int, (24, .inl (r 12)))) := H 12 (by decide)
theorem AA.f13 {h : PH} {a : Nat} {r : AR} {lw : Option Nat} (H : AA h a r lw) : h (a + 13) = some (.inl (.int, (24, .inl (r 13)))) := H 13 (by decide)
theorem AA.f14 {h : PH} {a : Nat} {r : AR} {lw : Option Nat} (H : AA h a r lw) : h (a + 14) = some (.inl (.int, (24, .inl (r 14)))) := H 14 (by decide)
theorem AA.f15 {h : PH} {a : Nat} {r : AR} {lw : Option Nat} (H : AA h a r lw) : h (a + 15) = some (.inl (.int, (24, .inl (r 15)))) := H 15 (by decide)
theorem AA.f16 {h : PH} {a : Nat} {r : AR} {lw : Option Nat} (H : AA h a r lw) : h (a + 16) = some (.inl (.int, (24, .inl (r 16)))) := H 16 (by decide)
theorem AA.f17 {h : PH} {a : Nat} {r : AR} {lw : Option Nat} (H : AA h a r lw) : h (a + 17) = some (.inr (5, [.int (r 17 0), .int (r 17 1), .ref (a + 18)])) := H 17 (by decide)
theorem AA.f18 {h : PH} {a : Nat} {r : AR} {lw : Option Nat} (H : AA h a r lw) : h (a + 18) = some (.inl (.int, (300, .inl (r 18)))) := H 18 (by decide)
theorem AA.f19 {h : PH} {a : Nat} {r : AR} {lw : Option Nat} (H : AA h a r lw) : h (a + 19) = some (.inl (.int, (10, .inl (r 19)))) := H 19 (by decide)
theorem AA.put {h : PH} {a : Nat} {r r' : AR} {lw lw' : Option Nat} (H : AA h a r lw) (k : Nat) (hk : ∀ j, j < 20 → j ≠ k → AC a r' lw' j = AC a r lw j) : AA (pu h (a + k) (AC a r' lw' k)) a r' lw' := by
  intro j hj
  by_cases e : j = k
  · subst e; exact pu_eq _ _ _
  · rw [pu_ne (by omega), H j hj, hk j hj e]
theorem AA.other {h : PH} {a : Nat} {r : AR} {lw : Option Nat} (H : AA h a r lw) {q : Nat} {c : PC} (hq : q < a ∨ a + 20 ≤ q) : AA (pu h q c) a r lw := by
  intro j hj
  rw [pu_ne (by omega)]
  exact H j hj
/-! folds -/
def orF (f : Nat → Int32) : Nat → Int32
  | 0 => 0
  | n + 1 => orF f n ||| f n
def suF (f : Nat → Int32) : Nat → Int32
  | 0 => 0
  | n + 1 => suF f n + f n
theorem orF_congr {f g : Nat → Int32} : ∀ {n : Nat}, (∀ j, j < n → f j = g j) → orF f n = orF g n
  | 0, _ => rfl
  | n + 1, h => by show orF f n ||| f n = orF g n ||| g n; rw [orF_congr (fun j hj => h j (by omega)), h n (by omega)]
theorem suF_congr {f g : Nat → Int32} : ∀ {n : Nat}, (∀ j, j < n → f j = g j) → suF f n = suF g n
  | 0, _ => rfl
  | n + 1, h => by show suF f n + f n = suF g n + g n; rw [suF_congr (fun j hj => h j (by omega)), h n (by omega)]
def bitI (j : Nat) : Int32 := 1 <<< (nI j &&& 31)
theorem Int32.or_0 (x : Int32) : x ||| 0 = x := Int32.or_zero
end BASE

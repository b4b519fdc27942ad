/-! class and reference called one behind the other -/
section PAIR
variable {E : PE} {M : PM} {d : Nat} {h h' h1 h2 : PH} {n n' : Nat} {x B L sz nx : Nat} {f : Nat → Int32} {K : KA} {im wb : Int32} {w w' : AR} {r r' rn : AR} {g : Nat → Int64}
theorem pCall.mono {as : List Value} {Q Q' : PQ} (k : pCall E M d as h n Q) (hQ : ∀ o h n, Q o h n → Q' o h n) : pCall E M d as h n Q' := by
  refine MetFree.mono k (fun _ _ h => h) (fun _ _ _ _ _ h => h) (fun a s o s' _ hq => ?_)
  rcases hq with ⟨⟨v, h1, n1, e1, e2, e3, e4⟩, hf⟩ | ⟨q, e, X, ce, L, ⟨h1, n1, e1, e2, e3⟩, rest⟩
  · exact Or.inl ⟨⟨v, h1, n1, e1, e2, e3, hQ _ _ _ e4⟩, hf⟩
  · exact Or.inr ⟨q, e, X, ce, L, ⟨h1, n1, e1, e2, hQ _ _ _ e3⟩, rest⟩
/-- both, side by side; the law's own row of one long -/
def IV (x : Nat) (h : PH) (n : Nat) : Prop := ∃ (L : Nat) (f : Nat → Int32) (K : KA) (sz nx : Nat) (im wb : Int32) (w : AR) (g : Nat → Int64), CX h x (x + 330) n L f K sz nx im wb ∧ MX h (x + 316) w ∧ MR w L f K sz nx im wb ∧ h (x + 329) = some (.inl (.long, (1, .inr (.inl g))))
def PJ (x : Nat) (k : Int32) : PQ := fun r h n => ∃ b : Int32, r = .inl (some (.int b)) ∧ (∃ w, MX h (x + 316) w ∧ w 0 0 = k) ∧ (k = 0 → ∃ g : Nat → Int64, h (x + 329) = some (.inl (.long, (1, .inr (.inl g)))) ∧ g 0 = b.toInt64) ∧ IV x h n
def JQ (E : PE) (M : PM) (d x : Nat) (as : List Value) : PQ := fun r h n => ∃ k : Int32, r = .inl (some (.int k)) ∧ (∃ w, MX h (x + 316) w) ∧ pCall E M d (.ref (x + 316) :: as) h n (PJ x k)
def LQ' (cs : List (String × Int32)) (o : Nat) (Q : PQ) : PQ := fun r h n => match r with
  | .inl (some (.int a)) => ∃ g : Nat → Int64, h o = some (.inl (.long, (1, .inr (.inl g)))) ∧ Q (.inl (some (.int 0))) (pu h o (.inl (.long, (1, .inr (.inl (vp_updL g 0 a.toInt64)))))) n
  | .inl _ => False
  | .inr X => ∃ c : Int32, (X, c) ∈ cs ∧ Q (.inl (some (.int c))) h n
theorem LQ'.mono {cs : List (String × Int32)} {o : Nat} {Q Q' : PQ} (hQ : ∀ r h n, Q r h n → Q' r h n) (r : PO) (h : PH) (n : Nat) (k : LQ' cs o Q r h n) : LQ' cs o Q' r h n := by
  unfold LQ' at k ⊢
  split
  · rename_i a
    obtain ⟨g, h1, h2⟩ := k
    exact ⟨g, h1, hQ _ _ _ h2⟩
  · rename_i v hv
    split at k
    · rename_i a _ e; cases e; exact (hv _ rfl).elim
    · exact k
    · rename_i e; cases e
  · rename_i X
    obtain ⟨c, h1, h2⟩ := k
    exact ⟨c, h1, hQ _ _ _ h2⟩
def AJ (x : Nat) (v : Int32) : PQ := fun r h n => r = .inl (some (.int v)) ∧ IV x h n
def AJQ (E : PE) (M : PM) (d x : Nat) (as : List Value) : PQ := fun r h n => ∃ v : Int32, r = .inl (some (.int v)) ∧ (∃ w, MX h (x + 316) w) ∧ pCall E M d (.ref (x + 316) :: as) h n (AJ x v)
theorem CX.out {c : PC} (X : CX h x (x + 330) n L f K sz nx im wb) : CX (pu h (x + 329) c) x (x + 330) n L f K sz nx im wb := X.keep (fun q hq => pu_ne (by omega))
theorem MX.out {c : PC} (Y : MX h (x + 316) w) : MX (pu h (x + 329) c) (x + 316) w := Y.keep (fun q _ _ => pu_ne (by omega))
theorem MX.fc (Y : MX h (x + 316) w) (F : FC x (x + 330) h h1) : MX h1 (x + 316) w := Y.keep (fun q a b => F q a (by omega))
theorem FC.out {c : Option PC} (F : FC x (x + 330) h h1) (hg : h (x + 329) = c) : h1 (x + 329) = c := (F _ (by omega) (by omega)).trans hg
theorem CX.aw (X : CX h x B n L f K sz nx im wb) : ∀ k, k < 14 → WA (K k).1 := fun k hk => (X.ca.1 k hk).2
theorem fin0 {a : Int32} (X1 : CX h1 x (x + 330) n L f K sz nx im wb) (F : FM (x + 316) (pu h1 (x + 329) (.inl (.long, (1, .inr (.inl (vp_updL g 0 a.toInt64)))))) h2) (Y : MX h2 (x + 316) w') (R : MR w' L f K sz nx im wb) (e0 : w' 0 0 = 0) : PJ x 0 (.inl (some (.int a))) h2 n := by
  have ho : h2 (x + 329) = some (.inl (.long, (1, .inr (.inl (vp_updL g 0 a.toInt64))))) := (F _ (Or.inr (by omega))).trans (pu_eq _ _ _)
  exact ⟨a, rfl, ⟨w', Y, e0⟩, fun _ => ⟨_, ho, rfl⟩, L, f, K, sz, nx, im, wb, w', _, X1.out.keep (fun q hq => F q (by omega)), Y, R, ho⟩
theorem fin1 {a k : Int32} (X1 : CX h1 x (x + 330) n L f K sz nx im wb) (hg : h1 (x + 329) = some (.inl (.long, (1, .inr (.inl g))))) (F : FM (x + 316) h1 h2) (Y : MX h2 (x + 316) w') (R : MR w' L f K sz nx im wb) (e0 : w' 0 0 = k) (hk : k ≠ 0) : PJ x k (.inl (some (.int a))) h2 n :=
  ⟨a, rfl, ⟨w', Y, e0⟩, fun z => absurd z hk, L, f, K, sz, nx, im, wb, w', g, X1.keep (fun q hq => F q (by omega)), Y, R, (F _ (Or.inr (by omega))).trans hg⟩
theorem finA {v : Int32} (X1 : CX h1 x (x + 330) n L f K sz nx im wb) (hg : h1 (x + 329) = some (.inl (.long, (1, .inr (.inl g))))) (F : FM (x + 316) h1 h2) (Y : MX h2 (x + 316) w') (R : MR w' L f K sz nx im wb) : AJ x v (.inl (some (.int v))) h2 n :=
  ⟨rfl, L, f, K, sz, nx, im, wb, w', g, X1.keep (fun q hq => F q (by omega)), Y, R, (F _ (Or.inr (by omega))).trans hg⟩
theorem nI_cn {i : Nat} (h : i < 100000) : (nI i).toNatClampNeg = i := nI_clamp (by omega)
theorem nI_uq {y : Int32} {i i' : Nat} (h : i < 100000) (h' : i' < 100000) (e : y = nI i) (e' : y = nI i') : i' = i := by
  have := congrArg Int32.toNatClampNeg (e.symm.trans e')
  rw [nI_cn h, nI_cn h'] at this
  exact this.symm
theorem nI_ij (i j : Nat) (h : i < 100000) (h' : j < 100000) (e : nI i = nI j) : i = j := nI_uq h' h e rfl
theorem nI_m1 {i : Nat} (h : i < 100000) : nI i ≠ -1 := fun e => absurd (show nI i < 0 by rw [e]; decide) (nI_pos (by omega))
theorem act0 {w1 : AR} {z : Nat} (A : RMB (th w 0) w1 z) (S : SWP w1 w') : w' 0 0 = 0 := by
  rw [S.2.1 0 (by decide), A.2.1]; rfl
theorem MR.e9 (R : MR w L f K sz nx im wb) : w 0 9 = nI L := R.2.2.1
theorem MR.e6 (R : MR w L f K sz nx im wb) : w 6 = f := R.2.2.2.1
theorem MR.e7 (R : MR w L f K sz nx im wb) : w 0 7 = nI sz := R.2.1
theorem MR.ewb (R : MR w L f K sz nx im wb) : w 0 14 = wb := R.2.2.2.2.1
theorem MR.eim (R : MR w L f K sz nx im wb) : w 0 6 = im := R.2.2.2.2.2.1
theorem MR.by (R : MR w L f K sz nx im wb) : ∀ i, i < L → byN (f i) := R.2.2.2.2.2.2.2.2
theorem b4_by {k : Int32} {i : Nat} : byN (b4 k i) := by
  unfold byN b4
  rw [Int8.toInt_toInt32]
  have h1 := Int8.le_toInt (k >>> (nI (24 - 8 * i) &&& 31)).toInt8
  have h2 := Int8.toInt_lt (k >>> (nI (24 - 8 * i) &&& 31)).toInt8
  omega
theorem MR.feed {k0 k1 k2 k3 k4 : Int32} {f' : Nat → Int32} (R : MR w L f K sz nx im wb) (p1 : ∀ i, i < L ∨ L + 20 ≤ i → f' i = f i) (q1 : ∀ q i, q < 5 → i < 4 → f' (L + 4 * q + i) = b4 (a5 k0 k1 k2 k3 k4 q) i)
    (a1 : ∀ k, k ≠ 0 → k ≠ 6 → k ≠ 7 → w' k = w k) (a2 : w' 0 = upd ((th w 0) 0) 9 (nI (L + 20))) (a3 : ∀ i, i < L ∨ L + 20 ≤ i → w' 6 i = w 6 i) (a4 : ∀ q i, q < 5 → i < 4 → w' 6 (L + 4 * q + i) = b4 (a5 k0 k1 k2 k3 k4 q) i) : MR w' (L + 20) f' K sz nx im wb := by
  obtain ⟨c1, c2, c3, c4, c5, c6, c7, c8, c9⟩ := R
  have z0 : ∀ i, i ≠ 0 → i ≠ 9 → w' 0 i = w 0 i := fun i h0 h9 => by
    rw [a2, upd_ne h9]
    show ru w 0 0 0 0 i = w 0 i
    rw [ru_eq, upd_ne h0]
  have mid : ∀ i, L ≤ i → i < L + 20 → ∃ q j, q < 5 ∧ j < 4 ∧ i = L + 4 * q + j := fun i h1 h2 => ⟨(i - L) / 4, (i - L) % 4, by omega, by omega, by omega⟩
  have e1 : w' 1 = w 1 := a1 1 (by decide) (by decide) (by decide)
  have e5 : w' 5 = w 5 := a1 5 (by decide) (by decide) (by decide)
  have em : ∀ j, mw w' j = mw w j := fun j => by unfold mw; rw [e1, e5]
  refine ⟨by rw [e1]; exact c1, (z0 7 (by decide) (by decide)).trans c2, by rw [a2, upd_eq], ?_, (z0 14 (by decide) (by decide)).trans c5, (z0 6 (by decide) (by decide)).trans c6, fun q => by rw [a1 2 (by decide) (by decide) (by decide)]; exact c7 q, fun j hj => by rw [em]; exact c8 j hj, fun i hi => ?_⟩
  · funext i
    by_cases z : i < L ∨ L + 20 ≤ i
    · rw [a3 i z, p1 i z, c4]
    · obtain ⟨q, j, hq, hj, rfl⟩ := mid i (by omega) (by omega)
      rw [a4 q j hq hj, q1 q j hq hj]
  · by_cases z : i < L
    · rw [p1 i (Or.inl z)]; exact c9 i z
    · obtain ⟨q, j, hq, hj, rfl⟩ := mid i (by omega) hi
      rw [q1 q j hq hj]; exact b4_by
end PAIR

/-! THE CLASS AS A WHOLE: its cells; what is remembered -/
section WHOLE
variable {E : PE} {M : PM} {d : Nat} {Q : PQ} {h h' : PH} {n n' : Nat} {a b s t x y L ln cnt B sz nx : Nat} {r rb g : AR} {lw lb : Option Nat} {C Cb : Option LawL} {pc : Nat} {f : Nat → Int32} {im wb : Int32}
abbrev KA : Type := Nat → AR × Option Nat × Option LawL
/-- where the army k lies: now, kept, twelve that are remembered -/
def kAd (x k : Nat) : Nat := if k = 0 then x + 6 else if k = 1 then x + 26 else x + 28 + 20 * k
theorem kAd_dj {k j : Nat} (hk : k < 14) (hj : j < 14) (e : k ≠ j) : kAd x k + 20 ≤ kAd x j ∨ kAd x j + 20 ≤ kAd x k := by unfold kAd; split <;> split <;> (try split) <;> (try split) <;> omega
theorem kAd_in {k : Nat} (hk : k < 14) : (x + 6 ≤ kAd x k ∧ kAd x k + 20 ≤ x + 46) ∨ (x + 68 ≤ kAd x k ∧ kAd x k + 20 ≤ x + 308) := by unfold kAd; split <;> (try split) <;> omega
theorem kAd_0 : kAd x 0 = x + 6 := rfl
theorem kAd_1 : kAd x 1 = x + 26 := rfl
theorem kAd_m (k : Nat) : kAd x (k + 2) = x + 68 + 20 * k := by unfold kAd; rw [if_neg (by omega), if_neg (by omega)]; omega
def uK (K : KA) (k : Nat) (v : AR × Option Nat × Option LawL) : KA := fun j => if j = k then v else K j
theorem uK_eq {K : KA} {k : Nat} {v : AR × Option Nat × Option LawL} : uK K k v k = v := if_pos rfl
theorem uK_ne {K : KA} {k j : Nat} {v : AR × Option Nat × Option LawL} (e : j ≠ k) : uK K k v j = K j := if_neg e
theorem uK_self {K : KA} {k : Nat} : uK K k (K k) = K := by
  funext j
  by_cases e : j = k
  · subst e; exact uK_eq
  · exact uK_ne e
def stk (h : PH) (L : Nat) : Prop := ∃ f, h (L + 2) = some (.inl (.int, (24, .inl f)))
theorem LX.at {h : PH} (X : LX h a lw C) (e : ∀ L, lw = some L → L + 3 ≤ b ∨ b + 20 ≤ L) : LX h b lw C := by
  unfold LX at X ⊢
  match lw, C, X, e with
  | none, none, X, _ => trivial
  | some L, some ls, X, e => exact ⟨e L rfl, X.2⟩
theorem LX.stk {h : PH} {L : Nat} (X : LX h a (some L) C) : stk h L := by
  match C, X with
  | some ls, X => exact X.2.2.1
  | none, X => exact X.elim
theorem AX.tr (X : AX h a r lw C) (F : ∀ i, i < 20 → h' (a + i) = h (a + i)) (G : ∀ L, lw = some L → h' L = h L ∧ h' (L + 1) = h (L + 1) ∧ stk h' L) : AX h' a r lw C := by
  obtain ⟨⟨f, H⟩, X2⟩ := X
  exact ⟨⟨f, fun k hk => (F k hk).trans (H k hk)⟩, X2.kept G⟩
/-- the armies -/
def CA (h : PH) (x B n : Nat) (K : KA) : Prop := (∀ k, k < 14 → AX h (kAd x k) (K k).1 (K k).2.1 (K k).2.2 ∧ WA (K k).1) ∧ (∀ k, k < 14 → ∀ L, (K k).2.1 = some L → B ≤ L ∧ L + 3 ≤ n) ∧
  ∀ k j, k < 14 → j < 14 → ∀ L L', (K k).2.1 = some L → (K j).2.1 = some L' → L = L' ∨ L + 3 ≤ L' ∨ L' + 3 ≤ L
theorem CA.gen {K : KA} (A : CA h x B n K) (k0 : Nat) (lw : Option Nat) (hst : ∀ L, lw = some L → (∃ j, j < 14 ∧ (K j).2.1 = some L) ∧ stk h' L) (F : ∀ k, k < 14 → k ≠ k0 → ∀ i, i < 20 → h' (kAd x k + i) = h (kAd x k + i))
    (G : ∀ q, B ≤ q → q < n → (∀ L, lw = some L → q ≠ L + 2) → h' q = h q) (v : AR × Option Nat × Option LawL) (hv : k0 < 14 → AX h' (kAd x k0) v.1 v.2.1 v.2.2 ∧ WA v.1 ∧ ∀ L, v.2.1 = some L → ∃ j, j < 14 ∧ (K j).2.1 = some L) : CA h' x B n (uK K k0 v) := by
  obtain ⟨A1, A2, A3⟩ := A
  have law : ∀ k, k < 14 → ∀ L, (uK K k0 v k).2.1 = some L → ∃ j, j < 14 ∧ (K j).2.1 = some L := by
    intro k hk L e
    by_cases c : k = k0
    · subst c; rw [uK_eq] at e; exact (hv hk).2.2 L e
    · rw [uK_ne c] at e; exact ⟨k, hk, e⟩
  refine ⟨?_, ?_, ?_⟩
  · intro k hk
    by_cases c : k = k0
    · subst c; rw [uK_eq]; exact ⟨(hv hk).1, (hv hk).2.1⟩
    · rw [uK_ne c]
      refine ⟨(A1 k hk).1.tr (F k hk c) (fun L e => ?_), (A1 k hk).2⟩
      obtain ⟨b1, b2⟩ := A2 k hk L e
      have dj : ∀ L', lw = some L' → L = L' ∨ L + 3 ≤ L' ∨ L' + 3 ≤ L := fun L' e' => by
        obtain ⟨⟨j, hj, ej⟩, -⟩ := hst L' e'
        exact A3 k j hk hj L L' e ej
      refine ⟨G L b1 (by omega) (fun L' e' => by have := dj L' e'; omega), G (L + 1) (by omega) (by omega) (fun L' e' => by have := dj L' e'; omega), ?_⟩
      by_cases q : lw = some L
      · exact (hst L q).2
      · obtain ⟨ff, hf⟩ : stk h L := by have := (A1 k hk).1.2; rw [e] at this; exact this.stk
        refine ⟨ff, (G (L + 2) (by omega) (by omega) (fun L' e' => ?_)).trans hf⟩
        intro e2
        have : L = L' := by omega
        subst this; exact q e'
  · intro k hk L e
    obtain ⟨j, hj, ej⟩ := law k hk L e
    exact A2 j hj L ej
  · intro k j hk hj L L' e e'
    obtain ⟨k', hk', ek⟩ := law k hk L e
    obtain ⟨j', hj', ej⟩ := law j hj L' e'
    exact A3 k' j' hk' hj' L L' ek ej
theorem CA.grow {K : KA} (A : CA h x B n K) (hn : n ≤ n') : CA h x B n' K := ⟨A.1, fun k hk L e => ⟨(A.2.1 k hk L e).1, Nat.le_trans (A.2.1 k hk L e).2 hn⟩, A.2.2⟩
theorem CA.cong {K K' : KA} (A : CA h x B n K) (e : ∀ k, k < 14 → K' k = K k) : CA h x B n K' :=
  ⟨fun k hk => by rw [e k hk]; exact A.1 k hk, fun k hk => by rw [e k hk]; exact A.2.1 k hk, fun k j hk hj => by rw [e k hk, e j hj]; exact A.2.2 k j hk hj⟩
/-- the whole object -/
def CX (h : PH) (x B n L : Nat) (f : Nat → Int32) (K : KA) (sz nx : Nat) (im wb : Int32) : Prop :=
  h x = some (.inr (11, [.ref (x + 1), .ref (x + 3), .ref (x + 4), .ref (x + 6), .ref (x + 26), .ref (x + 46), .ref (x + 66), .ref (x + 308), .int im, .int wb])) ∧
  ((∃ b z v e, TR h (x + 1) L b z v e f) ∧ L ≤ 400) ∧ h (x + 3) = some (.inr (1, [.ref (x + 1)])) ∧
  (∃ s0 l0 g0, h (x + 4) = some (.inr (4, [.ref (x + 1), .ref (x + 4 + 1), .int s0, .int l0])) ∧ h (x + 4 + 1) = some (.inl (.int, (436, .inl g0)))) ∧
  CA h x B n K ∧ (∃ r lw, AA h (x + 46) r lw) ∧
  (h (x + 66) = some (.inr (6, [.int (nI sz), .int (nI nx), .ref (x + 67)])) ∧ (∃ fn, h (x + 67) = some (.inl (.object "ScarArmy$Army", (12, .inr (.inr (.inr (.inr fn)))))) ∧ ∀ i, i < 12 → fn i = some (x + 68 + 20 * i)) ∧ sz ≤ 12 ∧ nx < 12) ∧
  (∃ g, SA h (x + 308) g) ∧ x + 316 ≤ B ∧ B ≤ n
theorem CX.o {K : KA} (X : CX h x B n L f K sz nx im wb) : h x = some (.inr (11, [.ref (x + 1), .ref (x + 3), .ref (x + 4), .ref (x + 6), .ref (x + 26), .ref (x + 46), .ref (x + 66), .ref (x + 308), .int im, .int wb])) := X.1
theorem CX.tp {K : KA} (X : CX h x B n L f K sz nx im wb) : ∃ b z v e, TR h (x + 1) L b z v e f := X.2.1.1
theorem CX.l4 {K : KA} (X : CX h x B n L f K sz nx im wb) : L ≤ 400 := X.2.1.2
theorem CX.at1 {K : KA} (X : CX h x B n L f K sz nx im wb) : h (x + 3) = some (.inr (1, [.ref (x + 1)])) := X.2.2.1
theorem CX.lt4 {K : KA} (X : CX h x B n L f K sz nx im wb) : ∃ s0 l0 g0, h (x + 4) = some (.inr (4, [.ref (x + 1), .ref (x + 4 + 1), .int s0, .int l0])) ∧ h (x + 4 + 1) = some (.inl (.int, (436, .inl g0))) := X.2.2.2.1
theorem CX.ca {K : KA} (X : CX h x B n L f K sz nx im wb) : CA h x B n K := X.2.2.2.2.1
theorem CX.dr {K : KA} (X : CX h x B n L f K sz nx im wb) : ∃ r lw, AA h (x + 46) r lw := X.2.2.2.2.2.1
theorem CX.mo {K : KA} (X : CX h x B n L f K sz nx im wb) : h (x + 66) = some (.inr (6, [.int (nI sz), .int (nI nx), .ref (x + 67)])) := X.2.2.2.2.2.2.1.1
theorem CX.ma {K : KA} (X : CX h x B n L f K sz nx im wb) : ∃ fn, h (x + 67) = some (.inl (.object "ScarArmy$Army", (12, .inr (.inr (.inr (.inr fn)))))) ∧ ∀ i, i < 12 → fn i = some (x + 68 + 20 * i) := X.2.2.2.2.2.2.1.2.1
theorem CX.s12 {K : KA} (X : CX h x B n L f K sz nx im wb) : sz ≤ 12 := X.2.2.2.2.2.2.1.2.2.1
theorem CX.n12 {K : KA} (X : CX h x B n L f K sz nx im wb) : nx < 12 := X.2.2.2.2.2.2.1.2.2.2
theorem CX.se {K : KA} (X : CX h x B n L f K sz nx im wb) : ∃ g, SA h (x + 308) g := X.2.2.2.2.2.2.2.1
theorem CX.bd {K : KA} (X : CX h x B n L f K sz nx im wb) : x + 316 ≤ B := X.2.2.2.2.2.2.2.2.1
theorem CX.bn {K : KA} (X : CX h x B n L f K sz nx im wb) : B ≤ n := X.2.2.2.2.2.2.2.2.2
theorem CX.ax {K : KA} (X : CX h x B n L f K sz nx im wb) : AX h (x + 6) (K 0).1 (K 0).2.1 (K 0).2.2 := (X.ca.1 0 (by decide)).1
theorem CX.wa {K : KA} (X : CX h x B n L f K sz nx im wb) : WA (K 0).1 := (X.ca.1 0 (by decide)).2
theorem CX.lbd {K : KA} (X : CX h x B n L f K sz nx im wb) {L' : Nat} (e : (K 0).2.1 = some L') : B ≤ L' ∧ L' + 3 ≤ n := X.ca.2.1 0 (by decide) L' e
theorem CX.dj {K : KA} (X : CX h x B n L f K sz nx im wb) : DJ (x + 308) (x + 6) (K 0).2.1 := ⟨by omega, fun L' e => by have := (X.lbd e).1; have := X.bd; omega⟩
def FC (x B : Nat) (h h' : PH) : Prop := ∀ q, x + 316 ≤ q → q < B → h' q = h q
theorem FC.rf : FC x B h h := fun _ _ _ => rfl
theorem FC.tr {h'' : PH} (F : FC x B h h') (G : FC x B h' h'') : FC x B h h'' := fun q h1 h2 => (G q h1 h2).trans (F q h1 h2)
theorem CX.move {K K' : KA} (X : CX h x B n L f K sz nx im wb) (F : ∀ q, (x ≤ q ∧ q < x + 6) ∨ (x + 66 ≤ q ∧ q < x + 68) → h' q = h q) (A : CA h' x B n' K') (hn : n ≤ n') (D : ∃ r lw, AA h' (x + 46) r lw) (S : ∃ g, SA h' (x + 308) g) : CX h' x B n' L f K' sz nx im wb := by
  obtain ⟨h1, ⟨⟨b, z, v, e, t1, t2⟩, h3⟩, h4, ⟨s0, l0, g0, h5, h6⟩, -, -, ⟨h7, ⟨fn, h8, h9⟩, h10⟩, -, h11, h12⟩ := X
  exact ⟨(F x (by omega)).trans h1, ⟨⟨b, z, v, e, (F _ (by omega)).trans t1, (F _ (by omega)).trans t2⟩, h3⟩, (F _ (by omega)).trans h4, ⟨s0, l0, g0, (F _ (by omega)).trans h5, (F _ (by omega)).trans h6⟩, A, D, ⟨(F _ (by omega)).trans h7, ⟨fn, (F _ (by omega)).trans h8, h9⟩, h10⟩, S, h11, Nat.le_trans h12 hn⟩
theorem AA.tr {h : PH} (H : AA h a r lw) (F : ∀ i, i < 20 → h' (a + i) = h (a + i)) : AA h' a r lw := fun k hk => (F k hk).trans (H k hk)
theorem SA.tr {h : PH} (H : SA h s g) (F : ∀ i, i < 8 → h' (s + i) = h (s + i)) : SA h' s g := fun k hk => (F k hk).trans (H k hk)
theorem CX.lne {K : KA} (X : CX h x B n L f K sz nx im wb) {k q : Nat} (hk : k < 14) (hq : q < B) {L' : Nat} (e : (K k).2.1 = some L') : q ≠ L' + 2 := by
  have := (X.ca.2.1 k hk L' e).1; omega
/-- the army of now has changed -/
theorem CX.now {K : KA} (X : CX h x B n L f K sz nx im wb) {r' : AR} (Y : AX h' (x + 6) r' (K 0).2.1 (K 0).2.2) (W : WA r') (F : FX (x + 6) (K 0).2.1 h h') : CX h' x B n L f (uK K 0 (r', (K 0).2)) sz nx im wb ∧ FC x B h h' := by
  have hb := X.bd
  have hl : ∀ q, q < B → ∀ L', (K 0).2.1 = some L' → q ≠ L' + 2 := fun q hq L' e => X.lne (k := 0) (by decide) hq e
  have F' : ∀ q, (q < x + 6 ∨ x + 26 ≤ q) → q < B → h' q = h q := fun q h1 h2 => F q (by omega) (hl q h2)
  refine ⟨X.move (fun q hq => F' q (by omega) (by omega)) ?_ (Nat.le_refl _) ?_ ?_, fun q h1 h2 => F' q (by omega) h2⟩
  · refine X.ca.gen 0 (K 0).2.1 (fun L' e => ⟨⟨0, by decide, e⟩, ?_⟩) (fun k hk c i hi => ?_) (fun q h1 h2 h3 => F q (by omega) h3) _ (fun _ => ⟨Y, W, fun L' e => ⟨0, by decide, e⟩⟩)
    · have := Y.2; rw [e] at this; exact this.stk
    · have := kAd_dj (x := x) (k := k) (j := 0) hk (by decide) c
      have := kAd_in (x := x) hk
      rw [kAd_0] at *
      exact F' _ (by omega) (by omega)
  · obtain ⟨r1, l1, H⟩ := X.dr
    exact ⟨r1, l1, H.tr (fun i hi => F' _ (by omega) (by omega))⟩
  · obtain ⟨g1, H⟩ := X.se
    exact ⟨g1, H.tr (fun i hi => F' _ (by omega) (by omega))⟩
/-- the army of now was judged -/
theorem CX.jd {K : KA} (X : CX h x B n L f K sz nx im wb) (Y : AX h' (x + 6) (K 0).1 (K 0).2.1 (K 0).2.2) (F : SE (x + 6) (K 0).2.1 h h') : CX h' x B n L f K sz nx im wb ∧ FC x B h h' := by
  have := X.now Y X.wa F.fx
  rwa [uK_self] at this
/-- only the search has changed, the army of now was judged -/
theorem CX.sch {K : KA} (X : CX h x B n L f K sz nx im wb) {g' : AR} (Y : AX h' (x + 6) (K 0).1 (K 0).2.1 (K 0).2.2) (S : SA h' (x + 308) g') (F : FQ (x + 308) (x + 6) (K 0).2.1 h h') : CX h' x B n L f K sz nx im wb ∧ FC x B h h' := by
  have hb := X.bd
  have hl : ∀ q, q < B → ∀ L', (K 0).2.1 = some L' → q ≠ L' + 2 := fun q hq L' e => X.lne (k := 0) (by decide) hq e
  have F' : ∀ q, (q < x + 308 ∨ x + 316 ≤ q) → q ≠ x + 25 → q < B → h' q = h q := fun q h1 h2 h3 => F q (by omega) (by omega) (hl q h3)
  refine ⟨X.move (fun q hq => F' q (by omega) (by omega) (by omega)) ?_ (Nat.le_refl _) ?_ ⟨_, S⟩, fun q h1 h2 => F' q (by omega) (by omega) h2⟩
  · have := X.ca.gen (h' := h') 0 (K 0).2.1 (fun L' e => ⟨⟨0, by decide, e⟩, by have := Y.2; rw [e] at this; exact this.stk⟩) (fun k hk c i hi => by
      have := kAd_dj (x := x) (k := k) (j := 0) hk (by decide) c
      have := kAd_in (x := x) hk
      rw [kAd_0] at *
      exact F' _ (by omega) (by omega) (by omega)) (fun q h1 h2 h3 => F q (by omega) (by omega) h3) (K 0) (fun _ => ⟨Y, X.wa, fun L' e => ⟨0, by decide, e⟩⟩)
    rwa [uK_self] at this
  · obtain ⟨r1, l1, H⟩ := X.dr
    exact ⟨r1, l1, H.tr (fun i hi => F' _ (by omega) (by omega) (by omega))⟩
/-- only the draft has changed, and the stack of the law of now -/
theorem CX.drf {K : KA} (X : CX h x B n L f K sz nx im wb) (D : ∃ r lw, AA h' (x + 46) r lw) (hst : ∀ L, (K 0).2.1 = some L → stk h' L) (F : FX (x + 46) (K 0).2.1 h h') : CX h' x B n L f K sz nx im wb ∧ FC x B h h' := by
  have hb := X.bd
  have hl : ∀ q, q < B → ∀ L', (K 0).2.1 = some L' → q ≠ L' + 2 := fun q hq L' e => X.lne (k := 0) (by decide) hq e
  have F' : ∀ q, (q < x + 46 ∨ x + 66 ≤ q) → q < B → h' q = h q := fun q h1 h2 => F q (by omega) (hl q h2)
  refine ⟨X.move (fun q hq => F' q (by omega) (by omega)) ?_ (Nat.le_refl _) D ?_, fun q h1 h2 => F' q (by omega) h2⟩
  · have A := X.ca.gen (h' := h') 14 (K 0).2.1 (fun L' e => ⟨⟨0, by decide, e⟩, hst L' e⟩) (fun k hk c i hi => by
      have := kAd_in (x := x) hk
      exact F' _ (by omega) (by omega)) (fun q h1 h2 h3 => F q (by omega) h3) (K 0) (fun q => absurd q (by decide))
    exact A.cong (fun k hk => (uK_ne (by omega)).symm)
  · obtain ⟨g1, H⟩ := X.se
    exact ⟨g1, H.tr (fun i hi => F' _ (by omega) (by omega))⟩
/-- an army was copied to where army k lies -/
theorem CX.cpy {K : KA} (X : CX h x B n L f K sz nx im wb) {k j : Nat} (hk : k < 14) (hj : j < 14) {r' : AR} (H : AA h' (kAd x k) r' (K j).2.1) (F : FR (kAd x k) h h') (S : SM (K j).1 r') : CX h' x B n L f (uK K k (r', (K j).2)) sz nx im wb ∧ FC x B h h' := by
  have hb := X.bd
  have hi := kAd_in (x := x) hk
  have Y : AX h' (kAd x k) r' (K j).2.1 (K j).2.2 := by
    refine AX.mk (LX.fr (LX.at (X.ca.1 j hj).1.2 (fun L' e => ?_)) F) H E9.rf
    have := (X.ca.2.1 j hj L' e).1
    omega
  refine ⟨X.move (fun q hq => F q (by omega)) ?_ (Nat.le_refl _) ?_ ?_, fun q h1 h2 => F q (by omega)⟩
  · refine X.ca.gen k none (fun L' e => by cases e) (fun k' hk' c i hi' => ?_) (fun q h1 h2 h3 => F q (by omega)) _ (fun _ => ⟨Y, (X.ca.1 j hj).2.sm S, fun L' e => ⟨j, hj, e⟩⟩)
    have := kAd_dj (x := x) (k := k') (j := k) hk' hk c
    exact F _ (by omega)
  · obtain ⟨r1, l1, H⟩ := X.dr
    exact ⟨r1, l1, H.tr (fun i hi => F _ (by omega))⟩
  · obtain ⟨g1, H⟩ := X.se
    exact ⟨g1, H.tr (fun i hi => F _ (by omega))⟩
end WHOLE

/-! class and reference side by side -/
section RELS
variable {E : PE} {M : PM} {d : Nat} {Q : PQ} {h h' : PH} {n n' : Nat} {x B L sz nx : Nat} {f : Nat → Int32} {K : KA} {im wb : Int32} {w w' : AR} {r r' rn : AR}
theorem CX.keep (X : CX h x B n L f K sz nx im wb) (F : ∀ q, (q < x + 316 ∨ B ≤ q) → h' q = h q) : CX h' x B n L f K sz nx im wb := by
  obtain ⟨c1, ⟨⟨b, z, v, e, c2, c3⟩, c4⟩, c5, ⟨s0, l0, g0, c6, c7⟩, ⟨c8, c9, c10⟩, ⟨rr, lw, c11⟩, ⟨c12, ⟨fn, c13, c14⟩, c15, c16⟩, ⟨g, c17⟩, c18, c19⟩ := X
  refine ⟨(F _ (by omega)).trans c1, ⟨⟨b, z, v, e, (F _ (by omega)).trans c2, (F _ (by omega)).trans c3⟩, c4⟩, (F _ (by omega)).trans c5, ⟨s0, l0, g0, (F _ (by omega)).trans c6, (F _ (by omega)).trans c7⟩, ⟨fun k hk => ⟨?_, (c8 k hk).2⟩, c9, c10⟩, ⟨rr, lw, fun k hk => (F _ (by omega)).trans (c11 k hk)⟩, ⟨(F _ (by omega)).trans c12, ⟨fn, (F _ (by omega)).trans c13, c14⟩, c15, c16⟩, ⟨g, fun k hk => (F _ (by omega)).trans (c17 k hk)⟩, c18, c19⟩
  have ki := kAd_in (x := x) hk
  refine (c8 k hk).1.tr (fun i hi => F _ (by omega)) (fun L' eL => ?_)
  have := c9 k hk L' eL
  refine ⟨F _ (by omega), F _ (by omega), ?_⟩
  have st := (c8 k hk).1.2
  rw [eL] at st
  obtain ⟨ff, hf⟩ := st.stk
  exact ⟨ff, (F _ (by omega)).trans hf⟩
theorem CX.base (X : CX h x (x + 316) (x + 316) L f K0 sz nx im wb) (F : ∀ q, q < x + 316 → h' q = h q) (hB : x + 316 ≤ B) : CX h' x B B L f K0 sz nx im wb := by
  obtain ⟨c1, ⟨⟨b, z, v, e, c2, c3⟩, c4⟩, c5, ⟨s0, l0, g0, c6, c7⟩, ⟨c8, c9, c10⟩, ⟨rr, lw, c11⟩, ⟨c12, ⟨fn, c13, c14⟩, c15, c16⟩, ⟨g, c17⟩, c18, c19⟩ := X
  refine ⟨(F _ (by omega)).trans c1, ⟨⟨b, z, v, e, (F _ (by omega)).trans c2, (F _ (by omega)).trans c3⟩, c4⟩, (F _ (by omega)).trans c5, ⟨s0, l0, g0, (F _ (by omega)).trans c6, (F _ (by omega)).trans c7⟩, ⟨fun k hk => ⟨?_, (c8 k hk).2⟩, fun k hk L' e => (nomatch (show (none : Option Nat) = some L' from e)), fun k j _ _ L' L'' e => (nomatch (show (none : Option Nat) = some L' from e))⟩, ⟨rr, lw, fun k hk => (F _ (by omega)).trans (c11 k hk)⟩, ⟨(F _ (by omega)).trans c12, ⟨fn, (F _ (by omega)).trans c13, c14⟩, c15, c16⟩, ⟨g, fun k hk => (F _ (by omega)).trans (c17 k hk)⟩, hB, Nat.le_refl _⟩
  have ki := kAd_in (x := x) hk
  exact (c8 k hk).1.tr (fun i hi => F _ (by omega)) (fun L' eL => (nomatch (show (none : Option Nat) = some L' from eL)))
theorem MX.keep {m : Nat} (X : MX h m w) (F : ∀ q, m ≤ q → q < m + 13 → h' q = h q) : MX h' m w := by
  obtain ⟨g, H⟩ := X
  exact ⟨g, fun k hk => (F _ (by omega) (by omega)).trans (H k hk)⟩
/-- the world as it is remembered in place j -/
def mw (w : AR) (j : Nat) : Nat → Int32 := fun i => if i < 554 then w 5 (554 * j + i) else w 1 i
def slt (nx sz j : Nat) : Nat := (nx + 12 - sz + j) % 12 + 2
/-- what the reference holds of the class -/
def MR (w : AR) (L : Nat) (f : Nat → Int32) (K : KA) (sz nx : Nat) (im wb : Int32) : Prop :=
  RW (w 1) (K 0).1 (K 0).2.2 ∧ w 0 7 = nI sz ∧ w 0 9 = nI L ∧ w 6 = f ∧ w 0 14 = wb ∧ w 0 6 = im ∧ (im ≠ 0 → RW (w 2) (K 1).1 (K 1).2.2) ∧ (∀ j, j < sz → RW (mw w j) (K (slt nx sz j)).1 (K (slt nx sz j)).2.2) ∧ ∀ i, i < L → byN (f i)
theorem MR.cg (R : MR w L f K sz nx im wb) (e1 : w' 1 = w 1) (e2 : w' 2 = w 2) (e5 : w' 5 = w 5) (e6 : w' 6 = w 6) (i6 : w' 0 6 = w 0 6) (i7 : w' 0 7 = w 0 7) (i9 : w' 0 9 = w 0 9) (i14 : w' 0 14 = w 0 14) : MR w' L f K sz nx im wb := by
  obtain ⟨a1, a2, a3, a4, a5, a6, a7, a8, a9⟩ := R
  have em : ∀ j, mw w' j = mw w j := fun j => by unfold mw; rw [e1, e5]
  exact ⟨by rw [e1]; exact a1, i7.trans a2, i9.trans a3, e6.trans a4, i14.trans a5, i6.trans a6, fun q => by rw [e2]; exact a7 q, fun j hj => by rw [em]; exact a8 j hj, a9⟩
theorem MR.thr {k : Int32} (R : MR w L f K sz nx im wb) : MR (th w k) L f K sz nx im wb := R.cg rfl rfl rfl rfl rfl rfl rfl rfl
theorem MR.swt (S : SWT w w') (R : MR w L f K sz nx im wb) : MR w' L f K sz nx im wb := R.cg (S.1 1 (by decide) (by decide)) (S.1 2 (by decide) (by decide)) (S.1 5 (by decide) (by decide)) (S.1 6 (by decide) (by decide)) (S.2 6 (by decide)) (S.2 7 (by decide)) (S.2 9 (by decide)) (S.2 14 (by decide))
theorem MR.sw3 (S : SW3 w w') (R : MR w L f K sz nx im wb) : MR w' L f K sz nx im wb := by
  have e0 := S 0 (by decide) (by decide) (by decide)
  exact R.cg (S 1 (by decide) (by decide) (by decide)) (S 2 (by decide) (by decide) (by decide)) (S 5 (by decide) (by decide) (by decide)) (S 6 (by decide) (by decide) (by decide)) (by rw [e0]) (by rw [e0]) (by rw [e0]) (by rw [e0])
theorem MR.usd (R : MR w L f K sz nx im wb) : MR (us w) 0 f K sz nx im wb := by
  obtain ⟨a1, a2, a3, a4, a5, a6, a7, a8, a9⟩ := R
  exact ⟨a1, a2, rfl, a4, a5, a6, a7, a8, fun i hi => absurd hi (Nat.not_lt_zero i)⟩
theorem MR.sw12 (S : SW12 w w') (R : MR w L f K sz nx im wb) : MR w' L f K sz nx im wb := by
  have e0 := S 0 (by decide)
  exact R.cg (S 1 (by decide)) (S 2 (by decide)) (S 5 (by decide)) (S 6 (by decide)) (by rw [e0]) (by rw [e0]) (by rw [e0]) (by rw [e0])
theorem MR.end_ {i : Nat} (hi : i ≤ L) (R : MR w L f K sz nx im wb) : MR (ru w 0 9 (nI i)) i f K sz nx im wb := by
  obtain ⟨a1, a2, a3, a4, a5, a6, a7, a8, a9⟩ := R
  exact ⟨a1, a2, rfl, a4, a5, a6, a7, a8, fun j hj => a9 j (by omega)⟩
theorem slt_ge {j : Nat} : 2 ≤ slt nx sz j ∧ slt nx sz j < 14 := by unfold slt; omega
/-- an act -/
theorem MR.act {w1 : AR} (R : MR w L f K sz nx im wb) (hs : sz ≤ 12) (hn : nx < 12) (AW : ∀ k, k < 14 → WA (K k).1) (A : RMB (th w 0) w1 sz) (S : SWP w1 w') (SMr : SM (K 0).1 r') (RN : RW (w' 1) rn (K 0).2.2) : MR w' L f (KM K nx r' rn) (min 12 (sz + 1)) ((nx + 1) % 12) im wb := by
  obtain ⟨a1, a2, a3, a4, a5, a6, a7, a8, a9⟩ := R
  obtain ⟨m1, m2, m3, m4⟩ := A
  have r5 : w' 5 = w1 5 := S.1 5 (by decide) (by decide)
  have z0 : ∀ i, i ≠ 22 → i ≠ 0 → i ≠ 7 → w' 0 i = w 0 i := fun i q1 q2 q3 => by
    rw [S.2.1 i q1, m2, upd_ne q3]
    show ru w 0 0 0 0 i = w 0 i
    rw [ru_eq, upd_ne q2]
  have k0 : KM K nx r' rn 0 = (rn, (K 0).2) := uK_eq
  have k1 : KM K nx r' rn 1 = K 1 := (uK_ne (by decide)).trans (uK_ne (by omega))
  have kn : KM K nx r' rn (nx + 2) = (r', (K 0).2) := (uK_ne (by omega)).trans uK_eq
  have ko : ∀ k, 2 ≤ k → k ≠ nx + 2 → KM K nx r' rn k = K k := fun k q1 q2 => (uK_ne (by omega)).trans (uK_ne q2)
  have hi1 : ∀ i, 554 ≤ i → w' 1 i = w 1 i := fun i hi => by rw [S.2.2 i hi, m1 1 (by decide) (by decide)]; rfl
  have newest : ∀ j, (∀ i, i < 554 → w1 5 (554 * j + i) = w 1 i) → RW (mw w' j) r' (K 0).2.2 := fun j hj => by
    refine (a1.sm (AW 0 (by decide)) SMr).cg ((AW 0 (by decide)).sm SMr) (fun p _ => ?_)
    unfold mw
    by_cases c : p < 554
    · rw [if_pos c, r5, hj p c]
    · rw [if_neg c, hi1 p (by omega)]
  refine ⟨by rw [k0]; exact RN, ?_, ?_, ?_, ?_, ?_, fun q => ?_, fun j hj => ?_, a9⟩
  · rw [S.2.1 7 (by decide), m2, upd_eq]
    by_cases c : sz = 12
    · rw [if_pos c, c]; rfl
    · rw [if_neg c, Nat.min_eq_right (by omega)]
  · rw [z0 9 (by decide) (by decide) (by decide)]; exact a3
  · rw [S.1 6 (by decide) (by decide), m1 6 (by decide) (by decide)]; exact a4
  · rw [z0 14 (by decide) (by decide) (by decide)]; exact a5
  · rw [z0 6 (by decide) (by decide) (by decide)]; exact a6
  · rw [k1, S.1 2 (by decide) (by decide), m1 2 (by decide) (by decide)]; exact a7 q
  · by_cases c : sz = 12
    · subst c
      have hj' : j < 12 := by omega
      obtain ⟨m5, m6⟩ := m4 rfl
      by_cases cj : j = 11
      · subst cj
        have es : slt ((nx + 1) % 12) (min 12 (12 + 1)) 11 = nx + 2 := by unfold slt; omega
        rw [es, kn]
        refine newest 11 (fun i hi => ?_)
        rw [m6 i hi]; rfl
      · have es : slt ((nx + 1) % 12) (min 12 (12 + 1)) j = slt nx 12 (j + 1) := by unfold slt; omega
        have ne : slt nx 12 (j + 1) ≠ nx + 2 := by unfold slt; omega
        rw [es, ko _ slt_ge.1 ne]
        refine (a8 (j + 1) (by omega)).cg (AW _ slt_ge.2) (fun p _ => ?_)
        unfold mw
        by_cases cp : p < 554
        · rw [if_pos cp, if_pos cp, r5, m5 j (by omega) p cp]; rfl
        · rw [if_neg cp, if_neg cp, hi1 p (by omega)]
    · have hs' : sz < 12 := by omega
      obtain ⟨m5, m6⟩ := m3 hs'
      rw [Nat.min_eq_right (by omega)] at hj ⊢
      have es : slt ((nx + 1) % 12) (sz + 1) j = slt nx sz j := by unfold slt; omega
      rw [es]
      by_cases cj : j = sz
      · subst cj
        have e2 : slt nx j j = nx + 2 := by unfold slt; omega
        rw [e2, kn]
        refine newest j (fun i hi => ?_)
        rw [m6 i hi]; rfl
      · have ne : slt nx sz j ≠ nx + 2 := by unfold slt; omega
        rw [ko _ slt_ge.1 ne]
        refine (a8 j (by omega)).cg (AW _ slt_ge.2) (fun p _ => ?_)
        unfold mw
        by_cases cp : p < 554
        · rw [if_pos cp, if_pos cp, r5, m5 j (by omega) p cp]; rfl
        · rw [if_neg cp, if_neg cp, hi1 p (by omega)]
theorem MR.undo {y : Nat} (R : MR w L f K (y + 1) nx im wb) (hs : y + 1 ≤ 12) (hn : nx < 12) (AW : ∀ k, k < 14 → WA (K k).1) (SMr : SM (K ((nx + 11) % 12 + 2)).1 r') : MR (rs (ru (th w 0) 0 7 (nI y)) 1 (cp (w 1) 0 (fun i => w 5 (554 * y + i)) 554)) L f (uK K 0 (r', (K ((nx + 11) % 12 + 2)).2)) y ((nx + 11) % 12) im wb := by
  obtain ⟨a1, a2, a3, a4, a5, a6, a7, a8, a9⟩ := R
  have es : slt nx (y + 1) y = (nx + 11) % 12 + 2 := by unfold slt; omega
  have r1 : ∀ p, rs (ru (th w 0) 0 7 (nI y)) 1 (cp (w 1) 0 (fun i => w 5 (554 * y + i)) 554) 1 p = mw w y p := fun p => by
    rw [rs_eq]
    unfold mw
    by_cases c : p < 554
    · rw [if_pos c]
      have := cp_in (g := w 1) (a := 0) (f := fun i => w 5 (554 * y + i)) c
      rw [Nat.zero_add] at this
      exact this
    · rw [if_neg c]; exact cp_out (Or.inr (by omega))
  refine ⟨?_, rfl, a3, a4, a5, a6, fun q => a7 q, fun j hj => ?_, a9⟩
  · rw [uK_eq]
    have q := a8 y (by omega)
    rw [es] at q
    exact (q.sm (AW _ (by omega)) SMr).cg ((AW _ (by omega)).sm SMr) (fun p _ => r1 p)
  · have e2 : slt ((nx + 11) % 12) y j = slt nx (y + 1) j := by unfold slt; omega
    rw [e2, uK_ne (by have := slt_ge (nx := nx) (sz := y + 1) (j := j); omega)]
    refine (a8 j (by omega)).cg (AW _ slt_ge.2) (fun p _ => ?_)
    unfold mw
    by_cases c : p < 554
    · rw [if_pos c, if_pos c]; rfl
    · rw [if_neg c, if_neg c, r1]; unfold mw; rw [if_neg c]
theorem MR.image (R : MR w L f K sz nx im wb) (AW : ∀ k, k < 14 → WA (K k).1) (SMr : SM (K 0).1 r') : MR (ru (rs (th w 0) 2 (cp (w 2) 0 (w 1) 1403)) 0 6 1) L f (uK K 1 (r', (K 0).2)) sz nx 1 wb := by
  obtain ⟨a1, a2, a3, a4, a5, a6, a7, a8, a9⟩ := R
  refine ⟨by rw [uK_ne (by decide)]; exact a1, a2, a3, a4, a5, rfl, fun _ => ?_, fun j hj => ?_, a9⟩
  · rw [uK_eq]
    refine (a1.sm (AW 0 (by decide)) SMr).cg ((AW 0 (by decide)).sm SMr) (fun p hp => ?_)
    show cp (w 2) 0 (w 1) 1403 p = w 1 p
    have := cp_in (g := w 2) (a := 0) (f := w 1) hp
    rw [Nat.zero_add] at this
    exact this
  · rw [uK_ne (by have := slt_ge (nx := nx) (sz := sz) (j := j); omega)]
    exact a8 j hj
theorem MR.back (R : MR w L f K sz nx im wb) (hi : im ≠ 0) (AW : ∀ k, k < 14 → WA (K k).1) (SMr : SM (K 1).1 r') : MR (ru (rs (th w 0) 1 (cp (w 1) 0 (w 2) 1403)) 0 7 0) L f (uK K 0 (r', (K 1).2)) 0 nx im wb := by
  obtain ⟨a1, a2, a3, a4, a5, a6, a7, a8, a9⟩ := R
  refine ⟨?_, rfl, a3, a4, a5, a6, fun q => ?_, fun j hj => absurd hj (Nat.not_lt_zero j), a9⟩
  · rw [uK_eq]
    refine ((a7 hi).sm (AW 1 (by decide)) SMr).cg ((AW 1 (by decide)).sm SMr) (fun p hp => ?_)
    show cp (w 1) 0 (w 2) 1403 p = w 2 p
    have := cp_in (g := w 1) (a := 0) (f := w 2) hp
    rw [Nat.zero_add] at this
    exact this
  · rw [uK_ne (by decide)]; exact a7 q
theorem MR.seed {y : Int32} (R : MR w L f K sz nx im wb) (AW : ∀ k, k < 14 → WA (K k).1) : MR (ru (th w 0) 1 7 y) L f (uK K 0 (ru (K 0).1 0 6 y, (K 0).2)) sz nx im wb := by
  obtain ⟨a1, a2, a3, a4, a5, a6, a7, a8, a9⟩ := R
  refine ⟨?_, a2, a3, a4, a5, a6, fun q => by rw [uK_ne (by decide)]; exact a7 q, fun j hj => ?_, a9⟩
  · rw [uK_eq]
    exact a1.cell (AW 0 (by decide)).bd (Or.inr (Or.inr (Or.inr (Or.inr ⟨rfl, rfl, rfl⟩))))
  · rw [uK_ne (by have := slt_ge (nx := nx) (sz := sz) (j := j); omega)]
    refine (a8 j hj).cg (AW _ slt_ge.2) (fun p _ => ?_)
    unfold mw
    by_cases c : p < 554
    · rw [if_pos c, if_pos c]; rfl
    · rw [if_neg c, if_neg c]
      show (ru (ru w 0 0 0) 1 7 y) 1 p = w 1 p
      rw [ru_eq, upd_ne (by omega), ru_ne (by decide)]
/-- a reading that is refused -/
theorem MR.no {b : Int32} (R : MR w L f K sz nx im wb) (AW : ∀ k, k < 14 → WA (K k).1) (A : AQ w w') (e7 : w' 0 7 = w 0 7) (e14 : w' 0 14 = b) (e1 : ∀ q, q < 1403 → w' 1 q = w 1 q) : MR w' 0 f K sz nx im b := by
  obtain ⟨a1, a2, a3, a4, a5, a6, a7, a8, a9⟩ := R
  obtain ⟨q2, q5, q6, q06, q09⟩ := A
  refine ⟨a1.cg (AW 0 (by decide)) e1, e7.trans a2, q09, q6.trans a4, e14, q06.trans a6, fun q => by rw [q2]; exact a7 q, fun j hj => ?_, fun i hi => absurd hi (Nat.not_lt_zero i)⟩
  refine (a8 j hj).cg (AW _ slt_ge.2) (fun p hp => ?_)
  unfold mw
  rw [q5, e1 p hp]
theorem MR.yes {v : AR × Option Nat × Option LawL} (R : MR w L f K sz nx im wb) (A : AQ w w') (e7 : w' 0 7 = 0) (e14 : w' 0 14 = -1) (RN : RW (w' 1) v.1 v.2.2) : MR w' 0 f (uK K 0 v) 0 nx im (-1) := by
  obtain ⟨a1, a2, a3, a4, a5, a6, a7, a8, a9⟩ := R
  obtain ⟨q2, q5, q6, q06, q09⟩ := A
  exact ⟨by rw [uK_eq]; exact RN, e7, q09, q6.trans a4, e14, q06.trans a6, fun q => by rw [uK_ne (by decide), q2]; exact a7 q, fun j hj => absurd hj (Nat.not_lt_zero j), fun i hi => absurd hi (Nat.not_lt_zero i)⟩
end RELS

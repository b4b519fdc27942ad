/-! what is read of a law is well-typed and fits the stack -/
section LAWOK
variable {f : Nat → Int32} {L b : Nat}
/-- types: a truth or a number, the top first -/
def ty1 (o : Nat) (s : List Bool) : Option (List Bool) :=
  if o < 1007 then some (false :: s) else if o < 1010 then some (true :: s) else match o, s with
  | 2000, true :: t => some (true :: t)
  | 2001, false :: false :: t => some (false :: t)
  | 2002, false :: false :: t => some (true :: t)
  | 2003, false :: false :: t => some (true :: t)
  | 2004, true :: true :: t => some (true :: t)
  | 2005, true :: true :: t => some (true :: t)
  | _, _ => none
def tyL : List Nat → List Bool → Option (List Bool)
  | [], s => some s
  | o :: t, s => (ty1 o s).bind (tyL t)
theorem tyL_ap : ∀ (a c : List Nat) (s : List Bool), tyL (a ++ c) s = (tyL a s).bind (tyL c)
  | [], c, s => rfl
  | o :: a, c, s => by
    show (ty1 o s).bind (tyL (a ++ c)) = ((ty1 o s).bind (tyL a)).bind (tyL c)
    cases ty1 o s with
    | none => rfl
    | some z => exact tyL_ap a c z
theorem hgL_ap : ∀ (a c : List Nat) (s : Nat), hgL (a ++ c) s = (hgL a s).bind (hgL c)
  | [], c, s => rfl
  | o :: a, c, s => by
    show (hg1 o s).bind (hgL (a ++ c)) = ((hg1 o s).bind (hgL a)).bind (hgL c)
    cases hg1 o s with
    | none => rfl
    | some z => exact hgL_ap a c z
/-- codes that leave one thing of that type, with so much room -/
def Cd (c : List Nat) (t : Bool) (k : Nat) : Prop := (∀ s, tyL c s = some (t :: s)) ∧ ∀ z, z + k ≤ 24 → hgL c z = some (z + 1)
theorem Cd.up {c : List Nat} {t : Bool} {k k' : Nat} (h : Cd c t k) (e : k ≤ k') : Cd c t k' := ⟨h.1, fun z hz => h.2 z (by omega)⟩
theorem Cd.two {c1 c2 : List Nat} {t t' : Bool} {k1 k2 k : Nat} {o : Nat} (h1 : Cd c1 t k1) (h2 : Cd c2 t k2) (e1 : k1 ≤ k) (e2 : k2 + 1 ≤ k) (ht : ∀ s, ty1 o (t :: t :: s) = some (t' :: s)) (ho : 2000 < o) (ho2 : o < 2006) : Cd (c1 ++ c2 ++ [o]) t' k := by
  refine ⟨fun s => ?_, fun z hz => ?_⟩
  · rw [tyL_ap, tyL_ap, h1.1]
    show ((tyL c2 (t :: s)).bind (tyL [o])) = _
    rw [h2.1]
    show (ty1 o (t :: t :: s)).bind (tyL []) = _
    rw [ht]; rfl
  · rw [hgL_ap, hgL_ap, h1.2 z (by omega)]
    show ((hgL c2 (z + 1)).bind (hgL [o])) = _
    rw [h2.2 (z + 1) (by omega)]
    show (hg1 o (z + 1 + 1)).bind (hgL []) = _
    unfold hg1
    rw [if_neg (by omega), if_neg (by omega), if_pos ho2, if_pos (by omega)]
    rfl
theorem Cd.one {o : Nat} {t : Bool} (h : o < 1010) (ht : ∀ s, ty1 o s = some (t :: s)) : Cd [o] t 1 := by
  refine ⟨fun s => ?_, fun z hz => ?_⟩
  · show (ty1 o s).bind (tyL []) = _
    rw [ht]; rfl
  · show (hg1 o z).bind (hgL []) = _
    unfold hg1
    rw [if_pos (by omega), if_pos (by omega)]; rfl
theorem Cd.not {c : List Nat} {k : Nat} (h : Cd c true k) : Cd (c ++ [2000]) true k := by
  refine ⟨fun s => ?_, fun z hz => ?_⟩
  · rw [tyL_ap, h.1]; rfl
  · rw [hgL_ap, h.2 z hz]
    show (hg1 2000 (z + 1)).bind (hgL []) = _
    unfold hg1
    rw [if_neg (by decide), if_pos rfl, if_pos (by omega)]; rfl
theorem ptP_cd {q : Nat × List Nat} (e : ptP f L b = .inr q) : Cd q.2 false 1 := by
  unfold ptP at e
  split at e
  · rename_i c
    cases e
    have hv := nmv c
    have : (numI f b (tkE f L b - b)).toNatClampNeg < 1000 := by
      obtain ⟨i, -, h2, h3⟩ := rg_in (lo := 0) (hi := 999) (by decide) hv.1 hv.2 (by decide)
      rw [h3, nI_clamp (by omega)]; omega
    exact Cd.one (by omega) (fun s => if_pos (by omega))
  · split at e
    · rename_i i hi
      cases e
      have h7 : i < 7 := by
        unfold paN at hi
        repeat' split at hi
        all_goals first | (cases hi; omega) | cases hi
      exact Cd.one (by omega) (fun s => if_pos (by omega))
    · cases e
theorem smL_cd : ∀ k b acc, Cd acc false 2 → ∀ q, smL f L k b acc = .inr q → Cd q.2 false 2
  | 0, b, acc, _, q, e => by cases e
  | k + 1, b, acc, h, q, e => by
    unfold smL at e
    split at e
    · obtain ⟨b1, c, p1, e⟩ := bnd_inr e
      exact smL_cd k b1 _ (h.two (ptP_cd p1) (Nat.le_refl _) (Nat.le_refl _) (fun s => rfl) (by decide) (by decide)) q e
    · cases e; exact h
theorem smP_cd {q : Nat × List Nat} (e : smP f L b = .inr q) : Cd q.2 false 2 := by
  unfold smP at e
  obtain ⟨b1, c, p1, e⟩ := bnd_inr e
  exact smL_cd 400 b1 c ((ptP_cd p1).up (by decide)) q e
theorem lfP_cd {q : Nat × List Nat} (e : lfP f L b = .inr q) : Cd q.2 true 3 := by
  unfold lfP at e
  split at e
  · rename_i i hi
    cases e
    have h7 : 7 ≤ i ∧ i < 10 := by
      unfold trN at hi
      repeat' split at hi
      all_goals first | (cases hi; omega) | cases hi
    exact (Cd.one (by omega) (fun s => by unfold ty1; rw [if_neg (by omega), if_pos (by omega)])).up (by decide)
  · obtain ⟨b1, c1, p1, e⟩ := bnd_inr e
    split at e
    · obtain ⟨b2, c2, p2, e⟩ := bnd_inr e
      cases e
      exact (smP_cd p1).two (smP_cd p2) (by decide) (Nat.le_refl _) (fun s => rfl) (by decide) (by decide)
    · split at e
      · obtain ⟨b2, c2, p2, e⟩ := bnd_inr e
        cases e
        exact (smP_cd p1).two (smP_cd p2) (by decide) (Nat.le_refl _) (fun s => rfl) (by decide) (by decide)
      · cases e
theorem anG_cd {at_ : Nat → PR (List Nat)} {k0 : Nat} (A : ∀ b q, at_ b = .inr q → Cd q.2 true k0) : ∀ k b acc, Cd acc true (k0 + 1) → ∀ q, anG f L at_ k b acc = .inr q → Cd q.2 true (k0 + 1)
  | 0, b, acc, _, q, e => by cases e
  | k + 1, b, acc, h, q, e => by
    unfold anG at e
    split at e
    · obtain ⟨b1, c, p1, e⟩ := bnd_inr e
      exact anG_cd A k b1 _ (h.two (A _ _ p1) (Nat.le_refl _) (Nat.le_refl _) (fun s => rfl) (by decide) (by decide)) q e
    · cases e; exact h
theorem alG_cd {at_ : Nat → PR (List Nat)} {k0 : Nat} (A : ∀ b q, at_ b = .inr q → Cd q.2 true k0) {q : Nat × List Nat} (e : alG f L at_ b = .inr q) : Cd q.2 true (k0 + 1) := by
  unfold alG at e
  obtain ⟨b1, c, p1, e⟩ := bnd_inr e
  exact anG_cd A 400 b1 c ((A _ _ p1).up (Nat.le_succ _)) q e
theorem orG_cd {at_ : Nat → PR (List Nat)} {k0 : Nat} (A : ∀ b q, at_ b = .inr q → Cd q.2 true k0) : ∀ k b acc, Cd acc true (k0 + 2) → ∀ q, orG f L at_ k b acc = .inr q → Cd q.2 true (k0 + 2)
  | 0, b, acc, _, q, e => by cases e
  | k + 1, b, acc, h, q, e => by
    unfold orG at e
    split at e
    · obtain ⟨b1, c, p1, e⟩ := bnd_inr e
      exact orG_cd A k b1 _ (h.two (alG_cd A p1) (Nat.le_refl _) (Nat.le_refl _) (fun s => rfl) (by decide) (by decide)) q e
    · cases e; exact h
theorem cdG_cd {at_ : Nat → PR (List Nat)} {k0 : Nat} (A : ∀ b q, at_ b = .inr q → Cd q.2 true k0) {q : Nat × List Nat} (e : cdG f L at_ b = .inr q) : Cd q.2 true (k0 + 2) := by
  unfold cdG at e
  obtain ⟨b1, c, p1, e⟩ := bnd_inr e
  exact orG_cd A 400 b1 c ((alG_cd A p1).up (Nat.le_succ _)) q e
theorem atQ_cd : ∀ j b q, atQ f L j b = .inr q → Cd q.2 true (3 + 2 * j)
  | 0, b, q, e => by
    unfold atQ at e
    split at e
    · cases e
    · exact lfP_cd e
  | j + 1, b, q, e => by
    unfold atQ at e
    split at e
    · obtain ⟨b1, c, p1, e⟩ := bnd_inr e
      cases e
      exact (atQ_cd j _ _ p1).not.up (by omega)
    · split at e
      · obtain ⟨b1, c, p1, e⟩ := bnd_inr e
        obtain ⟨b2, c2, p2, e⟩ := bnd_inr e
        cases e
        exact (cdG_cd (k0 := 3 + 2 * j) (fun b q e => atQ_cd j b q e) p1).up (by omega)
      · exact (lfP_cd e).up (by omega)
/-- a line as it is read -/
def lnT (l : Nat × Nat × List Nat) : Prop := l.1 ≤ 2 ∧ l.2.1 ≤ 99 ∧ (l.1 = 2 → l.2.1 = 0) ∧ (l.2.2 = [] ∨ tyL l.2.2 [] = some [true] ∧ hgL l.2.2 0 = some 1)
theorem lnT.ok {l : Nat × Nat × List Nat} (h : lnT l) : lnOK l := ⟨h.1, by have := h.2.1; omega, h.2.2.2.imp id (fun z => z.2)⟩
theorem llP_t (hb : b ≤ L) {q : Nat × Nat × Nat × List Nat} (e : llP f L b = .inr q) : lnT q.2 := by
  have l := llP_ln hb e
  refine ⟨l.2.2.1, l.2.2.2, ?_, ?_⟩
  · unfold llP at e
    obtain ⟨b1, k, p1, e⟩ := bnd_inr e
    obtain ⟨b2, z, p2, e⟩ := bnd_inr e
    have kz : q.2.1 = k ∧ q.2.2.1 = z := by
      split at e
      · obtain ⟨b3, c3, p3, e⟩ := bnd_inr e
        cases e; exact ⟨rfl, rfl⟩
      · cases e; exact ⟨rfl, rfl⟩
    rw [kz.1, kz.2]
    intro k2
    rw [if_pos k2] at p2
    cases p2; rfl
  · unfold llP at e
    obtain ⟨b1, k, p1, e⟩ := bnd_inr e
    obtain ⟨b2, z, p2, e⟩ := bnd_inr e
    split at e
    · obtain ⟨b3, c3, p3, e⟩ := bnd_inr e
      cases e
      have := cdG_cd (k0 := 15) (fun b q e => atQ_cd 6 b q e) p3
      exact Or.inr ⟨this.1 [], this.2 0 (by decide)⟩
    · cases e; exact Or.inl rfl
theorem ltP_t : ∀ k b, b ≤ L → ∀ q, ltP f L k b = .inr q → (encL q.2).length + b ≤ L + k ∧ q.2.length ≤ k ∧ ∀ l ∈ q.2, lnT l
  | 0, b, _, q, e => by cases e
  | k + 1, b, hb, q, e => by
    unfold ltP at e
    obtain ⟨b1, c, p1, e⟩ := bnd_inr e
    have l := llP_ln hb p1
    have t := llP_t hb p1
    obtain ⟨ck, cz, co⟩ := c
    simp only at l t
    split at e
    · cases e
      refine ⟨?_, by simp, fun l hl => ?_⟩
      · simp only [encL, List.length_cons, List.length_append, List.length_nil]; omega
      · simp only [List.mem_cons, List.not_mem_nil, or_false] at hl; rw [hl]; exact t
    · split at e
      · obtain ⟨b2, cs, p2, e⟩ := bnd_inr e
        cases e
        rename_i c1 c2
        have g1 : b1 < nx f L b1 := nx_gt (by omega)
        obtain ⟨i1, i2, i3⟩ := ltP_t k _ nx_le _ p2
        simp only at i1 i2 i3
        refine ⟨?_, by simp only [List.length_cons]; omega, fun l hl => ?_⟩
        · simp only [encL, List.length_cons, List.length_append]; omega
        · rcases List.mem_cons.mp hl with rfl | hl
          · exact t
          · exact i3 l hl
      · cases e
theorem lwP_t {q : Nat × LawL} (hL : L ≤ 400) (e : lwP f L = .inr q) : (encL q.2).length ≤ 412 ∧ q.2.length ≤ 12 ∧ ∀ l ∈ q.2, lnT l := by
  unfold lwP at e
  split at e
  · cases e
    exact ⟨by simp [encL], by simp, fun l hl => absurd hl List.not_mem_nil⟩
  · obtain ⟨h1, h2, h3⟩ := ltP_t 12 _ (skb_le (Nat.zero_le _)) _ e
    exact ⟨by omega, h2, h3⟩
end LAWOK

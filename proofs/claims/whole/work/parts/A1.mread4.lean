/-! the reference: values that are read, as the class's readings -/
section MREAD4
variable {E : PE} {M : PM} {d : Nat} {Q : PQ} {h h' : PH} {n : Nat} {m a : Nat} {w : AR} {r : AR} {C : Option LawL} {pc : Nat} {L p b e : Nat} {cs : List Nat} {lo hi : Int32} {s : Nat}
/-- what the reading of a value leaves -/
def VQ (Q : PQ) (n m L : Nat) (h : PH) (w : AR) (R : PR Int32) : Prop := match R with
  | .inl b => ∀ h' p', p' ≤ L → MX h' m (pp w p' b) → FM m h h' → Q (.inl (some (.int (-1)))) h' n
  | .inr q => ∀ h' p' b', p' ≤ L → skb (w 6) L p' = q.1 → MX h' m (pp w p' b') → FM m h h' → Q (.inl (some (.int q.2))) h' n
theorem bnd_as {α β γ : Type} (x : PR α) (k : Nat → α → PR β) (l : Nat → β → PR γ) : bnd (bnd x k) l = bnd x (fun b v => bnd (k b v) l) := by
  cases x <;> rfl
theorem nm_y {f : Nat → Int32} {dg : Nat} (q : nmB f L b dg lo hi = true) : nmP f L dg lo hi b = .inr (nx f L b, nmV f L b) := by
  unfold nmP; rw [if_pos q]; rfl
theorem nm_n {f : Nat → Int32} {dg : Nat} (q : ¬ nmB f L b dg lo hi = true) : nmP f L dg lo hi b = .inl b := by
  unfold nmP; rw [if_neg q]
theorem wd_y {f : Nat → Int32} (q : isB f L b cs = true) : wdP f L cs b = .inr (nx f L b, ()) := by
  unfold wdP; rw [if_pos q]
theorem wd_n {f : Nat → Int32} (q : ¬ isB f L b cs = true) : wdP f L cs b = .inl b := by
  unfold wdP; rw [if_neg q]
theorem c_X12_numberP (X : MX h m (pp w p b)) (hL : w 0 11 = nI L) (hL4 : L ≤ 400) (hp : p ≤ L) (hs : skb (w 6) L p = s) (hQ : VQ Q n m L h w (nmP (w 6) L 4 lo hi s)) : pCall E M_X12_number (d + 3) [.ref m, .int lo, .int hi] h n Q := by
  subst hs
  refine c_X12_number X hL hL4 hp (fun q h1 X1 F1 => ?_) (fun q h1 p' g X1 F1 => ?_)
  · rw [nm_y q] at hQ
    exact hQ h1 _ _ tkE_le rfl X1 F1
  · rw [nm_n q] at hQ
    exact hQ h1 p' g X1 F1
theorem c_X12_afterP (X : MX h m (pp w p b)) (hL : w 0 11 = nI L) (hL4 : L ≤ 400) (hp : p ≤ L) (S : ES E a cs) (hc : WL cs) (hs : skb (w 6) L p = s) (hQ : VQ Q n m L h w (bnd (wdP (w 6) L cs s) (fun b2 _ => nmP (w 6) L 4 lo hi b2))) : pCall E M_X12_after (d + 5) [.ref m, .ref a, .int lo, .int hi] h n Q := by
  subst hs
  refine c_X12_after X hL hL4 hp S hc (fun q q2 h1 X1 F1 => ?_) (fun q h1 p' g X1 F1 => ?_) (fun q q2 h1 p' g X1 F1 => ?_)
  · rw [wd_y q] at hQ
    have hQ' : VQ Q n m L h w (nmP (w 6) L 4 lo hi (nx (w 6) L (skb (w 6) L p))) := hQ
    rw [nm_y q2] at hQ'
    exact hQ' h1 _ _ tkE_le rfl X1 F1
  · rw [wd_n q] at hQ
    exact hQ h1 p' g X1 F1
  · rw [wd_y q] at hQ
    have hQ' : VQ Q n m L h w (nmP (w 6) L 4 lo hi (nx (w 6) L (skb (w 6) L p))) := hQ
    rw [nm_n q2] at hQ'
    exact hQ' h1 p' g X1 F1
theorem c_X12_manToldP (X : MX h m (pp w p b)) (R : RW (w 1) r C) (A : WA r) (hL : w 0 11 = nI L) (hL4 : L ≤ 400) (hp : p ≤ L) (hs : skb (w 6) L p = s) (hQ : VQ Q n m L h w (nmP (w 6) L 4 0 (nI (cl r 5 0) - 1) s)) : pCall E M_X12_manTold (d + 4) [.ref m] h n Q := by
  subst hs
  refine c_X12_manTold X R A hL hL4 hp (fun q h1 X1 F1 => ?_) (fun q h1 p' g X1 F1 => ?_)
  · rw [nm_y q] at hQ
    exact hQ h1 _ _ tkE_le rfl X1 F1
  · rw [nm_n q] at hQ
    exact hQ h1 p' g X1 F1
theorem wl_of : WL w_of_ := ⟨by decide, by decide⟩
theorem wl_in : WL w_in_ := ⟨by decide, by decide⟩
theorem wl_depth : WL w_depth_ := ⟨by decide, by decide⟩
theorem wl_on : WL w_on_ := ⟨by decide, by decide⟩
theorem wl_by : WL w_by_ := ⟨by decide, by decide⟩
theorem wl_day : WL w_day_ := ⟨by decide, by decide⟩
theorem wl_with : WL w_with_ := ⟨by decide, by decide⟩
theorem wl_battle : WL w_battle_ := ⟨by decide, by decide⟩
theorem wl_man : WL w_man_ := ⟨by decide, by decide⟩
theorem wl_scar : WL w_scar_ := ⟨by decide, by decide⟩
theorem wl_told : WL w_told_ := ⟨by decide, by decide⟩
theorem wl_today : WL w_today_ := ⟨by decide, by decide⟩
theorem wl_dead : WL w_dead_ := ⟨by decide, by decide⟩
/-- a value that is right is none of the wrong -/
theorem nm_val {f : Nat → Int32} {dg : Nat} {q : Nat × Int32} (h : nmP f L dg lo hi b = .inr q) (h0 : 0 ≤ lo) : 0 ≤ q.2 := by
  by_cases c : nmB f L b dg lo hi = true
  · rw [nm_y c] at h
    cases h
    exact (nm_ge c h0).1
  · rw [nm_n c] at h; cases h
end MREAD4

/-! a text of the law: what is read -/
section LAWP
variable {E : PE} {M : PM} {d : Nat} {Q : PQ} {h : PH} {n : Nat} {a b s t x y L : Nat} {r rb : AR} {lw lb : Option Nat} {C Cb : Option LawL} {pc : Nat} {f : Nat → Int32} {v : Int32} {g : Nat → Int32}
/-- a named part; a named truth -/
def paN (f : Nat → Int32) (L b : Nat) : Option Nat := if isB f L b w_place_ = true then some 0 else if isB f L b w_weapon_ = true then some 1 else if isB f L b w_battle_ = true then some 2 else if isB f L b w_depth_ = true then some 3 else if isB f L b w_told_ = true then some 4 else if isB f L b w_days_ = true then some 5 else if isB f L b w_bearer_ = true then some 6 else none
def trN (f : Nat → Int32) (L b : Nat) : Option Nat := if isB f L b w_own_ = true then some 7 else if isB f L b w_fits_ = true then some 8 else if isB f L b w_ear_ = true then some 9 else none
def ptP (f : Nat → Int32) (L b : Nat) : PR (List Nat) := if nmB f L b 3 0 999 = true then .inr (nx f L b, [(numI f b (tkE f L b - b)).toNatClampNeg]) else match paN f L b with
  | some i => .inr (nx f L b, [1000 + i])
  | none => .inl b
def smL (f : Nat → Int32) (L : Nat) : Nat → Nat → List Nat → PR (List Nat)
  | 0, b, _ => .inl b
  | k + 1, b, acc => if isB f L b w_plus_ = true then bnd (ptP f L (nx f L b)) (fun b1 c => smL f L k b1 (acc ++ c ++ [2001])) else .inr (b, acc)
def smP (f : Nat → Int32) (L b : Nat) : PR (List Nat) := bnd (ptP f L b) (fun b1 c => smL f L 400 b1 c)
def lfP (f : Nat → Int32) (L b : Nat) : PR (List Nat) := match trN f L b with
  | some i => .inr (nx f L b, [1000 + i])
  | none => bnd (smP f L b) (fun b1 c1 => if isB f L b1 w_lt_ = true then bnd (smP f L (nx f L b1)) (fun b2 c2 => .inr (b2, c1 ++ c2 ++ [2002])) else if isB f L b1 w_gt_ = true then bnd (smP f L (nx f L b1)) (fun b2 c2 => .inr (b2, c1 ++ c2 ++ [2003])) else .inl b1)
/-- atoms that are joined -/
def anG (f : Nat → Int32) (L : Nat) (at_ : Nat → PR (List Nat)) : Nat → Nat → List Nat → PR (List Nat)
  | 0, b, _ => .inl b
  | k + 1, b, acc => if isB f L b w_and_ = true then bnd (at_ (nx f L b)) (fun b1 c => anG f L at_ k b1 (acc ++ c ++ [2004])) else .inr (b, acc)
def alG (f : Nat → Int32) (L : Nat) (at_ : Nat → PR (List Nat)) (b : Nat) : PR (List Nat) := bnd (at_ b) (fun b1 c => anG f L at_ 400 b1 c)
def orG (f : Nat → Int32) (L : Nat) (at_ : Nat → PR (List Nat)) : Nat → Nat → List Nat → PR (List Nat)
  | 0, b, _ => .inl b
  | k + 1, b, acc => if isB f L b w_or_ = true then bnd (alG f L at_ (nx f L b)) (fun b1 c => orG f L at_ k b1 (acc ++ c ++ [2005])) else .inr (b, acc)
def cdG (f : Nat → Int32) (L : Nat) (at_ : Nat → PR (List Nat)) (b : Nat) : PR (List Nat) := bnd (alG f L at_ b) (fun b1 c => orG f L at_ 400 b1 c)
/-- an atom that may hold j levels -/
def atQ (f : Nat → Int32) (L : Nat) : Nat → Nat → PR (List Nat)
  | 0, b => if isB f L b w_not_ = true ∨ isB f L b w_lpar_ = true then .inl b else lfP f L b
  | j + 1, b => if isB f L b w_not_ = true then bnd (atQ f L j (nx f L b)) (fun b1 c => .inr (b1, c ++ [2000])) else if isB f L b w_lpar_ = true then bnd (cdG f L (atQ f L j) (nx f L b)) (fun b1 c => bnd (wdP f L w_rpar_ b1) (fun b2 _ => .inr (b2, c))) else lfP f L b
/-- how many codes are made by how many bytes -/
def LnR (b : Nat) (L : Nat) (p : PR (List Nat)) : Prop := ∀ q, p = .inr q → b + q.2.length ≤ q.1 ∧ q.1 ≤ L ∧ b < q.1
theorem isB_lt {cs : List Nat} (hc : 0 < cs.length) (hb : b ≤ L) (e : isB f L b cs = true) : b < L := by
  have h := (decide_eq_true_iff.mp e).1
  have := tkE_le (f := f) (L := L) (b := b)
  omega
theorem nmB_lt {dg : Nat} {lo hi : Int32} (e : nmB f L b dg lo hi = true) : b < L := (decide_eq_true_iff.mp e).1.1
theorem paN_lt (hb : b ≤ L) {i : Nat} (e : paN f L b = some i) : b < L ∧ i < 7 := by
  unfold paN at e
  repeat' split at e
  all_goals first | (cases e; rename_i c; exact ⟨isB_lt (by decide) hb c, by decide⟩) | cases e
theorem trN_lt (hb : b ≤ L) {i : Nat} (e : trN f L b = some i) : b < L ∧ i < 10 ∧ 7 ≤ i := by
  unfold trN at e
  repeat' split at e
  all_goals first | (cases e; rename_i c; exact ⟨isB_lt (by decide) hb c, by decide, by decide⟩) | cases e
theorem ptP_ln (hb : b ≤ L) : LnR b L (ptP f L b) := by
  intro q e
  unfold ptP at e
  split at e
  · rename_i c
    cases e
    have := nx_gt (f := f) (nmB_lt c)
    exact ⟨by simp only [List.length_cons, List.length_nil]; omega, nx_le, by simp only; omega⟩
  · split at e
    · rename_i i c
      cases e
      have := nx_gt (f := f) (paN_lt hb c).1
      exact ⟨by simp only [List.length_cons, List.length_nil]; omega, nx_le, by simp only; omega⟩
    · cases e
theorem smL_ln : ∀ k b acc b0, b ≤ L → b0 + acc.length ≤ b → b0 < b → LnR b0 L (smL f L k b acc)
  | 0, b, acc, b0, _, _, _ => fun q e => by cases e
  | k + 1, b, acc, b0, hb, hl, h0 => by
    intro q e
    unfold smL at e
    split at e
    · rename_i c
      obtain ⟨b1, c1, p1, e⟩ := bnd_inr e
      obtain ⟨l1, l2, l3⟩ := ptP_ln nx_le _ p1
      simp only at l1 l2 l3
      have := nx_gt (f := f) (isB_lt (by decide) hb c)
      exact smL_ln k b1 _ b0 l2 (by simp only [List.length_append, List.length_cons, List.length_nil]; omega) (by omega) q e
    · cases e
      exact ⟨hl, hb, h0⟩
theorem smP_ln (hb : b ≤ L) : LnR b L (smP f L b) := by
  intro q e
  unfold smP at e
  obtain ⟨b1, c1, p1, e⟩ := bnd_inr e
  obtain ⟨l1, l2, l3⟩ := ptP_ln hb _ p1
  exact smL_ln 400 b1 c1 b l2 l1 l3 q e
theorem lfP_ln (hb : b ≤ L) : LnR b L (lfP f L b) := by
  intro q e
  unfold lfP at e
  split at e
  · rename_i i c
    cases e
    have := nx_gt (f := f) (trN_lt hb c).1
    exact ⟨by simp only [List.length_cons, List.length_nil]; omega, nx_le, by simp only; omega⟩
  · obtain ⟨b1, c1, p1, e⟩ := bnd_inr e
    obtain ⟨l1, l2, l3⟩ := smP_ln hb _ p1
    simp only at l1 l2 l3
    split at e
    · rename_i c
      obtain ⟨b2, c2, p2, e⟩ := bnd_inr e
      obtain ⟨m1, m2, m3⟩ := smP_ln nx_le _ p2
      simp only at m1 m2 m3
      cases e
      have := nx_gt (f := f) (isB_lt (by decide) l2 c)
      exact ⟨by simp only [List.length_append, List.length_cons, List.length_nil]; omega, m2, by simp only; omega⟩
    · split at e
      · rename_i c
        obtain ⟨b2, c2, p2, e⟩ := bnd_inr e
        obtain ⟨m1, m2, m3⟩ := smP_ln nx_le _ p2
        simp only at m1 m2 m3
        cases e
        have := nx_gt (f := f) (isB_lt (by decide) l2 c)
        exact ⟨by simp only [List.length_append, List.length_cons, List.length_nil]; omega, m2, by simp only; omega⟩
      · cases e
theorem anG_ln {at_ : Nat → PR (List Nat)} (A : ∀ b, b ≤ L → LnR b L (at_ b)) : ∀ k b acc b0, b ≤ L → b0 + acc.length ≤ b → b0 < b → LnR b0 L (anG f L at_ k b acc)
  | 0, b, acc, b0, _, _, _ => fun q e => by cases e
  | k + 1, b, acc, b0, hb, hl, h0 => by
    intro q e
    unfold anG at e
    split at e
    · rename_i c
      obtain ⟨b1, c1, p1, e⟩ := bnd_inr e
      obtain ⟨l1, l2, l3⟩ := A _ nx_le _ p1
      simp only at l1 l2 l3
      have := nx_gt (f := f) (isB_lt (by decide) hb c)
      exact anG_ln A k b1 _ b0 l2 (by simp only [List.length_append, List.length_cons, List.length_nil]; omega) (by omega) q e
    · cases e
      exact ⟨hl, hb, h0⟩
theorem alG_ln {at_ : Nat → PR (List Nat)} (A : ∀ b, b ≤ L → LnR b L (at_ b)) (hb : b ≤ L) : LnR b L (alG f L at_ b) := by
  intro q e
  unfold alG at e
  obtain ⟨b1, c1, p1, e⟩ := bnd_inr e
  obtain ⟨l1, l2, l3⟩ := A _ hb _ p1
  exact anG_ln A 400 b1 c1 b l2 l1 l3 q e
theorem orG_ln {at_ : Nat → PR (List Nat)} (A : ∀ b, b ≤ L → LnR b L (at_ b)) : ∀ k b acc b0, b ≤ L → b0 + acc.length ≤ b → b0 < b → LnR b0 L (orG f L at_ k b acc)
  | 0, b, acc, b0, _, _, _ => fun q e => by cases e
  | k + 1, b, acc, b0, hb, hl, h0 => by
    intro q e
    unfold orG at e
    split at e
    · rename_i c
      obtain ⟨b1, c1, p1, e⟩ := bnd_inr e
      obtain ⟨l1, l2, l3⟩ := alG_ln A nx_le _ p1
      simp only at l1 l2 l3
      have := nx_gt (f := f) (isB_lt (by decide) hb c)
      exact orG_ln A k b1 _ b0 l2 (by simp only [List.length_append, List.length_cons, List.length_nil]; omega) (by omega) q e
    · cases e
      exact ⟨hl, hb, h0⟩
theorem cdG_ln {at_ : Nat → PR (List Nat)} (A : ∀ b, b ≤ L → LnR b L (at_ b)) (hb : b ≤ L) : LnR b L (cdG f L at_ b) := by
  intro q e
  unfold cdG at e
  obtain ⟨b1, c1, p1, e⟩ := bnd_inr e
  obtain ⟨l1, l2, l3⟩ := alG_ln A hb _ p1
  exact orG_ln A 400 b1 c1 b l2 l1 l3 q e
theorem atQ_ln : ∀ j b, b ≤ L → LnR b L (atQ f L j b)
  | 0, b, hb => by
    intro q e
    unfold atQ at e
    split at e
    · cases e
    · exact lfP_ln hb q e
  | j + 1, b, hb => by
    intro q e
    unfold atQ at e
    split at e
    · rename_i c
      obtain ⟨b1, c1, p1, e⟩ := bnd_inr e
      obtain ⟨l1, l2, l3⟩ := atQ_ln j _ nx_le _ p1
      simp only at l1 l2 l3
      cases e
      have := nx_gt (f := f) (isB_lt (by decide) hb c)
      exact ⟨by simp only [List.length_append, List.length_cons, List.length_nil]; omega, l2, by simp only; omega⟩
    · split at e
      · rename_i c
        obtain ⟨b1, c1, p1, e⟩ := bnd_inr e
        obtain ⟨b2, c2, p2, e⟩ := bnd_inr e
        obtain ⟨l1, l2, l3⟩ := cdG_ln (f := f) (fun b hb => atQ_ln j b hb) nx_le _ p1
        simp only at l1 l2 l3
        unfold wdP at p2
        split at p2
        · rename_i c2
          cases p2
          cases e
          have := nx_gt (f := f) (isB_lt (by decide) hb c)
          have := nx_gt (f := f) (isB_lt (by decide) l2 c2)
          exact ⟨by simp only; omega, nx_le, by simp only; omega⟩
        · cases p2
      · exact lfP_ln hb q e
/-- a line of the law -/
def llP (f : Nat → Int32) (L b : Nat) : PR (Nat × Nat × List Nat) :=
  bnd (if isB f L b w_worth_ = true then (.inr (nx f L b, 0) : PR Nat) else if isB f L b w_less_ = true then .inr (nx f L b, 1) else if isB f L b w_void_ = true then .inr (nx f L b, 2) else .inl b) (fun b1 k =>
  bnd (if k = 2 then (.inr (b1, 0) : PR Nat) else bnd (nmP f L 3 0 99 b1) (fun b2 z => .inr (b2, z.toNatClampNeg))) (fun b2 z =>
  if isB f L b2 w_if_ = true then bnd (cdG f L (atQ f L 6) (nx f L b2)) (fun b3 ops => .inr (b3, (k, z, ops))) else .inr (b2, (k, z, []))))
def ltP (f : Nat → Int32) (L : Nat) : Nat → Nat → PR LawL
  | 0, b => .inl b
  | k + 1, b => bnd (llP f L b) (fun b1 c => if L ≤ b1 then .inr (b1, [c]) else if isB f L b1 w_semi_ = true then bnd (ltP f L k (nx f L b1)) (fun b2 cs => .inr (b2, c :: cs)) else .inl b1)
def lwP (f : Nat → Int32) (L : Nat) : PR LawL := if L ≤ skb f L 0 then .inr (skb f L 0, []) else ltP f L 12 (skb f L 0)
theorem llP_ln (hb : b ≤ L) {q : Nat × Nat × Nat × List Nat} (e : llP f L b = .inr q) : b + q.2.2.2.length + 2 ≤ q.1 ∧ q.1 ≤ L ∧ q.2.1 ≤ 2 ∧ q.2.2.1 ≤ 99 := by
  unfold llP at e
  obtain ⟨b1, k, p1, e⟩ := bnd_inr e
  obtain ⟨b2, z, p2, e⟩ := bnd_inr e
  have w4 : ∀ cs : List Nat, 2 ≤ cs.length → isB f L b cs = true → b + 2 ≤ nx f L b := fun cs hcs hi => by
    have h1 := (decide_eq_true_iff.mp hi).1
    have h2 := adv_ge (blP f) L (tkE f L b)
    unfold nx skb
    omega
  have h1 : b + 2 ≤ b1 ∧ b1 ≤ L ∧ k ≤ 2 := by
    split at p1
    · rename_i c; cases p1; exact ⟨w4 w_worth_ (by decide) c, nx_le, by decide⟩
    · split at p1
      · rename_i c; cases p1; exact ⟨w4 w_less_ (by decide) c, nx_le, by decide⟩
      · split at p1
        · rename_i c; cases p1; exact ⟨w4 w_void_ (by decide) c, nx_le, by decide⟩
        · cases p1
  have h2 : b1 ≤ b2 ∧ b2 ≤ L ∧ z ≤ 99 := by
    split at p2
    · cases p2; exact ⟨Nat.le_refl _, h1.2.1, by decide⟩
    · obtain ⟨b3, z3, p3, p2⟩ := bnd_inr p2
      cases p2
      obtain ⟨n1, n2, n3, n4⟩ := nmP_inr p3
      obtain ⟨i, _, hi, ei⟩ := rg_in (lo := 0) (hi := 99) (by decide) n3 n4 (by decide)
      simp only at ei n2
      unfold nmP at p3
      rw [if_pos n1] at p3
      cases p3
      have := nx_gt (f := f) (nmB_lt n1)
      exact ⟨by omega, nx_le, by rw [ei, nI_clamp (by omega)]; exact hi⟩
  split at e
  · rename_i c
    obtain ⟨b3, ops, p3, e⟩ := bnd_inr e
    cases e
    obtain ⟨m1, m2, m3⟩ := cdG_ln (f := f) (fun b hb => atQ_ln 6 b hb) nx_le _ p3
    simp only at m1 m2 m3
    have := nx_gt (f := f) (isB_lt (by decide) h2.2.1 c)
    exact ⟨by simp only; omega, m2, h1.2.2, h2.2.2⟩
  · cases e
    exact ⟨by simp only [List.length_nil]; omega, h2.2.1, h1.2.2, h2.2.2⟩
end LAWP

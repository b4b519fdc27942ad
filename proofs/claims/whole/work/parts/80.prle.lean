/-! wrong bytes lie on the tape -/
section PRLE
variable {f : Nat → Int32} {L b : Nat}
/-- a reading that fails does so within the tape -/
def PLe {α : Type} (L : Nat) (p : PR α) : Prop := match p with
  | .inl b => b ≤ L
  | .inr q => q.1 ≤ L
theorem PLe.bnd {α β : Type} {p : PR α} {k : Nat → α → PR β} (h : PLe L p) (hk : ∀ b x, b ≤ L → PLe L (k b x)) : PLe L (bnd p k) := by
  match p, h with
  | .inl b, h => exact h
  | .inr (b, x), h => exact hk b x h
theorem nmP_le {dg : Nat} {lo hi : Int32} (hb : b ≤ L) : PLe L (nmP f L dg lo hi b) := by
  unfold nmP
  split
  · exact nx_le
  · exact hb
theorem wdP_le {cs : List Nat} (hb : b ≤ L) : PLe L (wdP f L cs b) := by
  unfold wdP
  split
  · exact nx_le
  · exact hb
theorem wpP_le : ∀ k b w, b ≤ L → PLe L (wpP f L k b w)
  | 0, b, w, hb => hb
  | k + 1, b, w, hb => by
    unfold wpP
    split
    · split
      · exact wpP_le k _ _ nx_le
      · exact hb
    · exact hb
theorem lnP_le {nb nm ns : Nat} (hb : b ≤ L) : PLe L (lnP f L nb nm ns b) := by
  unfold lnP
  split
  · unfold baP
    split
    · exact hb
    · exact (nmP_le nx_le).bnd (fun b1 _ h1 => (wdP_le h1).bnd (fun b2 _ h2 => (nmP_le h2).bnd (fun b3 _ h3 => (wdP_le h3).bnd (fun b4 _ h4 => (nmP_le h4).bnd (fun b5 _ h5 => (wpP_le 400 b5 _ h5).bnd (fun b6 _ h6 => h6))))))
  · split
    · unfold maP
      split
      · exact hb
      · exact (nmP_le nx_le).bnd (fun b1 _ h1 => h1)
    · split
      · unfold scP
        split
        · exact hb
        · refine (nmP_le nx_le).bnd (fun b1 _ h1 => (wdP_le h1).bnd (fun b2 _ h2 => (nmP_le h2).bnd (fun b3 _ h3 => (wdP_le h3).bnd (fun b4 _ h4 => (nmP_le h4).bnd (fun b5 _ h5 => (wdP_le h5).bnd (fun b6 _ h6 => (nmP_le h6).bnd (fun b7 _ h7 => (wdP_le h7).bnd (fun b8 _ h8 => (nmP_le h8).bnd (fun b9 _ h9 => ?_)))))))))
          split
          · exact (nmP_le nx_le).bnd (fun b10 _ h10 => h10)
          · exact h9
      · split
        · unfold toP
          exact (nmP_le nx_le).bnd (fun b1 _ h1 => (nmP_le h1).bnd (fun b2 _ h2 => h2))
        · split
          · exact (nmP_le nx_le).bnd (fun b1 _ h1 => h1)
          · split
            · exact (nmP_le nx_le).bnd (fun b1 _ h1 => h1)
            · exact hb
theorem txP_le : ∀ k b q, b ≤ L → PLe L (txP f L k b q)
  | 0, b, q, hb => hb
  | k + 1, b, q, hb => by
    unfold txP
    refine (lnP_le hb).bnd (fun b1 c h1 => ?_)
    split
    · exact h1
    · split
      · exact (txP_le k _ _ nx_le).bnd (fun b2 _ h2 => h2)
      · exact h1
theorem arP_le {q : Nat × Nat × Nat} {bb : Nat} (e : arP f L q = .inl bb) : bb ≤ L := by
  unfold arP at e
  split at e
  · cases e
  · have := txP_le (f := f) 14 (skb f L 0) q (skb_le (Nat.zero_le _))
    rw [e] at this
    exact this
theorem ptP_le (hb : b ≤ L) : PLe L (ptP f L b) := by
  unfold ptP
  split
  · exact nx_le
  · split
    · exact nx_le
    · exact hb
theorem smL_le : ∀ k b acc, b ≤ L → PLe L (smL f L k b acc)
  | 0, b, acc, hb => hb
  | k + 1, b, acc, hb => by
    unfold smL
    split
    · exact (ptP_le nx_le).bnd (fun b1 _ h1 => smL_le k b1 _ h1)
    · exact hb
theorem smP_le (hb : b ≤ L) : PLe L (smP f L b) := (ptP_le hb).bnd (fun b1 _ h1 => smL_le 400 b1 _ h1)
theorem lfP_le (hb : b ≤ L) : PLe L (lfP f L b) := by
  unfold lfP
  split
  · exact nx_le
  · refine (smP_le hb).bnd (fun b1 _ h1 => ?_)
    split
    · exact (smP_le nx_le).bnd (fun b2 _ h2 => h2)
    · split
      · exact (smP_le nx_le).bnd (fun b2 _ h2 => h2)
      · exact h1
theorem anG_le {at_ : Nat → PR (List Nat)} (A : ∀ b, b ≤ L → PLe L (at_ b)) : ∀ k b acc, b ≤ L → PLe L (anG f L at_ k b acc)
  | 0, b, acc, hb => hb
  | k + 1, b, acc, hb => by
    unfold anG
    split
    · exact (A _ nx_le).bnd (fun b1 _ h1 => anG_le A k b1 _ h1)
    · exact hb
theorem alG_le {at_ : Nat → PR (List Nat)} (A : ∀ b, b ≤ L → PLe L (at_ b)) (hb : b ≤ L) : PLe L (alG f L at_ b) := (A b hb).bnd (fun b1 _ h1 => anG_le A 400 b1 _ h1)
theorem orG_le {at_ : Nat → PR (List Nat)} (A : ∀ b, b ≤ L → PLe L (at_ b)) : ∀ k b acc, b ≤ L → PLe L (orG f L at_ k b acc)
  | 0, b, acc, hb => hb
  | k + 1, b, acc, hb => by
    unfold orG
    split
    · exact (alG_le A nx_le).bnd (fun b1 _ h1 => orG_le A k b1 _ h1)
    · exact hb
theorem cdG_le {at_ : Nat → PR (List Nat)} (A : ∀ b, b ≤ L → PLe L (at_ b)) (hb : b ≤ L) : PLe L (cdG f L at_ b) := (alG_le A hb).bnd (fun b1 _ h1 => orG_le A 400 b1 _ h1)
theorem atQ_le : ∀ j b, b ≤ L → PLe L (atQ f L j b)
  | 0, b, hb => by
    unfold atQ
    split
    · exact hb
    · exact lfP_le hb
  | j + 1, b, hb => by
    unfold atQ
    split
    · exact (atQ_le j _ nx_le).bnd (fun b1 _ h1 => h1)
    · split
      · exact (cdG_le (fun b hb => atQ_le j b hb) nx_le).bnd (fun b1 _ h1 => (wdP_le h1).bnd (fun b2 _ h2 => h2))
      · exact lfP_le hb
theorem llP_le (hb : b ≤ L) : PLe L (llP f L b) := by
  unfold llP
  refine PLe.bnd (p := _) ?_ (fun b1 k h1 => PLe.bnd (p := _) ?_ (fun b2 z h2 => ?_))
  · split
    · exact nx_le
    · split
      · exact nx_le
      · split
        · exact nx_le
        · exact hb
  · split
    · exact h1
    · exact (nmP_le h1).bnd (fun b2 _ h2 => h2)
  · split
    · exact (cdG_le (fun b hb => atQ_le 6 b hb) nx_le).bnd (fun b3 _ h3 => h3)
    · exact h2
theorem ltP_le : ∀ k b, b ≤ L → PLe L (ltP f L k b)
  | 0, b, hb => hb
  | k + 1, b, hb => by
    unfold ltP
    refine (llP_le hb).bnd (fun b1 c h1 => ?_)
    split
    · exact h1
    · split
      · exact (ltP_le k _ nx_le).bnd (fun b2 _ h2 => h2)
      · exact h1
theorem lwP_le {bb : Nat} (e : lwP f L = .inl bb) : bb ≤ L := by
  unfold lwP at e
  split at e
  · cases e
  · have := ltP_le (f := f) 12 (skb f L 0) (skb_le (Nat.zero_le _))
    rw [e] at this
    exact this
end PRLE

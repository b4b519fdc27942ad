/-! INSTRUCTIONS that touch cells -/
section MEM
variable {E : PE} {M : PM} {d : Nat} {Q : PQ} {pc : Nat} {k kt : PK}
theorem pP1 {D : va_G} {cl : List vw_C} {a : Nat} {x : va_E} {H : Heap} (h : va_at D cl (a, x) H) : va_P D cl [(a, x)] H := by
  intro j q hj
  have hz : j < 1 := (List.getElem?_eq_some_iff.mp hj).1
  rw [show j = 0 by omega] at hj
  cases hj
  exact h
theorem pK1 {D : va_G} {cl : List vw_C} {U : State} (h : va_K D cl [] U) {cA : ClassId} {ty : FieldType} (h1 : ArrOfT U cA ty) (h2 : va_RA U cA ty) : va_K D cl [(cA, ty)] U := by
  refine ⟨h.1, fun j q hj => ?_⟩
  have hz : j < 1 := (List.getElem?_eq_some_iff.mp hj).1
  rw [show j = 0 by omega] at hj
  cases hj
  exact ⟨h1, h2⟩
theorem pF {E : PE} {s t : State} {H : Heap} {locs : List Loc} (ht : t.heap = H) (S : va_S (pA E) s.heap H locs) : va_F (pA E) s t := ⟨by rw [ht]; exact S.1, fun q h1 h2 => by rw [ht]; exact S.2.1 q h1 h2⟩
def i_getf (ci j : Nat) (k : PK) : PK := fun ls st σ => match st with
  | .ref a :: r => match σ.1 a with
    | some (.inr x) => x.1 = ci ∧ k ls (x.2.getD j .null :: r) σ
    | _ => False
  | _ => False
theorem s_getf {ci j idx : Nat} {C0 : String} {T : u_T} {N : Nat} (hin : ∀ w ∈ u_ws C0 T N, w ∈ pT) (hc : vwCl[ci]? = some (C0, T, N)) (hj : j < N) (h1 : (T j).1 = C0) (hl : Cond.fieldLink M.y.cls idx C0 (T j).2.1 (T j).2.2.1 ∈ pT) (hd : decode M.cc pc = .ok (.getfield idx, 3)) (hk : pNext E M d Q (pc + 3) k) : pNext E M d Q pc (i_getf ci j k) := by
  intro ls st σ h p e s m args below meth c H locs la C R S L
  unfold i_getf at h
  split at h
  · rename_i a r
    split at h
    · rename_i x hx
      obtain ⟨ci', fs⟩ := x
      obtain ⟨rfl, h⟩ := h
      obtain ⟨hB, hat, r0, hr0, hlen⟩ := R.2 a _ hx
      have hr1 : r0 = (C0, T, N) := Option.some.inj (hr0.symm.trans hc)
      subst hr1
      have hlt : j < fs.length := by have : fs.length = N := hlen; omega
      refine va_get (Ts := pT) C.1 C.2.1 (fun w hw => C.2.2.2.2.2.2.2.2.1 w hw args) hin C.2.2.2.1 C.2.2.2.2.2.2.2.2.2.1 (pP1 hat) 0 rfl hc j hj (C.2.2.2.2.2.2.2.2.1 _ hl args) (fun x hx => by rw [h1] at hx; exact hx) (v := fs.getD j .null) ?_ hd (hk _ _ _ h p e s m args below meth c H locs la C R S L)
      rw [List.getD_eq_getElem?_getD, List.getElem?_eq_getElem hlt]; rfl
    · exact h.elim
  · exact h.elim
def i_putf (ci j : Nat) (ty : FieldType) (k : PK) : PK := fun ls st σ => match st with
  | v :: .ref a :: r => match σ.1 a with
    | some (.inr x) => x.1 = ci ∧ narrow ty v = v ∧ fits ty v = true ∧ k ls r (pu σ.1 a (.inr (ci, x.2.set j v)), σ.2)
    | _ => False
  | _ => False
theorem s_putf {ci j idx : Nat} {C0 : String} {T : u_T} {N : Nat} {ty0 : Nat → FieldType} (hin : ∀ w ∈ u_ws C0 T N, w ∈ pT) (hty : ∀ k, k < N → parseFieldDescriptor (T k).2.2.1 = some (ty0 k)) (hnm : ∀ a, a < N → ∀ b, b < N → a ≠ b → (T a).2.1 ≠ (T b).2.1) (hc : vwCl[ci]? = some (C0, T, N)) (hj : j < N) (h1 : (T j).1 = C0) (hfin : (T j).2.2.2 = false) (hl : Cond.fieldLink M.y.cls idx C0 (T j).2.1 (T j).2.2.1 ∈ pT) (hd : decode M.cc pc = .ok (.putfield idx, 3)) (hk : pNext E M d Q (pc + 3) k) : pNext E M d Q pc (i_putf ci j (ty0 j) k) := by
  intro ls st σ h p e s m args below meth c H locs la C R S L
  unfold i_putf at h
  split at h
  · rename_i v a r
    split at h
    · rename_i x hx
      obtain ⟨ci', fs⟩ := x
      obtain ⟨rfl, hn, hfit, h⟩ := h
      obtain ⟨hB, ⟨r1, hr1, hat⟩, r0, hr0, hlen⟩ := R.2 a _ hx
      have e0 : r0 = (C0, T, N) := Option.some.inj (hr0.symm.trans hc)
      subst e0
      have e1 : r1 = (C0, T, N) := Option.some.inj (hr1.symm.trans hc)
      subst e1
      have hlt : j < fs.length := by have : fs.length = N := hlen; omega
      have hts : ∀ w ∈ pT, w.before args s = true := fun w hw => C.2.2.2.2.2.2.2.2.1 w hw args
      have hK := C.2.2.2.2.2.2.2.2.2.1
      have hap := va_apart (own := M.y.cls) hts hin ty0 hty hnm hK hc
      obtain ⟨cell, q1, q2, q3, q4⟩ := hat
      obtain ⟨hS, hfc, kC, hkC, hkind⟩ := hK.1 ci' _ hc
      obtain ⟨cf, kf, fi, f, hi, hsl⟩ := hS j hj
      have hlay := hts _ (hin _ (u_in_lay hj))
      unfold u_lay at hlay
      rw [if_neg (by rw [hfin]; decide)] at hlay
      have hst := (u_facts hfc hkC (u_lays hts hin hj) hi).1
      have h6 := u_store hfc hkC hkind hlay hi (hty j hj) hn hfit
      refine W.putK C.1 C.2.1 (f := f) ⟨C.2.2.2.1, hts _ hl, ⟨cf, kf, fi, by rw [h1] at hi; exact hi⟩, hst⟩ (by rw [q2]; exact h6) q1 q3 (by rw [hsl]; exact k2_hasslot (q4 j hj)) rfl rfl hd fun H' z1 z2 z3 => ?_
      rw [hsl] at z1 ⊢
      refine hk _ _ _ h p e s m args below meth c H' _ la C (R.put hB ⟨⟨_, hc, t_OB.to (V := updV (vp_V fs) j v) ⟨_, z1, q2, q3, t_set q4 hap hj v⟩ (fun i _ => vp_updV_set hlt v i)⟩, _, hc, ?_⟩ z2 z3) (S.put z2 z3 hB) L
      show (fs.set j v).length = N
      rw [List.length_set]; exact hlen
    · exact h.elim
  · exact h.elim
theorem s_putF {ci j idx : Nat} {C0 : String} {T : u_T} {N : Nat} {ty0 : Nat → FieldType} (hin : ∀ w ∈ u_ws C0 T N, w ∈ pT) (hty : ∀ k, k < N → parseFieldDescriptor (T k).2.2.1 = some (ty0 k)) (hnm : ∀ a, a < N → ∀ b, b < N → a ≠ b → (T a).2.1 ≠ (T b).2.1) (hc : vwCl[ci]? = some (C0, T, N)) (hj : j < N) (h1 : (T j).1 = C0) (hfin : (T j).2.2.2 = true) (hini : M.y.name = "<init>") (hown : C0 = M.y.cls) (hl : Cond.fieldLink M.y.cls idx C0 (T j).2.1 (T j).2.2.1 ∈ pT) (hd : decode M.cc pc = .ok (.putfield idx, 3)) (hk : pNext E M d Q (pc + 3) k) : pNext E M d Q pc (i_putf ci j (ty0 j) k) := by
  intro ls st σ h p e s m args below meth c H locs la C R S L
  unfold i_putf at h
  split at h
  · rename_i v a r
    split at h
    · rename_i x hx
      obtain ⟨ci', fs⟩ := x
      obtain ⟨rfl, hn, hfit, h⟩ := h
      obtain ⟨hB, ⟨r1, hr1, hat⟩, r0, hr0, hlen⟩ := R.2 a _ hx
      have e0 : r0 = (C0, T, N) := Option.some.inj (hr0.symm.trans hc)
      subst e0
      have e1 : r1 = (C0, T, N) := Option.some.inj (hr1.symm.trans hc)
      subst e1
      have hlt : j < fs.length := by have : fs.length = N := hlen; omega
      have hts : ∀ w ∈ pT, w.before args s = true := fun w hw => C.2.2.2.2.2.2.2.2.1 w hw args
      have hK := C.2.2.2.2.2.2.2.2.2.1
      have hap := va_apart (own := M.y.cls) hts hin ty0 hty hnm hK hc
      obtain ⟨cell, q1, q2, q3, q4⟩ := hat
      obtain ⟨hS, hfc, kC, hkC, hkind⟩ := hK.1 ci' _ hc
      obtain ⟨cf, kf, fi, f, hi, hsl⟩ := hS j hj
      have hlay := hts _ (hin _ (u_in_lay hj))
      unfold u_lay at hlay
      rw [if_pos hfin] at hlay
      have hst := (u_facts hfc hkC (u_lays hts hin hj) hi).1
      have hcf : m.cls = cf := by
        obtain ⟨_, _, c', _, _, _, -, -, hf', -, -, -, hown2, -⟩ := Cond.laysFinal_spec hlay
        have e1 : c' = cf := by have := hi.symm.trans hf'; simp at this; exact this.1.symm
        rw [h1, hown] at hown2
        rw [← e1]; exact Option.some.inj (C.2.2.2.1.symm.trans hown2)
      have h6 := u_fits hfc hkC hkind (Or.inr hlay) hi (hty j hj) hn hfit
      refine W.putFinK C.1 C.2.1 C.2.2.2.1 (hts _ hl) (by rw [h1] at hi; exact hi) hst hcf (C.2.2.2.2.2.2.2.1.trans hini) (by rw [q2]; exact h6) q1 q3 (by rw [hsl]; exact k2_hasslot (q4 j hj)) rfl rfl hd fun H' z1 z2 z3 => ?_
      rw [hsl] at z1 ⊢
      refine hk _ _ _ h p e s m args below meth c H' _ la C (R.put hB ⟨⟨_, hc, t_OB.to (V := updV (vp_V fs) j v) ⟨_, z1, q2, q3, t_set q4 hap hj v⟩ (fun i _ => vp_updV_set hlt v i)⟩, _, hc, ?_⟩ z2 z3) (S.put z2 z3 hB) L
      show (fs.set j v).length = N
      rw [List.length_set]; exact hlen
    · exact h.elim
  · exact h.elim
def i_iald (k : PK) : PK := fun ls st σ => match st with
  | .int i :: .ref a :: r => match σ.1 a with
    | some (.inl (.int, (n, .inl f))) => vp_in i n ∧ k ls (.int (f i.toNatClampNeg) :: r) σ
    | _ => False
  | _ => False
theorem s_iald (hd : decode M.cc pc = .ok (.iaload, 1)) (hk : pNext E M d Q (pc + 1) k) : pNext E M d Q pc (i_iald k) := by
  intro ls st σ h p e s m args below meth c H locs la C R S L
  unfold i_iald at h
  split at h
  · rename_i i a r
    split at h
    · rename_i n f hx
      obtain ⟨hin, h⟩ := h
      obtain ⟨hB, cA, hat, hA1, hA2⟩ := R.2 a _ hx
      have hlt : i.toNatClampNeg < n := Nat.not_le.mp fun q => hin (Or.inr q)
      exact W.iald (v := .int (f i.toNatClampNeg)) C.1 C.2.1 hat (hA1 n (fun j => .int (f j))) (fun q => by cases q) (by show ¬ (i < 0 ∨ (arrV _ _ _).slots.size ≤ _); rw [arrV_size]; exact hin) (by show (arrV _ _ _).slots[_]? = _; rw [arrV_read _ _ hlt]) rfl rfl hd (hk _ _ _ h p e s m args below meth c H locs la C R S L)
    · exact h.elim
  · exact h.elim
def i_bald (k : PK) : PK := fun ls st σ => match st with
  | .int i :: .ref a :: r => match σ.1 a with
    | some (.inl (.byte, (n, .inl f))) => vp_in i n ∧ k ls (.int (f i.toNatClampNeg) :: r) σ
    | _ => False
  | _ => False
theorem s_bald (hd : decode M.cc pc = .ok (.baload, 1)) (hk : pNext E M d Q (pc + 1) k) : pNext E M d Q pc (i_bald k) := by
  intro ls st σ h p e s m args below meth c H locs la C R S L
  unfold i_bald at h
  split at h
  · rename_i i a r
    split at h
    · rename_i n f hx
      obtain ⟨hin, h⟩ := h
      obtain ⟨hB, cA, hat, hA1, hA2⟩ := R.2 a _ hx
      have hlt : i.toNatClampNeg < n := Nat.not_le.mp fun q => hin (Or.inr q)
      exact W.bald (v := .int (f i.toNatClampNeg)) C.1 C.2.1 hat (hA1 n (fun j => .int (f j))) (fun q => by cases q) (by show ¬ (i < 0 ∨ (arrV _ _ _).slots.size ≤ _); rw [arrV_size]; exact hin) (by show (arrV _ _ _).slots[_]? = _; rw [arrV_read _ _ hlt]) rfl rfl hd (hk _ _ _ h p e s m args below meth c H locs la C R S L)
    · exact h.elim
  · exact h.elim
def i_lald (k : PK) : PK := fun ls st σ => match st with
  | .int i :: .ref a :: r => match σ.1 a with
    | some (.inl (.long, (n, .inr (.inl f)))) => vp_in i n ∧ k ls (.long (f i.toNatClampNeg) :: r) σ
    | _ => False
  | _ => False
theorem s_lald (hd : decode M.cc pc = .ok (.laload, 1)) (hk : pNext E M d Q (pc + 1) k) : pNext E M d Q pc (i_lald k) := by
  intro ls st σ h p e s m args below meth c H locs la C R S L
  unfold i_lald at h
  split at h
  · rename_i i a r
    split at h
    · rename_i n f hx
      obtain ⟨hin, h⟩ := h
      obtain ⟨hB, cA, hat, hA1, hA2⟩ := R.2 a _ hx
      have hlt : i.toNatClampNeg < n := Nat.not_le.mp fun q => hin (Or.inr q)
      exact W.lald (v := .long (f i.toNatClampNeg)) C.1 C.2.1 hat (hA1 n (fun j => .long (f j))) (fun q => by cases q) (by show ¬ (i < 0 ∨ (arrV _ _ _).slots.size ≤ _); rw [arrV_size]; exact hin) (by show (arrV _ _ _).slots[_]? = _; rw [arrV_read _ _ hlt]) rfl rfl hd (hk _ _ _ h p e s m args below meth c H locs la C R S L)
    · exact h.elim
  · exact h.elim
def i_aald (C0 : String) (k : PK) : PK := fun ls st σ => match st with
  | .int i :: .ref a :: r => match σ.1 a with
    | some (.inl (.object C1, (n, .inr (.inr (.inr (.inr f)))))) => C1 = C0 ∧ vp_in i n ∧ k ls (va_rf (f i.toNatClampNeg) :: r) σ
    | _ => False
  | _ => False
theorem s_aald {C0 : String} (hd : decode M.cc pc = .ok (.aaload, 1)) (hk : pNext E M d Q (pc + 1) k) : pNext E M d Q pc (i_aald C0 k) := by
  intro ls st σ h p e s m args below meth c H locs la C R S L
  unfold i_aald at h
  split at h
  · rename_i i a r
    split at h
    · rename_i C1 n f hx
      obtain ⟨rfl, hin, h⟩ := h
      obtain ⟨hB, cA, hat, hA1, hA2⟩ := R.2 a _ hx
      exact va_aldq C.1 C.2.1 (pK1 C.2.2.2.2.2.2.2.2.2.1 hA1 hA2) (pP1 (x := .inl (cA, n, .inr (.inr (.inr (.inr f))))) hat) 0 0 rfl rfl hin hd (hk _ _ _ h p e s m args below meth c H locs la C R S L)
    · exact h.elim
  · exact h.elim
def i_iast (k : PK) : PK := fun ls st σ => match st with
  | .int x :: .int i :: .ref a :: r => match σ.1 a with
    | some (.inl (.int, (n, .inl f))) => vp_in i n ∧ k ls r (pu σ.1 a (.inl (.int, (n, .inl (upd f i.toNatClampNeg x)))), σ.2)
    | _ => False
  | _ => False
theorem s_iast (hd : decode M.cc pc = .ok (.iastore, 1)) (hk : pNext E M d Q (pc + 1) k) : pNext E M d Q pc (i_iast k) := by
  intro ls st σ h p e s m args below meth c H locs la C R S L
  unfold i_iast at h
  split at h
  · rename_i x i a r
    split at h
    · rename_i n f hx
      obtain ⟨hin, h⟩ := h
      obtain ⟨hB, cA, hat, hA1, hA2⟩ := R.2 a _ hx
      refine W.iast C.1 C.2.1 hat (hA1 n (fun j => .int (f j))) (fun q => by cases q) (by show ¬ (i < 0 ∨ (arrV _ _ _).slots.size ≤ _); rw [arrV_size]; exact hin) rfl rfl hd fun H1 z1 z2 z3 => ?_
      refine hk _ _ _ h p e s m args below meth c H1 _ la C (R.put hB ⟨cA, ?_, hA1, hA2⟩ z2 z3) (S.put z2 z3 hB) L
      rw [z1]
      rw [vp_cell_i, vp_cell_i, arrV_store]
      congr 2
      funext q
      by_cases hq : q = i.toNatClampNeg
      · subst hq
        simp [updV, upd]
        try rfl
      · simp [updV, upd, hq]
    · exact h.elim
  · exact h.elim
def i_bast (k : PK) : PK := fun ls st σ => match st with
  | .int x :: .int i :: .ref a :: r => match σ.1 a with
    | some (.inl (.byte, (n, .inl f))) => vp_in i n ∧ k ls r (pu σ.1 a (.inl (.byte, (n, .inl (upd f i.toNatClampNeg (vp_nar .byte x))))), σ.2)
    | _ => False
  | _ => False
theorem s_bast (hd : decode M.cc pc = .ok (.bastore, 1)) (hk : pNext E M d Q (pc + 1) k) : pNext E M d Q pc (i_bast k) := by
  intro ls st σ h p e s m args below meth c H locs la C R S L
  unfold i_bast at h
  split at h
  · rename_i x i a r
    split at h
    · rename_i n f hx
      obtain ⟨hin, h⟩ := h
      obtain ⟨hB, cA, hat, hA1, hA2⟩ := R.2 a _ hx
      refine W.bast C.1 C.2.1 hat (hA1 n (fun j => .int (f j))) (fun q => by cases q) (by show ¬ (i < 0 ∨ (arrV _ _ _).slots.size ≤ _); rw [arrV_size]; exact hin) rfl rfl hd fun H1 z1 z2 z3 => ?_
      refine hk _ _ _ h p e s m args below meth c H1 _ la C (R.put hB ⟨cA, ?_, hA1, hA2⟩ z2 z3) (S.put z2 z3 hB) L
      rw [z1]
      rw [vp_cell_i, vp_cell_i, arrV_store]
      congr 2
      funext q
      by_cases hq : q = i.toNatClampNeg
      · subst hq
        simp [updV, upd, vp_nar]
        try rfl
      · simp [updV, upd, vp_nar, hq]
    · exact h.elim
  · exact h.elim
def i_last (k : PK) : PK := fun ls st σ => match st with
  | .long x :: .int i :: .ref a :: r => match σ.1 a with
    | some (.inl (.long, (n, .inr (.inl f)))) => vp_in i n ∧ k ls r (pu σ.1 a (.inl (.long, (n, .inr (.inl (vp_updL f i.toNatClampNeg x))))), σ.2)
    | _ => False
  | _ => False
theorem s_last (hd : decode M.cc pc = .ok (.lastore, 1)) (hk : pNext E M d Q (pc + 1) k) : pNext E M d Q pc (i_last k) := by
  intro ls st σ h p e s m args below meth c H locs la C R S L
  unfold i_last at h
  split at h
  · rename_i x i a r
    split at h
    · rename_i n f hx
      obtain ⟨hin, h⟩ := h
      obtain ⟨hB, cA, hat, hA1, hA2⟩ := R.2 a _ hx
      refine W.last C.1 C.2.1 hat (hA1 n (fun j => .long (f j))) (fun q => by cases q) (by show ¬ (i < 0 ∨ (arrV _ _ _).slots.size ≤ _); rw [arrV_size]; exact hin) rfl rfl hd fun H1 z1 z2 z3 => ?_
      refine hk _ _ _ h p e s m args below meth c H1 _ la C (R.put hB ⟨cA, ?_, hA1, hA2⟩ z2 z3) (S.put z2 z3 hB) L
      rw [z1]
      rw [vp_cell_l, vp_cell_l, arrV_store]
      congr 2
      funext q
      by_cases hq : q = i.toNatClampNeg
      · subst hq
        simp [updV, vp_updL]
        try rfl
      · simp [updV, vp_updL, hq]
    · exact h.elim
  · exact h.elim
def i_aast (ci : Nat) (C0 : String) (k : PK) : PK := fun ls st σ => match st with
  | .ref v :: .int i :: .ref a :: r => match σ.1 a with
    | some (.inl (.object C1, (n, .inr (.inr (.inr (.inr f)))))) => C1 = C0 ∧ vp_in i n ∧ (match σ.1 v with | some (.inr x) => x.1 = ci | _ => False) ∧ k ls r (pu σ.1 a (.inl (.object C0, (n, .inr (.inr (.inr (.inr (va_up f i.toNatClampNeg (some v)))))))), σ.2)
    | _ => False
  | _ => False
theorem s_aast {ci : Nat} {r0 : vw_C} (hc : vwCl[ci]? = some r0) (hd : decode M.cc pc = .ok (.aastore, 1)) (hk : pNext E M d Q (pc + 1) k) : pNext E M d Q pc (i_aast ci r0.1 k) := by
  intro ls st σ h p e s m args below meth c H locs la C R S L
  unfold i_aast at h
  split at h
  · rename_i v i a r
    split at h
    · rename_i C1 n f hx
      obtain ⟨rfl, hin, hv, h⟩ := h
      split at hv
      · rename_i xv hxv
        obtain ⟨ci', fs⟩ := xv
        subst hv
        obtain ⟨hB, cA, hat, hA1, hA2⟩ := R.2 a _ hx
        obtain ⟨hBv, ⟨rv, hrv, cellV, g1, g2, g3, -⟩, -⟩ := R.2 v _ hxv
        have hK := C.2.2.2.2.2.2.2.2.2.1
        have hlt : i.toNatClampNeg < n := Nat.not_le.mp fun q => hin (Or.inr q)
        have h0 : ¬ i < 0 := fun q => hin (Or.inl q)
        have hcls := (hK.1 ci' _ hc).2
        obtain ⟨kA, comp, k1, k2, k3, -⟩ := id hA2
        have hcomp : comp = E.D.1 ci' := Option.some.inj (k3.symm.trans hcls.1)
        subst hcomp
        obtain ⟨kC, hkC, -⟩ := id hcls.2
        refine W.aast C.1 C.2.1 hat (fun q h => by cases h) (fun h => by cases h) k1 k2 rfl hkC ⟨h0, by show _ < (arrV _ _ _).slots.size; rw [arrV_size]; exact hlt⟩ g1 (fun q h => by rw [g3] at h; cases h) (by rw [g2]; exact hkC) (by rw [g2]; exact va_assign hcls) rfl rfl hd fun H1 z1 z2 z3 => ?_
        refine hk _ _ _ h p e s m args below meth c H1 _ la C (R.put hB ⟨cA, ?_, hA1, hA2⟩ z2 z3) (S.put z2 z3 hB) L
        rw [z1]
        rw [vp_cell_q, vp_cell_q, arrV_store]
        congr 2
        funext q
        by_cases hq : q = i.toNatClampNeg
        · subst hq
          simp [updV, va_up, va_rf]
        · simp [updV, va_up, hq]
      · exact hv.elim
    · exact h.elim
  · exact h.elim
def i_alen (k : PK) : PK := fun ls st σ => match st with
  | .ref a :: r => match σ.1 a with
    | some (.inl x) => k ls (.int (Int32.ofNat x.2.1) :: r) σ
    | _ => False
  | _ => False
theorem s_alen (hd : decode M.cc pc = .ok (.arraylength, 1)) (hk : pNext E M d Q (pc + 1) k) : pNext E M d Q pc (i_alen k) := by
  intro ls st σ h p e s m args below meth c H locs la C R S L
  unfold i_alen at h
  split at h
  · rename_i a r
    split at h
    · rename_i x hx
      obtain ⟨hB, cA, hat, hA1, hA2⟩ := R.2 a _ hx
      exact va_alen C.1 C.2.1 (pK1 C.2.2.2.2.2.2.2.2.2.1 hA1 hA2) (pP1 (x := .inl (cA, x.2)) hat) 0 0 rfl rfl rfl hd (hk _ _ _ h p e s m args below meth c H locs la C R S L)
    · exact h.elim
  · exact h.elim
def i_iret (mc ms : Nat) (Q : PQ) : PK := fun _ st σ => match st with
  | [.int v] => σ.2.2.1 ≤ mc ∧ σ.2.2.2 ≤ ms ∧ Q (.inl (some (.int v))) σ.1 σ.2.1
  | _ => False
theorem s_iret (hr : M.ret = some .int) (hd : decode M.cc pc = .ok (.ireturn, 1)) : pNext E M d Q pc (i_iret M.mc M.ms Q) := by
  intro ls st σ h p e s m args below meth c H locs la C R S L
  unfold i_iret at h
  split at h
  · rename_i v
    exact W.widen h.1 h.2.1 (vx_ret (W.iret C.1 C.2.1 (C.2.2.2.2.1.trans hr) (fun t ht hW => ⟨_, _, _, rfl, by rw [ht]; exact R.moved hW.alike, pF ht S, h.2.2⟩) S.2.2 hd C.2.2.2.2.2.1))
  · exact h.elim
def i_zret (mc ms : Nat) (Q : PQ) : PK := fun _ st σ => match st with
  | [.int v] => (v = 0 ∨ v = 1) ∧ σ.2.2.1 ≤ mc ∧ σ.2.2.2 ≤ ms ∧ Q (.inl (some (.int v))) σ.1 σ.2.1
  | _ => False
theorem s_zret (hr : M.ret = some .boolean) (hd : decode M.cc pc = .ok (.ireturn, 1)) : pNext E M d Q pc (i_zret M.mc M.ms Q) := by
  intro ls st σ h p e s m args below meth c H locs la C R S L
  unfold i_zret at h
  split at h
  · rename_i v
    obtain ⟨hv, h1, h2, h3⟩ := h
    exact W.widen h1 h2 (vx_ret (W.zret C.1 C.2.1 (C.2.2.2.2.1.trans hr) (by rcases hv with rfl | rfl <;> rfl) (fun t ht hW => ⟨_, _, _, rfl, by rw [ht]; exact R.moved hW.alike, pF ht S, h3⟩) S.2.2 hd C.2.2.2.2.2.1))
  · exact h.elim
def i_aret (mc ms : Nat) (Q : PQ) : PK := fun _ st σ => match st with
  | [.ref a] => σ.2.2.1 ≤ mc ∧ σ.2.2.2 ≤ ms ∧ Q (.inl (some (.ref a))) σ.1 σ.2.1
  | _ => False
theorem s_aret {rt : FieldType} (hr : M.ret = some rt) (hrt : (∃ n, rt = .object n) ∨ ∃ t, rt = .array t) (hd : decode M.cc pc = .ok (.areturn, 1)) : pNext E M d Q pc (i_aret M.mc M.ms Q) := by
  intro ls st σ h p e s m args below meth c H locs la C R S L
  unfold i_aret at h
  split at h
  · rename_i v
    exact W.widen h.1 h.2.1 (vx_ret (W.aret C.1 C.2.1 (C.2.2.2.2.1.trans hr) hrt (Or.inr ⟨_, rfl⟩) (fun t ht hW => ⟨_, _, _, rfl, by rw [ht]; exact R.moved hW.alike, pF ht S, h.2.2⟩) S.2.2 hd C.2.2.2.2.2.1))
  · exact h.elim
def i_vret (mc ms : Nat) (Q : PQ) : PK := fun _ st σ => match st with
  | [] => σ.2.2.1 ≤ mc ∧ σ.2.2.2 ≤ ms ∧ Q (.inl none) σ.1 σ.2.1
  | _ => False
theorem s_vret (hr : M.ret = none) (hd : decode M.cc pc = .ok (.return_, 1)) : pNext E M d Q pc (i_vret M.mc M.ms Q) := by
  intro ls st σ h p e s m args below meth c H locs la C R S L
  unfold i_vret at h
  split at h
  · exact W.widen h.1 h.2.1 (vx_ret (W.vret C.1 C.2.1 (C.2.2.2.2.1.trans hr) (fun t ht hW => ⟨_, _, _, rfl, by rw [ht]; exact R.moved hW.alike, pF ht S, h.2.2⟩) S.2.2 hd C.2.2.2.2.2.1))
  · exact h.elim
end MEM

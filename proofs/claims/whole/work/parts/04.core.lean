/-! THE PURE LAYER: a heap of cells by their addresses, and what the machine holds of it -/
abbrev PC : Type := (FieldType × vp_A) ⊕ (Nat × List Value)
abbrev PH : Type := Nat → Option PC
abbrev PS : Type := PH × Nat × Nat × Nat
abbrev PO : Type := Option Value ⊕ String
abbrev PQ : Type := PO → PH → Nat → Prop
abbrev PL : Type := List (Option Value)
abbrev PK : Type := PL → List Value → PS → Prop
/-- launch, class numbers, the first address that is ours, where a string constant lies, its bytes -/
abbrev PE : Type := Launch × va_G × Nat × (String → Nat → Nat) × (Nat → Option (Nat × List Int32)) × Nat × Nat × (Nat → Int32)
abbrev PE.l (E : PE) : Launch := E.1
abbrev PE.D (E : PE) : va_G := E.2.1
abbrev PE.B (E : PE) : Nat := E.2.2.1
abbrev PE.sa (E : PE) : String → Nat → Nat := E.2.2.2.1
abbrev PE.sb (E : PE) : Nat → Option (Nat × List Int32) := E.2.2.2.2.1
/-- the script: its cell, its length, its ints -/
abbrev PE.sc (E : PE) : Nat × Nat × (Nat → Int32) := E.2.2.2.2.2
/-- a method: name, code, locals, what it returns, cells and slots that it may make -/
abbrev PM : Type := MethodName × ByteArray × Nat × Option FieldType × Nat × Nat × List (Nat × Nat × Nat × Nat)
abbrev PM.y (M : PM) : MethodName := M.1
abbrev PM.cc (M : PM) : ByteArray := M.2.1
abbrev PM.nL (M : PM) : Nat := M.2.2.1
abbrev PM.ret (M : PM) : Option FieldType := M.2.2.2.1
abbrev PM.mc (M : PM) : Nat := M.2.2.2.2.1
abbrev PM.ms (M : PM) : Nat := M.2.2.2.2.2.1
abbrev PM.hh (M : PM) : List (Nat × Nat × Nat × Nat) := M.2.2.2.2.2.2
def pu (h : PH) (a : Nat) (c : PC) : PH := fun q => if q = a then some c else h q
theorem pu_eq (h : PH) (a : Nat) (c : PC) : pu h a c a = some c := if_pos rfl
theorem pu_ne {h : PH} {a q : Nat} {c : PC} (hq : q ≠ a) : pu h a c q = h q := if_neg hq
abbrev pA (E : PE) : Nat → Prop := fun q => E.B ≤ q
def pAt (E : PE) (U : State) (a : Nat) (c : PC) (H : Heap) : Prop := match c with
  | .inl x => ∃ cA : ClassId, H[a]? = some (vp_cell cA x.2) ∧ ArrOfT U cA x.1 ∧ va_RA U cA x.1
  | .inr o => va_at E.D vwCl (a, .inr o) H ∧ ∃ r : vw_C, vwCl[o.1]? = some r ∧ o.2.length = r.2.2
def pRep (E : PE) (U : State) (h : PH) (n : Nat) (H : Heap) : Prop := H.size = n ∧ ∀ (a : Nat) (c : PC), h a = some c → E.B ≤ a ∧ pAt E U a c H
theorem pAt.kept {E : PE} {U : State} {a : Nat} {c : PC} {H H1 : Heap} (h : pAt E U a c H) (hq : H1[a]? = H[a]?) : pAt E U a c H1 := by
  cases c with
  | inl x => obtain ⟨cA, h1, h2, h3⟩ := h; exact ⟨cA, by rw [hq]; exact h1, h2, h3⟩
  | inr o => exact ⟨h.1.kept hq, h.2⟩
theorem pAt.moved {E : PE} {u U : State} (hvm : u.vm.Alike U.vm) {a : Nat} {c : PC} {H : Heap} (h : pAt E u a c H) : pAt E U a c H := by
  cases c with
  | inl x => obtain ⟨cA, h1, h2, h3⟩ := h; exact ⟨cA, h1, arrOfT_moved hvm h2, h3.moved hvm⟩
  | inr o => exact h
theorem pAt.lt {E : PE} {U : State} {a : Nat} {c : PC} {H : Heap} (h : pAt E U a c H) : a < H.size := by
  cases c with
  | inl x => obtain ⟨cA, h1, -⟩ := h; exact (Array.getElem?_eq_some_iff.mp h1).1
  | inr o => exact h.1.lt
theorem pRep.moved {E : PE} {u U : State} (hvm : u.vm.Alike U.vm) {h : PH} {n : Nat} {H : Heap} (k : pRep E u h n H) : pRep E U h n H := ⟨k.1, fun a c e => ⟨(k.2 a c e).1, (k.2 a c e).2.moved hvm⟩⟩
theorem pRep.none {E : PE} {U : State} {h : PH} {n : Nat} {H : Heap} (k : pRep E U h n H) {a : Nat} (ha : n ≤ a) : h a = Option.none := by
  cases e : h a with
  | none => rfl
  | some c => have := (k.2 a c e).2.lt; rw [k.1] at this; omega
/-- one cell has changed -/
theorem pRep.put {E : PE} {U : State} {h : PH} {n : Nat} {H H1 : Heap} (k : pRep E U h n H) {a : Nat} {c : PC} (hB : E.B ≤ a) (hc : pAt E U a c H1) (hz : H1.size = H.size) (ho : ∀ q : Nat, q ≠ a → H1[q]? = H[q]?) : pRep E U (pu h a c) n H1 := by
  refine ⟨hz.trans k.1, fun q d e => ?_⟩
  by_cases hq : q = a
  · subst hq
    rw [pu_eq] at e
    cases e
    exact ⟨hB, hc⟩
  · rw [pu_ne hq] at e
    exact ⟨(k.2 q d e).1, (k.2 q d e).2.kept (ho q hq)⟩
/-- one cell is new -/
theorem pRep.push {E : PE} {U : State} {h : PH} {n : Nat} {H H1 : Heap} (k : pRep E U h n H) {c : PC} (hB : E.B ≤ n) (hc : pAt E U n c H1) (hz : H1.size = n + 1) (ho : ∀ q : Nat, q < n → H1[q]? = H[q]?) : pRep E U (pu h n c) (n + 1) H1 := by
  refine ⟨hz, fun q d e => ?_⟩
  by_cases hq : q = n
  · subst hq
    rw [pu_eq] at e
    cases e
    exact ⟨hB, hc⟩
  · rw [pu_ne hq] at e
    have hl := (k.2 q d e).2.lt
    rw [k.1] at hl
    exact ⟨(k.2 q d e).1, (k.2 q d e).2.kept (ho q hl)⟩
theorem pRep.grow {E : PE} {U : State} {h : PH} {n : Nat} {H H1 : Heap} (k : pRep E U h n H) (hz : H.size ≤ H1.size) (ho : ∀ q : Nat, q < H.size → H1[q]? = H[q]?) : pRep E U h H1.size H1 :=
  ⟨rfl, fun a c e => ⟨(k.2 a c e).1, (k.2 a c e).2.kept (ho a (k.2 a c e).2.lt)⟩⟩
/-- a string of bytes at a -/
def pStr (E : PE) (a v : Nat) (bs : List Int32) (U : State) (H : Heap) : Prop := va_O "java/lang/String" a (pA E) U H ∧ va_OF "java/lang/String" "coder" "B" (.int 0) a (pA E) U H ∧ va_OF "java/lang/String" "value" "[B" (.ref v) a (pA E) U H ∧ va_T .byte v bs.length (fun j => .int (bs.getD j 0)) (pA E) U H
def pNC : List (String × String) := [("java/lang/UnsupportedOperationException", "java/lang/IllegalArgumentException"), ("java/lang/IndexOutOfBoundsException", "java/lang/IllegalArgumentException"), ("java/util/NoSuchElementException", "java/lang/IllegalArgumentException"), ("java/lang/IllegalStateException", "java/lang/IllegalArgumentException"), ("java/lang/IllegalArgumentException", "java/lang/UnsupportedOperationException"), ("java/lang/IndexOutOfBoundsException", "java/lang/UnsupportedOperationException"), ("java/util/NoSuchElementException", "java/lang/UnsupportedOperationException"), ("java/lang/IllegalStateException", "java/lang/UnsupportedOperationException"), ("java/lang/IllegalArgumentException", "java/lang/IndexOutOfBoundsException"), ("java/lang/UnsupportedOperationException", "java/lang/IndexOutOfBoundsException"), ("java/util/NoSuchElementException", "java/lang/IndexOutOfBoundsException"), ("java/lang/IllegalStateException", "java/lang/IndexOutOfBoundsException"), ("java/lang/IllegalArgumentException", "java/util/NoSuchElementException"), ("java/lang/UnsupportedOperationException", "java/util/NoSuchElementException"), ("java/lang/IndexOutOfBoundsException", "java/util/NoSuchElementException"), ("java/lang/IllegalStateException", "java/util/NoSuchElementException"), ("java/lang/IllegalArgumentException", "java/lang/IllegalStateException"), ("java/lang/UnsupportedOperationException", "java/lang/IllegalStateException"), ("java/lang/IndexOutOfBoundsException", "java/lang/IllegalStateException"), ("java/util/NoSuchElementException", "java/lang/IllegalStateException")]
def pCtx (E : PE) (U : State) : Prop :=
  (∀ w ∈ pT, ∀ A : Array Value, w.before A U = true) ∧ va_K E.D vwCl [] U ∧ E.B ≤ U.heap.size ∧
  (∀ own i y h, Cond.methodLinkNest own i y h ∈ lw_tbl → va_Nw (.methodLinkNest own i y h) U) ∧
  (∀ own k tx, Cond.stringRef own k tx ∈ lw_tbl → vk_R own k tx (E.sa own k) U) ∧
  (∀ C T, Cond.castable C T ∈ lw_tbl → va_Nw (.castable C T) U) ∧
  (∀ x, Cond.declares x ∈ lw_tbl → va_Nw (.declares x) U) ∧
  (∀ C, Cond.arrayOver (.object C) ∈ lw_tbl → va_AO C U) ∧
  (∀ q ∈ pNC, va_Nc q.1 q.2 U) ∧
  (∀ a v bs, E.sb a = some (v, bs) → pStr E a v bs U U.heap) ∧
  vx_Zq Bundle.tN "UNASSIGNED_STACK" Bundle.steD (pA E) U U.heap ∧ vx_Zq Bundle.tN "SUPPRESSED_SENTINEL" Bundle.listD (pA E) U U.heap ∧
  (va_Z "java/lang/String" "COMPACT_STRINGS" "Z" (.int 1) (pA E) U U.heap ∧ va_Zq "jdk/internal/util/Preconditions" "SIOOBE_FORMATTER" "Ljava/util/function/BiFunction;" (pA E) U U.heap) ∧
  (va_X E.sc.1 E.sc.2.1 E.sc.2.2 U U.heap ∧ E.sc.1 < U.heap.size ∧ ¬ pA E E.sc.1) ∧
  E.l.stackTraces = false
theorem pT_good {w : Cond} (h : w ∈ pT) : goodWord w = true := (List.mem_filter.mp h).2
theorem pCtx.move {E : PE} {s U : State} (h : pCtx E s) (hW : s.WarmedH U.vm) (hz : s.heap.size ≤ U.heap.size) (hq : ∀ a : Nat, a < s.heap.size → ¬ pA E a → U.heap[a]? = s.heap[a]?) : pCtx E U := by
  obtain ⟨h1, h2, h3, h4, h5, h6, h7, h8, h9, h10, h11, h12, h13, h15, h14⟩ := h
  refine ⟨fun w hw A => word_at hW (good_of_word (pT_good hw)) (h1 w hw A), va_K.moved hW.alike h2, Nat.le_trans h3 hz, fun own i y h hw => va_Nw.warmM hW (h4 own i y h hw), fun own k tx hw => vk_R.warm hW (h5 own k tx hw), fun C T hw => va_Nw.warmC hW (h6 C T hw), fun x hw => va_Nw.warmD hW (h7 x hw), fun C hw => va_AO.moved hW.alike (h8 C hw), fun q hw => va_Nc.moved hW.alike (h9 q hw), fun a v bs hb => ?_, vx_Zq.moved hW.alike (h11.kept hq), vx_Zq.moved hW.alike (h12.kept hq), ⟨va_Z.moved hW.alike (h13.1.kept hq), va_Zq.moved hW.alike (h13.2.kept hq)⟩, ⟨va_X.moved hW.alike (h15.1.kept (hq _ h15.2.1 h15.2.2)), Nat.lt_of_lt_of_le h15.2.1 hz, h15.2.2⟩, h14⟩
  obtain ⟨q1, q2, q3, q4⟩ := h10 a v bs hb
  exact ⟨va_O.moved hW.alike (q1.kept hq), va_OF.moved hW.alike (q2.kept hq), va_OF.moved hW.alike (q3.kept hq), va_T.moved hW.alike (q4.kept hq)⟩
theorem pCtx.blind {E : PE} {U : State} (h : pCtx E U) (g : JFrame) (mk : MethodId) (a : Array Value) : pCtx E (U.calling g mk a) := h.move (State.WarmedH.refl U) (Nat.le_refl _) (fun _ _ _ => rfl)
/-! locals -/
def pPairs (ls : PL) : List (Nat × Value) := ls.zipIdx.filterMap (fun q => q.1.map (fun v => (q.2, v)))
theorem pPairs_mem {ls : PL} {i : Nat} {v : Value} : (i, v) ∈ pPairs ls ↔ ls[i]? = some (some v) := by
  constructor
  · intro h
    obtain ⟨⟨o, j⟩, h1, h2⟩ := List.mem_filterMap.mp h
    cases o with
    | none => cases h2
    | some w =>
      simp only [Option.map_some, Option.some.injEq, Prod.mk.injEq] at h2
      obtain ⟨rfl, rfl⟩ := h2
      exact List.mk_mem_zipIdx_iff_getElem?.mp h1
  · intro h
    exact List.mem_filterMap.mpr ⟨(some v, i), List.mk_mem_zipIdx_iff_getElem?.mpr h, rfl⟩
def pLs (la : Array Slot) (n : Nat) (ls : PL) : Prop := ls.length = n ∧ lv_has la n (pPairs ls) ∧ ∀ (i : Nat) (v : Value), ls[i]? = some (some v) → v.category = 1
theorem pLs.get {la : Array Slot} {n : Nat} {ls : PL} (h : pLs la n ls) {i : Nat} {v : Value} (e : ls[i]? = some (some v)) : la[i]? = some (.val v) := h.2.1.2.2 (i, v) (pPairs_mem.mpr e)
theorem pLs.size {la : Array Slot} {n : Nat} {ls : PL} (h : pLs la n ls) : la.size = n := h.2.1.1
theorem pLs.put {la la' : Array Slot} {n : Nat} {ls : PL} (h : pLs la n ls) {i : Nat} {v : Value} (hi : i < n) (hv : v.category = 1) (h' : lv_has la' n ((i, v) :: (pPairs ls).filter (fun q => !(q.1 == i) && !(q.1 + 1 == i && q.2.category == 2)))) : pLs la' n (ls.set i (some v)) := by
  have key : ∀ (j : Nat) (w : Value), (ls.set i (some v))[j]? = some (some w) → (j = i ∧ w = v) ∨ (j ≠ i ∧ ls[j]? = some (some w)) := by
    intro j w e
    rw [List.getElem?_set] at e
    by_cases hj : i = j
    · subst hj
      rw [if_pos rfl, if_pos (by rw [h.1]; exact hi)] at e
      cases e
      exact Or.inl ⟨rfl, rfl⟩
    · rw [if_neg hj] at e
      exact Or.inr ⟨fun q => hj q.symm, e⟩
  refine ⟨by rw [List.length_set]; exact h.1, ⟨h'.1, h'.2.1, fun q hq => ?_⟩, fun j w e => ?_⟩
  · obtain ⟨j, w⟩ := q
    rcases key j w (pPairs_mem.mp hq) with ⟨rfl, rfl⟩ | ⟨hj, e⟩
    · exact h'.2.2 _ List.mem_cons_self
    · refine h'.2.2 (j, w) (List.mem_cons_of_mem _ (List.mem_filter.mpr ⟨pPairs_mem.mpr e, ?_⟩))
      have hc := h.2.2 j w e
      simp [hj, hc]
  · rcases key j w e with ⟨rfl, rfl⟩ | ⟨-, e⟩
    · exact hv
    · exact h.2.2 j w e
/-! the judgement -/
def pRoom (d mc ms : Nat) : Room := { frames := d + 12, cells := mc, slots := ms, locals := (d + 12) * 60 }
def pQc (E : PE) (Q : PQ) : Array Value → State → Outcome → State → Prop := fun _ st o t => ∃ (v : Option Value) (h : PH) (n : Nat), o = .returned v ∧ pRep E t h n t.heap ∧ va_F (pA E) st t ∧ Q (.inl v) h n
def pXc (E : PE) (Q : PQ) : String → State → State → Prop := fun X st t => ∃ (h : PH) (n : Nat), pRep E t h n t.heap ∧ va_F (pA E) st t ∧ Q (.inr X) h n
def pCx (E : PE) (M : PM) (p : Program) (s : State) (m : MethodId) (meth : Method) (c : Code) : Prop :=
  p.tables.exec = Jvm.exec ∧ c.code = M.cc ∧ c.maxLocals = M.nL ∧ s.vm.findClass M.y.cls = some m.cls ∧ meth.sig.returnType = M.ret ∧ meth.locks = false ∧ c.exceptionTable.toList = tableOf M.hh ∧ meth.name = M.y.name ∧ pCtx E s
def PW (E : PE) (M : PM) (d : Nat) (Q : PQ) (pc : Nat) : PK := fun ls st σ =>
  ∀ (p : Program) (e : Env) (s : State) (m : MethodId) (args : Array Value) (below : List Frame) (meth : Method) (c : Code) (H : Heap) (locs : List Loc) (la : Array Slot),
    pCx E M p s m meth c → pRep E s σ.1 σ.2.1 H → va_S (pA E) s.heap H locs → pLs la M.nL ls →
    W p E.l e (pRoom d M.mc M.ms) s m args below meth c H locs σ.2.2.1 σ.2.2.2 (vx_MQ below (pQc E Q) (pXc E Q) args s M.mc M.ms (pA E)) (F0 m pc la st)
def pCall (E : PE) (M : PM) (d : Nat) (as : List Value) (h : PH) (n : Nat) (Q : PQ) : Prop :=
  vx_Met E.l M.y [Cond.code M.y M.cc M.nL M.ret] (pRoom d M.mc M.ms) (va_Pc as (fun U => pCtx E U ∧ pRep E U h n U.heap)) (pQc E Q) (pXc E Q) M.mc M.ms (pA E)
def pEntry (n : Nat) (as : List Value) : PL := as.map some ++ List.replicate (n - as.length) none
theorem pEntry_ls {as : List Value} {n : Nat} (h1 : as.length ≤ n) (h2 : ∀ v ∈ as, v.category = 1) : pLs ((lg_sl as ++ List.replicate (n - (lg_sl as).length) Slot.unset).toArray) n (pEntry n as) := by
  have hl : ∀ l : List Value, (∀ v ∈ l, v.category = 1) → lg_sl l = l.map Slot.val := by
    intro l hl
    induction l with
    | nil => rfl
    | cons a r ih =>
      have ha := hl a List.mem_cons_self
      have := ih (fun v hv => hl v (List.mem_cons_of_mem _ hv))
      show (if a.category = 2 then [Slot.val a, Slot.second] else [Slot.val a]) ++ lg_sl r = _
      rw [if_neg (by omega), this]
      rfl
  have hlen : (lg_sl as).length = as.length := by rw [hl as h2, List.length_map]
  have hE := lv_entry as (n := n) (by rw [hlen]; exact h1)
  refine ⟨by simp [pEntry]; omega, ⟨hE.1, hE.2.1, fun q hq => ?_⟩, fun i v e => ?_⟩
  · obtain ⟨i, v⟩ := q
    have e := pPairs_mem.mp hq
    unfold pEntry at e
    by_cases hi : i < as.length
    · rw [List.getElem?_append_left (by simpa using hi)] at e
      simp only [List.getElem?_map, Option.map_eq_some_iff, Option.some.injEq] at e
      obtain ⟨w, e1, rfl⟩ := e
      rw [hl as h2]
      simp [List.getElem?_append_left, hi, (List.getElem?_eq_some_iff.mp e1).2]
    · rw [List.getElem?_append_right (by simpa using hi)] at e
      have := List.mem_of_getElem? e
      rw [List.mem_replicate] at this
      cases this.2
  · unfold pEntry at e
    by_cases hi : i < as.length
    · rw [List.getElem?_append_left (by simpa using hi)] at e
      simp only [List.getElem?_map, Option.map_eq_some_iff, Option.some.injEq] at e
      obtain ⟨w, e1, rfl⟩ := e
      exact h2 w (List.mem_of_getElem? e1)
    · rw [List.getElem?_append_right (by simpa using hi)] at e
      have := List.mem_of_getElem? e
      rw [List.mem_replicate] at this
      cases this.2
theorem pNoTab {E : PE} {M : PM} {p : Program} {s : State} {m : MethodId} {meth : Method} {c : Code} {pc : Nat} (hh : M.hh = []) (C : pCx E M p s m meth c) : ∀ x ∈ c.exceptionTable.toList, covers x pc = false := by
  intro x hx
  rw [C.2.2.2.2.2.2.1, hh] at hx
  cases hx
theorem pCall_of {E : PE} {M : PM} {d : Nat} {as : List Value} {h : PH} {n : Nat} {Q : PQ} (hh : M.hh = []) (hy : plainName M.y.cls = true) (h1 : as.length ≤ M.nL) (h2 : ∀ v ∈ as, v.category = 1) (k : PW E M d Q 0 (pEntry M.nL as) [] (h, n, 0, 0)) : pCall E M d as h n Q := by
  refine vx_ofW (cc := M.cc) (maxL := M.nL) (ret := M.ret) hy rfl ?_
  intro p e s m args below meth c s₁ B hml ht hP
  obtain ⟨rfl, hcx, hrep⟩ := hP
  rw [lg_entry_eq]
  refine k p e s m _ below meth c s.heap [] _ ⟨B.exec, B.bytes, hml, findClass_of_methodNamed B.named, B.returns, B.notSynchronized, by rw [hh]; exact List.eq_nil_iff_forall_not_mem.mpr ht, ?_, hcx⟩ hrep va_S.rf (pEntry_ls h1 h2)
  exact (name_of_methodNamed B.named B.method).1

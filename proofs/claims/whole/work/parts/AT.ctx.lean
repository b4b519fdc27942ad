/-! what holds at the law's entry -/
section CTX
variable {s : State} {A : Array Value}
theorem cx_classes (hts : ∀ w ∈ pT, w.before A s = true) : ∃ (dC : Nat → ClassId) (dI : Nat → Nat → Nat), ∀ (k : Nat) (q : vw_C), vwCl[k]? = some q → u_Kn s q.1 q.2.1 q.2.2 (dC k) (dI k) := by
  have h : ∀ k : Nat, ∃ z : ClassId × (Nat → Nat), ∀ q : vw_C, vwCl[k]? = some q → u_Kn s q.1 q.2.1 q.2.2 z.1 z.2 := by
    intro k
    match k with
    | 0 => obtain ⟨c, iS, hh⟩ := u_known (ws := pT) (C := RX0) (T := TX0) (N := 9) (n := 9) hts hin_X0 (hts _ w_226); exact ⟨(c, iS), fun q hq => by cases hq; exact hh⟩
    | 1 => obtain ⟨c, iS, hh⟩ := u_known (ws := pT) (C := RX1) (T := TX1) (N := 1) (n := 1) hts hin_X1 (hts _ w_196); exact ⟨(c, iS), fun q hq => by cases hq; exact hh⟩
    | 2 => obtain ⟨c, iS, hh⟩ := u_known (ws := pT) (C := RX2) (T := TX2) (N := 4) (n := 4) hts hin_X2 (hts _ w_232); exact ⟨(c, iS), fun q hq => by cases hq; exact hh⟩
    | 3 => obtain ⟨c, iS, hh⟩ := u_known (ws := pT) (C := RX3) (T := TX3) (N := 3) (n := 3) hts hin_X3 (hts _ w_560); exact ⟨(c, iS), fun q hq => by cases hq; exact hh⟩
    | 4 => obtain ⟨c, iS, hh⟩ := u_known (ws := pT) (C := RX4) (T := TX4) (N := 4) (n := 4) hts hin_X4 (hts _ w_206); exact ⟨(c, iS), fun q hq => by cases hq; exact hh⟩
    | 5 => obtain ⟨c, iS, hh⟩ := u_known (ws := pT) (C := RX5) (T := TX5) (N := 3) (n := 3) hts hin_X5 (hts _ w_345); exact ⟨(c, iS), fun q hq => by cases hq; exact hh⟩
    | 6 => obtain ⟨c, iS, hh⟩ := u_known (ws := pT) (C := RX6) (T := TX6) (N := 3) (n := 3) hts hin_X6 (hts _ w_405); exact ⟨(c, iS), fun q hq => by cases hq; exact hh⟩
    | 7 => obtain ⟨c, iS, hh⟩ := u_known (ws := pT) (C := RX7) (T := TX7) (N := 4) (n := 4) hts hin_X7 (hts _ w_258); exact ⟨(c, iS), fun q hq => by cases hq; exact hh⟩
    | 8 => obtain ⟨c, iS, hh⟩ := u_known (ws := pT) (C := RX8) (T := TX8) (N := 9) (n := 9) hts hin_X8 (hts _ w_287); exact ⟨(c, iS), fun q hq => by cases hq; exact hh⟩
    | 9 => obtain ⟨c, iS, hh⟩ := u_known (ws := pT) (C := RX9) (T := TX9) (N := 10) (n := 10) hts hin_X9 (hts _ w_425); exact ⟨(c, iS), fun q hq => by cases hq; exact hh⟩
    | 10 => obtain ⟨c, iS, hh⟩ := u_known (ws := pT) (C := RX10) (T := TX10) (N := 6) (n := 6) hts hin_X10 (hts _ w_163); exact ⟨(c, iS), fun q hq => by cases hq; exact hh⟩
    | 11 => obtain ⟨c, iS, hh⟩ := u_known (ws := pT) (C := RX11) (T := TX11) (N := 10) (n := 10) hts hin_X11 (hts _ w_155); exact ⟨(c, iS), fun q hq => by cases hq; exact hh⟩
    | 12 => obtain ⟨c, iS, hh⟩ := u_known (ws := pT) (C := RX12) (T := TX12) (N := 23) (n := 23) hts hin_X12 (hts _ w_1581); exact ⟨(c, iS), fun q hq => by cases hq; exact hh⟩
    | k + 13 => exact ⟨(0, fun _ => 0), fun q hq => by simp [vwCl] at hq⟩
  obtain ⟨f, hf⟩ := Classical.axiomOfChoice h
  exact ⟨fun k => (f k).1, fun k => (f k).2, hf⟩
set_option maxRecDepth 100000 in
theorem cx_nc : ∀ q ∈ pNC, Cond.not (.castable q.1 q.2) ∈ FLc := by decide +kernel
theorem sr_eval (hfl : ∀ c ∈ FLc, c.before A s = true) {own tx : String} {k : Nat} (hw : Cond.stringRef own k tx ∈ lw_tbl) : ∃ a, (Term.string own k).eval A s none [] s = some (.ref a) := by
  rcases sr_all hw with h | ⟨o, j, hc, h⟩
  · obtain ⟨a, _, _, _, q1, _⟩ := Cond.exactly_spec (args := A) (first := s) (o := none) (s := s) (idx := []) (hfl _ h)
    exact ⟨a, q1⟩
  · obtain ⟨a, _, _, _, q1, _⟩ := Cond.exactly_spec (args := A) (first := s) (o := none) (s := s) (idx := []) (hfl _ h)
    exact ⟨a, va_eqv (hfl _ hc) q1⟩
theorem st_len : ∀ q ∈ strs, (q.2.2.map nI).length < 1000 := by decide +kernel
theorem st_base (E : PE) (hfl : ∀ c ∈ FLc, c.before A s = true) (hA : ∀ a : Nat, a < s.heap.size → ¬ pA E a) {bs : List Int32} (hn : bs.length < 1000) {o : String} {k : Nat} (h : ∀ c ∈ stL bs o k, c ∈ FLc) : ∃ a v, (Term.string o k).eval A s none [] s = some (.ref a) ∧ pStr E a v bs s s.heap := by
  have h' : ∀ c ∈ stL bs o k, c.before A s = true := fun c hc => hfl _ (h c hc)
  unfold stL at h'
  obtain ⟨h1, h'⟩ := List.forall_mem_cons.mp h'
  obtain ⟨h2, h'⟩ := List.forall_mem_cons.mp h'
  obtain ⟨h3, h'⟩ := List.forall_mem_cons.mp h'
  obtain ⟨h4, h'⟩ := List.forall_mem_cons.mp h'
  have h5 : ∀ j, j < bs.length → (Cond.eq (.elem (.field (.string o k) "java/lang/String" "value" "[B") (.int (Int32.ofNat j))) (.int (bs.getD j 0))).before A s = true := fun j hj => h' _ (List.mem_map.mpr ⟨j, List.mem_range.mpr hj, rfl⟩)
  obtain ⟨a, _, _, _, q1, _⟩ := Cond.exactly_spec (args := A) (first := s) (o := none) (s := s) (idx := []) h1
  obtain ⟨t, ht, hT⟩ := va_Tof (f := fun j => .int (bs.getD j 0)) (A := pA E) (N := bs.length) (by omega) h3 (va_eqt h4) (fun j hj => va_eqt (h5 j hj)) hA
  exact ⟨a, t, q1, va_Oof h1 q1 hA, vk_OFof q1 (va_eqt h2) hA, vk_OFof q1 ht hA, hT⟩
theorem st_str (E : PE) (hfl : ∀ c ∈ FLc, c.before A s = true) (hA : ∀ a : Nat, a < s.heap.size → ¬ pA E a) {q : String × Nat × List Nat} (hq : q ∈ strs) : ∃ a v, (Term.string q.1 q.2.1).eval A s none [] s = some (.ref a) ∧ pStr E a v (q.2.2.map nI) s s.heap := by
  obtain ⟨o, j, h, hc⟩ := st_strs q hq
  obtain ⟨a, v, g1, g2⟩ := st_base E hfl hA (st_len q hq) h
  rcases hc with ⟨rfl, rfl⟩ | hc
  · exact ⟨a, v, g1, g2⟩
  · exact ⟨a, v, va_eqv (hfl _ hc) g1, g2⟩
theorem pStr_uq {E : PE} {a v v' : Nat} {bs bs' : List Int32} {U : State} {H : Heap} (h : pStr E a v bs U H) (h' : pStr E a v' bs' U H) (hl : bs.length < 1000) (hl' : bs'.length < 1000) : bs' = bs := by
  obtain ⟨-, -, ⟨cf, k, i, f, cell, g1, -, g2, -, g3, -⟩, ⟨c1, t1, -, -, -, t3, t4, -⟩⟩ := h
  obtain ⟨-, -, ⟨cf', k', i', f', cell', g1', -, g2', -, g3', -⟩, ⟨c1', t1', -, -, -, t3', t4', -⟩⟩ := h'
  cases g1.symm.trans g1'
  cases g2.symm.trans g2'
  cases g3.symm.trans g3'
  cases t1.symm.trans t1'
  have el : bs'.length = bs.length := by
    have := congrArg Int32.toNatClampNeg (t3'.symm.trans t3)
    rw [show Int32.ofNat bs'.length = nI bs'.length from rfl, show Int32.ofNat bs.length = nI bs.length from rfl, nI_clamp (by omega), nI_clamp (by omega)] at this
    exact this
  refine List.ext_getElem el (fun j h1 h2 => ?_)
  have e := (t4' j h1).symm.trans (t4 j h2)
  simp only [Option.some.injEq, Value.int.injEq] at e
  simpa [List.getD, h1, h2] using e
/-- where a String constant lies -/
noncomputable def cxSa (A : Array Value) (s : State) (own : String) (k : Nat) : Nat := match (Term.string own k).eval A s none [] s with
  | some (.ref a) => a
  | _ => 0
theorem cxSa_eq {own : String} {k a : Nat} (h : (Term.string own k).eval A s none [] s = some (.ref a)) : cxSa A s own k = a := by unfold cxSa; rw [h]
/-- what bytes lie there -/
noncomputable def cxSb (E : PE) (s : State) (a : Nat) : Option (Nat × List Int32) := by
  classical
  exact if h : ∃ p : Nat × List Int32, p.2.length < 1000 ∧ pStr E a p.1 p.2 s s.heap then some (Classical.choose h) else none
theorem cxSb_ok {E : PE} {a v : Nat} {bs : List Int32} (h : cxSb E s a = some (v, bs)) : pStr E a v bs s s.heap := by
  unfold cxSb at h
  split at h
  · rename_i hx
    have := Classical.choose_spec hx
    rw [Option.some.inj h] at this
    exact this.2
  · cases h
theorem cxSb_of {E : PE} {a v : Nat} {bs : List Int32} (hl : bs.length < 1000) (h : pStr E a v bs s s.heap) : ∃ v', cxSb E s a = some (v', bs) := by
  have hx : ∃ p : Nat × List Int32, p.2.length < 1000 ∧ pStr E a p.1 p.2 s s.heap := ⟨(v, bs), hl, h⟩
  refine ⟨(Classical.choose hx).1, ?_⟩
  unfold cxSb
  rw [dif_pos hx]
  have sp := Classical.choose_spec hx
  exact congrArg some (Prod.ext rfl (pStr_uq h sp.2 hl sp.1))
theorem cx_all {l : Launch} (hfg : l.flags = flags0) {b L : Nat} {xs : Nat → Int32} (hts0 : ∀ w ∈ lw_tbl, w.before #[Value.ref b] s = true) (hgv : (Jvm.Cond.and given_1 narrow_1).before #[Value.ref b] s = true) (hX : va_X b L xs s s.heap) (hb : b < s.heap.size) : ∃ E : PE, E.l = l ∧ E.B = s.heap.size ∧ E.sc = (b, L, xs) ∧ pCtx E s ∧ EC E := by
  have hts : ∀ w ∈ pT, w.before #[Value.ref b] s = true := fun w hw => hts0 w (List.mem_filter.mp hw).1
  have hfl : ∀ c ∈ FLc, c.before #[Value.ref b] s = true := flat_of_before _ hgv
  obtain ⟨dC, dI, hK⟩ := cx_classes hts
  let E0 : PE := (l, (dC, dI), s.heap.size, cxSa #[Value.ref b] s, (fun _ => none), b, L, xs)
  let E : PE := (l, (dC, dI), s.heap.size, cxSa #[Value.ref b] s, cxSb E0 s, b, L, xs)
  have hA : ∀ a : Nat, a < s.heap.size → ¬ pA E0 a := fun a h1 h2 => absurd h1 (Nat.not_lt.mpr h2)
  have tr : l.stackTraces = false := by
    show (!l.flags.contains noTraceFlag) = false
    rw [hfg]
    decide +kernel
  refine ⟨E, rfl, rfl, rfl, ⟨fun w hw A' => word_at (State.WarmedH.refl s) (good_of_word (pT_good hw)) (hts w hw), ⟨hK, fun k q h => by simp at h⟩, Nat.le_refl _, fun own i y h hw => va_Nw.of rfl (hts0 _ hw), fun own k tx hw => ?_, fun C T hw => va_Nw.of rfl (hts0 _ hw), fun x hw => va_Nw.of rfl (hts0 _ hw), fun C hw => va_AO.of (hts0 _ hw), fun q hq => va_Nc.of (hfl _ (cx_nc q hq)), fun a v bs hb => cxSb_ok (E := E0) hb, ?_, ?_, ⟨?_, ?_⟩, ⟨hX, hb, Nat.not_le.mpr hb⟩, tr⟩, fun q hq => ?_⟩
  · obtain ⟨a, ha⟩ := sr_eval hfl hw
    exact vk_R.of (hts0 _ hw) (ha.trans (congrArg (fun z => some (Value.ref z)) (cxSa_eq ha).symm))
  · exact vx_Zqof (hts0 _ (by decide +kernel)) (hts0 _ (by decide +kernel)) (hfl _ (by decide +kernel)) hA
  · exact vx_Zqof (hts0 _ (by decide +kernel)) (hts0 _ (by decide +kernel)) (hfl _ (by decide +kernel)) hA
  · exact va_Zof (hts0 _ (by decide +kernel)) (hts0 _ (by decide +kernel)) (va_eqt (hfl (Cond.eq (.static "java/lang/String" "COMPACT_STRINGS" "Z") (.int 1)) (by decide +kernel))) hA
  · exact va_Zqof (hts0 _ (by decide +kernel)) (hts0 _ (by decide +kernel)) (hfl _ (by decide +kernel)) hA
  · obtain ⟨a, v, h1, h2⟩ := st_str E0 hfl hA hq
    show ∃ v, cxSb E0 s (cxSa #[Value.ref b] s q.1 q.2.1) = some (v, q.2.2.map nI)
    rw [cxSa_eq h1]
    exact cxSb_of (st_len q hq) h2
end CTX

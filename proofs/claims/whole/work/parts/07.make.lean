/-! INSTRUCTIONS that make cells; calls; throws -/
section MAKE
variable {E : PE} {M : PM} {d : Nat} {Q : PQ} {pc : Nat} {k kt : PK}
theorem pNextB {M : PM} {p : Program} {s : State} {m : MethodId} {meth : Method} {c : Code} {H : Heap} {locs : List Loc} {σ : PS} (C : pCx E M p s m meth c) (R : pRep E s σ.1 σ.2.1 H) (S : va_S (pA E) s.heap H locs) : E.B ≤ σ.2.1 := by
  have h1 := C.2.2.2.2.2.2.2.2.2.2.1
  have h2 := S.1
  have h3 := R.1
  omega
theorem va_S.grow {A : Nat → Prop} {H0 H H1 : Heap} {locs : List Loc} (h : va_S A H0 H locs) (z : H.size ≤ H1.size) (o1 : ∀ q : Nat, q < H.size → H1[q]? = H[q]?) : va_S A H0 H1 locs :=
  ⟨Nat.le_trans h.1 z, fun x h1 h2 => (o1 x (Nat.lt_of_lt_of_le h1 h.1)).trans (h.2.1 x h1 h2), h.2.2⟩
def i_new (mc ms : Nat) (ci N : Nat) (fs : List Value) (k : PK) : PK := fun ls st σ => σ.2.2.1 + 1 ≤ mc ∧ σ.2.2.2 + N ≤ ms ∧ k ls (.ref σ.2.1 :: st) (pu σ.1 σ.2.1 (.inr (ci, fs)), σ.2.1 + 1, σ.2.2.1 + 1, σ.2.2.2 + N)
theorem s_new {ci idx : Nat} {C0 : String} {T : u_T} {N : Nat} {ty0 : Nat → FieldType} {fs : List Value} (hin : ∀ w ∈ u_ws C0 T N, w ∈ pT) (hty : ∀ k, k < N → parseFieldDescriptor (T k).2.2.1 = some (ty0 k)) (hc : vwCl[ci]? = some (C0, T, N)) (hfs : ∀ j, j < N → defaultValue (ty0 j) = vp_V fs j) (hlen : fs.length = N)
    (hl : Cond.classLink M.y.cls idx C0 ∈ pT) (hi : Cond.instantiable C0 N ∈ pT) (hini : Cond.initialized C0 ∈ pT) (hd : decode M.cc pc = .ok (.new idx, 3)) (hk : pNext E M d Q (pc + 3) k) : pNext E M d Q pc (i_new M.mc M.ms ci N fs k) := by
  intro ls st σ h p e s m args below meth c H locs la C R S L
  obtain ⟨h1, h2, h3⟩ := h
  have hB := pNextB C R S
  have hts : ∀ w ∈ pT, w.before args s = true := fun w hw => C.2.2.2.2.2.2.2.2.1 w hw args
  have hK := C.2.2.2.2.2.2.2.2.2.1
  have hKn := hK.1 ci _ hc
  refine W.newcK C.1 C.2.1 C.2.2.2.1 (hts _ hl) (hts _ hi) (hts _ hini) rfl hd h1 h2 hKn.2.1 R.1 fun H1 kC hkC e1 z1 o1 => ?_
  refine hk _ _ _ h3 p e s m args below meth c H1 locs la C (R.push hB ⟨⟨_, hc, (u_born ty0 hts hin hKn hkC e1 hty).to hfs⟩, _, hc, hlen⟩ z1 o1) (S.grow (by rw [R.1, z1]; omega) (fun q hq => o1 q (by rw [R.1] at hq; exact hq))) L
def i_newa (mc ms : Nat) (ty : FieldType) (x : Nat → vp_A) (k : PK) : PK := fun ls st σ => match st with
  | .int n :: r => ¬ n < 0 ∧ n.toNatClampNeg ≤ 65536 ∧ σ.2.2.1 + 1 ≤ mc ∧ σ.2.2.2 + n.toNatClampNeg ≤ ms ∧ k ls (.ref σ.2.1 :: r) (pu σ.1 σ.2.1 (.inl (ty, x n.toNatClampNeg)), σ.2.1 + 1, σ.2.2.1 + 1, σ.2.2.2 + n.toNatClampNeg)
  | _ => False
theorem s_newa {atype : ArrayType} {ty : FieldType} {x : Nat → vp_A} (hty : newarray.typeOf atype = ty) (hx : ∀ (cA : ClassId) (n : Nat), vp_cell cA (x n) = arrV cA n (fun _ => defaultValue ty)) (hcb : componentBytes ty ≤ 8) (hl : Cond.arrayClass ty ∈ pT) (hd : decode M.cc pc = .ok (.newarray atype, 2)) (hk : pNext E M d Q (pc + 2) k) : pNext E M d Q pc (i_newa M.mc M.ms ty x k) := by
  intro ls st σ h p e s m args below meth c H locs la C R S L
  unfold i_newa at h
  split at h
  · rename_i n r
    obtain ⟨h1, h2, h3, h4, h5⟩ := h
    subst hty
    have hB := pNextB C R S
    refine va_newaK C.1 C.2.1 (C.2.2.2.2.2.2.2.2.1 _ hl args) rfl hd rfl h1 rfl ?_ h3 h4 R.1 fun H1 cA e1 z1 o1 hAr hNm => ?_
    · calc n.toNatClampNeg * componentBytes (newarray.typeOf atype) ≤ 65536 * 8 := Nat.mul_le_mul h2 hcb
        _ ≤ 536870912 := by decide
    · refine hk _ _ _ h5 p e s m args below meth c H1 locs la C (R.push hB ⟨cA, by rw [hx]; exact e1, hAr, by cases atype <;> exact hNm⟩ z1 o1) (S.grow (by rw [R.1, z1]; omega) (fun q hq => o1 q (by rw [R.1] at hq; exact hq))) L
  · exact h.elim
def i_anew (mc ms : Nat) (C0 : String) (k : PK) : PK := fun ls st σ => match st with
  | .int n :: r => ¬ n < 0 ∧ n.toNatClampNeg ≤ 65536 ∧ σ.2.2.1 + 1 ≤ mc ∧ σ.2.2.2 + n.toNatClampNeg ≤ ms ∧ k ls (.ref σ.2.1 :: r) (pu σ.1 σ.2.1 (.inl (.object C0, (n.toNatClampNeg, .inr (.inr (.inr (.inr (fun _ => none))))))), σ.2.1 + 1, σ.2.2.1 + 1, σ.2.2.2 + n.toNatClampNeg)
  | _ => False
theorem s_anew {idx : Nat} {C0 : String} (hl : Cond.classLink M.y.cls idx C0 ∈ pT) (ha : Cond.arrayOver (.object C0) ∈ lw_tbl) (hd : decode M.cc pc = .ok (.anewarray idx, 3)) (hk : pNext E M d Q (pc + 3) k) : pNext E M d Q pc (i_anew M.mc M.ms C0 k) := by
  intro ls st σ h p e s m args below meth c H locs la C R S L
  unfold i_anew at h
  split at h
  · rename_i n r
    obtain ⟨h1, h2, h3, h4, h5⟩ := h
    have hB := pNextB C R S
    have hx := C.2.2.2.2.2.2.2.2
    refine W.anew C.1 C.2.1 C.2.2.2.1 (hx.1 _ hl args) (va_AO.use (hx.2.2.2.2.2.2.2.1 _ ha)) rfl hd rfl h1 (by omega) h3 h4 fun cA kA comp f1 f2 f3 f4 => ?_
    generalize hH1 : H.push ({ cls := cA, slots := Array.replicate n.toNatClampNeg .null, vm := .none } : Cell) = H1
    have z1 : H1.size = H.size + 1 := by rw [← hH1, Array.size_push]
    have e1 : H1[H.size]? = some (arrV cA n.toNatClampNeg (fun _ => .null)) := by rw [← hH1, Array.getElem?_push_size, ← arrV_new]
    have o1 : ∀ q : Nat, q < H.size → H1[q]? = H[q]? := fun q hq => by rw [← hH1, Array.getElem?_push, if_neg (Nat.ne_of_lt hq)]
    have hAr : ArrOfT s cA (.object C0) := fun N z => ⟨(fun k h => by cases h), kA, f2, comp, f3⟩
    rw [R.1] at e1 z1 o1
    have := hk _ _ _ h5 p e s m args below meth c H1 locs la C (R.push hB ⟨cA, by rw [vp_cell_q]; exact e1, hAr, kA, comp, f2, f3, f4, f1⟩ z1 o1) (S.grow (by rw [R.1, z1]; omega) (fun q hq => o1 q (by rw [R.1] at hq; exact hq))) L
    rw [R.1]
    exact this
  · exact h.elim
abbrev pwt (r : List Value) : Nat := (r.map fun v => v.category).sum
def i_oinit (k : PK) : PK := fun ls st σ => match st with
  | .ref _ :: r => pwt r ≤ 8 ∧ k ls r σ
  | _ => False
theorem s_oinit {idx : Nat} (hl : Cond.methodLink M.y.cls idx Lib.objectInit ∈ pT) (hi : Cond.instanceMethod Lib.objectInit ∈ pT) (hc : Cond.code Lib.objectInit ⟨#[0xb1]⟩ 1 none ∈ pT) (hd : decode M.cc pc = .ok (.invokespecial idx, 3)) (hk : pNext E M d Q (pc + 3) k) : pNext E M d Q pc (i_oinit k) := by
  intro ls st σ h p e s m args below meth c H locs la C R S L
  unfold i_oinit at h
  split at h
  · rename_i a r
    have hx := C.2.2.2.2.2.2.2.2
    refine W.objInit C.1 C.2.1 C.2.2.2.1 (hx.1 _ hl args) (hx.1 _ hi args) (hx.1 _ hc args) rfl (L.size.trans C.2.2.1.symm) rfl hd (by show 1 ≤ d + 12; omega) ?_ (hk _ _ _ h.2 p e s m args below meth c H locs la C R S L)
    show 2 * 0 + pwt r + 12 ≤ (d + 12) * 60
    have := h.1
    omega
  · exact h.elim
/-! calls -/
def pRetK (k : PK) (Q : PQ) (ls : PL) (r : List Value) (cs : Nat × Nat) : PQ := fun o h n => match o with
  | .inl none => k ls r (h, n, cs)
  | .inl (some v) => k ls (v :: r) (h, n, cs)
  | .inr X => Q (.inr X) h n
theorem pRunW {p : Program} {e : Env} {s : State} {m : MethodId} {args a : Array Value} {below : List Frame} {meth : Method} {c : Code} {H : Heap} {locs : List Loc} {cells slots mc ms : Nat} {la : Array Slot} {st0 r : List Value} {Rm : Room} {Q' : PQ} {Z : State → Prop}
    (hr : vx_Run p E.l e Rm s m args below meth c H locs cells slots mc ms (F0 m pc la st0) r (pQc E Q' a) (pXc E Q') (pA E)) (S : va_S (pA E) s.heap H locs)
    (kk : ∀ (v : Option Value) (h : PH) (n : Nat) (H1 : Heap) (locs1 : List Loc), Q' (.inl v) h n → pRep E s h n H1 → va_S (pA E) s.heap H1 locs1 → W p E.l e Rm s m args below meth c H1 locs1 (cells + mc) (slots + ms) Z (F0 m (pc + 3) la (v.toList ++ r)))
    (kx : ∀ (X : String) (q : Nat) (ce : Cell) (h : PH) (n : Nat) (H1 : Heap) (locs1 : List Loc), Q' (.inr X) h n → pRep E s h n H1 → va_S (pA E) s.heap H1 locs1 → H1[q]? = some ce → ce.vm = .none → s.vm.findClass X = some ce.cls → vx_W p E.l e Rm s m args below meth c H1 locs1 (cells + mc) (slots + ms) Z (F0 m pc la r) q) :
    W p E.l e Rm s m args below meth c H locs cells slots Z (F0 m pc la st0) := by
  intro T hT X
  rcases hr T hT X with ⟨v, st₀, t, T', L, h0, X', hL, e1, e2, ⟨v', h, n, hv, hp, hF, hq⟩, st⟩ | ⟨q, st₀, t, T', L, X0, ce, h0, X', hL, e1, e2, ⟨h, n, hp, hF, hq⟩, hce, hcv, hcl, st⟩
  · cases hv
    obtain ⟨k1, k2, k3⟩ := vx_keep h0 e1 S (fun _ _ h => h) (fun _ h => h) hL hF
    have hal : s.vm.Alike t.vm := by rw [← e2]; exact X'.warmed.alike
    obtain ⟨t2, a1, b1⟩ := kk v h n T'.heap (locs ++ L) hq (by rw [e1]; exact hp.moved hal.symm) k3 T' rfl X'
    exact ⟨t2, st t2 a1, b1⟩
  · obtain ⟨k1, k2, k3⟩ := vx_keep h0 e1 S (fun _ _ h => h) (fun _ h => h) hL hF
    have hal : s.vm.Alike t.vm := by rw [← e2]; exact X'.warmed.alike
    obtain ⟨t2, a1, b1⟩ := kx X0 q ce h n T'.heap (locs ++ L) hq (by rw [e1]; exact hp.moved hal.symm) k3 (by rw [e1]; exact hce) hcv hcl T' rfl X'
    exact ⟨t2, st.trans a1, b1⟩
/-- what makes a method callable, but the link at the caller -/
def pOK (M' : PM) (np : Nat) : Prop := Cond.code M'.y M'.cc M'.nL M'.ret ∈ pT ∧ Cond.initialized M'.y.cls ∈ pT ∧ (M'.y.cls ≠ "java/lang/invoke/MethodHandle" ∧ M'.y.cls ≠ "java/lang/invoke/VarHandle") ∧ (parseMethodDescriptor M'.y.desc).map (fun z => z.parameters.length) = some np ∧ M'.nL ≤ 40
theorem pCallB {M' : PM} {np idx d : Nat} {own : String} {s : State} {args : Array Value} (hx : pCtx E s) (hO : pOK M' np) (hl : Cond.methodLink own idx M'.y ∈ pT) {mc ms : Nat} :
    CallB (pRoom (d + 1) mc ms) s args own idx M'.y M'.cc M'.nL M'.ret [Cond.code M'.y M'.cc M'.nL M'.ret] (pRoom d M'.mc M'.ms) M'.mc M'.ms np := by
  obtain ⟨h1, h2, h3, h4, h5⟩ := hO
  refine ⟨rfl, rfl, by show d + 12 + 1 ≤ d + 1 + 12; omega, ?_, ?_, List.mem_cons_self, hx.1 _ h1 args, hx.1 _ h2 args, h3, fun sig hs => ?_, hx.1 _ hl args⟩
  · show 8 + (M'.nL + 11) + (d + 12) * 60 ≤ (d + 1 + 12) * 60
    omega
  · intro w hw a' U hW
    rw [List.mem_singleton.mp hw]
    exact word_at hW (good_of_word (pT_good h1)) (hx.1 _ h1 args)
  · rw [hs] at h4
    exact (Option.some.inj h4).symm
theorem pBlind {as : List Value} {h : PH} {n : Nat} : FrameBlind (va_Pc as (fun U => pCtx E U ∧ pRep E U h n U.heap)) := fun a U g mk q => ⟨q.1, q.2.1.blind g mk a, q.2.2⟩
theorem pPre {s : State} {as : List Value} {h : PH} {n : Nat} {H : Heap} {locs : List Loc} (hx : pCtx E s) (R : pRep E s h n H) (S : va_S (pA E) s.heap H locs) {U : State} (hU : U.heap = H) (hW : s.WarmedH U.vm) : va_Pc as (fun U => pCtx E U ∧ pRep E U h n U.heap) as.toArray U :=
  ⟨rfl, hx.move hW (by rw [hU]; exact S.1) (fun q h1 h2 => by rw [hU]; exact S.2.1 q h1 h2), by rw [hU]; exact R.moved hW.alike⟩
def i_callv (E : PE) (mc ms : Nat) (Q : PQ) (M' : PM) (mc' ms' d ci np : Nat) (k : PK) : PK := fun ls st σ => match st.drop np with
  | .ref b :: r => (match σ.1 b with | some (.inr x) => x.1 = ci | _ => False) ∧ pwt r ≤ 8 ∧ σ.2.2.1 + mc' ≤ mc ∧ σ.2.2.2 + ms' ≤ ms ∧ pCall E M' d (.ref b :: (st.take np).reverse) σ.1 σ.2.1 (pRetK k Q ls r (σ.2.2.1 + mc', σ.2.2.2 + ms'))
  | _ => False
theorem s_callv (hh : M.hh = []) {M' : PM} {ci np idx : Nat} {r0 : vw_C} (hO : pOK M' np) (hi : Cond.instanceMethod M'.y ∈ pT) (hsel : Cond.selects M'.y.cls M'.y M'.y ∈ pT) (hc : vwCl[ci]? = some r0) (hcl : r0.1 = M'.y.cls) (hl : Cond.methodLink M.y.cls idx M'.y ∈ pT) (hd : decode M.cc pc = .ok (.invokevirtual idx, 3)) (hk : pNext E M (d + 1) Q (pc + 3) k) : pNext E M (d + 1) Q pc (i_callv E M.mc M.ms Q M' M'.mc M'.ms d ci np k) := by
  intro ls st σ h p e s m args below meth c H locs la C R S L
  unfold i_callv at h
  split at h
  · rename_i b r hst
    obtain ⟨hb, hw, hmc, hms, hM⟩ := h
    have hx := C.2.2.2.2.2.2.2.2
    have hst2 : st = (st.take np).reverse.reverse ++ .ref b :: r := by rw [List.reverse_reverse, ← hst, List.take_append_drop]
    have hn : (st.take np).reverse.length = np := by
      rw [List.length_reverse, List.length_take]
      have : (st.drop np).length = r.length + 1 := by rw [hst]; rfl
      rw [List.length_drop] at this
      omega
    split at hb
    · rename_i x hxb
      obtain ⟨ci', fs⟩ := x
      subst hb
      obtain ⟨hB, hat, r1, hr1, -⟩ := R.2 b _ hxb
      have hrc : ∃ cellB : Cell, H[b]? = some cellB ∧ cellB.vm.isStatics = false ∧ s.vm.findClass M'.y.cls = some cellB.cls := by
        rw [← hcl]
        exact va_recv hx.2.1 (pP1 hat) (q0 := 0) hc rfl
      refine pRunW (vx_runV ⟨C.1, C.2.1, C.2.2.1, C.2.2.2.1, fun w hw => hx.1 w hw args⟩ hM ⟨pCallB hx hO hl, hx.1 _ hi args, hx.1 _ hsel args⟩ ⟨pBlind, hrc, fun U hU hW => pPre hx R S hU hW⟩ rfl hn L.size hst2 (by show 2 * 0 + pwt r ≤ 8; omega) hd ⟨hmc, hms⟩) S ?_ ?_
      · intro v h' n' H1 locs1 hq R1 S1
        cases v with
        | none => exact hk _ _ _ hq p e s m args below meth c H1 locs1 la C R1 S1 L
        | some v => exact hk _ _ _ hq p e s m args below meth c H1 locs1 la C R1 S1 L
      · intro X q ce h' n' H1 locs1 hq R1 S1 h1 h2 h3
        exact vx_out (pNoTab hh C) C.2.2.2.2.2.1 h1 h2 h3 (fun t ht hal => ⟨h', n', by rw [ht]; exact R1.moved hal, pF ht S1, hq⟩) S1.2.2 hmc hms
    · exact hb.elim
  · exact h.elim
def i_calls (E : PE) (mc ms : Nat) (Q : PQ) (M' : PM) (mc' ms' d np : Nat) (k : PK) : PK := fun ls st σ => np ≤ st.length ∧ pwt (st.drop np) ≤ 8 ∧ σ.2.2.1 + mc' ≤ mc ∧ σ.2.2.2 + ms' ≤ ms ∧ pCall E M' d (st.take np).reverse σ.1 σ.2.1 (pRetK k Q ls (st.drop np) (σ.2.2.1 + mc', σ.2.2.2 + ms'))
theorem s_calls (hh : M.hh = []) {M' : PM} {np idx : Nat} (hO : pOK M' np) (hi : Cond.static M'.y ∈ pT) (hl : Cond.methodLink M.y.cls idx M'.y ∈ pT) (hd : decode M.cc pc = .ok (.invokestatic idx, 3)) (hk : pNext E M (d + 1) Q (pc + 3) k) : pNext E M (d + 1) Q pc (i_calls E M.mc M.ms Q M' M'.mc M'.ms d np k) := by
  intro ls st σ h p e s m args below meth c H locs la C R S L
  obtain ⟨hnp, hw, hmc, hms, hM⟩ := h
  have hx := C.2.2.2.2.2.2.2.2
  have hst2 : st = (st.take np).reverse.reverse ++ st.drop np := by rw [List.reverse_reverse, List.take_append_drop]
  have hn : (st.take np).reverse.length = np := by rw [List.length_reverse, List.length_take]; omega
  refine pRunW (vx_runS ⟨C.1, C.2.1, C.2.2.1, C.2.2.2.1, fun w hw => hx.1 w hw args⟩ hM ⟨pCallB hx hO hl, hx.1 _ hi args⟩ ⟨pBlind, fun U hU hW => pPre hx R S hU hW⟩ rfl hn L.size hst2 (by show 2 * 0 + pwt _ ≤ 8; omega) hd ⟨hmc, hms⟩) S ?_ ?_
  · intro v h' n' H1 locs1 hq R1 S1
    cases v with
    | none => exact hk _ _ _ hq p e s m args below meth c H1 locs1 la C R1 S1 L
    | some v => exact hk _ _ _ hq p e s m args below meth c H1 locs1 la C R1 S1 L
  · intro X q ce h' n' H1 locs1 hq R1 S1 h1 h2 h3
    exact vx_out (pNoTab hh C) C.2.2.2.2.2.1 h1 h2 h3 (fun t ht hal => ⟨h', n', by rw [ht]; exact R1.moved hal, pF ht S1, hq⟩) S1.2.2 hmc hms
end MAKE

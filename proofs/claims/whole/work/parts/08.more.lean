/-! INSTRUCTIONS: constructors, copies, Math, throws, switches -/
section MORE
variable {E : PE} {M : PM} {d : Nat} {Q : PQ} {pc : Nat} {k kt : PK}
theorem pMet {l : Launch} {y : MethodName} {ws : List Cond} {rm : Room} {Pc : Array Value → State → Prop} {Qc : Array Value → State → Outcome → State → Prop} {XC : String → State → State → Prop} {mc ms : Nat} {free : Addr → Prop} (hM : vx_Met l y ws rm Pc Qc XC mc ms free) (hX : ∀ X s t, ¬ XC X s t) : Met l y ws rm Pc Qc mc ms free := by
  intro p e ha hc hk s m args below hf happ hP hK
  obtain ⟨n, o, h1, h2, h3, hQ⟩ := hM p e ha hc hk s m args below hf happ hP hK
  refine ⟨n, o, h1, h2, h3, ?_⟩
  rcases hQ with h | ⟨q, -, X, ce, L, hx, -⟩
  · exact h
  · exact absurd hx (hX X _ _)
def pRetI (k : PK) (ls : PL) (r : List Value) (cs : Nat × Nat) : PQ := fun o h n => match o with
  | .inl none => k ls r (h, n, cs)
  | _ => False
def i_calli (E : PE) (mc ms : Nat) (M' : PM) (mc' ms' d np : Nat) (k : PK) : PK := fun ls st σ => match st.drop np with
  | .ref b :: r => pwt r ≤ 8 ∧ σ.2.2.1 + mc' ≤ mc ∧ σ.2.2.2 + ms' ≤ ms ∧ pCall E M' d (.ref b :: (st.take np).reverse) σ.1 σ.2.1 (pRetI k ls r (σ.2.2.1 + mc', σ.2.2.2 + ms'))
  | _ => False
theorem pRunI {p : Program} {e : Env} {s : State} {m : MethodId} {args a : Array Value} {below : List Frame} {meth : Method} {c : Code} {H : Heap} {locs : List Loc} {cells slots mc ms : Nat} {la : Array Slot} {st0 r : List Value} {Rm : Room} {Q' : PQ} {Z : State → Prop}
    (hr : va_Run p E.l e Rm s m args below meth c H locs cells slots mc ms (F0 m pc la st0) r (pQc E Q' a) (pA E)) (S : va_S (pA E) s.heap H locs)
    (kk : ∀ (v : Option Value) (h : PH) (n : Nat) (H1 : Heap) (locs1 : List Loc), Q' (.inl v) h n → pRep E s h n H1 → va_S (pA E) s.heap H1 locs1 → W p E.l e Rm s m args below meth c H1 locs1 (cells + mc) (slots + ms) Z (F0 m (pc + 3) la (v.toList ++ r))) :
    W p E.l e Rm s m args below meth c H locs cells slots Z (F0 m pc la st0) := by
  intro T hT X
  obtain ⟨v, st₀, t, T', L, h0, X', hL, e1, e2, ⟨v', h, n, hv, hp, hF, hq⟩, st⟩ := hr T hT X
  cases hv
  obtain ⟨k1, k2, k3⟩ := vx_keep h0 e1 S (fun _ _ h => h) (fun _ h => h) hL hF
  have hal : s.vm.Alike t.vm := by rw [← e2]; exact X'.warmed.alike
  obtain ⟨t2, a1, b1⟩ := kk v h n T'.heap (locs ++ L) hq (by rw [e1]; exact hp.moved hal.symm) k3 T' rfl X'
  exact ⟨t2, st t2 a1, b1⟩
theorem pNoX {k : PK} {ls : PL} {r : List Value} {cs : Nat × Nat} : ∀ X s t, ¬ pXc E (pRetI k ls r cs) X s t := fun X s t h => by
  obtain ⟨_, _, -, -, h⟩ := h
  exact h
theorem s_calli {M' : PM} {np idx : Nat} (hO : pOK M' np) (hret : M'.ret = none) (hnm : M'.y.name = "<init>") (hi : Cond.instanceMethod M'.y ∈ pT) (hl : Cond.methodLink M.y.cls idx M'.y ∈ pT) (hd : decode M.cc pc = .ok (.invokespecial idx, 3)) (hk : pNext E M (d + 1) Q (pc + 3) k) : pNext E M (d + 1) Q pc (i_calli E M.mc M.ms M' M'.mc M'.ms d np k) := by
  intro ls st σ h p e s m args below meth c H locs la C R S L
  unfold i_calli at h
  split at h
  · rename_i b r hst
    obtain ⟨hw, hmc, hms, hM⟩ := h
    have hx := C.2.2.2.2.2.2.2.2
    have hst2 : st = (st.take np).reverse.reverse ++ .ref b :: r := by rw [List.reverse_reverse, ← hst, List.take_append_drop]
    have hn : (st.take np).reverse.length = np := by
      rw [List.length_reverse, List.length_take]
      have : (st.drop np).length = r.length + 1 := by rw [hst]; rfl
      rw [List.length_drop] at this
      omega
    have cb : CallB (pRoom (d + 1) M.mc M.ms) s args M.y.cls idx M'.y M'.cc M'.nL none [Cond.code M'.y M'.cc M'.nL M'.ret] (pRoom d M'.mc M'.ms) M'.mc M'.ms np := by
      have := pCallB (d := d) (mc := M.mc) (ms := M.ms) (args := args) hx hO hl
      rw [hret] at this ⊢
      exact this
    refine pRunI (va_runI ⟨C.1, C.2.1, C.2.2.1, C.2.2.2.1, fun w hw => hx.1 w hw args⟩ (pMet hM pNoX) ⟨cb, hnm, hx.1 _ hi args⟩ ⟨pBlind, fun U hU hW => pPre hx R S hU hW⟩ rfl hn L.size hst2 (by show 2 * 0 + pwt r ≤ 8; omega) hd ⟨hmc, hms⟩) S ?_
    intro v h' n' H1 locs1 hq R1 S1
    cases v with
    | none => exact hk _ _ _ hq p e s m args below meth c H1 locs1 la C R1 S1 L
    | some v => exact hq.elim
  · exact h.elim
theorem s_callin {M' : PM} {np idx : Nat} {host : String} (hO : pOK M' np) (hret : M'.ret = none) (hnm : M'.y.name = "<init>") (hi : Cond.instanceMethod M'.y ∈ pT) (hl : Cond.methodLinkNest M.y.cls idx M'.y host ∈ lw_tbl) (hd : decode M.cc pc = .ok (.invokespecial idx, 3)) (hk : pNext E M (d + 1) Q (pc + 3) k) : pNext E M (d + 1) Q pc (i_calli E M.mc M.ms M' M'.mc M'.ms d np k) := by
  intro ls st σ h p e s m args below meth c H locs la C R S L
  unfold i_calli at h
  split at h
  · rename_i b r hst
    obtain ⟨hw, hmc, hms, hM⟩ := h
    have hx := C.2.2.2.2.2.2.2.2
    have hst2 : st = (st.take np).reverse.reverse ++ .ref b :: r := by rw [List.reverse_reverse, ← hst, List.take_append_drop]
    have hn : (st.take np).reverse.length = np := by
      rw [List.length_reverse, List.length_take]
      have : (st.drop np).length = r.length + 1 := by rw [hst]; rfl
      rw [List.length_drop] at this
      omega
    have cb : va_CN (pRoom (d + 1) M.mc M.ms) s args M.y.cls idx M'.y host M'.cc M'.nL none [Cond.code M'.y M'.cc M'.nL M'.ret] (pRoom d M'.mc M'.ms) M'.mc M'.ms np := by
      obtain ⟨h1, h2, h3, h4, h5⟩ := hO
      rw [hret] at h1 ⊢
      refine ⟨⟨rfl, rfl, by show d + 12 + 1 ≤ d + 1 + 12; omega, ?_, ?_, List.mem_cons_self⟩, hx.1 _ h1 args, hx.1 _ h2 args, h3, fun sig hs => ?_, va_Nw.use rfl (hx.2.2.2.1 _ _ _ _ hl)⟩
      · show 8 + (M'.nL + 11) + (d + 12) * 60 ≤ (d + 1 + 12) * 60
        omega
      · intro w hw a' U hW
        rw [List.mem_singleton.mp hw]
        exact word_at hW (good_of_word (pT_good h1)) (hx.1 _ h1 args)
      · rw [hs] at h4
        exact (Option.some.inj h4).symm
    refine pRunI (va_runIN ⟨C.1, C.2.1, C.2.2.1, C.2.2.2.1, fun w hw => hx.1 w hw args⟩ (pMet hM pNoX) ⟨cb, hnm, hx.1 _ hi args⟩ ⟨pBlind, fun U hU hW => pPre hx R S hU hW⟩ rfl hn L.size hst2 (by show 2 * 0 + pwt r ≤ 8; omega) hd ⟨hmc, hms⟩) S ?_
    intro v h' n' H1 locs1 hq R1 S1
    cases v with
    | none => exact hk _ _ _ hq p e s m args below meth c H1 locs1 la C R1 S1 L
    | some v => exact hq.elim
  · exact h.elim
/-! Math -/
def i_max (mc ms : Nat) (k : PK) : PK := fun ls st σ => match st with
  | .int y :: .int x :: r => pwt r ≤ 8 ∧ σ.2.2.1 ≤ mc ∧ σ.2.2.2 ≤ ms ∧ k ls (.int (if x < y then y else x) :: r) σ
  | _ => False
def i_min (mc ms : Nat) (k : PK) : PK := fun ls st σ => match st with
  | .int y :: .int x :: r => pwt r ≤ 8 ∧ σ.2.2.1 ≤ mc ∧ σ.2.2.2 ≤ ms ∧ k ls (.int (if y < x then y else x) :: r) σ
  | _ => False
def i_abs (mc ms : Nat) (k : PK) : PK := fun ls st σ => match st with
  | .int x :: r => pwt r ≤ 8 ∧ σ.2.2.1 ≤ mc ∧ σ.2.2.2 ≤ ms ∧ k ls (.int (if 0 ≤ x then x else 0 - x) :: r) σ
  | _ => False
theorem s_max {idx : Nat} (hl : Cond.methodLink M.y.cls idx Lib.Math.max.name ∈ pT) (h1 : Cond.static Lib.Math.max.name ∈ pT) (h2 : Cond.initialized "java/lang/Math" ∈ pT) (h3 : Cond.code Lib.Math.max.name Lib.Math.max.code 2 (some .int) ∈ pT) (hd : decode M.cc pc = .ok (.invokestatic idx, 3)) (hk : pNext E M d Q (pc + 3) k) : pNext E M d Q pc (i_max M.mc M.ms k) := by
  intro ls st σ h p e s m args below meth c H locs la C R S L
  unfold i_max at h
  split at h
  · rename_i y x r
    obtain ⟨hw, hmc, hms, h⟩ := h
    have hx := C.2.2.2.2.2.2.2.2
    exact va_mmax C.1 C.2.1 (C.2.2.1.trans L.size.symm) C.2.2.2.1 (hx.1 _ hl args) (hx.1 _ h1 args) (hx.1 _ h2 args) (hx.1 _ h3 args) (by show 1 ≤ d + 12; omega) (by show pwt r + 13 ≤ (d + 12) * 60; omega) hmc hms hd (hk _ _ _ h p e s m args below meth c H locs la C R S L)
  · exact h.elim
theorem s_min {idx : Nat} (hl : Cond.methodLink M.y.cls idx Lib.Math.min.name ∈ pT) (h1 : Cond.static Lib.Math.min.name ∈ pT) (h2 : Cond.initialized "java/lang/Math" ∈ pT) (h3 : Cond.code Lib.Math.min.name Lib.Math.min.code 2 (some .int) ∈ pT) (hd : decode M.cc pc = .ok (.invokestatic idx, 3)) (hk : pNext E M d Q (pc + 3) k) : pNext E M d Q pc (i_min M.mc M.ms k) := by
  intro ls st σ h p e s m args below meth c H locs la C R S L
  unfold i_min at h
  split at h
  · rename_i y x r
    obtain ⟨hw, hmc, hms, h⟩ := h
    have hx := C.2.2.2.2.2.2.2.2
    exact va_mmin C.1 C.2.1 (C.2.2.1.trans L.size.symm) C.2.2.2.1 (hx.1 _ hl args) (hx.1 _ h1 args) (hx.1 _ h2 args) (hx.1 _ h3 args) (by show 1 ≤ d + 12; omega) (by show pwt r + 13 ≤ (d + 12) * 60; omega) hmc hms hd (hk _ _ _ h p e s m args below meth c H locs la C R S L)
  · exact h.elim
theorem s_abs {idx : Nat} (hl : Cond.methodLink M.y.cls idx Lib.Math.abs.name ∈ pT) (h1 : Cond.static Lib.Math.abs.name ∈ pT) (h2 : Cond.initialized "java/lang/Math" ∈ pT) (h3 : Cond.code Lib.Math.abs.name Lib.Math.abs.code 1 (some .int) ∈ pT) (hd : decode M.cc pc = .ok (.invokestatic idx, 3)) (hk : pNext E M d Q (pc + 3) k) : pNext E M d Q pc (i_abs M.mc M.ms k) := by
  intro ls st σ h p e s m args below meth c H locs la C R S L
  unfold i_abs at h
  split at h
  · rename_i x r
    obtain ⟨hw, hmc, hms, h⟩ := h
    have hx := C.2.2.2.2.2.2.2.2
    exact va_mabs C.1 C.2.1 (C.2.2.1.trans L.size.symm) C.2.2.2.1 (hx.1 _ hl args) (hx.1 _ h1 args) (hx.1 _ h2 args) (hx.1 _ h3 args) (by show 1 ≤ d + 12; omega) (by show pwt r + 13 ≤ (d + 12) * 60; omega) hmc hms hd (hk _ _ _ h p e s m args below meth c H locs la C R S L)
  · exact h.elim
/-! System.arraycopy over rows of ints -/
def i_copy (k : PK) : PK := fun ls st σ => match st with
  | .int n :: .int dp :: .ref a :: .int sp :: .ref a0 :: r => (match σ.1 a0, σ.1 a with
    | some (.inl (.int, (n0, .inl f))), some (.inl (.int, (n1, .inl g))) => pwt r ≤ 8 ∧ ¬ sp < 0 ∧ ¬ dp < 0 ∧ ¬ n < 0 ∧ sp.toNatClampNeg + n.toNatClampNeg ≤ n0 ∧ dp.toNatClampNeg + n.toNatClampNeg ≤ n1 ∧ k ls r (pu σ.1 a (.inl (.int, (n1, .inl (va_cpy f g sp.toNatClampNeg dp.toNatClampNeg n.toNatClampNeg)))), σ.2)
    | _, _ => False)
  | _ => False
theorem s_copy {idx : Nat} (hl : Cond.methodLink M.y.cls idx arraycopyName ∈ pT) (g1 : Cond.native arraycopyName ∈ pT) (g2 : Cond.static arraycopyName ∈ pT) (g3 : Cond.initialized "java/lang/System" ∈ pT) (hd : decode M.cc pc = .ok (.invokestatic idx, 3)) (hk : pNext E M d Q (pc + 3) k) : pNext E M d Q pc (i_copy k) := by
  intro ls st σ h p e s m args below meth c H locs la C R S L
  unfold i_copy at h
  split at h
  · rename_i n dp a sp a0 r
    split at h
    · rename_i n0 f n1 g hx0 hx1
      obtain ⟨hw, h1, h2, h3, h4, h5, h⟩ := h
      have hx := C.2.2.2.2.2.2.2.2
      obtain ⟨hB0, c0, hc0, hA01, hA02⟩ := R.2 a0 _ hx0
      obtain ⟨hB, c1, hc1, hA11, hA12⟩ := R.2 a _ hx1
      have nn : ∀ z : Int32, ¬ z < 0 → z.toInt = (z.toNatClampNeg : Int) := by
        intro z hz
        have hz0 : (0 : Int) ≤ z.toInt := by
          have := Int32.not_lt.mp hz
          simpa using Int32.le_iff_toInt_le.mp this
        show z.toInt = ((z.toInt.toNat : Nat) : Int)
        omega
      have hnf : nativeFrameWords "java/lang/System" "arraycopy" 5 ≤ 100 := by decide +kernel
      intro T hT X
      obtain ⟨-, k0, hk0, cm0, hkk0⟩ := hA01 n0 (fun j => .int (f j))
      obtain ⟨-, k1, hk1, cm1, hkk1⟩ := hA11 n1 (fun j => .int (g j))
      obtain ⟨vm', X', step⟩ := X.arraycopy C.1 C.2.2.2.1 (hx.1 _ hl args) (hx.1 _ g1 args) (hx.1 _ g2 args) (hx.1 _ g3 args) (src := a0) (dst := a) (cs := vp_cell c0 (n0, .inl f)) (cd := vp_cell c1 (n1, .inl g)) (srcPos := sp) (destPos := dp) (n := n) (by rw [hT]; exact hc0) (by rw [hT]; exact hc1)
        (fun _ h => by cases h) (fun _ h => by cases h) (fun h => by cases h) (fun h => by cases h) hk0 hk1 hkk0 hkk1 (by simp [refKind]) h1 h2 h3
        (by rw [nn sp h1, nn n h3]; show ¬ _ > ((arrV c0 n0 (fun j => .int (f j))).slots.size : Int); rw [arrV_size]; omega)
        (by rw [nn dp h2, nn n h3]; show ¬ _ > ((arrV c1 n1 (fun j => .int (g j))).slots.size : Int); rw [arrV_size]; omega)
        (fun vm₁ _ i hi => by
          have e : (vp_cell c0 (n0, .inl f)).slots.getD (sp.toNatClampNeg + i) .null = .int (f (sp.toNatClampNeg + i)) := by
            show (arrV c0 n0 (fun j => .int (f j))).slots.getD _ _ = _
            rw [Array.getD_eq_getD_getElem?, arrV_read _ _ (by omega)]
            rfl
          refine ⟨?_, ?_⟩
          · rw [e]
            rfl
          · rw [e]
            exact trivial)
        (g := F0 m pc la (.int n :: .int dp :: .ref a :: .int sp :: .ref a0 :: r)) rfl (L.size.trans C.2.2.1.symm) (rest := r) rfl (by rw [C.2.1]; exact hd) (by show 1 ≤ d + 12; omega) (by show 2 * 0 + pwt r + (nativeFrameWords "java/lang/System" "arraycopy" 5 + 11) ≤ (d + 12) * 60; omega)
      have e1 : copied (vp_cell c0 (n0, .inl f)) (vp_cell c1 (n1, .inl g)) sp dp n = vp_cell c1 (n1, .inl (va_cpy f g sp.toNatClampNeg dp.toNatClampNeg n.toNatClampNeg)) := va_copied (fun z => .int z) c0 c1 f g h4
      rw [e1] at X' step
      have hl : a < H.size := (Array.getElem?_eq_some_iff.mp hc1).1
      have hheap : ((T.setVm vm').setCell a (vp_cell c1 (n1, .inl (va_cpy f g sp.toNatClampNeg dp.toNatClampNeg n.toNatClampNeg)))).heap = H.setIfInBounds a (vp_cell c1 (n1, .inl (va_cpy f g sp.toNatClampNeg dp.toNatClampNeg n.toNatClampNeg))) := by rw [← hT]; rfl
      have oq : ∀ q : Nat, q ≠ a → (H.setIfInBounds a (vp_cell c1 (n1, .inl (va_cpy f g sp.toNatClampNeg dp.toNatClampNeg n.toNatClampNeg))))[q]? = H[q]? := fun q hq => by simp [Array.getElem?_setIfInBounds, Ne.symm hq]
      have R1 : pRep E s (pu σ.1 a (.inl (.int, (n1, .inl (va_cpy f g sp.toNatClampNeg dp.toNatClampNeg n.toNatClampNeg))))) σ.2.1 (H.setIfInBounds a (vp_cell c1 (n1, .inl (va_cpy f g sp.toNatClampNeg dp.toNatClampNeg n.toNatClampNeg)))) := R.put hB ⟨c1, show (H.setIfInBounds a _)[a]? = some _ by simp [Array.getElem?_setIfInBounds, hl], hA11, hA12⟩ (by simp) oq
      have K := fun locs1 S1 => hk _ _ _ h p e s m args below meth c _ locs1 la C R1 S1 L
      obtain ⟨t, a1, b1⟩ := K _ ⟨by simp; exact S.1, fun q g1 g2 => by
          rw [oq q (fun e => g2 (by rw [e]; exact hB))]
          exact S.2.1 q g1 g2, fun q hq => by
          rcases List.mem_append.mp hq with h | h
          · exact S.2.2 q h
          · obtain ⟨z, -, hz⟩ := List.mem_map.mp h
            rw [← hz]
            exact hB⟩ _ hheap X'
      exact ⟨t, step t a1, b1⟩
    · exact h.elim
  · exact h.elim
/-! throw new X("text") -/
def i_throw (mc ms : Nat) (Q : PQ) (X : String) : PK := fun _ st σ => pwt st ≤ 8 ∧ σ.2.2.1 + 1 ≤ mc ∧ σ.2.2.2 + 6 ≤ ms ∧ ∀ n : Nat, σ.2.1 ≤ n → Q (.inr X) σ.1 n
def pThr (own : String) (ic : Nat) (X : String) (names : List String) : List Cond := (vx_atS own ic X names).filter (fun w => !goodWord w)
def pThrB (X : String) : List Cond := [.declares (Bundle.initS "java/lang/RuntimeException"), .declares (Bundle.initS "java/lang/Exception"), .declares (Bundle.initS "java/lang/Throwable"), .castable X X]
def pThrD : Prop := Cond.declares (Bundle.initS "java/lang/RuntimeException") ∈ lw_tbl ∧ Cond.declares (Bundle.initS "java/lang/Exception") ∈ lw_tbl ∧ Cond.declares (Bundle.initS "java/lang/Throwable") ∈ lw_tbl
theorem pHat {own X : String} {ic : Nat} {names : List String} {s : State} {args : Array Value} (hx : pCtx E s) (h1 : ∀ w ∈ (vx_atS own ic X names).filter goodWord, w ∈ pT) (h2 : pThr own ic X names = pThrB X) (h3 : Cond.castable X X ∈ lw_tbl) (h4 : pThrD) : ∀ w ∈ vx_atS own ic X names, w.before args s = true :=
  vx_hat (B := pThrB X) (fun w hw => hx.1 w (h1 w hw) args) (fun w hw => by rw [← h2]; exact hw) (vx_c (va_Nw.use rfl (hx.2.2.2.2.2.2.1 _ h4.1)) (vx_c (va_Nw.use rfl (hx.2.2.2.2.2.2.1 _ h4.2.1)) (vx_c (va_Nw.use rfl (hx.2.2.2.2.2.2.1 _ h4.2.2)) (vx_c (va_Nw.use rfl (hx.2.2.2.2.2.1 _ _ h3)) vx_n))))
theorem s_throwS (hh : M.hh = []) {own X text : String} {names : List String} {ik is ic : Nat} (ho : own = M.y.cls) (hcls : Bundle.fit X = true) (hnames : ∀ n ∈ names, Bundle.fit n = true) (hnl : names.length ≤ 3) (h1 : Cond.classLink own ik X ∈ pT) (h2 : Cond.initialized X ∈ pT) (h3 : Cond.stringRef own is text ∈ lw_tbl)
    (h4 : ∀ w ∈ (vx_atS own ic X names).filter goodWord, w ∈ pT) (h5 : pThr own ic X names = pThrB X) (h6 : Cond.castable X X ∈ lw_tbl) (h8 : pThrD) (h7 : ∀ w ∈ Cond.classLink own ik X :: Cond.initialized X :: vx_atS own ic X names, vx_ot w = true)
    (d0 : decode M.cc pc = .ok (.new ik, 3)) (d3 : decode M.cc (pc + 3) = .ok (.dup, 1)) (d4 : decode M.cc (pc + 4) = .ok (.ldc is, 2)) (d6 : decode M.cc (pc + 6) = .ok (.invokespecial ic, 3)) (d9 : decode M.cc (pc + 9) = .ok (.athrow, 1)) : pNext E M d Q pc (i_throw M.mc M.ms Q X) := by
  intro ls st σ h p e s m args below meth c H locs la C R S L
  obtain ⟨hw, hmc, hms, hq⟩ := h
  have hx := C.2.2.2.2.2.2.2.2
  subst ho
  refine vx_throwS C.1 C.2.1 hx.2.2.2.2.2.2.2.2.2.2.2.2.2.2 C.2.2.2.1 hcls hnames (hx.1 _ h1 args) (hx.1 _ h2 args) (hx.2.2.2.2.1 _ _ _ h3) (pHat hx h4 h5 h6 h8) h7 hx.2.2.2.2.2.2.2.2.2.2.1 hx.2.2.2.2.2.2.2.2.2.2.2.1 S (L.size.trans C.2.2.1.symm) d0 d3 d4 d6 d9 (pNoTab hh C) (by show _ < d + 12; omega) (by show pwt st + _ ≤ (d + 12) * 60; omega) hmc hms C.2.2.2.2.2.1 ?_ S.2.2 hmc hms
  intro t hal hz ho
  exact ⟨σ.1, t.heap.size, (R.grow hz ho).moved hal, ⟨Nat.le_trans S.1 hz, fun q g1 g2 => (ho q (Nat.lt_of_lt_of_le g1 S.1)).trans (S.2.1 q g1 g2)⟩, hq _ (by rw [← R.1]; exact hz)⟩
theorem s_throwSW (hh : M.hh = []) {own X text : String} {names : List String} {ik is ic : Nat} (ho : own = M.y.cls) (hcls : Bundle.fit X = true) (hnames : ∀ n ∈ names, Bundle.fit n = true) (hnl : names.length ≤ 3) (h1 : Cond.classLink own ik X ∈ pT) (h2 : Cond.initialized X ∈ pT) (h3 : Cond.stringRef own is text ∈ lw_tbl)
    (h4 : ∀ w ∈ (vx_atS own ic X names).filter goodWord, w ∈ pT) (h5 : pThr own ic X names = pThrB X) (h6 : Cond.castable X X ∈ lw_tbl) (h8 : pThrD) (h7 : ∀ w ∈ Cond.classLink own ik X :: Cond.initialized X :: vx_atS own ic X names, vx_ot w = true)
    (d0 : decode M.cc pc = .ok (.new ik, 3)) (d3 : decode M.cc (pc + 3) = .ok (.dup, 1)) (d4 : decode M.cc (pc + 4) = .ok (.ldc_w is, 3)) (d7 : decode M.cc (pc + 7) = .ok (.invokespecial ic, 3)) (d10 : decode M.cc (pc + 10) = .ok (.athrow, 1)) : pNext E M d Q pc (i_throw M.mc M.ms Q X) := by
  intro ls st σ h p e s m args below meth c H locs la C R S L
  obtain ⟨hw, hmc, hms, hq⟩ := h
  have hx := C.2.2.2.2.2.2.2.2
  subst ho
  refine vx_throwSW C.1 C.2.1 hx.2.2.2.2.2.2.2.2.2.2.2.2.2.2 C.2.2.2.1 hcls hnames (hx.1 _ h1 args) (hx.1 _ h2 args) (hx.2.2.2.2.1 _ _ _ h3) (pHat hx h4 h5 h6 h8) h7 hx.2.2.2.2.2.2.2.2.2.2.1 hx.2.2.2.2.2.2.2.2.2.2.2.1 S (L.size.trans C.2.2.1.symm) d0 d3 d4 d7 d10 (pNoTab hh C) (by show _ < d + 12; omega) (by show pwt st + _ ≤ (d + 12) * 60; omega) hmc hms C.2.2.2.2.2.1 ?_ S.2.2 hmc hms
  intro t hal hz ho
  exact ⟨σ.1, t.heap.size, (R.grow hz ho).moved hal, ⟨Nat.le_trans S.1 hz, fun q g1 g2 => (ho q (Nat.lt_of_lt_of_le g1 S.1)).trans (S.2.1 q g1 g2)⟩, hq _ (by rw [← R.1]; exact hz)⟩
/-! switches: ks gives the place for a number -/
def i_tsw (lo hi : Int) (ks : List PK) (kd : PK) : PK := fun ls st σ => match st with
  | .int x :: r => (¬ x.toInt < lo → ¬ hi < x.toInt → (ks.getD (x.toInt - lo).toNat (fun _ _ _ => False)) ls r σ) ∧ (x.toInt < lo ∨ hi < x.toInt → kd ls r σ)
  | _ => False
theorem s_tsw {lo hi dflt : Int} {offs : Array Int} {len : Nat} {ks : List PK} {kd : PK} {tg : List Nat} {td : Nat} (hd : decode M.cc pc = .ok (.tableswitch dflt lo hi offs, len)) (hlen : ks.length = tg.length) (ho : offs.toList.map (fun o => (pc : Int) + o) = tg.map (fun (z : Nat) => (z : Int))) (htd : (pc : Int) + dflt = (td : Int))
    (hks : ∀ i : Nat, (h : i < tg.length) → pNext E M d Q (tg[i]) (ks.getD i (fun _ _ _ => False))) (hkd : pNext E M d Q td kd) : pNext E M d Q pc (i_tsw lo hi ks kd) := by
  intro ls st σ h p e s m args below meth c H locs la C R S L
  unfold i_tsw at h
  split at h
  · rename_i x r
    by_cases h1 : x.toInt < lo
    · exact lv_tableOut C.1 C.2.1 hd (Or.inl h1) htd (hkd _ _ _ (h.2 (Or.inl h1)) p e s m args below meth c H locs la C R S L)
    · by_cases h2 : hi < x.toInt
      · exact lv_tableOut C.1 C.2.1 hd (Or.inr h2) htd (hkd _ _ _ (h.2 (Or.inr h2)) p e s m args below meth c H locs la C R S L)
      · have h3 := h.1 h1 h2
        by_cases h4 : (x.toInt - lo).toNat < tg.length
        · have hz : (offs.toList.map (fun o => (pc : Int) + o))[(x.toInt - lo).toNat]? = some ((tg[(x.toInt - lo).toNat] : Nat) : Int) := by
            rw [ho, List.getElem?_map, List.getElem?_eq_getElem h4]; rfl
          rw [List.getElem?_map] at hz
          obtain ⟨off, e1, e2⟩ := Option.map_eq_some_iff.mp hz
          exact lv_tableIn C.1 C.2.1 hd h1 h2 (by rw [← Array.getElem?_toList]; exact e1) e2 (hks _ h4 _ _ _ h3 p e s m args below meth c H locs la C R S L)
        · rw [List.getD_eq_getElem?_getD, List.getElem?_eq_none (by omega)] at h3
          exact h3.elim
  · exact h.elim
/-! the script -/
def i_sald (E : PE) (k : PK) : PK := fun ls st σ => match st with
  | .int i :: .ref a :: r => a = E.sc.1 ∧ vp_in i E.sc.2.1 ∧ k ls (.int (E.sc.2.2 i.toNatClampNeg) :: r) σ
  | _ => False
theorem s_sald (hd : decode M.cc pc = .ok (.iaload, 1)) (hk : pNext E M d Q (pc + 1) k) : pNext E M d Q pc (i_sald E k) := by
  intro ls st σ h p e s m args below meth c H locs la C R S L
  unfold i_sald at h
  split at h
  · obtain ⟨rfl, hin, h⟩ := h
    have hx := C.2.2.2.2.2.2.2.2.2.2.2.2.2.2.2.2.2.2.2.2.2.1
    exact va_sld C.1 C.2.1 hx.1 hx.2.1 hx.2.2 S hin hd (hk _ _ _ h p e s m args below meth c H locs la C R S L)
  · exact h.elim
def i_slen (E : PE) (k : PK) : PK := fun ls st σ => match st with
  | .ref a :: r => a = E.sc.1 ∧ k ls (.int (Int32.ofNat E.sc.2.1) :: r) σ
  | _ => False
theorem s_slen (hd : decode M.cc pc = .ok (.arraylength, 1)) (hk : pNext E M d Q (pc + 1) k) : pNext E M d Q pc (i_slen E k) := by
  intro ls st σ h p e s m args below meth c H locs la C R S L
  unfold i_slen at h
  split at h
  · obtain ⟨rfl, h⟩ := h
    have hx := C.2.2.2.2.2.2.2.2.2.2.2.2.2.2.2.2.2.2.2.2.2.1
    exact va_slen C.1 C.2.1 hx.1 hx.2.1 hx.2.2 S hd (hk _ _ _ h p e s m args below meth c H locs la C R S L)
  · exact h.elim
/-! decoding by lists -/
def pDec (c : ByteArray) (l : List (Nat × Instr × Nat)) : Prop := ∀ q ∈ l, decode c q.1 = .ok (q.2.1, q.2.2)
theorem pDg {c : ByteArray} {l : List (Nat × Instr × Nat)} (h : pDec c l) {i pc n : Nat} {ins : Instr} (e : l[i]? = some (pc, ins, n)) : decode c pc = .ok (ins, n) := h (pc, ins, n) (List.mem_of_getElem? e)
theorem pTm {w : Cond} {i : Nat} (h : lw_tbl[i]? = some w) (hg : goodWord w = true) : w ∈ pT := List.mem_filter.mpr ⟨List.mem_of_getElem? h, hg⟩
def i_stuck : PK := fun _ _ _ => False
theorem s_stuck : pNext E M d Q pc i_stuck := fun _ _ _ h => h.elim
theorem pHere (pc : Nat) : pNext E M d Q pc (PW E M d Q pc) := fun _ _ _ h => h
def pTg (E : PE) (M : PM) (d : Nat) (Q : PQ) (tg : List Nat) (ks : List PK) : Prop := ∀ i : Nat, (h : i < tg.length) → pNext E M d Q (tg[i]) (ks.getD i (fun _ _ _ => False))
theorem pTn : pTg E M d Q [] [] := fun i h => absurd h (Nat.not_lt_zero i)
theorem pTc {t : Nat} {ts : List Nat} {ks : List PK} (h0 : pNext E M d Q t k) (hr : pTg E M d Q ts ks) : pTg E M d Q (t :: ts) (k :: ks) := fun i h => match i, h with
  | 0, _ => h0
  | i + 1, h => hr i (Nat.lt_of_succ_lt_succ h)
end MORE

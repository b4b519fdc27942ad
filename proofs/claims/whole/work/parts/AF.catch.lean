/-! methods that catch -/
section CATCH
variable {E : PE} {M : PM} {d : Nat} {Q : PQ} {pc : Nat} {k : PK}
/-- a call of a method that has a table of handlers -/
def pCallH (E : PE) (M : PM) (d : Nat) (as : List Value) (h : PH) (n : Nat) (Q : PQ) : Prop :=
  vx_Met E.l M.y [Cond.codeWith M.y M.cc M.nL M.ret M.hh] (pRoom d M.mc M.ms) (va_Pc as (fun U => pCtx E U ∧ pRep E U h n U.heap)) (pQc E Q) (pXc E Q) M.mc M.ms (pA E)
theorem pCallH_of {as : List Value} {h : PH} {n : Nat} (hy : plainName M.y.cls = true) (h1 : as.length ≤ M.nL) (h2 : ∀ v ∈ as, v.category = 1) (k : PW E M d Q 0 (pEntry M.nL as) [] (h, n, 0, 0)) : pCallH E M d as h n Q := by
  refine vx_ofWH (cc := M.cc) (maxL := M.nL) (ret := M.ret) (hh := M.hh) hy rfl ?_
  intro p e s m args below meth c s₁ B hml hP
  obtain ⟨rfl, hcx, hrep⟩ := hP
  rw [lg_entry_eq]
  refine k p e s m _ below meth c s.heap [] _ ⟨B.exec, B.bytes, hml, findClass_of_methodNamed B.named, B.returns, B.notSynchronized, vx_table (x := M.y) B (atoms_spec (ws := [Cond.codeWith M.y M.cc M.nL M.ret M.hh]) B.pre _ List.mem_cons_self), ?_, hcx⟩ hrep va_S.rf (pEntry_ls h1 h2)
  exact (name_of_methodNamed B.named B.method).1
def pOKH (M' : PM) (np : Nat) : Prop := Cond.codeWith M'.y M'.cc M'.nL M'.ret M'.hh ∈ pT ∧ Cond.initialized M'.y.cls ∈ pT ∧ (M'.y.cls ≠ "java/lang/invoke/MethodHandle" ∧ M'.y.cls ≠ "java/lang/invoke/VarHandle") ∧ (parseMethodDescriptor M'.y.desc).map (fun z => z.parameters.length) = some np ∧ M'.nL ≤ 40
def i_callsH (E : PE) (mc ms : Nat) (Q : PQ) (M' : PM) (mc' ms' d np : Nat) (k : PK) : PK := fun ls st σ => np ≤ st.length ∧ pwt (st.drop np) ≤ 8 ∧ σ.2.2.1 + mc' ≤ mc ∧ σ.2.2.2 + ms' ≤ ms ∧ pCallH E M' d (st.take np).reverse σ.1 σ.2.1 (pRetK k Q ls (st.drop np) (σ.2.2.1 + mc', σ.2.2.2 + ms'))
theorem s_callsH (hh : M.hh = []) {M' : PM} {np idx : Nat} (hO : pOKH M' np) (hi : Cond.static M'.y ∈ pT) (hl : Cond.methodLink M.y.cls idx M'.y ∈ pT) (hd : decode M.cc pc = .ok (.invokestatic idx, 3)) (hk : pNext E M (d + 1) Q (pc + 3) k) : pNext E M (d + 1) Q pc (i_callsH E M.mc M.ms Q M' M'.mc M'.ms d np k) := by
  intro ls st σ h p e s m args below meth c H locs la C R S L
  obtain ⟨hnp, hw, hmc, hms, hM⟩ := h
  have hx := C.2.2.2.2.2.2.2.2
  obtain ⟨o1, o2, o3, o4, o5⟩ := hO
  have hst2 : st = (st.take np).reverse.reverse ++ st.drop np := by rw [List.reverse_reverse, List.take_append_drop]
  have hn : (st.take np).reverse.length = np := by rw [List.length_reverse, List.length_take]; omega
  have cw : vx_CSW (pRoom (d + 1) M.mc M.ms) s args M.y.cls idx M'.y M'.cc M'.nL M'.ret M'.hh [Cond.codeWith M'.y M'.cc M'.nL M'.ret M'.hh] (pRoom d M'.mc M'.ms) M'.mc M'.ms np := by
    refine ⟨⟨rfl, rfl, by show d + 12 + 1 ≤ d + 1 + 12; omega, ?_, ?_, List.mem_cons_self⟩, hx.1 _ o1 args, hx.1 _ o2 args, o3, fun sig hs => ?_, hx.1 _ hl args, hx.1 _ hi args⟩
    · show 8 + (M'.nL + 11) + (d + 12) * 60 ≤ (d + 1 + 12) * 60
      omega
    · intro w hw a' U hW
      rw [List.mem_singleton.mp hw]
      exact word_at hW (good_of_word (pT_good o1)) (hx.1 _ o1 args)
    · rw [hs] at o4
      exact (Option.some.inj o4).symm
  refine pRunW (vx_runSX ⟨C.1, C.2.1, C.2.2.1, C.2.2.2.1, fun w hw => hx.1 w hw args⟩ hM cw ⟨pBlind, fun U hU hW => pPre hx R S hU hW⟩ rfl hn L.size hst2 (by show 2 * 0 + pwt _ ≤ 8; omega) hd ⟨hmc, hms⟩) S ?_ ?_
  · intro v h' n' H1 locs1 hq R1 S1
    cases v with
    | none => exact hk _ _ _ hq p e s m args below meth c H1 locs1 la C R1 S1 L
    | some v => exact hk _ _ _ hq p e s m args below meth c H1 locs1 la C R1 S1 L
  · intro X q ce h' n' H1 locs1 hq R1 S1 h1 h2 h3
    exact vx_out (pNoTab hh C) C.2.2.2.2.2.1 h1 h2 h3 (fun t ht hal => ⟨h', n', by rw [ht]; exact R1.moved hal, pF ht S1, hq⟩) S1.2.2 hmc hms
/-- the five that are caught -/
def N5 : List String := ["java/lang/IllegalArgumentException", "java/lang/UnsupportedOperationException", "java/lang/IndexOutOfBoundsException", "java/util/NoSuchElementException", "java/lang/IllegalStateException"]
theorem N5_nc : ∀ a ∈ N5, ∀ b ∈ N5, a ≠ b → (a, b) ∈ pNC := by decide +kernel
/-- the rows of a table: what is caught, where it goes on, its number in the class's table -/
def hPc (hs : List (String × Nat × Nat)) (X : String) : Option Nat := match hs with
  | [] => none
  | q :: t => if q.1 = X then some q.2.1 else hPc t X
def pRetC (kk : Nat → PK) (k : PK) (hs : List (String × Nat × Nat)) (ls : PL) (r : List Value) (cs : Nat × Nat) : PQ := fun o h n => match o with
  | .inl none => k ls r (h, n, cs)
  | .inl (some v) => k ls (v :: r) (h, n, cs)
  | .inr X => match hPc hs X with
    | some z => ∀ q : Nat, kk z ls [.ref q] (h, n, cs)
    | none => False
def i_callvC (E : PE) (mc ms : Nat) (M' : PM) (mc' ms' d ci np : Nat) (hs : List (String × Nat × Nat)) (kk : Nat → PK) (k : PK) : PK := fun ls st σ => match st.drop np with
  | .ref b :: r => (match σ.1 b with | some (.inr x) => x.1 = ci | _ => False) ∧ pwt r ≤ 8 ∧ σ.2.2.1 + mc' ≤ mc ∧ σ.2.2.2 + ms' ≤ ms ∧ pCall E M' d (.ref b :: (st.take np).reverse) σ.1 σ.2.1 (pRetC kk k hs ls r (σ.2.2.1 + mc', σ.2.2.2 + ms'))
  | _ => False
def hRow (en : Nat) (q : String × Nat × Nat) : Nat × Nat × Nat × Nat := (0, en, q.2.1, q.2.2)
def hOK (own : String) (q : String × Nat × Nat) : Prop := q.1 ∈ N5 ∧ q.2.2 ≠ 0 ∧ Cond.classLink own q.2.2 q.1 ∈ pT ∧ Cond.castable q.1 q.1 ∈ lw_tbl
theorem pCatch {p : Program} {l : Launch} {e : Env} {R : Room} {s : State} {m : MethodId} {args : Array Value} {below : List Frame} {meth : Method} {c : Code} {H : Heap} {locs : List Loc} {cells slots en pc : Nat} {Z : State → Prop} {la : Array Slot} {r : List Value} {q : Nat} {ce : Cell} {X own : String}
    (hx : pCtx E s) (hown : s.vm.findClass own = some m.cls) (hpc : pc < en) (hX : X ∈ N5) (h1 : H[q]? = some ce) (h2 : ce.vm = .none) (h3 : s.vm.findClass X = some ce.cls) :
    ∀ (hs : List (String × Nat × Nat)) (pre : List ExceptionTableEntry), (∀ z ∈ hs, hOK own z) → c.exceptionTable.toList = pre ++ tableOf (hs.map (hRow en)) →
      (∀ z ∈ pre, covers z pc = false ∨ (z.catchType ≠ 0 ∧ ∃ nm : String, (Cond.classLink own z.catchType nm).before args s = true ∧ va_Nc X nm s)) →
      ∀ z, hPc hs X = some z → W p l e R s m args below meth c H locs cells slots Z (F0 m z la [.ref q]) → vx_W p l e R s m args below meth c H locs cells slots Z (F0 m pc la r) q := by
  intro hs
  induction hs with
  | nil => intro pre _ _ _ z hz; cases hz
  | cons a t ih =>
    intro pre hok hsp hpass z hz kk
    obtain ⟨a1, a2, a3, a4⟩ := hok a List.mem_cons_self
    have hsp' : c.exceptionTable.toList = pre ++ (⟨0, en, a.2.1, a.2.2⟩ : ExceptionTableEntry) :: tableOf (t.map (hRow en)) := hsp
    unfold hPc at hz
    by_cases ea : a.1 = X
    · rw [if_pos ea] at hz
      cases hz
      refine vx_catch hown pre _ _ hsp' hpass ?_ a2 (hx.1 _ a3 args) ?_ h1 h2 h3 kk
      · simp [covers, hpc]
      · have := hx.2.2.2.2.2.1 _ _ a4
        rw [← ea]
        exact va_Nw.use rfl this
    · rw [if_neg ea] at hz
      refine ih (pre ++ [⟨0, en, a.2.1, a.2.2⟩]) (fun z hz => hok z (List.mem_cons_of_mem _ hz)) (by rw [hsp', List.append_assoc]; rfl) (fun y hy => ?_) z hz kk
      rcases List.mem_append.mp hy with hy | hy
      · exact hpass y hy
      · rw [List.mem_singleton.mp hy]
        exact Or.inr ⟨a2, a.1, hx.1 _ a3 args, hx.2.2.2.2.2.2.2.2.1 (X, a.1) (N5_nc X hX a.1 a1 (fun q => ea q.symm))⟩
theorem s_callvC {M' : PM} {ci np idx en : Nat} {r0 : vw_C} {hs : List (String × Nat × Nat)} (hhs : M.hh = hs.map (hRow en)) (hok : ∀ z ∈ hs, hOK M.y.cls z) (hpc : pc < en) (hO : pOK M' np) (hi : Cond.instanceMethod M'.y ∈ pT) (hsel : Cond.selects M'.y.cls M'.y M'.y ∈ pT) (hc : vwCl[ci]? = some r0) (hcl : r0.1 = M'.y.cls) (hl : Cond.methodLink M.y.cls idx M'.y ∈ pT) (hd : decode M.cc pc = .ok (.invokevirtual idx, 3)) (hk : pNext E M (d + 1) Q (pc + 3) k) : pNext E M (d + 1) Q pc (i_callvC E M.mc M.ms M' M'.mc M'.ms d ci np hs (PW E M (d + 1) Q) k) := by
  intro ls st σ h p e s m args below meth c H locs la C R S L
  unfold i_callvC at h
  split at h
  · rename_i b r hst
    obtain ⟨hb, hw, hmc, hms, hM⟩ := h
    have hx := C.2.2.2.2.2.2.2.2
    have hst2 : st = (st.take np).reverse.reverse ++ .ref b :: r := by rw [List.reverse_reverse, ← hst, List.take_append_drop]
    have hn : (st.take np).reverse.length = np := by
      rw [List.length_reverse, List.length_take]
      have : (st.drop np).length = r.length + 1 := by rw [hst]; rfl
      rw [List.length_drop] at this
      omega
    split at hb
    · rename_i x hxb
      obtain ⟨ci', fs⟩ := x
      subst hb
      obtain ⟨hB, hat, r1, hr1, -⟩ := R.2 b _ hxb
      have hrc : ∃ cellB : Cell, H[b]? = some cellB ∧ cellB.vm.isStatics = false ∧ s.vm.findClass M'.y.cls = some cellB.cls := by
        rw [← hcl]
        exact va_recv hx.2.1 (pP1 hat) (q0 := 0) hc rfl
      refine pRunW (vx_runV ⟨C.1, C.2.1, C.2.2.1, C.2.2.2.1, fun w hw => hx.1 w hw args⟩ hM ⟨pCallB hx hO hl, hx.1 _ hi args, hx.1 _ hsel args⟩ ⟨pBlind, hrc, fun U hU hW => pPre hx R S hU hW⟩ rfl hn L.size hst2 (by show 2 * 0 + pwt r ≤ 8; omega) hd ⟨hmc, hms⟩) S ?_ ?_
      · intro v h' n' H1 locs1 hq R1 S1
        cases v with
        | none => exact hk _ _ _ hq p e s m args below meth c H1 locs1 la C R1 S1 L
        | some v => exact hk _ _ _ hq p e s m args below meth c H1 locs1 la C R1 S1 L
      · intro X q ce h' n' H1 locs1 hq R1 S1 h1 h2 h3
        have hq' : match hPc hs X with | some z => ∀ q : Nat, PW E M (d + 1) Q z ls [.ref q] (h', n', (σ.2.2.1 + M'.mc, σ.2.2.2 + M'.ms)) | none => False := hq
        cases ez : hPc hs X with
        | none => rw [ez] at hq'; exact hq'.elim
        | some z =>
          rw [ez] at hq'
          have hX : X ∈ N5 := by
            clear hq hq' hst2 hM
            revert ez
            clear hhs
            induction hs with
            | nil => intro ez; cases ez
            | cons a t ih =>
              intro ez
              unfold hPc at ez
              by_cases ea : a.1 = X
              · rw [← ea]; exact (hok a List.mem_cons_self).1
              · rw [if_neg ea] at ez
                exact ih (fun z hz => hok z (List.mem_cons_of_mem _ hz)) ez
          refine pCatch hx C.2.2.2.1 hpc hX h1 h2 h3 hs [] hok (by rw [C.2.2.2.2.2.2.1, hhs]; rfl) (fun y hy => nomatch hy) z ez ?_
          exact hq' q p e s m args below meth c H1 locs1 la C R1 S1 L
    · exact hb.elim
  · exact h.elim
end CATCH

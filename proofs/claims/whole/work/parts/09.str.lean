/-! STRINGS: their methods walked over the bytes that the Statement gives of the constants -/
section STR
variable {E : PE} {M : PM} {d : Nat} {Q : PQ} {pc : Nat} {k kt : PK}
def i_scod (E : PE) (k : PK) : PK := fun ls st σ => match st with
  | .ref a :: r => (∃ q, E.sb a = some q) ∧ k ls (.int 0 :: r) σ
  | _ => False
theorem s_scod {idx : Nat} (hl : Cond.fieldLink M.y.cls idx "java/lang/String" "coder" "B" ∈ pT) (hd : decode M.cc pc = .ok (.getfield idx, 3)) (hk : pNext E M d Q (pc + 3) k) : pNext E M d Q pc (i_scod E k) := by
  intro ls st σ h p e s m args below meth c H locs la C R S L
  unfold i_scod at h
  split at h
  · obtain ⟨⟨⟨v, bs⟩, hq⟩, h⟩ := h
    have hx := C.2.2.2.2.2.2.2.2
    exact vk_getf C.1 C.2.1 (hx.2.2.2.2.2.2.2.2.2.1 _ _ _ hq).2.1 S C.2.2.2.1 (hx.1 _ hl args) (fun _ h => h) hd (hk _ _ _ h p e s m args below meth c H locs la C R S L)
  · exact h.elim
def i_sval (E : PE) (k : PK) : PK := fun ls st σ => match st with
  | .ref a :: r => match E.sb a with
    | some q => k ls (.ref q.1 :: r) σ
    | none => False
  | _ => False
theorem s_sval {idx : Nat} (hl : Cond.fieldLink M.y.cls idx "java/lang/String" "value" "[B" ∈ pT) (hd : decode M.cc pc = .ok (.getfield idx, 3)) (hk : pNext E M d Q (pc + 3) k) : pNext E M d Q pc (i_sval E k) := by
  intro ls st σ h p e s m args below meth c H locs la C R S L
  unfold i_sval at h
  split at h
  · split at h
    · rename_i q hq
      obtain ⟨v, bs⟩ := q
      have hx := C.2.2.2.2.2.2.2.2
      exact vk_getf C.1 C.2.1 (hx.2.2.2.2.2.2.2.2.2.1 _ _ _ hq).2.2.1 S C.2.2.2.1 (hx.1 _ hl args) (fun _ h => h) hd (hk _ _ _ h p e s m args below meth c H locs la C R S L)
    · exact h.elim
  · exact h.elim
def i_vlen (E : PE) (k : PK) : PK := fun ls st σ => match st with
  | .ref v :: r => ∃ a bs, E.sb a = some (v, bs) ∧ k ls (.int (Int32.ofNat bs.length) :: r) σ
  | _ => False
theorem s_vlen (hd : decode M.cc pc = .ok (.arraylength, 1)) (hk : pNext E M d Q (pc + 1) k) : pNext E M d Q pc (i_vlen E k) := by
  intro ls st σ h p e s m args below meth c H locs la C R S L
  unfold i_vlen at h
  split at h
  · obtain ⟨a, bs, hq, h⟩ := h
    have hx := C.2.2.2.2.2.2.2.2
    exact va_tlen C.1 C.2.1 (hx.2.2.2.2.2.2.2.2.2.1 _ _ _ hq).2.2.2 S rfl hd (hk _ _ _ h p e s m args below meth c H locs la C R S L)
  · exact h.elim
def i_vbald (E : PE) (k : PK) : PK := fun ls st σ => match st with
  | .int i :: .ref v :: r => ∃ a bs, E.sb a = some (v, bs) ∧ vp_in i bs.length ∧ k ls (.int (bs.getD i.toNatClampNeg 0) :: r) σ
  | _ => False
theorem s_vbald (hd : decode M.cc pc = .ok (.baload, 1)) (hk : pNext E M d Q (pc + 1) k) : pNext E M d Q pc (i_vbald E k) := by
  intro ls st σ h p e s m args below meth c H locs la C R S L
  unfold i_vbald at h
  split at h
  · obtain ⟨a, bs, hq, hin, h⟩ := h
    have hx := C.2.2.2.2.2.2.2.2
    exact va_tb C.1 C.2.1 (hx.2.2.2.2.2.2.2.2.2.1 _ _ _ hq).2.2.2 S hin rfl hd (hk _ _ _ h p e s m args below meth c H locs la C R S L)
  · exact h.elim
def i_gcs (k : PK) : PK := fun ls st σ => k ls (.int 1 :: st) σ
theorem s_gcs {idx : Nat} (hl : Cond.fieldLink M.y.cls idx "java/lang/String" "COMPACT_STRINGS" "Z" ∈ pT) (hd : decode M.cc pc = .ok (.getstatic idx, 3)) (hk : pNext E M d Q (pc + 3) k) : pNext E M d Q pc (i_gcs k) := fun ls st σ h p e s m args below meth c H locs la C R S L =>
  va_gets C.1 C.2.1 C.2.2.2.2.2.2.2.2.2.2.2.2.2.2.2.2.2.2.2.2.1.1 S C.2.2.2.1 (C.2.2.2.2.2.2.2.2.1 _ hl args) (fun _ h => h) hd (hk _ _ _ h p e s m args below meth c H locs la C R S L)
def i_gsio (k : PK) : PK := fun ls st σ => k ls (.null :: st) σ ∧ ∀ t : Nat, k ls (.ref t :: st) σ
theorem s_gsio {idx : Nat} (hl : Cond.fieldLink M.y.cls idx "jdk/internal/util/Preconditions" "SIOOBE_FORMATTER" "Ljava/util/function/BiFunction;" ∈ pT) (hd : decode M.cc pc = .ok (.getstatic idx, 3)) (hk : pNext E M d Q (pc + 3) k) : pNext E M d Q pc (i_gsio k) := by
  intro ls st σ h p e s m args below meth c H locs la C R S L
  rcases C.2.2.2.2.2.2.2.2.2.2.2.2.2.2.2.2.2.2.2.2.1.2 with hz | ⟨t, hz⟩
  · exact va_gets C.1 C.2.1 hz S C.2.2.2.1 (C.2.2.2.2.2.2.2.2.1 _ hl args) (fun _ h => h) hd (hk _ _ _ h.1 p e s m args below meth c H locs la C R S L)
  · exact va_gets C.1 C.2.1 hz S C.2.2.2.1 (C.2.2.2.2.2.2.2.2.1 _ hl args) (fun _ h => h) hd (hk _ _ _ (h.2 t) p e s m args below meth c H locs la C R S L)
def i_nret (ty : FieldType) (mc ms : Nat) (Q : PQ) : PK := fun _ st σ => match st with
  | [.int v] => narrow ty (.int v) = .int v ∧ σ.2.2.1 ≤ mc ∧ σ.2.2.2 ≤ ms ∧ Q (.inl (some (.int v))) σ.1 σ.2.1
  | _ => False
theorem s_nret {ty : FieldType} (hr : M.ret = some ty) (hd : decode M.cc pc = .ok (.ireturn, 1)) : pNext E M d Q pc (i_nret ty M.mc M.ms Q) := by
  intro ls st σ h p e s m args below meth c H locs la C R S L
  unfold i_nret at h
  split at h
  · obtain ⟨hv, h1, h2, h3⟩ := h
    exact W.widen h1 h2 (vx_ret (W.zret C.1 C.2.1 (C.2.2.2.2.1.trans hr) hv (fun t ht hW => ⟨_, _, _, rfl, by rw [ht]; exact R.moved hW.alike, pF ht S, h3⟩) S.2.2 hd C.2.2.2.2.2.1))
  · exact h.elim
def i_callvs (E : PE) (mc ms : Nat) (Q : PQ) (M' : PM) (mc' ms' d np : Nat) (k : PK) : PK := fun ls st σ => match st.drop np with
  | .ref b :: r => (∃ q, E.sb b = some q) ∧ pwt r ≤ 8 ∧ σ.2.2.1 + mc' ≤ mc ∧ σ.2.2.2 + ms' ≤ ms ∧ pCall E M' d (.ref b :: (st.take np).reverse) σ.1 σ.2.1 (pRetK k Q ls r (σ.2.2.1 + mc', σ.2.2.2 + ms'))
  | _ => False
theorem s_callvs (hh : M.hh = []) {M' : PM} {np idx : Nat} (hO : pOK M' np) (hi : Cond.instanceMethod M'.y ∈ pT) (hsel : Cond.selects M'.y.cls M'.y M'.y ∈ pT) (hcl : M'.y.cls = "java/lang/String") (hl : Cond.methodLink M.y.cls idx M'.y ∈ pT) (hd : decode M.cc pc = .ok (.invokevirtual idx, 3)) (hk : pNext E M (d + 1) Q (pc + 3) k) : pNext E M (d + 1) Q pc (i_callvs E M.mc M.ms Q M' M'.mc M'.ms d np k) := by
  intro ls st σ h p e s m args below meth c H locs la C R S L
  unfold i_callvs at h
  split at h
  · rename_i b r hst
    obtain ⟨⟨⟨v, bs⟩, hb⟩, hw, hmc, hms, hM⟩ := h
    have hx := C.2.2.2.2.2.2.2.2
    have hst2 : st = (st.take np).reverse.reverse ++ .ref b :: r := by rw [List.reverse_reverse, ← hst, List.take_append_drop]
    have hn : (st.take np).reverse.length = np := by
      rw [List.length_reverse, List.length_take]
      have : (st.drop np).length = r.length + 1 := by rw [hst]; rfl
      rw [List.length_drop] at this
      omega
    have hrc : ∃ cellB : Cell, H[b]? = some cellB ∧ cellB.vm.isStatics = false ∧ s.vm.findClass M'.y.cls = some cellB.cls := by
      rw [hcl]
      obtain ⟨cell, h1, h2, h3, -⟩ := (hx.2.2.2.2.2.2.2.2.2.1 _ _ _ hb).1.kept S.2.1
      exact ⟨cell, h1, h2, h3⟩
    refine pRunW (vx_runV ⟨C.1, C.2.1, C.2.2.1, C.2.2.2.1, fun w hw => hx.1 w hw args⟩ hM ⟨pCallB hx hO hl, hx.1 _ hi args, hx.1 _ hsel args⟩ ⟨pBlind, hrc, fun U hU hW => pPre hx R S hU hW⟩ rfl hn L.size hst2 (by show 2 * 0 + pwt r ≤ 8; omega) hd ⟨hmc, hms⟩) S ?_ ?_
    · intro v h' n' H1 locs1 hq R1 S1
      cases v with
      | none => exact hk _ _ _ hq p e s m args below meth c H1 locs1 la C R1 S1 L
      | some v => exact hk _ _ _ hq p e s m args below meth c H1 locs1 la C R1 S1 L
    · intro X q ce h' n' H1 locs1 hq R1 S1 h1 h2 h3
      exact vx_out (pNoTab hh C) C.2.2.2.2.2.1 h1 h2 h3 (fun t ht hal => ⟨h', n', by rw [ht]; exact R1.moved hal, pF ht S1, hq⟩) S1.2.2 hmc hms
  · exact h.elim
end STR

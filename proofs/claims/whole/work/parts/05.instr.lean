/-! INSTRUCTIONS: each a transformer of what must hold behind it; its row: what it says holds of the machine -/
section INSTR
variable {E : PE} {M : PM} {d : Nat} {Q : PQ} {pc : Nat} {k kt : PK}
abbrev pNext (E : PE) (M : PM) (d : Nat) (Q : PQ) (pc : Nat) (k : PK) : Prop := ∀ (ls : PL) (st : List Value) (σ : PS), k ls st σ → PW E M d Q pc ls st σ
def i_const (v : Int32) (k : PK) : PK := fun ls st σ => k ls (.int v :: st) σ
theorem s_iconst {n : Int} {v : Int32} (hd : decode M.cc pc = .ok (.iconst n, 1)) (hv : Int32.ofInt n = v) (hk : pNext E M d Q (pc + 1) k) : pNext E M d Q pc (i_const v k) := fun ls st σ h p e s m args below meth c H locs la C R S L => lv_iconst C.1 C.2.1 hd hv (hk _ _ _ h p e s m args below meth c H locs la C R S L)
theorem s_bipush {n : Int} {v : Int32} (hd : decode M.cc pc = .ok (.bipush n, 2)) (hv : (Int8.ofInt n).toInt32 = v) (hk : pNext E M d Q (pc + 2) k) : pNext E M d Q pc (i_const v k) := fun ls st σ h p e s m args below meth c H locs la C R S L => lv_bipush C.1 C.2.1 hd hv (hk _ _ _ h p e s m args below meth c H locs la C R S L)
theorem s_sipush {n : Int} {v : Int32} (hd : decode M.cc pc = .ok (.sipush n, 3)) (hv : (Int16.ofInt n).toInt32 = v) (hk : pNext E M d Q (pc + 3) k) : pNext E M d Q pc (i_const v k) := fun ls st σ h p e s m args below meth c H locs la C R S L => lv_sipush C.1 C.2.1 hd hv (hk _ _ _ h p e s m args below meth c H locs la C R S L)
theorem s_ldc {i : Nat} {v : Int32} (hw : Cond.constant M.y.cls i v ∈ pT) (hd : decode M.cc pc = .ok (.ldc i, 2)) (hk : pNext E M d Q (pc + 2) k) : pNext E M d Q pc (i_const v k) := fun ls st σ h p e s m args below meth c H locs la C R S L => lv_ldc C.1 C.2.1 C.2.2.2.1 (C.2.2.2.2.2.2.2.2.1 _ hw args) hd (hk _ _ _ h p e s m args below meth c H locs la C R S L)
theorem s_ldcw {i : Nat} {v : Int32} (hw : Cond.constant M.y.cls i v ∈ pT) (hd : decode M.cc pc = .ok (.ldc_w i, 3)) (hk : pNext E M d Q (pc + 3) k) : pNext E M d Q pc (i_const v k) := fun ls st σ h p e s m args below meth c H locs la C R S L => lv_ldcw C.1 C.2.1 C.2.2.2.1 (C.2.2.2.2.2.2.2.2.1 _ hw args) hd (hk _ _ _ h p e s m args below meth c H locs la C R S L)
def i_ldcs (E : PE) (own : String) (i : Nat) (k : PK) : PK := fun ls st σ => k ls (.ref (E.sa own i) :: st) σ
theorem s_ldcs {i : Nat} {tx : String} (hw : Cond.stringRef M.y.cls i tx ∈ lw_tbl) (hd : decode M.cc pc = .ok (.ldc i, 2)) (hk : pNext E M d Q (pc + 2) k) : pNext E M d Q pc (i_ldcs E M.y.cls i k) := fun ls st σ h p e s m args below meth c H locs la C R S L => va_ldcS C.1 C.2.1 C.2.2.2.1 (C.2.2.2.2.2.2.2.2.2.2.2.2.1 _ _ _ hw) hd (hk _ _ _ h p e s m args below meth c H locs la C R S L)
def i_null (k : PK) : PK := fun ls st σ => k ls (.null :: st) σ
theorem s_null (hd : decode M.cc pc = .ok (.aconst_null, 1)) (hk : pNext E M d Q (pc + 1) k) : pNext E M d Q pc (i_null k) := fun ls st σ h p e s m args below meth c H locs la C R S L => lv_null C.1 C.2.1 hd (hk _ _ _ h p e s m args below meth c H locs la C R S L)
def i_load (i : Nat) (k : PK) : PK := fun ls st σ => match ls[i]? with
  | some (some (.int x)) => k ls (.int x :: st) σ
  | _ => False
def i_aload (i : Nat) (k : PK) : PK := fun ls st σ => match ls[i]? with
  | some (some (.ref x)) => k ls (.ref x :: st) σ
  | _ => False
theorem s_iload_n {j : Fin 4} {i : Nat} (hd : decode M.cc pc = .ok (.iload_n j, 1)) (hi : (j : Nat) = i) (hk : pNext E M d Q (pc + 1) k) : pNext E M d Q pc (i_load i k) := by
  intro ls st σ h p e s m args below meth c H locs la C R S L
  unfold i_load at h
  split at h
  · rename_i x hx
    exact lv_iload_n C.1 C.2.1 hd hi (L.get hx) (hk _ _ _ h p e s m args below meth c H locs la C R S L)
  · exact h.elim
theorem s_iload {i : Nat} (hd : decode M.cc pc = .ok (.iload i, 2)) (hk : pNext E M d Q (pc + 2) k) : pNext E M d Q pc (i_load i k) := by
  intro ls st σ h p e s m args below meth c H locs la C R S L
  unfold i_load at h
  split at h
  · rename_i x hx
    exact lv_iload C.1 C.2.1 hd (L.get hx) (hk _ _ _ h p e s m args below meth c H locs la C R S L)
  · exact h.elim
theorem s_aload_n {j : Fin 4} {i : Nat} (hd : decode M.cc pc = .ok (.aload_n j, 1)) (hi : (j : Nat) = i) (hk : pNext E M d Q (pc + 1) k) : pNext E M d Q pc (i_aload i k) := by
  intro ls st σ h p e s m args below meth c H locs la C R S L
  unfold i_aload at h
  split at h
  · rename_i x hx
    exact lv_aload_n C.1 C.2.1 hd hi (L.get hx) (hk _ _ _ h p e s m args below meth c H locs la C R S L)
  · exact h.elim
theorem s_aload {i : Nat} (hd : decode M.cc pc = .ok (.aload i, 2)) (hk : pNext E M d Q (pc + 2) k) : pNext E M d Q pc (i_aload i k) := by
  intro ls st σ h p e s m args below meth c H locs la C R S L
  unfold i_aload at h
  split at h
  · rename_i x hx
    exact lv_aload C.1 C.2.1 hd (L.get hx) (hk _ _ _ h p e s m args below meth c H locs la C R S L)
  · exact h.elim
def i_store (i : Nat) (k : PK) : PK := fun ls st σ => match st with
  | .int x :: r => i < ls.length ∧ k (ls.set i (some (.int x))) r σ
  | _ => False
def i_astore (i : Nat) (k : PK) : PK := fun ls st σ => match st with
  | .ref x :: r => i < ls.length ∧ k (ls.set i (some (.ref x))) r σ
  | _ => False
def i_inc (i : Nat) (v : Int32) (k : PK) : PK := fun ls st σ => match ls[i]? with
  | some (some (.int x)) => k (ls.set i (some (.int (x + v)))) st σ
  | _ => False
theorem s_istore_n {j : Fin 4} {i : Nat} (hd : decode M.cc pc = .ok (.istore_n j, 1)) (hi : (j : Nat) = i) (hk : pNext E M d Q (pc + 1) k) : pNext E M d Q pc (i_store i k) := by
  intro ls st σ h p e s m args below meth c H locs la C R S L
  unfold i_store at h
  split at h
  · have hn := h.1
    rw [L.1] at hn
    exact lv_istore_n C.1 C.2.1 hd hi L.2.1 hn rfl (fun la' h' => hk _ _ _ h.2 p e s m args below meth c H locs la' C R S (L.put hn rfl h'))
  · exact h.elim
theorem s_istore {i : Nat} (hd : decode M.cc pc = .ok (.istore i, 2)) (hk : pNext E M d Q (pc + 2) k) : pNext E M d Q pc (i_store i k) := by
  intro ls st σ h p e s m args below meth c H locs la C R S L
  unfold i_store at h
  split at h
  · have hn := h.1
    rw [L.1] at hn
    exact lv_istore C.1 C.2.1 hd L.2.1 hn rfl (fun la' h' => hk _ _ _ h.2 p e s m args below meth c H locs la' C R S (L.put hn rfl h'))
  · exact h.elim
theorem s_astore_n {j : Fin 4} {i : Nat} (hd : decode M.cc pc = .ok (.astore_n j, 1)) (hi : (j : Nat) = i) (hk : pNext E M d Q (pc + 1) k) : pNext E M d Q pc (i_astore i k) := by
  intro ls st σ h p e s m args below meth c H locs la C R S L
  unfold i_astore at h
  split at h
  · have hn := h.1
    rw [L.1] at hn
    exact lv_astore_n C.1 C.2.1 hd hi L.2.1 hn rfl (fun la' h' => hk _ _ _ h.2 p e s m args below meth c H locs la' C R S (L.put hn rfl h'))
  · exact h.elim
theorem s_astore {i : Nat} (hd : decode M.cc pc = .ok (.astore i, 2)) (hk : pNext E M d Q (pc + 2) k) : pNext E M d Q pc (i_astore i k) := by
  intro ls st σ h p e s m args below meth c H locs la C R S L
  unfold i_astore at h
  split at h
  · have hn := h.1
    rw [L.1] at hn
    exact lv_astore C.1 C.2.1 hd L.2.1 hn rfl (fun la' h' => hk _ _ _ h.2 p e s m args below meth c H locs la' C R S (L.put hn rfl h'))
  · exact h.elim
theorem s_iinc {i : Nat} {n : Int} {v : Int32} (hd : decode M.cc pc = .ok (.iinc i n, 3)) (hv : Int32.ofInt n = v) (hk : pNext E M d Q (pc + 3) k) : pNext E M d Q pc (i_inc i v k) := by
  intro ls st σ h p e s m args below meth c H locs la C R S L
  unfold i_inc at h
  split at h
  · rename_i x hx
    subst hv
    have hn : i < ls.length := (List.getElem?_eq_some_iff.mp hx).1
    rw [L.1] at hn
    obtain ⟨q, hq⟩ := List.getElem?_of_mem (pPairs_mem.mpr hx)
    exact lv_iinc C.1 C.2.1 hd L.2.1 hq rfl hn rfl (fun la' h' => hk _ _ _ h p e s m args below meth c H locs la' C R S (L.put hn rfl h'))
  · exact h.elim
def i_iadd (k : PK) : PK := fun ls st σ => match st with
  | .int y :: .int x :: r => k ls (.int (x + y) :: r) σ
  | _ => False
theorem s_iadd (hd : decode M.cc pc = .ok (.iadd, 1)) (hk : pNext E M d Q (pc + 1) k) : pNext E M d Q pc (i_iadd k) := by
  intro ls st σ h p e s m args below meth c H locs la C R S L
  unfold i_iadd at h
  split at h
  · exact lv_iadd C.1 C.2.1 hd (hk _ _ _ h p e s m args below meth c H locs la C R S L)
  · exact h.elim
def i_isub (k : PK) : PK := fun ls st σ => match st with
  | .int y :: .int x :: r => k ls (.int (x - y) :: r) σ
  | _ => False
theorem s_isub (hd : decode M.cc pc = .ok (.isub, 1)) (hk : pNext E M d Q (pc + 1) k) : pNext E M d Q pc (i_isub k) := by
  intro ls st σ h p e s m args below meth c H locs la C R S L
  unfold i_isub at h
  split at h
  · exact lv_isub C.1 C.2.1 hd (hk _ _ _ h p e s m args below meth c H locs la C R S L)
  · exact h.elim
def i_imul (k : PK) : PK := fun ls st σ => match st with
  | .int y :: .int x :: r => k ls (.int (x * y) :: r) σ
  | _ => False
theorem s_imul (hd : decode M.cc pc = .ok (.imul, 1)) (hk : pNext E M d Q (pc + 1) k) : pNext E M d Q pc (i_imul k) := by
  intro ls st σ h p e s m args below meth c H locs la C R S L
  unfold i_imul at h
  split at h
  · exact lv_imul C.1 C.2.1 hd (hk _ _ _ h p e s m args below meth c H locs la C R S L)
  · exact h.elim
def i_iand (k : PK) : PK := fun ls st σ => match st with
  | .int y :: .int x :: r => k ls (.int (x &&& y) :: r) σ
  | _ => False
theorem s_iand (hd : decode M.cc pc = .ok (.iand, 1)) (hk : pNext E M d Q (pc + 1) k) : pNext E M d Q pc (i_iand k) := by
  intro ls st σ h p e s m args below meth c H locs la C R S L
  unfold i_iand at h
  split at h
  · exact lv_iand C.1 C.2.1 hd (hk _ _ _ h p e s m args below meth c H locs la C R S L)
  · exact h.elim
def i_ior (k : PK) : PK := fun ls st σ => match st with
  | .int y :: .int x :: r => k ls (.int (x ||| y) :: r) σ
  | _ => False
theorem s_ior (hd : decode M.cc pc = .ok (.ior, 1)) (hk : pNext E M d Q (pc + 1) k) : pNext E M d Q pc (i_ior k) := by
  intro ls st σ h p e s m args below meth c H locs la C R S L
  unfold i_ior at h
  split at h
  · exact lv_ior C.1 C.2.1 hd (hk _ _ _ h p e s m args below meth c H locs la C R S L)
  · exact h.elim
def i_ixor (k : PK) : PK := fun ls st σ => match st with
  | .int y :: .int x :: r => k ls (.int (x ^^^ y) :: r) σ
  | _ => False
theorem s_ixor (hd : decode M.cc pc = .ok (.ixor, 1)) (hk : pNext E M d Q (pc + 1) k) : pNext E M d Q pc (i_ixor k) := by
  intro ls st σ h p e s m args below meth c H locs la C R S L
  unfold i_ixor at h
  split at h
  · exact lv_ixor C.1 C.2.1 hd (hk _ _ _ h p e s m args below meth c H locs la C R S L)
  · exact h.elim
def i_ishl (k : PK) : PK := fun ls st σ => match st with
  | .int y :: .int x :: r => k ls (.int (x <<< (y &&& 31)) :: r) σ
  | _ => False
theorem s_ishl (hd : decode M.cc pc = .ok (.ishl, 1)) (hk : pNext E M d Q (pc + 1) k) : pNext E M d Q pc (i_ishl k) := by
  intro ls st σ h p e s m args below meth c H locs la C R S L
  unfold i_ishl at h
  split at h
  · exact lv_ishl C.1 C.2.1 hd (hk _ _ _ h p e s m args below meth c H locs la C R S L)
  · exact h.elim
def i_ishr (k : PK) : PK := fun ls st σ => match st with
  | .int y :: .int x :: r => k ls (.int (x >>> (y &&& 31)) :: r) σ
  | _ => False
theorem s_ishr (hd : decode M.cc pc = .ok (.ishr, 1)) (hk : pNext E M d Q (pc + 1) k) : pNext E M d Q pc (i_ishr k) := by
  intro ls st σ h p e s m args below meth c H locs la C R S L
  unfold i_ishr at h
  split at h
  · exact lv_ishr C.1 C.2.1 hd (hk _ _ _ h p e s m args below meth c H locs la C R S L)
  · exact h.elim
def i_iushr (k : PK) : PK := fun ls st σ => match st with
  | .int y :: .int x :: r => k ls (.int ((x.toUInt32 >>> (y.toUInt32 &&& Int32.toUInt32 31)).toInt32) :: r) σ
  | _ => False
theorem s_iushr (hd : decode M.cc pc = .ok (.iushr, 1)) (hk : pNext E M d Q (pc + 1) k) : pNext E M d Q pc (i_iushr k) := by
  intro ls st σ h p e s m args below meth c H locs la C R S L
  unfold i_iushr at h
  split at h
  · exact lv_iushr C.1 C.2.1 hd rfl (hk _ _ _ h p e s m args below meth c H locs la C R S L)
  · exact h.elim
def i_idiv (k : PK) : PK := fun ls st σ => match st with
  | .int y :: .int x :: r => ¬ y = 0 ∧ k ls (.int (x / y) :: r) σ
  | _ => False
theorem s_idiv (hd : decode M.cc pc = .ok (.idiv, 1)) (hk : pNext E M d Q (pc + 1) k) : pNext E M d Q pc (i_idiv k) := by
  intro ls st σ h p e s m args below meth c H locs la C R S L
  unfold i_idiv at h
  split at h
  · exact lv_idiv C.1 C.2.1 hd h.1 (hk _ _ _ h.2 p e s m args below meth c H locs la C R S L)
  · exact h.elim
def i_irem (k : PK) : PK := fun ls st σ => match st with
  | .int y :: .int x :: r => ¬ y = 0 ∧ k ls (.int (x - x / y * y) :: r) σ
  | _ => False
theorem s_irem (hd : decode M.cc pc = .ok (.irem, 1)) (hk : pNext E M d Q (pc + 1) k) : pNext E M d Q pc (i_irem k) := by
  intro ls st σ h p e s m args below meth c H locs la C R S L
  unfold i_irem at h
  split at h
  · exact lv_irem C.1 C.2.1 hd h.1 (hk _ _ _ h.2 p e s m args below meth c H locs la C R S L)
  · exact h.elim
def i_ineg (k : PK) : PK := fun ls st σ => match st with
  | .int x :: r => k ls (.int (-x) :: r) σ
  | _ => False
theorem s_ineg (hd : decode M.cc pc = .ok (.ineg, 1)) (hk : pNext E M d Q (pc + 1) k) : pNext E M d Q pc (i_ineg k) := by
  intro ls st σ h p e s m args below meth c H locs la C R S L
  unfold i_ineg at h
  split at h
  · exact lv_ineg C.1 C.2.1 hd (hk _ _ _ h p e s m args below meth c H locs la C R S L)
  · exact h.elim
def i_i2l (k : PK) : PK := fun ls st σ => match st with
  | .int x :: r => k ls (.long x.toInt64 :: r) σ
  | _ => False
theorem s_i2l (hd : decode M.cc pc = .ok (.i2l, 1)) (hk : pNext E M d Q (pc + 1) k) : pNext E M d Q pc (i_i2l k) := by
  intro ls st σ h p e s m args below meth c H locs la C R S L
  unfold i_i2l at h
  split at h
  · exact lv_i2l C.1 C.2.1 hd rfl (hk _ _ _ h p e s m args below meth c H locs la C R S L)
  · exact h.elim
def i_i2b (k : PK) : PK := fun ls st σ => match st with
  | .int x :: r => k ls (.int x.toInt8.toInt32 :: r) σ
  | _ => False
theorem s_i2b (hd : decode M.cc pc = .ok (.i2b, 1)) (hk : pNext E M d Q (pc + 1) k) : pNext E M d Q pc (i_i2b k) := by
  intro ls st σ h p e s m args below meth c H locs la C R S L
  unfold i_i2b at h
  split at h
  · exact lv_i2b C.1 C.2.1 hd rfl (hk _ _ _ h p e s m args below meth c H locs la C R S L)
  · exact h.elim
def i_i2c (k : PK) : PK := fun ls st σ => match st with
  | .int x :: r => k ls (.int (x.toUInt32 % 65536).toInt32 :: r) σ
  | _ => False
theorem s_i2c (hd : decode M.cc pc = .ok (.i2c, 1)) (hk : pNext E M d Q (pc + 1) k) : pNext E M d Q pc (i_i2c k) := by
  intro ls st σ h p e s m args below meth c H locs la C R S L
  unfold i_i2c at h
  split at h
  · exact lv_i2c C.1 C.2.1 hd rfl (hk _ _ _ h p e s m args below meth c H locs la C R S L)
  · exact h.elim
def i_lcmp (k : PK) : PK := fun ls st σ => match st with
  | .long y :: .long x :: r => k ls (.int (lg_cmp x y) :: r) σ
  | _ => False
theorem s_lcmp (hd : decode M.cc pc = .ok (.lcmp, 1)) (hk : pNext E M d Q (pc + 1) k) : pNext E M d Q pc (i_lcmp k) := by
  intro ls st σ h p e s m args below meth c H locs la C R S L
  unfold i_lcmp at h
  split at h
  · exact W.lcmp C.1 C.2.1 hd (hk _ _ _ h p e s m args below meth c H locs la C R S L)
  · exact h.elim
def i_dup (k : PK) : PK := fun ls st σ => match st with
  | v :: r => v.category = 1 ∧ k ls (v :: v :: r) σ
  | _ => False
theorem s_dup (hd : decode M.cc pc = .ok (.dup, 1)) (hk : pNext E M d Q (pc + 1) k) : pNext E M d Q pc (i_dup k) := by
  intro ls st σ h p e s m args below meth c H locs la C R S L
  unfold i_dup at h
  split at h
  · exact lv_dup C.1 C.2.1 hd h.1 (hk _ _ _ h.2 p e s m args below meth c H locs la C R S L)
  · exact h.elim
def i_pop (k : PK) : PK := fun ls st σ => match st with
  | v :: r => v.category = 1 ∧ k ls r σ
  | _ => False
theorem s_pop (hd : decode M.cc pc = .ok (.pop, 1)) (hk : pNext E M d Q (pc + 1) k) : pNext E M d Q pc (i_pop k) := by
  intro ls st σ h p e s m args below meth c H locs la C R S L
  unfold i_pop at h
  split at h
  · exact lv_pop C.1 C.2.1 hd h.1 (hk _ _ _ h.2 p e s m args below meth c H locs la C R S L)
  · exact h.elim
def i_dup2 (k : PK) : PK := fun ls st σ => match st with
  | v :: u :: r => v.category = 1 ∧ u.category = 1 ∧ k ls (v :: u :: v :: u :: r) σ
  | _ => False
theorem s_dup2 (hd : decode M.cc pc = .ok (.dup2, 1)) (hk : pNext E M d Q (pc + 1) k) : pNext E M d Q pc (i_dup2 k) := by
  intro ls st σ h p e s m args below meth c H locs la C R S L
  unfold i_dup2 at h
  split at h
  · exact lv_dup2_11 C.1 C.2.1 hd h.1 h.2.1 (hk _ _ _ h.2.2 p e s m args below meth c H locs la C R S L)
  · exact h.elim
def i_icmp_eq (kt k : PK) : PK := fun ls st σ => match st with
  | .int y :: .int x :: r => ((x = y) → kt ls r σ) ∧ (¬ (x = y) → k ls r σ)
  | _ => False
theorem s_icmp_eq {tgt : Nat} {off : Int} (hd : decode M.cc pc = .ok (.if_icmp .eq off, 3)) (ht : (pc : Int) + off = (tgt : Int)) (hkt : pNext E M d Q tgt kt) (hk : pNext E M d Q (pc + 3) k) : pNext E M d Q pc (i_icmp_eq kt k) := by
  intro ls st σ h p e s m args below meth c H locs la C R S L
  unfold i_icmp_eq at h
  split at h
  · exact lv_icmp_eq C.1 C.2.1 hd ht (fun q => hkt _ _ _ (h.1 q) p e s m args below meth c H locs la C R S L) (fun q => hk _ _ _ (h.2 q) p e s m args below meth c H locs la C R S L)
  · exact h.elim
def i_icmp_ne (kt k : PK) : PK := fun ls st σ => match st with
  | .int y :: .int x :: r => ((¬ x = y) → kt ls r σ) ∧ (x = y → k ls r σ)
  | _ => False
theorem s_icmp_ne {tgt : Nat} {off : Int} (hd : decode M.cc pc = .ok (.if_icmp .ne off, 3)) (ht : (pc : Int) + off = (tgt : Int)) (hkt : pNext E M d Q tgt kt) (hk : pNext E M d Q (pc + 3) k) : pNext E M d Q pc (i_icmp_ne kt k) := by
  intro ls st σ h p e s m args below meth c H locs la C R S L
  unfold i_icmp_ne at h
  split at h
  · exact lv_icmp_ne C.1 C.2.1 hd ht (fun q => hkt _ _ _ (h.1 q) p e s m args below meth c H locs la C R S L) (fun q => hk _ _ _ (h.2 q) p e s m args below meth c H locs la C R S L)
  · exact h.elim
def i_icmp_lt (kt k : PK) : PK := fun ls st σ => match st with
  | .int y :: .int x :: r => ((x < y) → kt ls r σ) ∧ (¬ (x < y) → k ls r σ)
  | _ => False
theorem s_icmp_lt {tgt : Nat} {off : Int} (hd : decode M.cc pc = .ok (.if_icmp .lt off, 3)) (ht : (pc : Int) + off = (tgt : Int)) (hkt : pNext E M d Q tgt kt) (hk : pNext E M d Q (pc + 3) k) : pNext E M d Q pc (i_icmp_lt kt k) := by
  intro ls st σ h p e s m args below meth c H locs la C R S L
  unfold i_icmp_lt at h
  split at h
  · exact lv_icmp_lt C.1 C.2.1 hd ht (fun q => hkt _ _ _ (h.1 q) p e s m args below meth c H locs la C R S L) (fun q => hk _ _ _ (h.2 q) p e s m args below meth c H locs la C R S L)
  · exact h.elim
def i_icmp_ge (kt k : PK) : PK := fun ls st σ => match st with
  | .int y :: .int x :: r => ((y ≤ x) → kt ls r σ) ∧ (¬ (y ≤ x) → k ls r σ)
  | _ => False
theorem s_icmp_ge {tgt : Nat} {off : Int} (hd : decode M.cc pc = .ok (.if_icmp .ge off, 3)) (ht : (pc : Int) + off = (tgt : Int)) (hkt : pNext E M d Q tgt kt) (hk : pNext E M d Q (pc + 3) k) : pNext E M d Q pc (i_icmp_ge kt k) := by
  intro ls st σ h p e s m args below meth c H locs la C R S L
  unfold i_icmp_ge at h
  split at h
  · exact lv_icmp_ge C.1 C.2.1 hd ht (fun q => hkt _ _ _ (h.1 q) p e s m args below meth c H locs la C R S L) (fun q => hk _ _ _ (h.2 q) p e s m args below meth c H locs la C R S L)
  · exact h.elim
def i_icmp_gt (kt k : PK) : PK := fun ls st σ => match st with
  | .int y :: .int x :: r => ((y < x) → kt ls r σ) ∧ (¬ (y < x) → k ls r σ)
  | _ => False
theorem s_icmp_gt {tgt : Nat} {off : Int} (hd : decode M.cc pc = .ok (.if_icmp .gt off, 3)) (ht : (pc : Int) + off = (tgt : Int)) (hkt : pNext E M d Q tgt kt) (hk : pNext E M d Q (pc + 3) k) : pNext E M d Q pc (i_icmp_gt kt k) := by
  intro ls st σ h p e s m args below meth c H locs la C R S L
  unfold i_icmp_gt at h
  split at h
  · exact lv_icmp_gt C.1 C.2.1 hd ht (fun q => hkt _ _ _ (h.1 q) p e s m args below meth c H locs la C R S L) (fun q => hk _ _ _ (h.2 q) p e s m args below meth c H locs la C R S L)
  · exact h.elim
def i_icmp_le (kt k : PK) : PK := fun ls st σ => match st with
  | .int y :: .int x :: r => ((x ≤ y) → kt ls r σ) ∧ (¬ (x ≤ y) → k ls r σ)
  | _ => False
theorem s_icmp_le {tgt : Nat} {off : Int} (hd : decode M.cc pc = .ok (.if_icmp .le off, 3)) (ht : (pc : Int) + off = (tgt : Int)) (hkt : pNext E M d Q tgt kt) (hk : pNext E M d Q (pc + 3) k) : pNext E M d Q pc (i_icmp_le kt k) := by
  intro ls st σ h p e s m args below meth c H locs la C R S L
  unfold i_icmp_le at h
  split at h
  · exact lv_icmp_le C.1 C.2.1 hd ht (fun q => hkt _ _ _ (h.1 q) p e s m args below meth c H locs la C R S L) (fun q => hk _ _ _ (h.2 q) p e s m args below meth c H locs la C R S L)
  · exact h.elim
def i_if_eq (kt k : PK) : PK := fun ls st σ => match st with
  | .int x :: r => ((x = 0) → kt ls r σ) ∧ (¬ (x = 0) → k ls r σ)
  | _ => False
theorem s_if_eq {tgt : Nat} {off : Int} (hd : decode M.cc pc = .ok (.ifCond .eq off, 3)) (ht : (pc : Int) + off = (tgt : Int)) (hkt : pNext E M d Q tgt kt) (hk : pNext E M d Q (pc + 3) k) : pNext E M d Q pc (i_if_eq kt k) := by
  intro ls st σ h p e s m args below meth c H locs la C R S L
  unfold i_if_eq at h
  split at h
  · exact lv_if_eq C.1 C.2.1 hd ht (fun q => hkt _ _ _ (h.1 q) p e s m args below meth c H locs la C R S L) (fun q => hk _ _ _ (h.2 q) p e s m args below meth c H locs la C R S L)
  · exact h.elim
def i_if_ne (kt k : PK) : PK := fun ls st σ => match st with
  | .int x :: r => ((¬ x = 0) → kt ls r σ) ∧ (x = 0 → k ls r σ)
  | _ => False
theorem s_if_ne {tgt : Nat} {off : Int} (hd : decode M.cc pc = .ok (.ifCond .ne off, 3)) (ht : (pc : Int) + off = (tgt : Int)) (hkt : pNext E M d Q tgt kt) (hk : pNext E M d Q (pc + 3) k) : pNext E M d Q pc (i_if_ne kt k) := by
  intro ls st σ h p e s m args below meth c H locs la C R S L
  unfold i_if_ne at h
  split at h
  · exact lv_if_ne C.1 C.2.1 hd ht (fun q => hkt _ _ _ (h.1 q) p e s m args below meth c H locs la C R S L) (fun q => hk _ _ _ (h.2 q) p e s m args below meth c H locs la C R S L)
  · exact h.elim
def i_if_lt (kt k : PK) : PK := fun ls st σ => match st with
  | .int x :: r => ((x < 0) → kt ls r σ) ∧ (¬ (x < 0) → k ls r σ)
  | _ => False
theorem s_if_lt {tgt : Nat} {off : Int} (hd : decode M.cc pc = .ok (.ifCond .lt off, 3)) (ht : (pc : Int) + off = (tgt : Int)) (hkt : pNext E M d Q tgt kt) (hk : pNext E M d Q (pc + 3) k) : pNext E M d Q pc (i_if_lt kt k) := by
  intro ls st σ h p e s m args below meth c H locs la C R S L
  unfold i_if_lt at h
  split at h
  · exact lv_if_lt C.1 C.2.1 hd ht (fun q => hkt _ _ _ (h.1 q) p e s m args below meth c H locs la C R S L) (fun q => hk _ _ _ (h.2 q) p e s m args below meth c H locs la C R S L)
  · exact h.elim
def i_if_ge (kt k : PK) : PK := fun ls st σ => match st with
  | .int x :: r => ((0 ≤ x) → kt ls r σ) ∧ (¬ (0 ≤ x) → k ls r σ)
  | _ => False
theorem s_if_ge {tgt : Nat} {off : Int} (hd : decode M.cc pc = .ok (.ifCond .ge off, 3)) (ht : (pc : Int) + off = (tgt : Int)) (hkt : pNext E M d Q tgt kt) (hk : pNext E M d Q (pc + 3) k) : pNext E M d Q pc (i_if_ge kt k) := by
  intro ls st σ h p e s m args below meth c H locs la C R S L
  unfold i_if_ge at h
  split at h
  · exact lv_if_ge C.1 C.2.1 hd ht (fun q => hkt _ _ _ (h.1 q) p e s m args below meth c H locs la C R S L) (fun q => hk _ _ _ (h.2 q) p e s m args below meth c H locs la C R S L)
  · exact h.elim
def i_if_gt (kt k : PK) : PK := fun ls st σ => match st with
  | .int x :: r => ((0 < x) → kt ls r σ) ∧ (¬ (0 < x) → k ls r σ)
  | _ => False
theorem s_if_gt {tgt : Nat} {off : Int} (hd : decode M.cc pc = .ok (.ifCond .gt off, 3)) (ht : (pc : Int) + off = (tgt : Int)) (hkt : pNext E M d Q tgt kt) (hk : pNext E M d Q (pc + 3) k) : pNext E M d Q pc (i_if_gt kt k) := by
  intro ls st σ h p e s m args below meth c H locs la C R S L
  unfold i_if_gt at h
  split at h
  · exact lv_if_gt C.1 C.2.1 hd ht (fun q => hkt _ _ _ (h.1 q) p e s m args below meth c H locs la C R S L) (fun q => hk _ _ _ (h.2 q) p e s m args below meth c H locs la C R S L)
  · exact h.elim
def i_if_le (kt k : PK) : PK := fun ls st σ => match st with
  | .int x :: r => ((x ≤ 0) → kt ls r σ) ∧ (¬ (x ≤ 0) → k ls r σ)
  | _ => False
theorem s_if_le {tgt : Nat} {off : Int} (hd : decode M.cc pc = .ok (.ifCond .le off, 3)) (ht : (pc : Int) + off = (tgt : Int)) (hkt : pNext E M d Q tgt kt) (hk : pNext E M d Q (pc + 3) k) : pNext E M d Q pc (i_if_le kt k) := by
  intro ls st σ h p e s m args below meth c H locs la C R S L
  unfold i_if_le at h
  split at h
  · exact lv_if_le C.1 C.2.1 hd ht (fun q => hkt _ _ _ (h.1 q) p e s m args below meth c H locs la C R S L) (fun q => hk _ _ _ (h.2 q) p e s m args below meth c H locs la C R S L)
  · exact h.elim
def i_goto (kt : PK) : PK := fun ls st σ => kt ls st σ
theorem s_goto {off : Int} {tgt : Nat} (hd : decode M.cc pc = .ok (.goto off, 3)) (ht : (pc : Int) + off = (tgt : Int)) (hkt : pNext E M d Q tgt kt) : pNext E M d Q pc (i_goto kt) := fun ls st σ h p e s m args below meth c H locs la C R S L => lv_goto C.1 C.2.1 hd ht (hkt _ _ _ h p e s m args below meth c H locs la C R S L)
def i_ifnonnull (kt k : PK) : PK := fun ls st σ => match st with
  | .ref _ :: r => kt ls r σ
  | .null :: r => k ls r σ
  | _ => False
theorem s_ifnonnull {off : Int} {tgt : Nat} (hd : decode M.cc pc = .ok (.ifnonnull off, 3)) (ht : (pc : Int) + off = (tgt : Int)) (hkt : pNext E M d Q tgt kt) (hk : pNext E M d Q (pc + 3) k) : pNext E M d Q pc (i_ifnonnull kt k) := by
  intro ls st σ h p e s m args below meth c H locs la C R S L
  unfold i_ifnonnull at h
  split at h
  · exact lv_ifnonnull C.1 C.2.1 hd ht (hkt _ _ _ h p e s m args below meth c H locs la C R S L)
  · exact lv_ifnonnullN C.1 C.2.1 hd (hk _ _ _ h p e s m args below meth c H locs la C R S L)
  · exact h.elim
end INSTR

/-! ===== 02: rows, an instruction each, for nk_Sim ===== -/
section NKR
variable {own : String} {cc : ByteArray} {nL : Nat} {w : nk_D} {G : nk_V} {X : nk_X} {α : Type} {inj : α → Option Value} {pc : Nat} {lv st : List Value} {μ : nk_M} {F : Option (α × nk_M)}
theorem nk_none : nk_Sim w G X nL inj pc lv st μ none := fun _ _ e => by cases e
theorem nk_go {pc' : Nat} {st' : List Value} (h : ∀ (H : Heap) (locs : List Loc) (ls : Array Slot), va_P G.1 w.1 (nk_wl w G μ) H → va_S G.2.2.2.2 X.2.2.2.2.1.heap H locs → nk_lv ls nL lv → ∀ Q : State → Prop,
    W X.1 X.2.1 X.2.2.1 X.2.2.2.1 X.2.2.2.2.1 X.2.2.2.2.2.1 X.2.2.2.2.2.2.1 X.2.2.2.2.2.2.2.1 X.2.2.2.2.2.2.2.2.1 X.2.2.2.2.2.2.2.2.2 H locs 0 0 Q (F0 X.2.2.2.2.2.1 pc' ls st') →
    W X.1 X.2.1 X.2.2.1 X.2.2.2.1 X.2.2.2.2.1 X.2.2.2.2.2.1 X.2.2.2.2.2.2.1 X.2.2.2.2.2.2.2.1 X.2.2.2.2.2.2.2.2.1 X.2.2.2.2.2.2.2.2.2 H locs 0 0 Q (F0 X.2.2.2.2.2.1 pc ls st))
    (k : nk_Sim w G X nL inj pc' lv st' μ F) : nk_Sim w G X nL inj pc lv st μ F := fun v μ' e H locs ls hP hS hl => h H locs ls hP hS hl _ (k v μ' e H locs ls hP hS hl)
/-- a name for a computed number -/
def nk_nm {β : Type} (x : β) (K : β → Option (α × nk_M)) : Option (α × nk_M) := K x
theorem nk_named {x : Int32} {K : Int32 → Option (α × nk_M)} (h : ∀ z : Int32, nk_Sim w G X nL inj pc lv (.int z :: st) μ (K z)) : nk_Sim w G X nL inj pc lv (.int x :: st) μ (nk_nm x K) := h x
theorem nk_namedL {x : Int64} {K : Int64 → Option (α × nk_M)} (h : ∀ z : Int64, nk_Sim w G X nL inj pc lv (.long z :: st) μ (K z)) : nk_Sim w G X nL inj pc lv (.long x :: st) μ (nk_nm x K) := h x
theorem nk_iconst (C : nk_C own cc nL w G X) {n : Int} {v : Int32} (hd : decode cc pc = .ok (.iconst n, 1)) (hv : Int32.ofInt n = v) (h : nk_Sim w G X nL inj (pc + 1) lv (.int v :: st) μ F) : nk_Sim w G X nL inj pc lv st μ F := nk_go (fun _ _ _ _ _ _ _ q => lv_iconst C.1 C.2.1 hd hv q) h
theorem nk_bipush (C : nk_C own cc nL w G X) {n : Int} {v : Int32} (hd : decode cc pc = .ok (.bipush n, 2)) (hv : (Int8.ofInt n).toInt32 = v) (h : nk_Sim w G X nL inj (pc + 2) lv (.int v :: st) μ F) : nk_Sim w G X nL inj pc lv st μ F := nk_go (fun _ _ _ _ _ _ _ q => lv_bipush C.1 C.2.1 hd hv q) h
theorem nk_sipush (C : nk_C own cc nL w G X) {n : Int} {v : Int32} (hd : decode cc pc = .ok (.sipush n, 3)) (hv : (Int16.ofInt n).toInt32 = v) (h : nk_Sim w G X nL inj (pc + 3) lv (.int v :: st) μ F) : nk_Sim w G X nL inj pc lv st μ F := nk_go (fun _ _ _ _ _ _ _ q => lv_sipush C.1 C.2.1 hd hv q) h
theorem nk_lconst (C : nk_C own cc nL w G X) {n : Fin 2} {v : Int64} (hd : decode cc pc = .ok (.lconst n, 1)) (hv : Int64.ofNat (n : Nat) = v) (h : nk_Sim w G X nL inj (pc + 1) lv (.long v :: st) μ F) : nk_Sim w G X nL inj pc lv st μ F := nk_go (fun _ _ _ _ _ _ _ q => lv_lconst C.1 C.2.1 hd hv q) h
theorem nk_ldc2 (C : nk_C own cc nL w G X) {index : Nat} {v : Int64} (hc : Cond.constantLong own index v ∈ nk_GT) (hd : decode cc pc = .ok (.ldc2_w index, 3)) (h : nk_Sim w G X nL inj (pc + 3) lv (.long v :: st) μ F) : nk_Sim w G X nL inj pc lv st μ F := nk_go (fun _ _ _ _ _ _ _ q => lv_ldc2 C.1 C.2.1 C.2.2.2.1 (C.2.2.2.2.1 _ hc) hd q) h
theorem nk_iload_n (C : nk_C own cc nL w G X) {k : Fin 4} {i : Nat} {x : Int32} (hd : decode cc pc = .ok (.iload_n k, 1)) (hi : (k : Nat) = i) (hl : lv[i]? = some (.int x)) (h : nk_Sim w G X nL inj (pc + 1) lv (.int x :: st) μ F) : nk_Sim w G X nL inj pc lv st μ F := nk_go (fun _ _ _ _ _ hv _ q => lv_iload_n C.1 C.2.1 hd hi (hv.2.2 i _ hl (by intro e; cases e)) q) h
theorem nk_iload (C : nk_C own cc nL w G X) {i : Nat} {x : Int32} (hd : decode cc pc = .ok (.iload i, 2)) (hl : lv[i]? = some (.int x)) (h : nk_Sim w G X nL inj (pc + 2) lv (.int x :: st) μ F) : nk_Sim w G X nL inj pc lv st μ F := nk_go (fun _ _ _ _ _ hv _ q => lv_iload C.1 C.2.1 hd (hv.2.2 i _ hl (by intro e; cases e)) q) h
theorem nk_lload_n (C : nk_C own cc nL w G X) {k : Fin 4} {i : Nat} {x : Int64} (hd : decode cc pc = .ok (.lload_n k, 1)) (hi : (k : Nat) = i) (hl : lv[i]? = some (.long x)) (h : nk_Sim w G X nL inj (pc + 1) lv (.long x :: st) μ F) : nk_Sim w G X nL inj pc lv st μ F := nk_go (fun _ _ _ _ _ hv _ q => lv_lload_n C.1 C.2.1 hd hi (hv.2.2 i _ hl (by intro e; cases e)) q) h
theorem nk_lload (C : nk_C own cc nL w G X) {i : Nat} {x : Int64} (hd : decode cc pc = .ok (.lload i, 2)) (hl : lv[i]? = some (.long x)) (h : nk_Sim w G X nL inj (pc + 2) lv (.long x :: st) μ F) : nk_Sim w G X nL inj pc lv st μ F := nk_go (fun _ _ _ _ _ hv _ q => lv_lload C.1 C.2.1 hd (hv.2.2 i _ hl (by intro e; cases e)) q) h
theorem nk_aload_n (C : nk_C own cc nL w G X) {k : Fin 4} {i : Nat} {x : Nat} (hd : decode cc pc = .ok (.aload_n k, 1)) (hi : (k : Nat) = i) (hl : lv[i]? = some (.ref x)) (h : nk_Sim w G X nL inj (pc + 1) lv (.ref x :: st) μ F) : nk_Sim w G X nL inj pc lv st μ F := nk_go (fun _ _ _ _ _ hv _ q => lv_aload_n C.1 C.2.1 hd hi (hv.2.2 i _ hl (by intro e; cases e)) q) h
theorem nk_aload (C : nk_C own cc nL w G X) {i : Nat} {x : Nat} (hd : decode cc pc = .ok (.aload i, 2)) (hl : lv[i]? = some (.ref x)) (h : nk_Sim w G X nL inj (pc + 2) lv (.ref x :: st) μ F) : nk_Sim w G X nL inj pc lv st μ F := nk_go (fun _ _ _ _ _ hv _ q => lv_aload C.1 C.2.1 hd (hv.2.2 i _ hl (by intro e; cases e)) q) h
/-- no long stands just before slot i -/
def nk_c2 (lv : List Value) : Nat → Bool
  | 0 => true
  | i + 1 => match lv[i]? with
    | some v => v.category != 2
    | none => true
def nk_as (lv : List Value) : List (Nat × Value) := (List.range lv.length).filterMap (fun i => match lv[i]? with
  | some v => if v = .null then none else some (i, v)
  | none => none)
theorem nk_as_mem {lv : List Value} {i : Nat} {v : Value} : (i, v) ∈ nk_as lv ↔ lv[i]? = some v ∧ v ≠ .null := by
  unfold nk_as
  rw [List.mem_filterMap]
  constructor
  · rintro ⟨j, hj, h⟩
    cases hl : lv[j]? with
    | none => rw [hl] at h; cases h
    | some x =>
      rw [hl] at h
      by_cases hx : x = .null
      · simp [hx] at h
      · simp [hx] at h
        obtain ⟨rfl, rfl⟩ := h
        exact ⟨hl, hx⟩
  · rintro ⟨h, hn⟩
    refine ⟨i, ?_, ?_⟩
    · have := (List.getElem?_eq_some_iff.mp h).1
      simp [this]
    · simp [h, hn]
theorem nk_lv_has {ls : Array Slot} {lv : List Value} (h : nk_lv ls nL lv) : lv_has ls nL (nk_as lv) := ⟨h.1, h.2.1, fun q hq => by
  obtain ⟨i, v⟩ := q
  obtain ⟨a, b⟩ := nk_as_mem.mp hq
  exact h.2.2 i v a b⟩
theorem nk_lv_put {ls : Array Slot} {lv : List Value} {i : Nat} {x : Value} (h : lv_has ls nL ((i, x) :: (nk_as lv).filter (fun q => !(q.1 == i) && !(q.1 + 1 == i && q.2.category == 2)))) (hc : nk_c2 lv i = true) : nk_lv ls nL (lv.set i x) := by
  refine ⟨h.1, h.2.1, fun j v hj hn => ?_⟩
  rw [List.getElem?_set] at hj
  by_cases e : i = j
  · subst e
    rw [if_pos rfl] at hj
    by_cases hl : i < lv.length
    · rw [if_pos hl] at hj
      cases hj
      exact h.2.2 (i, x) List.mem_cons_self
    · rw [if_neg hl] at hj
      cases hj
  · rw [if_neg e] at hj
    refine h.2.2 (j, v) (List.mem_cons_of_mem _ (List.mem_filter.mpr ⟨nk_as_mem.mpr ⟨hj, hn⟩, ?_⟩))
    have e1 : (j == i) = false := by simp; omega
    by_cases e2 : j + 1 = i
    · subst e2
      simp only [nk_c2, hj] at hc
      simp_all
    · have e3 : (j + 1 == i) = false := by simp; omega
      simp [e1, e3]
theorem nk_lv_putL {ls : Array Slot} {lv : List Value} {i : Nat} {x : Value} (h : lv_has ls nL ((i, x) :: (nk_as lv).filter (fun q => !(q.1 == i) && (!(q.1 == i + 1) && !(q.1 + 1 == i && q.2.category == 2))))) (hc : nk_c2 lv i = true) : nk_lv ls nL ((lv.set i x).set (i + 1) .null) := by
  refine ⟨h.1, h.2.1, fun j v hj hn => ?_⟩
  rw [List.getElem?_set] at hj
  by_cases e0 : i + 1 = j
  · rw [if_pos e0] at hj
    by_cases hl : i + 1 < (lv.set i x).length
    · rw [if_pos hl] at hj
      cases hj
      exact absurd rfl hn
    · rw [if_neg hl] at hj
      cases hj
  rw [if_neg e0] at hj
  rw [List.getElem?_set] at hj
  by_cases e : i = j
  · subst e
    rw [if_pos rfl] at hj
    by_cases hl : i < lv.length
    · rw [if_pos hl] at hj
      cases hj
      exact h.2.2 (i, x) List.mem_cons_self
    · rw [if_neg hl] at hj
      cases hj
  · rw [if_neg e] at hj
    refine h.2.2 (j, v) (List.mem_cons_of_mem _ (List.mem_filter.mpr ⟨nk_as_mem.mpr ⟨hj, hn⟩, ?_⟩))
    have e1 : (j == i) = false := by simp; omega
    have e4 : (j == i + 1) = false := by simp; omega
    by_cases e2 : j + 1 = i
    · subst e2
      simp only [nk_c2, hj] at hc
      simp_all
    · have e3 : (j + 1 == i) = false := by simp; omega
      simp [e1, e3, e4]
theorem nk_istore_n (C : nk_C own cc nL w G X) {k : Fin 4} {i : Nat} {x : Int32} (hd : decode cc pc = .ok (.istore_n k, 1)) (hi : (k : Nat) = i) (hn : i < nL) (hc : nk_c2 lv i = true) (h : nk_Sim w G X nL inj (pc + 1) (lv.set i (.int x)) st μ F) : nk_Sim w G X nL inj pc lv (.int x :: st) μ F := fun v μ' e H locs ls hP hS hl => lv_istore_n C.1 C.2.1 hd hi (nk_lv_has hl) hn rfl (fun ls' h2 => h v μ' e H locs ls' hP hS (nk_lv_put h2 hc))
theorem nk_istore (C : nk_C own cc nL w G X) {i : Nat} {x : Int32} (hd : decode cc pc = .ok (.istore i, 2)) (hn : i < nL) (hc : nk_c2 lv i = true) (h : nk_Sim w G X nL inj (pc + 2) (lv.set i (.int x)) st μ F) : nk_Sim w G X nL inj pc lv (.int x :: st) μ F := fun v μ' e H locs ls hP hS hl => lv_istore C.1 C.2.1 hd (nk_lv_has hl) hn rfl (fun ls' h2 => h v μ' e H locs ls' hP hS (nk_lv_put h2 hc))
theorem nk_astore_n (C : nk_C own cc nL w G X) {k : Fin 4} {i : Nat} {x : Nat} (hd : decode cc pc = .ok (.astore_n k, 1)) (hi : (k : Nat) = i) (hn : i < nL) (hc : nk_c2 lv i = true) (h : nk_Sim w G X nL inj (pc + 1) (lv.set i (.ref x)) st μ F) : nk_Sim w G X nL inj pc lv (.ref x :: st) μ F := fun v μ' e H locs ls hP hS hl => lv_astore_n C.1 C.2.1 hd hi (nk_lv_has hl) hn rfl (fun ls' h2 => h v μ' e H locs ls' hP hS (nk_lv_put h2 hc))
theorem nk_astore (C : nk_C own cc nL w G X) {i : Nat} {x : Nat} (hd : decode cc pc = .ok (.astore i, 2)) (hn : i < nL) (hc : nk_c2 lv i = true) (h : nk_Sim w G X nL inj (pc + 2) (lv.set i (.ref x)) st μ F) : nk_Sim w G X nL inj pc lv (.ref x :: st) μ F := fun v μ' e H locs ls hP hS hl => lv_astore C.1 C.2.1 hd (nk_lv_has hl) hn rfl (fun ls' h2 => h v μ' e H locs ls' hP hS (nk_lv_put h2 hc))
theorem nk_lstore_n (C : nk_C own cc nL w G X) {k : Fin 4} {i : Nat} {x : Int64} (hd : decode cc pc = .ok (.lstore_n k, 1)) (hi : (k : Nat) = i) (hn : i + 1 < nL) (hc : nk_c2 lv i = true) (h : nk_Sim w G X nL inj (pc + 1) ((lv.set i (.long x)).set (i + 1) .null) st μ F) : nk_Sim w G X nL inj pc lv (.long x :: st) μ F := fun v μ' e H locs ls hP hS hl => lv_lstore_n C.1 C.2.1 hd hi (nk_lv_has hl) hn rfl (fun ls' h2 => h v μ' e H locs ls' hP hS (nk_lv_putL h2 hc))
theorem nk_lstore (C : nk_C own cc nL w G X) {i : Nat} {x : Int64} (hd : decode cc pc = .ok (.lstore i, 2)) (hn : i + 1 < nL) (hc : nk_c2 lv i = true) (h : nk_Sim w G X nL inj (pc + 2) ((lv.set i (.long x)).set (i + 1) .null) st μ F) : nk_Sim w G X nL inj pc lv (.long x :: st) μ F := fun v μ' e H locs ls hP hS hl => lv_lstore C.1 C.2.1 hd (nk_lv_has hl) hn rfl (fun ls' h2 => h v μ' e H locs ls' hP hS (nk_lv_putL h2 hc))
theorem nk_iinc (C : nk_C own cc nL w G X) {i : Nat} {n : Int} {x v0 : Int32} (hd : decode cc pc = .ok (.iinc i n, 3)) (hx : lv[i]? = some (.int x)) (hv : x + Int32.ofInt n = v0) (hn : i < nL) (hc : nk_c2 lv i = true) (h : nk_Sim w G X nL inj (pc + 3) (lv.set i (.int v0)) st μ F) : nk_Sim w G X nL inj pc lv st μ F := fun v μ' e H locs ls hP hS hl => by
  obtain ⟨k, hk⟩ := List.getElem?_of_mem (nk_as_mem.mpr ⟨hx, (by intro q; cases q)⟩ : (i, Value.int x) ∈ nk_as lv)
  exact lv_iinc C.1 C.2.1 hd (nk_lv_has hl) hk hv hn rfl (fun ls' h2 => h v μ' e H locs ls' hP hS (nk_lv_put h2 hc))
theorem nk_iadd (C : nk_C own cc nL w G X) {x y : Int32} (hd : decode cc pc = .ok (.iadd, 1)) (h : nk_Sim w G X nL inj (pc + 1) lv (.int (x + y) :: st) μ F) : nk_Sim w G X nL inj pc lv (.int y :: .int x :: st) μ F := nk_go (fun _ _ _ _ _ _ _ q => lv_iadd C.1 C.2.1 hd q) h
theorem nk_isub (C : nk_C own cc nL w G X) {x y : Int32} (hd : decode cc pc = .ok (.isub, 1)) (h : nk_Sim w G X nL inj (pc + 1) lv (.int (x - y) :: st) μ F) : nk_Sim w G X nL inj pc lv (.int y :: .int x :: st) μ F := nk_go (fun _ _ _ _ _ _ _ q => lv_isub C.1 C.2.1 hd q) h
theorem nk_imul (C : nk_C own cc nL w G X) {x y : Int32} (hd : decode cc pc = .ok (.imul, 1)) (h : nk_Sim w G X nL inj (pc + 1) lv (.int (x * y) :: st) μ F) : nk_Sim w G X nL inj pc lv (.int y :: .int x :: st) μ F := nk_go (fun _ _ _ _ _ _ _ q => lv_imul C.1 C.2.1 hd q) h
theorem nk_iand (C : nk_C own cc nL w G X) {x y : Int32} (hd : decode cc pc = .ok (.iand, 1)) (h : nk_Sim w G X nL inj (pc + 1) lv (.int (x &&& y) :: st) μ F) : nk_Sim w G X nL inj pc lv (.int y :: .int x :: st) μ F := nk_go (fun _ _ _ _ _ _ _ q => lv_iand C.1 C.2.1 hd q) h
theorem nk_ior (C : nk_C own cc nL w G X) {x y : Int32} (hd : decode cc pc = .ok (.ior, 1)) (h : nk_Sim w G X nL inj (pc + 1) lv (.int (x ||| y) :: st) μ F) : nk_Sim w G X nL inj pc lv (.int y :: .int x :: st) μ F := nk_go (fun _ _ _ _ _ _ _ q => lv_ior C.1 C.2.1 hd q) h
theorem nk_ishl (C : nk_C own cc nL w G X) {x y : Int32} (hd : decode cc pc = .ok (.ishl, 1)) (h : nk_Sim w G X nL inj (pc + 1) lv (.int (x <<< (y &&& 31)) :: st) μ F) : nk_Sim w G X nL inj pc lv (.int y :: .int x :: st) μ F := nk_go (fun _ _ _ _ _ _ _ q => lv_ishl C.1 C.2.1 hd q) h
theorem nk_ishr (C : nk_C own cc nL w G X) {x y : Int32} (hd : decode cc pc = .ok (.ishr, 1)) (h : nk_Sim w G X nL inj (pc + 1) lv (.int (x >>> (y &&& 31)) :: st) μ F) : nk_Sim w G X nL inj pc lv (.int y :: .int x :: st) μ F := nk_go (fun _ _ _ _ _ _ _ q => lv_ishr C.1 C.2.1 hd q) h
theorem nk_ladd (C : nk_C own cc nL w G X) {x y : Int64} (hd : decode cc pc = .ok (.ladd, 1)) (h : nk_Sim w G X nL inj (pc + 1) lv (.long (x + y) :: st) μ F) : nk_Sim w G X nL inj pc lv (.long y :: .long x :: st) μ F := nk_go (fun _ _ _ _ _ _ _ q => lv_ladd C.1 C.2.1 hd q) h
theorem nk_lsub (C : nk_C own cc nL w G X) {x y : Int64} (hd : decode cc pc = .ok (.lsub, 1)) (h : nk_Sim w G X nL inj (pc + 1) lv (.long (x - y) :: st) μ F) : nk_Sim w G X nL inj pc lv (.long y :: .long x :: st) μ F := nk_go (fun _ _ _ _ _ _ _ q => lv_lsub C.1 C.2.1 hd q) h
theorem nk_lmul (C : nk_C own cc nL w G X) {x y : Int64} (hd : decode cc pc = .ok (.lmul, 1)) (h : nk_Sim w G X nL inj (pc + 1) lv (.long (x * y) :: st) μ F) : nk_Sim w G X nL inj pc lv (.long y :: .long x :: st) μ F := nk_go (fun _ _ _ _ _ _ _ q => lv_lmul C.1 C.2.1 hd q) h
/-- a division: nothing is said where the divisor is 0 -/
def nk_Didiv (x y : Int32) (K : Int32 → Option (α × nk_M)) : Option (α × nk_M) := if y = 0 then none else K (x / y)
theorem nk_idiv (C : nk_C own cc nL w G X) {x y : Int32} {K : Int32 → Option (α × nk_M)} (hd : decode cc pc = .ok (.idiv, 1)) (h : ∀ z : Int32, nk_Sim w G X nL inj (pc + 1) lv (.int z :: st) μ (K z)) : nk_Sim w G X nL inj pc lv (.int y :: .int x :: st) μ (nk_Didiv x y K) := fun v μ' e H locs ls hP hS hl => by
  by_cases hy : y = 0
  · simp [nk_Didiv, hy] at e
  · simp only [nk_Didiv, hy, if_false] at e
    exact lv_idiv C.1 C.2.1 hd hy (h _ v μ' e H locs ls hP hS hl)
def nk_Direm (x y : Int32) (K : Int32 → Option (α × nk_M)) : Option (α × nk_M) := if y = 0 then none else K (x - x / y * y)
theorem nk_irem (C : nk_C own cc nL w G X) {x y : Int32} {K : Int32 → Option (α × nk_M)} (hd : decode cc pc = .ok (.irem, 1)) (h : ∀ z : Int32, nk_Sim w G X nL inj (pc + 1) lv (.int z :: st) μ (K z)) : nk_Sim w G X nL inj pc lv (.int y :: .int x :: st) μ (nk_Direm x y K) := fun v μ' e H locs ls hP hS hl => by
  by_cases hy : y = 0
  · simp [nk_Direm, hy] at e
  · simp only [nk_Direm, hy, if_false] at e
    exact lv_irem C.1 C.2.1 hd hy (h _ v μ' e H locs ls hP hS hl)
def nk_Dldiv (x y : Int64) (K : Int64 → Option (α × nk_M)) : Option (α × nk_M) := if y = 0 then none else K (x / y)
theorem nk_ldiv (C : nk_C own cc nL w G X) {x y : Int64} {K : Int64 → Option (α × nk_M)} (hd : decode cc pc = .ok (.ldiv, 1)) (h : ∀ z : Int64, nk_Sim w G X nL inj (pc + 1) lv (.long z :: st) μ (K z)) : nk_Sim w G X nL inj pc lv (.long y :: .long x :: st) μ (nk_Dldiv x y K) := fun v μ' e H locs ls hP hS hl => by
  by_cases hy : y = 0
  · simp [nk_Dldiv, hy] at e
  · simp only [nk_Dldiv, hy, if_false] at e
    exact lv_ldiv C.1 C.2.1 hd hy (h _ v μ' e H locs ls hP hS hl)
def nk_Dlrem (x y : Int64) (K : Int64 → Option (α × nk_M)) : Option (α × nk_M) := if y = 0 then none else K (x - x / y * y)
theorem nk_lrem (C : nk_C own cc nL w G X) {x y : Int64} {K : Int64 → Option (α × nk_M)} (hd : decode cc pc = .ok (.lrem, 1)) (h : ∀ z : Int64, nk_Sim w G X nL inj (pc + 1) lv (.long z :: st) μ (K z)) : nk_Sim w G X nL inj pc lv (.long y :: .long x :: st) μ (nk_Dlrem x y K) := fun v μ' e H locs ls hP hS hl => by
  by_cases hy : y = 0
  · simp [nk_Dlrem, hy] at e
  · simp only [nk_Dlrem, hy, if_false] at e
    exact lv_lrem C.1 C.2.1 hd hy (h _ v μ' e H locs ls hP hS hl)
theorem nk_i2l (C : nk_C own cc nL w G X) {x : Int32} (hd : decode cc pc = .ok (.i2l, 1)) (h : nk_Sim w G X nL inj (pc + 1) lv (.long (x.toInt64) :: st) μ F) : nk_Sim w G X nL inj pc lv (.int x :: st) μ F := nk_go (fun _ _ _ _ _ _ _ q => lv_i2l C.1 C.2.1 hd rfl q) h
theorem nk_i2b (C : nk_C own cc nL w G X) {x : Int32} (hd : decode cc pc = .ok (.i2b, 1)) (h : nk_Sim w G X nL inj (pc + 1) lv (.int (x.toInt8.toInt32) :: st) μ F) : nk_Sim w G X nL inj pc lv (.int x :: st) μ F := nk_go (fun _ _ _ _ _ _ _ q => lv_i2b C.1 C.2.1 hd rfl q) h
theorem nk_i2s (C : nk_C own cc nL w G X) {x : Int32} (hd : decode cc pc = .ok (.i2s, 1)) (h : nk_Sim w G X nL inj (pc + 1) lv (.int (x.toInt16.toInt32) :: st) μ F) : nk_Sim w G X nL inj pc lv (.int x :: st) μ F := nk_go (fun _ _ _ _ _ _ _ q => lv_i2s C.1 C.2.1 hd rfl q) h
theorem nk_lcmp (C : nk_C own cc nL w G X) {x y : Int64} (hd : decode cc pc = .ok (.lcmp, 1)) (h : nk_Sim w G X nL inj (pc + 1) lv (.int (lg_cmp x y) :: st) μ F) : nk_Sim w G X nL inj pc lv (.long y :: .long x :: st) μ F := nk_go (fun _ _ _ _ _ _ _ q => W.lcmp C.1 C.2.1 hd q) h
theorem nk_dup (C : nk_C own cc nL w G X) {va : Value} (hd : decode cc pc = .ok (.dup, 1)) (hva : va.category = 1) (h : nk_Sim w G X nL inj (pc + 1) lv (va :: va :: st) μ F) : nk_Sim w G X nL inj pc lv (va :: st) μ F := nk_go (fun _ _ _ _ _ _ _ q => lv_dup C.1 C.2.1 hd hva q) h
theorem nk_pop (C : nk_C own cc nL w G X) {va : Value} (hd : decode cc pc = .ok (.pop, 1)) (hva : va.category = 1) (h : nk_Sim w G X nL inj (pc + 1) lv st μ F) : nk_Sim w G X nL inj pc lv (va :: st) μ F := nk_go (fun _ _ _ _ _ _ _ q => lv_pop C.1 C.2.1 hd hva q) h
theorem nk_goto (C : nk_C own cc nL w G X) {off : Int} {tgt : Nat} (hd : decode cc pc = .ok (.goto off, 3)) (ht : (pc : Int) + off = (tgt : Int)) (h : nk_Sim w G X nL inj tgt lv st μ F) : nk_Sim w G X nL inj pc lv st μ F := nk_go (fun _ _ _ _ _ _ _ q => lv_goto C.1 C.2.1 hd ht q) h
theorem nk_if_eq (C : nk_C own cc nL w G X) {x : Int32} {off : Int} {tgt : Nat} {F1 F2 : Option (α × nk_M)} (hd : decode cc pc = .ok (.ifCond .eq off, 3)) (ht : (pc : Int) + off = (tgt : Int)) (h1 : nk_Sim w G X nL inj tgt lv st μ F1) (h2 : nk_Sim w G X nL inj (pc + 3) lv st μ F2) : nk_Sim w G X nL inj pc lv (.int x :: st) μ (if x = 0 then F1 else F2) := fun v μ' e H locs ls hP hS hl =>
  lv_if_eq C.1 C.2.1 hd ht (fun c => h1 v μ' (by rw [if_pos c] at e; exact e) H locs ls hP hS hl) (fun c => h2 v μ' (by rw [if_neg c] at e; exact e) H locs ls hP hS hl)
theorem nk_if_lt (C : nk_C own cc nL w G X) {x : Int32} {off : Int} {tgt : Nat} {F1 F2 : Option (α × nk_M)} (hd : decode cc pc = .ok (.ifCond .lt off, 3)) (ht : (pc : Int) + off = (tgt : Int)) (h1 : nk_Sim w G X nL inj tgt lv st μ F1) (h2 : nk_Sim w G X nL inj (pc + 3) lv st μ F2) : nk_Sim w G X nL inj pc lv (.int x :: st) μ (if x < 0 then F1 else F2) := fun v μ' e H locs ls hP hS hl =>
  lv_if_lt C.1 C.2.1 hd ht (fun c => h1 v μ' (by rw [if_pos c] at e; exact e) H locs ls hP hS hl) (fun c => h2 v μ' (by rw [if_neg c] at e; exact e) H locs ls hP hS hl)
theorem nk_if_ge (C : nk_C own cc nL w G X) {x : Int32} {off : Int} {tgt : Nat} {F1 F2 : Option (α × nk_M)} (hd : decode cc pc = .ok (.ifCond .ge off, 3)) (ht : (pc : Int) + off = (tgt : Int)) (h1 : nk_Sim w G X nL inj tgt lv st μ F1) (h2 : nk_Sim w G X nL inj (pc + 3) lv st μ F2) : nk_Sim w G X nL inj pc lv (.int x :: st) μ (if 0 ≤ x then F1 else F2) := fun v μ' e H locs ls hP hS hl =>
  lv_if_ge C.1 C.2.1 hd ht (fun c => h1 v μ' (by rw [if_pos c] at e; exact e) H locs ls hP hS hl) (fun c => h2 v μ' (by rw [if_neg c] at e; exact e) H locs ls hP hS hl)
theorem nk_if_gt (C : nk_C own cc nL w G X) {x : Int32} {off : Int} {tgt : Nat} {F1 F2 : Option (α × nk_M)} (hd : decode cc pc = .ok (.ifCond .gt off, 3)) (ht : (pc : Int) + off = (tgt : Int)) (h1 : nk_Sim w G X nL inj tgt lv st μ F1) (h2 : nk_Sim w G X nL inj (pc + 3) lv st μ F2) : nk_Sim w G X nL inj pc lv (.int x :: st) μ (if 0 < x then F1 else F2) := fun v μ' e H locs ls hP hS hl =>
  lv_if_gt C.1 C.2.1 hd ht (fun c => h1 v μ' (by rw [if_pos c] at e; exact e) H locs ls hP hS hl) (fun c => h2 v μ' (by rw [if_neg c] at e; exact e) H locs ls hP hS hl)
theorem nk_if_le (C : nk_C own cc nL w G X) {x : Int32} {off : Int} {tgt : Nat} {F1 F2 : Option (α × nk_M)} (hd : decode cc pc = .ok (.ifCond .le off, 3)) (ht : (pc : Int) + off = (tgt : Int)) (h1 : nk_Sim w G X nL inj tgt lv st μ F1) (h2 : nk_Sim w G X nL inj (pc + 3) lv st μ F2) : nk_Sim w G X nL inj pc lv (.int x :: st) μ (if x ≤ 0 then F1 else F2) := fun v μ' e H locs ls hP hS hl =>
  lv_if_le C.1 C.2.1 hd ht (fun c => h1 v μ' (by rw [if_pos c] at e; exact e) H locs ls hP hS hl) (fun c => h2 v μ' (by rw [if_neg c] at e; exact e) H locs ls hP hS hl)
theorem nk_if_ne (C : nk_C own cc nL w G X) {x : Int32} {off : Int} {tgt : Nat} {F1 F2 : Option (α × nk_M)} (hd : decode cc pc = .ok (.ifCond .ne off, 3)) (ht : (pc : Int) + off = (tgt : Int)) (h1 : nk_Sim w G X nL inj tgt lv st μ F1) (h2 : nk_Sim w G X nL inj (pc + 3) lv st μ F2) : nk_Sim w G X nL inj pc lv (.int x :: st) μ (if x = 0 then F2 else F1) := fun v μ' e H locs ls hP hS hl =>
  lv_if_ne C.1 C.2.1 hd ht (fun c => h1 v μ' (by rw [if_neg c] at e; exact e) H locs ls hP hS hl) (fun c => h2 v μ' (by rw [if_pos c] at e; exact e) H locs ls hP hS hl)
theorem nk_icmp_eq (C : nk_C own cc nL w G X) {x y : Int32} {off : Int} {tgt : Nat} {F1 F2 : Option (α × nk_M)} (hd : decode cc pc = .ok (.if_icmp .eq off, 3)) (ht : (pc : Int) + off = (tgt : Int)) (h1 : nk_Sim w G X nL inj tgt lv st μ F1) (h2 : nk_Sim w G X nL inj (pc + 3) lv st μ F2) : nk_Sim w G X nL inj pc lv (.int y :: .int x :: st) μ (if x = y then F1 else F2) := fun v μ' e H locs ls hP hS hl =>
  lv_icmp_eq C.1 C.2.1 hd ht (fun c => h1 v μ' (by rw [if_pos c] at e; exact e) H locs ls hP hS hl) (fun c => h2 v μ' (by rw [if_neg c] at e; exact e) H locs ls hP hS hl)
theorem nk_icmp_lt (C : nk_C own cc nL w G X) {x y : Int32} {off : Int} {tgt : Nat} {F1 F2 : Option (α × nk_M)} (hd : decode cc pc = .ok (.if_icmp .lt off, 3)) (ht : (pc : Int) + off = (tgt : Int)) (h1 : nk_Sim w G X nL inj tgt lv st μ F1) (h2 : nk_Sim w G X nL inj (pc + 3) lv st μ F2) : nk_Sim w G X nL inj pc lv (.int y :: .int x :: st) μ (if x < y then F1 else F2) := fun v μ' e H locs ls hP hS hl =>
  lv_icmp_lt C.1 C.2.1 hd ht (fun c => h1 v μ' (by rw [if_pos c] at e; exact e) H locs ls hP hS hl) (fun c => h2 v μ' (by rw [if_neg c] at e; exact e) H locs ls hP hS hl)
theorem nk_icmp_ge (C : nk_C own cc nL w G X) {x y : Int32} {off : Int} {tgt : Nat} {F1 F2 : Option (α × nk_M)} (hd : decode cc pc = .ok (.if_icmp .ge off, 3)) (ht : (pc : Int) + off = (tgt : Int)) (h1 : nk_Sim w G X nL inj tgt lv st μ F1) (h2 : nk_Sim w G X nL inj (pc + 3) lv st μ F2) : nk_Sim w G X nL inj pc lv (.int y :: .int x :: st) μ (if y ≤ x then F1 else F2) := fun v μ' e H locs ls hP hS hl =>
  lv_icmp_ge C.1 C.2.1 hd ht (fun c => h1 v μ' (by rw [if_pos c] at e; exact e) H locs ls hP hS hl) (fun c => h2 v μ' (by rw [if_neg c] at e; exact e) H locs ls hP hS hl)
theorem nk_icmp_gt (C : nk_C own cc nL w G X) {x y : Int32} {off : Int} {tgt : Nat} {F1 F2 : Option (α × nk_M)} (hd : decode cc pc = .ok (.if_icmp .gt off, 3)) (ht : (pc : Int) + off = (tgt : Int)) (h1 : nk_Sim w G X nL inj tgt lv st μ F1) (h2 : nk_Sim w G X nL inj (pc + 3) lv st μ F2) : nk_Sim w G X nL inj pc lv (.int y :: .int x :: st) μ (if y < x then F1 else F2) := fun v μ' e H locs ls hP hS hl =>
  lv_icmp_gt C.1 C.2.1 hd ht (fun c => h1 v μ' (by rw [if_pos c] at e; exact e) H locs ls hP hS hl) (fun c => h2 v μ' (by rw [if_neg c] at e; exact e) H locs ls hP hS hl)
theorem nk_icmp_le (C : nk_C own cc nL w G X) {x y : Int32} {off : Int} {tgt : Nat} {F1 F2 : Option (α × nk_M)} (hd : decode cc pc = .ok (.if_icmp .le off, 3)) (ht : (pc : Int) + off = (tgt : Int)) (h1 : nk_Sim w G X nL inj tgt lv st μ F1) (h2 : nk_Sim w G X nL inj (pc + 3) lv st μ F2) : nk_Sim w G X nL inj pc lv (.int y :: .int x :: st) μ (if x ≤ y then F1 else F2) := fun v μ' e H locs ls hP hS hl =>
  lv_icmp_le C.1 C.2.1 hd ht (fun c => h1 v μ' (by rw [if_pos c] at e; exact e) H locs ls hP hS hl) (fun c => h2 v μ' (by rw [if_neg c] at e; exact e) H locs ls hP hS hl)
theorem nk_icmp_ne (C : nk_C own cc nL w G X) {x y : Int32} {off : Int} {tgt : Nat} {F1 F2 : Option (α × nk_M)} (hd : decode cc pc = .ok (.if_icmp .ne off, 3)) (ht : (pc : Int) + off = (tgt : Int)) (h1 : nk_Sim w G X nL inj tgt lv st μ F1) (h2 : nk_Sim w G X nL inj (pc + 3) lv st μ F2) : nk_Sim w G X nL inj pc lv (.int y :: .int x :: st) μ (if x = y then F2 else F1) := fun v μ' e H locs ls hP hS hl =>
  lv_icmp_ne C.1 C.2.1 hd ht (fun c => h1 v μ' (by rw [if_neg c] at e; exact e) H locs ls hP hS hl) (fun c => h2 v μ' (by rw [if_pos c] at e; exact e) H locs ls hP hS hl)
/-- a switch: one arm after the other -/
theorem nk_tbl (C : nk_C own cc nL w G X) {dflt lo hi : Int} {offs : Array Int} {len : Nat} {x : Int32} (k : Int32) {off : Int} {tgt : Nat} {F1 F2 : Option (α × nk_M)} (hd : decode cc pc = .ok (.tableswitch dflt lo hi offs, len)) (h0 : ¬ k.toInt < lo ∧ ¬ hi < k.toInt ∧ offs[(k.toInt - lo).toNat]? = some off ∧ (pc : Int) + off = (tgt : Int)) (h1 : nk_Sim w G X nL inj tgt lv st μ F1) (h2 : x ≠ k → nk_Sim w G X nL inj pc lv (.int x :: st) μ F2) : nk_Sim w G X nL inj pc lv (.int x :: st) μ (if x = k then F1 else F2) := fun v μ' e H locs ls hP hS hl => by
  by_cases hx : x = k
  · rw [if_pos hx] at e
    subst hx
    exact lv_tableIn C.1 C.2.1 hd h0.1 h0.2.1 h0.2.2.1 h0.2.2.2 (h1 v μ' e H locs ls hP hS hl)
  · rw [if_neg hx] at e
    exact h2 hx v μ' e H locs ls hP hS hl
theorem nk_tblD (C : nk_C own cc nL w G X) {dflt lo hi : Int} {offs : Array Int} {len : Nat} {x : Int32} {tgt : Nat} (hd : decode cc pc = .ok (.tableswitch dflt lo hi offs, len)) (hx : x.toInt < lo ∨ hi < x.toInt ∨ offs[(x.toInt - lo).toNat]? = some dflt) (ht : (pc : Int) + dflt = (tgt : Int)) (h1 : nk_Sim w G X nL inj tgt lv st μ F) : nk_Sim w G X nL inj pc lv (.int x :: st) μ F := nk_go (fun _ _ _ _ _ _ _ q => by
  by_cases a : x.toInt < lo ∨ hi < x.toInt
  · exact lv_tableOut C.1 C.2.1 hd a ht q
  · have b : ¬ x.toInt < lo ∧ ¬ hi < x.toInt := ⟨fun z => a (Or.inl z), fun z => a (Or.inr z)⟩
    rcases hx with z | z | z
    · exact absurd z b.1
    · exact absurd z b.2
    · exact lv_tableIn C.1 C.2.1 hd b.1 b.2 z ht q) h1
theorem nk_lku (C : nk_C own cc nL w G X) {dflt : Int} {ps : Array (Int × Int)} {len : Nat} {x : Int32} (k : Int32) {off : Int} {tgt : Nat} {F1 F2 : Option (α × nk_M)} (hd : decode cc pc = .ok (.lookupswitch dflt ps, len)) (h0 : (ps.toList.zip (ps.toList.drop 1)).all (fun (a, next) => a.1 < next.1) = true ∧ Op.lookupswitch.offset ps.toList dflt k.toInt = off ∧ (pc : Int) + off = (tgt : Int)) (h1 : nk_Sim w G X nL inj tgt lv st μ F1) (h2 : x ≠ k → nk_Sim w G X nL inj pc lv (.int x :: st) μ F2) : nk_Sim w G X nL inj pc lv (.int x :: st) μ (if x = k then F1 else F2) := fun v μ' e H locs ls hP hS hl => by
  by_cases hx : x = k
  · rw [if_pos hx] at e
    subst hx
    exact lv_lookup C.1 C.2.1 hd h0.1 h0.2.1 h0.2.2 (h1 v μ' e H locs ls hP hS hl)
  · rw [if_neg hx] at e
    exact h2 hx v μ' e H locs ls hP hS hl
theorem nk_lkuD (C : nk_C own cc nL w G X) {dflt : Int} {ps : Array (Int × Int)} {len : Nat} {x : Int32} {tgt : Nat} (hd : decode cc pc = .ok (.lookupswitch dflt ps, len)) (h0 : (ps.toList.zip (ps.toList.drop 1)).all (fun (a, next) => a.1 < next.1) = true) (hx : Op.lookupswitch.offset ps.toList dflt x.toInt = dflt) (ht : (pc : Int) + dflt = (tgt : Int)) (h1 : nk_Sim w G X nL inj tgt lv st μ F) : nk_Sim w G X nL inj pc lv (.int x :: st) μ F := nk_go (fun _ _ _ _ _ _ _ q => lv_lookup C.1 C.2.1 hd h0 hx ht q) h1
theorem nk_neI {x k : Int32} (h : x ≠ k) : x.toInt ≠ k.toInt := fun e => h (Int32.toInt_inj.mp e)
end NKR

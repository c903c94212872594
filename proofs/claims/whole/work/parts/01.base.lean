/-! ===== 01: a world of fixed shape, its memory, the judgement nk_Sim, contracts nk_Ct ===== -/
/-- what the cells of a world hold: cell, slot -/
abbrev nk_M : Type := Nat → Nat → Int32
def nk_upA (μ : nk_M) (k : Nat) (f : Nat → Int32) : nk_M := fun a => if a = k then f else μ a
def nk_up (μ : nk_M) (k j : Nat) (v : Int32) : nk_M := nk_upA μ k (upd (μ k) j v)
/-- a cell's shape: an object (class, its fields: an int, or a fixed reference), a row of numbers (type, length), a row of rows (length, the first row's cell) -/
abbrev nk_S : Type := (Nat × List (Option Nat)) ⊕ ((FieldType × Nat) ⊕ (Nat × Nat))
/-- a static table: class, name, descriptor, type, length, contents -/
abbrev nk_T : Type := String × String × String × FieldType × Nat × (Nat → Int32)
/-- a world's description: classes, shapes, how many cells, static tables -/
abbrev nk_D : Type := List vw_C × (Nat → nk_S) × Nat × List nk_T
/-- where a world lies: class numbers, addresses, array classes, addresses of static tables, the cells that may change -/
abbrev nk_V : Type := va_G × (Nat → Nat) × (Nat → ClassId) × (Nat → Nat) × (Nat → Prop)
/-- the machine in a method -/
abbrev nk_X : Type := Program × Launch × Env × Room × State × MethodId × Array Value × List Frame × Method × Code
abbrev nk_r (G : nk_V) (k : Nat) : Value := .ref (G.2.1 k)
def nk_fv (G : nk_V) (f : Nat → Int32) (fl : List (Option Nat)) (j : Nat) : Value := match fl.getD j none with
  | none => .int (f j)
  | some r => .ref (G.2.1 r)
def nk_flds (G : nk_V) (fl : List (Option Nat)) (f : Nat → Int32) : List Value := (List.range fl.length).map (nk_fv G f fl)
def nk_cell (G : nk_V) (s : nk_S) (k : Nat) (f : Nat → Int32) : va_E := match s with
  | .inl q => .inr (q.1, nk_flds G q.2 f)
  | .inr (.inl q) => .inl (G.2.2.1 k, q.2, .inl f)
  | .inr (.inr q) => .inl (G.2.2.1 k, q.1, .inr (.inr (.inr (.inr (fun i => some (G.2.1 (q.2 + i)))))))
def nk_wl (w : nk_D) (G : nk_V) (μ : nk_M) : va_W := (List.range w.2.2.1).map (fun k => (G.2.1 k, nk_cell G (w.2.1 k) k (μ k)))
def nk_ty (s : nk_S) : FieldType := match s with
  | .inl _ => .int
  | .inr (.inl q) => q.1
  | .inr (.inr _) => .array .int
def nk_tys (w : nk_D) (G : nk_V) : List (ClassId × FieldType) := (List.range w.2.2.1).map (fun k => (G.2.2.1 k, nk_ty (w.2.1 k)))
theorem nk_wl_get {w : nk_D} {G : nk_V} {μ : nk_M} {k : Nat} (h : k < w.2.2.1) : (nk_wl w G μ)[k]? = some (G.2.1 k, nk_cell G (w.2.1 k) k (μ k)) := by
  simp [nk_wl, h]
theorem nk_tys_get {w : nk_D} {G : nk_V} {k : Nat} (h : k < w.2.2.1) : (nk_tys w G)[k]? = some (G.2.2.1 k, nk_ty (w.2.1 k)) := by
  simp [nk_tys, h]
theorem nk_wl_set {w : nk_D} {G : nk_V} {μ : nk_M} {k : Nat} (f : Nat → Int32) : (nk_wl w G μ).set k (G.2.1 k, nk_cell G (w.2.1 k) k f) = nk_wl w G (nk_upA μ k f) := by
  apply List.ext_getElem?
  intro j
  rw [List.getElem?_set]
  by_cases hj : k = j
  · subst hj
    by_cases hk : k < w.2.2.1
    · rw [nk_wl_get hk]
      simp [nk_wl, hk, nk_upA]
    · simp [nk_wl, hk]
  · simp only [hj, if_false]
    by_cases hk : j < w.2.2.1
    · rw [nk_wl_get hk, nk_wl_get hk]
      simp [nk_upA, Ne.symm hj]
    · simp [nk_wl, hk]
theorem nk_wl_D {w : nk_D} {G : nk_V} {μ : nk_M} {A : Nat → Prop} (h1 : ∀ i j, i < w.2.2.1 → j < w.2.2.1 → G.2.1 i = G.2.1 j → i = j) (h2 : ∀ k, k < w.2.2.1 → A (G.2.1 k)) : va_D A (nk_wl w G μ) := by
  have g : ∀ (k : Nat) (q : Nat × va_E), (nk_wl w G μ)[k]? = some q → k < w.2.2.1 ∧ q.1 = G.2.1 k := fun k q hq => by
    by_cases hk : k < w.2.2.1
    · rw [nk_wl_get hk] at hq
      cases hq
      exact ⟨hk, rfl⟩
    · simp [nk_wl, hk] at hq
  refine ⟨fun i j p q hi hj hpq => ?_, fun k q hk => ?_⟩
  · obtain ⟨a1, a2⟩ := g i p hi
    obtain ⟨b1, b2⟩ := g j q hj
    exact h1 i j a1 b1 (by rw [← a2, ← b2]; exact hpq)
  · obtain ⟨a1, a2⟩ := g k q hk
    rw [a2]
    exact h2 k a1
theorem nk_flds_get {G : nk_V} {fl : List (Option Nat)} {f : Nat → Int32} {j : Nat} {q : Option Nat} (h : fl[j]? = some q) : (nk_flds G fl f)[j]? = some (nk_fv G f fl j) := by
  have hj : j < fl.length := (List.getElem?_eq_some_iff.mp h).1
  simp [nk_flds, hj]
theorem nk_flds_i {G : nk_V} {fl : List (Option Nat)} {f : Nat → Int32} {j : Nat} (h : fl[j]? = some none) : (nk_flds G fl f)[j]? = some (.int (f j)) := by
  rw [nk_flds_get h]
  simp [nk_fv, List.getD, h]
theorem nk_flds_r {G : nk_V} {fl : List (Option Nat)} {f : Nat → Int32} {j r : Nat} (h : fl[j]? = some (some r)) : (nk_flds G fl f)[j]? = some (.ref (G.2.1 r)) := by
  rw [nk_flds_get h]
  simp [nk_fv, List.getD, h]
theorem nk_flds_set {G : nk_V} {fl : List (Option Nat)} {f : Nat → Int32} {j : Nat} (h : fl[j]? = some none) (v : Int32) : (nk_flds G fl f).set j (.int v) = nk_flds G fl (upd f j v) := by
  apply List.ext_getElem?
  intro i
  rw [List.getElem?_set]
  by_cases hj : j = i
  · subst hj
    have hl : j < fl.length := (List.getElem?_eq_some_iff.mp h).1
    rw [nk_flds_i (f := upd f j v) h]
    simp [nk_flds, hl, upd]
  · simp only [hj, if_false]
    by_cases hk : i < fl.length
    · simp only [nk_flds, List.getElem?_map, List.getElem?_range hk, Option.map_some]
      unfold nk_fv
      cases fl.getD i none <;> simp [upd, Ne.symm hj]
    · simp [nk_flds, hk]
/-- the tables' good words -/
def nk_GT : List Cond := lw_tbl.filter goodWord
def nk_nest : Cond → Bool
  | .fieldLinkNest .. => true
  | .methodLinkNest .. => true
  | _ => false
def nk_K (w : nk_D) (G : nk_V) (U : State) : Prop :=
  va_K G.1 w.1 (nk_tys w G) U ∧ (∀ c ∈ tables_1, nk_nest c = true → va_Nw c U) ∧
  (∀ (i : Nat) (q : nk_T), w.2.2.2[i]? = some q → va_Z q.1 q.2.1 q.2.2.1 (.ref (G.2.2.2.1 i)) G.2.2.2.2 U U.heap ∧ va_T q.2.2.2.1 (G.2.2.2.1 i) q.2.2.2.2.1 (fun j => .int (q.2.2.2.2.2 j)) G.2.2.2.2 U U.heap) ∧
  (∀ i j, i < w.2.2.1 → j < w.2.2.1 → G.2.1 i = G.2.1 j → i = j) ∧ ∀ k, k < w.2.2.1 → G.2.2.2.2 (G.2.1 k)
theorem nk_Nw_warm {c : Cond} (hc : nk_nest c = true) {s U : State} (hW : s.WarmedH U.vm) (h : va_Nw c s) : va_Nw c U := by
  cases c <;> first | exact va_Nw.warmF hW h | exact va_Nw.warmM hW h | cases hc
theorem nk_Nw_same {c : Cond} (hc : nk_nest c = true) {u U : State} (hv : u.vm = U.vm) (h : va_Nw c u) : va_Nw c U := by
  cases c <;> first | exact va_Nw.same rfl hv h | cases hc
theorem nk_K.warm {w : nk_D} {G : nk_V} {s U : State} {H : Heap} {locs : List Loc} (hW : s.WarmedH U.vm) (hU : U.heap = H) (hS : va_S G.2.2.2.2 s.heap H locs) (h : nk_K w G s) : nk_K w G U := by
  obtain ⟨h1, h2, h3, h4, h5⟩ := h
  refine ⟨va_K.moved hW.alike h1, fun c hc hn => nk_Nw_warm hn hW (h2 c hc hn), fun i q hq => ?_, h4, h5⟩
  obtain ⟨a, b⟩ := h3 i q hq
  rw [hU]
  exact ⟨(va_Z.moved hW.alike a).kept hS.2.1, (va_T.moved hW.alike b).kept hS.2.1⟩
theorem nk_K.calling {w : nk_D} {G : nk_V} {U : State} {g : JFrame} {mk : MethodId} {a : Array Value} (h : nk_K w G U) : nk_K w G (U.calling g mk a) := by
  obtain ⟨h1, h2, h3, h4, h5⟩ := h
  refine ⟨va_K.moved (u := U) (U := U.calling g mk a) (Vm.Alike.refl U.vm) h1, fun c hc hn => nk_Nw_same hn (u := U) (U := U.calling g mk a) rfl (h2 c hc hn), fun i q hq => ?_, h4, h5⟩
  obtain ⟨x, y⟩ := h3 i q hq
  exact ⟨va_Z.moved (u := U) (U := U.calling g mk a) (Vm.Alike.refl U.vm) x, va_T.moved (u := U) (U := U.calling g mk a) (Vm.Alike.refl U.vm) y⟩
/-- the world stands in a state -/
def nk_W (w : nk_D) (G : nk_V) (μ : nk_M) (U : State) : Prop := va_P G.1 w.1 (nk_wl w G μ) U.heap ∧ nk_K w G U
theorem nk_blind {w : nk_D} {G : nk_V} {μ : nk_M} {av : List Value} : FrameBlind (va_Pc av (nk_W w G μ)) := fun _ _ _ _ h => ⟨h.1, h.2.1, h.2.2.calling⟩
/-- a method's end: this answer, this memory, nothing else changed -/
def nk_Q (w : nk_D) (G : nk_V) (o : Option Value) (μ' : nk_M) : Array Value → State → Outcome → State → Prop := fun _ st oc t => (oc = .returned o ∧ nk_W w G μ' t) ∧ va_F G.2.2.2.2 st t
def nk_rm (h : Nat) : Room := { frames := h, cells := 0, slots := 0, locals := 64 * h }
/-- a method's contract at a call's height: with these arguments and this memory it comes to what F says, if F says something -/
def nk_Ct {α : Type} (l : Launch) (w : nk_D) (G : nk_V) (h : Nat) (y : MethodName) (b : ByteArray) (nL : Nat) (ret : Option FieldType) (inj : α → Option Value) (av : List Value) (μ : nk_M) (F : Option (α × nk_M)) : Prop :=
  ∀ (v : α) (μ' : nk_M), F = some (v, μ') → Met l y (Cond.code y b nL ret :: nk_GT) (nk_rm h) (va_Pc av (nk_W w G μ)) (nk_Q w G (inj v) μ') 0 0 G.2.2.2.2
/-- what holds throughout a method's body -/
def nk_C (own : String) (cc : ByteArray) (nL : Nat) (w : nk_D) (G : nk_V) (X : nk_X) : Prop :=
  X.1.tables.exec = Jvm.exec ∧ X.2.2.2.2.2.2.2.2.2.code = cc ∧ X.2.2.2.2.2.2.2.2.2.maxLocals = nL ∧ X.2.2.2.2.1.vm.findClass own = some X.2.2.2.2.2.1.cls ∧ (∀ c ∈ nk_GT, c.before X.2.2.2.2.2.2.1 X.2.2.2.2.1 = true) ∧ nk_K w G X.2.2.2.2.1 ∧ X.2.2.2.2.2.2.2.2.1.locks = false
def nk_lv (ls : Array Slot) (nL : Nat) (lv : List Value) : Prop := ls.size = nL ∧ lv_wf ls ∧ ∀ (i : Nat) (v : Value), lv[i]? = some v → v ≠ .null → ls[i]? = some (.val v)
def nk_J (w : nk_D) (G : nk_V) (X : nk_X) (nL : Nat) (Q : State → Prop) (pc : Nat) (lv st : List Value) (μ : nk_M) : Prop :=
  ∀ (H : Heap) (locs : List Loc) (ls : Array Slot), va_P G.1 w.1 (nk_wl w G μ) H → va_S G.2.2.2.2 X.2.2.2.2.1.heap H locs → nk_lv ls nL lv →
    W X.1 X.2.1 X.2.2.1 X.2.2.2.1 X.2.2.2.2.1 X.2.2.2.2.2.1 X.2.2.2.2.2.2.1 X.2.2.2.2.2.2.2.1 X.2.2.2.2.2.2.2.2.1 X.2.2.2.2.2.2.2.2.2 H locs 0 0 Q (F0 X.2.2.2.2.2.1 pc ls st)
/-- from here the method comes to what F says, if F says something -/
def nk_Sim {α : Type} (w : nk_D) (G : nk_V) (X : nk_X) (nL : Nat) (inj : α → Option Value) (pc : Nat) (lv st : List Value) (μ : nk_M) (F : Option (α × nk_M)) : Prop :=
  ∀ (v : α) (μ' : nk_M), F = some (v, μ') → nk_J w G X nL (MQ X.2.2.2.2.2.2.2.1 (nk_Q w G (inj v) μ') X.2.2.2.2.2.2.1 X.2.2.2.2.1 0 0 G.2.2.2.2) pc lv st μ
/-- answers: an int, a long, none -/
abbrev nk_oi : Int32 → Option Value := fun x => some (.int x)
abbrev nk_ol : Int64 → Option Value := fun x => some (.long x)
abbrev nk_ov : Unit → Option Value := fun _ => none
/-- arguments as locals -/
def nk_lo : List Value → List Value
  | [] => []
  | v :: r => if v.category = 2 then v :: .null :: nk_lo r else v :: nk_lo r
theorem nk_lo_mem : ∀ (av : List Value) (j i : Nat) (v : Value), (nk_lo av)[i]? = some v → v ≠ .null → (j + i, v) ∈ lv_args j av
  | [], j, i, v, h, hn => by simp [nk_lo] at h
  | a :: r, j, i, v, h, hn => by
    unfold nk_lo at h
    unfold lv_args
    by_cases hc : a.category = 2
    · rw [if_pos hc] at h ⊢
      match i, h with
      | 0, h => simp at h; subst h; exact List.mem_cons_self
      | 1, h => simp at h; exact absurd h.symm hn
      | i + 2, h =>
        have := nk_lo_mem r (j + 2) i v (by simpa using h) hn
        rw [show j + 2 + i = j + (i + 2) by omega] at this
        exact List.mem_cons_of_mem _ this
    · rw [if_neg hc] at h ⊢
      match i, h with
      | 0, h => simp at h; subst h; exact List.mem_cons_self
      | i + 1, h =>
        have := nk_lo_mem r (j + 1) i v (by simpa using h) hn
        rw [show j + 1 + i = j + (i + 1) by omega] at this
        exact List.mem_cons_of_mem _ this
theorem nk_lv_of {av : List Value} {n k : Nat} {lv : List Value} (h : (lg_sl av).length ≤ n) (hl : lv = nk_lo av ++ List.replicate k .null) : nk_lv ((lg_sl av ++ List.replicate (n - (lg_sl av).length) Slot.unset).toArray) n lv := by
  obtain ⟨h1, h2, h3⟩ := lv_entry av h
  refine ⟨h1, h2, fun i v hi hn => ?_⟩
  subst hl
  by_cases hk : i < (nk_lo av).length
  · rw [List.getElem?_append_left hk] at hi
    have := nk_lo_mem av 0 i v hi hn
    rw [Nat.zero_add] at this
    exact h3 _ this
  · rw [List.getElem?_append_right (by omega)] at hi
    have := List.mem_of_getElem? hi
    rw [List.mem_replicate] at this
    exact absurd this.2 hn
theorem nk_ent {α : Type} {l : Launch} {w : nk_D} {G : nk_V} {h : Nat} {y : MethodName} {b : ByteArray} {nL : Nat} {ret : Option FieldType} {inj : α → Option Value} {av lv : List Value} {μ : nk_M} {F : Option (α × nk_M)} {own : String} (k : Nat) (ho : y.cls = own) (hy : plainName y.cls = true) (hn : (lg_sl av).length ≤ nL) (hl : lv = nk_lo av ++ List.replicate k .null)
    (body : ∀ X : nk_X, X.2.1 = l → X.2.2.2.1 = nk_rm h → nk_C own b nL w G X → X.2.2.2.2.2.2.2.2.1.sig.returnType = ret → nk_Sim w G X nL inj 0 lv [] μ F) : nk_Ct l w G h y b nL ret inj av μ F := by
  intro v μ' hF
  refine Met.ofW (cc := b) (maxL := nL) (ret := ret) hy rfl ?_
  intro p e s m args below meth c s₁ B hml hv
  obtain ⟨rfl, hP, hK⟩ := hv
  have hts := atoms_spec (ws := Cond.code y b nL ret :: nk_GT) B.pre
  have hown : s.vm.findClass own = some m.cls := by rw [← ho]; exact findClass_of_methodNamed B.named
  rw [lg_entry_eq]
  exact body (p, l, e, nk_rm h, s, m, av.toArray, below, meth, c) rfl rfl ⟨B.exec, B.bytes, hml, hown, fun c hc => hts c (List.mem_cons_of_mem _ hc), hK, B.notSynchronized⟩ B.returns v μ' hF s.heap [] _ hP va_S.rf (nk_lv_of hn hl)

/-! ===== 03: rows for fields, rows of numbers, static tables, calls, returns ===== -/
def nk_fa (own : String) (index : Nat) (w : nk_D) (ci j : Nat) : Prop := ∃ (Cn : String) (T : u_T) (n : Nat), (∀ c ∈ u_ws Cn T n, c ∈ nk_GT) ∧ w.1[ci]? = some (Cn, T, n) ∧ j < n ∧ (Cond.fieldLink own index (T j).1 (T j).2.1 (T j).2.2.1 ∈ nk_GT ∨ ∃ host, Cond.fieldLinkNest own index (T j).1 (T j).2.1 (T j).2.2.1 host ∈ tables_1)
def nk_fp (own : String) (index : Nat) (w : nk_D) (ci j : Nat) (ty : FieldType) : Prop := ∃ (Cn : String) (T : u_T) (n : Nat) (ty0 : Nat → FieldType), (∀ c ∈ u_ws Cn T n, c ∈ nk_GT) ∧ w.1[ci]? = some (Cn, T, n) ∧ j < n ∧ (Cond.fieldLink own index (T j).1 (T j).2.1 (T j).2.2.1 ∈ nk_GT ∨ ∃ host, Cond.fieldLinkNest own index (T j).1 (T j).2.1 (T j).2.2.1 host ∈ tables_1) ∧
  (∀ k, k < n → parseFieldDescriptor (T k).2.2.1 = some (ty0 k)) ∧ (∀ a, a < n → ∀ b, b < n → a ≠ b → (T a).2.1 ≠ (T b).2.1) ∧ (T j).2.2.2 = false ∧ ty0 j = ty
section NKM
variable {own : String} {cc : ByteArray} {nL : Nat} {w : nk_D} {G : nk_V} {X : nk_X} {α : Type} {inj : α → Option Value} {pc : Nat} {lv st : List Value} {μ : nk_M} {F : Option (α × nk_M)}
theorem nk_get0 (C : nk_C own cc nL w G X) {index ci j k : Nat} {fl : List (Option Nat)} {v : Value} (hfa : nk_fa own index w ci j) (hk : k < w.2.2.1) (hs : w.2.1 k = .inl (ci, fl)) (hv : (nk_flds G fl (μ k))[j]? = some v) (hd : decode cc pc = .ok (.getfield index, 3)) (h : nk_Sim w G X nL inj (pc + 3) lv (v :: st) μ F) : nk_Sim w G X nL inj pc lv (nk_r G k :: st) μ F := by
  obtain ⟨Cn, T, n, h1, h2, h3, h4⟩ := hfa
  refine nk_go (fun H locs ls hP hS hl Q q => ?_) h
  have he : (nk_wl w G μ)[k]? = some (G.2.1 k, .inr (ci, nk_flds G fl (μ k))) := by rw [nk_wl_get hk, hs]; rfl
  rcases h4 with h4 | ⟨host, h4⟩
  · exact va_get C.1 C.2.1 C.2.2.2.2.1 h1 C.2.2.2.1 C.2.2.2.2.2.1.1 hP k he h2 j h3 (C.2.2.2.2.1 _ h4) (fun x hx => hx) hv hd q
  · exact va_getN C.1 C.2.1 C.2.2.2.2.1 h1 C.2.2.2.1 C.2.2.2.2.2.1.1 hP k he h2 j h3 (va_Nw.use rfl (C.2.2.2.2.2.1.2.1 _ h4 rfl)) (fun x hx => hx) hv hd q
theorem nk_getI (C : nk_C own cc nL w G X) {index ci j k : Nat} {fl : List (Option Nat)} (hfa : nk_fa own index w ci j) (hk : k < w.2.2.1) (hs : w.2.1 k = .inl (ci, fl)) (hf : fl[j]? = some none) (hd : decode cc pc = .ok (.getfield index, 3)) (h : nk_Sim w G X nL inj (pc + 3) lv (.int (μ k j) :: st) μ F) : nk_Sim w G X nL inj pc lv (nk_r G k :: st) μ F := nk_get0 C hfa hk hs (nk_flds_i hf) hd h
theorem nk_getR (C : nk_C own cc nL w G X) {index ci j k r : Nat} {fl : List (Option Nat)} (hfa : nk_fa own index w ci j) (hk : k < w.2.2.1) (hs : w.2.1 k = .inl (ci, fl)) (hf : fl[j]? = some (some r)) (hd : decode cc pc = .ok (.getfield index, 3)) (h : nk_Sim w G X nL inj (pc + 3) lv (nk_r G r :: st) μ F) : nk_Sim w G X nL inj pc lv (nk_r G k :: st) μ F := nk_get0 C hfa hk hs (nk_flds_r hf) hd h
def nk_pf (μ : nk_M) (k j : Nat) (v : Int32) (K : nk_M → Option (α × nk_M)) : Option (α × nk_M) := K (nk_up μ k j v)
theorem nk_hD (C : nk_C own cc nL w G X) : va_D G.2.2.2.2 (nk_wl w G μ) := nk_wl_D C.2.2.2.2.2.1.2.2.2.1 C.2.2.2.2.2.1.2.2.2.2
theorem nk_put (C : nk_C own cc nL w G X) {index ci j k : Nat} {fl : List (Option Nat)} {x : Int32} {ty : FieldType} {K : nk_M → Option (α × nk_M)} (hfp : nk_fp own index w ci j ty) (hk : k < w.2.2.1) (hs : w.2.1 k = .inl (ci, fl)) (hf : fl[j]? = some none) (hn : narrow ty (.int x) = .int x) (hfit : fits ty (.int x) = true) (hd : decode cc pc = .ok (.putfield index, 3)) (h : ∀ μ1 : nk_M, nk_Sim w G X nL inj (pc + 3) lv st μ1 (K μ1)) : nk_Sim w G X nL inj pc lv (.int x :: nk_r G k :: st) μ (nk_pf μ k j x K) := by
  obtain ⟨Cn, T, n, ty0, h1, h2, h3, h4, h5, h6, h7, h8⟩ := hfp
  intro v μ' e H locs ls hP hS hl
  have he : (nk_wl w G μ)[k]? = some (G.2.1 k, .inr (ci, nk_flds G fl (μ k))) := by rw [nk_wl_get hk, hs]; rfl
  have hpd : parseFieldDescriptor (T j).2.2.1 = some ty := by rw [h5 j h3, h8]
  have hlen : j < (nk_flds G fl (μ k)).length := by
    have := (List.getElem?_eq_some_iff.mp hf).1
    simpa [nk_flds] using this
  have hset : (nk_wl w G μ).set k (G.2.1 k, .inr (ci, (nk_flds G fl (μ k)).set j (.int x))) = nk_wl w G (nk_up μ k j x) := by
    rw [nk_flds_set hf]
    have := nk_wl_set (w := w) (G := G) (μ := μ) (k := k) (upd (μ k) j x)
    rw [hs] at this
    exact this
  have kk : ∀ (H1 : Heap) (locs1 : List Loc), va_P G.1 w.1 ((nk_wl w G μ).set k (G.2.1 k, .inr (ci, (nk_flds G fl (μ k)).set j (.int x)))) H1 → va_D G.2.2.2.2 ((nk_wl w G μ).set k (G.2.1 k, .inr (ci, (nk_flds G fl (μ k)).set j (.int x)))) → va_S G.2.2.2.2 X.2.2.2.2.1.heap H1 locs1 → W X.1 X.2.1 X.2.2.1 X.2.2.2.1 X.2.2.2.2.1 X.2.2.2.2.2.1 X.2.2.2.2.2.2.1 X.2.2.2.2.2.2.2.1 X.2.2.2.2.2.2.2.2.1 X.2.2.2.2.2.2.2.2.2 H1 locs1 0 0 (MQ X.2.2.2.2.2.2.2.1 (nk_Q w G (inj v) μ') X.2.2.2.2.2.2.1 X.2.2.2.2.1 0 0 G.2.2.2.2) (F0 X.2.2.2.2.2.1 (pc + 3) ls st) := fun H1 locs1 hP1 _ hS1 => by
    rw [hset] at hP1
    exact h _ v μ' e H1 locs1 ls hP1 hS1 hl
  rcases h4 with h4 | ⟨host, h4⟩
  · exact va_put C.1 C.2.1 C.2.2.2.2.1 h1 ty0 h5 h6 C.2.2.2.1 C.2.2.2.2.2.1.1 hP (nk_hD C) hS k he h2 j h3 (C.2.2.2.2.1 _ h4) (fun x hx => hx) h7 hpd hn hfit hlen hd kk
  · exact va_putN C.1 C.2.1 C.2.2.2.2.1 h1 ty0 h5 h6 C.2.2.2.1 C.2.2.2.2.2.1.1 hP (nk_hD C) hS k he h2 j h3 (va_Nw.use rfl (C.2.2.2.2.2.1.2.1 _ h4 rfl)) (fun x hx => hx) h7 hpd hn hfit hlen hd kk
theorem nk_putI (C : nk_C own cc nL w G X) {index ci j k : Nat} {fl : List (Option Nat)} {x : Int32} {K : nk_M → Option (α × nk_M)} (hfp : nk_fp own index w ci j .int) (hk : k < w.2.2.1) (hs : w.2.1 k = .inl (ci, fl)) (hf : fl[j]? = some none) (hd : decode cc pc = .ok (.putfield index, 3)) (h : ∀ μ1 : nk_M, nk_Sim w G X nL inj (pc + 3) lv st μ1 (K μ1)) : nk_Sim w G X nL inj pc lv (.int x :: nk_r G k :: st) μ (nk_pf μ k j x K) := nk_put C hfp hk hs hf rfl rfl hd h
/-- rows of numbers -/
def nk_ald (μ : nk_M) (k n : Nat) (i : Int32) (K : Int32 → Option (α × nk_M)) : Option (α × nk_M) := if i < 0 ∨ n ≤ i.toNatClampNeg then none else K (μ k i.toNatClampNeg)
def nk_ast (μ : nk_M) (k n : Nat) (i x : Int32) (K : nk_M → Option (α × nk_M)) : Option (α × nk_M) := if i < 0 ∨ n ≤ i.toNatClampNeg then none else K (nk_up μ k i.toNatClampNeg x)
theorem nk_iald (C : nk_C own cc nL w G X) {k n : Nat} {i : Int32} {K : Int32 → Option (α × nk_M)} (hk : k < w.2.2.1) (hs : w.2.1 k = .inr (.inl (.int, n))) (hd : decode cc pc = .ok (.iaload, 1)) (h : ∀ z : Int32, nk_Sim w G X nL inj (pc + 1) lv (.int z :: st) μ (K z)) : nk_Sim w G X nL inj pc lv (.int i :: nk_r G k :: st) μ (nk_ald μ k n i K) := by
  intro v μ' e H locs ls hP hS hl
  by_cases hin : i < 0 ∨ n ≤ i.toNatClampNeg
  · simp [nk_ald, hin] at e
  · simp only [nk_ald, hin, if_false] at e
    exact va_iald C.1 C.2.1 C.2.2.2.2.2.1.1 hP k k (by rw [nk_wl_get hk, hs]; rfl) (by rw [nk_tys_get hk, hs]; rfl) hin hd (h _ v μ' e H locs ls hP hS hl)
theorem nk_zald (C : nk_C own cc nL w G X) {k n : Nat} {i : Int32} {K : Int32 → Option (α × nk_M)} (hk : k < w.2.2.1) (hs : w.2.1 k = .inr (.inl (.boolean, n))) (hd : decode cc pc = .ok (.baload, 1)) (h : ∀ z : Int32, nk_Sim w G X nL inj (pc + 1) lv (.int z :: st) μ (K z)) : nk_Sim w G X nL inj pc lv (.int i :: nk_r G k :: st) μ (nk_ald μ k n i K) := by
  intro v μ' e H locs ls hP hS hl
  by_cases hin : i < 0 ∨ n ≤ i.toNatClampNeg
  · simp [nk_ald, hin] at e
  · simp only [nk_ald, hin, if_false] at e
    exact va_zald C.1 C.2.1 C.2.2.2.2.2.1.1 hP k k (by rw [nk_wl_get hk, hs]; rfl) (by rw [nk_tys_get hk, hs]; rfl) hin hd (h _ v μ' e H locs ls hP hS hl)
theorem nk_aset {k n : Nat} {ty : FieldType} {f : Nat → Int32} (hs : w.2.1 k = .inr (.inl (ty, n))) : (nk_wl w G μ).set k (G.2.1 k, .inl (G.2.2.1 k, n, .inl f)) = nk_wl w G (nk_upA μ k f) := by
  have := nk_wl_set (w := w) (G := G) (μ := μ) (k := k) f
  rw [hs] at this
  exact this
theorem nk_iast (C : nk_C own cc nL w G X) {k n : Nat} {i x : Int32} {K : nk_M → Option (α × nk_M)} (hk : k < w.2.2.1) (hs : w.2.1 k = .inr (.inl (.int, n))) (hd : decode cc pc = .ok (.iastore, 1)) (h : ∀ μ1 : nk_M, nk_Sim w G X nL inj (pc + 1) lv st μ1 (K μ1)) : nk_Sim w G X nL inj pc lv (.int x :: .int i :: nk_r G k :: st) μ (nk_ast μ k n i x K) := by
  intro v μ' e H locs ls hP hS hl
  by_cases hin : i < 0 ∨ n ≤ i.toNatClampNeg
  · simp [nk_ast, hin] at e
  · simp only [nk_ast, hin, if_false] at e
    refine va_iast C.1 C.2.1 C.2.2.2.2.2.1.1 hP (nk_hD C) hS k k (cA := G.2.2.1 k) (n := n) (f := μ k) (by rw [nk_wl_get hk, hs]; rfl) (by rw [nk_tys_get hk, hs]; rfl) hin hd (fun H1 locs1 hP1 _ hS1 => ?_)
    rw [nk_aset hs] at hP1
    exact h _ v μ' e H1 locs1 ls hP1 hS1 hl
theorem nk_zast (C : nk_C own cc nL w G X) {k n : Nat} {i x : Int32} {K : nk_M → Option (α × nk_M)} (hk : k < w.2.2.1) (hs : w.2.1 k = .inr (.inl (.boolean, n))) (hx : vp_nar .boolean x = x) (hd : decode cc pc = .ok (.bastore, 1)) (h : ∀ μ1 : nk_M, nk_Sim w G X nL inj (pc + 1) lv st μ1 (K μ1)) : nk_Sim w G X nL inj pc lv (.int x :: .int i :: nk_r G k :: st) μ (nk_ast μ k n i x K) := by
  intro v μ' e H locs ls hP hS hl
  by_cases hin : i < 0 ∨ n ≤ i.toNatClampNeg
  · simp [nk_ast, hin] at e
  · simp only [nk_ast, hin, if_false] at e
    refine va_zast C.1 C.2.1 C.2.2.2.2.2.1.1 hP (nk_hD C) hS k k (cA := G.2.2.1 k) (n := n) (f := μ k) (by rw [nk_wl_get hk, hs]; rfl) (by rw [nk_tys_get hk, hs]; rfl) hin hd (fun H1 locs1 hP1 _ hS1 => ?_)
    rw [hx, nk_aset hs] at hP1
    exact h _ v μ' e H1 locs1 ls hP1 hS1 hl
theorem nk_alen (C : nk_C own cc nL w G X) {k n : Nat} {ty : FieldType} (hk : k < w.2.2.1) (hs : w.2.1 k = .inr (.inl (ty, n))) (hd : decode cc pc = .ok (.arraylength, 1)) (h : nk_Sim w G X nL inj (pc + 1) lv (.int (nI n) :: st) μ F) : nk_Sim w G X nL inj pc lv (nk_r G k :: st) μ F := by
  refine nk_go (fun H locs ls hP hS hl Q q => ?_) h
  exact va_alen C.1 C.2.1 C.2.2.2.2.2.1.1 hP k k (cA := G.2.2.1 k) (x := (n, .inl (μ k))) (by rw [nk_wl_get hk, hs]; try rfl) (by rw [nk_tys_get hk, hs]; try rfl) rfl hd q
/-- a row of rows: its rows are cells of their own -/
def nk_ard (n : Nat) (i : Int32) (K : Option (α × nk_M)) : Option (α × nk_M) := if i < 0 ∨ n ≤ i.toNatClampNeg then none else K
theorem nk_aald (C : nk_C own cc nL w G X) {k n b0 : Nat} {i : Int32} (hk : k < w.2.2.1) (hs : w.2.1 k = .inr (.inr (n, b0))) (hd : decode cc pc = .ok (.aaload, 1)) (h : ¬ (i < 0 ∨ n ≤ i.toNatClampNeg) → nk_Sim w G X nL inj (pc + 1) lv (nk_r G (b0 + i.toNatClampNeg) :: st) μ F) : nk_Sim w G X nL inj pc lv (.int i :: nk_r G k :: st) μ (nk_ard n i F) := by
  intro v μ' e H locs ls hP hS hl
  by_cases hin : i < 0 ∨ n ≤ i.toNatClampNeg
  · simp [nk_ard, hin] at e
  · simp only [nk_ard, hin, if_false] at e
    have ha : (nk_wl w G μ)[k]? = some (G.2.1 k, .inl (G.2.2.1 k, n, .inr (.inr (.inr (.inr (fun i => some (G.2.1 (b0 + i)))))))) := by rw [nk_wl_get hk, hs]; rfl
    have ht : (nk_tys w G)[k]? = some (G.2.2.1 k, .array .int) := by rw [nk_tys_get hk, hs]; rfl
    have hlt : i.toNatClampNeg < n := Nat.not_le.mp fun q => hin (Or.inr q)
    exact W.aald (v := va_rf (some (G.2.1 (b0 + i.toNatClampNeg)))) (ty := .array .int) C.1 C.2.1 (hP k _ ha) ((C.2.2.2.2.2.1.1.2 k _ ht).1 n (fun j => va_rf (some (G.2.1 (b0 + j))))) rfl (fun q => by cases q) (by show ¬ (i < 0 ∨ (arrV _ _ _).slots.size ≤ _); rw [arrV_size]; exact hin) (by show (arrV _ _ _).slots[_]? = _; rw [arrV_read _ _ hlt]) rfl rfl hd (h hin v μ' e H locs ls hP hS hl)
/-- static tables -/
abbrev nk_ts (G : nk_V) (i : Nat) : Value := .ref (G.2.2.2.1 i)
theorem nk_gets (C : nk_C own cc nL w G X) {index i : Nat} {q : nk_T} (hq : w.2.2.2[i]? = some q) (hlink : ∃ host, Cond.fieldLinkNest own index q.1 q.2.1 q.2.2.1 host ∈ tables_1) (hd : decode cc pc = .ok (.getstatic index, 3)) (h : nk_Sim w G X nL inj (pc + 3) lv (nk_ts G i :: st) μ F) : nk_Sim w G X nL inj pc lv st μ F := by
  obtain ⟨host, hl0⟩ := hlink
  refine nk_go (fun H locs ls hP hS hl Q k => ?_) h
  exact va_getsN C.1 C.2.1 (C.2.2.2.2.2.1.2.2.1 i q hq).1 hS C.2.2.2.1 (va_Nw.use rfl (C.2.2.2.2.2.1.2.1 _ hl0 rfl)) (fun x hx => hx) hd k
def nk_tld (n : Nat) (f : Nat → Int32) (i : Int32) (K : Int32 → Option (α × nk_M)) : Option (α × nk_M) := if i < 0 ∨ n ≤ i.toNatClampNeg then none else K (f i.toNatClampNeg)
theorem nk_ti (C : nk_C own cc nL w G X) {i : Nat} {a1 a2 a3 : String} {n : Nat} {f : Nat → Int32} {j : Int32} {K : Int32 → Option (α × nk_M)} (hq : w.2.2.2[i]? = some (a1, a2, a3, .int, n, f)) (hd : decode cc pc = .ok (.iaload, 1)) (h : ∀ z : Int32, nk_Sim w G X nL inj (pc + 1) lv (.int z :: st) μ (K z)) : nk_Sim w G X nL inj pc lv (.int j :: nk_ts G i :: st) μ (nk_tld n f j K) := by
  intro v μ' e H locs ls hP hS hl
  by_cases hin : j < 0 ∨ n ≤ j.toNatClampNeg
  · simp [nk_tld, hin] at e
  · simp only [nk_tld, hin, if_false] at e
    exact va_ti C.1 C.2.1 (C.2.2.2.2.2.1.2.2.1 i _ hq).2 hS hin rfl hd (h _ v μ' e H locs ls hP hS hl)
theorem nk_tc (C : nk_C own cc nL w G X) {i : Nat} {a1 a2 a3 : String} {n : Nat} {f : Nat → Int32} {j : Int32} {K : Int32 → Option (α × nk_M)} (hq : w.2.2.2[i]? = some (a1, a2, a3, .char, n, f)) (hd : decode cc pc = .ok (.caload, 1)) (h : ∀ z : Int32, nk_Sim w G X nL inj (pc + 1) lv (.int z :: st) μ (K z)) : nk_Sim w G X nL inj pc lv (.int j :: nk_ts G i :: st) μ (nk_tld n f j K) := by
  intro v μ' e H locs ls hP hS hl
  by_cases hin : j < 0 ∨ n ≤ j.toNatClampNeg
  · simp [nk_tld, hin] at e
  · simp only [nk_tld, hin, if_false] at e
    exact va_tc C.1 C.2.1 (C.2.2.2.2.2.1.2.2.1 i _ hq).2 hS hin rfl hd (h _ v μ' e H locs ls hP hS hl)
theorem nk_tlen (C : nk_C own cc nL w G X) {i : Nat} {a1 a2 a3 : String} {ty : FieldType} {n : Nat} {f : Nat → Int32} (hq : w.2.2.2[i]? = some (a1, a2, a3, ty, n, f)) (hd : decode cc pc = .ok (.arraylength, 1)) (h : nk_Sim w G X nL inj (pc + 1) lv (.int (nI n) :: st) μ F) : nk_Sim w G X nL inj pc lv (nk_ts G i :: st) μ F := by
  refine nk_go (fun H locs ls hP hS hl Q k => ?_) h
  exact va_tlen C.1 C.2.1 (C.2.2.2.2.2.1.2.2.1 i _ hq).2 hS rfl hd k
/-- System.arraycopy between rows of ints -/
def nk_cpy (μ : nk_M) (k0 n0 : Nat) (sp : Int32) (k1 n1 : Nat) (dp n : Int32) (K : nk_M → Option (α × nk_M)) : Option (α × nk_M) :=
  if sp < 0 ∨ dp < 0 ∨ n < 0 ∨ n0 < sp.toNatClampNeg + n.toNatClampNeg ∨ n1 < dp.toNatClampNeg + n.toNatClampNeg then none else K (nk_upA μ k1 (va_cpy (μ k0) (μ k1) sp.toNatClampNeg dp.toNatClampNeg n.toNatClampNeg))
theorem nk_acopy (C : nk_C own cc nL w G X) {index k0 n0 k1 n1 hh : Nat} {sp dp n : Int32} {K : nk_M → Option (α × nk_M)} (hR : X.2.2.2.1 = nk_rm (hh + 1)) (hlink : Cond.methodLink own index arraycopyName ∈ nk_GT) (hnat : Cond.native arraycopyName ∈ nk_GT) (hstat : Cond.static arraycopyName ∈ nk_GT) (hini : Cond.initialized "java/lang/System" ∈ nk_GT) (hk0 : k0 < w.2.2.1) (hs0 : w.2.1 k0 = .inr (.inl (.int, n0))) (hk1 : k1 < w.2.2.1) (hs1 : w.2.1 k1 = .inr (.inl (.int, n1))) (hst : (st.map fun v => v.category).sum ≤ 8) (hd : decode cc pc = .ok (.invokestatic index, 3)) (h : ∀ μ1 : nk_M, nk_Sim w G X nL inj (pc + 3) lv st μ1 (K μ1)) : nk_Sim w G X nL inj pc lv (.int n :: .int dp :: nk_r G k1 :: .int sp :: nk_r G k0 :: st) μ (nk_cpy μ k0 n0 sp k1 n1 dp n K) := by
  intro v μ' e H locs ls hP hS hl
  by_cases hin : sp < 0 ∨ dp < 0 ∨ n < 0 ∨ n0 < sp.toNatClampNeg + n.toNatClampNeg ∨ n1 < dp.toNatClampNeg + n.toNatClampNeg
  · simp [nk_cpy, hin] at e
  · simp only [nk_cpy, hin, if_false] at e
    have b1 : ¬ sp < 0 := fun z => hin (Or.inl z)
    have b2 : ¬ dp < 0 := fun z => hin (Or.inr (Or.inl z))
    have b3 : ¬ n < 0 := fun z => hin (Or.inr (Or.inr (Or.inl z)))
    have b4 : sp.toNatClampNeg + n.toNatClampNeg ≤ n0 := Nat.not_lt.mp fun z => hin (Or.inr (Or.inr (Or.inr (Or.inl z))))
    have b5 : dp.toNatClampNeg + n.toNatClampNeg ≤ n1 := Nat.not_lt.mp fun z => hin (Or.inr (Or.inr (Or.inr (Or.inr z))))
    refine va_copyi C.1 C.2.1 (C.2.2.1.trans hl.1.symm) C.2.2.2.1 (C.2.2.2.2.1 _ hlink) (C.2.2.2.2.1 _ hnat) (C.2.2.2.2.1 _ hstat) (C.2.2.2.2.1 _ hini) C.2.2.2.2.2.1.1 hP (nk_hD C) hS k0 k1 k0 k1 (c0 := G.2.2.1 k0) (c1 := G.2.2.1 k1) (n0 := n0) (n1 := n1) (f := μ k0) (g := μ k1) (ty := .int) (by rw [nk_wl_get hk0, hs0]; rfl) (by rw [nk_wl_get hk1, hs1]; rfl) (by rw [nk_tys_get hk0, hs0]; rfl) (by rw [nk_tys_get hk1, hs1]; rfl) rfl b1 b2 b3 b4 b5 (fun _ _ => rfl) (by rw [hR]; exact Nat.succ_le_succ (Nat.zero_le _)) ?_ hd (fun H1 locs1 hP1 _ hS1 => ?_)
    · rw [hR]
      have e1 : nativeFrameWords "java/lang/System" "arraycopy" 5 + 11 ≤ 56 := by decide +kernel
      show _ ≤ 64 * (hh + 1)
      omega
    · rw [nk_aset hs1] at hP1
      exact h _ v μ' e H1 locs1 ls hP1 hS1 hl
theorem nk_mmax (C : nk_C own cc nL w G X) {index hh : Nat} {x y : Int32} (hR : X.2.2.2.1 = nk_rm (hh + 1)) (hlink : Cond.methodLink own index Lib.Math.max.name ∈ nk_GT) (hstat : Cond.static Lib.Math.max.name ∈ nk_GT) (hini : Cond.initialized "java/lang/Math" ∈ nk_GT) (hcode : Cond.code Lib.Math.max.name Lib.Math.max.code 2 (some .int) ∈ nk_GT) (hst : (st.map fun v => v.category).sum ≤ 8) (hd : decode cc pc = .ok (.invokestatic index, 3)) (h : nk_Sim w G X nL inj (pc + 3) lv (.int (if x < y then y else x) :: st) μ F) : nk_Sim w G X nL inj pc lv (.int y :: .int x :: st) μ F := by
  refine nk_go (fun H locs ls hP hS hl Q k => ?_) h
  refine va_mmax C.1 C.2.1 (C.2.2.1.trans hl.1.symm) C.2.2.2.1 (C.2.2.2.2.1 _ hlink) (C.2.2.2.2.1 _ hstat) (C.2.2.2.2.1 _ hini) (C.2.2.2.2.1 _ hcode) (by rw [hR]; exact Nat.succ_le_succ (Nat.zero_le _)) ?_ (by rw [hR]; exact Nat.le_refl _) (by rw [hR]; exact Nat.le_refl _) hd k
  rw [hR]
  show _ ≤ 64 * (hh + 1)
  omega
/-- calls -/
def nk_bd {β : Type} (Fc : Option (β × nk_M)) (K : β → nk_M → Option (α × nk_M)) : Option (α × nk_M) := match Fc with
  | none => none
  | some q => K q.1 q.2
def nk_cB (own : String) (index : Nat) (y : MethodName) (b : ByteArray) (nL' : Nat) (ret : Option FieldType) (n : Nat) : Prop :=
  Cond.code y b nL' ret ∈ nk_GT ∧ Cond.initialized y.cls ∈ nk_GT ∧ (y.cls ≠ "java/lang/invoke/MethodHandle" ∧ y.cls ≠ "java/lang/invoke/VarHandle" ∧ (parseMethodDescriptor y.desc).map (fun d => d.parameters.length) = some n) ∧ nL' ≤ 45 ∧ (Cond.methodLink own index y ∈ nk_GT ∨ ∃ host, Cond.methodLinkNest own index y host ∈ tables_1)
def nk_cV (own : String) (index : Nat) (y : MethodName) (b : ByteArray) (nL' : Nat) (ret : Option FieldType) (n : Nat) : Prop := nk_cB own index y b nL' ret n ∧ Cond.instanceMethod y ∈ nk_GT ∧ Cond.selects y.cls y y ∈ nk_GT
def nk_cS (own : String) (index : Nat) (y : MethodName) (b : ByteArray) (nL' : Nat) (ret : Option FieldType) (n : Nat) : Prop := nk_cB own index y b nL' ret n ∧ Cond.static y ∈ nk_GT
theorem nk_GT_good {c : Cond} (h : c ∈ nk_GT) : (c.onTables && c.keeps) = true ∨ ∃ ty, c = .arrayClass ty := good_of_word (List.mem_filter.mp h).2
theorem nk_ws {y : MethodName} {b : ByteArray} {nL' : Nat} {ret : Option FieldType} (h : Cond.code y b nL' ret ∈ nk_GT) : GoodIn nk_GT (Cond.code y b nL' ret :: nk_GT) := fun c hc => by
  rcases List.mem_cons.mp hc with rfl | hc
  · exact ⟨h, nk_GT_good h⟩
  · exact ⟨hc, nk_GT_good hc⟩
theorem nk_rmle {hh H nL' : Nat} (h : hh + 1 ≤ H) (hn : nL' ≤ 45) : (nk_rm hh).frames + 1 ≤ (nk_rm H).frames ∧ 8 + (nL' + 11) + (nk_rm hh).locals ≤ (nk_rm H).locals := ⟨h, by show 8 + (nL' + 11) + 64 * hh ≤ 64 * H; omega⟩
theorem nk_called (C : nk_C own cc nL w G X) {β : Type} {inj' : β → Option Value} {Fc : Option (β × nk_M)} {K : β → nk_M → Option (α × nk_M)} {y : MethodName} {b : ByteArray} {nL' hh : Nat} {ret : Option FieldType} {av stk : List Value} (hct : nk_Ct X.2.1 w G hh y b nL' ret inj' av μ Fc)
    (run : ∀ (H : Heap) (locs : List Loc) (ls : Array Slot), va_P G.1 w.1 (nk_wl w G μ) H → va_S G.2.2.2.2 X.2.2.2.2.1.heap H locs → ls.size = nL → ∀ (Qc : Array Value → State → Outcome → State → Prop), Met X.2.1 y (Cond.code y b nL' ret :: nk_GT) (nk_rm hh) (va_Pc av (nk_W w G μ)) Qc 0 0 G.2.2.2.2 → va_Run X.1 X.2.1 X.2.2.1 X.2.2.2.1 X.2.2.2.2.1 X.2.2.2.2.2.1 X.2.2.2.2.2.2.1 X.2.2.2.2.2.2.2.1 X.2.2.2.2.2.2.2.2.1 X.2.2.2.2.2.2.2.2.2 H locs 0 0 0 0 (F0 X.2.2.2.2.2.1 pc ls stk) st (Qc av.toArray) G.2.2.2.2)
    (h : ∀ (r : β) (μ1 : nk_M), nk_Sim w G X nL inj (pc + 3) lv ((inj' r).toList ++ st) μ1 (K r μ1)) : nk_Sim w G X nL inj pc lv stk μ (nk_bd Fc K) := by
  intro v μ' e H locs ls hP hS hl
  cases hF : Fc with
  | none => rw [hF] at e; cases e
  | some q =>
    obtain ⟨r, μ1⟩ := q
    rw [hF] at e
    have hr := run H locs ls hP hS hl.1 _ (hct r μ1 hF)
    intro T hT Xs
    obtain ⟨v1, st₀, t, T', L, h0, X', hL, e1, e2, ⟨⟨hv, hb⟩, hz, hk⟩, stp⟩ := hr T hT Xs
    cases hv
    rw [h0] at hz hk
    obtain ⟨t2, a1, b1⟩ := h r μ1 v μ' e T'.heap (locs ++ L) ls (by rw [e1]; exact hb.1)
      ⟨Nat.le_trans hS.1 (by rw [e1]; exact hz), fun q h1 h2 => by rw [e1, hk q (Nat.lt_of_lt_of_le h1 hS.1) h2]; exact hS.2.1 q h1 h2, fun q hq => by
        rcases List.mem_append.mp hq with h | h
        · exact hS.2.2 q h
        · exact hL q h⟩ hl T' rfl X'
    exact ⟨t2, stp t2 a1, b1⟩
theorem nk_callV (C : nk_C own cc nL w G X) {β : Type} {inj' : β → Option Value} {Fc : Option (β × nk_M)} {K : β → nk_M → Option (α × nk_M)} {y : MethodName} {b : ByteArray} {nL' hh HH n index k ci nn : Nat} {T : u_T} {fl : List (Option Nat)} {ret : Option FieldType} (As : List Value) {stk : List Value} (hcV : nk_cV own index y b nL' ret n) (hR : X.2.2.2.1 = nk_rm HH) (hct : nk_Ct X.2.1 w G hh y b nL' ret inj' (nk_r G k :: As) μ Fc) (hH : hh + 1 ≤ HH) (hk : k < w.2.2.1) (hs : w.2.1 k = .inl (ci, fl)) (hc : w.1[ci]? = some (y.cls, T, nn)) (hn : As.length = n) (hstk : stk = As.reverse ++ nk_r G k :: st) (hst : (st.map fun v => v.category).sum ≤ 8) (hd : decode cc pc = .ok (.invokevirtual index, 3))
    (h : ∀ (r : β) (μ1 : nk_M), nk_Sim w G X nL inj (pc + 3) lv ((inj' r).toList ++ st) μ1 (K r μ1)) : nk_Sim w G X nL inj pc lv stk μ (nk_bd Fc K) := by
  obtain ⟨⟨c1, c2, c3, c4, c5⟩, c6, c7⟩ := hcV
  have hS' : CallFix X.1 X.2.2.2.2.2.1 X.2.2.2.2.2.2.2.2.2 cc nL X.2.2.2.2.1 X.2.2.2.2.2.2.1 nk_GT own := ⟨C.1, C.2.1, C.2.2.1, C.2.2.2.1, C.2.2.2.2.1⟩
  refine nk_called C hct (fun H locs ls hP hS hl Qc hM => ?_) h
  have hpre : PreV X.2.2.2.2.1 H y.cls (G.2.1 k) (va_Pc (nk_r G k :: As) (nk_W w G μ)) As := ⟨nk_blind, va_recv C.2.2.2.2.2.1.1 hP hc (q0 := k) (fs := nk_flds G fl (μ k)) (by rw [nk_wl_get hk, hs]; rfl), fun U hU hW => ⟨rfl, by rw [hU]; exact hP, nk_K.warm hW hU hS C.2.2.2.2.2.1⟩⟩
  have hlm := nk_rmle hH c4
  rcases c5 with c5 | ⟨host, c5⟩
  · exact va_runV hS' hM ⟨callB_of n C.2.2.2.2.1 (nk_ws c1) rfl rfl rfl (C.2.2.2.2.1 _ c2) (C.2.2.2.2.1 _ c5) c3 (by rw [hR]; exact hlm), C.2.2.2.2.1 _ c6, C.2.2.2.2.1 _ c7⟩ hpre rfl hn hl hstk (lv_room hst) hd (by rw [hR]; exact ⟨Nat.le_refl _, Nat.le_refl _⟩)
  · exact va_runVN hS' hM ⟨va_cnB n C.2.2.2.2.1 (nk_ws c1) rfl rfl rfl (C.2.2.2.2.2.1.2.1 _ c5 rfl) (C.2.2.2.2.1 _ c2) c3 (by rw [hR]; exact hlm), C.2.2.2.2.1 _ c6, C.2.2.2.2.1 _ c7⟩ hpre rfl hn hl hstk (lv_room hst) hd (by rw [hR]; exact ⟨Nat.le_refl _, Nat.le_refl _⟩)
theorem nk_callS (C : nk_C own cc nL w G X) {β : Type} {inj' : β → Option Value} {Fc : Option (β × nk_M)} {K : β → nk_M → Option (α × nk_M)} {y : MethodName} {b : ByteArray} {nL' hh HH n index : Nat} {ret : Option FieldType} (As : List Value) {stk : List Value} (hcS : nk_cS own index y b nL' ret n) (hR : X.2.2.2.1 = nk_rm HH) (hct : nk_Ct X.2.1 w G hh y b nL' ret inj' As μ Fc) (hH : hh + 1 ≤ HH) (hn : As.length = n) (hstk : stk = As.reverse ++ st) (hst : (st.map fun v => v.category).sum ≤ 8) (hd : decode cc pc = .ok (.invokestatic index, 3))
    (h : ∀ (r : β) (μ1 : nk_M), nk_Sim w G X nL inj (pc + 3) lv ((inj' r).toList ++ st) μ1 (K r μ1)) : nk_Sim w G X nL inj pc lv stk μ (nk_bd Fc K) := by
  obtain ⟨⟨c1, c2, c3, c4, c5⟩, c6⟩ := hcS
  have hS' : CallFix X.1 X.2.2.2.2.2.1 X.2.2.2.2.2.2.2.2.2 cc nL X.2.2.2.2.1 X.2.2.2.2.2.2.1 nk_GT own := ⟨C.1, C.2.1, C.2.2.1, C.2.2.2.1, C.2.2.2.2.1⟩
  refine nk_called C hct (fun H locs ls hP hS hl Qc hM => ?_) h
  have hpre : PreS X.2.2.2.2.1 H (va_Pc As (nk_W w G μ)) As := ⟨nk_blind, fun U hU hW => ⟨rfl, by rw [hU]; exact hP, nk_K.warm hW hU hS C.2.2.2.2.2.1⟩⟩
  have hlm := nk_rmle hH c4
  rcases c5 with c5 | ⟨host, c5⟩
  · exact va_runS hS' hM ⟨callB_of n C.2.2.2.2.1 (nk_ws c1) rfl rfl rfl (C.2.2.2.2.1 _ c2) (C.2.2.2.2.1 _ c5) c3 (by rw [hR]; exact hlm), C.2.2.2.2.1 _ c6⟩ hpre rfl hn hl hstk (lv_room hst) hd (by rw [hR]; exact ⟨Nat.le_refl _, Nat.le_refl _⟩)
  · exact va_runSN hS' hM ⟨va_cnB n C.2.2.2.2.1 (nk_ws c1) rfl rfl rfl (C.2.2.2.2.2.1.2.1 _ c5 rfl) (C.2.2.2.2.1 _ c2) c3 (by rw [hR]; exact hlm), C.2.2.2.2.1 _ c6, trivial⟩ hpre rfl hn hl hstk (lv_room hst) hd (by rw [hR]; exact ⟨Nat.le_refl _, Nat.le_refl _⟩)
/-- returns -/
theorem nk_end (C : nk_C own cc nL w G X) {o : Option Value} {H : Heap} {locs : List Loc} (hP : va_P G.1 w.1 (nk_wl w G μ) H) (hS : va_S G.2.2.2.2 X.2.2.2.2.1.heap H locs) : ∀ t : State, t.heap = H → X.2.2.2.2.1.WarmedH t.vm → nk_Q w G o μ X.2.2.2.2.2.2.1 X.2.2.2.2.1 (.returned o) t := fun t ht hW => ⟨⟨rfl, by rw [ht]; exact hP, nk_K.warm hW ht hS C.2.2.2.2.2.1⟩, hS.F ht⟩
theorem nk_iret (C : nk_C own cc nL w G X) {x : Int32} (hr : X.2.2.2.2.2.2.2.2.1.sig.returnType = some .int) (hd : decode cc pc = .ok (.ireturn, 1)) : nk_Sim w G X nL nk_oi pc lv [.int x] μ (some (x, μ)) := by
  intro v μ' e H locs ls hP hS hl
  cases e
  exact W.iret C.1 C.2.1 hr (nk_end C hP hS) hS.2.2 hd C.2.2.2.2.2.2
/-- a boolean's answer -/
def nk_zr (x : Int32) (μ : nk_M) : Option (Int32 × nk_M) := if x = 0 ∨ x = 1 then some (x, μ) else none
theorem nk_zret (C : nk_C own cc nL w G X) {x : Int32} (hr : X.2.2.2.2.2.2.2.2.1.sig.returnType = some .boolean) (hd : decode cc pc = .ok (.ireturn, 1)) : nk_Sim w G X nL nk_oi pc lv [.int x] μ (nk_zr x μ) := by
  intro v μ' e H locs ls hP hS hl
  unfold nk_zr at e
  by_cases hx : x = 0 ∨ x = 1
  · rw [if_pos hx] at e
    cases e
    exact W.zret C.1 C.2.1 hr (by rcases hx with rfl | rfl <;> decide) (nk_end C hP hS) hS.2.2 hd C.2.2.2.2.2.2
  · rw [if_neg hx] at e
    cases e
theorem nk_lret (C : nk_C own cc nL w G X) {x : Int64} (hr : X.2.2.2.2.2.2.2.2.1.sig.returnType = some .long) (hd : decode cc pc = .ok (.lreturn, 1)) : nk_Sim w G X nL nk_ol pc lv [.long x] μ (some (x, μ)) := by
  intro v μ' e H locs ls hP hS hl
  cases e
  exact W.lret C.1 C.2.1 hr (nk_end C hP hS) hS.2.2 hd C.2.2.2.2.2.2
theorem nk_vret (C : nk_C own cc nL w G X) (hr : X.2.2.2.2.2.2.2.2.1.sig.returnType = none) (hd : decode cc pc = .ok (.return_, 1)) : nk_Sim w G X nL nk_ov pc lv [] μ (some ((), μ)) := by
  intro v μ' e H locs ls hP hS hl
  cases e
  exact W.vret C.1 C.2.1 hr (nk_end C hP hS) hS.2.2 hd C.2.2.2.2.2.2
end NKM

/-! ===== 45, second: the making of int[4][60]: own rows, out of the model's own words for it ===== -/
/-- the outer row when i of its rows have been made, the first of them at h0 + 1 -/
def nm_out (cA : ClassId) (h0 i : Nat) : Cell := arrV cA 4 (fun j => va_rf (if j < i then some (h0 + 1 + j) else none))
def nm_row (cy : ClassId) : Cell := arrV cy 60 (fun _ => .int 0)
theorem nk_arrX {c : ClassId} {N : Nat} {f g : Nat → Value} (h : ∀ j, j < N → f j = g j) : arrV c N f = arrV c N g := by
  unfold arrV
  congr 1
  exact congrArg Array.ofFn (funext fun j => h j.val j.isLt)
theorem nm_out_new (cA : ClassId) (h0 : Nat) : ({ cls := cA, slots := Array.replicate 4 .null, vm := .none } : Cell) = nm_out cA h0 0 := by
  rw [arrV_new]
  exact nk_arrX (fun j _ => by rw [if_neg (by omega)]; rfl)
theorem nm_out_step (cA : ClassId) (h0 i : Nat) : (nm_out cA h0 i).setSlot i (.ref (h0 + 1 + i)) = nm_out cA h0 (i + 1) := by
  unfold nm_out
  rw [arrV_store]
  refine nk_arrX (fun j _ => ?_)
  by_cases e : j = i
  · subst e
    rw [if_pos (by omega)]
    simp [updV, va_rf]
  · by_cases h : j < i
    · rw [if_pos (show j < i + 1 by omega)]
      simp [updV, e, h]
    · rw [if_neg (show ¬ j < i + 1 by omega)]
      simp [updV, e, h]
theorem nm_row_new (cy : ClassId) : ({ cls := cy, slots := Array.replicate 60 (.int 0), vm := .none } : Cell) = nm_row cy := arrV_new cy 60 (.int 0)
theorem nm_out_size (cA : ClassId) (h0 i : Nat) : (nm_out cA h0 i).slots.size = 4 := arrV_size _ _ _
theorem nm_row_size (cy : ClassId) : (nm_row cy).slots.size = 60 := arrV_size _ _ _
/-- the state when i rows have been made and put in their places -/
def nm_fill (T : State) (cA cy : ClassId) : Nat → State
  | 0 => T.pushCell (nm_out cA T.heap.size 0)
  | i + 1 => ((nm_fill T cA cy i).pushCell (nm_row cy)).setCell T.heap.size (nm_out cA T.heap.size (i + 1))
theorem nm_facts (T : State) (cA cy : ClassId) : ∀ i : Nat, (nm_fill T cA cy i).heap.size = T.heap.size + 1 + i ∧ (nm_fill T cA cy i).heap[T.heap.size]? = some (nm_out cA T.heap.size i) ∧ (∀ j : Nat, j < i → (nm_fill T cA cy i).heap[T.heap.size + 1 + j]? = some (nm_row cy)) ∧ (∀ x : Nat, x < T.heap.size → (nm_fill T cA cy i).heap[x]? = T.heap[x]?) ∧ (nm_fill T cA cy i).vm = T.vm ∧ (nm_fill T cA cy i).slotsUsed = T.slotsUsed + 4 + 60 * i ∧ (nm_fill T cA cy i).topJava? = T.topJava?
  | 0 => by
    refine ⟨size_pushCell _ _, State.heap_pushCell_size _ _, fun j hj => absurd hj (Nat.not_lt_zero j), fun x hx => State.heap_pushCell_of_lt _ _ hx, rfl, ?_, rfl⟩
    show T.slotsUsed + (nm_out cA T.heap.size 0).slots.size = _
    rw [nm_out_size]
  | i + 1 => by
    obtain ⟨a1, a2, a3, a4, a5, a6, a7⟩ := nm_facts T cA cy i
    have hs : ((nm_fill T cA cy i).pushCell (nm_row cy)).heap.size = T.heap.size + 1 + (i + 1) := by rw [size_pushCell, a1]; omega
    have q0 : ∀ x : Nat, x < T.heap.size + 1 + i → x < (nm_fill T cA cy i).heap.size := fun x hx => by rw [a1]; exact hx
    have h0 : ((nm_fill T cA cy i).pushCell (nm_row cy)).heap[T.heap.size]? = some (nm_out cA T.heap.size i) := by
      rw [State.heap_pushCell_of_lt _ _ (q0 T.heap.size (by omega))]; exact a2
    refine ⟨(size_setCell _ _ _).trans hs, State.heap_setCell_self h0, fun j hj => ?_, fun x hx => ?_, a5, ?_, a7⟩
    · show (((nm_fill T cA cy i).pushCell (nm_row cy)).setCell T.heap.size _).heap[T.heap.size + 1 + j]? = _
      have q1 : (T.heap.size : Nat) ≠ T.heap.size + 1 + j := by omega
      rw [State.heap_setCell_other q1]
      by_cases e : j = i
      · subst e
        rw [← a1]
        exact State.heap_pushCell_size _ _
      · rw [State.heap_pushCell_of_lt _ _ (q0 (T.heap.size + 1 + j) (by omega))]
        exact a3 j (by omega)
    · show (((nm_fill T cA cy i).pushCell (nm_row cy)).setCell T.heap.size _).heap[x]? = _
      have q1 : (T.heap.size : Nat) ≠ x := by omega
      rw [State.heap_setCell_other q1, State.heap_pushCell_of_lt _ _ (q0 x (by omega))]
      exact a4 x hx
    · show (nm_fill T cA cy i).slotsUsed + (nm_row cy).slots.size = _
      rw [a6, nm_row_size]
      omega
section NM
variable {p : Program} {l : Launch} {e : Env} {R : Room} {s : State} {m : MethodId} {args : Array Value} {below : List Frame} {meth : Method} {c : Code} {T : State} {locs : List Loc} {cells slots : Nat}
theorem nm_stand (X : Stand p l e R s m args below meth c T locs cells slots) (cA cy : ClassId) : ∀ i : Nat, ∃ L : List Loc, (∀ x ∈ L, x.base = T.heap.size) ∧ Stand p l e R s m args below meth c (nm_fill T cA cy i) (locs ++ L) (cells + 1 + i) (slots + 4 + 60 * i)
  | 0 => by
    have h := X.pushed (nm_out cA T.heap.size 0)
    rw [nm_out_size] at h
    exact ⟨[], fun x hx => (List.not_mem_nil hx).elim, (by rw [List.append_nil]; exact h)⟩
  | i + 1 => by
    obtain ⟨L, hL, h⟩ := nm_stand X cA cy i
    obtain ⟨a1, a2, -⟩ := nm_facts T cA cy i
    have h1 := h.pushed (nm_row cy)
    rw [nm_row_size] at h1
    have hc : ((nm_fill T cA cy i).pushCell (nm_row cy)).heap[T.heap.size]? = some (nm_out cA T.heap.size i) := by
      have q0 : (T.heap.size : Nat) < (nm_fill T cA cy i).heap.size := by rw [a1]; omega
      rw [State.heap_pushCell_of_lt _ _ q0]; exact a2
    have h2 := h1.stored hc i (.ref (T.heap.size + 1 + i))
    rw [nm_out_step, List.append_assoc] at h2
    refine ⟨L ++ [⟨T.heap.size, i⟩], fun x hx => ?_, ?_⟩
    · rcases List.mem_append.mp hx with h | h
      · exact hL x h
      · rw [List.mem_singleton.mp h]
    · rw [show slots + 4 + 60 * (i + 1) = slots + 4 + 60 * i + 60 by omega, show cells + 1 + (i + 1) = cells + 1 + i + 1 by omega]
      exact h2
/-- what was written into cells that are new is nothing that was there -/
theorem nm_drop {L : List Loc} (X : Stand p l e R s m args below meth c T (locs ++ L) cells slots) (hL : ∀ x ∈ L, s.heap.size ≤ x.base) : Stand p l e R s m args below meth c T locs cells slots :=
  ⟨X.admits, X.cas, X.clock, X.frames, X.room, X.hears, X.method, X.code, X.here, X.tail, X.warmed, X.limits, X.bytes,
    X.same.weaken (fun x hx hlt => (List.mem_append.mp hx).elim id (fun h => absurd hlt (Nat.not_lt.mpr (hL x h)))) (Nat.le_refl _) (Nat.le_refl _)⟩
end NM
section NMW
variable {E : CtlPost} {e : Env} {U : State}
theorem nm_new {d : Bool} {acts : List Action} {c comp : ClassId} {k : Class} {ty : FieldType} {n : Nat} {v : Value} {Q : Addr → Pre}
    (hk : U.vm.classes[c]? = some k) (hkind : k.kind = .array comp ty) (hfv : fits ty v = true) (hlim : n ≤ e.platform.arrayLengthLimit) (hheap : n * componentBytes ty ≤ e.platform.maxHeapBytes)
    (hc : U.heap.size < e.platform.maxCells) (hs : U.slotsUsed + n ≤ e.platform.maxSlots)
    (hq : ∀ acts' : List Action, Q U.heap.size d acts' (U.pushCell { cls := c, slots := Array.replicate n v, vm := .none })) : wp (Jvm.newArray c n v) Q E e d acts U := by
  have h1 : ¬ n > e.platform.arrayLengthLimit := Nat.not_lt.mpr hlim
  have h2 : ¬ n * componentBytes ty > e.platform.maxHeapBytes := Nat.not_lt.mpr hheap
  have h3 : ¬ n > e.platform.maxSlots := by omega
  simp only [Jvm.newArray, Jvm.arrayFits, wp_bind', Jvm.W.ask, Jvm.W.ite, h1, if_false, wp_pure', Jvm.W.theClass, hk, hkind, h2, h3, Jvm.W.alloc, Option.some.injEq, exists_eq_left']
  refine ⟨hc, by rw [Array.size_replicate]; exact hs, fun i v' hv => ?_, hq _⟩
  simp only [Array.getElem?_replicate] at hv
  split at hv
  · cases hv; simp [State.fitsSlot, State.slotType?, hk, hkind, hfv]
  · cases hv
theorem nm_inner {d : Bool} {acts : List Action} {cy cI : ClassId} {ky : Class} {Q : Addr → Pre} (hky : U.vm.classes[cy]? = some ky) (hkindy : ky.kind = .array cI .int) (hlim : 60 ≤ e.platform.arrayLengthLimit) (hheap : 240 ≤ e.platform.maxHeapBytes)
    (hc : U.heap.size < e.platform.maxCells) (hs : U.slotsUsed + 60 ≤ e.platform.maxSlots)
    (hq : ∀ acts' : List Action, Q U.heap.size d acts' (U.pushCell (nm_row cy))) : wp (Op.multianewarray.make cy [60]) Q E e d acts U := by
  have h0 : ¬ (60 : Int32) < 0 := by decide
  have e60 : (60 : Int32).toNatClampNeg = 60 := by decide
  unfold Op.multianewarray.make
  simp only [wp_bind', Jvm.W.ite, h0, if_false, wp_pure', Jvm.W.theClass, hky, hkindy, Option.some.injEq, exists_eq_left', e60]
  exact nm_new hky hkindy rfl hlim hheap hc hs (fun acts' => by
    have h := hq acts'
    rw [← nm_row_new] at h
    exact h)
end NMW
section NMX
variable {E : CtlPost} {e : Env} {U : State} {f : JFrame}
theorem nm_make {d : Bool} {acts : List Action} {cA cy cI : ClassId} {kA ky : Class} {Q : Addr → Pre} (hkA : U.vm.classes[cA]? = some kA) (hkindA : kA.kind = .array cy (.array .int)) (hky : U.vm.classes[cy]? = some ky) (hkindy : ky.kind = .array cI .int)
    (hlim : 60 ≤ e.platform.arrayLengthLimit) (hheap : 240 ≤ e.platform.maxHeapBytes) (hc : U.heap.size + 5 ≤ e.platform.maxCells) (hs : U.slotsUsed + 244 ≤ e.platform.maxSlots)
    (hq : ∀ (d' : Bool) (acts' : List Action), Q U.heap.size d' acts' ((nm_fill U cA cy 4).setTop f)) : wp (Op.multianewarray.make cA [4, 60]) Q E e d acts (U.setTop f) := by
  have h0 : ¬ (4 : Int32) < 0 := by decide
  have e4 : (4 : Int32).toNatClampNeg = 4 := by decide
  have e0 : ((4 : Int32) == 0) = false := by decide
  rw [Op.multianewarray.make]
  simp only [wp_bind', Jvm.W.ite, h0, if_false, wp_pure', Jvm.W.theClass, State.vm_setTop, hkA, hkindA, Option.some.injEq, exists_eq_left', e4, e0, Std.Legacy.Range.forIn_eq_forIn_range']
  refine nm_new (U := U.setTop f) (ty := .array .int) hkA hkindA rfl (by omega) (by show 4 * 4 ≤ _; omega) (by show U.heap.size < _; omega) (by show U.slotsUsed + 4 ≤ _; omega) (fun acts' => ?_)
  rw [State.pushCell_setTop, nm_out_new cA U.heap.size]
  rw [if_neg (by decide)]
  simp only [wp_bind', wp_pure']
  refine wp_forIn_inv (fun (rest : List Nat) s' => ∃ i : Nat, i ≤ 4 ∧ rest = List.range' i (4 - i) ∧ s' = (nm_fill U cA cy i).setTop f) _ _ ⟨0, by omega, rfl, rfl⟩ ?_ ?_
  · rintro x rest s' d' acts1 Q' ⟨i, hi, hr, rfl⟩ hQ'
    have hi4 : i < 4 := by
      rcases Nat.lt_or_ge i 4 with h | h
      · exact h
      · rw [show 4 - i = 0 by omega] at hr; cases hr
    rw [show 4 - i = (4 - (i + 1)) + 1 by omega, List.range'_succ] at hr
    obtain ⟨rfl, rfl⟩ := List.cons.inj hr
    obtain ⟨a1, a2, a3, a4, a5, a6, a7⟩ := nm_facts U cA cy x
    have hsz : ((nm_fill U cA cy x).setTop f).heap.size = U.heap.size + 1 + x := a1
    have q0 : (U.heap.size : Nat) < (nm_fill U cA cy x).heap.size := by rw [a1]; omega
    have hcell : ((nm_fill U cA cy x).pushCell (nm_row cy)).heap[U.heap.size]? = some (nm_out cA U.heap.size x) := by
      rw [State.heap_pushCell_of_lt _ _ q0]; exact a2
    simp only [wp_bind', wp_pure', Jvm.W.writeLoc]
    refine nm_inner (U := (nm_fill U cA cy x).setTop f) (by show (nm_fill U cA cy x).vm.classes[cy]? = _; rw [a5]; exact hky) hkindy hlim hheap (by rw [hsz]; omega) (by show (nm_fill U cA cy x).slotsUsed + 60 ≤ _; rw [a6]; omega) (fun acts2 => ?_)
    refine ⟨nm_out cA U.heap.size x, hcell, (fun h => by cases h), (by rw [nm_out_size]; exact hi4), ?_, ?_⟩
    · have hv : (((nm_fill U cA cy x).setTop f).pushCell (nm_row cy)).vm.classes[cA]? = some kA := by
        show (nm_fill U cA cy x).vm.classes[cA]? = _
        rw [a5]; exact hkA
      simp [State.fitsSlot, State.slotType?, nm_out, arrV, a5, hkA, hkindA, fits]
    · rw [hsz]
      exact hQ' _ _ _ ⟨x + 1, by omega, rfl, by
        show (((nm_fill U cA cy x).pushCell (nm_row cy)).setCell U.heap.size ((nm_out cA U.heap.size x).setSlot x (.ref (U.heap.size + 1 + x)))).setTop f = _
        rw [nm_out_step]
        rfl⟩
  · rintro s' d' acts1 ⟨i, hi, hr, rfl⟩
    have hi4 : i = 4 := by
      rcases Nat.lt_or_ge i 4 with h | h
      · rw [show 4 - i = (4 - (i + 1)) + 1 by omega, List.range'_succ] at hr; cases hr
      · omega
    subst hi4
    exact hq _ _
theorem nm_ready {d : Bool} {acts : List Action} {index : Nat} {rest : List Value} {cA cy cI : ClassId} {kA ky : Class} {Q : Unit → Pre} (htop : U.topJava?.isSome) (hr : U.vm.classReady f.method.cls index cA) (hkA : U.vm.classes[cA]? = some kA) (hkindA : kA.kind = .array cy (.array .int)) (hky : U.vm.classes[cy]? = some ky) (hkindy : ky.kind = .array cI .int)
    (hstack : f.stack = .int 60 :: .int 4 :: rest) (hlim : 60 ≤ e.platform.arrayLengthLimit) (hheap : 240 ≤ e.platform.maxHeapBytes) (hc : U.heap.size + 5 ≤ e.platform.maxCells) (hs : U.slotsUsed + 244 ≤ e.platform.maxSlots)
    (hq : ∀ (d' : Bool) (acts' : List Action), Q () d' acts' ((nm_fill U cA cy 4).setTop { f with stack := .ref U.heap.size :: rest })) : wp (Op.multianewarray.sem index 2) Q E e d acts (U.setTop f) := by
  simp only [Op.multianewarray.sem, wp_bind', Jvm.W.resolveClassAt_ready (State.method?_setTop f htop) hr, Jvm.W.popN, State.topJava?_setTop' _ htop]
  refine (if_neg (by decide)).mpr ?_
  refine ⟨f, rfl, [.int 4, .int 60], rest, rfl, hstack, ?_⟩
  rw [State.setTop_setTop]
  simp only [List.mapM_cons, List.mapM_nil, wp_bind', wp_pure', Jvm.W.mark, Jvm.W.pushRef]
  refine nm_make hkA hkindA hky hkindy hlim hheap hc hs (fun d' acts' => ?_)
  refine ⟨_, State.topJava?_setTop' _ (by rw [(nm_facts U cA cy 4).2.2.2.2.2.2]; exact htop), ?_⟩
  rw [State.setTop_setTop]
  exact hq _ _
end NMX
theorem nm_cold {Q : Unit → Pre} {E : CtlPost} {e : Env} {d : Bool} {acts : List Action} {s : State} {f : JFrame} {index n c : Nat} {vm' : Vm} (hs : s.topJava?.isSome) (hg : (Jvm.resolveClass f.method.cls index).Gives e.toSetting s.vm (.ok c) vm') (hr : vm'.classReady f.method.cls index c)
    (hsz : vm'.classes.size ≤ s.vm.classes.size := by no_record) : wp (Op.multianewarray.sem index n) Q E e d acts (s.setTop f) ↔ wp (Op.multianewarray.sem index n) Q E e d acts ((s.setVm vm').setTop f) := by
  simp only [Op.multianewarray.sem, wp_bind']
  exact Jvm.W.resolveClassAt_transfer (s := s.setTop f) (State.method?_setTop f hs) hg hr hsz
section NMS
variable {p : Program} {l : Launch} {e : Env} {R : Room} {s : State} {m : MethodId} {args : Array Value} {below : List Frame} {meth : Method} {c : Code} {T : State} {locs : List Loc} {cells slots : Nat}
/-- new int[4][60] in a walk: five new cells, nothing that was there is written -/
theorem nm_mna2 (X : Stand p l e R s m args below meth c T locs cells slots) (hexec : p.tables.exec = Jvm.exec) {own : String} {index : Nat} (hown : s.vm.findClass own = some m.cls) (hclink : (Cond.classLink own index "[[I").before args s = true) {args' : Array Value} (hover : (Cond.arrayOver (.array .int)).before args' s = true) (harr : (Cond.arrayClass .int).before args s = true)
    {g : JFrame} (hg : g.method = m) (hdg : decode c.code g.pc = .ok (.multianewarray index 2, 4)) {rest : List Value} (hstack : g.stack = .int 60 :: .int 4 :: rest) (hcells : cells + 5 ≤ R.cells) (hslots : slots + 244 ≤ R.slots) :
    ∃ (vm₁ : Vm) (cA cy cI : ClassId) (kA ky : Class), s.vm.findClass ("[" ++ (FieldType.array .int).toString) = some cA ∧ s.vm.findClass ("[" ++ FieldType.int.toString) = some cy ∧ s.vm.classes[cA]? = some kA ∧ kA.kind = .array cy (.array .int) ∧ s.vm.classes[cy]? = some ky ∧ ky.kind = .array cI .int ∧
      Stand p l e R s m args below meth c (nm_fill (T.setVm vm₁) cA cy 4) locs (cells + 5) (slots + 244) ∧
      ∀ target, Steps p.tables e below ((nm_fill (T.setVm vm₁) cA cy 4).setTop { g with pc := g.pc + 4, stack := .ref T.heap.size :: rest }) target → Steps p.tables e below (T.setTop g) target := by
  subst hg
  have hpl : e.platform.magicAccessors = ({} : Platform).magicAccessors := by rw [X.admits.platform]
  obtain ⟨comp, cA, kA, hcomp, -, hkA, hkindA, hnameA⟩ := arrayOverA_spec hover
  obtain ⟨cy, ky, cI, hnamey, hky, hkindy⟩ := Cond.arrayClass_spec harr
  obtain rfl : comp = cy := Option.some.inj (hcomp.symm.trans hnamey)
  obtain ⟨cc, hfcc, hcl⟩ := Cond.classLink_spec hown hclink e.platform hpl
  obtain rfl : cA = cc := Option.some.inj (hnameA.symm.trans hfcc)
  obtain ⟨hg₁, hwarm₁, hready₁⟩ := State.classEntry (e := e) X.warmed hcl
  generalize T.vm.noted g.method.cls index (.cls cA) = vm₁ at hg₁ hwarm₁ hready₁
  have hal : s.vm.Alike vm₁ := hwarm₁.alike
  obtain ⟨kA₁, hkA₁, heA⟩ := hal.2.2 _ _ hkA
  have hkindA₁ : kA₁.kind = .array comp (.array .int) := by rw [heA]; exact hkindA
  obtain ⟨ky₁, hky₁, hey⟩ := hal.2.2 _ _ hky
  have hkindy₁ : ky₁.kind = .array cI .int := by rw [hey]; exact hkindy
  have hlim : 60 ≤ e.platform.arrayLengthLimit := by rw [Launch.admits_arrayLengthLimit X.admits]; omega
  have hheap : 240 ≤ e.platform.maxHeapBytes := by rw [Launch.admits_maxHeapBytes X.admits]; omega
  obtain ⟨hr1, hr2⟩ := X.roomAbove hcells hslots
  have X₁ := X.noted hwarm₁
  obtain ⟨L, hL, X₂⟩ := nm_stand X₁ cA comp 4
  have hge : s.heap.size ≤ T.heap.size := X.same.2.1
  refine ⟨vm₁, cA, comp, cI, kA, ky, hnameA, hnamey, hkA, hkindA, hky, hkindy, nm_drop X₂ (fun x hx => by rw [hL x hx]; exact hge), fun target hrest => ?_⟩
  jvm_step X.here [hexec, hdg]
  refine (nm_cold (s := T) (f := g) X.here.top hg₁ hready₁).mpr ?_
  refine nm_ready (U := T.setVm vm₁) (f := g) X.here.top hready₁ hkA₁ hkindA₁ hky₁ hkindy₁ hstack hlim hheap hr1 hr2 (fun d' acts' => ?_)
  intro acts2
  rw [afterInstr_ok]
  exact hrest
end NMS

/-! ===== 46: makings: what a constructor needs and gives ===== -/
/-- the class of rows of rows of ints, as the tables have it -/
def nk_AO (U : State) : Prop := (Cond.arrayOver (.array .int)).before #[] U = true
theorem nk_AO.moved {u U : State} (hvm : u.vm.Alike U.vm) (h : nk_AO u) : nk_AO U := by
  obtain ⟨comp, c, k, h1, h2, h3, h4, h5⟩ := arrayOverA_spec h
  obtain ⟨k', hk', he⟩ := hvm.2.2 _ _ h3
  have hkind : k'.kind = .array comp (.array .int) := by rw [he]; exact h4
  have f1 : U.vm.findClass (FieldType.array .int).toString = some comp := by rw [hvm.findClass]; exact h1
  have f2 : U.vm.findClass ("[" ++ (FieldType.array .int).toString) = some c := by rw [hvm.findClass]; exact h5
  have hi0 := va_idx_bare U.vm comp
  have hu0 := va_idx_bare u.vm comp
  have hbare : U.vm.bare = u.vm.bare := by first | exact hvm.bare_eq | exact hvm.bare_eq.symm
  rw [hbare] at hi0
  have hi := hi0.symm.trans (hu0.trans h2)
  unfold nk_AO Cond.before Cond.holds
  simp only [Cond.value]
  rw [f1, Option.bind_some]
  refine (congrArg (fun o : Option Nat => (o.bind (fun c => (U.vm.classes[c]?).map fun (k : Class) => match k.kind with | .array _ ty => decide (ty = FieldType.array .int) && decide (U.vm.findClass ("[" ++ (FieldType.array .int).toString) = some c) | _ => false) == some true)) hi).trans ?_
  simp [hk', hkind, f2]
/-- what a constructor asks of the machine -/
def nk_B (D : va_G) (cl : List vw_C) (U : State) : Prop := va_K D cl [] U ∧ (∀ c ∈ tables_1, nk_nest c = true → va_Nw c U) ∧ nk_AO U
theorem nk_B.warm {D : va_G} {cl : List vw_C} {s U : State} (hW : s.WarmedH U.vm) (h : nk_B D cl s) : nk_B D cl U := ⟨va_K.moved hW.alike h.1, fun c hc hn => nk_Nw_warm hn hW (h.2.1 c hc hn), nk_AO.moved hW.alike h.2.2⟩
theorem nk_B.calling {D : va_G} {cl : List vw_C} {U : State} {g : JFrame} {mk : MethodId} {a : Array Value} (h : nk_B D cl U) : nk_B D cl (U.calling g mk a) := ⟨va_K.moved (u := U) (U := U.calling g mk a) (Vm.Alike.refl U.vm) h.1, fun c hc hn => nk_Nw_same hn (u := U) (U := U.calling g mk a) rfl (h.2.1 c hc hn), nk_AO.moved (u := U) (U := U.calling g mk a) (Vm.Alike.refl U.vm) h.2.2⟩
def nk_rc (h c n : Nat) : Room := { frames := h, cells := c, slots := n, locals := 64 * h }
/-- a constructor's contract: from the object as it was made, to the cells Sh -/
def nk_In (l : Launch) (y : MethodName) (b : ByteArray) (nL hh : Nat) (D : va_G) (cl : List vw_C) (x : Nat × va_E) (mc ms : Nat) (Sh : va_W → List (ClassId × FieldType) → Prop) (sz : Nat) : Prop :=
  Met l y (Cond.code y b nL none :: nk_GT) (nk_rc hh mc ms) (va_Pc [.ref x.1] (fun U => U.heap.size = sz ∧ va_P D cl [x] U.heap ∧ nk_B D cl U)) (va_Qv (fun _ : Unit => True) (fun _ t => ∃ (ws : va_W) (tys : List (ClassId × FieldType)), Sh ws tys ∧ va_P D cl ws t.heap ∧ va_K D cl tys t ∧ va_D (va_A [x] sz) ws) (va_A [x] sz)) mc ms (va_A [x] sz)
theorem nk_inblind {D : va_G} {cl : List vw_C} {x : Nat × va_E} {sz : Nat} {av : List Value} : FrameBlind (va_Pc av (fun U => U.heap.size = sz ∧ va_P D cl [x] U.heap ∧ nk_B D cl U)) := fun _ _ _ _ h => ⟨h.1, h.2.1, h.2.2.1, h.2.2.2.calling⟩
theorem nk_D1 {x : Nat × va_E} {sz : Nat} : va_D (va_A [x] sz) [x] := by
  refine ⟨fun i j p q hi hj _ => ?_, fun k q hk => va_A.in hk⟩
  have h1 : i < 1 := (List.getElem?_eq_some_iff.mp hi).1
  have h2 : j < 1 := (List.getElem?_eq_some_iff.mp hj).1
  omega
section MNA
variable {p : Program} {l : Launch} {e : Env} {R : Room} {s : State} {m : MethodId} {args : Array Value} {below : List Frame} {meth : Method} {c : Code} {H : Heap} {locs : List Loc} {cells slots : Nat} {Q : State → Prop}
variable {cc : ByteArray} {pc : Nat} {ls : Array Slot} {rest : List Value} {D : va_G} {cl : List vw_C} {A : Nat → Prop} {tys : List (ClassId × FieldType)} {ws : va_W} {H0 : Heap}
/-- new int[4][60] -/
theorem nk_mna (hexec : p.tables.exec = Jvm.exec) (hb : c.code = cc) {own : String} {index : Nat} (hown : s.vm.findClass own = some m.cls) (hclink : (Cond.classLink own index "[[I").before args s = true) (hover : nk_AO s) (harr : (Cond.arrayClass .int).before args s = true)
    (hK : va_K D cl tys s) (hP : va_P D cl ws H) (hD : va_D A ws) (hS : va_S A H0 H locs) (hA : ∀ q, H0.size ≤ q → A q) (hcells : cells + 5 ≤ R.cells) (hslots : slots + 244 ≤ R.slots) (hdg : decode cc pc = .ok (.multianewarray index 2, 4))
    (kk : ∀ (q r0 r1 r2 r3 : Nat) (cA cy : ClassId) (F : Nat → Option Nat) (H1 : Heap), F 0 = some r0 → F 1 = some r1 → F 2 = some r2 → F 3 = some r3 → va_K D cl (tys ++ [(cA, .array .int), (cy, .int)]) s →
      va_P D cl (ws ++ [(q, .inl (cA, 4, .inr (.inr (.inr (.inr F))))), (r0, .inl (cy, 60, .inl (fun _ => 0))), (r1, .inl (cy, 60, .inl (fun _ => 0))), (r2, .inl (cy, 60, .inl (fun _ => 0))), (r3, .inl (cy, 60, .inl (fun _ => 0)))]) H1 → va_D A (ws ++ [(q, .inl (cA, 4, .inr (.inr (.inr (.inr F))))), (r0, .inl (cy, 60, .inl (fun _ => 0))), (r1, .inl (cy, 60, .inl (fun _ => 0))), (r2, .inl (cy, 60, .inl (fun _ => 0))), (r3, .inl (cy, 60, .inl (fun _ => 0)))]) → va_S A H0 H1 locs →
      W p l e R s m args below meth c H1 locs (cells + 5) (slots + 244) Q (F0 m (pc + 4) ls (.ref q :: rest))) : W p l e R s m args below meth c H locs cells slots Q (F0 m pc ls (.int 60 :: .int 4 :: rest)) := by
  intro T hT Xs
  obtain ⟨vm₁, cA, cy, cI, kA, ky, fA, fC, gA, gkA, gy, gky, X', step⟩ := nm_mna2 Xs hexec hown hclink hover harr (g := F0 m pc ls (.int 60 :: .int 4 :: rest)) rfl (by rw [hb]; exact hdg) rfl hcells hslots
  have hTh : (T.setVm vm₁).heap = H := hT
  obtain ⟨f1, f2, f3, hold, -⟩ := nm_facts (T.setVm vm₁) cA cy 4
  rw [hTh] at f1 f2 f3 hold
  generalize nm_fill (T.setVm vm₁) cA cy 4 = V at X' step f1 f2 f3 hold
  have hrow : ∀ j : Nat, j < 4 → V.heap[H.size + 1 + j]? = some (vp_cell cy (60, .inl (fun _ => 0))) := fun j hj => f3 j hj
  have hlt : ∀ (k : Nat) (x : Nat × va_E), ws[k]? = some x → x.1 < H.size := fun k x hx => (hP k x hx).lt
  have hK2 : va_K D cl (tys ++ [(cA, .array .int), (cy, .int)]) s := by
    refine va_K.app hK ⟨hK.1, fun k q hk => ?_⟩
    have hk2 : k < 2 := (List.getElem?_eq_some_iff.mp hk).1
    rcases (show k = 0 ∨ k = 1 by omega) with rfl | rfl
    · cases hk
      refine ⟨fun N z => ?_, fA⟩
      exact ⟨(fun q hq => by cases hq), kA, gA, cy, gkA⟩
    · cases hk
      refine ⟨fun N z => ?_, fC⟩
      exact ⟨(fun q hq => by cases hq), ky, gy, cI, gky⟩
  have hP2 : va_P D cl (ws ++ [(H.size, .inl (cA, 4, .inr (.inr (.inr (.inr (fun j => if j < 4 then some (H.size + 1 + j) else none)))))), (H.size + 1 + 0, .inl (cy, 60, .inl (fun _ => 0))), (H.size + 1 + 1, .inl (cy, 60, .inl (fun _ => 0))), (H.size + 1 + 2, .inl (cy, 60, .inl (fun _ => 0))), (H.size + 1 + 3, .inl (cy, 60, .inl (fun _ => 0)))]) V.heap := by
    refine va_P.app (hP.kept (fun k x hx => hold x.1 (hlt k x hx))) (fun k q hk => ?_)
    have hk2 : k < 5 := (List.getElem?_eq_some_iff.mp hk).1
    rcases (show k = 0 ∨ k = 1 ∨ k = 2 ∨ k = 3 ∨ k = 4 by omega) with rfl | rfl | rfl | rfl | rfl
    · cases hk
      show V.heap[H.size]? = some (vp_cell cA _)
      rw [f2, vp_cell_q]
      rfl
    · cases hk; exact hrow 0 (by omega)
    · cases hk; exact hrow 1 (by omega)
    · cases hk; exact hrow 2 (by omega)
    · cases hk; exact hrow 3 (by omega)
  have hD2 : va_D A (ws ++ [(H.size, .inl (cA, 4, .inr (.inr (.inr (.inr (fun j => if j < 4 then some (H.size + 1 + j) else none)))))), (H.size + 1 + 0, .inl (cy, 60, .inl (fun _ => 0))), (H.size + 1 + 1, .inl (cy, 60, .inl (fun _ => 0))), (H.size + 1 + 2, .inl (cy, 60, .inl (fun _ => 0))), (H.size + 1 + 3, .inl (cy, 60, .inl (fun _ => 0)))]) := by
    refine va_D.app hD ⟨fun i j x y hi hj hxy => ?_, fun k q hk => ?_⟩ (fun i j x y hi hj hxy => ?_)
    · have hi2 : i < 5 := (List.getElem?_eq_some_iff.mp hi).1
      have hj2 : j < 5 := (List.getElem?_eq_some_iff.mp hj).1
      rcases (show i = 0 ∨ i = 1 ∨ i = 2 ∨ i = 3 ∨ i = 4 by omega) with rfl | rfl | rfl | rfl | rfl <;> rcases (show j = 0 ∨ j = 1 ∨ j = 2 ∨ j = 3 ∨ j = 4 by omega) with rfl | rfl | rfl | rfl | rfl <;> cases hi <;> cases hj <;> first | rfl | (exfalso; simp only at hxy; omega)
    · have hk2 : k < 5 := (List.getElem?_eq_some_iff.mp hk).1
      have := hS.1
      rcases (show k = 0 ∨ k = 1 ∨ k = 2 ∨ k = 3 ∨ k = 4 by omega) with rfl | rfl | rfl | rfl | rfl <;> cases hk <;> exact hA _ (by simp only; omega)
    · have := hlt i x hi
      have hj2 : j < 5 := (List.getElem?_eq_some_iff.mp hj).1
      rcases (show j = 0 ∨ j = 1 ∨ j = 2 ∨ j = 3 ∨ j = 4 by omega) with rfl | rfl | rfl | rfl | rfl <;> cases hj <;> simp only at hxy <;> omega
  obtain ⟨t, a1, b1⟩ := kk H.size (H.size + 1 + 0) (H.size + 1 + 1) (H.size + 1 + 2) (H.size + 1 + 3) cA cy (fun j => if j < 4 then some (H.size + 1 + j) else none) V.heap rfl rfl rfl rfl hK2 hP2 hD2 ⟨by rw [f1]; have := hS.1; omega, fun x h1 h2 => (hold x (Nat.lt_of_lt_of_le h1 hS.1)).trans (hS.2.1 x h1 h2), hS.2.2⟩ V rfl X'
  refine ⟨t, step t ?_, b1⟩
  have e : T.heap.size = H.size := by rw [hT]
  rw [e]
  exact a1
/-- a call, whatever was made before it -/
theorem nk_runW {β : Type} {inj' : β → Option Value} {w : nk_D} {G : nk_V} {μ1 : nk_M} {av : List Value} {r : β} {A0 : Nat → Prop} {st0 : List Value} (hr : va_Run p l e R s m args below meth c H locs cells slots 0 0 (F0 m pc ls st0) rest (nk_Q w G (inj' r) μ1 av.toArray) G.2.2.2.2) (hS : va_S A0 H0 H locs) (hA : ∀ q, G.2.2.2.2 q → A0 q)
    (kk : ∀ (H1 : Heap) (locs1 : List Loc), va_P G.1 w.1 (nk_wl w G μ1) H1 → H.size ≤ H1.size → (∀ q : Nat, q < H.size → ¬ G.2.2.2.2 q → H1[q]? = H[q]?) → va_S A0 H0 H1 locs1 → W p l e R s m args below meth c H1 locs1 cells slots Q (F0 m (pc + 3) ls ((inj' r).toList ++ rest))) : W p l e R s m args below meth c H locs cells slots Q (F0 m pc ls st0) := by
  intro T hT Xs
  obtain ⟨v1, st₀, t, T', L, h0, X', hL, e1, e2, ⟨⟨hv, hb⟩, hz, hk⟩, stp⟩ := hr T hT Xs
  cases hv
  rw [h0] at hz hk
  obtain ⟨t2, a1, b1⟩ := kk T'.heap (locs ++ L) (by rw [e1]; exact hb.1) (by rw [e1]; exact hz) (fun q h1 h2 => by rw [e1]; exact hk q h1 h2)
    ⟨Nat.le_trans hS.1 (by rw [e1]; exact hz), fun q h1 h2 => by rw [e1, hk q (Nat.lt_of_lt_of_le h1 hS.1) (fun z => h2 (hA q z))]; exact hS.2.1 q h1 h2, fun q hq => by
      rcases List.mem_append.mp hq with h | h
      · exact hS.2.2 q h
      · exact hA _ (hL q h)⟩ T' rfl X'
  exact ⟨t2, stp t2 a1, b1⟩
end MNA
theorem nk_K.warm0 {w : nk_D} {G : nk_V} {s U : State} {H : Heap} (hW : s.WarmedH U.vm) (hU : U.heap = H) (hS : ∀ q : Nat, q < s.heap.size → ¬ G.2.2.2.2 q → H[q]? = s.heap[q]?) (h : nk_K w G s) : nk_K w G U := by
  obtain ⟨h1, h2, h3, h4, h5⟩ := h
  refine ⟨va_K.moved hW.alike h1, fun c hc hn => nk_Nw_warm hn hW (h2 c hc hn), fun i q hq => ?_, h4, h5⟩
  obtain ⟨a, b⟩ := h3 i q hq
  rw [hU]
  exact ⟨(va_Z.moved hW.alike a).kept hS, (va_T.moved hW.alike b).kept hS⟩
/-! the small world of one Cells object, while it is made -/
def nk_shK : List nk_S := [.inl (0, nk_cfl 1), .inr (.inl (.int, 8)), .inr (.inl (.int, 8)), .inr (.inl (.int, 8)), .inr (.inl (.int, 24)), .inr (.inl (.int, 8)), .inr (.inl (.int, 8)), .inr (.inl (.int, 8)), .inr (.inl (.boolean, 8)), .inr (.inl (.int, 8))]
def nk_wK : nk_D := (nk_clC, fun k => nk_shK.getD k (.inl (0, [])), 10, [])
theorem zaK_24 : nk_fa "NeedOnce$Cells" 24 nk_wK 0 5 := za_C_24
theorem zaK_27 : nk_fa "NeedOnce$Cells" 27 nk_wK 0 6 := za_C_27
theorem zaK_30 : nk_fa "NeedOnce$Cells" 30 nk_wK 0 7 := za_C_30
set_option maxHeartbeats 4000000 in
set_option maxRecDepth 100000 in
theorem zsK_J_fill_b5 {G : nk_V} {X : nk_X} (k n : Nat) (hk : k < nk_wK.2.2.1) (hs : nk_wK.2.1 k = .inr (.inl (.int, n))) (C : nk_C "java/util/Arrays" zb_J_fill 4 nk_wK G X) (hR : X.2.2.2.1 = nk_rm 1) (hr : X.2.2.2.2.2.2.2.2.1.sig.returnType = none) : ∀ (n0 : Nat) (y1 : Int32) (y2 : Int32) (y3 : Int32) (m0 : nk_M), nk_Sim nk_wK G X 4 nk_ov 5 [nk_r G k, .int y1, .int y2, .int y3] [] m0 (zf_J_fill_b5 k n n0 y1 y2 y3 m0) := by
  intro n0
  induction n0 with
  | zero => intros; exact nk_none
  | succ n0 ih =>
    intro y1 y2 y3 m0
    rw [zf_J_fill_b5]
    refine nk_iload_n C zd_J_fill_5 rfl rfl ?_
    refine nk_iload_n C zd_J_fill_6 rfl rfl ?_
    refine nk_icmp_ge (tgt := 20) C zd_J_fill_7 (by decide) ?_ ?_
    · exact nk_vret C hr zd_J_fill_20
    · refine nk_aload_n C zd_J_fill_10 rfl rfl ?_
      refine nk_iload_n C zd_J_fill_11 rfl rfl ?_
      refine nk_iload_n C zd_J_fill_12 rfl rfl ?_
      refine nk_iast C hk hs zd_J_fill_13 (fun m1 => ?_)
      refine nk_iinc (v0 := y2 + 1) C zd_J_fill_14 rfl (nk_inc _ (by decide)) (Nat.le_of_ble_eq_true rfl) rfl ?_
      refine nk_goto (tgt := 5) C zd_J_fill_17 (by decide) ?_
      exact ih y1 (y2 + 1) y3 m1
set_option maxHeartbeats 4000000 in
set_option maxRecDepth 100000 in
theorem zcK_J_fill {l : Launch} {G : nk_V} (k n : Nat) (hk : k < nk_wK.2.2.1) (hs : nk_wK.2.1 k = .inr (.inl (.int, n))) (a2 : Int32) (m0 : nk_M) : nk_Ct l nk_wK G 1 zy_J_fill zb_J_fill 4 none nk_ov [nk_r G k, .int a2] m0 (zf_J_fill k n a2 m0) := by
  refine nk_ent (own := "java/util/Arrays") (lv := [nk_r G k, .int a2, .null, .null]) 2 rfl (by decide) (Nat.le_of_ble_eq_true rfl) rfl (fun X hl hR C hr => ?_)
  subst hl
  unfold zf_J_fill
  refine nk_iconst (v := 0) C zd_J_fill_0 (by decide) ?_
  refine nk_istore_n C zd_J_fill_1 rfl (Nat.le_of_ble_eq_true rfl) rfl ?_
  refine nk_aload_n C zd_J_fill_2 rfl rfl ?_
  refine nk_alen C hk hs zd_J_fill_3 ?_
  refine nk_named (fun x1 => ?_)
  refine nk_istore_n C zd_J_fill_4 rfl (Nat.le_of_ble_eq_true rfl) rfl ?_
  exact zsK_J_fill_b5 k n hk hs C hR hr nk_fu a2 (0 : Int32) x1 m0
set_option maxHeartbeats 4000000 in
set_option maxRecDepth 100000 in
theorem zcK_C_putToSleep {l : Launch} {G : nk_V} (m0 : nk_M) : nk_Ct l nk_wK G 2 zy_C_putToSleep zb_C_putToSleep 1 none nk_ov [nk_r G 0] m0 (zf_C_putToSleep 0 1 m0) := by
  refine nk_ent (own := "NeedOnce$Cells") (lv := [nk_r G 0]) 0 rfl (by decide) (Nat.le_of_ble_eq_true rfl) rfl (fun X hl hR C hr => ?_)
  subst hl
  unfold zf_C_putToSleep
  refine nk_aload_n C zd_C_putToSleep_0 rfl rfl ?_
  refine nk_getR C (r := 5) zaK_24 (Nat.le_of_ble_eq_true rfl) rfl rfl zd_C_putToSleep_1 ?_
  refine nk_bipush (v := -9) C zd_C_putToSleep_4 (by decide) ?_
  refine nk_callSv C [nk_r G 5, .int (-9 : Int32)] zv_C_71 hR (zcK_J_fill 5 8 (Nat.le_of_ble_eq_true rfl) rfl (-9 : Int32) m0) (by omega) rfl rfl (Nat.le_of_ble_eq_true rfl) zd_C_putToSleep_6 (fun m1 => ?_)
  refine nk_aload_n C zd_C_putToSleep_9 rfl rfl ?_
  refine nk_getR C (r := 6) zaK_27 (Nat.le_of_ble_eq_true rfl) rfl rfl zd_C_putToSleep_10 ?_
  refine nk_bipush (v := -9) C zd_C_putToSleep_13 (by decide) ?_
  refine nk_callSv C [nk_r G 6, .int (-9 : Int32)] zv_C_71 hR (zcK_J_fill 6 8 (Nat.le_of_ble_eq_true rfl) rfl (-9 : Int32) m1) (by omega) rfl rfl (Nat.le_of_ble_eq_true rfl) zd_C_putToSleep_15 (fun m2 => ?_)
  refine nk_aload_n C zd_C_putToSleep_18 rfl rfl ?_
  refine nk_getR C (r := 7) zaK_30 (Nat.le_of_ble_eq_true rfl) rfl rfl zd_C_putToSleep_19 ?_
  refine nk_bipush (v := -9) C zd_C_putToSleep_22 (by decide) ?_
  refine nk_callSv C [nk_r G 7, .int (-9 : Int32)] zv_C_71 hR (zcK_J_fill 7 8 (Nat.le_of_ble_eq_true rfl) rfl (-9 : Int32) m2) (by omega) rfl rfl (Nat.le_of_ble_eq_true rfl) zd_C_putToSleep_24 (fun m3 => ?_)
  exact nk_vret C hr zd_C_putToSleep_27
/-- a world by its addresses, array classes and static tables' addresses -/
def nk_Gv (D : va_G) (ad : List Nat) (cs : List ClassId) (sa : List Nat) : nk_V := (D, fun k => ad.getD k 0, fun k => cs.getD k 0, fun k => sa.getD k 0, fun q => ∃ k, k < ad.length ∧ q = ad.getD k 0)
theorem nk_Gv_A {w : nk_D} {D : va_G} {ad : List Nat} {cs : List ClassId} {sa : List Nat} {μ : nk_M} {A : Nat → Prop} (hn : ad.length = w.2.2.1) (hD : va_D A (nk_wl w (nk_Gv D ad cs sa) μ)) : ∀ q, (nk_Gv D ad cs sa).2.2.2.2 q → A q := by
  rintro q ⟨k, hk, rfl⟩
  exact hD.2 k _ (nk_wl_get (w := w) (G := nk_Gv D ad cs sa) (by rw [← hn]; exact hk))
theorem nk_Gv_K {w : nk_D} {D : va_G} {ad : List Nat} {cs : List ClassId} {sa : List Nat} {μ : nk_M} {A : Nat → Prop} {s : State} (hn : ad.length = w.2.2.1) (hD : va_D A (nk_wl w (nk_Gv D ad cs sa) μ)) (hK : va_K D w.1 (nk_tys w (nk_Gv D ad cs sa)) s) (hN : ∀ c ∈ tables_1, nk_nest c = true → va_Nw c s)
    (hT : ∀ (i : Nat) (q : nk_T), w.2.2.2[i]? = some q → va_Z q.1 q.2.1 q.2.2.1 (.ref (sa.getD i 0)) A s s.heap ∧ va_T q.2.2.2.1 (sa.getD i 0) q.2.2.2.2.1 (fun j => .int (q.2.2.2.2.2 j)) A s s.heap) : nk_K w (nk_Gv D ad cs sa) s := by
  refine ⟨hK, hN, fun i q hq => ?_, fun i j hi hj hij => hD.1 i j _ _ (nk_wl_get hi) (nk_wl_get hj) hij, fun k hk => ⟨k, by rw [hn]; exact hk, rfl⟩⟩
  obtain ⟨h1, h2⟩ := hT i q hq
  exact ⟨h1.narrow (nk_Gv_A hn hD), h2.narrow (nk_Gv_A hn hD)⟩
theorem nk_KK {G : nk_V} {s U : State} (hW : s.WarmedH U.vm) (h : nk_K nk_wK G s) : nk_K nk_wK G U := by
  obtain ⟨h1, h2, h3, h4, h5⟩ := h
  exact ⟨va_K.moved hW.alike h1, fun c hc hn => nk_Nw_warm hn hW (h2 c hc hn), fun i q hq => by simp [nk_wK] at hq, h4, h5⟩
def nk_mk : nk_M := fun k => if k = 0 then (fun j => if j = 9 then 1 else 0) else fun _ => 0
def nk_mk2 (f5 f6 f7 : Nat → Int32) : nk_M := fun k => if k = 0 then (fun j => if j = 9 then 1 else 0) else if k = 5 then f5 else if k = 6 then f6 else if k = 7 then f7 else fun _ => 0
theorem nk_mk_slp : q_slp 1 nk_mk = nk_mk2 (q_slp 1 nk_mk 5) (q_slp 1 nk_mk 6) (q_slp 1 nk_mk 7) := by
  funext k
  by_cases h5 : k = 5
  · subst h5; rfl
  · by_cases h6 : k = 6
    · subst h6; rfl
    · by_cases h7 : k = 7
      · subst h7; rfl
      · have : q_slp 1 nk_mk k = nk_mk k := funext fun b => q_slpN (by omega)
        rw [this]
        unfold nk_mk nk_mk2
        simp only [h5, h6, h7, if_false]
/-- the same addresses, whatever the cells hold -/
theorem nk_Dsame {A : Nat → Prop} {ws ws' : va_W} (h : va_D A ws) (he : ws'.map (fun q => q.1) = ws.map (fun q => q.1)) : va_D A ws' := by
  have g : ∀ (k : Nat) (q : Nat × va_E), ws'[k]? = some q → ∃ q', ws[k]? = some q' ∧ q'.1 = q.1 := fun k q hq => by
    have h1 : (ws'.map (fun q => q.1))[k]? = some q.1 := by rw [List.getElem?_map, hq]; rfl
    rw [he, List.getElem?_map] at h1
    cases hw : ws[k]? with
    | none => rw [hw] at h1; cases h1
    | some q' => rw [hw] at h1; exact ⟨q', rfl, by simpa using h1⟩
  refine ⟨fun i j p q hi hj hpq => ?_, fun k q hk => ?_⟩
  · obtain ⟨p', a1, a2⟩ := g i p hi
    obtain ⟨q', b1, b2⟩ := g j q hj
    exact h.1 i j p' q' a1 b1 (by rw [a2, b2]; exact hpq)
  · obtain ⟨q', b1, b2⟩ := g k q hk
    rw [← b2]
    exact h.2 k q' b1

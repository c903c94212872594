/-! ===== 49: the law: rows of its walk ===== -/
theorem lo_hts {args : Array Value} {s : State} (h : ∀ w ∈ lw_tbl, w.before args s = true) : ∀ w ∈ nk_GT, w.before args s = true := fun w hw => h w (List.mem_filter.mp hw).1
/-- what holds throughout the law: the entry, the two worlds, apart -/
def lo_C (p : Program) (s : State) (m : MethodId) (meth : Method) (c : Code) (b L : Nat) (xs : Nat → Int32) (G1 G2 : nk_V) : Prop :=
  lw_At p s m meth c b L xs ∧ nk_K nk_wC G1 s ∧ nk_K nk_wR G2 s ∧ (∀ q, G1.2.2.2.2 q → s.heap.size ≤ q) ∧ (∀ q, G2.2.2.2.2 q → s.heap.size ≤ q) ∧ (∀ q, G1.2.2.2.2 q → ¬ G2.2.2.2.2 q) ∧ L ≤ 3072
/-- the law stands at pc: the two worlds, at place i of the script -/
def lo_J (p : Program) (l : Launch) (e : Env) (s : State) (m : MethodId) (below : List Frame) (meth : Method) (c : Code) (b : Nat) (G1 G2 : nk_V) (i : Nat) (μ ν : nk_M) (pc : Nat) (st : List Value) : Prop :=
  ∀ (H : Heap) (locs : List Loc) (ls : Array Slot), va_P G1.1 nk_wC.1 (nk_wl nk_wC G1 μ) H → va_P G2.1 nk_wR.1 (nk_wl nk_wR G2 ν) H → va_S (fun q : Nat => s.heap.size ≤ q) s.heap H locs → lv_has ls 4 [(0, .ref b), (1, .ref (G1.2.1 0)), (2, .ref (G2.2.1 0)), (3, .int (nI i))] →
    W p l e room_1 s m #[Value.ref b] below meth c H locs 100 2000 (lw_Z below #[Value.ref b] s) (F0 m pc ls st)
section LO
variable {p : Program} {l : Launch} {e : Env} {s : State} {m : MethodId} {below : List Frame} {meth : Method} {c : Code} {b L : Nat} {xs : Nat → Int32} {G1 G2 : nk_V} {i : Nat} {μ ν : nk_M} {pc : Nat} {st : List Value}
theorem lo_al1 (C : lo_C p s m meth c b L xs G1 G2) (hd : decode code pc = .ok (.aload_n 1, 1)) (h : lo_J p l e s m below meth c b G1 G2 i μ ν (pc + 1) (nk_r G1 0 :: st)) : lo_J p l e s m below meth c b G1 G2 i μ ν pc st := by
  intro H locs ls h1 h2 hS hl
  exact lv_aload_n C.1.1 C.1.2.1 hd rfl (lv_at hl 1 rfl) (h H locs ls h1 h2 hS hl)
theorem lo_al2 (C : lo_C p s m meth c b L xs G1 G2) (hd : decode code pc = .ok (.aload_n 2, 1)) (h : lo_J p l e s m below meth c b G1 G2 i μ ν (pc + 1) (nk_r G2 0 :: st)) : lo_J p l e s m below meth c b G1 G2 i μ ν pc st := by
  intro H locs ls h1 h2 hS hl
  exact lv_aload_n C.1.1 C.1.2.1 hd rfl (lv_at hl 2 rfl) (h H locs ls h1 h2 hS hl)
/-- an argument: script[i + k] -/
theorem lo_arg (C : lo_C p s m meth c b L xs G1 G2) {k : Nat} (hk : i + k < L) {kk : Int} (hv : Int32.ofInt kk = nI k) (d0 : decode code pc = .ok (.aload_n 0, 1)) (d1 : decode code (pc + 1) = .ok (.iload_n 3, 1)) (d2 : decode code (pc + 2) = .ok (.iconst kk, 1)) (d3 : decode code (pc + 3) = .ok (.iadd, 1)) (d4 : decode code (pc + 4) = .ok (.iaload, 1)) (h : lo_J p l e s m below meth c b G1 G2 i μ ν (pc + 5) (.int (xs (i + k)) :: st)) : lo_J p l e s m below meth c b G1 G2 i μ ν pc st := by
  obtain ⟨⟨hx, hb, hr, hml, hown, hts, hX, hbl, hlocks, hgv⟩, -, -, -, -, -, hL⟩ := id C
  intro H locs ls h1 h2 hS hl
  refine lv_aload_n hx hb d0 rfl (lv_at hl 0 rfl) ?_
  refine lv_iload_n hx hb d1 rfl (lv_at hl 3 rfl) ?_
  refine lv_iconst (v := nI k) hx hb d2 hv ?_
  refine lv_iadd hx hb d3 ?_
  rw [q_add]
  refine va_sld hx hb hX hbl (Nat.not_le.mpr hbl) hS (vp_in_nI hk (by omega)) d4 ?_
  rw [q_clamp (by omega)]
  exact h H locs ls h1 h2 hS hl
theorem lo_kept {w : nk_D} {G : nk_V} {μ : nk_M} {H H1 : Heap} {A : Nat → Prop} (hP : va_P G.1 w.1 (nk_wl w G μ) H) (hk : ∀ q : Nat, q < H.size → ¬ A q → H1[q]? = H[q]?) (hA : ∀ k, k < w.2.2.1 → ¬ A (G.2.1 k)) : va_P G.1 w.1 (nk_wl w G μ) H1 := by
  refine hP.kept (fun k x hx => hk x.1 ((hP k x hx).lt) ?_)
  by_cases h : k < w.2.2.1
  · rw [nk_wl_get h] at hx
    cases hx
    exact hA k h
  · simp [nk_wl, h] at hx
theorem lo_run {w : nk_D} {G : nk_V} {α : Type} {inj' : α → Option Value} {y : MethodName} {bb : ByteArray} {nL' hh n index ci nn : Nat} {T : u_T} {fl : List (Option Nat)} {ret : Option FieldType} {As : List Value} {F : Option (α × nk_M)} {r : α} {μ1 μ2 : nk_M} {H : Heap} {locs : List Loc} {ls : Array Slot}
    (C0 : lw_At p s m meth c b L xs) (hK : nk_K w G s) (hA : ∀ q, G.2.2.2.2 q → s.heap.size ≤ q) (hcV : nk_cV "NeedOnceLaw" index y bb nL' ret n) (hct : nk_Ct l w G hh y bb nL' ret inj' (nk_r G 0 :: As) μ1 F) (hF : F = some (r, μ2)) (hh2 : hh ≤ 1000) (h0 : 0 < w.2.2.1) (hs : w.2.1 0 = .inl (ci, fl)) (hc : w.1[ci]? = some (y.cls, T, nn)) (hn : As.length = n) (hst : (st.map fun v => v.category).sum ≤ 8) (hd : decode code pc = .ok (.invokevirtual index, 3))
    (hP : va_P G.1 w.1 (nk_wl w G μ1) H) (hS : va_S (fun q : Nat => s.heap.size ≤ q) s.heap H locs) (hl : ls.size = 4) :
    va_Run p l e room_1 s m #[Value.ref b] below meth c H locs 100 2000 0 0 (F0 m pc ls (As.reverse ++ nk_r G 0 :: st)) st (nk_Q w G (inj' r) μ2 (nk_r G 0 :: As).toArray) G.2.2.2.2 := by
  obtain ⟨hx, hb, hr, hml, hown, hts0, hX, hbl, hlocks, hgv⟩ := C0
  have hts := lo_hts hts0
  obtain ⟨⟨c1, c2, c3, c4, c5⟩, c6, c7⟩ := hcV
  have hS' : CallFix p m c code 4 s #[Value.ref b] nk_GT R_law := ⟨hx, hb, hml, hown, hts⟩
  have hpre : PreV s H y.cls (G.2.1 0) (va_Pc (nk_r G 0 :: As) (nk_W w G μ1)) As := ⟨nk_blind, va_recv hK.1 hP hc (q0 := 0) (fs := nk_flds G fl (μ1 0)) (by rw [nk_wl_get h0, hs]; rfl), fun U hU hW => ⟨rfl, by rw [hU]; exact hP, nk_K.warm0 hW hU (fun q h1 h2 => hS.2.1 q h1 (Nat.not_le.mpr h1)) hK⟩⟩
  have hM := hct r μ2 hF
  have hlm : (nk_rm hh).frames + 1 ≤ room_1.frames ∧ 8 + (nL' + 11) + (nk_rm hh).locals ≤ room_1.locals := ⟨by show hh + 1 ≤ 2048; omega, by show 8 + (nL' + 11) + 64 * hh ≤ 84000; omega⟩
  rcases c5 with c5 | ⟨host, c5⟩
  · exact va_runV hS' hM ⟨callB_of n hts (nk_ws c1) rfl rfl rfl (hts _ c2) (hts _ c5) c3 hlm, hts _ c6, hts _ c7⟩ hpre rfl hn hl rfl (lv_room hst) hd ⟨Nat.le_of_ble_eq_true rfl, Nat.le_of_ble_eq_true rfl⟩
  · exact va_runVN hS' hM ⟨va_cnB n hts (nk_ws c1) rfl rfl rfl (hK.2.1 _ c5 rfl) (hts _ c2) c3 hlm, hts _ c6, hts _ c7⟩ hpre rfl hn hl rfl (lv_room hst) hd ⟨Nat.le_of_ble_eq_true rfl, Nat.le_of_ble_eq_true rfl⟩
/-- a call of the class -/
theorem lo_callN (C : lo_C p s m meth c b L xs G1 G2) {α : Type} {inj' : α → Option Value} {y : MethodName} {bb : ByteArray} {nL' hh n index : Nat} {ret : Option FieldType} (As : List Value) {F : Option (α × nk_M)} {r : α} {μ' : nk_M} (hcV : nk_cV "NeedOnceLaw" index y bb nL' ret n) (hct : nk_Ct l nk_wC G1 hh y bb nL' ret inj' (nk_r G1 0 :: As) μ F) (hF : F = some (r, μ')) (hy : y.cls = "NeedOnce") (hh2 : hh ≤ 1000) (hn : As.length = n) {stk : List Value} (hstk : stk = As.reverse ++ nk_r G1 0 :: st) (hst : (st.map fun v => v.category).sum ≤ 8) (hd : decode code pc = .ok (.invokevirtual index, 3))
    (h : lo_J p l e s m below meth c b G1 G2 i μ' ν (pc + 3) ((inj' r).toList ++ st)) : lo_J p l e s m below meth c b G1 G2 i μ ν pc stk := by
  obtain ⟨C0, K1, K2, A1, A2, hdis, hL⟩ := id C
  intro H locs ls h1 h2 hS hl
  subst hstk
  refine nk_runW (lo_run (w := nk_wC) C0 K1 A1 hcV hct hF hh2 (Nat.le_of_ble_eq_true rfl) rfl (by rw [hy]; rfl) hn hst hd h1 hS hl.1) hS A1 (fun H1 locs1 hP _ hk hS1 => ?_)
  exact h H1 locs1 ls hP (lo_kept h2 hk (fun k hk2 hz => hdis _ hz (K2.2.2.2.2 k hk2))) hS1 hl
/-- a call of the reference -/
theorem lo_callM (C : lo_C p s m meth c b L xs G1 G2) {α : Type} {inj' : α → Option Value} {y : MethodName} {bb : ByteArray} {nL' hh n index : Nat} {ret : Option FieldType} (As : List Value) {F : Option (α × nk_M)} {r : α} {ν' : nk_M} (hcV : nk_cV "NeedOnceLaw" index y bb nL' ret n) (hct : nk_Ct l nk_wR G2 hh y bb nL' ret inj' (nk_r G2 0 :: As) ν F) (hF : F = some (r, ν')) (hy : y.cls = "NeedOnceModel") (hh2 : hh ≤ 1000) (hn : As.length = n) {stk : List Value} (hstk : stk = As.reverse ++ nk_r G2 0 :: st) (hst : (st.map fun v => v.category).sum ≤ 8) (hd : decode code pc = .ok (.invokevirtual index, 3))
    (h : lo_J p l e s m below meth c b G1 G2 i μ ν' (pc + 3) ((inj' r).toList ++ st)) : lo_J p l e s m below meth c b G1 G2 i μ ν pc stk := by
  obtain ⟨C0, K1, K2, A1, A2, hdis, hL⟩ := id C
  intro H locs ls h1 h2 hS hl
  subst hstk
  refine nk_runW (lo_run (w := nk_wR) C0 K2 A2 hcV hct hF hh2 (Nat.le_of_ble_eq_true rfl) rfl (by rw [hy]; rfl) hn hst hd h2 hS hl.1) hS A2 (fun H1 locs1 hP _ hk hS1 => ?_)
  exact h H1 locs1 ls (lo_kept h1 hk (fun k hk2 hz => hdis _ (K1.2.2.2.2 k hk2) hz)) hP hS1 hl
/-- the two answers are the same -/
theorem lo_eq (C : lo_C p s m meth c b L xs G1 G2) {r : Int32} {off : Int} (hd : decode code pc = .ok (.if_icmp .eq off, 3)) (ht : (pc : Int) + off = (969 : Nat)) (h : lo_J p l e s m below meth c b G1 G2 i μ ν 969 []) : lo_J p l e s m below meth c b G1 G2 i μ ν pc [.int r, .int r] := by
  intro H locs ls h1 h2 hS hl
  exact lv_icmp_eq (tgt := 969) C.1.1 C.1.2.1 hd ht (fun _ => h H locs ls h1 h2 hS hl) (fun z => absurd rfl z)
theorem lo_cmp (x : Int64) : lg_cmp x x = 0 := by
  unfold lg_cmp
  rw [if_neg (by have := Int64.lt_iff_toInt_lt (x := x) (y := x); intro z; have := this.mp z; omega), if_pos rfl]
theorem lo_eql (C : lo_C p s m meth c b L xs G1 G2) {r : Int64} {off : Int} (hc : decode code pc = .ok (.lcmp, 1)) (hd : decode code (pc + 1) = .ok (.ifCond .eq off, 3)) (ht : ((pc + 1 : Nat) : Int) + off = (969 : Nat)) (h : lo_J p l e s m below meth c b G1 G2 i μ ν 969 []) : lo_J p l e s m below meth c b G1 G2 i μ ν pc [.long r, .long r] := by
  intro H locs ls h1 h2 hS hl
  refine W.lcmp C.1.1 C.1.2.1 hc ?_
  rw [lo_cmp]
  exact lv_if_eq (tgt := 969) C.1.1 C.1.2.1 hd ht (fun _ => h H locs ls h1 h2 hS hl) (fun z => absurd rfl z)
end LO

/-! ===== 55: the law's start (written by program) ===== -/
def st_m (f1 f2 f3 g1 g2 g3 : Nat → Int32) : nk_M := fun k => ([fun _ => 0, fun j => if j = 9 then 1 else 0, fun j => if j = 9 then 1 else 0, fun _ => 0, fun _ => 0, fun _ => 0, fun _ => 0, fun _ => 0, fun _ => 0, fun _ => 0, f1, f2, f3, fun _ => 0, fun _ => 0, fun _ => 0, fun _ => 0, fun _ => 0, fun _ => 0, g1, g2, g3, fun _ => 0, fun _ => 0, fun _ => 0, fun _ => 0, fun _ => 0, fun _ => 0, fun _ => 0, fun _ => 0, fun _ => 0, upd (upd (upd (upd (fun _ => 0) 0 (-1)) 1 (-1)) 2 (-1)) 3 (-1), fun _ => 0] : List (Nat → Int32)).getD k (fun _ => 0)
def st_n : nk_M := fun k => ([fun _ => 0, fun _ => 0, fun _ => 0, fun _ => 0, fun _ => 0, fun _ => 0, fun _ => 0, fun _ => 0, fun _ => 0, fun _ => 0, fun _ => 0, fun _ => 0, fun _ => 0, fun _ => 0, fun _ => 0, fun _ => 0, fun _ => 0, fun _ => 0, fun _ => 0, fun _ => 0, fun _ => 0, fun _ => 0, fun _ => 0, fun _ => 0, fun _ => 0, upd (upd (upd (upd (fun _ => 0) 0 (-1)) 1 (-1)) 2 (-1)) 3 (-1), fun _ => 0, fun _ => 0, fun _ => 0] : List (Nat → Int32)).getD k (fun _ => 0)
theorem st_RR (f1 f2 f3 g1 g2 g3 : Nat → Int32) : RR (st_m f1 f2 f3 g1 g2 g3) st_n := by
  refine ⟨0, fun _ => 0, fun _ _ => 0, ⟨⟨by omega, rfl, rfl, fun c hc => by omega⟩, ⟨⟨rfl, rfl⟩, fun c hc => by omega, fun c hc => by omega, fun c hc => by omega, fun c hc => rfl⟩, fun c hc => by omega⟩, ⟨rfl, rfl, rfl, rfl, 0, by omega, rfl, rfl, fun i hi => by omega⟩, ⟨rfl, fun c hc => rfl⟩, ⟨0, by omega, rfl, rfl, fun i hi => by omega⟩, fun k hk => Or.inl ?_, ⟨rfl, rfl⟩⟩
  rcases (show k = 0 ∨ k = 1 ∨ k = 2 ∨ k = 3 by omega) with rfl | rfl | rfl | rfl <;> exact ⟨rfl, rfl⟩
/-- the class's static tables, as the Statement gives them -/
theorem st_tab {args : Array Value} {s : State} (hgv : (Jvm.Cond.and given_1 narrow_1).before args s = true) (hts : ∀ w ∈ lw_tbl, w.before args s = true) : ∃ t0 t1 t2 : Nat, ∀ (i : Nat) (q : nk_T), nk_wC.2.2.2[i]? = some q → va_Z q.1 q.2.1 q.2.2.1 (.ref (([t0, t1, t2] : List Nat).getD i 0)) (fun q : Nat => s.heap.size ≤ q) s s.heap ∧ va_T q.2.2.2.1 (([t0, t1, t2] : List Nat).getD i 0) q.2.2.2.2.1 (fun j => .int (q.2.2.2.2.2 j)) (fun q : Nat => s.heap.size ≤ q) s s.heap := by
  have hs := flat_of_before _ hgv
  have hA : ∀ a : Nat, a < s.heap.size → ¬ (fun q : Nat => s.heap.size ≤ q) a := fun a h => Nat.not_le.mpr h
  have hini : (Cond.initialized "NeedOnce").before args s = true := hts _ (List.mem_append_right _ (List.mem_of_getElem? (i := 1) (by decide +kernel)))
  obtain ⟨t0, hv0, hT0⟩ := va_Tof (tm := (.static "NeedOnce" "KIND_LETTERS" "[C")) (ty := .char) (N := 3) (f := fun j => .int (nk_t0 j)) (A := fun q : Nat => s.heap.size ≤ q) (by decide) (hs (Cond.arrayOf (.static "NeedOnce" "KIND_LETTERS" "[C") .char) (by decide +kernel)) (va_eqt (hs (Cond.eq (.length (.static "NeedOnce" "KIND_LETTERS" "[C")) (.int 3)) (by decide +kernel))) (fun j hj => by
    rcases (show j = 0 ∨ j = 1 ∨ j = 2 by omega) with rfl | rfl | rfl
    · exact va_eqt (hs (Cond.eq (.elem (.static "NeedOnce" "KIND_LETTERS" "[C") (.int 0)) (.int 112)) (by decide +kernel))
    · exact va_eqt (hs (Cond.eq (.elem (.static "NeedOnce" "KIND_LETTERS" "[C") (.int 1)) (.int 100)) (by decide +kernel))
    · exact va_eqt (hs (Cond.eq (.elem (.static "NeedOnce" "KIND_LETTERS" "[C") (.int 2)) (.int 119)) (by decide +kernel))) hA
  have hZ0 := va_Zof (hts (Cond.laysStatic "NeedOnce" "KIND_LETTERS" "[C") (List.mem_append_right _ (List.mem_of_getElem? (i := 213) (by decide +kernel)))) hini hv0 hA
  obtain ⟨t1, hv1, hT1⟩ := va_Tof (tm := (.static "NeedOnce" "FORM_SIGNS" "[C")) (ty := .char) (N := 7) (f := fun j => .int (nk_t1 j)) (A := fun q : Nat => s.heap.size ≤ q) (by decide) (hs (Cond.arrayOf (.static "NeedOnce" "FORM_SIGNS" "[C") .char) (by decide +kernel)) (va_eqt (hs (Cond.eq (.length (.static "NeedOnce" "FORM_SIGNS" "[C")) (.int 7)) (by decide +kernel))) (fun j hj => by
    rcases (show j = 0 ∨ j = 1 ∨ j = 2 ∨ j = 3 ∨ j = 4 ∨ j = 5 ∨ j = 6 by omega) with rfl | rfl | rfl | rfl | rfl | rfl | rfl
    · exact va_eqt (hs (Cond.eq (.elem (.static "NeedOnce" "FORM_SIGNS" "[C") (.int 0)) (.int 110)) (by decide +kernel))
    · exact va_eqt (hs (Cond.eq (.elem (.static "NeedOnce" "FORM_SIGNS" "[C") (.int 1)) (.int 97)) (by decide +kernel))
    · exact va_eqt (hs (Cond.eq (.elem (.static "NeedOnce" "FORM_SIGNS" "[C") (.int 2)) (.int 109)) (by decide +kernel))
    · exact va_eqt (hs (Cond.eq (.elem (.static "NeedOnce" "FORM_SIGNS" "[C") (.int 3)) (.int 105)) (by decide +kernel))
    · exact va_eqt (hs (Cond.eq (.elem (.static "NeedOnce" "FORM_SIGNS" "[C") (.int 4)) (.int 116)) (by decide +kernel))
    · exact va_eqt (hs (Cond.eq (.elem (.static "NeedOnce" "FORM_SIGNS" "[C") (.int 5)) (.int 102)) (by decide +kernel))
    · exact va_eqt (hs (Cond.eq (.elem (.static "NeedOnce" "FORM_SIGNS" "[C") (.int 6)) (.int 114)) (by decide +kernel))) hA
  have hZ1 := va_Zof (hts (Cond.laysStatic "NeedOnce" "FORM_SIGNS" "[C") (List.mem_append_right _ (List.mem_of_getElem? (i := 226) (by decide +kernel)))) hini hv1 hA
  obtain ⟨t2, hv2, hT2⟩ := va_Tof (tm := (.static "NeedOnce" "HOW_MANY_PARTS" "[I")) (ty := .int) (N := 7) (f := fun j => .int (nk_t2 j)) (A := fun q : Nat => s.heap.size ≤ q) (by decide) (hs (Cond.arrayOf (.static "NeedOnce" "HOW_MANY_PARTS" "[I") .int) (by decide +kernel)) (va_eqt (hs (Cond.eq (.length (.static "NeedOnce" "HOW_MANY_PARTS" "[I")) (.int 7)) (by decide +kernel))) (fun j hj => by
    rcases (show j = 0 ∨ j = 1 ∨ j = 2 ∨ j = 3 ∨ j = 4 ∨ j = 5 ∨ j = 6 by omega) with rfl | rfl | rfl | rfl | rfl | rfl | rfl
    · exact va_eqt (hs (Cond.eq (.elem (.static "NeedOnce" "HOW_MANY_PARTS" "[I") (.int 0)) (.int 1)) (by decide +kernel))
    · exact va_eqt (hs (Cond.eq (.elem (.static "NeedOnce" "HOW_MANY_PARTS" "[I") (.int 1)) (.int 2)) (by decide +kernel))
    · exact va_eqt (hs (Cond.eq (.elem (.static "NeedOnce" "HOW_MANY_PARTS" "[I") (.int 2)) (.int 2)) (by decide +kernel))
    · exact va_eqt (hs (Cond.eq (.elem (.static "NeedOnce" "HOW_MANY_PARTS" "[I") (.int 3)) (.int 3)) (by decide +kernel))
    · exact va_eqt (hs (Cond.eq (.elem (.static "NeedOnce" "HOW_MANY_PARTS" "[I") (.int 4)) (.int 2)) (by decide +kernel))
    · exact va_eqt (hs (Cond.eq (.elem (.static "NeedOnce" "HOW_MANY_PARTS" "[I") (.int 5)) (.int 1)) (by decide +kernel))
    · exact va_eqt (hs (Cond.eq (.elem (.static "NeedOnce" "HOW_MANY_PARTS" "[I") (.int 6)) (.int 1)) (by decide +kernel))) hA
  have hZ2 := va_Zof (hts (Cond.laysStatic "NeedOnce" "HOW_MANY_PARTS" "[I") (List.mem_append_right _ (List.mem_of_getElem? (i := 236) (by decide +kernel)))) hini hv2 hA
  refine ⟨t0, t1, t2, fun i q hq => ?_⟩
  have hi : i < 3 := (List.getElem?_eq_some_iff.mp hq).1
  rcases (show i = 0 ∨ i = 1 ∨ i = 2 by omega) with rfl | rfl | rfl
  · cases hq; exact ⟨hZ0, hT0⟩
  · cases hq; exact ⟨hZ1, hT1⟩
  · cases hq; exact ⟨hZ2, hT2⟩

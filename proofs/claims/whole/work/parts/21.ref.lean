/-! ===== 21: need: the reference's own steps ===== -/
/-- the reference: c is worked from now on; d were so before -/
def r_push (K : Bool) (c d : Nat) (ν : nk_M) : nk_M :=
  let m5 := nk_up (nk_up (nk_up (nk_up ν 13 d (nI c)) 14 d (nI 0)) 0 17 (nI (d + 1))) 0 24 (ν 0 24 + nI 1)
  let m6 := nk_up m5 0 25 (if nI (d + 1) ≤ ν 0 25 then ν 0 25 else nI (d + 1))
  nk_up m6 0 26 (ν 0 26 + (if K = true ∧ ¬ ν 12 c < nI 0 then nI 0 else q_cost (ν 1 c) (ν 2 c)))
theorem r_wantsAwake {c v : Nat} {ν : nk_M} (h : c < 8) (h29 : ν 0 29 = nI 0) (h9 : ν 9 c = nI v) (hv : v ≤ 102) : zf_M_wants (nI c) ν = some ((), nk_up (nk_up (nk_up ν 0 21 (nI v)) 0 22 (ν 10 c)) 0 23 (ν 11 c)) := by
  simp (disch := omega) only [zf_M_wants, h29, h9, q_lit, q_sub, Nat.add_sub_cancel, q_upE, q_upN, q_upM, q_upO, q_bd, q_pf, q_nm, q_ald, q_ast, q_tld, q_lt0, q_lt, q_le, q_eq, q_m9, q_9m, q_neg9, q_add, q_mul, q_zr0, q_zr1, q_clamp, if_true, if_false, if_pos, if_neg]
theorem r_wants0 {c : Nat} {ν : nk_M} (h : c < 8) (h0 : ν 0 29 = nI 1 ∨ (ν 0 29 = nI 0 ∧ ν 9 c = -nI 9)) : zf_M_wants (nI c) ν = zf_M_wants_b47 (nI c) ν := by
  rcases h0 with h0 | ⟨h0, h9⟩
  · simp (disch := omega) only [zf_M_wants, h0, q_lit, q_sub, Nat.add_sub_cancel, q_upE, q_upN, q_upM, q_upO, q_bd, q_pf, q_nm, q_ald, q_ast, q_tld, q_lt0, q_lt, q_le, q_eq, q_m9, q_9m, q_neg9, q_add, q_mul, q_zr0, q_zr1, q_clamp, if_true, if_false, if_pos, if_neg]
  · simp (disch := omega) only [zf_M_wants, h0, h9, q_lit, q_sub, Nat.add_sub_cancel, q_upE, q_upN, q_upM, q_upO, q_bd, q_pf, q_nm, q_ald, q_ast, q_tld, q_lt0, q_lt, q_le, q_eq, q_m9, q_9m, q_neg9, q_add, q_mul, q_zr0, q_zr1, q_clamp, if_true, if_false, if_pos, if_neg]
theorem r_isOn1 {c d i : Nat} {ν : nk_M} (hc : c < 8) (hd : d ≤ 8) (h17 : ν 0 17 = nI d) (hi : i < d) (h : ν 13 i = nI c) : zf_M_isOn (nI c) ν = some (nI 1, ν) := by
  have := r_isOn (c := c) hd h17 (fun i => decide (ν 13 i = nI c)) (fun i _ => by simp) nk_fu 0 false (by omega) (by show _ < 4096; omega)
  rw [show (nI 0 : Int32) = 0 from rfl] at this
  unfold zf_M_isOn
  simp only [Bool.false_eq_true, if_false, Nat.sub_zero, Bool.false_or] at this
  rw [this]
  have : (List.range' 0 d).any (fun i => decide (ν 13 i = nI c)) = true := by
    rw [List.any_eq_true]
    exact ⟨i, by simp [List.mem_range', hi], by simp [h]⟩
  simp [this]
theorem r_isOn0 {c d : Nat} {ν : nk_M} (hc : c < 8) (hd : d ≤ 8) (h17 : ν 0 17 = nI d) (h : ∀ i, i < d → ν 13 i ≠ nI c) : zf_M_isOn (nI c) ν = some (nI 0, ν) := by
  have := r_isOn (c := c) hd h17 (fun i => decide (ν 13 i = nI c)) (fun i _ => by simp) nk_fu 0 false (by omega) (by show _ < 4096; omega)
  rw [show (nI 0 : Int32) = 0 from rfl] at this
  unfold zf_M_isOn
  simp only [Bool.false_eq_true, if_false, Nat.sub_zero, Bool.false_or] at this
  rw [this]
  have : (List.range' 0 d).any (fun i => decide (ν 13 i = nI c)) = false := by
    rw [List.any_eq_false]
    intro i hi
    have hi2 : i < d := by simpa [List.mem_range'] using hi
    simp [h i hi2]
  simp [this]
  rfl
theorem r_wantsLoop {c d i : Nat} {ν : nk_M} (hc : c < 8) (h0 : ν 0 29 = nI 1 ∨ (ν 0 29 = nI 0 ∧ ν 9 c = -nI 9)) (hd : d ≤ 8) (h17 : ν 0 17 = nI d) (hi : i < d) (h : ν 13 i = nI c) : zf_M_wants (nI c) ν = some ((), nk_up (nk_up ν 0 21 (nI 101)) 0 30 (nI 1)) := by
  rw [r_wants0 hc h0]
  simp (disch := omega) only [zf_M_wants_b47, r_isOn1 hc hd h17 hi h, q_lit, q_sub, Nat.add_sub_cancel, q_upE, q_upN, q_upM, q_upO, q_bd, q_pf, q_nm, q_ald, q_ast, q_tld, q_lt0, q_lt, q_le, q_eq, q_m9, q_9m, q_neg9, q_add, q_mul, q_zr0, q_zr1, q_clamp, if_true, if_false, if_pos, if_neg]
theorem r_wantsPush {K : Bool} {c d : Nat} {ν : nk_M} (hc : c < 8) (h29 : ν 0 29 = if K then nI 0 else nI 1) (h9 : K = true → ν 9 c = -nI 9) (hd : d < 8) (h17 : ν 0 17 = nI d) (h : ∀ i, i < d → ν 13 i ≠ nI c) (hk : ν 1 c = nI 0 ∨ ν 1 c = nI 1 ∨ ν 1 c = nI 2) : zf_M_wants (nI c) ν = some ((), r_push K c d ν) := by
  have h0 : ν 0 29 = nI 1 ∨ (ν 0 29 = nI 0 ∧ ν 9 c = -nI 9) := by
    cases K
    · exact Or.inl h29
    · exact Or.inr ⟨h29, h9 rfl⟩
  rw [r_wants0 hc h0]
  have hk2 : ∀ ν' : nk_M, (∀ k, ν' 1 k = ν 1 k) → (∀ k, ν' 2 k = ν 2 k) → zf_M_cost (nI c) ν' = some (q_cost (ν 1 c) (ν 2 c), ν') := fun ν' e1 e2 => by
    rw [← e1, ← e2]
    exact r_cost hc (by rw [e1]; exact hk)
  simp (disch := omega) only [zf_M_wants_b47, r_isOn0 hc (by omega) h17 h, h17, zf_M_wants_b130, zf_M_wants_b158, zf_M_wants_b163, h29, q_lit, q_sub, Nat.add_sub_cancel, q_upE, q_upN, q_upM, q_upO, q_bd, q_pf, q_nm, q_ald, q_ast, q_tld, q_lt0, q_lt, q_le, q_eq, q_m9, q_9m, q_neg9, q_add, q_mul, q_zr0, q_zr1, q_clamp, if_true, if_false, if_pos, if_neg]
  unfold r_push
  by_cases e1 : nI (d + 1) ≤ ν 0 25
  · cases K
    · rw [if_pos e1]
      rw [hk2 _ (fun k => by simp (disch := omega) only [q_lit, q_sub, Nat.add_sub_cancel, q_upE, q_upN, q_upM, q_upO, q_bd, q_pf, q_nm, q_ald, q_ast, q_tld, q_lt0, q_lt, q_le, q_eq, q_m9, q_9m, q_neg9, q_add, q_mul, q_zr0, q_zr1, q_clamp, if_true, if_false, if_pos, if_neg]) (fun k => by simp (disch := omega) only [q_lit, q_sub, Nat.add_sub_cancel, q_upE, q_upN, q_upM, q_upO, q_bd, q_pf, q_nm, q_ald, q_ast, q_tld, q_lt0, q_lt, q_le, q_eq, q_m9, q_9m, q_neg9, q_add, q_mul, q_zr0, q_zr1, q_clamp, if_true, if_false, if_pos, if_neg])]
      simp (disch := omega) only [e1, Bool.false_eq_true, false_and, q_lit, q_sub, Nat.add_sub_cancel, q_upE, q_upN, q_upM, q_upO, q_bd, q_pf, q_nm, q_ald, q_ast, q_tld, q_lt0, q_lt, q_le, q_eq, q_m9, q_9m, q_neg9, q_add, q_mul, q_zr0, q_zr1, q_clamp, if_true, if_false, if_pos, if_neg]
    · rw [if_pos e1]
      rw [hk2 _ (fun k => by simp (disch := omega) only [q_lit, q_sub, Nat.add_sub_cancel, q_upE, q_upN, q_upM, q_upO, q_bd, q_pf, q_nm, q_ald, q_ast, q_tld, q_lt0, q_lt, q_le, q_eq, q_m9, q_9m, q_neg9, q_add, q_mul, q_zr0, q_zr1, q_clamp, if_true, if_false, if_pos, if_neg]) (fun k => by simp (disch := omega) only [q_lit, q_sub, Nat.add_sub_cancel, q_upE, q_upN, q_upM, q_upO, q_bd, q_pf, q_nm, q_ald, q_ast, q_tld, q_lt0, q_lt, q_le, q_eq, q_m9, q_9m, q_neg9, q_add, q_mul, q_zr0, q_zr1, q_clamp, if_true, if_false, if_pos, if_neg])]
      by_cases e2 : ν 12 c < nI 0
      · simp (disch := omega) only [e1, e2, not_true, and_false, q_lit, q_sub, Nat.add_sub_cancel, q_upE, q_upN, q_upM, q_upO, q_bd, q_pf, q_nm, q_ald, q_ast, q_tld, q_lt0, q_lt, q_le, q_eq, q_m9, q_9m, q_neg9, q_add, q_mul, q_zr0, q_zr1, q_clamp, if_true, if_false, if_pos, if_neg]
      · simp (disch := omega) only [e1, e2, not_false_eq_true, true_and, and_true, q_lit, q_sub, Nat.add_sub_cancel, q_upE, q_upN, q_upM, q_upO, q_bd, q_pf, q_nm, q_ald, q_ast, q_tld, q_lt0, q_lt, q_le, q_eq, q_m9, q_9m, q_neg9, q_add, q_mul, q_zr0, q_zr1, q_clamp, if_true, if_false, if_pos, if_neg]
  · cases K
    · rw [if_neg e1]
      rw [hk2 _ (fun k => by simp (disch := omega) only [q_lit, q_sub, Nat.add_sub_cancel, q_upE, q_upN, q_upM, q_upO, q_bd, q_pf, q_nm, q_ald, q_ast, q_tld, q_lt0, q_lt, q_le, q_eq, q_m9, q_9m, q_neg9, q_add, q_mul, q_zr0, q_zr1, q_clamp, if_true, if_false, if_pos, if_neg]) (fun k => by simp (disch := omega) only [q_lit, q_sub, Nat.add_sub_cancel, q_upE, q_upN, q_upM, q_upO, q_bd, q_pf, q_nm, q_ald, q_ast, q_tld, q_lt0, q_lt, q_le, q_eq, q_m9, q_9m, q_neg9, q_add, q_mul, q_zr0, q_zr1, q_clamp, if_true, if_false, if_pos, if_neg])]
      simp (disch := omega) only [e1, Bool.false_eq_true, false_and, q_lit, q_sub, Nat.add_sub_cancel, q_upE, q_upN, q_upM, q_upO, q_bd, q_pf, q_nm, q_ald, q_ast, q_tld, q_lt0, q_lt, q_le, q_eq, q_m9, q_9m, q_neg9, q_add, q_mul, q_zr0, q_zr1, q_clamp, if_true, if_false, if_pos, if_neg]
    · rw [if_neg e1]
      rw [hk2 _ (fun k => by simp (disch := omega) only [q_lit, q_sub, Nat.add_sub_cancel, q_upE, q_upN, q_upM, q_upO, q_bd, q_pf, q_nm, q_ald, q_ast, q_tld, q_lt0, q_lt, q_le, q_eq, q_m9, q_9m, q_neg9, q_add, q_mul, q_zr0, q_zr1, q_clamp, if_true, if_false, if_pos, if_neg]) (fun k => by simp (disch := omega) only [q_lit, q_sub, Nat.add_sub_cancel, q_upE, q_upN, q_upM, q_upO, q_bd, q_pf, q_nm, q_ald, q_ast, q_tld, q_lt0, q_lt, q_le, q_eq, q_m9, q_9m, q_neg9, q_add, q_mul, q_zr0, q_zr1, q_clamp, if_true, if_false, if_pos, if_neg])]
      by_cases e2 : ν 12 c < nI 0
      · simp (disch := omega) only [e1, e2, not_true, and_false, q_lit, q_sub, Nat.add_sub_cancel, q_upE, q_upN, q_upM, q_upO, q_bd, q_pf, q_nm, q_ald, q_ast, q_tld, q_lt0, q_lt, q_le, q_eq, q_m9, q_9m, q_neg9, q_add, q_mul, q_zr0, q_zr1, q_clamp, if_true, if_false, if_pos, if_neg]
      · simp (disch := omega) only [e1, e2, not_false_eq_true, true_and, and_true, q_lit, q_sub, Nat.add_sub_cancel, q_upE, q_upN, q_upM, q_upO, q_bd, q_pf, q_nm, q_ald, q_ast, q_tld, q_lt0, q_lt, q_le, q_eq, q_m9, q_9m, q_neg9, q_add, q_mul, q_zr0, q_zr1, q_clamp, if_true, if_false, if_pos, if_neg]
/-- the reference: the last one is done with v -/
def r_done (K : Bool) (c d q : Nat) (v : Int32) (ν : nk_M) : nk_M :=
  let m2 := nk_up (nk_up ν 0 17 (nI d)) 0 21 v
  if K = true then nk_up (nk_up (nk_up (nk_up (nk_up m2 9 c v) 10 c (ν 0 22)) 11 c (ν 0 23)) 16 q (nI c)) 0 27 (nI (q + 1)) else m2
theorem r_isDoneF {d : Nat} {v : Int32} {ν : nk_M} (h29 : ν 0 29 = nI 1) (h17 : ν 0 17 = nI (d + 1)) (c q : Nat) : zf_M_isDone v ν = some ((), r_done false c d q v ν) := by
  simp (disch := omega) only [zf_M_isDone, zf_M_isDone_b79, h29, h17, r_done, Bool.false_eq_true, q_lit, q_sub, Nat.add_sub_cancel, q_upE, q_upN, q_upM, q_upO, q_bd, q_pf, q_nm, q_ald, q_ast, q_tld, q_lt0, q_lt, q_le, q_eq, q_m9, q_9m, q_neg9, q_add, q_mul, q_zr0, q_zr1, q_clamp, if_true, if_false, if_pos, if_neg]
theorem r_isDoneT {c d q : Nat} {v : Int32} {ν : nk_M} (hc : c < 8) (hd : d < 8) (hq : q < 8) (h29 : ν 0 29 = nI 0) (h17 : ν 0 17 = nI (d + 1)) (h13 : ν 13 d = nI c) (h27 : ν 0 27 = nI q) : zf_M_isDone v ν = some ((), r_done true c d q v ν) := by
  simp (disch := omega) only [zf_M_isDone, zf_M_isDone_b79, h29, h17, h13, h27, r_done, q_lit, q_sub, Nat.add_sub_cancel, q_upE, q_upN, q_upM, q_upO, q_bd, q_pf, q_nm, q_ald, q_ast, q_tld, q_lt0, q_lt, q_le, q_eq, q_m9, q_9m, q_neg9, q_add, q_mul, q_zr0, q_zr1, q_clamp, if_true, if_false, if_pos, if_neg]

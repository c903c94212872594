/-! ===== 22: need: the tie between class and reference while cells are worked ===== -/
/-- what was told: N cells, their forms and parts, kinds, prices -/
def j_st (o B N : Nat) (fm : Nat → Nat) (pt : Nat → Nat → Nat) (μ ν : nk_M) : Prop :=
  N ≤ 8 ∧ μ o 0 = nI N ∧ ν 0 1 = nI N ∧ ∀ c, c < N → fm c ≤ 6 ∧ μ (B + 2) c = nI (fm c) ∧ ν 3 c = nI (fm c) ∧ μ B c = ν 1 c ∧ (ν 1 c = nI 0 ∨ ν 1 c = nI 1 ∨ ν 1 c = nI 2) ∧ μ (B + 1) c = ν 2 c ∧
    ∀ k, k < q_np (fm c) → μ (B + 3) (3 * c + k) = nI (pt c k) ∧ ν 4 (3 * c + k) = nI (pt c k) ∧ (fm c = 0 → pt c k ≤ 9) ∧ (fm c ≠ 0 → pt c k < N)
/-- how far it is worked; d are being worked; K: what is come to is kept -/
def j_dy (K : Bool) (o B N d : Nat) (fm : Nat → Nat) (pt : Nat → Nat → Nat) (μ ν : nk_M) : Prop :=
  (ν 0 29 = (if K then nI 0 else nI 1) ∧ μ o 9 = (if K then nI 1 else nI 0)) ∧
  (∀ c, c < N → (μ (B + 4) c = -nI 9 ∨ ∃ v, v ≤ 102 ∧ μ (B + 4) c = nI v) ∧ (K = true → ν 9 c = μ (B + 4) c) ∧ (K = false → μ (B + 4) c = -nI 9)) ∧
  (∀ c, c < N → (μ (B + 6) c = -nI 9 ∨ ∃ j, j < N ∧ μ (B + 6) c = nI j) ∧ (K = true → ν 12 c = μ (B + 6) c) ∧ (K = false → μ (B + 6) c = -nI 9)) ∧
  (∀ c, c < N → μ (B + 4) c = nI 100 → ∃ q, q < N ∧ μ (B + 5) c = nI q ∧ fm q = 4 ∧ ν 10 c = nI (pt q 0) ∧ ν 11 c = nI (pt q 1)) ∧
  (d ≤ 8 ∧ ν 0 17 = nI d ∧ (∀ i, i < d → ∃ c, c < N ∧ ν 13 i = nI c ∧ μ (B + 7) c = nI 1) ∧ ∀ i j, i < d → j < d → ν 13 i = ν 13 j → i = j) ∧
  (∀ c, c < N → μ (B + 7) c = nI 0 ∨ (μ (B + 7) c = nI 1 ∧ μ (B + 4) c = -nI 9 ∧ ∃ i, i < d ∧ ν 13 i = nI c)) ∧
  q_cnt (fun c => decide (μ (B + 7) c = nI 1)) N = d ∧
  (μ o 11 = ν 0 24 ∧ μ o 12 = ν 0 25 ∧ μ o 13 = ν 0 26) ∧
  (K = true → ∃ q, μ o 14 = nI q ∧ ν 0 27 = nI q ∧ q + q_cnt (fun c => decide (μ (B + 4) c = -nI 9)) N ≤ 8 ∧ μ o 11 = nI (q + d) ∧ ∀ i, i < q → ν 16 i = μ (B + 8) i)
theorem q_imax (a b : Int32) : (if a < b then b else a) = (if b ≤ a then a else b) := by
  by_cases h : a < b
  · rw [if_pos h, if_neg (by rw [Int32.le_iff_toInt_le]; rw [Int32.lt_iff_toInt_lt] at h; omega)]
  · rw [if_neg h, if_pos (by rw [Int32.le_iff_toInt_le]; rw [Int32.lt_iff_toInt_lt] at h; omega)]
theorem q_add0 (a : Int32) : a + nI 0 = a := by
  rw [show nI 0 = (0 : Int32) from rfl]
  exact Int32.add_zero a
theorem q_01 : (nI 0 = nI 1) ↔ False := ⟨fun h => by revert h; decide, fun h => h.elim⟩
theorem q_10 : (nI 1 = nI 0) ↔ False := ⟨fun h => by revert h; decide, fun h => h.elim⟩
/-- pushing keeps the tie -/
theorem j_push {K : Bool} {o B N d c : Nat} {fm : Nat → Nat} {pt : Nat → Nat → Nat} {μ ν : nk_M} (ho : o < B) (hs : j_st o B N fm pt μ ν) (hd : j_dy K o B N d fm pt μ ν) (hc : c < N) (h4 : μ (B + 4) c = -nI 9) (h7 : μ (B + 7) c = nI 0) :
    d < 8 ∧ (∀ i, i < d → ν 13 i ≠ nI c) ∧ j_dy K o B N (d + 1) fm pt (c_push o B c (d + 1) μ) (r_push K c d ν) := by
  obtain ⟨hN, -, -, hst⟩ := hs
  obtain ⟨a1, a2, a3, a4, ⟨a5, a6, a7, a7i⟩, a8, a9, ⟨b1, b2, b3⟩, b4⟩ := hd
  have hd8 : d < 8 := by
    have := q_cnt_lt (p := fun c => decide (μ (B + 7) c = nI 1)) (c := c) hc (by simp only [h7, q_01]; rfl)
    omega
  have hno : ∀ i, i < d → ν 13 i ≠ nI c := fun i hi e => by
    obtain ⟨c', hc', e1, e2⟩ := a7 i hi
    rw [e] at e1
    have := (q_eq (by omega) (by omega)).mp e1
    subst this
    rw [h7] at e2
    exact q_01.mp e2
  refine ⟨hd8, hno, ?_⟩
  obtain ⟨-, -, -, s1, s2, s3, -⟩ := hst c hc
  -- what the class's new memory holds
  have m4 : ∀ j, (c_push o B c (d + 1) μ) (B + 4) j = μ (B + 4) j := fun j => by unfold c_push; by_cases e : μ (B + 6) c = -nI 9 <;> simp (disch := omega) only [e, q_lit, q_sub, Nat.add_sub_cancel, q_upE, q_upN, q_upM, q_upO, q_bd, q_pf, q_nm, q_ald, q_ast, q_tld, q_lt0, q_lt, q_le, q_eq, q_m9, q_9m, q_neg9, q_add, q_mul, q_zr0, q_zr1, q_clamp, if_true, if_false, if_pos, if_neg]
  have m5 : ∀ j, (c_push o B c (d + 1) μ) (B + 5) j = μ (B + 5) j := fun j => by unfold c_push; by_cases e : μ (B + 6) c = -nI 9 <;> simp (disch := omega) only [e, q_lit, q_sub, Nat.add_sub_cancel, q_upE, q_upN, q_upM, q_upO, q_bd, q_pf, q_nm, q_ald, q_ast, q_tld, q_lt0, q_lt, q_le, q_eq, q_m9, q_9m, q_neg9, q_add, q_mul, q_zr0, q_zr1, q_clamp, if_true, if_false, if_pos, if_neg]
  have m6 : ∀ j, (c_push o B c (d + 1) μ) (B + 6) j = μ (B + 6) j := fun j => by unfold c_push; by_cases e : μ (B + 6) c = -nI 9 <;> simp (disch := omega) only [e, q_lit, q_sub, Nat.add_sub_cancel, q_upE, q_upN, q_upM, q_upO, q_bd, q_pf, q_nm, q_ald, q_ast, q_tld, q_lt0, q_lt, q_le, q_eq, q_m9, q_9m, q_neg9, q_add, q_mul, q_zr0, q_zr1, q_clamp, if_true, if_false, if_pos, if_neg]
  have m8 : ∀ j, (c_push o B c (d + 1) μ) (B + 8) j = μ (B + 8) j := fun j => by unfold c_push; by_cases e : μ (B + 6) c = -nI 9 <;> simp (disch := omega) only [e, q_lit, q_sub, Nat.add_sub_cancel, q_upE, q_upN, q_upM, q_upO, q_bd, q_pf, q_nm, q_ald, q_ast, q_tld, q_lt0, q_lt, q_le, q_eq, q_m9, q_9m, q_neg9, q_add, q_mul, q_zr0, q_zr1, q_clamp, if_true, if_false, if_pos, if_neg]
  have m7 : (c_push o B c (d + 1) μ) (B + 7) c = nI 1 := by unfold c_push; by_cases e : μ (B + 6) c = -nI 9 <;> simp (disch := omega) only [e, q_lit, q_sub, Nat.add_sub_cancel, q_upE, q_upN, q_upM, q_upO, q_bd, q_pf, q_nm, q_ald, q_ast, q_tld, q_lt0, q_lt, q_le, q_eq, q_m9, q_9m, q_neg9, q_add, q_mul, q_zr0, q_zr1, q_clamp, if_true, if_false, if_pos, if_neg]
  have m7' : ∀ j, j ≠ c → (c_push o B c (d + 1) μ) (B + 7) j = μ (B + 7) j := fun j hj => by unfold c_push; by_cases e : μ (B + 6) c = -nI 9 <;> simp (disch := omega) only [e, q_lit, q_sub, Nat.add_sub_cancel, q_upE, q_upN, q_upM, q_upO, q_bd, q_pf, q_nm, q_ald, q_ast, q_tld, q_lt0, q_lt, q_le, q_eq, q_m9, q_9m, q_neg9, q_add, q_mul, q_zr0, q_zr1, q_clamp, if_true, if_false, if_pos, if_neg]
  have m9 : (c_push o B c (d + 1) μ) o 9 = μ o 9 := by unfold c_push; by_cases e : μ (B + 6) c = -nI 9 <;> simp (disch := omega) only [e, q_lit, q_sub, Nat.add_sub_cancel, q_upE, q_upN, q_upM, q_upO, q_bd, q_pf, q_nm, q_ald, q_ast, q_tld, q_lt0, q_lt, q_le, q_eq, q_m9, q_9m, q_neg9, q_add, q_mul, q_zr0, q_zr1, q_clamp, if_true, if_false, if_pos, if_neg]
  have m14 : (c_push o B c (d + 1) μ) o 14 = μ o 14 := by unfold c_push; by_cases e : μ (B + 6) c = -nI 9 <;> simp (disch := omega) only [e, q_lit, q_sub, Nat.add_sub_cancel, q_upE, q_upN, q_upM, q_upO, q_bd, q_pf, q_nm, q_ald, q_ast, q_tld, q_lt0, q_lt, q_le, q_eq, q_m9, q_9m, q_neg9, q_add, q_mul, q_zr0, q_zr1, q_clamp, if_true, if_false, if_pos, if_neg]
  have m11 : (c_push o B c (d + 1) μ) o 11 = μ o 11 + nI 1 := by unfold c_push; by_cases e : μ (B + 6) c = -nI 9 <;> simp (disch := omega) only [e, q_lit, q_sub, Nat.add_sub_cancel, q_upE, q_upN, q_upM, q_upO, q_bd, q_pf, q_nm, q_ald, q_ast, q_tld, q_lt0, q_lt, q_le, q_eq, q_m9, q_9m, q_neg9, q_add, q_mul, q_zr0, q_zr1, q_clamp, if_true, if_false, if_pos, if_neg]
  have m12 : (c_push o B c (d + 1) μ) o 12 = if μ o 12 < nI (d + 1) then nI (d + 1) else μ o 12 := by unfold c_push; by_cases e : μ (B + 6) c = -nI 9 <;> simp (disch := omega) only [e, q_lit, q_sub, Nat.add_sub_cancel, q_upE, q_upN, q_upM, q_upO, q_bd, q_pf, q_nm, q_ald, q_ast, q_tld, q_lt0, q_lt, q_le, q_eq, q_m9, q_9m, q_neg9, q_add, q_mul, q_zr0, q_zr1, q_clamp, if_true, if_false, if_pos, if_neg]
  have m13 : (c_push o B c (d + 1) μ) o 13 = if μ (B + 6) c = -nI 9 then μ o 13 + q_cost (μ B c) (μ (B + 1) c) else μ o 13 := by unfold c_push; by_cases e : μ (B + 6) c = -nI 9 <;> simp (disch := omega) only [e, q_lit, q_sub, Nat.add_sub_cancel, q_upE, q_upN, q_upM, q_upO, q_bd, q_pf, q_nm, q_ald, q_ast, q_tld, q_lt0, q_lt, q_le, q_eq, q_m9, q_9m, q_neg9, q_add, q_mul, q_zr0, q_zr1, q_clamp, if_true, if_false, if_pos, if_neg]
  -- and the reference's
  have n9 : ∀ k j, k ≠ 0 → k ≠ 13 → k ≠ 14 → (r_push K c d ν) k j = ν k j := fun k j e1 e2 e3 => by unfold r_push; simp (disch := omega) only [q_lit, q_sub, Nat.add_sub_cancel, q_upE, q_upN, q_upM, q_upO, q_bd, q_pf, q_nm, q_ald, q_ast, q_tld, q_lt0, q_lt, q_le, q_eq, q_m9, q_9m, q_neg9, q_add, q_mul, q_zr0, q_zr1, q_clamp, if_true, if_false, if_pos, if_neg]
  have n13 : (r_push K c d ν) 13 d = nI c := by unfold r_push; simp (disch := omega) only [q_lit, q_sub, Nat.add_sub_cancel, q_upE, q_upN, q_upM, q_upO, q_bd, q_pf, q_nm, q_ald, q_ast, q_tld, q_lt0, q_lt, q_le, q_eq, q_m9, q_9m, q_neg9, q_add, q_mul, q_zr0, q_zr1, q_clamp, if_true, if_false, if_pos, if_neg]
  have n13' : ∀ j, j ≠ d → (r_push K c d ν) 13 j = ν 13 j := fun j hj => by unfold r_push; simp (disch := omega) only [q_lit, q_sub, Nat.add_sub_cancel, q_upE, q_upN, q_upM, q_upO, q_bd, q_pf, q_nm, q_ald, q_ast, q_tld, q_lt0, q_lt, q_le, q_eq, q_m9, q_9m, q_neg9, q_add, q_mul, q_zr0, q_zr1, q_clamp, if_true, if_false, if_pos, if_neg]
  have n29 : (r_push K c d ν) 0 29 = ν 0 29 := by unfold r_push; simp (disch := omega) only [q_lit, q_sub, Nat.add_sub_cancel, q_upE, q_upN, q_upM, q_upO, q_bd, q_pf, q_nm, q_ald, q_ast, q_tld, q_lt0, q_lt, q_le, q_eq, q_m9, q_9m, q_neg9, q_add, q_mul, q_zr0, q_zr1, q_clamp, if_true, if_false, if_pos, if_neg]
  have n27 : (r_push K c d ν) 0 27 = ν 0 27 := by unfold r_push; simp (disch := omega) only [q_lit, q_sub, Nat.add_sub_cancel, q_upE, q_upN, q_upM, q_upO, q_bd, q_pf, q_nm, q_ald, q_ast, q_tld, q_lt0, q_lt, q_le, q_eq, q_m9, q_9m, q_neg9, q_add, q_mul, q_zr0, q_zr1, q_clamp, if_true, if_false, if_pos, if_neg]
  have n17 : (r_push K c d ν) 0 17 = nI (d + 1) := by unfold r_push; simp (disch := omega) only [q_lit, q_sub, Nat.add_sub_cancel, q_upE, q_upN, q_upM, q_upO, q_bd, q_pf, q_nm, q_ald, q_ast, q_tld, q_lt0, q_lt, q_le, q_eq, q_m9, q_9m, q_neg9, q_add, q_mul, q_zr0, q_zr1, q_clamp, if_true, if_false, if_pos, if_neg]
  have n24 : (r_push K c d ν) 0 24 = ν 0 24 + nI 1 := by unfold r_push; simp (disch := omega) only [q_lit, q_sub, Nat.add_sub_cancel, q_upE, q_upN, q_upM, q_upO, q_bd, q_pf, q_nm, q_ald, q_ast, q_tld, q_lt0, q_lt, q_le, q_eq, q_m9, q_9m, q_neg9, q_add, q_mul, q_zr0, q_zr1, q_clamp, if_true, if_false, if_pos, if_neg]
  have n25 : (r_push K c d ν) 0 25 = if nI (d + 1) ≤ ν 0 25 then ν 0 25 else nI (d + 1) := by unfold r_push; simp (disch := omega) only [q_lit, q_sub, Nat.add_sub_cancel, q_upE, q_upN, q_upM, q_upO, q_bd, q_pf, q_nm, q_ald, q_ast, q_tld, q_lt0, q_lt, q_le, q_eq, q_m9, q_9m, q_neg9, q_add, q_mul, q_zr0, q_zr1, q_clamp, if_true, if_false, if_pos, if_neg]
  have n26 : (r_push K c d ν) 0 26 = ν 0 26 + (if K = true ∧ ¬ ν 12 c < nI 0 then nI 0 else q_cost (ν 1 c) (ν 2 c)) := by unfold r_push; simp (disch := omega) only [q_lit, q_sub, Nat.add_sub_cancel, q_upE, q_upN, q_upM, q_upO, q_bd, q_pf, q_nm, q_ald, q_ast, q_tld, q_lt0, q_lt, q_le, q_eq, q_m9, q_9m, q_neg9, q_add, q_mul, q_zr0, q_zr1, q_clamp, if_true, if_false, if_pos, if_neg]
  refine ⟨⟨by rw [n29]; exact a1.1, by rw [m9]; exact a1.2⟩, fun c' h' => ?_, fun c' h' => ?_, fun c' h' e => ?_, ⟨by omega, n17, fun i hi => ?_, fun i j hi hj hij => ?_⟩, fun c' h' => ?_, ?_, ⟨?_, ?_, ?_⟩, fun hK => ?_⟩
  · rw [m4, n9 9 c' (by omega) (by omega) (by omega)]
    exact a2 c' h'
  · rw [m6, n9 12 c' (by omega) (by omega) (by omega)]
    exact a3 c' h'
  · rw [m4] at e
    rw [m5, n9 10 c' (by omega) (by omega) (by omega), n9 11 c' (by omega) (by omega) (by omega)]
    exact a4 c' h' e
  · by_cases e : i = d
    · subst e
      exact ⟨c, hc, n13, m7⟩
    · obtain ⟨c', h', e1, e2⟩ := a7 i (by omega)
      refine ⟨c', h', by rw [n13' i e]; exact e1, ?_⟩
      by_cases e3 : c' = c
      · subst e3; exact m7
      · rw [m7' c' e3]; exact e2
  · by_cases e1 : i = d <;> by_cases e2 : j = d
    · omega
    · rw [e1, n13, n13' j e2] at hij
      exact absurd hij.symm (hno j (by omega))
    · rw [e2, n13, n13' i e1] at hij
      exact absurd hij (hno i (by omega))
    · rw [n13' i e1, n13' j e2] at hij
      exact a7i i j (by omega) (by omega) hij
  · by_cases e3 : c' = c
    · subst e3
      exact Or.inr ⟨m7, by rw [m4]; exact h4, d, by omega, n13⟩
    · rw [m7' c' e3, m4]
      rcases a8 c' h' with e | ⟨e1, e2, i, hi, e4⟩
      · exact Or.inl e
      · exact Or.inr ⟨e1, e2, i, by omega, by rw [n13' i (by omega)]; exact e4⟩
  · rw [q_cnt_set (p := fun c => decide (μ (B + 7) c = nI 1)) (c := c) hc (by simp only [h7, q_01]; rfl) (by simp only [m7]; rfl) (fun a _ hne => by simp only [m7' a hne]), a9]
  · rw [m11, n24, b1]
  · rw [m12, n25, b2, q_imax]
  · rw [m13, n26, b3, s1, s3]
    obtain ⟨x1, x2, x3⟩ := a3 c hc
    cases K
    · rw [if_pos (x3 rfl), if_neg (by simp)]
    · rw [x2 rfl]
      rcases x1 with e | ⟨j, hj, e⟩
      · rw [e]
        simp only [if_true]
        rw [if_neg (fun z => z.2 (q_neg9.mpr trivial))]
      · rw [e]
        rw [if_neg (fun z => (q_m9 (by omega)).mp z), if_pos ⟨rfl, fun z => (q_lt0 (by omega)).mp z⟩, q_add0]
  · obtain ⟨q, c1, c2, c3, c4, c5⟩ := b4 hK
    refine ⟨q, by rw [m14]; exact c1, by rw [n27]; exact c2, ?_, ?_, fun i hi => ?_⟩
    · rw [q_cnt_congr (p' := fun c => decide (μ (B + 4) c = -nI 9)) (fun a _ => by simp only [m4])]
      exact c3
    · rw [m11, c4, q_add, Nat.add_assoc]
    · rw [m8, n9 16 i (by omega) (by omega) (by omega)]
      exact c5 i hi

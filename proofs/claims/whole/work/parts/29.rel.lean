/-! ===== 29: the relation between class and reference between calls ===== -/
def R_A (N : Nat) (fm : Nat → Nat) (pt : Nat → Nat → Nat) (μ ν : nk_M) : Prop := j_st 1 6 N fm pt μ ν ∧ k_dy true 1 6 N fm pt μ ν ∧ ∀ c, c < N → ∃ p, 1 ≤ p ∧ p ≤ 9 ∧ μ 7 c = nI p
def R_L (μ ν : nk_M) : Prop := μ 1 10 = ν 0 16 ∧ μ 1 11 = ν 0 31 ∧ μ 1 12 = ν 0 32 ∧ μ 1 13 = ν 0 33 ∧ ∃ q, q ≤ 8 ∧ μ 1 14 = nI q ∧ μ 1 11 = nI q ∧ ∀ i, i < q → μ 14 i = ν 17 i
def R_T (μ : nk_M) : Prop := μ 2 9 = nI 1 ∧ ∀ c, c < 8 → μ 22 c = nI 0
def R_D (N : Nat) (μ ν : nk_M) : Prop := ∃ r, r ≤ 8 ∧ μ 4 0 = nI r ∧ ν 0 41 = nI r ∧ ∀ i, i < r → (∃ c, c < N ∧ μ 24 i = nI c) ∧ ν 23 i = μ 24 i ∧ ν 24 i = μ 25 i
def R_S (μ ν : nk_M) : Prop := ∀ k, k < 4 → (μ 31 k = -nI 1 ∧ ν 25 k = -nI 1) ∨ ∃ l n, l ≤ 2 ∧ n ≤ 60 ∧ μ 31 k = nI l ∧ ν 26 k = nI l ∧ μ 32 k = nI n ∧ ν 25 k = nI n ∧ ∀ i, i < n → ν 27 (60 * k + i) = μ (27 + k) i
def R_F (μ ν : nk_M) : Prop := μ 0 6 = ν 0 0 ∧ μ 0 5 = ν 0 48
def RR (μ ν : nk_M) : Prop := ∃ (N : Nat) (fm : Nat → Nat) (pt : Nat → Nat → Nat), R_A N fm pt μ ν ∧ R_L μ ν ∧ R_T μ ∧ R_D N μ ν ∧ R_S μ ν ∧ R_F μ ν
section RC
variable {N : Nat} {fm : Nat → Nat} {pt : Nat → Nat → Nat} {μ ν μ' ν' : nk_M}
theorem j_st_c {o B : Nat} (h : j_st o B N fm pt μ ν) (hC : ∀ k j, (k = o ∧ j = 0) ∨ (B ≤ k ∧ k ≤ B + 3) → μ' k j = μ k j) (hR : ∀ k j, (k = 0 ∧ j = 1) ∨ (1 ≤ k ∧ k ≤ 4) → ν' k j = ν k j) : j_st o B N fm pt μ' ν' := by
  obtain ⟨h1, h2, h3, h4⟩ := h
  refine ⟨h1, by rw [hC o 0 (by omega)]; exact h2, by rw [hR 0 1 (by omega)]; exact h3, fun c hc => ?_⟩
  rw [hC (B + 2) c (by omega), hC B c (by omega), hC (B + 1) c (by omega), hR 3 c (by omega), hR 1 c (by omega), hR 2 c (by omega)]
  obtain ⟨a1, a2, a3, a4, a5, a6, a7⟩ := h4 c hc
  refine ⟨a1, a2, a3, a4, a5, a6, fun k hk => ?_⟩
  rw [hC (B + 3) _ (by omega), hR 4 _ (by omega)]
  exact a7 k hk
theorem k_dy_c {K : Bool} {o B : Nat} (h : k_dy K o B N fm pt μ ν) (hC : ∀ k j, (k = o ∧ j = 9) ∨ (B + 4 ≤ k ∧ k ≤ B + 7) → μ' k j = μ k j) (hR : ∀ k j, (k = 0 ∧ j = 29) ∨ (9 ≤ k ∧ k ≤ 12) → ν' k j = ν k j) : k_dy K o B N fm pt μ' ν' := by
  obtain ⟨h1, h2, h3, h4, h5⟩ := h
  refine ⟨⟨by rw [hR 0 29 (by omega)]; exact h1.1, by rw [hC o 9 (by omega)]; exact h1.2⟩, fun c hc => ?_, fun c hc => ?_, fun c hc e => ?_, fun c hc => ?_⟩
  · rw [hC (B + 4) c (by omega), hR 9 c (by omega)]; exact h2 c hc
  · rw [hC (B + 6) c (by omega), hR 12 c (by omega)]; exact h3 c hc
  · rw [hC (B + 4) c (by omega)] at e
    rw [hC (B + 5) c (by omega), hR 10 c (by omega), hR 11 c (by omega)]; exact h4 c hc e
  · rw [hC (B + 7) c (by omega)]; exact h5 c hc
theorem R_A_c (h : R_A N fm pt μ ν) (hC : ∀ k j, (k = 1 ∧ (j = 0 ∨ j = 9)) ∨ (6 ≤ k ∧ k ≤ 13) → μ' k j = μ k j) (hR : ∀ k j, (k = 0 ∧ (j = 1 ∨ j = 29)) ∨ (1 ≤ k ∧ k ≤ 4) ∨ (9 ≤ k ∧ k ≤ 12) → ν' k j = ν k j) : R_A N fm pt μ' ν' :=
  ⟨j_st_c h.1 (fun k j hk => hC k j (by omega)) (fun k j hk => hR k j (by omega)), k_dy_c h.2.1 (fun k j hk => hC k j (by omega)) (fun k j hk => hR k j (by omega)), fun c hc => by rw [hC 7 c (by omega)]; exact h.2.2 c hc⟩
theorem R_L_c (h : R_L μ ν) (hC : ∀ k j, (k = 1 ∧ 10 ≤ j ∧ j ≤ 14) ∨ k = 14 → μ' k j = μ k j) (hR : ∀ k j, (k = 0 ∧ (j = 16 ∨ (31 ≤ j ∧ j ≤ 33))) ∨ k = 17 → ν' k j = ν k j) : R_L μ' ν' := by
  obtain ⟨h1, h2, h3, h4, q, h5, h6, h7, h8⟩ := h
  refine ⟨by rw [hC 1 10 (by omega), hR 0 16 (by omega)]; exact h1, by rw [hC 1 11 (by omega), hR 0 31 (by omega)]; exact h2, by rw [hC 1 12 (by omega), hR 0 32 (by omega)]; exact h3, by rw [hC 1 13 (by omega), hR 0 33 (by omega)]; exact h4, q, h5, by rw [hC 1 14 (by omega)]; exact h6, by rw [hC 1 11 (by omega)]; exact h7, fun i hi => by rw [hC 14 i (by omega), hR 17 i (by omega)]; exact h8 i hi⟩
theorem R_T_c (h : R_T μ) (hC : ∀ k j, (k = 2 ∧ j = 9) ∨ k = 22 → μ' k j = μ k j) : R_T μ' := ⟨by rw [hC 2 9 (by omega)]; exact h.1, fun c hc => by rw [hC 22 c (by omega)]; exact h.2 c hc⟩
theorem R_D_c (h : R_D N μ ν) (hC : ∀ k j, (k = 4 ∧ j = 0) ∨ k = 24 ∨ k = 25 → μ' k j = μ k j) (hR : ∀ k j, (k = 0 ∧ j = 41) ∨ k = 23 ∨ k = 24 → ν' k j = ν k j) : R_D N μ' ν' := by
  obtain ⟨r, h1, h2, h3, h4⟩ := h
  refine ⟨r, h1, by rw [hC 4 0 (by omega)]; exact h2, by rw [hR 0 41 (by omega)]; exact h3, fun i hi => ?_⟩
  rw [hC 24 i (by omega), hC 25 i (by omega), hR 23 i (by omega), hR 24 i (by omega)]
  exact h4 i hi
theorem R_S_c (h : R_S μ ν) (hC : ∀ k j, 27 ≤ k ∧ k ≤ 32 → μ' k j = μ k j) (hR : ∀ k j, 25 ≤ k ∧ k ≤ 27 → ν' k j = ν k j) : R_S μ' ν' := by
  intro k hk
  rw [hC 31 k (by omega), hC 32 k (by omega), hR 25 k (by omega), hR 26 k (by omega)]
  rcases h k hk with e | ⟨l, n, e1, e2, e3, e4, e5, e6, e7⟩
  · exact Or.inl e
  · exact Or.inr ⟨l, n, e1, e2, e3, e4, e5, e6, fun i hi => by rw [hC (27 + k) i (by omega), hR 27 _ (by omega)]; exact e7 i hi⟩
theorem R_F_c (h : R_F μ ν) (hC : ∀ j, j = 5 ∨ j = 6 → μ' 0 j = μ 0 j) (hR : ∀ j, j = 0 ∨ j = 48 → ν' 0 j = ν 0 j) : R_F μ' ν' := ⟨by rw [hC 6 (by omega), hR 0 (by omega)]; exact h.1, by rw [hC 5 (by omega), hR 48 (by omega)]; exact h.2⟩
theorem RR_fault (h : RR μ ν) (f : Int32) : RR (nk_up μ 0 6 f) (nk_up ν 0 0 f) := by
  obtain ⟨N, fm, pt, hA, hL, hT, hD, hS, hF⟩ := h
  exact ⟨N, fm, pt, R_A_c hA (fun k j h => by simp (disch := omega) only [q_lit, q_sub, Nat.add_sub_cancel, q_upE, q_upN, q_upM, q_upO, q_bd, q_pf, q_nm, q_ald, q_ast, q_tld, q_lt0, q_lt, q_le, q_eq, q_m9, q_9m, q_neg9, q_add, q_mul, q_zr0, q_zr1, q_clamp, if_true, if_false, if_pos, if_neg]) (fun k j h => by simp (disch := omega) only [q_lit, q_sub, Nat.add_sub_cancel, q_upE, q_upN, q_upM, q_upO, q_bd, q_pf, q_nm, q_ald, q_ast, q_tld, q_lt0, q_lt, q_le, q_eq, q_m9, q_9m, q_neg9, q_add, q_mul, q_zr0, q_zr1, q_clamp, if_true, if_false, if_pos, if_neg]), R_L_c hL (fun k j h => by simp (disch := omega) only [q_lit, q_sub, Nat.add_sub_cancel, q_upE, q_upN, q_upM, q_upO, q_bd, q_pf, q_nm, q_ald, q_ast, q_tld, q_lt0, q_lt, q_le, q_eq, q_m9, q_9m, q_neg9, q_add, q_mul, q_zr0, q_zr1, q_clamp, if_true, if_false, if_pos, if_neg]) (fun k j h => by simp (disch := omega) only [q_lit, q_sub, Nat.add_sub_cancel, q_upE, q_upN, q_upM, q_upO, q_bd, q_pf, q_nm, q_ald, q_ast, q_tld, q_lt0, q_lt, q_le, q_eq, q_m9, q_9m, q_neg9, q_add, q_mul, q_zr0, q_zr1, q_clamp, if_true, if_false, if_pos, if_neg]), R_T_c hT (fun k j h => by simp (disch := omega) only [q_lit, q_sub, Nat.add_sub_cancel, q_upE, q_upN, q_upM, q_upO, q_bd, q_pf, q_nm, q_ald, q_ast, q_tld, q_lt0, q_lt, q_le, q_eq, q_m9, q_9m, q_neg9, q_add, q_mul, q_zr0, q_zr1, q_clamp, if_true, if_false, if_pos, if_neg]), R_D_c hD (fun k j h => by simp (disch := omega) only [q_lit, q_sub, Nat.add_sub_cancel, q_upE, q_upN, q_upM, q_upO, q_bd, q_pf, q_nm, q_ald, q_ast, q_tld, q_lt0, q_lt, q_le, q_eq, q_m9, q_9m, q_neg9, q_add, q_mul, q_zr0, q_zr1, q_clamp, if_true, if_false, if_pos, if_neg]) (fun k j h => by simp (disch := omega) only [q_lit, q_sub, Nat.add_sub_cancel, q_upE, q_upN, q_upM, q_upO, q_bd, q_pf, q_nm, q_ald, q_ast, q_tld, q_lt0, q_lt, q_le, q_eq, q_m9, q_9m, q_neg9, q_add, q_mul, q_zr0, q_zr1, q_clamp, if_true, if_false, if_pos, if_neg]), R_S_c hS (fun k j h => by simp (disch := omega) only [q_lit, q_sub, Nat.add_sub_cancel, q_upE, q_upN, q_upM, q_upO, q_bd, q_pf, q_nm, q_ald, q_ast, q_tld, q_lt0, q_lt, q_le, q_eq, q_m9, q_9m, q_neg9, q_add, q_mul, q_zr0, q_zr1, q_clamp, if_true, if_false, if_pos, if_neg]) (fun k j h => by simp (disch := omega) only [q_lit, q_sub, Nat.add_sub_cancel, q_upE, q_upN, q_upM, q_upO, q_bd, q_pf, q_nm, q_ald, q_ast, q_tld, q_lt0, q_lt, q_le, q_eq, q_m9, q_9m, q_neg9, q_add, q_mul, q_zr0, q_zr1, q_clamp, if_true, if_false, if_pos, if_neg]), by simp (disch := omega) only [q_lit, q_sub, Nat.add_sub_cancel, q_upE, q_upN, q_upM, q_upO, q_bd, q_pf, q_nm, q_ald, q_ast, q_tld, q_lt0, q_lt, q_le, q_eq, q_m9, q_9m, q_neg9, q_add, q_mul, q_zr0, q_zr1, q_clamp, if_true, if_false, if_pos, if_neg], by simp (disch := omega) only [q_lit, q_sub, Nat.add_sub_cancel, q_upE, q_upN, q_upM, q_upO, q_bd, q_pf, q_nm, q_ald, q_ast, q_tld, q_lt0, q_lt, q_le, q_eq, q_m9, q_9m, q_neg9, q_add, q_mul, q_zr0, q_zr1, q_clamp, if_true, if_false, if_pos, if_neg]; exact hF.2⟩
theorem RR_fault2 (h : RR (nk_up μ 0 6 (nI 0)) ν) (f : Int32) : RR (nk_up (nk_up μ 0 6 (nI 0)) 0 6 f) (nk_up ν 0 0 f) := RR_fault h f
end RC
/-! what the two sides ask of a number -/
theorem q_cmpL (x y : Int64) : (lg_cmp x y < nI 0) ↔ x.toInt < y.toInt := by
  unfold lg_cmp
  by_cases h : x > y
  · have h2 : y.toInt < x.toInt := Int64.lt_iff_toInt_lt.mp h
    rw [if_pos h]
    constructor
    · intro h3; exact absurd h3 (by decide)
    · intro h3; omega
  · have h2 : ¬ y.toInt < x.toInt := fun z => h (Int64.lt_iff_toInt_lt.mpr z)
    rw [if_neg h]
    by_cases e : x = y
    · rw [if_pos e, e]
      constructor
      · intro h3; exact absurd h3 (by decide)
      · intro h3; omega
    · rw [if_neg e]
      have e2 : x.toInt ≠ y.toInt := fun z => e (Int64.toInt_inj.mp z)
      constructor
      · intro _; omega
      · intro _; decide
theorem q_cmpG (x y : Int64) : (nI 0 < lg_cmp x y) ↔ y.toInt < x.toInt := by
  unfold lg_cmp
  by_cases h : x > y
  · have h2 : y.toInt < x.toInt := Int64.lt_iff_toInt_lt.mp h
    rw [if_pos h]
    constructor
    · intro _; exact h2
    · intro _; decide
  · have h2 : ¬ y.toInt < x.toInt := fun z => h (Int64.lt_iff_toInt_lt.mpr z)
    rw [if_neg h]
    by_cases e : x = y
    · rw [if_pos e]
      constructor
      · intro h3; exact absurd h3 (by decide)
      · intro h3; omega
    · rw [if_neg e]
      constructor
      · intro h3; exact absurd h3 (by decide)
      · intro h3; omega
theorem r_in0 (x l h : Int64) (ν : nk_M) : zf_M_in x l h ν = some (if l.toInt ≤ x.toInt ∧ x.toInt ≤ h.toInt then nI 1 else nI 0, ν) := by
  simp only [zf_M_in, zf_M_in_b17, zf_M_in_b18, q_lit, q_cmpL, q_cmpG, q_zr0, q_zr1]
  by_cases e1 : x.toInt < l.toInt
  · simp only [e1, if_true]
    rw [if_neg (by omega)]
  · simp only [e1, if_false]
    by_cases e2 : h.toInt < x.toInt
    · simp only [e2, if_true]
      rw [if_neg (by omega)]
    · simp only [e2, if_false]
      rw [if_pos (by omega)]
theorem r_in (x : Int32) (l h : Int64) {a b : Int} (ha : l.toInt = a) (hb : h.toInt = b) (ν : nk_M) : zf_M_in x.toInt64 l h ν = some (if a ≤ x.toInt ∧ x.toInt ≤ b then nI 1 else nI 0, ν) := by
  rw [r_in0, Int32.toInt_toInt64, ha, hb]
theorem r_inT {x : Int32} {l h : Int64} (ν : nk_M) (a b : Int) (ha : l.toInt = a) (hb : h.toInt = b) (hx : a ≤ x.toInt ∧ x.toInt ≤ b) : zf_M_in x.toInt64 l h ν = some (nI 1, ν) := by
  rw [r_in x l h ha hb, if_pos hx]
theorem r_inF {x : Int32} {l h : Int64} (ν : nk_M) (a b : Int) (ha : l.toInt = a) (hb : h.toInt = b) (hx : ¬ (a ≤ x.toInt ∧ x.toInt ≤ b)) : zf_M_in x.toInt64 l h ν = some (nI 0, ν) := by
  rw [r_in x l h ha hb, if_neg hx]
theorem q_nI {n : Nat} (h : n < 2147483648) : (nI n).toInt = n := nI_toInt h
theorem q_iff_lt {x y : Int32} : x < y ↔ x.toInt < y.toInt := Int32.lt_iff_toInt_lt
theorem q_iff_le {x y : Int32} : x ≤ y ↔ x.toInt ≤ y.toInt := Int32.le_iff_toInt_le
theorem q_cells {N : Nat} (hN : N ≤ 8) : ((nI N).toInt64 - 1).toInt = (N : Int) - 1 := by
  rcases (show N = 0 ∨ N = 1 ∨ N = 2 ∨ N = 3 ∨ N = 4 ∨ N = 5 ∨ N = 6 ∨ N = 7 ∨ N = 8 by omega) with rfl | rfl | rfl | rfl | rfl | rfl | rfl | rfl | rfl <;> decide
/-- is there a cell of that number -/
theorem hn_in {o B N j : Nat} {μ ν : nk_M} (hN : N ≤ 8) (hμ : μ o 0 = nI N) (hν : ν 0 1 = nI N) (hj : j < N) : zf_C_has o B (nI j) μ = some (nI 1, μ) ∧ zf_M_noOne (nI j) ν = some (nI 0, ν) := by
  constructor
  · simp (disch := omega) only [zf_C_has, zf_C_has_b17, hμ, q_lit, q_sub, Nat.add_sub_cancel, q_upE, q_upN, q_upM, q_upO, q_bd, q_pf, q_nm, q_ald, q_ast, q_tld, q_lt0, q_lt, q_le, q_eq, q_m9, q_9m, q_neg9, q_add, q_mul, q_zr0, q_zr1, q_clamp, if_true, if_false, if_pos, if_neg]
  · have := r_inT (x := nI j) (l := 0) (h := (nI N).toInt64 - 1) ν 0 ((N : Int) - 1) (by decide) (q_cells hN) (by rw [q_nI (by omega)]; omega)
    simp only [zf_M_noOne, hν, this, q_bd, zf_M_noOne_b21, q_lit, q_10, if_false, q_zr0]
theorem hn_out {o B N : Nat} {x : Int32} {μ ν : nk_M} (hN : N ≤ 8) (hμ : μ o 0 = nI N) (hν : ν 0 1 = nI N) (hx : x < 0 ∨ nI N ≤ x) : zf_C_has o B x μ = some (nI 0, μ) ∧ zf_M_noOne x ν = some (nI 1, ν) := by
  have hx2 : x.toInt < 0 ∨ (N : Int) ≤ x.toInt := by
    rcases hx with h | h
    · left; rw [q_iff_lt] at h; simpa using h
    · right; rw [q_iff_le, q_nI (by omega)] at h; exact h
  constructor
  · rcases hx with h | h
    · have h' : x < nI 0 := h
      simp only [zf_C_has, zf_C_has_b16, zf_C_has_b17, q_lit, h', if_true, q_zr0]
    · by_cases h' : x < nI 0
      · simp only [zf_C_has, zf_C_has_b16, zf_C_has_b17, q_lit, h', if_true, q_zr0]
      · simp only [zf_C_has, zf_C_has_b16, zf_C_has_b17, q_lit, h', hμ, h, if_true, if_false, q_zr0]
  · have := r_inF (x := x) (l := 0) (h := (nI N).toInt64 - 1) ν 0 ((N : Int) - 1) (by decide) (q_cells hN) (by omega)
    simp only [zf_M_noOne, hν, this, q_bd, zf_M_noOne_b21, q_lit, if_true, q_zr1]

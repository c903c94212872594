/-! ===== 24: need: how the class works a cell out, given what its parts come to ===== -/
theorem q_bdS {α : Type} {F : Option (α × nk_M)} : nk_bd F (fun r m => some (r, m)) = F := by
  cases F <;> rfl
def q_wn (v : Nat) : Nat := if v = 100 then 102 else v
theorem q_rem {α : Type} {a : Nat} {K : Int32 → Option (α × nk_M)} (h : a < 2147483648) : nk_Direm (nI a) (nI 100) K = K (nI (a % 100)) := by
  unfold nk_Direm
  rw [if_neg (fun e => by revert e; decide), pk_rem h (by omega) (by omega)]
section CW
variable {o B c a : Nat} {rc : Int32 → Int32 → nk_M → Option (Int32 × nk_M)} {μ μ1 μ2 : nk_M} {f v v1 v2 p0 p1 j q : Nat}
theorem c_passOn (hc : c < 8) (hj : j < 8) (hv : v ≤ 102) (hr : rc (nI j) (nI (a + 1)) μ = some (nI v, μ1)) : zf_C_passOn o B rc (nI c) (nI j) (nI a) μ = some (nI v, if v = 100 then nk_up μ1 (B + 5) c (μ1 (B + 5) j) else μ1) := by
  by_cases e : v = 100
  · subst e
    simp (disch := omega) only [zf_C_passOn, hr, zf_C_passOn_b29, q_lit, q_sub, Nat.add_sub_cancel, q_upE, q_upN, q_upM, q_upO, q_bd, q_pf, q_nm, q_ald, q_ast, q_tld, q_lt0, q_lt, q_le, q_eq, q_m9, q_9m, q_neg9, q_add, q_mul, q_zr0, q_zr1, q_clamp, if_true, if_false, if_pos, if_neg]
  · simp (disch := omega) only [zf_C_passOn, hr, zf_C_passOn_b29, e, q_lit, q_sub, Nat.add_sub_cancel, q_upE, q_upN, q_upM, q_upO, q_bd, q_pf, q_nm, q_ald, q_ast, q_tld, q_lt0, q_lt, q_le, q_eq, q_m9, q_9m, q_neg9, q_add, q_mul, q_zr0, q_zr1, q_clamp, if_true, if_false, if_pos, if_neg]
theorem c_workLink (hc : c < 8) (hj : j < 8) (h : μ (B + 6) c = nI j) : zf_C_workOut o B rc (nI c) (nI a) μ = zf_C_passOn o B rc (nI c) (nI j) (nI a) μ := by
  simp (disch := omega) only [zf_C_workOut, e_formNow, h, q_bdS, q_lit, q_sub, Nat.add_sub_cancel, q_upE, q_upN, q_upM, q_upO, q_bd, q_pf, q_nm, q_ald, q_ast, q_tld, q_lt0, q_lt, q_le, q_eq, q_m9, q_9m, q_neg9, q_add, q_mul, q_zr0, q_zr1, q_clamp, if_true, if_false, if_pos, if_neg]
theorem c_num (hv : v ≤ 102) (hr : rc (nI j) (nI a) μ = some (nI v, μ1)) : zf_C_comeToNumber o B rc (nI j) (nI a) μ = some (nI (q_wn v), μ1) := by
  by_cases e : v = 100
  · subst e
    simp (disch := omega) only [zf_C_comeToNumber, hr, zf_C_comeToNumber_b19, q_wn, q_lit, q_sub, Nat.add_sub_cancel, q_upE, q_upN, q_upM, q_upO, q_bd, q_pf, q_nm, q_ald, q_ast, q_tld, q_lt0, q_lt, q_le, q_eq, q_m9, q_9m, q_neg9, q_add, q_mul, q_zr0, q_zr1, q_clamp, if_true, if_false, if_pos, if_neg]
  · simp (disch := omega) only [zf_C_comeToNumber, hr, zf_C_comeToNumber_b19, q_wn, e, q_lit, q_sub, Nat.add_sub_cancel, q_upE, q_upN, q_upM, q_upO, q_bd, q_pf, q_nm, q_ald, q_ast, q_tld, q_lt0, q_lt, q_le, q_eq, q_m9, q_9m, q_neg9, q_add, q_mul, q_zr0, q_zr1, q_clamp, if_true, if_false, if_pos, if_neg]
theorem c_work0 (hc : c < 8) (hl : μ (B + 6) c = -nI 9) (hf : μ (B + 2) c = nI 0) : zf_C_workOut o B rc (nI c) (nI a) μ = some (μ (B + 3) (3 * c + 0), μ) := by
  have := e_partAsTold (o := o) (B := B) (k := 0) hc hf (by omega) (by decide)
  simp (disch := omega) only [zf_C_workOut, e_formNow, hl, hf, this, q_lit, q_sub, Nat.add_sub_cancel, q_upE, q_upN, q_upM, q_upO, q_bd, q_pf, q_nm, q_ald, q_ast, q_tld, q_lt0, q_lt, q_le, q_eq, q_m9, q_9m, q_neg9, q_add, q_mul, q_zr0, q_zr1, q_clamp, if_true, if_false, if_pos, if_neg]
theorem c_work4 (hc : c < 8) (hl : μ (B + 6) c = -nI 9) (hf : μ (B + 2) c = nI 4) : zf_C_workOut o B rc (nI c) (nI a) μ = some (nI 100, nk_up μ (B + 5) c (nI c)) := by
  simp (disch := omega) only [zf_C_workOut, e_formNow, hl, hf, q_lit, q_sub, Nat.add_sub_cancel, q_upE, q_upN, q_upM, q_upO, q_bd, q_pf, q_nm, q_ald, q_ast, q_tld, q_lt0, q_lt, q_le, q_eq, q_m9, q_9m, q_neg9, q_add, q_mul, q_zr0, q_zr1, q_clamp, if_true, if_false, if_pos, if_neg]
theorem c_work12 (hc : c < 8) (hl : μ (B + 6) c = -nI 9) (hf : μ (B + 2) c = nI f) (h12 : f = 1 ∨ f = 2) : zf_C_workOut o B rc (nI c) (nI a) μ = zf_C_workOutBoth o B rc (nI c) (nI a) μ := by
  rcases h12 with rfl | rfl <;> simp (disch := omega) only [zf_C_workOut, e_formNow, hl, hf, zf_C_workOut_b55, q_bdS, q_lit, q_sub, Nat.add_sub_cancel, q_upE, q_upN, q_upM, q_upO, q_bd, q_pf, q_nm, q_ald, q_ast, q_tld, q_lt0, q_lt, q_le, q_eq, q_m9, q_9m, q_neg9, q_add, q_mul, q_zr0, q_zr1, q_clamp, if_true, if_false, if_pos, if_neg]
theorem c_work3 (hc : c < 8) (hl : μ (B + 6) c = -nI 9) (hf : μ (B + 2) c = nI 3) : zf_C_workOut o B rc (nI c) (nI a) μ = zf_C_workOutChoice o B rc (nI c) (nI a) μ := by
  simp (disch := omega) only [zf_C_workOut, e_formNow, hl, hf, q_bdS, q_lit, q_sub, Nat.add_sub_cancel, q_upE, q_upN, q_upM, q_upO, q_bd, q_pf, q_nm, q_ald, q_ast, q_tld, q_lt0, q_lt, q_le, q_eq, q_m9, q_9m, q_neg9, q_add, q_mul, q_zr0, q_zr1, q_clamp, if_true, if_false, if_pos, if_neg]
theorem c_work56 (hc : c < 8) (hl : μ (B + 6) c = -nI 9) (hf : μ (B + 2) c = nI f) (h56 : f = 5 ∨ f = 6) : zf_C_workOut o B rc (nI c) (nI a) μ = zf_C_workOutOfPair o B rc (nI c) (nI a) μ := by
  rcases h56 with rfl | rfl <;> simp (disch := omega) only [zf_C_workOut, e_formNow, hl, hf, zf_C_workOut_b79, q_bdS, q_lit, q_sub, Nat.add_sub_cancel, q_upE, q_upN, q_upM, q_upO, q_bd, q_pf, q_nm, q_ald, q_ast, q_tld, q_lt0, q_lt, q_le, q_eq, q_m9, q_9m, q_neg9, q_add, q_mul, q_zr0, q_zr1, q_clamp, if_true, if_false, if_pos, if_neg]
theorem c_bothA (hc : c < 8) (hf : μ (B + 2) c = nI f) (h12 : f = 1 ∨ f = 2) (hp : μ (B + 3) (3 * c + 0) = nI p0) (hv : v1 ≤ 102) (hr : rc (nI p0) (nI (a + 1)) μ = some (nI v1, μ1)) (h1 : 100 ≤ v1) : zf_C_workOutBoth o B rc (nI c) (nI a) μ = some (nI (q_wn v1), μ1) := by
  have e1 := e_partAsTold (o := o) (B := B) (k := 0) hc hf (by omega) (by rcases h12 with rfl | rfl <;> decide)
  have e2 := c_num (o := o) (B := B) hv hr
  have e3 : 100 ≤ q_wn v1 ∧ q_wn v1 ≤ 102 := by unfold q_wn; split <;> omega
  simp (disch := omega) only [zf_C_workOutBoth, e1, hp, e2, q_lit, q_sub, Nat.add_sub_cancel, q_upE, q_upN, q_upM, q_upO, q_bd, q_pf, q_nm, q_ald, q_ast, q_tld, q_lt0, q_lt, q_le, q_eq, q_m9, q_9m, q_neg9, q_add, q_mul, q_zr0, q_zr1, q_clamp, if_true, if_false, if_pos, if_neg]
theorem c_bothB (hc : c < 8) (hf : μ (B + 2) c = nI f) (h12 : f = 1 ∨ f = 2) (hp : μ (B + 3) (3 * c + 0) = nI p0) (hr : rc (nI p0) (nI (a + 1)) μ = some (nI v1, μ1)) (h1 : v1 < 100)
    (hf1 : μ1 (B + 2) c = nI f) (hp1 : μ1 (B + 3) (3 * c + 1) = nI p1) (hv : v2 ≤ 102) (hr2 : rc (nI p1) (nI (a + 1)) μ1 = some (nI v2, μ2)) (h2 : 100 ≤ v2) : zf_C_workOutBoth o B rc (nI c) (nI a) μ = some (nI (q_wn v2), μ2) := by
  have e1 := e_partAsTold (o := o) (B := B) (k := 0) hc hf (by omega) (by rcases h12 with rfl | rfl <;> decide)
  have e1' := e_partAsTold (o := o) (B := B) (k := 1) hc hf1 (by omega) (by rcases h12 with rfl | rfl <;> decide)
  have e2 := c_num (o := o) (B := B) (show v1 ≤ 102 by omega) hr
  have e2' := c_num (o := o) (B := B) hv hr2
  have e3 : q_wn v1 = v1 := by unfold q_wn; rw [if_neg (by omega)]
  have e4 : 100 ≤ q_wn v2 ∧ q_wn v2 ≤ 102 := by unfold q_wn; split <;> omega
  simp (disch := omega) only [zf_C_workOutBoth, e1, hp, e2, e3, e1', hp1, e2', q_lit, q_sub, Nat.add_sub_cancel, q_upE, q_upN, q_upM, q_upO, q_bd, q_pf, q_nm, q_ald, q_ast, q_tld, q_lt0, q_lt, q_le, q_eq, q_m9, q_9m, q_neg9, q_add, q_mul, q_zr0, q_zr1, q_clamp, if_true, if_false, if_pos, if_neg]
theorem c_bothC (hc : c < 8) (hf : μ (B + 2) c = nI f) (h12 : f = 1 ∨ f = 2) (hp : μ (B + 3) (3 * c + 0) = nI p0) (hr : rc (nI p0) (nI (a + 1)) μ = some (nI v1, μ1)) (h1 : v1 < 100)
    (hf1 : μ1 (B + 2) c = nI f) (hp1 : μ1 (B + 3) (3 * c + 1) = nI p1) (hr2 : rc (nI p1) (nI (a + 1)) μ1 = some (nI v2, μ2)) (h2 : v2 < 100) (hf2 : μ2 (B + 2) c = nI f) : zf_C_workOutBoth o B rc (nI c) (nI a) μ = some (nI ((if f = 1 then v1 + v2 else v1 * v2) % 100), μ2) := by
  have e1 := e_partAsTold (o := o) (B := B) (k := 0) hc hf (by omega) (by rcases h12 with rfl | rfl <;> decide)
  have e1' := e_partAsTold (o := o) (B := B) (k := 1) hc hf1 (by omega) (by rcases h12 with rfl | rfl <;> decide)
  have e2 := c_num (o := o) (B := B) (show v1 ≤ 102 by omega) hr
  have e2' := c_num (o := o) (B := B) (show v2 ≤ 102 by omega) hr2
  have e3 : q_wn v1 = v1 := by unfold q_wn; rw [if_neg (by omega)]
  have e4 : q_wn v2 = v2 := by unfold q_wn; rw [if_neg (by omega)]
  have e5 : v1 * v2 < 10000 := by
    have : v1 * v2 ≤ 99 * 99 := Nat.mul_le_mul (by omega) (by omega)
    omega
  rcases h12 with rfl | rfl <;> simp (disch := omega) only [zf_C_workOutBoth, e1, hp, e2, e3, e1', hp1, e2', e4, hf2, zf_C_workOutBoth_b68, q_rem, q_lit, q_sub, Nat.add_sub_cancel, q_upE, q_upN, q_upM, q_upO, q_bd, q_pf, q_nm, q_ald, q_ast, q_tld, q_lt0, q_lt, q_le, q_eq, q_m9, q_9m, q_neg9, q_add, q_mul, q_zr0, q_zr1, q_clamp, if_true, if_false, if_pos, if_neg]
theorem c_choiceA (hc : c < 8) (hf : μ (B + 2) c = nI 3) (hp : μ (B + 3) (3 * c + 0) = nI p0) (hv : v1 ≤ 102) (hr : rc (nI p0) (nI (a + 1)) μ = some (nI v1, μ1)) (h1 : 100 ≤ v1) : zf_C_workOutChoice o B rc (nI c) (nI a) μ = some (nI (q_wn v1), μ1) := by
  have e1 := e_partAsTold (o := o) (B := B) (k := 0) hc hf (by omega) (by decide)
  have e2 := c_num (o := o) (B := B) hv hr
  have e3 : 100 ≤ q_wn v1 ∧ q_wn v1 ≤ 102 := by unfold q_wn; split <;> omega
  simp (disch := omega) only [zf_C_workOutChoice, e1, hp, e2, q_lit, q_sub, Nat.add_sub_cancel, q_upE, q_upN, q_upM, q_upO, q_bd, q_pf, q_nm, q_ald, q_ast, q_tld, q_lt0, q_lt, q_le, q_eq, q_m9, q_9m, q_neg9, q_add, q_mul, q_zr0, q_zr1, q_clamp, if_true, if_false, if_pos, if_neg]
theorem c_choiceB (hc : c < 8) (hf : μ (B + 2) c = nI 3) (hp : μ (B + 3) (3 * c + 0) = nI p0) (hr : rc (nI p0) (nI (a + 1)) μ = some (nI v1, μ1)) (h1 : v1 < 100) (hf1 : μ1 (B + 2) c = nI 3) (hp1 : μ1 (B + 3) (3 * c + (if v1 = 0 then 2 else 1)) = nI p1) : zf_C_workOutChoice o B rc (nI c) (nI a) μ = zf_C_passOn o B rc (nI c) (nI p1) (nI a) μ1 := by
  have e1 := e_partAsTold (o := o) (B := B) (k := 0) hc hf (by omega) (by decide)
  have e2 := c_num (o := o) (B := B) (show v1 ≤ 102 by omega) hr
  have e3 : q_wn v1 = v1 := by unfold q_wn; rw [if_neg (by omega)]
  by_cases e0 : v1 = 0
  · subst e0
    have e1' := e_partAsTold (o := o) (B := B) (k := 2) hc hf1 (by omega) (by decide)
    simp only [if_true] at hp1
    simp (disch := omega) only [zf_C_workOutChoice, e1, hp, e2, e3, zf_C_workOutChoice_b35, e1', hp1, q_bdS, q_lit, q_sub, Nat.add_sub_cancel, q_upE, q_upN, q_upM, q_upO, q_bd, q_pf, q_nm, q_ald, q_ast, q_tld, q_lt0, q_lt, q_le, q_eq, q_m9, q_9m, q_neg9, q_add, q_mul, q_zr0, q_zr1, q_clamp, if_true, if_false, if_pos, if_neg]
  · have e1' := e_partAsTold (o := o) (B := B) (k := 1) hc hf1 (by omega) (by decide)
    simp only [e0, if_false] at hp1
    simp (disch := omega) only [zf_C_workOutChoice, e1, hp, e2, e3, e0, zf_C_workOutChoice_b35, e1', hp1, q_bdS, q_lit, q_sub, Nat.add_sub_cancel, q_upE, q_upN, q_upM, q_upO, q_bd, q_pf, q_nm, q_ald, q_ast, q_tld, q_lt0, q_lt, q_le, q_eq, q_m9, q_9m, q_neg9, q_add, q_mul, q_zr0, q_zr1, q_clamp, if_true, if_false, if_pos, if_neg]
theorem c_ofA (hc : c < 8) (hf : μ (B + 2) c = nI f) (h56 : f = 5 ∨ f = 6) (hp : μ (B + 3) (3 * c + 0) = nI p0) (hv : v1 ≤ 102) (hr : rc (nI p0) (nI (a + 1)) μ = some (nI v1, μ1)) (h1 : v1 ≠ 100) : zf_C_workOutOfPair o B rc (nI c) (nI a) μ = some (nI (if v1 < 100 then 102 else v1), μ1) := by
  have e1 := e_partAsTold (o := o) (B := B) (k := 0) hc hf (by omega) (by rcases h56 with rfl | rfl <;> decide)
  by_cases e : v1 < 100
  · simp (disch := omega) only [zf_C_workOutOfPair, e1, hp, hr, q_lit, q_sub, Nat.add_sub_cancel, q_upE, q_upN, q_upM, q_upO, q_bd, q_pf, q_nm, q_ald, q_ast, q_tld, q_lt0, q_lt, q_le, q_eq, q_m9, q_9m, q_neg9, q_add, q_mul, q_zr0, q_zr1, q_clamp, if_true, if_false, if_pos, if_neg]
  · simp (disch := omega) only [zf_C_workOutOfPair, e1, hp, hr, q_lit, q_sub, Nat.add_sub_cancel, q_upE, q_upN, q_upM, q_upO, q_bd, q_pf, q_nm, q_ald, q_ast, q_tld, q_lt0, q_lt, q_le, q_eq, q_m9, q_9m, q_neg9, q_add, q_mul, q_zr0, q_zr1, q_clamp, if_true, if_false, if_pos, if_neg]
theorem c_ofB (hc : c < 8) (hf : μ (B + 2) c = nI f) (h56 : f = 5 ∨ f = 6) (hp : μ (B + 3) (3 * c + 0) = nI p0) (hp8 : p0 < 8) (hr : rc (nI p0) (nI (a + 1)) μ = some (nI 100, μ1)) (hf1 : μ1 (B + 2) c = nI f) (hq8 : q < 8) (hq : μ1 (B + 5) p0 = nI q) (hj : μ1 (B + 3) (3 * q + (if f = 5 then 0 else 1)) = nI j) : zf_C_workOutOfPair o B rc (nI c) (nI a) μ = zf_C_passOn o B rc (nI c) (nI j) (nI a) μ1 := by
  have e1 := e_partAsTold (o := o) (B := B) (k := 0) hc hf (by omega) (by rcases h56 with rfl | rfl <;> decide)
  have e2 := e_partOfPair (o := o) (B := B) hc hp8 hq8 hq
  rw [hf1] at e2
  rcases h56 with rfl | rfl
  · simp only [if_true] at hj e2
    simp (disch := omega) only [zf_C_workOutOfPair, e1, hp, hr, e2, hj, q_bdS, q_lit, q_sub, Nat.add_sub_cancel, q_upE, q_upN, q_upM, q_upO, q_bd, q_pf, q_nm, q_ald, q_ast, q_tld, q_lt0, q_lt, q_le, q_eq, q_m9, q_9m, q_neg9, q_add, q_mul, q_zr0, q_zr1, q_clamp, if_true, if_false, if_pos, if_neg]
  · rw [if_neg (by decide)] at hj
    rw [if_neg (by decide)] at e2
    simp (disch := omega) only [zf_C_workOutOfPair, e1, hp, hr, e2, hj, q_bdS, q_lit, q_sub, Nat.add_sub_cancel, q_upE, q_upN, q_upM, q_upO, q_bd, q_pf, q_nm, q_ald, q_ast, q_tld, q_lt0, q_lt, q_le, q_eq, q_m9, q_9m, q_neg9, q_add, q_mul, q_zr0, q_zr1, q_clamp, if_true, if_false, if_pos, if_neg]
end CW
/-! the reference's goesOn, by the stage of the last one -/
section RG
variable {c d j q : Nat} {f p0 p1 v one : Nat} {ν ν1 : nk_M}
/-- c is no link, or links have no say -/
def r_nl (c : Nat) (ν : nk_M) : Prop := ν 0 29 = nI 1 ∨ (ν 0 29 = nI 0 ∧ ν 12 c = -nI 9)
theorem g_link (hc : c < 8) (hj : j < 8) (hd : d < 8) (h17 : ν 0 17 = nI (d + 1)) (h13 : ν 13 d = nI c) (h14 : ν 14 d = nI 0) (hf : ν 3 c = nI f) (h29 : ν 0 29 = nI 0) (h12 : ν 12 c = nI j) (hw : zf_M_wants (nI j) (nk_up ν 14 d (nI 1)) = some ((), ν1)) : zf_M_goesOn ν = some ((), ν1) := by
  simp (disch := omega) only [zf_M_goesOn, zf_M_goesOn_b70, h17, h13, h14, zf_M_begins, zf_M_begins_b119, hf, h29, h12, hw, q_lit, q_sub, Nat.add_sub_cancel, q_upE, q_upN, q_upM, q_upO, q_bd, q_pf, q_nm, q_ald, q_ast, q_tld, q_lt0, q_lt, q_le, q_eq, q_m9, q_9m, q_neg9, q_add, q_mul, q_zr0, q_zr1, q_clamp, if_true, if_false, if_pos, if_neg]
theorem g_num (hc : c < 8) (hd : d < 8) (h17 : ν 0 17 = nI (d + 1)) (h13 : ν 13 d = nI c) (h14 : ν 14 d = nI 0) (hf : ν 3 c = nI 0) (hn : r_nl c ν) (hp : ν 4 (3 * c + 0) = nI p0) (hw : zf_M_isDone (nI p0) (nk_up ν 14 d (nI 1)) = some ((), ν1)) : zf_M_goesOn ν = some ((), ν1) := by
  rw [Nat.add_zero] at hp
  rcases hn with h29 | ⟨h29, h12⟩
  · simp (disch := omega) only [zf_M_goesOn, zf_M_goesOn_b70, h17, h13, h14, zf_M_begins, zf_M_begins_b48, zf_M_begins_b119, hf, h29, hp, hw, q_lit, q_sub, Nat.add_sub_cancel, q_upE, q_upN, q_upM, q_upO, q_bd, q_pf, q_nm, q_ald, q_ast, q_tld, q_lt0, q_lt, q_le, q_eq, q_m9, q_9m, q_neg9, q_add, q_mul, q_zr0, q_zr1, q_clamp, if_true, if_false, if_pos, if_neg]
  · simp (disch := omega) only [zf_M_goesOn, zf_M_goesOn_b70, h17, h13, h14, zf_M_begins, zf_M_begins_b48, zf_M_begins_b119, hf, h29, h12, hp, hw, q_lit, q_sub, Nat.add_sub_cancel, q_upE, q_upN, q_upM, q_upO, q_bd, q_pf, q_nm, q_ald, q_ast, q_tld, q_lt0, q_lt, q_le, q_eq, q_m9, q_9m, q_neg9, q_add, q_mul, q_zr0, q_zr1, q_clamp, if_true, if_false, if_pos, if_neg]
theorem g_pair (hc : c < 8) (hd : d < 8) (h17 : ν 0 17 = nI (d + 1)) (h13 : ν 13 d = nI c) (h14 : ν 14 d = nI 0) (hf : ν 3 c = nI 4) (hn : r_nl c ν) (hp : ν 4 (3 * c + 0) = nI p0) (hp1 : ν 4 (3 * c + 1) = nI p1) (hw : zf_M_isDone (nI 100) (nk_up (nk_up (nk_up ν 14 d (nI 1)) 0 22 (nI p0)) 0 23 (nI p1)) = some ((), ν1)) : zf_M_goesOn ν = some ((), ν1) := by
  rw [Nat.add_zero] at hp
  rcases hn with h29 | ⟨h29, h12⟩
  · simp (disch := omega) only [zf_M_goesOn, zf_M_goesOn_b70, h17, h13, h14, zf_M_begins, zf_M_begins_b48, zf_M_begins_b119, hf, h29, hp, hp1, hw, q_lit, q_sub, Nat.add_sub_cancel, q_upE, q_upN, q_upM, q_upO, q_bd, q_pf, q_nm, q_ald, q_ast, q_tld, q_lt0, q_lt, q_le, q_eq, q_m9, q_9m, q_neg9, q_add, q_mul, q_zr0, q_zr1, q_clamp, if_true, if_false, if_pos, if_neg]
  · simp (disch := omega) only [zf_M_goesOn, zf_M_goesOn_b70, h17, h13, h14, zf_M_begins, zf_M_begins_b48, zf_M_begins_b119, hf, h29, h12, hp, hp1, hw, q_lit, q_sub, Nat.add_sub_cancel, q_upE, q_upN, q_upM, q_upO, q_bd, q_pf, q_nm, q_ald, q_ast, q_tld, q_lt0, q_lt, q_le, q_eq, q_m9, q_9m, q_neg9, q_add, q_mul, q_zr0, q_zr1, q_clamp, if_true, if_false, if_pos, if_neg]
theorem g_first (hc : c < 8) (hd : d < 8) (h17 : ν 0 17 = nI (d + 1)) (h13 : ν 13 d = nI c) (h14 : ν 14 d = nI 0) (hf : ν 3 c = nI f) (hf6 : f ≤ 6) (hf0 : f ≠ 0) (hf4 : f ≠ 4) (hn : r_nl c ν) (hp : ν 4 (3 * c + 0) = nI p0) (hw : zf_M_wants (nI p0) (nk_up ν 14 d (nI 1)) = some ((), ν1)) : zf_M_goesOn ν = some ((), ν1) := by
  rw [Nat.add_zero] at hp
  rcases hn with h29 | ⟨h29, h12⟩
  · simp (disch := omega) only [zf_M_goesOn, zf_M_goesOn_b70, h17, h13, h14, zf_M_begins, zf_M_begins_b48, zf_M_begins_b119, hf, h29, hp, hw, q_lit, q_sub, Nat.add_sub_cancel, q_upE, q_upN, q_upM, q_upO, q_bd, q_pf, q_nm, q_ald, q_ast, q_tld, q_lt0, q_lt, q_le, q_eq, q_m9, q_9m, q_neg9, q_add, q_mul, q_zr0, q_zr1, q_clamp, if_true, if_false, if_pos, if_neg]
  · simp (disch := omega) only [zf_M_goesOn, zf_M_goesOn_b70, h17, h13, h14, zf_M_begins, zf_M_begins_b48, zf_M_begins_b119, hf, h29, h12, hp, hw, q_lit, q_sub, Nat.add_sub_cancel, q_upE, q_upN, q_upM, q_upO, q_bd, q_pf, q_nm, q_ald, q_ast, q_tld, q_lt0, q_lt, q_le, q_eq, q_m9, q_9m, q_neg9, q_add, q_mul, q_zr0, q_zr1, q_clamp, if_true, if_false, if_pos, if_neg]
theorem g_hfLink (hc : c < 8) (hj : j < 8) (hd : d < 8) (h17 : ν 0 17 = nI (d + 1)) (h13 : ν 13 d = nI c) (h14 : ν 14 d = nI 1) (hf : ν 3 c = nI f) (hv : v ≤ 102) (h21 : ν 0 21 = nI v) (h29 : ν 0 29 = nI 0) (h12 : ν 12 c = nI j) (hw : zf_M_isDone (nI v) ν = some ((), ν1)) : zf_M_goesOn ν = some ((), ν1) := by
  by_cases e1 : v = 101
  · subst e1
    simp (disch := omega) only [zf_M_goesOn, zf_M_goesOn_b70, h17, h13, h14, zf_M_hasFirst, zf_M_hasFirst_b41, zf_M_hasFirst_b208, hf, h29, h12, h21, hw, q_lit, q_sub, Nat.add_sub_cancel, q_upE, q_upN, q_upM, q_upO, q_bd, q_pf, q_nm, q_ald, q_ast, q_tld, q_lt0, q_lt, q_le, q_eq, q_m9, q_9m, q_neg9, q_add, q_mul, q_zr0, q_zr1, q_clamp, if_true, if_false, if_pos, if_neg]
  · by_cases e2 : v = 102
    · subst e2
      simp (disch := omega) only [zf_M_goesOn, zf_M_goesOn_b70, h17, h13, h14, zf_M_hasFirst, zf_M_hasFirst_b41, zf_M_hasFirst_b208, hf, h29, h12, h21, hw, q_lit, q_sub, Nat.add_sub_cancel, q_upE, q_upN, q_upM, q_upO, q_bd, q_pf, q_nm, q_ald, q_ast, q_tld, q_lt0, q_lt, q_le, q_eq, q_m9, q_9m, q_neg9, q_add, q_mul, q_zr0, q_zr1, q_clamp, if_true, if_false, if_pos, if_neg]
    · simp (disch := omega) only [zf_M_goesOn, zf_M_goesOn_b70, h17, h13, h14, zf_M_hasFirst, zf_M_hasFirst_b41, zf_M_hasFirst_b208, hf, h29, h12, h21, hw, q_lit, q_sub, Nat.add_sub_cancel, q_upE, q_upN, q_upM, q_upO, q_bd, q_pf, q_nm, q_ald, q_ast, q_tld, q_lt0, q_lt, q_le, q_eq, q_m9, q_9m, q_neg9, q_add, q_mul, q_zr0, q_zr1, q_clamp, if_true, if_false, if_pos, if_neg]
theorem g_hfBad (hc : c < 8) (hd : d < 8) (h17 : ν 0 17 = nI (d + 1)) (h13 : ν 13 d = nI c) (h14 : ν 14 d = nI 1) (hf : ν 3 c = nI f) (h21 : ν 0 21 = nI v) (hv : v = 101 ∨ v = 102) (hw : zf_M_isDone (nI v) ν = some ((), ν1)) : zf_M_goesOn ν = some ((), ν1) := by
  rcases hv with rfl | rfl <;> simp (disch := omega) only [zf_M_goesOn, zf_M_goesOn_b70, h17, h13, h14, zf_M_hasFirst, zf_M_hasFirst_b41, zf_M_hasFirst_b208, hf, h21, hw, q_lit, q_sub, Nat.add_sub_cancel, q_upE, q_upN, q_upM, q_upO, q_bd, q_pf, q_nm, q_ald, q_ast, q_tld, q_lt0, q_lt, q_le, q_eq, q_m9, q_9m, q_neg9, q_add, q_mul, q_zr0, q_zr1, q_clamp, if_true, if_false, if_pos, if_neg]
theorem g_hf0 (hc : c < 8) (hd : d < 8) (h17 : ν 0 17 = nI (d + 1)) (h13 : ν 13 d = nI c) (h14 : ν 14 d = nI 1) (hf : ν 3 c = nI f) (hn : r_nl c ν) (hv : v ≤ 100) (h21 : ν 0 21 = nI v) : zf_M_goesOn ν = nk_bd (zf_M_hasFirst_b52 (nI c) (nI f) ν) (fun _ m => some ((), m)) := by
  rcases hn with h29 | ⟨h29, h12⟩
  · simp (disch := omega) only [zf_M_goesOn, zf_M_goesOn_b70, h17, h13, h14, zf_M_hasFirst, hf, h29, h21, q_lit, q_sub, Nat.add_sub_cancel, q_upE, q_upN, q_upM, q_upO, q_bd, q_pf, q_nm, q_ald, q_ast, q_tld, q_lt0, q_lt, q_le, q_eq, q_m9, q_9m, q_neg9, q_add, q_mul, q_zr0, q_zr1, q_clamp, if_true, if_false, if_pos, if_neg]
  · simp (disch := omega) only [zf_M_goesOn, zf_M_goesOn_b70, h17, h13, h14, zf_M_hasFirst, hf, h29, h12, h21, q_lit, q_sub, Nat.add_sub_cancel, q_upE, q_upN, q_upM, q_upO, q_bd, q_pf, q_nm, q_ald, q_ast, q_tld, q_lt0, q_lt, q_le, q_eq, q_m9, q_9m, q_neg9, q_add, q_mul, q_zr0, q_zr1, q_clamp, if_true, if_false, if_pos, if_neg]
theorem g_hfWrong (hc : c < 8) (hd : d < 8) (h17 : ν 0 17 = nI (d + 1)) (h13 : ν 13 d = nI c) (h14 : ν 14 d = nI 1) (hf : ν 3 c = nI f) (hf6 : f ≤ 6) (hn : r_nl c ν) (hv : v ≤ 100) (h21 : ν 0 21 = nI v) (hx : (v = 100 ∧ f ≤ 4) ∨ (v < 100 ∧ 4 < f)) (hw : zf_M_isDone (nI 102) ν = some ((), ν1)) : zf_M_goesOn ν = some ((), ν1) := by
  rw [g_hf0 hc hd h17 h13 h14 hf hn hv h21]
  rcases hx with ⟨e1, e2⟩ | ⟨e1, e2⟩
  · simp (disch := omega) only [zf_M_hasFirst_b52, h21, zf_M_hasFirst_b66, zf_M_hasFirst_b76, zf_M_hasFirst_b208, hw, q_01, q_10, q_lit, q_sub, Nat.add_sub_cancel, q_upE, q_upN, q_upM, q_upO, q_bd, q_pf, q_nm, q_ald, q_ast, q_tld, q_lt0, q_lt, q_le, q_eq, q_m9, q_9m, q_neg9, q_add, q_mul, q_zr0, q_zr1, q_clamp, if_true, if_false, if_pos, if_neg]
  · simp (disch := omega) only [zf_M_hasFirst_b52, h21, zf_M_hasFirst_b66, zf_M_hasFirst_b76, zf_M_hasFirst_b208, hw, q_01, q_10, q_lit, q_sub, Nat.add_sub_cancel, q_upE, q_upN, q_upM, q_upO, q_bd, q_pf, q_nm, q_ald, q_ast, q_tld, q_lt0, q_lt, q_le, q_eq, q_m9, q_9m, q_neg9, q_add, q_mul, q_zr0, q_zr1, q_clamp, if_true, if_false, if_pos, if_neg]
theorem g_hf2 (hc : c < 8) (hd : d < 8) (h17 : ν 0 17 = nI (d + 1)) (h13 : ν 13 d = nI c) (h14 : ν 14 d = nI 1) (hf : ν 3 c = nI f) (h12 : f = 1 ∨ f = 2) (hn : r_nl c ν) (hv : v < 100) (h21 : ν 0 21 = nI v) (hp : ν 4 (3 * c + 1) = nI p1) (hw : zf_M_wants (nI p1) (nk_up (nk_up ν 15 d (nI v)) 14 d (nI 2)) = some ((), ν1)) : zf_M_goesOn ν = some ((), ν1) := by
  rw [g_hf0 hc hd h17 h13 h14 hf hn (by omega) h21]
  simp (disch := omega) only [zf_M_hasFirst_b52, h21, h17, zf_M_hasFirst_b66, zf_M_hasFirst_b76, zf_M_hasFirst_b208, hp, hw, q_01, q_10, q_lit, q_sub, Nat.add_sub_cancel, q_upE, q_upN, q_upM, q_upO, q_bd, q_pf, q_nm, q_ald, q_ast, q_tld, q_lt0, q_lt, q_le, q_eq, q_m9, q_9m, q_neg9, q_add, q_mul, q_zr0, q_zr1, q_clamp, if_true, if_false, if_pos, if_neg]
theorem g_hf3 (hc : c < 8) (hd : d < 8) (h17 : ν 0 17 = nI (d + 1)) (h13 : ν 13 d = nI c) (h14 : ν 14 d = nI 1) (hf : ν 3 c = nI 3) (hn : r_nl c ν) (hv : v < 100) (h21 : ν 0 21 = nI v) (hp : ν 4 (3 * c + (if v = 0 then 2 else 1)) = nI p1) (hw : zf_M_wants (nI p1) (nk_up ν 14 d (nI 3)) = some ((), ν1)) : zf_M_goesOn ν = some ((), ν1) := by
  rw [g_hf0 hc hd h17 h13 h14 hf hn (by omega) h21]
  by_cases e : v = 0
  · subst e
    simp only [if_true] at hp
    simp (disch := omega) only [zf_M_hasFirst_b52, h21, h17, zf_M_hasFirst_b66, zf_M_hasFirst_b76, zf_M_hasFirst_b205, zf_M_hasFirst_b208, hp, hw, q_01, q_10, q_lit, q_sub, Nat.add_sub_cancel, q_upE, q_upN, q_upM, q_upO, q_bd, q_pf, q_nm, q_ald, q_ast, q_tld, q_lt0, q_lt, q_le, q_eq, q_m9, q_9m, q_neg9, q_add, q_mul, q_zr0, q_zr1, q_clamp, if_true, if_false, if_pos, if_neg]
  · simp only [e, if_false] at hp
    simp (disch := omega) only [zf_M_hasFirst_b52, h21, h17, zf_M_hasFirst_b66, zf_M_hasFirst_b76, zf_M_hasFirst_b205, zf_M_hasFirst_b208, hp, hw, q_01, q_10, q_lit, q_sub, Nat.add_sub_cancel, q_upE, q_upN, q_upM, q_upO, q_bd, q_pf, q_nm, q_ald, q_ast, q_tld, q_lt0, q_lt, q_le, q_eq, q_m9, q_9m, q_neg9, q_add, q_mul, q_zr0, q_zr1, q_clamp, if_true, if_false, if_pos, if_neg]
theorem g_hf56 (hc : c < 8) (hd : d < 8) (h17 : ν 0 17 = nI (d + 1)) (h13 : ν 13 d = nI c) (h14 : ν 14 d = nI 1) (hf : ν 3 c = nI f) (h56 : f = 5 ∨ f = 6) (hn : r_nl c ν) (h21 : ν 0 21 = nI 100) (hp : (if f = 5 then ν 0 22 else ν 0 23) = nI j) (hw : zf_M_wants (nI j) (nk_up ν 14 d (nI 3)) = some ((), ν1)) : zf_M_goesOn ν = some ((), ν1) := by
  rw [g_hf0 hc hd h17 h13 h14 hf hn (by omega) h21]
  rcases h56 with rfl | rfl
  · simp only [if_true] at hp
    simp (disch := omega) only [zf_M_hasFirst_b52, h21, h17, zf_M_hasFirst_b66, zf_M_hasFirst_b76, zf_M_hasFirst_b205, zf_M_hasFirst_b208, hp, hw, q_01, q_10, q_lit, q_sub, Nat.add_sub_cancel, q_upE, q_upN, q_upM, q_upO, q_bd, q_pf, q_nm, q_ald, q_ast, q_tld, q_lt0, q_lt, q_le, q_eq, q_m9, q_9m, q_neg9, q_add, q_mul, q_zr0, q_zr1, q_clamp, if_true, if_false, if_pos, if_neg]
  · rw [if_neg (by decide)] at hp
    simp (disch := omega) only [zf_M_hasFirst_b52, h21, h17, zf_M_hasFirst_b66, zf_M_hasFirst_b76, zf_M_hasFirst_b205, zf_M_hasFirst_b208, hp, hw, q_01, q_10, q_lit, q_sub, Nat.add_sub_cancel, q_upE, q_upN, q_upM, q_upO, q_bd, q_pf, q_nm, q_ald, q_ast, q_tld, q_lt0, q_lt, q_le, q_eq, q_m9, q_9m, q_neg9, q_add, q_mul, q_zr0, q_zr1, q_clamp, if_true, if_false, if_pos, if_neg]
theorem g_hsBad (hc : c < 8) (hd : d < 8) (h17 : ν 0 17 = nI (d + 1)) (h13 : ν 13 d = nI c) (h14 : ν 14 d = nI 2) (hv : v ≤ 102) (h21 : ν 0 21 = nI v) (h1 : 100 ≤ v) (hw : zf_M_isDone (nI (q_wn v)) ν = some ((), ν1)) : zf_M_goesOn ν = some ((), ν1) := by
  by_cases e : v = 100
  · subst e
    simp only [q_wn, if_true] at hw
    simp (disch := omega) only [zf_M_goesOn, zf_M_goesOn_b70, h17, h13, h14, zf_M_hasSecond, zf_M_hasSecond_b28, zf_M_hasSecond_b81, h21, hw, q_lit, q_sub, Nat.add_sub_cancel, q_upE, q_upN, q_upM, q_upO, q_bd, q_pf, q_nm, q_ald, q_ast, q_tld, q_lt0, q_lt, q_le, q_eq, q_m9, q_9m, q_neg9, q_add, q_mul, q_zr0, q_zr1, q_clamp, if_true, if_false, if_pos, if_neg]
  · simp only [q_wn, e, if_false] at hw
    simp (disch := omega) only [zf_M_goesOn, zf_M_goesOn_b70, h17, h13, h14, zf_M_hasSecond, zf_M_hasSecond_b28, zf_M_hasSecond_b81, h21, hw, q_lit, q_sub, Nat.add_sub_cancel, q_upE, q_upN, q_upM, q_upO, q_bd, q_pf, q_nm, q_ald, q_ast, q_tld, q_lt0, q_lt, q_le, q_eq, q_m9, q_9m, q_neg9, q_add, q_mul, q_zr0, q_zr1, q_clamp, if_true, if_false, if_pos, if_neg]
theorem g_hs (hc : c < 8) (hd : d < 8) (h17 : ν 0 17 = nI (d + 1)) (h13 : ν 13 d = nI c) (h14 : ν 14 d = nI 2) (hf : ν 3 c = nI f) (h12 : f = 1 ∨ f = 2) (hv : v < 100) (h21 : ν 0 21 = nI v) (ho : one < 100) (h15 : ν 15 d = nI one) (hw : zf_M_isDone (nI ((if f = 1 then one + v else one * v) % 100)) ν = some ((), ν1)) : zf_M_goesOn ν = some ((), ν1) := by
  have e5 : one * v < 10000 := by
    have : one * v ≤ 99 * 99 := Nat.mul_le_mul (by omega) (by omega)
    omega
  rcases h12 with rfl | rfl
  · simp only [if_true] at hw
    simp (disch := omega) only [zf_M_goesOn, zf_M_goesOn_b70, h17, h13, h14, zf_M_hasSecond, zf_M_hasSecond_b78, zf_M_hasSecond_b81, h21, hf, h15, q_rem, hw, q_lit, q_sub, Nat.add_sub_cancel, q_upE, q_upN, q_upM, q_upO, q_bd, q_pf, q_nm, q_ald, q_ast, q_tld, q_lt0, q_lt, q_le, q_eq, q_m9, q_9m, q_neg9, q_add, q_mul, q_zr0, q_zr1, q_clamp, if_true, if_false, if_pos, if_neg]
  · rw [if_neg (by decide)] at hw
    simp (disch := omega) only [zf_M_goesOn, zf_M_goesOn_b70, h17, h13, h14, zf_M_hasSecond, zf_M_hasSecond_b78, zf_M_hasSecond_b81, h21, hf, h15, q_rem, hw, q_lit, q_sub, Nat.add_sub_cancel, q_upE, q_upN, q_upM, q_upO, q_bd, q_pf, q_nm, q_ald, q_ast, q_tld, q_lt0, q_lt, q_le, q_eq, q_m9, q_9m, q_neg9, q_add, q_mul, q_zr0, q_zr1, q_clamp, if_true, if_false, if_pos, if_neg]
theorem g_3 (hc : c < 8) (hd : d < 8) (h17 : ν 0 17 = nI (d + 1)) (h13 : ν 13 d = nI c) (h14 : ν 14 d = nI 3) (h21 : ν 0 21 = nI v) (hw : zf_M_isDone (nI v) ν = some ((), ν1)) : zf_M_goesOn ν = some ((), ν1) := by
  simp (disch := omega) only [zf_M_goesOn, zf_M_goesOn_b70, h17, h13, h14, h21, hw, q_lit, q_sub, Nat.add_sub_cancel, q_upE, q_upN, q_upM, q_upO, q_bd, q_pf, q_nm, q_ald, q_ast, q_tld, q_lt0, q_lt, q_le, q_eq, q_m9, q_9m, q_neg9, q_add, q_mul, q_zr0, q_zr1, q_clamp, if_true, if_false, if_pos, if_neg]
end RG

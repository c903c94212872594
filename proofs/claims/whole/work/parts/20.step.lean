/-! ===== 20: need: one step of class and reference, in plain terms ===== -/
/-- the class: c is worked from now on, as the d-th -/
def c_push (o B c d : Nat) (μ : nk_M) : nk_M :=
  let m2 := nk_up μ (B + 7) c (nI 1)
  let m3 := nk_up m2 o 11 (m2 o 11 + nI 1)
  let m4 := nk_up m3 o 12 (if m3 o 12 < nI d then nI d else m3 o 12)
  if μ (B + 6) c = -nI 9 then nk_up (nk_up m4 o 13 (m4 o 13 + q_cost (μ B c) (μ (B + 1) c))) o 10 (m4 o 10 + q_cost (μ B c) (μ (B + 1) c)) else m4
/-- the class: c is done with v -/
def c_done (o B c : Nat) (v : Int32) (μ : nk_M) : nk_M :=
  let m7 := nk_up μ (B + 7) c (nI 0)
  if m7 o 9 = nI 0 then m7 else
    let m1 := nk_up m7 (B + 4) c v
    if m1 o 14 < nI 8 then nk_up (nk_up m1 (B + 8) (m1 o 14).toNatClampNeg (nI c)) o 14 (m1 o 14 + nI 1) else m1
theorem c_payFor {o B c : Nat} (ho : o < B) {μ : nk_M} (h : c < 8) : zf_C_payFor o B (nI c) μ = some ((), if μ (B + 6) c = -nI 9 then nk_up (nk_up μ o 13 (μ o 13 + q_cost (μ B c) (μ (B + 1) c))) o 10 (μ o 10 + q_cost (μ B c) (μ (B + 1) c)) else μ) := by
  simp (disch := omega) only [zf_C_payFor, e_costOf, q_lit, q_sub, Nat.add_sub_cancel, q_upE, q_upN, q_upM, q_upO, q_bd, q_pf, q_nm, q_ald, q_ast, q_tld, q_lt0, q_lt, q_le, q_eq, q_m9, q_9m, q_neg9, q_add, q_mul, q_zr0, q_zr1, q_clamp, if_true, if_false, if_pos, if_neg]
  by_cases e : μ (B + 6) c = -nI 9
  · simp (disch := omega) only [e, q_lit, q_sub, Nat.add_sub_cancel, q_upE, q_upN, q_upM, q_upO, q_bd, q_pf, q_nm, q_ald, q_ast, q_tld, q_lt0, q_lt, q_le, q_eq, q_m9, q_9m, q_neg9, q_add, q_mul, q_zr0, q_zr1, q_clamp, if_true, if_false, if_pos, if_neg]
  · simp (disch := omega) only [e, q_lit, q_sub, Nat.add_sub_cancel, q_upE, q_upN, q_upM, q_upO, q_bd, q_pf, q_nm, q_ald, q_ast, q_tld, q_lt0, q_lt, q_le, q_eq, q_m9, q_9m, q_neg9, q_add, q_mul, q_zr0, q_zr1, q_clamp, if_true, if_false, if_pos, if_neg]
def c_end (o B c : Nat) (v : Int32) (μ6 : nk_M) : Option (Int32 × nk_M) := if (nk_up μ6 (B + 7) c (nI 0)) o 9 = nI 0 then some (v, nk_up μ6 (B + 7) c (nI 0)) else nk_bd (zf_C_keep o B (nI c) v (nk_up μ6 (B + 7) c (nI 0))) (fun _ m8 => some (v, m8))
theorem c_comeTo {o B c d : Nat} (ho : o < B) {rc : Int32 → Int32 → nk_M → Option (Int32 × nk_M)} {μ : nk_M} (h : c < 8) (hd : d ≤ 8) (h1 : μ (B + 4) c = -nI 9) (h2 : μ (B + 7) c = nI 0) :
    zf_C_comeTo o B rc (nI c) (nI d) μ = nk_bd (zf_C_workOut o B rc (nI c) (nI d) (c_push o B c d μ)) (c_end o B c) := by
  simp (disch := omega) only [zf_C_comeTo, e_isAwake, h1, h2, c_payFor ho, zf_C_comeTo_b94, q_lit, q_sub, Nat.add_sub_cancel, q_upE, q_upN, q_upM, q_upO, q_bd, q_pf, q_nm, q_ald, q_ast, q_tld, q_lt0, q_lt, q_le, q_eq, q_m9, q_9m, q_neg9, q_add, q_mul, q_zr0, q_zr1, q_clamp, if_true, if_false, if_pos, if_neg]
  unfold c_end c_push
  by_cases e : μ (B + 6) c = -nI 9
  · simp (disch := omega) only [e, q_lit, q_sub, Nat.add_sub_cancel, q_upE, q_upN, q_upM, q_upO, q_bd, q_pf, q_nm, q_ald, q_ast, q_tld, q_lt0, q_lt, q_le, q_eq, q_m9, q_9m, q_neg9, q_add, q_mul, q_zr0, q_zr1, q_clamp, if_true, if_false, if_pos, if_neg]
  · simp (disch := omega) only [e, q_lit, q_sub, Nat.add_sub_cancel, q_upE, q_upN, q_upM, q_upO, q_bd, q_pf, q_nm, q_ald, q_ast, q_tld, q_lt0, q_lt, q_le, q_eq, q_m9, q_9m, q_neg9, q_add, q_mul, q_zr0, q_zr1, q_clamp, if_true, if_false, if_pos, if_neg]
theorem c_endF {o B c : Nat} (ho : o < B) {v : Int32} {μ : nk_M} (h : c < 8) (h9 : μ o 9 = nI 0) : c_end o B c v μ = some (v, c_done o B c v μ) := by
  unfold c_done c_end
  simp (disch := omega) only [h9, q_lit, q_sub, Nat.add_sub_cancel, q_upE, q_upN, q_upM, q_upO, q_bd, q_pf, q_nm, q_ald, q_ast, q_tld, q_lt0, q_lt, q_le, q_eq, q_m9, q_9m, q_neg9, q_add, q_mul, q_zr0, q_zr1, q_clamp, if_true, if_false, if_pos, if_neg]
theorem c_endT {o B c q : Nat} (ho : o < B) {v : Int32} {μ : nk_M} (h : c < 8) (h9 : μ o 9 = nI 1) (hq : μ o 14 = nI q) (hq8 : q < 8) : c_end o B c v μ = some (v, c_done o B c v μ) := by
  unfold c_done c_end
  simp (disch := omega) only [h9, hq, zf_C_keep, q_lit, q_sub, Nat.add_sub_cancel, q_upE, q_upN, q_upM, q_upO, q_bd, q_pf, q_nm, q_ald, q_ast, q_tld, q_lt0, q_lt, q_le, q_eq, q_m9, q_9m, q_neg9, q_add, q_mul, q_zr0, q_zr1, q_clamp, if_true, if_false, if_pos, if_neg]
/-- the reference: is c being worked -/
theorem r_isOn {c d : Nat} {ν : nk_M} (hd : d ≤ 8) (h17 : ν 0 17 = nI d) (p : Nat → Bool) (hp : ∀ i, i < d → (ν 13 i = nI c ↔ p i = true)) : ∀ (n i : Nat) (b : Bool), i ≤ d → d - i < n → zf_M_isOn_b4 n (nI c) (if b then nI 1 else nI 0) (nI i) ν = some (if b || (List.range' i (d - i)).any p then nI 1 else nI 0, ν) := by
  intro n
  induction n with
  | zero => intro i b _ h; omega
  | succ n ih =>
    intro i b hi hn
    rw [zf_M_isOn_b4]
    by_cases e : d ≤ i
    · have : d - i = 0 := by omega
      simp (disch := omega) only [h17, zf_M_isOn_b26, zf_M_isOn_b31, this, q_lit, q_sub, Nat.add_sub_cancel, q_upE, q_upN, q_upM, q_upO, q_bd, q_pf, q_nm, q_ald, q_ast, q_tld, q_lt0, q_lt, q_le, q_eq, q_m9, q_9m, q_neg9, q_add, q_mul, q_zr0, q_zr1, q_clamp, if_true, if_false, if_pos, if_neg]
      cases b <;> rfl
    · have hx : List.range' i (d - i) = i :: List.range' (i + 1) (d - (i + 1)) := by
        rw [show d - i = (d - (i + 1)) + 1 by omega, List.range'_succ]
      rw [hx, List.any_cons]
      have ih1 := fun b => ih (i + 1) b (by omega) (by omega)
      simp (disch := omega) only [h17, zf_M_isOn_b26, zf_M_isOn_b31, q_lit, q_sub, Nat.add_sub_cancel, q_upE, q_upN, q_upM, q_upO, q_bd, q_pf, q_nm, q_ald, q_ast, q_tld, q_lt0, q_lt, q_le, q_eq, q_m9, q_9m, q_neg9, q_add, q_mul, q_zr0, q_zr1, q_clamp, if_true, if_false, if_pos, if_neg]
      cases b
      · have := hp i (by omega)
        by_cases e2 : ν 13 i = nI c
        · have e3 := this.mp e2
          have := ih1 true
          simp only [Bool.true_or, if_true] at this
          simp only [Bool.false_eq_true, e2, e3, if_true, if_false, Bool.true_or, Bool.false_or, Bool.or_true, this]
        · have e3 : p i = false := by
            cases hpi : p i
            · rfl
            · exact absurd (this.mpr hpi) e2
          have := ih1 false
          simp only [Bool.false_or, if_false, Bool.false_eq_true] at this
          simp only [Bool.false_eq_true, e2, e3, if_true, if_false, Bool.true_or, Bool.false_or, this]
      · have := ih1 true
        simp only [Bool.true_or, if_true] at this
        simp (disch := omega) only [this, Bool.true_or, q_lit, q_sub, Nat.add_sub_cancel, q_upE, q_upN, q_upM, q_upO, q_bd, q_pf, q_nm, q_ald, q_ast, q_tld, q_lt0, q_lt, q_le, q_eq, q_m9, q_9m, q_neg9, q_add, q_mul, q_zr0, q_zr1, q_clamp, if_true, if_false, if_pos, if_neg]
theorem r_cost {c : Nat} {ν : nk_M} (h : c < 8) (hk : ν 1 c = nI 0 ∨ ν 1 c = nI 1 ∨ ν 1 c = nI 2) : zf_M_cost (nI c) ν = some (q_cost (ν 1 c) (ν 2 c), ν) := by
  rcases hk with e | e | e <;> simp (disch := omega) only [zf_M_cost, e, q_cost, zf_M_cost_b47, q_lit, q_sub, Nat.add_sub_cancel, q_upE, q_upN, q_upM, q_upO, q_bd, q_pf, q_nm, q_ald, q_ast, q_tld, q_lt0, q_lt, q_le, q_eq, q_m9, q_9m, q_neg9, q_add, q_mul, q_zr0, q_zr1, q_clamp, if_true, if_false, if_pos, if_neg]

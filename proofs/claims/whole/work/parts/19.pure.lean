/-! ===== 19: plain facts: memories, small numbers ===== -/
theorem q_up (μ : nk_M) (k j : Nat) (v : Int32) (a b : Nat) : nk_up μ k j v a b = if a = k then (if b = j then v else μ a b) else μ a b := by
  unfold nk_up nk_upA upd
  by_cases h : a = k
  · subst h; simp
  · simp [h]
theorem q_upA (μ : nk_M) (k : Nat) (f : Nat → Int32) (a b : Nat) : nk_upA μ k f a b = if a = k then f b else μ a b := by
  unfold nk_upA
  by_cases h : a = k <;> simp [h]
theorem q_lit (n : Nat) : (OfNat.ofNat n : Int32) = nI n := rfl
theorem q_clamp {a : Nat} (h : a < 2147483648) : (nI a).toNatClampNeg = a := nI_clamp h
theorem q_lt {a b : Nat} (ha : a < 2147483648) (hb : b < 2147483648) : (nI a < nI b) ↔ a < b := nI_ltI ha hb
theorem q_le {a b : Nat} (ha : a < 2147483648) (hb : b < 2147483648) : (nI a ≤ nI b) ↔ a ≤ b := nI_leI ha hb
theorem q_eq {a b : Nat} (ha : a < 2147483648) (hb : b < 2147483648) : (nI a = nI b) ↔ a = b := nI_eq ha hb
theorem q_m9 {a : Nat} (ha : a < 2147483648) : (nI a = -nI 9) ↔ False := ⟨fun e => by
  have h1 : (nI a).toInt = (-nI 9).toInt := by rw [e]
  rw [nI_toInt ha] at h1
  rw [show (-nI 9).toInt = -9 by decide] at h1
  omega, fun h => h.elim⟩
theorem q_9m {a : Nat} (ha : a < 2147483648) : (-nI 9 = nI a) ↔ False := ⟨fun e => (q_m9 ha).mp e.symm, fun h => h.elim⟩
theorem q_neg9 : (-nI 9 < nI 0) ↔ True := ⟨fun _ => trivial, fun _ => by decide⟩
theorem q_lt0 {a : Nat} (ha : a < 2147483648) : (nI a < nI 0) ↔ False := ⟨fun h => by rw [q_lt ha (by omega)] at h; omega, fun h => h.elim⟩
theorem q_add (a b : Nat) : nI a + nI b = nI (a + b) := nI_add a b
theorem q_mul (a b : Nat) : nI a * nI b = nI (a * b) := pk_mul a b
theorem q_sub {a b : Nat} (h : b ≤ a) : nI a - nI b = nI (a - b) := pk_sub h
theorem q_ald {α : Type} {μ : nk_M} {k n a : Nat} {K : Int32 → Option (α × nk_M)} (h : a < n) (hn : n < 2147483648) : nk_ald μ k n (nI a) K = K (μ k a) := by
  have ha : a < 2147483648 := by omega
  unfold nk_ald
  have h0 : ¬ (nI a < 0 ∨ n ≤ (nI a).toNatClampNeg) := by
    rw [q_clamp ha, show (0 : Int32) = nI 0 from rfl, q_lt0 ha]
    rintro (h1 | h1)
    · exact h1
    · omega
  rw [if_neg h0, q_clamp ha]
theorem q_ast {α : Type} {μ : nk_M} {k n a : Nat} {x : Int32} {K : nk_M → Option (α × nk_M)} (h : a < n) (hn : n < 2147483648) : nk_ast μ k n (nI a) x K = K (nk_up μ k a x) := by
  have ha : a < 2147483648 := by omega
  unfold nk_ast
  have h0 : ¬ (nI a < 0 ∨ n ≤ (nI a).toNatClampNeg) := by
    rw [q_clamp ha, show (0 : Int32) = nI 0 from rfl, q_lt0 ha]
    rintro (h1 | h1)
    · exact h1
    · omega
  rw [if_neg h0, q_clamp ha]
theorem q_tld {α : Type} {n a : Nat} {f : Nat → Int32} {K : Int32 → Option (α × nk_M)} (h : a < n) (hn : n < 2147483648) : nk_tld n f (nI a) K = K (f a) := by
  have ha : a < 2147483648 := by omega
  unfold nk_tld
  have h0 : ¬ (nI a < 0 ∨ n ≤ (nI a).toNatClampNeg) := by
    rw [q_clamp ha, show (0 : Int32) = nI 0 from rfl, q_lt0 ha]
    rintro (h1 | h1)
    · exact h1
    · omega
  rw [if_neg h0, q_clamp ha]
theorem q_ard {α : Type} {n a : Nat} {K : Option (α × nk_M)} (h : a < n) (hn : n < 2147483648) : nk_ard n (nI a) K = K := by
  have ha : a < 2147483648 := by omega
  unfold nk_ard
  have h0 : ¬ (nI a < 0 ∨ n ≤ (nI a).toNatClampNeg) := by
    rw [q_clamp ha, show (0 : Int32) = nI 0 from rfl, q_lt0 ha]
    rintro (h1 | h1)
    · exact h1
    · omega
  rw [if_neg h0]
theorem q_pf {α : Type} {μ : nk_M} {k j : Nat} {v : Int32} {K : nk_M → Option (α × nk_M)} : nk_pf μ k j v K = K (nk_up μ k j v) := rfl
theorem q_nm {α β : Type} {x : β} {K : β → Option (α × nk_M)} : nk_nm x K = K x := rfl
theorem q_bd {α β : Type} {x : β} {μ : nk_M} {K : β → nk_M → Option (α × nk_M)} : nk_bd (some (x, μ)) K = K x μ := rfl
theorem q_zr0 {μ : nk_M} : nk_zr (nI 0) μ = some (nI 0, μ) := rfl
theorem q_zr1 {μ : nk_M} : nk_zr (nI 1) μ = some (nI 1, μ) := rfl
theorem q_upE {μ : nk_M} {k j : Nat} {v : Int32} : nk_up μ k j v k j = v := by rw [q_up]; simp
theorem q_upN {μ : nk_M} {k j a b : Nat} {v : Int32} (h : a ≠ k) : nk_up μ k j v a b = μ a b := by rw [q_up]; simp [h]
theorem q_upM {μ : nk_M} {k j a b : Nat} {v : Int32} (h : b ≠ j) : nk_up μ k j v a b = μ a b := by rw [q_up]; simp [h]
theorem q_upO {μ : nk_M} {k j a b : Nat} {v : Int32} (h : ¬ (a = k ∧ b = j)) : nk_up μ k j v a b = μ a b := by
  rw [q_up]
  by_cases e : a = k
  · have : b ≠ j := fun z => h ⟨e, z⟩
    simp [this]
  · simp [e]
/-- how many parts a form has -/
def q_np (f : Nat) : Nat := [1, 2, 2, 3, 2, 1, 1].getD f 1
theorem q_t2 {f : Nat} (h : f ≤ 6) : nk_t2 f = nI (q_np f) := by
  rcases (show f = 0 ∨ f = 1 ∨ f = 2 ∨ f = 3 ∨ f = 4 ∨ f = 5 ∨ f = 6 by omega) with rfl | rfl | rfl | rfl | rfl | rfl | rfl <;> rfl
theorem q_np3 (f : Nat) : q_np f ≤ 3 ∧ 1 ≤ q_np f := by
  by_cases h : f ≤ 6
  · rcases (show f = 0 ∨ f = 1 ∨ f = 2 ∨ f = 3 ∨ f = 4 ∨ f = 5 ∨ f = 6 by omega) with rfl | rfl | rfl | rfl | rfl | rfl | rfl <;> decide
  · have : q_np f = 1 := by
      unfold q_np
      rw [List.getD_eq_getElem?_getD, List.getElem?_eq_none (by simp; omega)]
      rfl
    omega
/-- counting -/
def q_cnt (p : Nat → Bool) : Nat → Nat
  | 0 => 0
  | n + 1 => q_cnt p n + (if p n then 1 else 0)
theorem q_cnt_le (p : Nat → Bool) : ∀ n, q_cnt p n ≤ n
  | 0 => Nat.le_refl _
  | n + 1 => by
    have := q_cnt_le p n
    unfold q_cnt
    split <;> omega
theorem q_cnt_congr {p p' : Nat → Bool} : ∀ {n : Nat}, (∀ c, c < n → p c = p' c) → q_cnt p n = q_cnt p' n
  | 0, _ => rfl
  | n + 1, h => by
    unfold q_cnt
    rw [q_cnt_congr (n := n) (fun c hc => h c (by omega)), h n (by omega)]
theorem q_cnt_set {p p' : Nat → Bool} {c : Nat} : ∀ {n : Nat}, c < n → p c = false → p' c = true → (∀ a, a < n → a ≠ c → p' a = p a) → q_cnt p' n = q_cnt p n + 1
  | 0, h, _, _, _ => absurd h (Nat.not_lt_zero _)
  | n + 1, h, h1, h2, h3 => by
    unfold q_cnt
    by_cases e : c = n
    · subst e
      rw [q_cnt_congr (p := p') (p' := p) (n := c) (fun a ha => h3 a (by omega) (by omega)), h1, h2]
      simp
    · rw [q_cnt_set (n := n) (by omega) h1 h2 (fun a ha hne => h3 a (by omega) hne), h3 n (by omega) (fun q => e q.symm)]
      omega
theorem q_cnt_pos {p : Nat → Bool} {c : Nat} : ∀ {n : Nat}, c < n → p c = true → 1 ≤ q_cnt p n
  | 0, h, _ => absurd h (Nat.not_lt_zero _)
  | n + 1, h, h1 => by
    unfold q_cnt
    by_cases e : c = n
    · subst e
      simp [h1]
    · have := q_cnt_pos (n := n) (by omega) h1
      omega
theorem q_cnt_lt {p : Nat → Bool} {c : Nat} : ∀ {n : Nat}, c < n → p c = false → q_cnt p n < n
  | 0, h, _ => absurd h (Nat.not_lt_zero _)
  | n + 1, h, h1 => by
    unfold q_cnt
    by_cases e : c = n
    · subst e
      have := q_cnt_le p c
      simp [h1]
      omega
    · have := q_cnt_lt (n := n) (by omega) h1
      split <;> omega
/-! leaves of Cells -/
theorem e_isAwake {o B c : Nat} {μ : nk_M} (h : c < 8) : zf_C_isAwake o B (nI c) μ = some (if μ (B + 4) c = -nI 9 then nI 0 else nI 1, μ) := by
  simp (disch := omega) only [zf_C_isAwake, zf_C_isAwake_b16, q_lit, q_sub, Nat.add_sub_cancel, q_upE, q_upN, q_upM, q_upO, q_bd, q_pf, q_nm, q_ald, q_ast, q_tld, q_lt0, q_lt, q_le, q_eq, q_m9, q_9m, q_neg9, q_add, q_mul, q_zr0, q_zr1, q_clamp, if_true, if_false, if_pos, if_neg]
  by_cases e : μ (B + 4) c = -nI 9 <;> simp only [e, if_true, if_false]
theorem e_formNow {o B c : Nat} {μ : nk_M} (h : c < 8) : zf_C_formNow o B (nI c) μ = some (if μ (B + 6) c = -nI 9 then μ (B + 2) c else nI 7, μ) := by
  simp (disch := omega) only [zf_C_formNow, zf_C_formNow_b22, q_lit, q_sub, Nat.add_sub_cancel, q_upE, q_upN, q_upM, q_upO, q_bd, q_pf, q_nm, q_ald, q_ast, q_tld, q_lt0, q_lt, q_le, q_eq, q_m9, q_9m, q_neg9, q_add, q_mul, q_zr0, q_zr1, q_clamp, if_true, if_false, if_pos, if_neg]
  by_cases e : μ (B + 6) c = -nI 9 <;> simp only [e, if_true, if_false]
theorem e_partAsTold {o B c k f : Nat} {μ : nk_M} (h : c < 8) (hf : μ (B + 2) c = nI f) (h6 : f ≤ 6) (hk : k < q_np f) : zf_C_partAsTold o B (nI c) (nI k) μ = some (μ (B + 3) (3 * c + k), μ) := by
  have := q_np3 f
  simp (disch := omega) only [zf_C_partAsTold, zf_C_partAsTold_b29, hf, q_t2, q_lit, q_sub, Nat.add_sub_cancel, q_upE, q_upN, q_upM, q_upO, q_bd, q_pf, q_nm, q_ald, q_ast, q_tld, q_lt0, q_lt, q_le, q_eq, q_m9, q_9m, q_neg9, q_add, q_mul, q_zr0, q_zr1, q_clamp, if_true, if_false, if_pos, if_neg]
  rw [show c * 3 + k = 3 * c + k by omega]
theorem e_partAsTold9 {o B c k f : Nat} {μ : nk_M} (h : c < 8) (hf : μ (B + 2) c = nI f) (h6 : f ≤ 6) (hk : ¬ k < q_np f) (hk2 : k < 8) : zf_C_partAsTold o B (nI c) (nI k) μ = some (-nI 9, μ) := by
  have := q_np3 f
  simp (disch := omega) only [zf_C_partAsTold, zf_C_partAsTold_b29, hf, q_t2, q_lit, q_sub, Nat.add_sub_cancel, q_upE, q_upN, q_upM, q_upO, q_bd, q_pf, q_nm, q_ald, q_ast, q_tld, q_lt0, q_lt, q_le, q_eq, q_m9, q_9m, q_neg9, q_add, q_mul, q_zr0, q_zr1, q_clamp, if_true, if_false, if_pos, if_neg]
/-- what a cell of a kind costs at a price -/
def q_cost (k p : Int32) : Int32 := if k = nI 1 then p + nI 1 else if k = nI 2 then nI 2 * p else p
theorem e_costOf {o B c : Nat} {μ : nk_M} (h : c < 8) : zf_C_costOf o B (nI c) μ = some (q_cost (μ B c) (μ (B + 1) c), μ) := by
  simp (disch := omega) only [zf_C_costOf, q_cost, q_lit, q_sub, Nat.add_sub_cancel, q_upE, q_upN, q_upM, q_upO, q_bd, q_pf, q_nm, q_ald, q_ast, q_tld, q_lt0, q_lt, q_le, q_eq, q_m9, q_9m, q_neg9, q_add, q_mul, q_zr0, q_zr1, q_clamp, if_true, if_false, if_pos, if_neg]
  split
  · rfl
  · split <;> rfl
theorem e_partOfPair {o B c p q : Nat} {μ : nk_M} (h : c < 8) (hp : p < 8) (hq : q < 8) (hpq : μ (B + 5) p = nI q) : zf_C_partOfPair o B (nI c) (nI p) μ = some (μ (B + 3) (3 * q + (if μ (B + 2) c = nI 5 then 0 else 1)), μ) := by
  simp (disch := omega) only [zf_C_partOfPair, zf_C_partOfPair_b27, hpq, q_lit, q_sub, Nat.add_sub_cancel, q_upE, q_upN, q_upM, q_upO, q_bd, q_pf, q_nm, q_ald, q_ast, q_tld, q_lt0, q_lt, q_le, q_eq, q_m9, q_9m, q_neg9, q_add, q_mul, q_zr0, q_zr1, q_clamp, if_true, if_false, if_pos, if_neg]
  split
  · rename_i h5
    rw [show q * 3 + 0 = 3 * q + 0 by omega]
  · rw [show q * 3 + 1 = 3 * q + 1 by omega]

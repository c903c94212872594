/-! ===== 31: counts, sleep, need ===== -/
theorem u_lit (n : Nat) : (OfNat.ofNat n : Int32) = nI n := id (Eq.refl _)
theorem u_pf {α : Type} {μ : nk_M} {k j : Nat} {v : Int32} {K : nk_M → Option (α × nk_M)} : nk_pf μ k j v K = K (nk_up μ k j v) := id (Eq.refl _)
theorem u_nm {α β : Type} {x : β} {K : β → Option (α × nk_M)} : nk_nm x K = K x := id (Eq.refl _)
theorem u_bd {α β : Type} {x : β} {μ : nk_M} {K : β → nk_M → Option (α × nk_M)} : nk_bd (some (x, μ)) K = K x μ := id (Eq.refl _)
theorem q_ext {μ μ' : nk_M} (h : ∀ a b, μ a b = μ' a b) : μ = μ' := funext fun a => funext fun b => h a b
/-- slots i .. n - 1 of cell k hold v -/
def q_fl (μ : nk_M) (k i n : Nat) (v : Int32) : nk_M := fun a b => if a = k ∧ i ≤ b ∧ b < n then v else μ a b
theorem q_flE {μ : nk_M} {k i n a b : Nat} {v : Int32} (h : a = k ∧ i ≤ b ∧ b < n) : q_fl μ k i n v a b = v := if_pos h
theorem q_flN {μ : nk_M} {k i n a b : Nat} {v : Int32} (h : ¬ (a = k ∧ i ≤ b ∧ b < n)) : q_fl μ k i n v a b = μ a b := if_neg h
theorem e_fill_b {k n : Nat} {v : Int32} (hn : n < 4000) : ∀ (f i : Nat) (μ : nk_M), i ≤ n → n - i < f → zf_J_fill_b5 k n f v (nI i) (nI n) μ = some ((), q_fl μ k i n v) := by
  intro f
  induction f with
  | zero => intro i μ _ h; omega
  | succ f ih =>
    intro i μ hi hf
    rw [zf_J_fill_b5]
    by_cases e : n ≤ i
    · simp (disch := omega) only [u_lit, q_sub, Nat.add_sub_cancel, q_upE, q_upN, q_upM, q_upO, u_bd, u_pf, u_nm, q_ald, q_ast, q_tld, q_lt0, q_lt, q_le, q_eq, q_m9, q_9m, q_neg9, q_add, q_mul, q_zr0, q_zr1, q_clamp, if_true, if_false, if_pos, if_neg]
      rw [show q_fl μ k i n v = μ from q_ext fun a b => by rw [q_flN (by omega)]]
    · have := ih (i + 1) (nk_up μ k i v) (by omega) (by omega)
      simp (disch := omega) only [this, u_lit, q_sub, Nat.add_sub_cancel, q_upE, q_upN, q_upM, q_upO, u_bd, u_pf, u_nm, q_ald, q_ast, q_tld, q_lt0, q_lt, q_le, q_eq, q_m9, q_9m, q_neg9, q_add, q_mul, q_zr0, q_zr1, q_clamp, if_true, if_false, if_pos, if_neg]
      congr 2
      apply q_ext
      intro a b
      by_cases e1 : a = k ∧ i ≤ b ∧ b < n
      · rw [q_flE e1]
        by_cases e2 : b = i
        · rw [q_flN (by omega), e2, e1.1, q_upE]
        · rw [q_flE (by omega)]
      · rw [q_flN e1, q_flN (by omega), q_upO (by omega)]
theorem e_fill {k n : Nat} {v : Int32} {μ : nk_M} (hn : n < 4000) : zf_J_fill k n v μ = some ((), q_fl μ k 0 n v) := by
  have := e_fill_b (k := k) (v := v) hn nk_fu 0 μ (by omega) (by show _ < 4096; omega)
  unfold zf_J_fill
  simp only [u_nm, u_lit, this]
/-- all cells of a Cells object are put to sleep -/
def q_slp (B : Nat) (μ : nk_M) : nk_M := q_fl (q_fl (q_fl μ (B + 4) 0 8 (-nI 9)) (B + 5) 0 8 (-nI 9)) (B + 6) 0 8 (-nI 9)
theorem e_putToSleep {o B : Nat} {μ : nk_M} : zf_C_putToSleep o B μ = some ((), q_slp B μ) := by
  unfold zf_C_putToSleep q_slp
  rw [e_fill (by omega), q_bd, e_fill (by omega), q_bd, e_fill (by omega), q_bd]
  rfl
theorem q_slp4 {B b : Nat} {μ : nk_M} (h : b < 8) : q_slp B μ (B + 4) b = -nI 9 := by unfold q_slp; rw [q_flN (by omega), q_flN (by omega), q_flE (by omega)]
theorem q_slp6 {B b : Nat} {μ : nk_M} (h : b < 8) : q_slp B μ (B + 6) b = -nI 9 := by unfold q_slp; rw [q_flE (by omega)]
theorem q_slpN {B a b : Nat} {μ : nk_M} (h : a ≠ B + 4 ∧ a ≠ B + 5 ∧ a ≠ B + 6) : q_slp B μ a b = μ a b := by unfold q_slp; rw [q_flN (by omega), q_flN (by omega), q_flN (by omega)]
def q_slpR (ν : nk_M) : nk_M := q_fl (q_fl ν 9 0 8 (-nI 9)) 12 0 8 (-nI 9)
theorem r_allAsleep_b : ∀ (f i : Nat) (ν : nk_M), i ≤ 8 → 8 - i < f → zf_M_allAsleep_b2 f (nI i) ν = some ((), q_fl (q_fl ν 9 i 8 (-nI 9)) 12 i 8 (-nI 9)) := by
  intro f
  induction f with
  | zero => intro i ν _ h; omega
  | succ f ih =>
    intro i ν hi hf
    rw [zf_M_allAsleep_b2]
    by_cases e : 8 ≤ i
    · simp (disch := omega) only [u_lit, q_sub, Nat.add_sub_cancel, q_upE, q_upN, q_upM, q_upO, u_bd, u_pf, u_nm, q_ald, q_ast, q_tld, q_lt0, q_lt, q_le, q_eq, q_m9, q_9m, q_neg9, q_add, q_mul, q_zr0, q_zr1, q_clamp, if_true, if_false, if_pos, if_neg]
      rw [show q_fl (q_fl ν 9 i 8 (-nI 9)) 12 i 8 (-nI 9) = ν from q_ext fun a b => by rw [q_flN (by omega), q_flN (by omega)]]
    · have := ih (i + 1) (nk_up (nk_up ν 9 i (-nI 9)) 12 i (-nI 9)) (by omega) (by omega)
      simp (disch := omega) only [this, u_lit, q_sub, Nat.add_sub_cancel, q_upE, q_upN, q_upM, q_upO, u_bd, u_pf, u_nm, q_ald, q_ast, q_tld, q_lt0, q_lt, q_le, q_eq, q_m9, q_9m, q_neg9, q_add, q_mul, q_zr0, q_zr1, q_clamp, if_true, if_false, if_pos, if_neg]
      congr 2
      apply q_ext
      intro a b
      by_cases e1 : a = 12 ∧ i ≤ b ∧ b < 8
      · rw [q_flE (i := i) e1]
        by_cases e2 : b = i
        · rw [q_flN (by omega), q_flN (by omega), e2, e1.1, q_upE]
        · rw [q_flE (by omega)]
      · rw [q_flN (i := i) e1, q_flN (i := i + 1) (by omega)]
        by_cases e3 : a = 9 ∧ i ≤ b ∧ b < 8
        · rw [q_flE (i := i) e3]
          by_cases e2 : b = i
          · rw [q_flN (by omega), q_upN (by omega), e2, e3.1, q_upE]
          · rw [q_flE (by omega)]
        · rw [q_flN (i := i) e3, q_flN (i := i + 1) (by omega), q_upO (by omega), q_upO (by omega)]
theorem r_allAsleep {ν : nk_M} : zf_M_allAsleep ν = some ((), q_slpR ν) := r_allAsleep_b nk_fu 0 ν (by omega) (by show _ < 4096; omega)
theorem q_slpR9 {b : Nat} {ν : nk_M} (h : b < 8) : q_slpR ν 9 b = -nI 9 := by unfold q_slpR; rw [q_flN (by omega), q_flE (by omega)]
theorem q_slpR12 {b : Nat} {ν : nk_M} (h : b < 8) : q_slpR ν 12 b = -nI 9 := by unfold q_slpR; rw [q_flE (by omega)]
theorem q_slpRN {a b : Nat} {ν : nk_M} (h : a ≠ 9 ∧ a ≠ 12) : q_slpR ν a b = ν a b := by unfold q_slpR; rw [q_flN (by omega), q_flN (by omega)]
/-- asleep on both sides -/
theorem k_dy_slp {o B N : Nat} {fm : Nat → Nat} {pt : Nat → Nat → Nat} {μ ν : nk_M} (ho : o < B) (hN : N ≤ 8) (h29 : ν 0 29 = nI 0) (h9 : μ o 9 = nI 1) (h7 : ∀ c, c < 8 → μ (B + 7) c = nI 0) : k_dy true o B N fm pt (q_slp B μ) (q_slpR ν) := by
  refine ⟨⟨by rw [q_slpRN (by omega)]; exact h29, by rw [q_slpN (by omega)]; exact h9⟩, fun c hc => ?_, fun c hc => ?_, fun c hc e => ?_, fun c hc => ?_⟩
  · rw [q_slp4 (by omega), q_slpR9 (by omega)]
    exact ⟨Or.inl rfl, fun _ => rfl, fun _ => rfl⟩
  · rw [q_slp6 (by omega), q_slpR12 (by omega)]
    exact ⟨Or.inl rfl, fun _ => rfl, fun _ => rfl⟩
  · rw [q_slp4 (by omega)] at e
    exact ((q_9m (by omega)).mp e).elim
  · rw [q_slpN (by omega)]; exact h7 c hc
theorem e_awake_b {o B N : Nat} {μ : nk_M} (hN : N ≤ 8) (h0 : μ o 0 = nI N) : ∀ (f i : Nat), i ≤ N → N - i < f → zf_C_howManyAwake_b4 o B f (nI (q_cnt (fun c => decide (μ (B + 4) c ≠ -nI 9)) i)) (nI i) μ = some (nI (q_cnt (fun c => decide (μ (B + 4) c ≠ -nI 9)) N), μ) := by
  intro f
  induction f with
  | zero => intro i _ h; omega
  | succ f ih =>
    intro i hi hf
    rw [zf_C_howManyAwake_b4]
    by_cases e : N ≤ i
    · have : i = N := by omega
      subst this
      simp (disch := omega) only [h0, u_lit, q_sub, Nat.add_sub_cancel, q_upE, q_upN, q_upM, q_upO, u_bd, u_pf, u_nm, q_ald, q_ast, q_tld, q_lt0, q_lt, q_le, q_eq, q_m9, q_9m, q_neg9, q_add, q_mul, q_zr0, q_zr1, q_clamp, if_true, if_false, if_pos, if_neg]
    · have := ih (i + 1) (by omega) (by omega)
      have hu : q_cnt (fun c => decide (μ (B + 4) c ≠ -nI 9)) (i + 1) = q_cnt (fun c => decide (μ (B + 4) c ≠ -nI 9)) i + (if decide (μ (B + 4) i ≠ -nI 9) then 1 else 0) := rfl
      by_cases e2 : μ (B + 4) i = -nI 9
      · rw [hu] at this
        simp only [e2, ne_eq, not_true, decide_false, Bool.false_eq_true, if_false, Nat.add_zero] at this
        simp (disch := omega) only [h0, e_isAwake, e2, zf_C_howManyAwake_b23, this, u_lit, q_sub, Nat.add_sub_cancel, q_upE, q_upN, q_upM, q_upO, u_bd, u_pf, u_nm, q_ald, q_ast, q_tld, q_lt0, q_lt, q_le, q_eq, q_m9, q_9m, q_neg9, q_add, q_mul, q_zr0, q_zr1, q_clamp, if_true, if_false, if_pos, if_neg]
      · rw [hu] at this
        simp only [e2, ne_eq, not_false_eq_true, decide_true, if_true] at this
        simp (disch := omega) only [h0, e_isAwake, e2, q_10, zf_C_howManyAwake_b23, this, u_lit, q_sub, Nat.add_sub_cancel, q_upE, q_upN, q_upM, q_upO, u_bd, u_pf, u_nm, q_ald, q_ast, q_tld, q_lt0, q_lt, q_le, q_eq, q_m9, q_9m, q_neg9, q_add, q_mul, q_zr0, q_zr1, q_clamp, if_true, if_false, if_pos, if_neg]
theorem e_awake {o B N : Nat} {μ : nk_M} (hN : N ≤ 8) (h0 : μ o 0 = nI N) : zf_C_howManyAwake o B μ = some (nI (q_cnt (fun c => decide (μ (B + 4) c ≠ -nI 9)) N), μ) := e_awake_b hN h0 nk_fu 0 (by omega) (by show _ < 4096; omega)
theorem e_links_b {o B N : Nat} {μ : nk_M} (hN : N ≤ 8) (h0 : μ o 0 = nI N) : ∀ (f i : Nat), i ≤ N → N - i < f → zf_C_howManyLinks_b4 o B f (nI (q_cnt (fun c => decide (μ (B + 6) c ≠ -nI 9)) i)) (nI i) μ = some (nI (q_cnt (fun c => decide (μ (B + 6) c ≠ -nI 9)) N), μ) := by
  intro f
  induction f with
  | zero => intro i _ h; omega
  | succ f ih =>
    intro i hi hf
    rw [zf_C_howManyLinks_b4]
    by_cases e : N ≤ i
    · have : i = N := by omega
      subst this
      simp (disch := omega) only [h0, u_lit, q_sub, Nat.add_sub_cancel, q_upE, q_upN, q_upM, q_upO, u_bd, u_pf, u_nm, q_ald, q_ast, q_tld, q_lt0, q_lt, q_le, q_eq, q_m9, q_9m, q_neg9, q_add, q_mul, q_zr0, q_zr1, q_clamp, if_true, if_false, if_pos, if_neg]
    · have := ih (i + 1) (by omega) (by omega)
      have hu : q_cnt (fun c => decide (μ (B + 6) c ≠ -nI 9)) (i + 1) = q_cnt (fun c => decide (μ (B + 6) c ≠ -nI 9)) i + (if decide (μ (B + 6) i ≠ -nI 9) then 1 else 0) := rfl
      by_cases e2 : μ (B + 6) i = -nI 9
      · rw [hu] at this
        simp only [e2, ne_eq, not_true, decide_false, Bool.false_eq_true, if_false, Nat.add_zero] at this
        simp (disch := omega) only [h0, e2, zf_C_howManyLinks_b26, this, u_lit, q_sub, Nat.add_sub_cancel, q_upE, q_upN, q_upM, q_upO, u_bd, u_pf, u_nm, q_ald, q_ast, q_tld, q_lt0, q_lt, q_le, q_eq, q_m9, q_9m, q_neg9, q_add, q_mul, q_zr0, q_zr1, q_clamp, if_true, if_false, if_pos, if_neg]
      · rw [hu] at this
        simp only [e2, ne_eq, not_false_eq_true, decide_true, if_true] at this
        simp (disch := omega) only [h0, e2, zf_C_howManyLinks_b26, this, u_lit, q_sub, Nat.add_sub_cancel, q_upE, q_upN, q_upM, q_upO, u_bd, u_pf, u_nm, q_ald, q_ast, q_tld, q_lt0, q_lt, q_le, q_eq, q_m9, q_9m, q_neg9, q_add, q_mul, q_zr0, q_zr1, q_clamp, if_true, if_false, if_pos, if_neg]
theorem e_links {o B N : Nat} {μ : nk_M} (hN : N ≤ 8) (h0 : μ o 0 = nI N) : zf_C_howManyLinks o B μ = some (nI (q_cnt (fun c => decide (μ (B + 6) c ≠ -nI 9)) N), μ) := e_links_b hN h0 nk_fu 0 (by omega) (by show _ < 4096; omega)
theorem r_awake_b {N : Nat} {ν : nk_M} {p : Nat → Bool} (hN : N ≤ 8) (h0 : ν 0 1 = nI N) (hp : ∀ c, c < N → (ν 9 c < nI 0 ↔ p c = false)) : ∀ (f i : Nat), i ≤ N → N - i < f → zf_M_awakeOnes_b4 f (nI (q_cnt p i)) (nI i) ν = some (nI (q_cnt p N), ν) := by
  intro f
  induction f with
  | zero => intro i _ h; omega
  | succ f ih =>
    intro i hi hf
    rw [zf_M_awakeOnes_b4]
    by_cases e : N ≤ i
    · have : i = N := by omega
      subst this
      simp (disch := omega) only [h0, u_lit, q_sub, Nat.add_sub_cancel, q_upE, q_upN, q_upM, q_upO, u_bd, u_pf, u_nm, q_ald, q_ast, q_tld, q_lt0, q_lt, q_le, q_eq, q_m9, q_9m, q_neg9, q_add, q_mul, q_zr0, q_zr1, q_clamp, if_true, if_false, if_pos, if_neg]
    · have := ih (i + 1) (by omega) (by omega)
      have hu : q_cnt p (i + 1) = q_cnt p i + (if p i then 1 else 0) := rfl
      cases e2 : p i
      · have e3 := (hp i (by omega)).mpr e2
        rw [hu] at this
        simp only [e2, Bool.false_eq_true, if_false] at this
        simp (disch := omega) only [h0, e3, zf_M_awakeOnes_b27, this, u_lit, q_sub, Nat.add_sub_cancel, q_upE, q_upN, q_upM, q_upO, u_bd, u_pf, u_nm, q_ald, q_ast, q_tld, q_lt0, q_lt, q_le, q_eq, q_m9, q_9m, q_neg9, q_add, q_mul, q_zr0, q_zr1, q_clamp, if_true, if_false, if_pos, if_neg]
      · have e3 : ¬ ν 9 i < nI 0 := fun z => by have := (hp i (by omega)).mp z; rw [e2] at this; cases this
        rw [hu] at this
        simp only [e2, if_true] at this
        simp (disch := omega) only [h0, e3, zf_M_awakeOnes_b27, this, u_lit, q_sub, Nat.add_sub_cancel, q_upE, q_upN, q_upM, q_upO, u_bd, u_pf, u_nm, q_ald, q_ast, q_tld, q_lt0, q_lt, q_le, q_eq, q_m9, q_9m, q_neg9, q_add, q_mul, q_zr0, q_zr1, q_clamp, if_true, if_false, if_pos, if_neg]
theorem r_links_b {N : Nat} {ν : nk_M} {p : Nat → Bool} (hN : N ≤ 8) (h0 : ν 0 1 = nI N) (hp : ∀ c, c < N → (ν 12 c < nI 0 ↔ p c = false)) : ∀ (f i : Nat), i ≤ N → N - i < f → zf_M_links_b4 f (nI (q_cnt p i)) (nI i) ν = some (nI (q_cnt p N), ν) := by
  intro f
  induction f with
  | zero => intro i _ h; omega
  | succ f ih =>
    intro i hi hf
    rw [zf_M_links_b4]
    by_cases e : N ≤ i
    · have : i = N := by omega
      subst this
      simp (disch := omega) only [h0, u_lit, q_sub, Nat.add_sub_cancel, q_upE, q_upN, q_upM, q_upO, u_bd, u_pf, u_nm, q_ald, q_ast, q_tld, q_lt0, q_lt, q_le, q_eq, q_m9, q_9m, q_neg9, q_add, q_mul, q_zr0, q_zr1, q_clamp, if_true, if_false, if_pos, if_neg]
    · have := ih (i + 1) (by omega) (by omega)
      have hu : q_cnt p (i + 1) = q_cnt p i + (if p i then 1 else 0) := rfl
      cases e2 : p i
      · have e3 := (hp i (by omega)).mpr e2
        rw [hu] at this
        simp only [e2, Bool.false_eq_true, if_false] at this
        simp (disch := omega) only [h0, e3, zf_M_links_b27, this, u_lit, q_sub, Nat.add_sub_cancel, q_upE, q_upN, q_upM, q_upO, u_bd, u_pf, u_nm, q_ald, q_ast, q_tld, q_lt0, q_lt, q_le, q_eq, q_m9, q_9m, q_neg9, q_add, q_mul, q_zr0, q_zr1, q_clamp, if_true, if_false, if_pos, if_neg]
      · have e3 : ¬ ν 12 i < nI 0 := fun z => by have := (hp i (by omega)).mp z; rw [e2] at this; cases this
        rw [hu] at this
        simp only [e2, if_true] at this
        simp (disch := omega) only [h0, e3, zf_M_links_b27, this, u_lit, q_sub, Nat.add_sub_cancel, q_upE, q_upN, q_upM, q_upO, u_bd, u_pf, u_nm, q_ald, q_ast, q_tld, q_lt0, q_lt, q_le, q_eq, q_m9, q_9m, q_neg9, q_add, q_mul, q_zr0, q_zr1, q_clamp, if_true, if_false, if_pos, if_neg]
/-- how many are awake, how many are links: the same on both sides -/
theorem k_counts {o B N : Nat} {fm : Nat → Nat} {pt : Nat → Nat → Nat} {μ ν : nk_M} (hs : j_st o B N fm pt μ ν) (hd : k_dy true o B N fm pt μ ν) : (∃ a, a ≤ 8 ∧ zf_C_howManyAwake o B μ = some (nI a, μ) ∧ zf_M_awakeOnes ν = some (nI a, ν)) ∧ ∃ a, a ≤ 8 ∧ zf_C_howManyLinks o B μ = some (nI a, μ) ∧ zf_M_links ν = some (nI a, ν) := by
  obtain ⟨h1, h2, h3, -⟩ := hs
  obtain ⟨-, a2, a3, -⟩ := hd
  refine ⟨⟨_, ?_, e_awake h1 h2, r_awake_b h1 h3 (fun c hc => ?_) nk_fu 0 (by omega) (by show _ < 4096; omega)⟩, ⟨_, ?_, e_links h1 h2, r_links_b h1 h3 (fun c hc => ?_) nk_fu 0 (by omega) (by show _ < 4096; omega)⟩⟩
  · exact Nat.le_trans (q_cnt_le _ _) h1
  · obtain ⟨x1, x2, -⟩ := a2 c hc
    rw [x2 rfl]
    rcases x1 with e | ⟨v, hv, e⟩
    · rw [e]; simp [q_neg9]
    · rw [e]
      have := (q_m9 (a := v) (by omega))
      have h4 := (q_lt0 (a := v) (by omega))
      simp [this, h4]
  · exact Nat.le_trans (q_cnt_le _ _) h1
  · obtain ⟨x1, x2, -⟩ := a3 c hc
    rw [x2 rfl]
    rcases x1 with e | ⟨v, hv, e⟩
    · rw [e]; simp [q_neg9]
    · rw [e]
      have := (q_m9 (a := v) (by omega))
      have h4 := (q_lt0 (a := v) (by omega))
      simp [this, h4]
section PM
variable {μ ν : nk_M}
theorem p_many (a : Int32) (h : RR μ ν) : p_ok (zf_N_many a μ) (zf_M_many a ν) := by
  obtain ⟨N, fm, pt, hA, hL, hT, ⟨r, r1, r2, r3, r4⟩, hS, hF⟩ := id h
  obtain ⟨⟨x, -, x1, x2⟩, y, -, y1, y2⟩ := k_counts hA.1 hA.2.1
  by_cases e0 : a = nI 0
  · subst e0
    exact ⟨nI N, μ, ν, by simp (disch := omega) only [zf_N_many, hA.1.2.1, u_lit, q_sub, Nat.add_sub_cancel, q_upE, q_upN, q_upM, q_upO, u_bd, u_pf, u_nm, q_ald, q_ast, q_tld, q_lt0, q_lt, q_le, q_eq, q_m9, q_9m, q_neg9, q_add, q_mul, q_zr0, q_zr1, q_clamp, if_true, if_false, if_pos, if_neg], by simp (disch := omega) only [zf_M_many, hA.1.2.2.1, u_lit, q_sub, Nat.add_sub_cancel, q_upE, q_upN, q_upM, q_upO, u_bd, u_pf, u_nm, q_ald, q_ast, q_tld, q_lt0, q_lt, q_le, q_eq, q_m9, q_9m, q_neg9, q_add, q_mul, q_zr0, q_zr1, q_clamp, if_true, if_false, if_pos, if_neg], h⟩
  · by_cases e1 : a = nI 1
    · subst e1
      exact ⟨nI x, μ, ν, by simp (disch := omega) only [zf_N_many, x1, q_bdS, u_lit, q_sub, Nat.add_sub_cancel, q_upE, q_upN, q_upM, q_upO, u_bd, u_pf, u_nm, q_ald, q_ast, q_tld, q_lt0, q_lt, q_le, q_eq, q_m9, q_9m, q_neg9, q_add, q_mul, q_zr0, q_zr1, q_clamp, if_true, if_false, if_pos, if_neg], by simp (disch := omega) only [zf_M_many, x2, q_bdS, u_lit, q_sub, Nat.add_sub_cancel, q_upE, q_upN, q_upM, q_upO, u_bd, u_pf, u_nm, q_ald, q_ast, q_tld, q_lt0, q_lt, q_le, q_eq, q_m9, q_9m, q_neg9, q_add, q_mul, q_zr0, q_zr1, q_clamp, if_true, if_false, if_pos, if_neg], h⟩
    · by_cases e2 : a = nI 2
      · subst e2
        exact ⟨nI y, μ, ν, by simp (disch := omega) only [zf_N_many, y1, q_bdS, u_lit, q_sub, Nat.add_sub_cancel, q_upE, q_upN, q_upM, q_upO, u_bd, u_pf, u_nm, q_ald, q_ast, q_tld, q_lt0, q_lt, q_le, q_eq, q_m9, q_9m, q_neg9, q_add, q_mul, q_zr0, q_zr1, q_clamp, if_true, if_false, if_pos, if_neg], by simp (disch := omega) only [zf_M_many, y2, q_bdS, u_lit, q_sub, Nat.add_sub_cancel, q_upE, q_upN, q_upM, q_upO, u_bd, u_pf, u_nm, q_ald, q_ast, q_tld, q_lt0, q_lt, q_le, q_eq, q_m9, q_9m, q_neg9, q_add, q_mul, q_zr0, q_zr1, q_clamp, if_true, if_false, if_pos, if_neg], h⟩
      · by_cases e3 : a = nI 3
        · subst e3
          exact ⟨nI r, μ, ν, by simp (disch := omega) only [zf_N_many, r2, u_lit, q_sub, Nat.add_sub_cancel, q_upE, q_upN, q_upM, q_upO, u_bd, u_pf, u_nm, q_ald, q_ast, q_tld, q_lt0, q_lt, q_le, q_eq, q_m9, q_9m, q_neg9, q_add, q_mul, q_zr0, q_zr1, q_clamp, if_true, if_false, if_pos, if_neg], by simp (disch := omega) only [zf_M_many, r3, u_lit, q_sub, Nat.add_sub_cancel, q_upE, q_upN, q_upM, q_upO, u_bd, u_pf, u_nm, q_ald, q_ast, q_tld, q_lt0, q_lt, q_le, q_eq, q_m9, q_9m, q_neg9, q_add, q_mul, q_zr0, q_zr1, q_clamp, if_true, if_false, if_pos, if_neg], h⟩
        · exact ⟨-nI 2, μ, ν, by simp (disch := omega) only [zf_N_many, e0, e1, e2, e3, u_lit, q_sub, Nat.add_sub_cancel, q_upE, q_upN, q_upM, q_upO, u_bd, u_pf, u_nm, q_ald, q_ast, q_tld, q_lt0, q_lt, q_le, q_eq, q_m9, q_9m, q_neg9, q_add, q_mul, q_zr0, q_zr1, q_clamp, if_true, if_false, if_pos, if_neg], by simp (disch := omega) only [zf_M_many, e0, e1, e2, e3, u_lit, q_sub, Nat.add_sub_cancel, q_upE, q_upN, q_upM, q_upO, u_bd, u_pf, u_nm, q_ald, q_ast, q_tld, q_lt0, q_lt, q_le, q_eq, q_m9, q_9m, q_neg9, q_add, q_mul, q_zr0, q_zr1, q_clamp, if_true, if_false, if_pos, if_neg], h⟩
theorem p_sleep (h : RR μ ν) : p_ok (zf_N_sleep μ) (zf_M_sleep ν) := by
  obtain ⟨N, fm, pt, hA, hL, hT, hD, hS, hF⟩ := id h
  obtain ⟨⟨x, -, x1, x2⟩, -⟩ := k_counts hA.1 hA.2.1
  refine ⟨nI x, q_slp 6 μ, q_slpR ν, by simp (disch := omega) only [zf_N_sleep, x1, e_putToSleep, u_lit, q_sub, Nat.add_sub_cancel, q_upE, q_upN, q_upM, q_upO, u_bd, u_pf, u_nm, q_ald, q_ast, q_tld, q_lt0, q_lt, q_le, q_eq, q_m9, q_9m, q_neg9, q_add, q_mul, q_zr0, q_zr1, q_clamp, if_true, if_false, if_pos, if_neg], by simp (disch := omega) only [zf_M_sleep, x2, r_allAsleep, u_lit, q_sub, Nat.add_sub_cancel, q_upE, q_upN, q_upM, q_upO, u_bd, u_pf, u_nm, q_ald, q_ast, q_tld, q_lt0, q_lt, q_le, q_eq, q_m9, q_9m, q_neg9, q_add, q_mul, q_zr0, q_zr1, q_clamp, if_true, if_false, if_pos, if_neg], N, fm, pt, ⟨j_st_c hA.1 (fun k j h => q_slpN (by omega)) (fun k j h => q_slpRN (by omega)), k_dy_slp (by omega) hA.1.1 hA.2.1.1.1 hA.2.1.1.2 hA.2.1.2.2.2.2, fun c hc => by rw [q_slpN (by omega)]; exact hA.2.2 c hc⟩, R_L_c hL (fun k j h => q_slpN (by omega)) (fun k j h => q_slpRN (by omega)), R_T_c hT (fun k j h => q_slpN (by omega)), R_D_c hD (fun k j h => q_slpN (by omega)) (fun k j h => q_slpRN (by omega)), R_S_c hS (fun k j h => q_slpN (by omega)) (fun k j h => q_slpRN (by omega)), R_F_c hF (fun j h => q_slpN (by omega)) (fun j h => q_slpRN (by omega))⟩
/-- the reference keeps what was done -/
theorem r_need_b {q : Nat} {x : Int32} (hq : q ≤ 8) : ∀ (f i : Nat) (ν : nk_M), ν 0 27 = nI q → i ≤ q → q - i < f → ∃ ν', zf_M_need_b55 f x (nI i) ν = some (x, ν') ∧ (∀ a b, a ≠ 17 → ν' a b = ν a b) ∧ (∀ b, b < i → ν' 17 b = ν 17 b) ∧ ∀ b, i ≤ b → b < q → ν' 17 b = ν 16 b := by
  intro f
  induction f with
  | zero => intro i ν _ _ h; omega
  | succ f ih =>
    intro i ν h27 hi hf
    rw [zf_M_need_b55]
    by_cases e : q ≤ i
    · refine ⟨ν, by simp (disch := omega) only [h27, u_lit, q_sub, Nat.add_sub_cancel, q_upE, q_upN, q_upM, q_upO, u_bd, u_pf, u_nm, q_ald, q_ast, q_tld, q_lt0, q_lt, q_le, q_eq, q_m9, q_9m, q_neg9, q_add, q_mul, q_zr0, q_zr1, q_clamp, if_true, if_false, if_pos, if_neg], fun _ _ _ => rfl, fun _ _ => rfl, fun b h1 h2 => by omega⟩
    · obtain ⟨ν', e1, e2, e3, e4⟩ := ih (i + 1) (nk_up ν 17 i (ν 16 i)) (by simp (disch := omega) only [u_lit, q_sub, Nat.add_sub_cancel, q_upE, q_upN, q_upM, q_upO, u_bd, u_pf, u_nm, q_ald, q_ast, q_tld, q_lt0, q_lt, q_le, q_eq, q_m9, q_9m, q_neg9, q_add, q_mul, q_zr0, q_zr1, q_clamp, if_true, if_false, if_pos, if_neg]; exact h27) (by omega) (by omega)
      refine ⟨ν', by simp (disch := omega) only [h27, e1, u_lit, q_sub, Nat.add_sub_cancel, q_upE, q_upN, q_upM, q_upO, u_bd, u_pf, u_nm, q_ald, q_ast, q_tld, q_lt0, q_lt, q_le, q_eq, q_m9, q_9m, q_neg9, q_add, q_mul, q_zr0, q_zr1, q_clamp, if_true, if_false, if_pos, if_neg], fun a b ha => by rw [e2 a b ha, q_upN ha], fun b hb => by rw [e3 b (by omega), q_upM (by omega)], fun b h1 h2 => ?_⟩
      by_cases eb : b = i
      · subst eb; rw [e3 b (by omega), q_upE]
      · rw [e4 b (by omega) h2, q_upN (by omega)]
theorem p_need (a : Int32) (h : RR μ ν) : p_ok (zf_N_need a μ) (zf_M_need a ν) := by
  obtain ⟨N, fm, pt, hA, hL, hT, hD, hS, hF⟩ := id h
  obtain ⟨s1, s2, s3, s4⟩ := id hA.1
  rcases pk_ix a (n := N) (by omega) with e | e | ⟨c, hc, rfl⟩
  · obtain ⟨g1, g2⟩ := hn_out (o := 1) (B := 6) (x := a) s1 s2 s3 (Or.inl e)
    exact ⟨-nI 1, μ, ν, by simp (disch := omega) only [zf_N_need, g1, zf_N_need_b23, u_lit, q_sub, Nat.add_sub_cancel, q_upE, q_upN, q_upM, q_upO, u_bd, u_pf, u_nm, q_ald, q_ast, q_tld, q_lt0, q_lt, q_le, q_eq, q_m9, q_9m, q_neg9, q_add, q_mul, q_zr0, q_zr1, q_clamp, if_true, if_false, if_pos, if_neg], by simp (disch := omega) only [zf_M_need, g2, q_10, u_lit, q_sub, Nat.add_sub_cancel, q_upE, q_upN, q_upM, q_upO, u_bd, u_pf, u_nm, q_ald, q_ast, q_tld, q_lt0, q_lt, q_le, q_eq, q_m9, q_9m, q_neg9, q_add, q_mul, q_zr0, q_zr1, q_clamp, if_true, if_false, if_pos, if_neg], h⟩
  · obtain ⟨g1, g2⟩ := hn_out (o := 1) (B := 6) (x := a) s1 s2 s3 (Or.inr e)
    exact ⟨-nI 1, μ, ν, by simp (disch := omega) only [zf_N_need, g1, zf_N_need_b23, u_lit, q_sub, Nat.add_sub_cancel, q_upE, q_upN, q_upM, q_upO, u_bd, u_pf, u_nm, q_ald, q_ast, q_tld, q_lt0, q_lt, q_le, q_eq, q_m9, q_9m, q_neg9, q_add, q_mul, q_zr0, q_zr1, q_clamp, if_true, if_false, if_pos, if_neg], by simp (disch := omega) only [zf_M_need, g2, q_10, u_lit, q_sub, Nat.add_sub_cancel, q_upE, q_upN, q_upM, q_upO, u_bd, u_pf, u_nm, q_ald, q_ast, q_tld, q_lt0, q_lt, q_le, q_eq, q_m9, q_9m, q_neg9, q_add, q_mul, q_zr0, q_zr1, q_clamp, if_true, if_false, if_pos, if_neg], h⟩
  · obtain ⟨g1, g2⟩ := hn_in (o := 1) (B := 6) s1 s2 s3 hc
    obtain ⟨v, x, μ', ν1, hv, n1, n2, n3, n4, -, n6, n7, -, -⟩ := k_need (by omega) hA.1 hA.2.1 hc
    obtain ⟨rfl, t2, t3, t4, t5, t6, q, hq, t7, t8, t9, t10⟩ := n7 rfl
    have hm : ∀ k j, (k = 0 → j ≠ 16 ∧ j ≠ 31 ∧ j ≠ 32 ∧ j ≠ 33) → (nk_up (nk_up (nk_up (nk_up ν1 0 16 (ν1 0 16 + ν1 0 26)) 0 31 (ν1 0 24)) 0 32 (ν1 0 25)) 0 33 (ν1 0 26)) k j = ν1 k j := fun k j h => by
      by_cases e : k = 0
      · have := h e
        rw [q_upM (by omega), q_upM (by omega), q_upM (by omega), q_upM (by omega)]
      · rw [q_upN e, q_upN e, q_upN e, q_upN e]
    obtain ⟨ν', e1, e2, e3, e4⟩ := r_need_b (q := q) (x := nI v) hq nk_fu 0 (nk_up (nk_up (nk_up (nk_up ν1 0 16 (ν1 0 16 + ν1 0 26)) 0 31 (ν1 0 24)) 0 32 (ν1 0 25)) 0 33 (ν1 0 26)) (by rw [hm 0 27 (by omega)]; exact t9) (by omega) (by show _ < 4096; omega)
    have hR : ∀ k j, k ≠ 17 → (k = 0 → j ≠ 16 ∧ j ≠ 31 ∧ j ≠ 32 ∧ j ≠ 33) → ν' k j = ν1 k j := fun k j h1 h2 => by rw [e2 k j h1]; exact hm k j h2
    have hf : ∀ k j, k ≠ 9 → k ≠ 10 → k ≠ 11 → k ≠ 13 → k ≠ 14 → k ≠ 15 → k ≠ 16 → k ≠ 17 → (k = 0 → j ≠ 17 ∧ (j < 21 ∨ 27 < j) ∧ j ≠ 30 ∧ j ≠ 16 ∧ j ≠ 31 ∧ j ≠ 32 ∧ j ≠ 33) → ν' k j = ν k j := fun k j k1 k2 k3 k4 k5 k6 k7 k8 k9 => by
      rw [hR k j k8 (fun z => by have := k9 z; omega)]
      exact n4.1 k j k1 k2 k3 k4 k5 k6 k7 (fun z => by have := k9 z; omega)
    refine ⟨nI v, μ', ν', by simp (disch := omega) only [zf_N_need, g1, q_10, n1, zf_N_need_b23, u_lit, q_sub, Nat.add_sub_cancel, q_upE, q_upN, q_upM, q_upO, u_bd, u_pf, u_nm, q_ald, q_ast, q_tld, q_lt0, q_lt, q_le, q_eq, q_m9, q_9m, q_neg9, q_add, q_mul, q_zr0, q_zr1, q_clamp, if_true, if_false, if_pos, if_neg], ?_, N, fm, pt, ⟨j_st_c n6 (fun _ _ _ => rfl) (fun k j h => hR k j (by omega) (by omega)), k_dy_c t2 (fun _ _ _ => rfl) (fun k j h => hR k j (by omega) (by omega)), fun c' hc' => by rw [n3 7 c' (by omega) (by omega) (by omega) (by omega)]; exact hA.2.2 c' hc'⟩, ⟨?_, ?_, ?_, ?_, q, hq, t7, t8, fun i hi => ?_⟩, R_T_c hT (fun k j h => n3 k j (by omega) (by omega) (by omega) (by omega)), R_D_c hD (fun k j h => n3 k j (by omega) (by omega) (by omega) (by omega)) (fun k j h => hf k j (by omega) (by omega) (by omega) (by omega) (by omega) (by omega) (by omega) (by omega) (by omega)), R_S_c hS (fun k j h => n3 k j (by omega) (by omega) (by omega) (by omega)) (fun k j h => hf k j (by omega) (by omega) (by omega) (by omega) (by omega) (by omega) (by omega) (by omega) (by omega)), R_F_c hF (fun j h => n3 0 j (by omega) (by omega) (by omega) (by omega)) (fun j h => hf 0 j (by omega) (by omega) (by omega) (by omega) (by omega) (by omega) (by omega) (by omega) (by omega))⟩
    · simp (disch := omega) only [zf_M_need, g2, n2, e1, u_lit, q_sub, Nat.add_sub_cancel, q_upE, q_upN, q_upM, q_upO, u_bd, u_pf, u_nm, q_ald, q_ast, q_tld, q_lt0, q_lt, q_le, q_eq, q_m9, q_9m, q_neg9, q_add, q_mul, q_zr0, q_zr1, q_clamp, if_true, if_false, if_pos, if_neg]
    · rw [t3, e2 0 16 (by omega)]
      simp (disch := omega) only [u_lit, q_sub, Nat.add_sub_cancel, q_upE, q_upN, q_upM, q_upO, u_bd, u_pf, u_nm, q_ald, q_ast, q_tld, q_lt0, q_lt, q_le, q_eq, q_m9, q_9m, q_neg9, q_add, q_mul, q_zr0, q_zr1, q_clamp, if_true, if_false, if_pos, if_neg]
      rw [n4.1 0 16 (by omega) (by omega) (by omega) (by omega) (by omega) (by omega) (by omega) (by omega), ← hL.1, t6]
    · rw [e2 0 31 (by omega)]; simp (disch := omega) only [u_lit, q_sub, Nat.add_sub_cancel, q_upE, q_upN, q_upM, q_upO, u_bd, u_pf, u_nm, q_ald, q_ast, q_tld, q_lt0, q_lt, q_le, q_eq, q_m9, q_9m, q_neg9, q_add, q_mul, q_zr0, q_zr1, q_clamp, if_true, if_false, if_pos, if_neg]; exact t4.symm
    · rw [e2 0 32 (by omega)]; simp (disch := omega) only [u_lit, q_sub, Nat.add_sub_cancel, q_upE, q_upN, q_upM, q_upO, u_bd, u_pf, u_nm, q_ald, q_ast, q_tld, q_lt0, q_lt, q_le, q_eq, q_m9, q_9m, q_neg9, q_add, q_mul, q_zr0, q_zr1, q_clamp, if_true, if_false, if_pos, if_neg]; exact t5.symm
    · rw [e2 0 33 (by omega)]; simp (disch := omega) only [u_lit, q_sub, Nat.add_sub_cancel, q_upE, q_upN, q_upM, q_upO, u_bd, u_pf, u_nm, q_ald, q_ast, q_tld, q_lt0, q_lt, q_le, q_eq, q_m9, q_9m, q_neg9, q_add, q_mul, q_zr0, q_zr1, q_clamp, if_true, if_false, if_pos, if_neg]; exact t6.symm
    · rw [e4 i (by omega) hi, hm 16 i (by omega)]; exact (t10 i hi).symm
end PM

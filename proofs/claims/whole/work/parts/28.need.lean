/-! ===== 28: need: the recursion closed; needs and needAnew ===== -/
theorem c_awake {o B c v : Nat} {rc : Int32 → Int32 → nk_M → Option (Int32 × nk_M)} {μ : nk_M} {x : Int32} (h : c < 8) (hv : v ≤ 102) (h1 : μ (B + 4) c = nI v) : zf_C_comeTo o B rc (nI c) x μ = some (nI v, μ) := by
  simp (disch := omega) only [zf_C_comeTo, e_isAwake, h1, q_lit, q_sub, Nat.add_sub_cancel, q_upE, q_upN, q_upM, q_upO, q_bd, q_pf, q_nm, q_ald, q_ast, q_tld, q_lt0, q_lt, q_le, q_eq, q_m9, q_9m, q_neg9, q_add, q_mul, q_zr0, q_zr1, q_clamp, if_true, if_false, if_pos, if_neg]
theorem c_loop {o B c : Nat} {rc : Int32 → Int32 → nk_M → Option (Int32 × nk_M)} {μ : nk_M} {x : Int32} (h : c < 8) (h1 : μ (B + 4) c = -nI 9) (h7 : μ (B + 7) c = nI 1) : zf_C_comeTo o B rc (nI c) x μ = some (nI 101, μ) := by
  simp (disch := omega) only [zf_C_comeTo, e_isAwake, h1, h7, zf_C_comeTo_b30, q_lit, q_sub, Nat.add_sub_cancel, q_upE, q_upN, q_upM, q_upO, q_bd, q_pf, q_nm, q_ald, q_ast, q_tld, q_lt0, q_lt, q_le, q_eq, q_m9, q_9m, q_neg9, q_add, q_mul, q_zr0, q_zr1, q_clamp, if_true, if_false, if_pos, if_neg]
theorem c_wrap {K : Bool} {o B c d : Nat} {v : Int32} {μ μ6 : nk_M} (ho : o < B) (h : j_fC K o B (c_push o B c d μ) μ6) (h7 : μ (B + 7) c = nI 0) (h9 : K = false → μ6 o 9 = nI 0) : j_fC K o B μ (c_done o B c v μ6) := by
  obtain ⟨f1, f2, f3, f4⟩ := c_doneF (o := o) (B := B) (c := c) (v := v) (μ := μ6) ho
  obtain ⟨g1, g2, g3⟩ := c_pushF (o := o) (B := B) (c := c) (d := d) (μ := μ) ho
  refine ⟨fun k j k1 k2 k3 k4 => ?_, fun hK j => ?_, ?_⟩
  · by_cases e : k = B + 7
    · subst e
      by_cases e2 : j = c
      · subst e2; rw [f2, h7]
      · rw [f3 j e2, h.1 (B + 7) j (by omega) (by omega) (by omega) (by omega), g2 j e2]
    · rw [f1 k j k1 e k3 (fun z => by have := k4 z; omega), h.1 k j k1 k2 k3 k4, g1 k j e (fun z => by have := k4 z; omega)]
  · rw [f4 (h9 hK) j, h.2.1 hK j, g1 (B + 4) j (by omega) (by omega)]
  · rw [f1 o 10 (by omega) (by omega) (by omega) (by omega), f1 o 13 (by omega) (by omega) (by omega) (by omega), h.2.2, g3]
theorem r_pushF {K : Bool} {c d : Nat} {ν : nk_M} : j_fR K ν (r_push K c d ν) ∧ j_lo d ν (r_push K c d ν) ∧ (r_push K c d ν) 13 d = nI c ∧ (r_push K c d ν) 14 d = nI 0 ∧ (r_push K c d ν) 0 30 = ν 0 30 := by
  refine ⟨⟨fun k j k1 k2 k3 k4 k5 k6 k7 k8 => ?_, fun _ k j hk => ?_⟩, fun i hi => ⟨?_, ?_, ?_⟩, ?_, ?_, ?_⟩
  · by_cases e : k = 0
    · subst e
      have := k8 rfl
      unfold r_push; simp (disch := omega) only [q_lit, q_sub, Nat.add_sub_cancel, q_upE, q_upN, q_upM, q_upO, q_bd, q_pf, q_nm, q_ald, q_ast, q_tld, q_lt0, q_lt, q_le, q_eq, q_m9, q_9m, q_neg9, q_add, q_mul, q_zr0, q_zr1, q_clamp, if_true, if_false, if_pos, if_neg]
    · unfold r_push; simp (disch := omega) only [q_lit, q_sub, Nat.add_sub_cancel, q_upE, q_upN, q_upM, q_upO, q_bd, q_pf, q_nm, q_ald, q_ast, q_tld, q_lt0, q_lt, q_le, q_eq, q_m9, q_9m, q_neg9, q_add, q_mul, q_zr0, q_zr1, q_clamp, if_true, if_false, if_pos, if_neg]
  · unfold r_push; simp (disch := omega) only [q_lit, q_sub, Nat.add_sub_cancel, q_upE, q_upN, q_upM, q_upO, q_bd, q_pf, q_nm, q_ald, q_ast, q_tld, q_lt0, q_lt, q_le, q_eq, q_m9, q_9m, q_neg9, q_add, q_mul, q_zr0, q_zr1, q_clamp, if_true, if_false, if_pos, if_neg]
  · unfold r_push; simp (disch := omega) only [q_lit, q_sub, Nat.add_sub_cancel, q_upE, q_upN, q_upM, q_upO, q_bd, q_pf, q_nm, q_ald, q_ast, q_tld, q_lt0, q_lt, q_le, q_eq, q_m9, q_9m, q_neg9, q_add, q_mul, q_zr0, q_zr1, q_clamp, if_true, if_false, if_pos, if_neg]
  · unfold r_push; simp (disch := omega) only [q_lit, q_sub, Nat.add_sub_cancel, q_upE, q_upN, q_upM, q_upO, q_bd, q_pf, q_nm, q_ald, q_ast, q_tld, q_lt0, q_lt, q_le, q_eq, q_m9, q_9m, q_neg9, q_add, q_mul, q_zr0, q_zr1, q_clamp, if_true, if_false, if_pos, if_neg]
  · unfold r_push; simp (disch := omega) only [q_lit, q_sub, Nat.add_sub_cancel, q_upE, q_upN, q_upM, q_upO, q_bd, q_pf, q_nm, q_ald, q_ast, q_tld, q_lt0, q_lt, q_le, q_eq, q_m9, q_9m, q_neg9, q_add, q_mul, q_zr0, q_zr1, q_clamp, if_true, if_false, if_pos, if_neg]
  · unfold r_push; simp (disch := omega) only [q_lit, q_sub, Nat.add_sub_cancel, q_upE, q_upN, q_upM, q_upO, q_bd, q_pf, q_nm, q_ald, q_ast, q_tld, q_lt0, q_lt, q_le, q_eq, q_m9, q_9m, q_neg9, q_add, q_mul, q_zr0, q_zr1, q_clamp, if_true, if_false, if_pos, if_neg]
  · unfold r_push; simp (disch := omega) only [q_lit, q_sub, Nat.add_sub_cancel, q_upE, q_upN, q_upM, q_upO, q_bd, q_pf, q_nm, q_ald, q_ast, q_tld, q_lt0, q_lt, q_le, q_eq, q_m9, q_9m, q_neg9, q_add, q_mul, q_zr0, q_zr1, q_clamp, if_true, if_false, if_pos, if_neg]
  · unfold r_push; simp (disch := omega) only [q_lit, q_sub, Nat.add_sub_cancel, q_upE, q_upN, q_upM, q_upO, q_bd, q_pf, q_nm, q_ald, q_ast, q_tld, q_lt0, q_lt, q_le, q_eq, q_m9, q_9m, q_neg9, q_add, q_mul, q_zr0, q_zr1, q_clamp, if_true, if_false, if_pos, if_neg]
theorem j_all {K : Bool} {o B N : Nat} {fm : Nat → Nat} {pt : Nat → Nat → Nat} (ho : o < B) : ∀ n d, 9 ≤ n + d → j_T K o B N fm pt n d := by
  intro n
  induction n with
  | zero =>
    intro d h c μ ν wk hs hd hc hw
    have := hd.2.2.2.2.1.1
    omega
  | succ n ih =>
    intro d h c μ ν wk hs hd hc hw
    have IH := ih (d + 1) (by omega)
    have hN : N ≤ 8 := hs.1
    have hc8 : c < 8 := by omega
    have h1p : 1 ≤ 2 ^ (8 - d) := Nat.one_le_two_pow
    obtain ⟨a1, a2, a3, a4, ⟨a5, a6, a7, a7i⟩, a8, a9, b1, b4⟩ := id hd
    rcases (a2 c hc).1 with h4 | ⟨v, hv, h4⟩
    · rcases a8 c hc with h7 | ⟨h7, -, i, hi, e13⟩
      · -- it is worked now
        obtain ⟨hd8, hno, hd1⟩ := j_push ho hs hd hc h4 h7
        obtain ⟨hP1, hP2⟩ := j_pow hd8
        obtain ⟨-, -, -, -, s5, -⟩ := hs.2.2.2 c hc
        have hwp := r_wantsPush (K := K) hc8 a1.1 (fun hK => by rw [(a2 c hc).2.1 hK]; exact h4) hd8 a6 hno s5
        obtain ⟨f1, f2, f3, f4, f5⟩ := r_pushF (K := K) (c := c) (d := d) (ν := ν)
        obtain ⟨g1, g2, g3⟩ := c_pushF (o := o) (B := B) (c := c) (d := d + 1) (μ := μ) ho
        have hs1 : j_st o B N fm pt (c_push o B c (d + 1) μ) (r_push K c d ν) := j_st_fr ho (fun k j k1 k2 k3 k4 k5 => g1 k j k3 (fun z => by have := k5 z; omega)) f1.1 hs
        have m11 : (c_push o B c (d + 1) μ) o 11 = μ o 11 + nI 1 := by unfold c_push; by_cases e : μ (B + 6) c = -nI 9 <;> simp (disch := omega) only [e, q_lit, q_sub, Nat.add_sub_cancel, q_upE, q_upN, q_upM, q_upO, q_bd, q_pf, q_nm, q_ald, q_ast, q_tld, q_lt0, q_lt, q_le, q_eq, q_m9, q_9m, q_neg9, q_add, q_mul, q_zr0, q_zr1, q_clamp, if_true, if_false, if_pos, if_neg]
        have hw1 : K = false → (r_push K c d ν) 0 30 = nI 0 ∧ (c_push o B c (d + 1) μ) o 11 = nI (wk + 1) ∧ (wk + 1) + 2 ^ (8 - d) ≤ 257 := fun hK => ⟨by rw [f5]; exact (hw hK).1, by rw [m11, (hw hK).2.1, q_add], by have := (hw hK).2.2; omega⟩
        obtain ⟨v, μ6, hv, w1, w2, w3, w4⟩ := jb_all ho IH hd8 hs1 hd1 hc f3 f4 hw1
        have hcc : zf_C_comeToN o B (n + 1) (nI c) (nI (d + 1)) μ = c_end o B c (nI v) μ6 := by
          rw [zf_C_comeToN, c_comeTo ho hc8 (by omega) h4 h7, w1]
          rfl
        have h69 : μ6 o 9 = μ o 9 := by rw [w2.1 o 9 (by omega) (by omega) (by omega) (by omega), g1 o 9 (by omega) (by omega)]
        by_cases hn : K = true ∨ v ≠ 101
        · obtain ⟨k, ν6, ν6', x1, x2, x3, x4, x5, x6, x7, x8, x9, x10⟩ := w3 hn
          obtain ⟨μ', ν', y1, y2, y3, y4, y5, y6, y7, y8, y9, y10⟩ := j_done ho hN x5 hc x6 hv x7
          refine ⟨v, μ', _, ν', k + 1, hv, by rw [hcc]; exact y1, hwp, j_it_add x2 (l := 1) ⟨x3, ν', x4 ν' y2, rfl⟩, by omega, ?_, ?_, fun _ => ⟨y4, y5, y6, ?_, fun hK => ?_⟩, fun hK h101 => ?_⟩
          · rw [y3]
            exact c_wrap ho w2 h7 (fun hK => by rw [h69]; subst hK; exact a1.2)
          · refine j_fR_tr f1 (j_fR_tr x8 ⟨fun k j k1 k2 k3 k4 k5 k6 k7 k8 => y9 k j k1 k2 k3 k7 (fun z => by have := k8 z; omega), y10⟩)
          · exact j_lo_tr f2 (j_lo_tr x9 (fun i _ => y7 i))
          · obtain ⟨z1, wk', z2, z3⟩ := x10 hK
            refine ⟨by rw [y8]; exact z1, wk', ?_, by omega⟩
            rw [y3, (c_doneF ho).1 o 11 (by omega) (by omega) (by omega) (by omega)]
            exact z2
          · rcases hn with h | h
            · rw [h] at hK; cases hK
            · exact absurd h101 h
        · have hK : K = false := by
            cases hK : K
            · rfl
            · exact absurd (Or.inl hK) hn
          have h101 : v = 101 := by
            by_cases e : v = 101
            · exact e
            · exact absurd (Or.inr e) hn
          obtain ⟨k, ν6, x1, x2, x3, x4⟩ := w4 hK h101
          have h9 : μ6 o 9 = nI 0 := by rw [h69]; subst hK; exact a1.2
          refine ⟨v, c_done o B c (nI v) μ6, _, ν6, k, hv, by rw [hcc]; exact c_endF ho hc8 h9, hwp, x2, by omega, c_wrap ho w2 h7 (fun _ => h9), j_fR_tr f1 x4, fun z => absurd z hn, fun _ _ => x3⟩
      · -- it loops
        have h0 : ν 0 29 = nI 1 ∨ (ν 0 29 = nI 0 ∧ ν 9 c = -nI 9) := by
          cases K
          · exact Or.inl a1.1
          · exact Or.inr ⟨a1.1, by rw [(a2 c hc).2.1 rfl]; exact h4⟩
        have hR : ∀ k j, (k = 0 → j ≠ 21 ∧ j ≠ 30) → (nk_up (nk_up ν 0 21 (nI 101)) 0 30 (nI 1)) k j = ν k j := fun k j hk => by
          by_cases e : k = 0
          · have := hk e
            rw [q_upM (by omega), q_upM (by omega)]
          · rw [q_upN e, q_upN e]
        refine ⟨101, μ, _, nk_up (nk_up ν 0 21 (nI 101)) 0 30 (nI 1), 0, by omega, by rw [zf_C_comeToN]; exact c_loop hc8 h4 h7, r_wantsLoop hc8 h0 a5 a6 hi e13, rfl, by omega, j_fC_rf, ⟨fun k j _ _ _ _ _ _ _ k8 => hR k j (fun z => by have := k8 z; omega), fun _ k j hk => hR k j (by omega)⟩, fun hn => ⟨j_dy_cong (fun k j _ _ k3 => hR k j (fun z => by have := k3 z; omega)) hd, by rw [q_upM (by omega), q_upE], fun z => by omega, fun i _ => ⟨hR 13 i (by omega), hR 14 i (by omega), hR 15 i (by omega)⟩, fun hK => ?_⟩, fun _ _ => q_upE⟩
        rcases hn with h | h
        · rw [h] at hK; cases hK
        · exact absurd rfl h
    · -- it is awake
      have hK : K = true := by
        cases hK : K
        · have := (a2 c hc).2.2 hK
          rw [h4] at this
          exact ((q_m9 (by omega)).mp this).elim
        · rfl
      have h29 : ν 0 29 = nI 0 := by have := a1.1; rw [hK] at this; exact this
      have h9 : ν 9 c = nI v := by rw [(a2 c hc).2.1 hK]; exact h4
      have hR : ∀ k j, (k = 0 → j ≠ 21 ∧ j ≠ 22 ∧ j ≠ 23) → (nk_up (nk_up (nk_up ν 0 21 (nI v)) 0 22 (ν 10 c)) 0 23 (ν 11 c)) k j = ν k j := fun k j hk => by
        by_cases e : k = 0
        · have := hk e
          rw [q_upM (by omega), q_upM (by omega), q_upM (by omega)]
        · rw [q_upN e, q_upN e, q_upN e]
      refine ⟨v, μ, _, nk_up (nk_up (nk_up ν 0 21 (nI v)) 0 22 (ν 10 c)) 0 23 (ν 11 c), 0, hv, by rw [zf_C_comeToN]; exact c_awake hc8 hv h4, r_wantsAwake hc8 h29 h9 hv, rfl, by omega, j_fC_rf, ⟨fun k j _ _ _ _ _ _ _ k8 => hR k j (fun z => by have := k8 z; omega), fun _ k j hk => hR k j (by omega)⟩, fun hn => ⟨j_dy_cong (fun k j _ _ k3 => hR k j (fun z => by have := k3 z; omega)) hd, by rw [q_upM (by omega), q_upM (by omega), q_upE], fun z => ?_, fun i _ => ⟨hR 13 i (by omega), hR 14 i (by omega), hR 15 i (by omega)⟩, fun h => by rw [hK] at h; cases h⟩, fun h => by rw [hK] at h; cases h⟩
      subst z
      obtain ⟨q, q1, q2, q3, q4, q5⟩ := a4 c hc h4
      exact ⟨q, q1, q2, q3, by rw [q_upM (by omega), q_upE]; exact q4, by rw [q_upE]; exact q5⟩
/-- the reference's loop, once it is known where it comes to -/
theorem r_loop : ∀ {k n : Nat} {ν ν' : nk_M}, j_it k ν ν' → (ν' 0 17 ≤ nI 0 ∨ (ν' 0 29 = nI 1 ∧ ν' 0 30 = nI 1)) → k < n → zf_M_needs_b35 n ν = some (ν' 0 21, ν')
  | 0, 0, _, _, _, _, h => by omega
  | 0, n + 1, ν, ν', h, hg, _ => by
    have h' : ν' = ν := h
    subst h'
    rw [zf_M_needs_b35]
    by_cases e : ν' 0 17 ≤ nI 0
    · simp only [q_lit, zf_M_needs_b73, e, if_true]
    · rcases hg with e2 | ⟨e2, e3⟩
      · exact absurd e2 e
      · simp only [q_lit, zf_M_needs_b73, e, e2, e3, if_true, if_false, q_10]
  | k + 1, 0, _, _, _, _, h => by omega
  | k + 1, n + 1, ν, ν', h, hg, hk => by
    obtain ⟨⟨g1, g2⟩, ν1, e1, h1⟩ := h
    have ih := r_loop h1 hg (show k < n by omega)
    rw [zf_M_needs_b35]
    rcases g2 with e2 | ⟨e2, e3, e4⟩
    · simp only [q_lit, g1, e2, if_true, if_false, zf_M_needs_b66, e1, q_bd, ih]
    · simp only [q_lit, g1, e2, e3, e4, q_10, if_true, if_false, zf_M_needs_b66, e1, q_bd, ih]
/-- the tie between two needs: K says whether what is come to is kept -/
def k_dy (K : Bool) (o B N : Nat) (fm : Nat → Nat) (pt : Nat → Nat → Nat) (μ ν : nk_M) : Prop :=
  (ν 0 29 = (if K then nI 0 else nI 1) ∧ μ o 9 = (if K then nI 1 else nI 0)) ∧
  (∀ c, c < N → (μ (B + 4) c = -nI 9 ∨ ∃ v, v ≤ 102 ∧ μ (B + 4) c = nI v) ∧ (K = true → ν 9 c = μ (B + 4) c) ∧ (K = false → μ (B + 4) c = -nI 9)) ∧
  (∀ c, c < N → (μ (B + 6) c = -nI 9 ∨ ∃ j, j < N ∧ μ (B + 6) c = nI j) ∧ (K = true → ν 12 c = μ (B + 6) c) ∧ (K = false → μ (B + 6) c = -nI 9)) ∧
  (∀ c, c < N → μ (B + 4) c = nI 100 → ∃ q, q < N ∧ μ (B + 5) c = nI q ∧ fm q = 4 ∧ ν 10 c = nI (pt q 0) ∧ ν 11 c = nI (pt q 1)) ∧
  ∀ c, c < 8 → μ (B + 7) c = nI 0
theorem c_startLatest {o B : Nat} {μ : nk_M} : zf_C_startLatest o B μ = some ((), nk_up (nk_up (nk_up (nk_up μ o 11 (nI 0)) o 12 (nI 0)) o 13 (nI 0)) o 14 (nI 0)) := rfl
/-- a need anew, on both sides -/
theorem k_need {K : Bool} {o B N c : Nat} {fm : Nat → Nat} {pt : Nat → Nat → Nat} {μ ν : nk_M} (ho : o < B) (hs : j_st o B N fm pt μ ν) (hd : k_dy K o B N fm pt μ ν) (hc : c < N) :
    ∃ (v : Nat) (x : Int32) (μ' ν' : nk_M), v ≤ 102 ∧ zf_C_needAnew o B (nI c) μ = some (nI v, μ') ∧ zf_M_needs (nI c) ν = some (x, ν') ∧
      (∀ k j, k ≠ B + 4 → k ≠ B + 5 → k ≠ B + 8 → (k = o → j < 10 ∨ 14 < j) → μ' k j = μ k j) ∧ j_fR K ν ν' ∧ (K = false → ∀ j, μ' (B + 4) j = μ (B + 4) j) ∧ j_st o B N fm pt μ' ν' ∧
      (K = true → x = nI v ∧ k_dy K o B N fm pt μ' ν' ∧ μ' o 10 = μ o 10 + μ' o 13 ∧ ν' 0 24 = μ' o 11 ∧ ν' 0 25 = μ' o 12 ∧ ν' 0 26 = μ' o 13 ∧ ∃ q, q ≤ 8 ∧ μ' o 14 = nI q ∧ μ' o 11 = nI q ∧ ν' 0 27 = nI q ∧ ∀ i, i < q → ν' 16 i = μ' (B + 8) i) ∧
      (K = false → v ≠ 101 → ν' 0 30 = nI 0 ∧ ∃ w, w ≤ 256 ∧ μ' o 11 = nI w ∧ ν' 0 24 = nI w) ∧ (K = false → v = 101 → ν' 0 30 = nI 1) := by
  obtain ⟨a1, a2, a3, a4, a5⟩ := hd
  have hN : N ≤ 8 := hs.1
  have m : ∀ k j, (k = o → j < 11 ∨ 14 < j) → (nk_up (nk_up (nk_up (nk_up μ o 11 (nI 0)) o 12 (nI 0)) o 13 (nI 0)) o 14 (nI 0)) k j = μ k j := fun k j h => by
    by_cases e : k = o
    · have := h e
      rw [q_upM (by omega), q_upM (by omega), q_upM (by omega), q_upM (by omega)]
    · rw [q_upN e, q_upN e, q_upN e, q_upN e]
  have m11 : (nk_up (nk_up (nk_up (nk_up μ o 11 (nI 0)) o 12 (nI 0)) o 13 (nI 0)) o 14 (nI 0)) o 11 = nI 0 := by simp (disch := omega) only [q_lit, q_sub, Nat.add_sub_cancel, q_upE, q_upN, q_upM, q_upO, q_bd, q_pf, q_nm, q_ald, q_ast, q_tld, q_lt0, q_lt, q_le, q_eq, q_m9, q_9m, q_neg9, q_add, q_mul, q_zr0, q_zr1, q_clamp, if_true, if_false, if_pos, if_neg]
  have m12 : (nk_up (nk_up (nk_up (nk_up μ o 11 (nI 0)) o 12 (nI 0)) o 13 (nI 0)) o 14 (nI 0)) o 12 = nI 0 := by simp (disch := omega) only [q_lit, q_sub, Nat.add_sub_cancel, q_upE, q_upN, q_upM, q_upO, q_bd, q_pf, q_nm, q_ald, q_ast, q_tld, q_lt0, q_lt, q_le, q_eq, q_m9, q_9m, q_neg9, q_add, q_mul, q_zr0, q_zr1, q_clamp, if_true, if_false, if_pos, if_neg]
  have m13 : (nk_up (nk_up (nk_up (nk_up μ o 11 (nI 0)) o 12 (nI 0)) o 13 (nI 0)) o 14 (nI 0)) o 13 = nI 0 := by simp (disch := omega) only [q_lit, q_sub, Nat.add_sub_cancel, q_upE, q_upN, q_upM, q_upO, q_bd, q_pf, q_nm, q_ald, q_ast, q_tld, q_lt0, q_lt, q_le, q_eq, q_m9, q_9m, q_neg9, q_add, q_mul, q_zr0, q_zr1, q_clamp, if_true, if_false, if_pos, if_neg]
  have m14 : (nk_up (nk_up (nk_up (nk_up μ o 11 (nI 0)) o 12 (nI 0)) o 13 (nI 0)) o 14 (nI 0)) o 14 = nI 0 := by simp (disch := omega) only [q_lit, q_sub, Nat.add_sub_cancel, q_upE, q_upN, q_upM, q_upO, q_bd, q_pf, q_nm, q_ald, q_ast, q_tld, q_lt0, q_lt, q_le, q_eq, q_m9, q_9m, q_neg9, q_add, q_mul, q_zr0, q_zr1, q_clamp, if_true, if_false, if_pos, if_neg]
  have hneed : zf_C_needAnew o B (nI c) μ = zf_C_comeToN o B 10 (nI c) (nI (0 + 1)) (nk_up (nk_up (nk_up (nk_up μ o 11 (nI 0)) o 12 (nI 0)) o 13 (nI 0)) o 14 (nI 0)) := by
    unfold zf_C_needAnew
    rw [c_startLatest, q_bd, q_bdS]
    rfl
  generalize hμ0 : nk_up (nk_up (nk_up (nk_up μ o 11 (nI 0)) o 12 (nI 0)) o 13 (nI 0)) o 14 (nI 0) = μ0 at m m11 m12 m13 m14 hneed
  have n : ∀ k j, (k = 0 → j ≠ 17 ∧ j ≠ 24 ∧ j ≠ 25 ∧ j ≠ 26 ∧ j ≠ 27 ∧ j ≠ 30) → (nk_up (nk_up (nk_up (nk_up (nk_up (nk_up ν 0 17 (nI 0)) 0 24 (nI 0)) 0 25 (nI 0)) 0 26 (nI 0)) 0 27 (nI 0)) 0 30 (nI 0)) k j = ν k j := fun k j h => by
    by_cases e : k = 0
    · have := h e
      rw [q_upM (by omega), q_upM (by omega), q_upM (by omega), q_upM (by omega), q_upM (by omega), q_upM (by omega)]
    · rw [q_upN e, q_upN e, q_upN e, q_upN e, q_upN e, q_upN e]
  have n0 : ∀ j, (j = 17 ∨ j = 24 ∨ j = 25 ∨ j = 26 ∨ j = 27 ∨ j = 30) → (nk_up (nk_up (nk_up (nk_up (nk_up (nk_up ν 0 17 (nI 0)) 0 24 (nI 0)) 0 25 (nI 0)) 0 26 (nI 0)) 0 27 (nI 0)) 0 30 (nI 0)) 0 j = nI 0 := fun j h => by
    rcases h with rfl | rfl | rfl | rfl | rfl | rfl <;> simp (disch := omega) only [q_lit, q_sub, Nat.add_sub_cancel, q_upE, q_upN, q_upM, q_upO, q_bd, q_pf, q_nm, q_ald, q_ast, q_tld, q_lt0, q_lt, q_le, q_eq, q_m9, q_9m, q_neg9, q_add, q_mul, q_zr0, q_zr1, q_clamp, if_true, if_false, if_pos, if_neg]
  have hneeds : ∀ ν1, zf_M_wants (nI c) (nk_up (nk_up (nk_up (nk_up (nk_up (nk_up ν 0 17 (nI 0)) 0 24 (nI 0)) 0 25 (nI 0)) 0 26 (nI 0)) 0 27 (nI 0)) 0 30 (nI 0)) = some ((), ν1) → zf_M_needs (nI c) ν = zf_M_needs_b35 nk_fu ν1 := fun ν1 h => by
    unfold zf_M_needs
    simp only [q_pf, q_lit, h, q_bd]
  generalize hν0 : nk_up (nk_up (nk_up (nk_up (nk_up (nk_up ν 0 17 (nI 0)) 0 24 (nI 0)) 0 25 (nI 0)) 0 26 (nI 0)) 0 27 (nI 0)) 0 30 (nI 0) = ν0 at n n0 hneeds
  have hfC : ∀ k j, k ≠ B + 4 → k ≠ B + 5 → k ≠ B + 8 → (k = o → j < 10 ∨ 14 < j) → μ0 k j = μ k j := fun k j _ _ _ h => m k j (fun e => by have := h e; omega)
  have hfR : j_fR K ν ν0 := ⟨fun k j _ _ _ _ _ _ _ h => n k j (fun e => by have := h e; omega), fun _ k j hk => n k j (by omega)⟩
  have hs0 : j_st o B N fm pt μ0 ν0 := j_st_fr ho (fun k j k1 k2 _ k4 k5 => hfC k j k1 k2 k4 k5) hfR.1 hs
  have hd0 : j_dy K o B N 0 fm pt μ0 ν0 := by
    refine ⟨⟨by rw [n 0 29 (by omega)]; exact a1.1, by rw [m o 9 (by omega)]; exact a1.2⟩, fun c hc => ?_, fun c hc => ?_, fun c hc e => ?_, ⟨by omega, n0 17 (by omega), fun i hi => by omega, fun i j hi => by omega⟩, fun c hc => ?_, ?_, ⟨by rw [m11, n0 24 (by omega)], by rw [m12, n0 25 (by omega)], by rw [m13, n0 26 (by omega)]⟩, fun hK => ⟨0, m14, n0 27 (by omega), ?_, m11, fun i hi => by omega⟩⟩
    · rw [m (B + 4) c (by omega), n 9 c (by omega)]; exact a2 c hc
    · rw [m (B + 6) c (by omega), n 12 c (by omega)]; exact a3 c hc
    · rw [m (B + 4) c (by omega)] at e
      rw [m (B + 5) c (by omega), n 10 c (by omega), n 11 c (by omega)]; exact a4 c hc e
    · exact Or.inl (by rw [m (B + 7) c (by omega)]; exact a5 c (by omega))
    · have hz : ∀ M, M ≤ 8 → q_cnt (fun c => decide (μ0 (B + 7) c = nI 1)) M = 0 := fun M => by
        induction M with
        | zero => intro _; rfl
        | succ M ih =>
          intro hM
          unfold q_cnt
          rw [ih (by omega), m (B + 7) M (by omega), a5 M (by omega)]
          rfl
      exact hz N hN
    · have := q_cnt_le (fun c => decide (μ0 (B + 4) c = -nI 9)) N
      omega
  obtain ⟨v, μ', ν1, ν', k, hv, e1, e2, e3, e4, e5, e6, e7, e8⟩ := j_all (K := K) (fm := fm) (pt := pt) ho 10 0 (by omega) c μ0 ν0 0 hs0 hd0 hc (fun hK => ⟨n0 30 (by omega), m11, by decide⟩)
  have e29 : ν' 0 29 = if K then nI 0 else nI 1 := by rw [e6.1 0 29 (by omega) (by omega) (by omega) (by omega) (by omega) (by omega) (by omega) (by omega), n 0 29 (by omega)]; exact a1.1
  have hk : k < nk_fu := by
    have : (2 : Nat) ^ (8 - 0) = 256 := by decide
    show k < 4096
    omega
  have hstop : ν' 0 17 ≤ nI 0 ∨ (ν' 0 29 = nI 1 ∧ ν' 0 30 = nI 1) := by
    by_cases hn : K = true ∨ v ≠ 101
    · left
      rw [(e7 hn).1.2.2.2.2.1.2.1, q_le (by omega) (by omega)]
      omega
    · right
      have hK : K = false := by
        cases hK : K
        · rfl
        · exact absurd (Or.inl hK) hn
      have h101 : v = 101 := by
        by_cases e : v = 101
        · exact e
        · exact absurd (Or.inr e) hn
      exact ⟨by rw [e29, hK]; rfl, e8 hK h101⟩
  refine ⟨v, ν' 0 21, μ', ν', hv, by rw [hneed]; exact e1, by rw [hneeds ν1 e2]; exact r_loop e3 hstop hk, fun k j k1 k2 k3 k4 => by rw [e5.1 k j k1 k2 k3 k4]; exact hfC k j k1 k2 k3 k4, j_fR_tr hfR e6, fun hK j => by rw [e5.2.1 hK j]; exact m (B + 4) j (by omega), j_st_f ho e5 e6 hs0, fun hK => ?_, fun hK h1 => ?_, fun hK h1 => e8 hK h1⟩
  · obtain ⟨g1, g2, -, -, -⟩ := e7 (Or.inl hK)
    obtain ⟨b1, b2, b3, b4, ⟨-, -, -, -⟩, b8, -, ⟨c1, c2, c3⟩, c4⟩ := g1
    obtain ⟨q, d1, d2, d3, d4, d5⟩ := c4 hK
    refine ⟨g2, ⟨b1, b2, b3, b4, fun c hc => ?_⟩, ?_, c1.symm, c2.symm, c3.symm, q, by omega, d1, by rw [d4, Nat.add_zero], d2, d5⟩
    · rw [e5.1 (B + 7) c (by omega) (by omega) (by omega) (by omega), m (B + 7) c (by omega)]; exact a5 c hc
    · have := e5.2.2
      rw [m13, m o 10 (by omega)] at this
      have h2 : μ' o 10 = (μ' o 10 - μ' o 13) + μ' o 13 := (Int32.sub_add_cancel _ _).symm
      rw [h2, this, show nI 0 = (0 : Int32) from rfl, Int32.sub_zero]
  · obtain ⟨g1, -, -, -, g5⟩ := e7 (Or.inr h1)
    obtain ⟨x1, w, x2, x3⟩ := g5 hK
    refine ⟨x1, w, ?_, x2, by rw [← x2]; exact g1.2.2.2.2.2.2.2.1.1.symm⟩
    have : (2 : Nat) ^ (8 - 0) = 256 := by decide
    omega

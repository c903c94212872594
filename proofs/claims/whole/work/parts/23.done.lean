/-! ===== 23: need: being done keeps the tie ===== -/
/-- the pair that c came to -/
def j_pr (o B N c : Nat) (fm : Nat → Nat) (pt : Nat → Nat → Nat) (μ ν : nk_M) : Prop := ∃ q, q < N ∧ μ (B + 5) c = nI q ∧ fm q = 4 ∧ ν 0 22 = nI (pt q 0) ∧ ν 0 23 = nI (pt q 1)
theorem q_sk (a b k : Int32) : (a + k) - (b + k) = a - b := by
  apply Int32.toBitVec_inj.mp
  simp only [Int32.toBitVec_sub, Int32.toBitVec_add]
  bv_omega
theorem c_pushF {o B c d : Nat} {μ : nk_M} (ho : o < B) : (∀ k j, k ≠ B + 7 → (k = o → j < 10 ∨ 13 < j) → (c_push o B c d μ) k j = μ k j) ∧ (∀ j, j ≠ c → (c_push o B c d μ) (B + 7) j = μ (B + 7) j) ∧ (c_push o B c d μ) o 10 - (c_push o B c d μ) o 13 = μ o 10 - μ o 13 := by
  refine ⟨fun k j h1 h2 => ?_, fun j h => ?_, ?_⟩
  · by_cases e0 : k = o
    · subst e0
      have := h2 rfl
      unfold c_push; by_cases e : μ (B + 6) c = -nI 9 <;> simp (disch := omega) only [e, q_lit, q_sub, Nat.add_sub_cancel, q_upE, q_upN, q_upM, q_upO, q_bd, q_pf, q_nm, q_ald, q_ast, q_tld, q_lt0, q_lt, q_le, q_eq, q_m9, q_9m, q_neg9, q_add, q_mul, q_zr0, q_zr1, q_clamp, if_true, if_false, if_pos, if_neg]
    · unfold c_push; by_cases e : μ (B + 6) c = -nI 9 <;> simp (disch := omega) only [e, q_lit, q_sub, Nat.add_sub_cancel, q_upE, q_upN, q_upM, q_upO, q_bd, q_pf, q_nm, q_ald, q_ast, q_tld, q_lt0, q_lt, q_le, q_eq, q_m9, q_9m, q_neg9, q_add, q_mul, q_zr0, q_zr1, q_clamp, if_true, if_false, if_pos, if_neg]
  · unfold c_push; by_cases e : μ (B + 6) c = -nI 9 <;> simp (disch := omega) only [e, q_lit, q_sub, Nat.add_sub_cancel, q_upE, q_upN, q_upM, q_upO, q_bd, q_pf, q_nm, q_ald, q_ast, q_tld, q_lt0, q_lt, q_le, q_eq, q_m9, q_9m, q_neg9, q_add, q_mul, q_zr0, q_zr1, q_clamp, if_true, if_false, if_pos, if_neg]
  · unfold c_push; by_cases e : μ (B + 6) c = -nI 9
    · simp (disch := omega) only [e, q_sk, q_lit, q_sub, Nat.add_sub_cancel, q_upE, q_upN, q_upM, q_upO, q_bd, q_pf, q_nm, q_ald, q_ast, q_tld, q_lt0, q_lt, q_le, q_eq, q_m9, q_9m, q_neg9, q_add, q_mul, q_zr0, q_zr1, q_clamp, if_true, if_false, if_pos, if_neg]
    · simp (disch := omega) only [e, q_lit, q_sub, Nat.add_sub_cancel, q_upE, q_upN, q_upM, q_upO, q_bd, q_pf, q_nm, q_ald, q_ast, q_tld, q_lt0, q_lt, q_le, q_eq, q_m9, q_9m, q_neg9, q_add, q_mul, q_zr0, q_zr1, q_clamp, if_true, if_false, if_pos, if_neg]
theorem c_doneF {o B c : Nat} {v : Int32} {μ : nk_M} (ho : o < B) : (∀ k j, k ≠ B + 4 → k ≠ B + 7 → k ≠ B + 8 → (k = o → j ≠ 14) → (c_done o B c v μ) k j = μ k j) ∧ (c_done o B c v μ) (B + 7) c = nI 0 ∧ (∀ j, j ≠ c → (c_done o B c v μ) (B + 7) j = μ (B + 7) j) ∧ (μ o 9 = nI 0 → ∀ j, (c_done o B c v μ) (B + 4) j = μ (B + 4) j) := by
  refine ⟨fun k j h1 h2 h3 h4 => ?_, ?_, fun j h => ?_, fun h j => ?_⟩
  · by_cases e0 : k = o
    · subst e0
      have := h4 rfl
      unfold c_done
      simp (disch := omega) only [q_lit, q_sub, Nat.add_sub_cancel, q_upE, q_upN, q_upM, q_upO, q_bd, q_pf, q_nm, q_ald, q_ast, q_tld, q_lt0, q_lt, q_le, q_eq, q_m9, q_9m, q_neg9, q_add, q_mul, q_zr0, q_zr1, q_clamp, if_true, if_false, if_pos, if_neg]
      split
      · simp (disch := omega) only [q_lit, q_sub, Nat.add_sub_cancel, q_upE, q_upN, q_upM, q_upO, q_bd, q_pf, q_nm, q_ald, q_ast, q_tld, q_lt0, q_lt, q_le, q_eq, q_m9, q_9m, q_neg9, q_add, q_mul, q_zr0, q_zr1, q_clamp, if_true, if_false, if_pos, if_neg]
      · split
        · simp (disch := omega) only [q_lit, q_sub, Nat.add_sub_cancel, q_upE, q_upN, q_upM, q_upO, q_bd, q_pf, q_nm, q_ald, q_ast, q_tld, q_lt0, q_lt, q_le, q_eq, q_m9, q_9m, q_neg9, q_add, q_mul, q_zr0, q_zr1, q_clamp, if_true, if_false, if_pos, if_neg]
        · simp (disch := omega) only [q_lit, q_sub, Nat.add_sub_cancel, q_upE, q_upN, q_upM, q_upO, q_bd, q_pf, q_nm, q_ald, q_ast, q_tld, q_lt0, q_lt, q_le, q_eq, q_m9, q_9m, q_neg9, q_add, q_mul, q_zr0, q_zr1, q_clamp, if_true, if_false, if_pos, if_neg]
    · unfold c_done
      simp (disch := omega) only [q_lit, q_sub, Nat.add_sub_cancel, q_upE, q_upN, q_upM, q_upO, q_bd, q_pf, q_nm, q_ald, q_ast, q_tld, q_lt0, q_lt, q_le, q_eq, q_m9, q_9m, q_neg9, q_add, q_mul, q_zr0, q_zr1, q_clamp, if_true, if_false, if_pos, if_neg]
      split
      · simp (disch := omega) only [q_lit, q_sub, Nat.add_sub_cancel, q_upE, q_upN, q_upM, q_upO, q_bd, q_pf, q_nm, q_ald, q_ast, q_tld, q_lt0, q_lt, q_le, q_eq, q_m9, q_9m, q_neg9, q_add, q_mul, q_zr0, q_zr1, q_clamp, if_true, if_false, if_pos, if_neg]
      · split
        · simp (disch := omega) only [q_lit, q_sub, Nat.add_sub_cancel, q_upE, q_upN, q_upM, q_upO, q_bd, q_pf, q_nm, q_ald, q_ast, q_tld, q_lt0, q_lt, q_le, q_eq, q_m9, q_9m, q_neg9, q_add, q_mul, q_zr0, q_zr1, q_clamp, if_true, if_false, if_pos, if_neg]
        · simp (disch := omega) only [q_lit, q_sub, Nat.add_sub_cancel, q_upE, q_upN, q_upM, q_upO, q_bd, q_pf, q_nm, q_ald, q_ast, q_tld, q_lt0, q_lt, q_le, q_eq, q_m9, q_9m, q_neg9, q_add, q_mul, q_zr0, q_zr1, q_clamp, if_true, if_false, if_pos, if_neg]
  · unfold c_done
    simp (disch := omega) only [q_lit, q_sub, Nat.add_sub_cancel, q_upE, q_upN, q_upM, q_upO, q_bd, q_pf, q_nm, q_ald, q_ast, q_tld, q_lt0, q_lt, q_le, q_eq, q_m9, q_9m, q_neg9, q_add, q_mul, q_zr0, q_zr1, q_clamp, if_true, if_false, if_pos, if_neg]
    split
    · simp (disch := omega) only [q_lit, q_sub, Nat.add_sub_cancel, q_upE, q_upN, q_upM, q_upO, q_bd, q_pf, q_nm, q_ald, q_ast, q_tld, q_lt0, q_lt, q_le, q_eq, q_m9, q_9m, q_neg9, q_add, q_mul, q_zr0, q_zr1, q_clamp, if_true, if_false, if_pos, if_neg]
    · split
      · simp (disch := omega) only [q_lit, q_sub, Nat.add_sub_cancel, q_upE, q_upN, q_upM, q_upO, q_bd, q_pf, q_nm, q_ald, q_ast, q_tld, q_lt0, q_lt, q_le, q_eq, q_m9, q_9m, q_neg9, q_add, q_mul, q_zr0, q_zr1, q_clamp, if_true, if_false, if_pos, if_neg]
      · simp (disch := omega) only [q_lit, q_sub, Nat.add_sub_cancel, q_upE, q_upN, q_upM, q_upO, q_bd, q_pf, q_nm, q_ald, q_ast, q_tld, q_lt0, q_lt, q_le, q_eq, q_m9, q_9m, q_neg9, q_add, q_mul, q_zr0, q_zr1, q_clamp, if_true, if_false, if_pos, if_neg]
  · unfold c_done
    simp (disch := omega) only [q_lit, q_sub, Nat.add_sub_cancel, q_upE, q_upN, q_upM, q_upO, q_bd, q_pf, q_nm, q_ald, q_ast, q_tld, q_lt0, q_lt, q_le, q_eq, q_m9, q_9m, q_neg9, q_add, q_mul, q_zr0, q_zr1, q_clamp, if_true, if_false, if_pos, if_neg]
    split
    · simp (disch := omega) only [q_lit, q_sub, Nat.add_sub_cancel, q_upE, q_upN, q_upM, q_upO, q_bd, q_pf, q_nm, q_ald, q_ast, q_tld, q_lt0, q_lt, q_le, q_eq, q_m9, q_9m, q_neg9, q_add, q_mul, q_zr0, q_zr1, q_clamp, if_true, if_false, if_pos, if_neg]
    · split
      · simp (disch := omega) only [q_lit, q_sub, Nat.add_sub_cancel, q_upE, q_upN, q_upM, q_upO, q_bd, q_pf, q_nm, q_ald, q_ast, q_tld, q_lt0, q_lt, q_le, q_eq, q_m9, q_9m, q_neg9, q_add, q_mul, q_zr0, q_zr1, q_clamp, if_true, if_false, if_pos, if_neg]
      · simp (disch := omega) only [q_lit, q_sub, Nat.add_sub_cancel, q_upE, q_upN, q_upM, q_upO, q_bd, q_pf, q_nm, q_ald, q_ast, q_tld, q_lt0, q_lt, q_le, q_eq, q_m9, q_9m, q_neg9, q_add, q_mul, q_zr0, q_zr1, q_clamp, if_true, if_false, if_pos, if_neg]
  · unfold c_done
    simp (disch := omega) only [h, q_lit, q_sub, Nat.add_sub_cancel, q_upE, q_upN, q_upM, q_upO, q_bd, q_pf, q_nm, q_ald, q_ast, q_tld, q_lt0, q_lt, q_le, q_eq, q_m9, q_9m, q_neg9, q_add, q_mul, q_zr0, q_zr1, q_clamp, if_true, if_false, if_pos, if_neg]
theorem j_done {K : Bool} {o B N d c v : Nat} {fm : Nat → Nat} {pt : Nat → Nat → Nat} {μ ν : nk_M} (ho : o < B) (hN : N ≤ 8) (hd : j_dy K o B N (d + 1) fm pt μ ν) (hc : c < N) (ht : ν 13 d = nI c) (hv : v ≤ 102) (hp : v = 100 → j_pr o B N c fm pt μ ν) :
    ∃ (μ' ν' : nk_M), c_end o B c (nI v) μ = some (nI v, μ') ∧ zf_M_isDone (nI v) ν = some ((), ν') ∧ μ' = c_done o B c (nI v) μ ∧ j_dy K o B N d fm pt μ' ν' ∧ ν' 0 21 = nI v ∧ (v = 100 → j_pr o B N c fm pt μ' ν') ∧ (∀ i, ν' 13 i = ν 13 i ∧ ν' 14 i = ν 14 i ∧ ν' 15 i = ν 15 i) ∧ ν' 0 30 = ν 0 30 ∧ (∀ k j, k ≠ 9 → k ≠ 10 → k ≠ 11 → k ≠ 16 → (k = 0 → j ≠ 17 ∧ j ≠ 21 ∧ j ≠ 27) → ν' k j = ν k j) ∧ (K = false → ∀ k j, (k = 9 ∨ k = 10 ∨ k = 11 ∨ k = 16) → ν' k j = ν k j) := by
  obtain ⟨a1, a2, a3, a4, ⟨a5, a6, a7, a7i⟩, a8, a9, ⟨b1, b2, b3⟩, b4⟩ := hd
  have hb1 : μ (B + 7) c = nI 1 := by
    obtain ⟨c', h', e1, e2⟩ := a7 d (by omega)
    rw [ht] at e1
    have := (q_eq (by omega) (by omega)).mp e1
    subst this
    exact e2
  have h49 : μ (B + 4) c = -nI 9 := by
    rcases a8 c hc with e | ⟨-, e, -⟩
    · rw [hb1] at e; exact (q_10.mp e).elim
    · exact e
  obtain ⟨f1, f2, f3, f4⟩ := c_doneF (o := o) (B := B) (c := c) (v := nI v) (μ := μ) ho
  have hbe : ∀ c', c' < N → (c_done o B c (nI v) μ) (B + 7) c' = nI 0 ∨ ((c_done o B c (nI v) μ) (B + 7) c' = nI 1 ∧ c' ≠ c ∧ μ (B + 4) c' = -nI 9 ∧ ∃ i, i < d ∧ ν 13 i = nI c') := fun c' h' => by
    by_cases e : c' = c
    · subst e; exact Or.inl f2
    · rw [f3 c' e]
      rcases a8 c' h' with e1 | ⟨e1, e2, i, hi, e3⟩
      · exact Or.inl e1
      · refine Or.inr ⟨e1, e, e2, i, ?_, e3⟩
        by_cases e4 : i = d
        · subst e4
          rw [ht] at e3
          exact absurd ((q_eq (by omega) (by omega)).mp e3).symm e
        · omega
  have hcnt : q_cnt (fun c' => decide ((c_done o B c (nI v) μ) (B + 7) c' = nI 1)) N = d := by
    have := q_cnt_set (p := fun c' => decide ((c_done o B c (nI v) μ) (B + 7) c' = nI 1)) (p' := fun c => decide (μ (B + 7) c = nI 1)) (c := c) hc (by simp only [f2, q_01]; rfl) (by simp only [hb1]; rfl) (fun a _ hne => by simp only [f3 a hne])
    omega
  have hst : ∀ i, i < d → ∃ c', c' < N ∧ ν 13 i = nI c' ∧ (c_done o B c (nI v) μ) (B + 7) c' = nI 1 := fun i hi => by
    obtain ⟨c', h', e1, e2⟩ := a7 i (by omega)
    refine ⟨c', h', e1, ?_⟩
    by_cases e : c' = c
    · subst e
      have := a7i i d (by omega) (by omega) (by rw [e1, ht])
      omega
    · rw [f3 c' e]; exact e2
  cases K
  · -- nothing is kept
    have h9 : μ o 9 = nI 0 := a1.2
    have h29 : ν 0 29 = nI 1 := a1.1
    refine ⟨_, r_done false c d 0 (nI v) ν, c_endF ho (by omega) h9, r_isDoneF h29 a6 c 0, rfl, ?_, ?_, fun e => ?_, fun i => ?_, ?_, fun k j k1 k2 k3 k4 k5 => ?_, fun _ k j hk => ?_⟩
    · have n0 : ∀ k j, (k = 0 → j ≠ 17 ∧ j ≠ 21) → (r_done false c d 0 (nI v) ν) k j = ν k j := fun k j h => by
        by_cases e : k = 0
        · subst e
          have := h rfl
          unfold r_done; simp (disch := omega) only [Bool.false_eq_true, q_lit, q_sub, Nat.add_sub_cancel, q_upE, q_upN, q_upM, q_upO, q_bd, q_pf, q_nm, q_ald, q_ast, q_tld, q_lt0, q_lt, q_le, q_eq, q_m9, q_9m, q_neg9, q_add, q_mul, q_zr0, q_zr1, q_clamp, if_true, if_false, if_pos, if_neg]
        · unfold r_done; simp (disch := omega) only [Bool.false_eq_true, q_lit, q_sub, Nat.add_sub_cancel, q_upE, q_upN, q_upM, q_upO, q_bd, q_pf, q_nm, q_ald, q_ast, q_tld, q_lt0, q_lt, q_le, q_eq, q_m9, q_9m, q_neg9, q_add, q_mul, q_zr0, q_zr1, q_clamp, if_true, if_false, if_pos, if_neg]
      have n17 : (r_done false c d 0 (nI v) ν) 0 17 = nI d := by unfold r_done; simp (disch := omega) only [Bool.false_eq_true, q_lit, q_sub, Nat.add_sub_cancel, q_upE, q_upN, q_upM, q_upO, q_bd, q_pf, q_nm, q_ald, q_ast, q_tld, q_lt0, q_lt, q_le, q_eq, q_m9, q_9m, q_neg9, q_add, q_mul, q_zr0, q_zr1, q_clamp, if_true, if_false, if_pos, if_neg]
      refine ⟨⟨by rw [n0 0 29 (by omega)]; exact a1.1, by rw [f1 o 9 (by omega) (by omega) (by omega) (by omega)]; exact a1.2⟩, fun c' h' => ?_, fun c' h' => ?_, fun c' h' e => ?_, ⟨by omega, n17, fun i hi => ?_, fun i j hi hj hij => ?_⟩, fun c' h' => ?_, hcnt, ⟨?_, ?_, ?_⟩, fun hK => by cases hK⟩
      · rw [f4 h9]
        exact ⟨(a2 c' h').1, fun hK => (by cases hK), (a2 c' h').2.2⟩
      · rw [f1 (B + 6) c' (by omega) (by omega) (by omega) (by omega)]
        exact ⟨(a3 c' h').1, fun hK => (by cases hK), (a3 c' h').2.2⟩
      · rw [f4 h9, (a2 c' h').2.2 rfl] at e
        exact ((q_9m (by omega)).mp e).elim
      · rw [n0 13 i (by omega)]; exact hst i hi
      · rw [n0 13 i (by omega), n0 13 j (by omega)] at hij; exact a7i i j (by omega) (by omega) hij
      · rcases hbe c' h' with e | ⟨e1, -, e2, i, hi, e3⟩
        · exact Or.inl e
        · exact Or.inr ⟨e1, by rw [f4 h9]; exact e2, i, hi, by rw [n0 13 i (by omega)]; exact e3⟩
      · rw [f1 o 11 (by omega) (by omega) (by omega) (by omega), n0 0 24 (by omega)]; exact b1
      · rw [f1 o 12 (by omega) (by omega) (by omega) (by omega), n0 0 25 (by omega)]; exact b2
      · rw [f1 o 13 (by omega) (by omega) (by omega) (by omega), n0 0 26 (by omega)]; exact b3
    · unfold r_done; simp (disch := omega) only [Bool.false_eq_true, q_lit, q_sub, Nat.add_sub_cancel, q_upE, q_upN, q_upM, q_upO, q_bd, q_pf, q_nm, q_ald, q_ast, q_tld, q_lt0, q_lt, q_le, q_eq, q_m9, q_9m, q_neg9, q_add, q_mul, q_zr0, q_zr1, q_clamp, if_true, if_false, if_pos, if_neg]
    · obtain ⟨q, q1, q2, q3, q4, q5⟩ := hp e
      refine ⟨q, q1, by rw [f1 (B + 5) c (by omega) (by omega) (by omega) (by omega)]; exact q2, q3, ?_, ?_⟩
      · rw [← q4]; unfold r_done; simp (disch := omega) only [Bool.false_eq_true, q_lit, q_sub, Nat.add_sub_cancel, q_upE, q_upN, q_upM, q_upO, q_bd, q_pf, q_nm, q_ald, q_ast, q_tld, q_lt0, q_lt, q_le, q_eq, q_m9, q_9m, q_neg9, q_add, q_mul, q_zr0, q_zr1, q_clamp, if_true, if_false, if_pos, if_neg]
      · rw [← q5]; unfold r_done; simp (disch := omega) only [Bool.false_eq_true, q_lit, q_sub, Nat.add_sub_cancel, q_upE, q_upN, q_upM, q_upO, q_bd, q_pf, q_nm, q_ald, q_ast, q_tld, q_lt0, q_lt, q_le, q_eq, q_m9, q_9m, q_neg9, q_add, q_mul, q_zr0, q_zr1, q_clamp, if_true, if_false, if_pos, if_neg]
    · refine ⟨?_, ?_, ?_⟩ <;> · unfold r_done; simp (disch := omega) only [Bool.false_eq_true, q_lit, q_sub, Nat.add_sub_cancel, q_upE, q_upN, q_upM, q_upO, q_bd, q_pf, q_nm, q_ald, q_ast, q_tld, q_lt0, q_lt, q_le, q_eq, q_m9, q_9m, q_neg9, q_add, q_mul, q_zr0, q_zr1, q_clamp, if_true, if_false, if_pos, if_neg]
    · unfold r_done; simp (disch := omega) only [Bool.false_eq_true, q_lit, q_sub, Nat.add_sub_cancel, q_upE, q_upN, q_upM, q_upO, q_bd, q_pf, q_nm, q_ald, q_ast, q_tld, q_lt0, q_lt, q_le, q_eq, q_m9, q_9m, q_neg9, q_add, q_mul, q_zr0, q_zr1, q_clamp, if_true, if_false, if_pos, if_neg]
    · by_cases e : k = 0
      · subst e
        have := k5 rfl
        unfold r_done; simp (disch := omega) only [Bool.false_eq_true, q_lit, q_sub, Nat.add_sub_cancel, q_upE, q_upN, q_upM, q_upO, q_bd, q_pf, q_nm, q_ald, q_ast, q_tld, q_lt0, q_lt, q_le, q_eq, q_m9, q_9m, q_neg9, q_add, q_mul, q_zr0, q_zr1, q_clamp, if_true, if_false, if_pos, if_neg]
      · unfold r_done; simp (disch := omega) only [Bool.false_eq_true, q_lit, q_sub, Nat.add_sub_cancel, q_upE, q_upN, q_upM, q_upO, q_bd, q_pf, q_nm, q_ald, q_ast, q_tld, q_lt0, q_lt, q_le, q_eq, q_m9, q_9m, q_neg9, q_add, q_mul, q_zr0, q_zr1, q_clamp, if_true, if_false, if_pos, if_neg]
    · unfold r_done; simp (disch := omega) only [Bool.false_eq_true, q_lit, q_sub, Nat.add_sub_cancel, q_upE, q_upN, q_upM, q_upO, q_bd, q_pf, q_nm, q_ald, q_ast, q_tld, q_lt0, q_lt, q_le, q_eq, q_m9, q_9m, q_neg9, q_add, q_mul, q_zr0, q_zr1, q_clamp, if_true, if_false, if_pos, if_neg]
  · have h9 : μ o 9 = nI 1 := a1.2
    have h29 : ν 0 29 = nI 0 := a1.1
    obtain ⟨q, c1, c2, c3, c4, c5⟩ := b4 rfl
    have hpos := q_cnt_pos (p := fun c => decide (μ (B + 4) c = -nI 9)) (c := c) hc (by simp only [h49]; rfl)
    have hq8 : q < 8 := by omega
    refine ⟨_, r_done true c d q (nI v) ν, c_endT ho (by omega) h9 c1 hq8, r_isDoneT (by omega) (by omega) hq8 h29 a6 ht c2, rfl, ?_, ?_, fun e => ?_, fun i => ?_, ?_, fun k j k1 k2 k3 k4 k5 => ?_, fun hK => by cases hK⟩
    · have n0 : ∀ k j, (k = 0 → j ≠ 17 ∧ j ≠ 21 ∧ j ≠ 27) → (k = 9 ∨ k = 10 ∨ k = 11 → j ≠ c) → (k = 16 → j ≠ q) → (r_done true c d q (nI v) ν) k j = ν k j := fun k j h h1 h2 => by
        unfold r_done
        simp only [if_true, q_up]
        by_cases e0 : k = 0
        · have := h e0; simp [e0, this]
        · by_cases e1 : k = 9 ∨ k = 10 ∨ k = 11
          · have := h1 e1; rcases e1 with e1 | e1 | e1 <;> simp [e1, this]
          · by_cases e2 : k = 16
            · have := h2 e2; simp [e2, this]
            · have e3 : k ≠ 9 ∧ k ≠ 10 ∧ k ≠ 11 := by omega
              simp [e0, e2, e3]
      have n17 : (r_done true c d q (nI v) ν) 0 17 = nI d := by unfold r_done; simp (disch := omega) only [q_lit, q_sub, Nat.add_sub_cancel, q_upE, q_upN, q_upM, q_upO, q_bd, q_pf, q_nm, q_ald, q_ast, q_tld, q_lt0, q_lt, q_le, q_eq, q_m9, q_9m, q_neg9, q_add, q_mul, q_zr0, q_zr1, q_clamp, if_true, if_false, if_pos, if_neg]
      have n27 : (r_done true c d q (nI v) ν) 0 27 = nI (q + 1) := by unfold r_done; simp (disch := omega) only [q_lit, q_sub, Nat.add_sub_cancel, q_upE, q_upN, q_upM, q_upO, q_bd, q_pf, q_nm, q_ald, q_ast, q_tld, q_lt0, q_lt, q_le, q_eq, q_m9, q_9m, q_neg9, q_add, q_mul, q_zr0, q_zr1, q_clamp, if_true, if_false, if_pos, if_neg]
      have n9c : (r_done true c d q (nI v) ν) 9 c = nI v := by unfold r_done; simp (disch := omega) only [q_lit, q_sub, Nat.add_sub_cancel, q_upE, q_upN, q_upM, q_upO, q_bd, q_pf, q_nm, q_ald, q_ast, q_tld, q_lt0, q_lt, q_le, q_eq, q_m9, q_9m, q_neg9, q_add, q_mul, q_zr0, q_zr1, q_clamp, if_true, if_false, if_pos, if_neg]
      have n10c : (r_done true c d q (nI v) ν) 10 c = ν 0 22 := by unfold r_done; simp (disch := omega) only [q_lit, q_sub, Nat.add_sub_cancel, q_upE, q_upN, q_upM, q_upO, q_bd, q_pf, q_nm, q_ald, q_ast, q_tld, q_lt0, q_lt, q_le, q_eq, q_m9, q_9m, q_neg9, q_add, q_mul, q_zr0, q_zr1, q_clamp, if_true, if_false, if_pos, if_neg]
      have n11c : (r_done true c d q (nI v) ν) 11 c = ν 0 23 := by unfold r_done; simp (disch := omega) only [q_lit, q_sub, Nat.add_sub_cancel, q_upE, q_upN, q_upM, q_upO, q_bd, q_pf, q_nm, q_ald, q_ast, q_tld, q_lt0, q_lt, q_le, q_eq, q_m9, q_9m, q_neg9, q_add, q_mul, q_zr0, q_zr1, q_clamp, if_true, if_false, if_pos, if_neg]
      have n16 : (r_done true c d q (nI v) ν) 16 q = nI c := by unfold r_done; simp (disch := omega) only [q_lit, q_sub, Nat.add_sub_cancel, q_upE, q_upN, q_upM, q_upO, q_bd, q_pf, q_nm, q_ald, q_ast, q_tld, q_lt0, q_lt, q_le, q_eq, q_m9, q_9m, q_neg9, q_add, q_mul, q_zr0, q_zr1, q_clamp, if_true, if_false, if_pos, if_neg]
      have m4c : (c_done o B c (nI v) μ) (B + 4) c = nI v := by unfold c_done; simp (disch := omega) only [h9, c1, q_lit, q_sub, Nat.add_sub_cancel, q_upE, q_upN, q_upM, q_upO, q_bd, q_pf, q_nm, q_ald, q_ast, q_tld, q_lt0, q_lt, q_le, q_eq, q_m9, q_9m, q_neg9, q_add, q_mul, q_zr0, q_zr1, q_clamp, if_true, if_false, if_pos, if_neg]
      have m4' : ∀ j, j ≠ c → (c_done o B c (nI v) μ) (B + 4) j = μ (B + 4) j := fun j hj => by unfold c_done; simp (disch := omega) only [h9, c1, q_lit, q_sub, Nat.add_sub_cancel, q_upE, q_upN, q_upM, q_upO, q_bd, q_pf, q_nm, q_ald, q_ast, q_tld, q_lt0, q_lt, q_le, q_eq, q_m9, q_9m, q_neg9, q_add, q_mul, q_zr0, q_zr1, q_clamp, if_true, if_false, if_pos, if_neg]
      have m8q : (c_done o B c (nI v) μ) (B + 8) q = nI c := by unfold c_done; simp (disch := omega) only [h9, c1, q_lit, q_sub, Nat.add_sub_cancel, q_upE, q_upN, q_upM, q_upO, q_bd, q_pf, q_nm, q_ald, q_ast, q_tld, q_lt0, q_lt, q_le, q_eq, q_m9, q_9m, q_neg9, q_add, q_mul, q_zr0, q_zr1, q_clamp, if_true, if_false, if_pos, if_neg]
      have m8' : ∀ j, j ≠ q → (c_done o B c (nI v) μ) (B + 8) j = μ (B + 8) j := fun j hj => by unfold c_done; simp (disch := omega) only [h9, c1, q_lit, q_sub, Nat.add_sub_cancel, q_upE, q_upN, q_upM, q_upO, q_bd, q_pf, q_nm, q_ald, q_ast, q_tld, q_lt0, q_lt, q_le, q_eq, q_m9, q_9m, q_neg9, q_add, q_mul, q_zr0, q_zr1, q_clamp, if_true, if_false, if_pos, if_neg]
      have m14 : (c_done o B c (nI v) μ) o 14 = nI (q + 1) := by unfold c_done; simp (disch := omega) only [h9, c1, q_lit, q_sub, Nat.add_sub_cancel, q_upE, q_upN, q_upM, q_upO, q_bd, q_pf, q_nm, q_ald, q_ast, q_tld, q_lt0, q_lt, q_le, q_eq, q_m9, q_9m, q_neg9, q_add, q_mul, q_zr0, q_zr1, q_clamp, if_true, if_false, if_pos, if_neg]
      have hasl : q_cnt (fun c' => decide (μ (B + 4) c' = -nI 9)) N = q_cnt (fun c' => decide ((c_done o B c (nI v) μ) (B + 4) c' = -nI 9)) N + 1 :=
        q_cnt_set (c := c) hc (by simp only [m4c, q_m9 (show v < 2147483648 by omega)]; rfl) (by simp only [h49]; rfl) (fun a _ hne => by simp only [m4' a hne])
      refine ⟨⟨by rw [n0 0 29 (by omega) (by omega) (by omega)]; exact a1.1, by rw [f1 o 9 (by omega) (by omega) (by omega) (by omega)]; exact a1.2⟩, fun c' h' => ?_, fun c' h' => ?_, fun c' h' e => ?_, ⟨by omega, n17, fun i hi => ?_, fun i j hi hj hij => ?_⟩, fun c' h' => ?_, hcnt, ⟨?_, ?_, ?_⟩, fun _ => ?_⟩
      · by_cases e : c' = c
        · subst e
          rw [m4c, n9c]
          exact ⟨Or.inr ⟨v, hv, rfl⟩, fun _ => rfl, fun hK => by cases hK⟩
        · rw [m4' c' e, n0 9 c' (by omega) (by omega) (by omega)]
          exact ⟨(a2 c' h').1, (a2 c' h').2.1, fun hK => by cases hK⟩
      · rw [f1 (B + 6) c' (by omega) (by omega) (by omega) (by omega), n0 12 c' (by omega) (by omega) (by omega)]
        exact ⟨(a3 c' h').1, (a3 c' h').2.1, fun hK => by cases hK⟩
      · rw [f1 (B + 5) c' (by omega) (by omega) (by omega) (by omega)]
        by_cases e0 : c' = c
        · subst e0
          rw [m4c] at e
          rw [n10c, n11c]
          obtain ⟨q, q1, q2, q3, q4, q5⟩ := hp ((q_eq (by omega) (by omega)).mp e)
          exact ⟨q, q1, q2, q3, q4, q5⟩
        · rw [m4' c' e0] at e
          rw [n0 10 c' (by omega) (by omega) (by omega), n0 11 c' (by omega) (by omega) (by omega)]
          exact a4 c' h' e
      · rw [n0 13 i (by omega) (by omega) (by omega)]; exact hst i hi
      · rw [n0 13 i (by omega) (by omega) (by omega), n0 13 j (by omega) (by omega) (by omega)] at hij; exact a7i i j (by omega) (by omega) hij
      · rcases hbe c' h' with e | ⟨e1, e5, e2, i, hi, e3⟩
        · exact Or.inl e
        · exact Or.inr ⟨e1, by rw [m4' c' e5]; exact e2, i, hi, by rw [n0 13 i (by omega) (by omega) (by omega)]; exact e3⟩
      · rw [f1 o 11 (by omega) (by omega) (by omega) (by omega), n0 0 24 (by omega) (by omega) (by omega)]; exact b1
      · rw [f1 o 12 (by omega) (by omega) (by omega) (by omega), n0 0 25 (by omega) (by omega) (by omega)]; exact b2
      · rw [f1 o 13 (by omega) (by omega) (by omega) (by omega), n0 0 26 (by omega) (by omega) (by omega)]; exact b3
      · refine ⟨q + 1, m14, n27, by omega, ?_, fun i hi => ?_⟩
        · rw [f1 o 11 (by omega) (by omega) (by omega) (by omega), c4]
          congr 1
          omega
        · by_cases e : i = q
          · subst e; rw [n16, m8q]
          · rw [n0 16 i (by omega) (by omega) (by omega), m8' i e]
            exact c5 i (by omega)
    · unfold r_done; simp (disch := omega) only [q_lit, q_sub, Nat.add_sub_cancel, q_upE, q_upN, q_upM, q_upO, q_bd, q_pf, q_nm, q_ald, q_ast, q_tld, q_lt0, q_lt, q_le, q_eq, q_m9, q_9m, q_neg9, q_add, q_mul, q_zr0, q_zr1, q_clamp, if_true, if_false, if_pos, if_neg]
    · obtain ⟨q', q1, q2, q3, q4, q5⟩ := hp e
      refine ⟨q', q1, by rw [f1 (B + 5) c (by omega) (by omega) (by omega) (by omega)]; exact q2, q3, ?_, ?_⟩
      · rw [← q4]; unfold r_done; simp (disch := omega) only [q_lit, q_sub, Nat.add_sub_cancel, q_upE, q_upN, q_upM, q_upO, q_bd, q_pf, q_nm, q_ald, q_ast, q_tld, q_lt0, q_lt, q_le, q_eq, q_m9, q_9m, q_neg9, q_add, q_mul, q_zr0, q_zr1, q_clamp, if_true, if_false, if_pos, if_neg]
      · rw [← q5]; unfold r_done; simp (disch := omega) only [q_lit, q_sub, Nat.add_sub_cancel, q_upE, q_upN, q_upM, q_upO, q_bd, q_pf, q_nm, q_ald, q_ast, q_tld, q_lt0, q_lt, q_le, q_eq, q_m9, q_9m, q_neg9, q_add, q_mul, q_zr0, q_zr1, q_clamp, if_true, if_false, if_pos, if_neg]
    · refine ⟨?_, ?_, ?_⟩ <;> · unfold r_done; simp (disch := omega) only [q_lit, q_sub, Nat.add_sub_cancel, q_upE, q_upN, q_upM, q_upO, q_bd, q_pf, q_nm, q_ald, q_ast, q_tld, q_lt0, q_lt, q_le, q_eq, q_m9, q_9m, q_neg9, q_add, q_mul, q_zr0, q_zr1, q_clamp, if_true, if_false, if_pos, if_neg]
    · unfold r_done; simp (disch := omega) only [q_lit, q_sub, Nat.add_sub_cancel, q_upE, q_upN, q_upM, q_upO, q_bd, q_pf, q_nm, q_ald, q_ast, q_tld, q_lt0, q_lt, q_le, q_eq, q_m9, q_9m, q_neg9, q_add, q_mul, q_zr0, q_zr1, q_clamp, if_true, if_false, if_pos, if_neg]
    · by_cases e : k = 0
      · subst e
        have := k5 rfl
        unfold r_done; simp (disch := omega) only [q_lit, q_sub, Nat.add_sub_cancel, q_upE, q_upN, q_upM, q_upO, q_bd, q_pf, q_nm, q_ald, q_ast, q_tld, q_lt0, q_lt, q_le, q_eq, q_m9, q_9m, q_neg9, q_add, q_mul, q_zr0, q_zr1, q_clamp, if_true, if_false, if_pos, if_neg]
      · unfold r_done; simp (disch := omega) only [q_lit, q_sub, Nat.add_sub_cancel, q_upE, q_upN, q_upM, q_upO, q_bd, q_pf, q_nm, q_ald, q_ast, q_tld, q_lt0, q_lt, q_le, q_eq, q_m9, q_9m, q_neg9, q_add, q_mul, q_zr0, q_zr1, q_clamp, if_true, if_false, if_pos, if_neg]

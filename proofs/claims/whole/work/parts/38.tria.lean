/-! ===== 38: readings at the trial cells; what the reference keeps and brings back ===== -/
/-- what a need of the trial cells may change (x: one cell more) -/
def k_fC (x : Nat) (μ μ' : nk_M) : Prop := ∀ k j, k ≠ x → k ≠ 19 → k ≠ 20 → k ≠ 21 → k ≠ 23 → (k = 2 → j < 10 ∨ 14 < j) → μ' k j = μ k j
def k_fR (y z : Nat) (ν ν' : nk_M) : Prop := ∀ k j, ¬ (k = y ∧ j = z) → ¬ (9 ≤ k ∧ k ≤ 16) → (k = 0 → j ≠ 17 ∧ (j < 21 ∨ 27 < j) ∧ j ≠ 30) → ν' k j = ν k j
theorem k_fC_t {x : Nat} {μ μ' μ2 : nk_M} (h1 : k_fC x μ μ') (h2 : k_fC x μ' μ2) : k_fC x μ μ2 := fun k j a b c d e f => by rw [h2 k j a b c d e f, h1 k j a b c d e f]
theorem k_fR_t {y z : Nat} {ν ν' ν2 : nk_M} (h1 : k_fR y z ν ν') (h2 : k_fR y z ν' ν2) : k_fR y z ν ν2 := fun k j a b c => by rw [h2 k j a b c, h1 k j a b c]
theorem k_fC_w {μ μ' : nk_M} (x : Nat) (h1 : k_fC 19 μ μ') : k_fC x μ μ' := fun k j a b c d e f => h1 k j b b c d e f
theorem k_fR_w {ν ν' : nk_M} (y z : Nat) (h1 : k_fR 9 0 ν ν') : k_fR y z ν ν' := fun k j a b c => h1 k j (by omega) b c
theorem k_fC_u {x j : Nat} {v : Int32} {μ : nk_M} : k_fC x μ (nk_up μ x j v) := fun k j a _ _ _ _ _ => q_upN a
theorem k_fR_u {y j : Nat} {v : Int32} {ν : nk_M} : k_fR y j ν (nk_up ν y j v) := fun k j a _ _ => q_upO a
theorem k_fC_r {x : Nat} {μ : nk_M} : k_fC x μ μ := fun _ _ _ _ _ _ _ _ => rfl
theorem k_fR_r {y z : Nat} {ν : nk_M} : k_fR y z ν ν := fun _ _ _ _ _ => rfl
/-- the tie of the trial cells with the reference's: what was told -/
def k_tr (N : Nat) (fm : Nat → Nat) (pt : Nat → Nat → Nat) (μ ν : nk_M) : Prop := j_st 2 15 N fm pt μ ν ∧ ν 0 29 = nI 0 ∧ R_T μ
theorem k_tr_c {N : Nat} {fm : Nat → Nat} {pt : Nat → Nat → Nat} {μ ν μ' ν' : nk_M} (h : k_tr N fm pt μ ν) (hC : k_fC 19 μ μ') (hR : k_fR 9 0 ν ν') : k_tr N fm pt μ' ν' :=
  ⟨j_st_c h.1 (fun k j h => hC k j (by omega) (by omega) (by omega) (by omega) (by omega) (by omega)) (fun k j h => hR k j (by omega) (by omega) (by omega)), by rw [hR 0 29 (by omega) (by omega) (by omega)]; exact h.2.1, R_T_c h.2.2 (fun k j h => hC k j (by omega) (by omega) (by omega) (by omega) (by omega) (by omega))⟩
theorem k_anew {N c : Nat} {fm : Nat → Nat} {pt : Nat → Nat → Nat} {μ ν : nk_M} (h : k_tr N fm pt μ ν) (hc : c < N) :
    ∃ (v : Nat) (μ' ν' : nk_M), v ≤ 102 ∧ zf_C_needAnew 2 15 (nI c) (q_slp 15 μ) = some (nI v, μ') ∧ zf_M_needs (nI c) (q_slpR ν) = some (nI v, ν') ∧ ν' 0 26 = μ' 2 13 ∧ k_fC 19 μ μ' ∧ k_fR 9 0 ν ν' := by
  obtain ⟨h1, h2, h3⟩ := h
  have st : j_st 2 15 N fm pt (q_slp 15 μ) (q_slpR ν) := j_st_c h1 (fun k j h => q_slpN (by omega)) (fun k j h => q_slpRN (by omega))
  have dy : k_dy true 2 15 N fm pt (q_slp 15 μ) (q_slpR ν) := k_dy_slp (by omega) h1.1 h2 h3.1 h3.2
  obtain ⟨v, x, μ', ν', hv, n1, n2, n3, n4, -, -, n7, -, -⟩ := k_need (by omega) st dy hc
  obtain ⟨rfl, -, -, -, -, t6, -⟩ := n7 rfl
  refine ⟨v, μ', ν', hv, n1, n2, t6, fun k j a b c d e f => ?_, fun k j a b c => ?_⟩
  · rw [n3 k j (by omega) (by omega) (by omega) (by omega), q_slpN (by omega)]
  · rw [n4.1 k j (by omega) (by omega) (by omega) (by omega) (by omega) (by omega) (by omega) c, q_slpRN (by omega)]
section AS
variable {N : Nat} {fm : Nat → Nat} {pt : Nat → Nat → Nat} {μ ν : nk_M}
/-- the reference goes on where the class has stopped -/
theorem r_rest {r : Nat} (hr : r ≤ 8) : ∀ (f i : Nat) (ν : nk_M), k_tr N fm pt μ ν → ν 0 41 = nI r → (∀ i, i < r → ∃ c, c < N ∧ ν 23 i = nI c) → i ≤ r → r - i < f → ∃ ν', zf_M_areSo_b4 f (nI 0) (nI i) ν = some (nI 0, ν') ∧ k_fR 9 0 ν ν' := by
  intro f
  induction f with
  | zero => intro i ν _ _ _ _ h; omega
  | succ f ih =>
    intro i ν ht h41 h23 hi hf
    rw [zf_M_areSo_b4, h41]
    by_cases e : r ≤ i
    · rw [if_pos ((q_le (by omega) (by omega)).mpr e)]
      exact ⟨ν, rfl, k_fR_r⟩
    · obtain ⟨c, hc, hc2⟩ := h23 i (by omega)
      obtain ⟨v, μ1, ν1, hv, n1, n2, n3, n4, n5⟩ := k_anew ht hc
      obtain ⟨ν', e1, e2⟩ := ih (i + 1) ν1 (k_tr_c ht k_fC_r n5) (by rw [n5 0 41 (by omega) (by omega) (by omega)]; exact h41) (fun i hi => by rw [n5 23 i (by omega) (by omega) (by omega)]; exact h23 i hi) (by omega) (by omega)
      refine ⟨ν', ?_, k_fR_t n5 e2⟩
      rw [if_neg (fun z => e ((q_le (by omega) (by omega)).mp z)), r_allAsleep, u_bd, q_ald (by omega) (by omega), q_slpRN (by omega), hc2, n2, u_bd, if_pos (by decide)]
      unfold zf_M_areSo_b48 zf_M_areSo_b49
      rw [u_lit 1, q_add, u_lit 0]
      exact e1
/-- whether the readings are so, on both sides -/
theorem k_areSo_b {r : Nat} (hr : r ≤ 8) : ∀ (f i : Nat) (μ ν : nk_M), k_tr N fm pt μ ν → μ 4 0 = nI r → ν 0 41 = nI r → (∀ i, i < r → (∃ c, c < N ∧ μ 24 i = nI c) ∧ ν 23 i = μ 24 i ∧ ν 24 i = μ 25 i) → i ≤ r → r - i < f → ∃ (a : Nat) (μ' ν' : nk_M), a ≤ 1 ∧ zf_R_areSo_b2 2 15 f (nI i) μ = some (nI a, μ') ∧ zf_M_areSo_b4 f (nI 1) (nI i) ν = some (nI a, ν') ∧ k_fC 19 μ μ' ∧ k_fR 9 0 ν ν' := by
  intro f
  induction f with
  | zero => intro i μ ν _ _ _ _ _ h; omega
  | succ f ih =>
    intro i μ ν ht h4 h41 hD hi hf
    rw [zf_R_areSo_b2, zf_M_areSo_b4, h4, h41]
    by_cases e : r ≤ i
    · rw [if_pos ((q_le (by omega) (by omega)).mpr e), if_pos ((q_le (by omega) (by omega)).mpr e)]
      exact ⟨1, μ, ν, by omega, rfl, rfl, k_fC_r, k_fR_r⟩
    · obtain ⟨⟨c, hc, hc2⟩, hc3, hc4⟩ := hD i (by omega)
      obtain ⟨v, μ1, ν1, hv, n1, n2, n3, n4, n5⟩ := k_anew ht hc
      have hD1 : ∀ i, i < r → (∃ c, c < N ∧ μ1 24 i = nI c) ∧ ν1 23 i = μ1 24 i ∧ ν1 24 i = μ1 25 i := fun i hi => by
        rw [n4 24 i (by omega) (by omega) (by omega) (by omega) (by omega) (by omega), n4 25 i (by omega) (by omega) (by omega) (by omega) (by omega) (by omega), n5 23 i (by omega) (by omega) (by omega), n5 24 i (by omega) (by omega) (by omega)]
        exact hD i hi
      have h41' : ν1 0 41 = nI r := by rw [n5 0 41 (by omega) (by omega) (by omega)]; exact h41
      have h4' : μ1 4 0 = nI r := by rw [n4 4 0 (by omega) (by omega) (by omega) (by omega) (by omega) (by omega)]; exact h4
      have ht1 := k_tr_c ht n4 n5
      have hcost : zf_C_costFromAsleep 2 15 (nI c) μ = some (μ1 2 13, μ1) := by
        unfold zf_C_costFromAsleep
        rw [e_putToSleep, u_bd, n1, u_bd]
      have i8 : i < 8 := by omega
      rw [if_neg (fun z => e ((q_le (by omega) (by omega)).mp z)), if_neg (fun z => e ((q_le (by omega) (by omega)).mp z)), q_ald (k := 24) (μ := μ) i8 (by omega), hc2, hcost, u_bd, q_ald (k := 25) i8 (by omega), r_allAsleep, u_bd, q_ald (k := 23) i8 (by omega), q_slpRN (by omega), hc3, hc2, n2, u_bd, if_neg (show ¬ nI 1 = 0 by decide), q_ald (k := 24) (μ := ν1) i8 (by omega), (hD1 i (by omega)).2.2, n3]
      by_cases e2 : μ1 2 13 = μ1 25 i
      · obtain ⟨a, μ', ν', e3, e4, e5, e6, e7⟩ := ih (i + 1) μ1 ν1 ht1 h4' h41' hD1 (by omega) (by omega)
        refine ⟨a, μ', ν', e3, ?_, ?_, k_fC_t n4 e6, k_fR_t n5 e7⟩
        · rw [if_pos e2, u_lit 1, q_add]; exact e4
        · rw [if_pos e2]
          unfold zf_M_areSo_b49
          rw [u_lit 1, q_add]
          exact e5
      · obtain ⟨ν', e3, e4⟩ := r_rest (μ := μ1) hr f (i + 1) ν1 ht1 h41' (fun i hi => by rw [(hD1 i hi).2.1]; exact (hD1 i hi).1) (by omega) (by omega)
        refine ⟨0, μ1, ν', by omega, ?_, ?_, n4, k_fR_t n5 e4⟩
        · rw [if_neg e2]; rfl
        · rw [if_neg e2]
          unfold zf_M_areSo_b48 zf_M_areSo_b49
          rw [u_lit 1, q_add, u_lit 0]
          exact e3
theorem k_areSo (ht : k_tr N fm pt μ ν) (hD : R_D N μ ν) : ∃ (a : Nat) (μ' ν' : nk_M), a ≤ 1 ∧ zf_R_areSo 2 15 μ = some (nI a, μ') ∧ zf_M_areSo ν = some (nI a, ν') ∧ k_fC 19 μ μ' ∧ k_fR 9 0 ν ν' := by
  obtain ⟨r, h1, h2, h3, h4⟩ := hD
  exact k_areSo_b h1 nk_fu 0 μ ν ht h2 h3 h4 (by omega) (by show _ < 4096; omega)
end AS
theorem r_keeps_b : ∀ (f i : Nat) (ν : nk_M), i ≤ 8 → 8 - i < f → ∃ ν', zf_M_keeps_b2 f (nI i) ν = some ((), ν') ∧ (∀ a b, ¬ (18 ≤ a ∧ a ≤ 22 ∧ i ≤ b) → ν' a b = ν a b) ∧ ∀ b, i ≤ b → b < 8 → ν' 18 b = ν 9 b ∧ ν' 19 b = ν 10 b ∧ ν' 20 b = ν 11 b ∧ ν' 21 b = ν 12 b ∧ ν' 22 b = ν 2 b := by
  intro f
  induction f with
  | zero => intro i ν _ h; omega
  | succ f ih =>
    intro i ν hi hf
    rw [zf_M_keeps_b2]
    by_cases e : 8 ≤ i
    · rw [if_pos (l_kle 8 e (by omega))]
      exact ⟨ν, rfl, fun _ _ _ => rfl, fun b h1 h2 => by omega⟩
    · have i8 : i < 8 := by omega
      rw [if_neg (l_nkle 8 (by omega) (by omega))]
      simp (disch := omega) only [q_ald, q_ast, q_upN, u_lit, q_add]
      obtain ⟨ν', e1, e2, e3⟩ := ih (i + 1) (nk_up (nk_up (nk_up (nk_up (nk_up ν 18 i (ν 9 i)) 19 i (ν 10 i)) 20 i (ν 11 i)) 21 i (ν 12 i)) 22 i (ν 2 i)) (by omega) (by omega)
      refine ⟨ν', e1, fun a b h => by rw [e2 a b (by omega), q_upO (by omega), q_upO (by omega), q_upO (by omega), q_upO (by omega), q_upO (by omega)], fun b h1 h2 => ?_⟩
      by_cases eb : b = i
      · subst eb
        rw [e2 18 b (by omega), e2 19 b (by omega), e2 20 b (by omega), e2 21 b (by omega), e2 22 b (by omega)]
        simp (disch := omega) only [q_upN, q_upE]
        exact ⟨trivial, trivial, trivial, trivial, trivial⟩
      · have := e3 b (by omega) h2
        simp (disch := omega) only [q_upN] at this
        exact this
theorem r_keeps (ν : nk_M) : ∃ ν', zf_M_keeps ν = some ((), ν') ∧ (∀ a b, ¬ (18 ≤ a ∧ a ≤ 22) → ν' a b = ν a b) ∧ ∀ b, b < 8 → ν' 18 b = ν 9 b ∧ ν' 19 b = ν 10 b ∧ ν' 20 b = ν 11 b ∧ ν' 21 b = ν 12 b ∧ ν' 22 b = ν 2 b := by
  obtain ⟨ν', e1, e2, e3⟩ := r_keeps_b nk_fu 0 ν (by omega) (by show _ < 4096; omega)
  exact ⟨ν', e1, fun a b h => e2 a b (by omega), fun b h => e3 b (by omega) h⟩
theorem r_brings_b : ∀ (f i : Nat) (ν : nk_M), i ≤ 8 → 8 - i < f → ∃ ν', zf_M_bringsBack_b2 f (nI i) ν = some ((), ν') ∧ (∀ a b, ¬ ((a = 2 ∨ (9 ≤ a ∧ a ≤ 12)) ∧ i ≤ b) → ν' a b = ν a b) ∧ ∀ b, i ≤ b → b < 8 → ν' 9 b = ν 18 b ∧ ν' 10 b = ν 19 b ∧ ν' 11 b = ν 20 b ∧ ν' 12 b = ν 21 b ∧ ν' 2 b = ν 22 b := by
  intro f
  induction f with
  | zero => intro i ν _ h; omega
  | succ f ih =>
    intro i ν hi hf
    rw [zf_M_bringsBack_b2]
    by_cases e : 8 ≤ i
    · rw [if_pos (l_kle 8 e (by omega))]
      exact ⟨ν, rfl, fun _ _ _ => rfl, fun b h1 h2 => by omega⟩
    · have i8 : i < 8 := by omega
      rw [if_neg (l_nkle 8 (by omega) (by omega))]
      simp (disch := omega) only [q_ald, q_ast, q_upN, u_lit, q_add]
      obtain ⟨ν', e1, e2, e3⟩ := ih (i + 1) (nk_up (nk_up (nk_up (nk_up (nk_up ν 9 i (ν 18 i)) 10 i (ν 19 i)) 11 i (ν 20 i)) 12 i (ν 21 i)) 2 i (ν 22 i)) (by omega) (by omega)
      refine ⟨ν', e1, fun a b h => by rw [e2 a b (by omega), q_upO (by omega), q_upO (by omega), q_upO (by omega), q_upO (by omega), q_upO (by omega)], fun b h1 h2 => ?_⟩
      by_cases eb : b = i
      · subst eb
        rw [e2 9 b (by omega), e2 10 b (by omega), e2 11 b (by omega), e2 12 b (by omega), e2 2 b (by omega)]
        simp (disch := omega) only [q_upN, q_upE]
        exact ⟨trivial, trivial, trivial, trivial, trivial⟩
      · have := e3 b (by omega) h2
        simp (disch := omega) only [q_upN] at this
        exact this
theorem r_brings (ν : nk_M) : ∃ ν', zf_M_bringsBack ν = some ((), ν') ∧ (∀ a b, ¬ (a = 2 ∨ (9 ≤ a ∧ a ≤ 12)) → ν' a b = ν a b) ∧ ∀ b, b < 8 → ν' 9 b = ν 18 b ∧ ν' 10 b = ν 19 b ∧ ν' 11 b = ν 20 b ∧ ν' 12 b = ν 21 b ∧ ν' 2 b = ν 22 b := by
  obtain ⟨ν', e1, e2, e3⟩ := r_brings_b nk_fu 0 ν (by omega) (by show _ < 4096; omega)
  exact ⟨ν', e1, fun a b h => e2 a b (by omega), fun b h => e3 b (by omega) h⟩
/-- after a trial all is as it was -/
theorem RR_back {μ ν μ' ν1 ν2 ν3 : nk_M} (h : RR μ ν) (hC : ∀ k j, k ≠ 2 → ¬ (15 ≤ k ∧ k ≤ 23) → μ' k j = μ k j) (hT : R_T μ')
    (k1 : ∀ a b, ¬ (18 ≤ a ∧ a ≤ 22) → ν1 a b = ν a b) (k2 : ∀ b, b < 8 → ν1 18 b = ν 9 b ∧ ν1 19 b = ν 10 b ∧ ν1 20 b = ν 11 b ∧ ν1 21 b = ν 12 b ∧ ν1 22 b = ν 2 b)
    (hF : ∀ k j, k ≠ 2 → ¬ (9 ≤ k ∧ k ≤ 16) → (k = 0 → j ≠ 17 ∧ (j < 21 ∨ 27 < j) ∧ j ≠ 30 ∧ j ≠ 40) → ν2 k j = ν1 k j)
    (b1 : ∀ a b, ¬ (a = 2 ∨ (9 ≤ a ∧ a ≤ 12)) → ν3 a b = ν2 a b) (b2 : ∀ b, b < 8 → ν3 9 b = ν2 18 b ∧ ν3 10 b = ν2 19 b ∧ ν3 11 b = ν2 20 b ∧ ν3 12 b = ν2 21 b ∧ ν3 2 b = ν2 22 b) : RR μ' ν3 := by
  have hR1 : ∀ k j, ¬ (9 ≤ k ∧ k ≤ 16) → ¬ (18 ≤ k ∧ k ≤ 22) → k ≠ 2 → (k = 0 → j ≠ 17 ∧ (j < 21 ∨ 27 < j) ∧ j ≠ 30 ∧ j ≠ 40) → ν3 k j = ν k j := fun k j h1 h2 h3 h4 => by
    rw [b1 k j (by omega), hF k j h3 h1 h4, k1 k j h2]
  have hR2 : ∀ b, b < 8 → ν3 9 b = ν 9 b ∧ ν3 10 b = ν 10 b ∧ ν3 11 b = ν 11 b ∧ ν3 12 b = ν 12 b ∧ ν3 2 b = ν 2 b := fun b hb => by
    obtain ⟨x1, x2, x3, x4, x5⟩ := b2 b hb
    obtain ⟨y1, y2, y3, y4, y5⟩ := k2 b hb
    rw [x1, x2, x3, x4, x5, hF 18 b (by omega) (by omega) (by omega), hF 19 b (by omega) (by omega) (by omega), hF 20 b (by omega) (by omega) (by omega), hF 21 b (by omega) (by omega) (by omega), hF 22 b (by omega) (by omega) (by omega)]
    exact ⟨y1, y2, y3, y4, y5⟩
  obtain ⟨N, fm, pt, ⟨⟨s1, s2, s3, s4⟩, ⟨d1, d2, d3, d4, d5⟩, hp⟩, hL, -, hD, hS, hF⟩ := h
  refine ⟨N, fm, pt, ⟨⟨s1, by rw [hC 1 0 (by omega) (by omega)]; exact s2, by rw [hR1 0 1 (by omega) (by omega) (by omega) (by omega)]; exact s3, fun c hc => ?_⟩, ⟨⟨by rw [hR1 0 29 (by omega) (by omega) (by omega) (by omega)]; exact d1.1, by rw [hC 1 9 (by omega) (by omega)]; exact d1.2⟩, fun c hc => ?_, fun c hc => ?_, fun c hc e => ?_, fun c hc => by rw [hC 13 c (by omega) (by omega)]; exact d5 c hc⟩, fun c hc => by rw [hC 7 c (by omega) (by omega)]; exact hp c hc⟩, R_L_c hL (fun k j h => hC k j (by omega) (by omega)) (fun k j h => hR1 k j (by omega) (by omega) (by omega) (by omega)), hT, R_D_c hD (fun k j h => hC k j (by omega) (by omega)) (fun k j h => hR1 k j (by omega) (by omega) (by omega) (by omega)), R_S_c hS (fun k j h => hC k j (by omega) (by omega)) (fun k j h => hR1 k j (by omega) (by omega) (by omega) (by omega)), R_F_c hF (fun j h => hC 0 j (by omega) (by omega)) (fun j h => hR1 0 j (by omega) (by omega) (by omega) (by omega))⟩
  · obtain ⟨z1, z2, z3, z4, z5⟩ := hR2 c (by omega)
    obtain ⟨a1, a2, a3, a4, a5, a6, a7⟩ := s4 c hc
    refine ⟨a1, by rw [hC 8 c (by omega) (by omega)]; exact a2, by rw [hR1 3 c (by omega) (by omega) (by omega) (by omega)]; exact a3, by rw [hC 6 c (by omega) (by omega), hR1 1 c (by omega) (by omega) (by omega) (by omega)]; exact a4, by rw [hR1 1 c (by omega) (by omega) (by omega) (by omega)]; exact a5, by rw [hC 7 c (by omega) (by omega), z5]; exact a6, fun k hk => ?_⟩
    rw [hC 9 _ (by omega) (by omega), hR1 4 _ (by omega) (by omega) (by omega) (by omega)]
    exact a7 k hk
  · obtain ⟨z1, z2, z3, z4, z5⟩ := hR2 c (by omega)
    rw [hC 10 c (by omega) (by omega), z1]; exact d2 c hc
  · obtain ⟨z1, z2, z3, z4, z5⟩ := hR2 c (by omega)
    rw [hC 12 c (by omega) (by omega), z4]; exact d3 c hc
  · obtain ⟨z1, z2, z3, z4, z5⟩ := hR2 c (by omega)
    rw [hC 10 c (by omega) (by omega)] at e
    rw [hC 11 c (by omega) (by omega), z2, z3]; exact d4 c hc e

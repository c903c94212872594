/-! ===== 34: put, cell, copy ===== -/
section PPu
variable {μ ν : nk_M}
theorem q_neg1 {l : Nat} (h : l < 2147483648) : ¬ nI l = -1 := fun z => by
  have := congrArg Int32.toInt z
  rw [q_nI h, show (-1 : Int32).toInt = -1 by decide] at this
  omega
theorem q_le0 {s : Nat} (h : s < 2147483648) : (0 : Int32) ≤ nI s := by rw [show (0 : Int32) = nI 0 from rfl, q_le (by omega) h]; omega
theorem q_nlt0 {s : Nat} (h : s < 2147483648) : ¬ nI s < (0 : Int32) := fun z => (q_lt0 h).mp z
theorem q_sz {s : Nat} (h : s ≤ 60) : ((nI s).toInt64 - 1).toInt = (s : Int) - 1 := by
  rw [Int64.toInt_sub, Int32.toInt_toInt64, q_nI (by omega), show (1 : Int64).toInt = 1 by decide]
  simp only [Int.bmod]
  omega
/-- is there a place i on sheet k: the same answer -/
theorem k_place {k : Nat} (i : Int32) (hS : R_S μ ν) (hk : k < 4) :
    (μ 31 k = -nI 1 ∧ zf_M_noCell (nI k) i ν = some (nI 1, ν) ∧ ν 25 k = -nI 1) ∨ ∃ l s, l ≤ 2 ∧ s ≤ 60 ∧ μ 31 k = nI l ∧ ν 26 k = nI l ∧ μ 32 k = nI s ∧ ν 25 k = nI s ∧ (∀ x, x < s → ν 27 (60 * k + x) = μ (27 + k) x) ∧
      ((zf_M_noCell (nI k) i ν = some (nI 3, ν) ∧ zf_S_isRange (nI k) i (nI 1) μ = some (nI 0, μ)) ∨ ∃ j, j < s ∧ i = nI j ∧ zf_M_noCell (nI k) i ν = some (nI 0, ν) ∧ zf_S_isRange (nI k) i (nI 1) μ = some (nI 1, μ)) := by
  rcases hS k hk with ⟨e1, e2⟩ | ⟨l, s, e1, e2, e3, e4, e5, e6, e7⟩
  · refine Or.inl ⟨e1, ?_, e2⟩
    unfold zf_M_noCell
    rw [q_ald hk (by omega), e2, if_neg (by decide)]
    rfl
  · refine Or.inr ⟨l, s, e1, e2, e3, e4, e5, e6, e7, ?_⟩
    have hr := e_isRange i (nI 1) μ hk e5 e2
    rw [q_nI (n := 1) (by omega)] at hr
    have hn : zf_M_noCell (nI k) i ν = nk_bd (zf_M_in i.toInt64 0 ((nI s).toInt64 - 1) ν) (fun r3 m1 => (if r3 = 0 then (zf_M_noCell_b36 (3 : Int32) m1) else (zf_M_noCell_b36 (0 : Int32) m1))) := by
      unfold zf_M_noCell
      rw [q_ald hk (by omega), e6, if_pos (q_le0 (by omega)), q_ald hk (by omega), e6]
    by_cases e : 0 ≤ i.toInt ∧ i.toInt ≤ (s : Int) - 1
    · refine Or.inr ?_
      obtain ⟨j, hj, -, hj2⟩ := q_of (x := i) (a := 0) (b := s) (by omega)
      refine ⟨j, ?_, hj, ?_, ?_⟩
      · rw [hj, q_nI (by omega)] at e; omega
      · rw [hn, r_inT (x := i) ν 0 ((s : Int) - 1) (by decide) (q_sz e2) e]; rfl
      · rw [hr, if_pos (by omega)]
    · refine Or.inl ⟨?_, ?_⟩
      · rw [hn, r_inF (x := i) ν 0 ((s : Int) - 1) (by decide) (q_sz e2) e]; rfl
      · rw [hr, if_neg (by omega)]
theorem RR_row {k j l s : Nat} {x : Int32} (h : RR μ ν) (hk : k < 4) (hj : j < s) (h1 : l ≤ 2) (h2 : s ≤ 60) (h3 : μ 31 k = nI l) (h4 : ν 26 k = nI l) (h5 : μ 32 k = nI s) (h6 : ν 25 k = nI s) (h7 : ∀ x, x < s → ν 27 (60 * k + x) = μ (27 + k) x) : RR (nk_up μ (27 + k) j x) (nk_up ν 27 (60 * k + j) x) := by
  refine RR_sheet h (fun a b h => q_upN (by omega)) (fun a b h => q_upN (by omega)) (fun k' hk' => ?_)
  rw [q_upN (by omega), q_upN (by omega), q_upN (by omega), q_upN (by omega)]
  by_cases e : k' = k
  · subst e
    refine Or.inr ⟨l, s, h1, h2, h3, h4, h5, h6, fun i hi => ?_⟩
    by_cases e2 : i = j
    · subst e2; rw [q_upE, q_upE]
    · rw [q_upM (by omega), q_upM (by omega)]; exact h7 i hi
  · rcases RR_S h k' hk' with z | ⟨l, n, z1, z2, z3, z4, z5, z6, z7⟩
    · exact Or.inl z
    · exact Or.inr ⟨l, n, z1, z2, z3, z4, z5, z6, fun i hi => by rw [q_upO (by omega), q_upN (by omega)]; exact z7 i hi⟩
theorem R_S_f (h : R_S μ ν) (x : Int32) : R_S (nk_up μ 0 6 x) ν := R_S_c h (fun k j h => q_upN (by omega)) (fun _ _ _ => rfl)
theorem p_put (a b c : Int32) (h : RR μ ν) : p_ok (zf_N_put a b c μ) (zf_M_put a b c ν) := by
  have hS := R_S_f (RR_S h) (nI 0)
  unfold zf_N_put
  rw [u_pf, u_lit 0]
  rcases pk_ix a (n := 4) (by omega) with e | e | ⟨k, hk, rfl⟩
  · obtain ⟨g1, g2⟩ := hs_out (nk_up μ 0 6 (nI 0)) ν (Or.inl e)
    exact ⟨-nI 1, _, _, by rw [g1]; rfl, by unfold zf_M_put; rw [g2]; rfl, RR_fault h (nI 0)⟩
  · obtain ⟨g1, g2⟩ := hs_out (nk_up μ 0 6 (nI 0)) ν (Or.inr e)
    exact ⟨-nI 1, _, _, by rw [g1]; rfl, by unfold zf_M_put; rw [g2]; rfl, RR_fault h (nI 0)⟩
  · obtain ⟨g1, g2⟩ := hs_in (nk_up μ 0 6 (nI 0)) ν hk
    unfold zf_M_put
    rw [g1, g2, u_bd, u_bd, if_neg (by decide), if_pos (by decide), q_ald (k := 31) hk (by omega)]
    unfold zf_S_rangeFault
    rw [q_ald (k := 31) hk (by omega)]
    rcases k_place b hS hk with ⟨e1, e2, e3⟩ | ⟨l, s, e1, e2, e3, e4, e5, e6, e7, e8⟩
    · refine ⟨-nI 10 - nI 1, nk_up (nk_up μ 0 6 (nI 0)) 0 6 (nI 1), nk_up ν 0 0 (nI 1), ?_, ?_, by rw [q_upU]; exact RR_fault h (nI 1)⟩
      · rw [e1, if_pos (by decide)]; rfl
      · rw [e2, u_bd, if_neg (by decide), e2]; rfl
    · rw [e3, if_neg (q_neg1 (by omega)), q_ald (k := 31) hk (by omega), e3, if_pos rfl, if_pos (show (0 : Int32) ≤ 1 by decide), u_lit 1]
      rcases e8 with ⟨z1, z2⟩ | ⟨j, hj, rfl, z1, z2⟩
      · refine ⟨-nI 10 - nI 3, nk_up (nk_up μ 0 6 (nI 0)) 0 6 (nI 3), nk_up ν 0 0 (nI 3), ?_, ?_, by rw [q_upU]; exact RR_fault h (nI 3)⟩
        · rw [z2]; rfl
        · rw [z1, u_bd, if_neg (by decide), z1]; rfl
      · skip
        have key : ∀ x : Int32, RR (nk_up (nk_up μ 0 6 (nI 0)) (27 + k) j x) (nk_up (nk_up ν 27 (60 * k + j) x) 0 0 (nI 0)) := fun x => by
          rw [q_upC (by omega)]
          refine RR_fault (RR_row h hk hj e1 e2 ?_ e4 ?_ e6 ?_) (nI 0)
          · rw [← e3, q_upN (by omega)]
          · rw [← e5, q_upN (by omega)]
          · intro x hx; rw [e7 x hx, q_upN (by omega)]
        have eC : zf_S_setCut (nI k) (nI j) c (nk_up μ 0 6 (nI 0)) = some ((), nk_up (nk_up μ 0 6 (nI 0)) (27 + k) j (if l = 0 then c.toInt8.toInt32 else if l = 1 then c.toInt16.toInt32 else c)) := by
          unfold zf_S_setCut
          rw [q_ald (k := 31) hk (by omega), e3]
          rcases (show l = 0 ∨ l = 1 ∨ l = 2 by omega) with rfl | rfl | rfl
          · rw [if_pos (by decide), q_ard hk (by omega), q_clamp (by omega), q_ast (by omega) (by omega)]; rfl
          · rw [if_neg (by decide), if_pos (by decide), q_ard hk (by omega), q_clamp (by omega), q_ast (by omega) (by omega)]; rfl
          · rw [if_neg (by decide), if_neg (by decide), q_ard hk (by omega), q_clamp (by omega), q_ast (by omega) (by omega)]; rfl
        have eR : ∀ x : Int32, zf_M_put_b73 (((60 : Int32) * nI k) + nI j) x ν = some (nI 1, nk_up (nk_up ν 27 (60 * k + j) x) 0 0 (nI 0)) := fun x => by
          unfold zf_M_put_b73
          rw [u_lit 60, q_mul, q_add, q_ast (by omega) (by omega)]
          rfl
        refine ⟨nI 1, _, _, ?_, ?_, key (if l = 0 then c.toInt8.toInt32 else if l = 1 then c.toInt16.toInt32 else c)⟩
        · rw [z2, u_bd, if_neg (by decide), show zf_S_rangeFault_b47 0 (nk_up μ 0 6 (nI 0)) = some (nI 0, nk_up μ 0 6 (nI 0)) from rfl, u_bd, if_pos rfl, eC, u_bd]
        · rw [z1, u_bd, if_pos (by decide), q_ald (k := 26) hk (by omega), e4]
          rcases (show l = 0 ∨ l = 1 ∨ l = 2 by omega) with rfl | rfl | rfl
          · rw [if_pos (by decide), eR]; rfl
          · rw [if_neg (by decide), q_ald (k := 26) hk (by omega), e4, if_pos (by decide), eR]; rfl
          · rw [if_neg (by decide), q_ald (k := 26) hk (by omega), e4, if_neg (by decide), eR]; rfl
theorem p_cell (a b c : Int32) (h : RR μ ν) : p_ok (zf_N_cell a b c μ) (zf_M_cell a b c ν) := by
  have hS := R_S_f (RR_S h) (nI 0)
  have hS2 : R_S (nk_up μ 0 6 (nI 0)) (nk_up ν 0 0 (nI 0)) := R_S_c hS (fun _ _ _ => rfl) (fun k j h => q_upN (by omega))
  have h0 := RR_fault h (nI 0)
  unfold zf_N_cell zf_M_cell
  rw [u_pf, u_pf, u_lit 0]
  rcases pk_ix a (n := 4) (by omega) with e | e | ⟨k, hk, rfl⟩
  · obtain ⟨g1, g2⟩ := hs_out (nk_up μ 0 6 (nI 0)) (nk_up ν 0 0 (nI 0)) (Or.inl e)
    exact ⟨_, _, _, by rw [g1]; rfl, by rw [g2]; rfl, h0⟩
  · obtain ⟨g1, g2⟩ := hs_out (nk_up μ 0 6 (nI 0)) (nk_up ν 0 0 (nI 0)) (Or.inr e)
    exact ⟨_, _, _, by rw [g1]; rfl, by rw [g2]; rfl, h0⟩
  · obtain ⟨g1, g2⟩ := hs_in (nk_up μ 0 6 (nI 0)) (nk_up ν 0 0 (nI 0)) hk
    have hl := e_isLane c (nk_up μ 0 6 (nI 0))
    by_cases el : 0 ≤ c.toInt ∧ c.toInt ≤ 2
    · have hin := r_inT (x := c) (l := 0) (h := 2) (nk_up ν 0 0 (nI 0)) 0 2 (by decide) (by decide) el
      rw [if_pos el] at hl
      rw [g1, g2, u_bd, u_bd, if_neg (by decide), if_pos (by decide), hl, hin, u_bd, u_bd, if_neg (by decide), if_neg (by decide), q_ald (k := 25) hk (by omega)]
      unfold zf_S_rangeFault
      rw [q_ald (k := 31) hk (by omega)]
      rcases k_place b hS2 hk with ⟨e1, e2, e3⟩ | ⟨l, s, e1, e2, e3, e4, e5, e6, e7, e8⟩
      · refine ⟨(-9223372036854775808 : Int64), nk_up (nk_up μ 0 6 (nI 0)) 0 6 (nI 1), nk_up (nk_up ν 0 0 (nI 0)) 0 0 (nI 1), ?_, ?_, RR_fault h0 (nI 1)⟩
        · rw [e1, if_pos (by decide), u_lit 1, u_bd, u_pf, q_upE, if_neg (by decide)]; rfl
        · rw [e3, if_pos (by decide)]
          unfold zf_M_cell_b53
          rw [e2, u_bd, if_neg (by decide), e2, u_bd]
          rfl
      · rw [e3, e6, if_neg (q_neg1 (by omega)), q_ald (k := 31) hk (by omega), e3, if_neg (show ¬ nI s < nI 0 from q_nlt0 (by omega)), q_ald (k := 26) hk (by omega), e4]
        by_cases hla : nI l = c
        · rw [if_pos hla, if_pos hla, if_pos (show (0 : Int32) ≤ 1 by decide), u_lit 1]
          unfold zf_M_cell_b53
          rcases e8 with ⟨z1, z2⟩ | ⟨j, hj, rfl, z1, z2⟩
          · refine ⟨(-9223372036854775808 : Int64), nk_up (nk_up μ 0 6 (nI 0)) 0 6 (nI 3), nk_up (nk_up ν 0 0 (nI 0)) 0 0 (nI 3), ?_, ?_, RR_fault h0 (nI 3)⟩
            · rw [z2, u_bd, if_pos (by decide), show zf_S_rangeFault_b47 3 (nk_up μ 0 6 (nI 0)) = some (nI 3, nk_up μ 0 6 (nI 0)) from rfl, u_bd, u_pf, q_upE, if_neg (by decide)]; rfl
            · rw [z1, u_bd, if_neg (by decide), z1, u_bd]; rfl
          · have hv : μ (27 + k) j = ν 27 (60 * k + j) := by
              have := e7 j hj
              rw [q_upN (by omega), q_upN (by omega)] at this
              exact this.symm
            refine ⟨(μ (27 + k) j).toInt64, nk_up (nk_up μ 0 6 (nI 0)) 0 6 (nI 0), nk_up ν 0 0 (nI 0), ?_, ?_, by rw [q_upU]; exact h0⟩
            · rw [z2, u_bd, if_neg (by decide), show zf_S_rangeFault_b47 0 (nk_up μ 0 6 (nI 0)) = some (nI 0, nk_up μ 0 6 (nI 0)) from rfl, u_bd, u_pf, q_upE, if_pos rfl]
              unfold zf_S_at
              rw [q_ard hk (by omega), q_clamp (by omega), q_ald (by omega) (by omega), u_bd, q_upN (by omega), q_upN (by omega)]
              rfl
            · rw [z1, u_bd, if_pos (by decide), u_lit 60, q_mul, q_add, q_ald (by omega) (by omega), q_upN (by omega), ← hv]
              rfl
        · refine ⟨(-9223372036854775808 : Int64), nk_up (nk_up μ 0 6 (nI 0)) 0 6 (nI 2), nk_up (nk_up ν 0 0 (nI 0)) 0 0 (nI 2), ?_, ?_, RR_fault h0 (nI 2)⟩
          · rw [if_neg hla, u_lit 2, u_bd, u_pf, q_upE, if_neg (by decide)]; rfl
          · rw [if_neg hla]; rfl
    · have hin := r_inF (x := c) (l := 0) (h := 2) (nk_up ν 0 0 (nI 0)) 0 2 (by decide) (by decide) el
      rw [if_neg el] at hl
      refine ⟨(-9223372036854775808 : Int64), _, _, ?_, ?_, h0⟩
      · rw [g1, u_bd, if_neg (by decide), hl]; rfl
      · rw [g2, u_bd, if_pos (by decide), hin]; rfl
theorem r_copy2 {o j n : Nat} (ho : o < 4) (hn : j + n ≤ 60) : ∀ (f x : Nat) (ν : nk_M), x ≤ n → n - x < f → ∃ ν', zf_M_copy_b144 f (nI o) (nI j) (nI n) (nI x) ν = some (nI n, nk_up ν' 0 0 (nI 0)) ∧ (∀ a b, ¬ (a = 27 ∧ 60 * o + j + x ≤ b ∧ b < 60 * o + j + n) → ν' a b = ν a b) ∧ ∀ y, x ≤ y → y < n → ν' 27 (60 * o + j + y) = ν 28 y := by
  intro f
  induction f with
  | zero => intro x ν _ h; omega
  | succ f ih =>
    intro x ν hx hf
    rw [zf_M_copy_b144]
    by_cases e : n ≤ x
    · rw [if_pos ((q_le (by omega) (by omega)).mpr e)]
      exact ⟨ν, rfl, fun _ _ _ => rfl, fun y h1 h2 => by omega⟩
    · rw [if_neg (fun z => e ((q_le (by omega) (by omega)).mp z)), q_ald (by omega) (by omega), u_lit 60, q_mul, q_add, q_add, q_ast (by omega) (by omega), u_lit 1, q_add]
      obtain ⟨ν', e1, e2, e3⟩ := ih (x + 1) (nk_up ν 27 (60 * o + j + x) (ν 28 x)) (by omega) (by omega)
      refine ⟨ν', e1, fun a b hab => by rw [e2 a b (by omega), q_upO (by omega)], fun y h1 h2 => ?_⟩
      by_cases ey : y = x
      · subst ey; rw [e2 27 (60 * o + j + y) (by omega), q_upE]
      · rw [e3 y (by omega) h2, q_upN (by omega)]
theorem r_copy1 {k i o j n : Nat} (hk : k < 4) (hn : i + n ≤ 60) : ∀ (f x : Nat) (ν : nk_M), x ≤ n → n - x < f → ∃ ν', zf_M_copy_b107 f (nI k) (nI i) (nI o) (nI j) (nI n) (nI x) ν = zf_M_copy_b144 nk_fu (nI o) (nI j) (nI n) (nI 0) ν' ∧ (∀ a b, a ≠ 28 → ν' a b = ν a b) ∧ (∀ y, y < x → ν' 28 y = ν 28 y) ∧ ∀ y, x ≤ y → y < n → ν' 28 y = ν 27 (60 * k + i + y) := by
  intro f
  induction f with
  | zero => intro x ν _ h; omega
  | succ f ih =>
    intro x ν hx hf
    rw [zf_M_copy_b107]
    by_cases e : n ≤ x
    · rw [if_pos ((q_le (by omega) (by omega)).mpr e)]
      exact ⟨ν, rfl, fun _ _ _ => rfl, fun _ _ => rfl, fun y h1 h2 => by omega⟩
    · rw [if_neg (fun z => e ((q_le (by omega) (by omega)).mp z)), u_lit 60, q_mul, q_add, q_add, q_ald (by omega) (by omega), q_ast (by omega) (by omega), u_lit 1, q_add]
      obtain ⟨ν', e1, e2, e3, e4⟩ := ih (x + 1) (nk_up ν 28 x (ν 27 (60 * k + i + x))) (by omega) (by omega)
      refine ⟨ν', e1, fun a b hab => by rw [e2 a b hab, q_upN hab], fun y hy => by rw [e3 y (by omega), q_upM (by omega)], fun y h1 h2 => ?_⟩
      by_cases ey : y = x
      · subst ey; rw [e3 y (by omega), q_upE]
      · rw [e4 y (by omega) h2, q_upN (by omega)]
theorem q_cpy {α : Type} {k0 n0 k1 n1 a b n : Nat} {K : nk_M → Option (α × nk_M)} (h0 : a + n ≤ n0) (h1 : b + n ≤ n1) (hn0 : n0 < 2147483648) (hn1 : n1 < 2147483648) : nk_cpy μ k0 n0 (nI a) k1 n1 (nI b) (nI n) K = K (nk_upA μ k1 (va_cpy (μ k0) (μ k1) a b n)) := by
  unfold nk_cpy
  rw [if_neg, q_clamp (by omega), q_clamp (by omega), q_clamp (by omega)]
  rw [q_clamp (by omega), q_clamp (by omega), q_clamp (by omega)]
  rintro (z | z | z | z | z)
  · exact q_nlt0 (by omega) z
  · exact q_nlt0 (by omega) z
  · exact q_nlt0 (by omega) z
  · omega
  · omega
theorem p_copy (a b c d e : Int32) (h : RR μ ν) : p_ok (zf_N_copy a b c d e μ) (zf_M_copy a b c d e ν) := by
  have hS := R_S_f (RR_S h) (nI 0)
  have hm : -4294967296 ≤ e.toInt ∧ e.toInt ≤ 4294967296 := by
    have h1 := Int32.le_toInt e
    have h2 := Int32.toInt_lt e
    omega
  unfold zf_N_copy zf_M_copy
  rw [u_pf, u_lit 0]
  have out1 : ∀ x : Int32, (x < 0 ∨ nI 4 ≤ x) → zf_S_has x (nk_up μ 0 6 (nI 0)) = some (nI 0, nk_up μ 0 6 (nI 0)) ∧ zf_M_noSheet x ν = some (nI 1, ν) := fun x hx => hs_out _ _ hx
  have hin2 : ∀ k, k < 4 → zf_S_has (nI k) (nk_up μ 0 6 (nI 0)) = some (nI 1, nk_up μ 0 6 (nI 0)) ∧ zf_M_noSheet (nI k) ν = some (nI 0, ν) := fun k hk => hs_in _ _ hk
  have h4 : ∀ x : Int32, (x < 0 ∨ nI 4 ≤ x) ∨ ∃ k, k < 4 ∧ x = nI k := fun x => by
    rcases pk_ix x (n := 4) (by omega) with z | z | z
    · exact Or.inl (Or.inl z)
    · exact Or.inl (Or.inr z)
    · exact Or.inr z
  rcases h4 a with ea | ⟨k, hk, rfl⟩
  · obtain ⟨g1, g2⟩ := out1 a ea
    exact ⟨-nI 1, _, _, by rw [g1]; rfl, by rw [g2]; rfl, RR_fault h (nI 0)⟩
  · obtain ⟨g1, g2⟩ := hin2 k hk
    rw [g1, g2, u_bd, u_bd, if_neg (by decide), if_pos (by decide)]
    rcases h4 c with ec | ⟨o, ho, rfl⟩
    · obtain ⟨g3, g4⟩ := out1 c ec
      exact ⟨-nI 1, _, _, by rw [g3]; rfl, by rw [g4]; rfl, RR_fault h (nI 0)⟩
    · obtain ⟨g3, g4⟩ := hin2 o ho
      rw [g3, g4, u_bd, u_bd, if_neg (by decide), if_pos (by decide), q_ald (k := 25) hk (by omega)]
      unfold zf_S_moveFault
      rw [q_ald (k := 31) hk (by omega)]
      have bad : ∀ f : Int32, RR (nk_up (nk_up μ 0 6 (nI 0)) 0 6 f) (nk_up ν 0 0 f) := fun f => by rw [q_upU]; exact RR_fault h f
      rcases hS k hk with ⟨x1, x2⟩ | ⟨l, s, x1, x2, x3, x4, x5, x6, x7⟩
      · refine ⟨-nI 10 - nI 1, _, _, ?_, ?_, bad (nI 1)⟩
        · rw [x1, if_pos (by decide)]; rfl
        · rw [x2, if_pos (by decide)]; rfl
      · rw [x3, x6, if_neg (q_neg1 (by omega)), if_neg (show ¬ nI s < nI 0 from q_nlt0 (by omega)), q_ald (k := 31) ho (by omega), q_ald (k := 25) ho (by omega)]
        rcases hS o ho with ⟨y1, y2⟩ | ⟨l', s', y1, y2, y3, y4, y5, y6, y7⟩
        · refine ⟨-nI 10 - nI 1, _, _, ?_, ?_, bad (nI 1)⟩
          · rw [y1, if_pos (by decide)]; rfl
          · rw [y2, if_neg (by decide)]; rfl
        · rw [y3, y6, if_neg (q_neg1 (by omega)), if_pos (show nI 0 ≤ nI s' from q_le0 (by omega)), q_ald (k := 31) hk (by omega), q_ald (k := 31) ho (by omega), q_ald (k := 26) hk (by omega), q_ald (k := 26) ho (by omega), x3, y3, x4, y4]
          by_cases hla : nI l = nI l'
          · rw [if_pos hla, if_pos hla, e_isRange b e _ hk x5 x2, u_bd, q_ald (k := 25) hk (by omega), x6, r_isBeyond b e.toInt64 s ν (Int32.toInt_toInt64 e) hm x2, u_bd]
            by_cases r1 : 0 ≤ b.toInt ∧ 0 ≤ e.toInt ∧ b.toInt + e.toInt ≤ s
            · rw [if_pos r1, if_pos r1, if_neg (by decide), if_pos rfl, e_isRange d e _ ho y5 y2, u_bd, q_ald (k := 25) ho (by omega), y6, r_isBeyond d e.toInt64 s' ν (Int32.toInt_toInt64 e) hm y2, u_bd]
              by_cases r2 : 0 ≤ d.toInt ∧ 0 ≤ e.toInt ∧ d.toInt + e.toInt ≤ s'
              · rw [if_pos r2, if_pos r2, if_neg (by decide), if_pos rfl, show zf_S_moveFault_b67 0 (nk_up μ 0 6 (nI 0)) = some (nI 0, nk_up μ 0 6 (nI 0)) from rfl, u_bd, if_pos rfl]
                obtain ⟨i, rfl, -, hi⟩ := q_of (x := b) (a := 0) (b := s) (by omega)
                obtain ⟨j, rfl, -, hj⟩ := q_of (x := d) (a := 0) (b := s') (by omega)
                obtain ⟨n, rfl, -, hn⟩ := q_of (x := e) (a := 0) (b := s) (by omega)
                rw [q_nI (by omega), q_nI (by omega)] at r1 r2
                obtain ⟨ν1, c1, c2, -, c4⟩ := r_copy1 (k := k) (i := i) (o := o) (j := j) (n := n) hk (by omega) nk_fu 0 ν (by omega) (by show _ < 4096; omega)
                obtain ⟨ν2, d1, d2, d3⟩ := r_copy2 (o := o) (j := j) (n := n) ho (by omega) nk_fu 0 ν1 (by omega) (by show _ < 4096; omega)
                refine ⟨nI n, nk_upA (nk_up μ 0 6 (nI 0)) (27 + o) (va_cpy ((nk_up μ 0 6 (nI 0)) (27 + k)) ((nk_up μ 0 6 (nI 0)) (27 + o)) i j n), nk_up ν2 0 0 (nI 0), ?_, ?_, ?_⟩
                · unfold zf_S_move
                  rw [q_ard hk (by omega), q_ard ho (by omega), q_clamp (by omega), q_clamp (by omega), q_cpy (by omega) (by omega) (by omega) (by omega)]
                  rfl
                · rw [c1]; exact d1
                · have h1 : RR (nk_upA μ (27 + o) (va_cpy (μ (27 + k)) (μ (27 + o)) i j n)) ν2 := by
                    refine RR_sheet h (fun a b h => by rw [q_upA, if_neg (by omega)]) (fun a b h => by rw [d2 a b (by omega), c2 a b (by omega)]) (fun k' hk' => ?_)
                    rw [q_upA, if_neg (by omega), q_upA, if_neg (by omega), d2 25 k' (by omega), d2 26 k' (by omega), c2 25 k' (by omega), c2 26 k' (by omega)]
                    have X7 : ∀ i, i < s → ν 27 (60 * k + i) = μ (27 + k) i := fun i hi => by rw [x7 i hi, q_upN (by omega)]
                    by_cases eo : k' = o
                    · subst eo
                      refine Or.inr ⟨l', s', y1, y2, by rw [← y3, q_upN (by omega)], y4, by rw [← y5, q_upN (by omega)], y6, fun y hy => ?_⟩
                      rw [q_upA, if_pos rfl]
                      by_cases ey : j ≤ y ∧ y < j + n
                      · rw [pk_cpy_in ey.1 ey.2, ← X7 (i + (y - j)) (by omega)]
                        have z1 := d3 (y - j) (by omega) (by omega)
                        rw [show 60 * k' + j + (y - j) = 60 * k' + y by omega] at z1
                        rw [z1, c4 (y - j) (by omega) (by omega), show 60 * k + i + (y - j) = 60 * k + (i + (y - j)) by omega]
                      · rw [pk_cpy_out (by omega), d2 27 (60 * k' + y) (by omega), c2 27 _ (by omega), y7 y hy, q_upN (by omega)]
                    · rcases RR_S h k' hk' with z | ⟨l2, n2, z1, z2, z3, z4, z5, z6, z7⟩
                      · exact Or.inl z
                      · exact Or.inr ⟨l2, n2, z1, z2, z3, z4, z5, z6, fun y hy => by rw [d2 27 (60 * k' + y) (by omega), c2 27 _ (by omega), q_upA, if_neg (by omega)]; exact z7 y hy⟩
                  have hf : ∀ a, a ≠ 0 → (nk_up μ 0 6 (nI 0)) a = μ a := fun a ha => funext fun b => q_upN ha
                  have h2 := RR_fault h1 (nI 0)
                  have h3 : nk_upA (nk_up μ 0 6 (nI 0)) (27 + o) (va_cpy ((nk_up μ 0 6 (nI 0)) (27 + k)) ((nk_up μ 0 6 (nI 0)) (27 + o)) i j n) = nk_up (nk_upA μ (27 + o) (va_cpy (μ (27 + k)) (μ (27 + o)) i j n)) 0 6 (nI 0) := by
                    rw [hf _ (by omega), hf _ (by omega)]
                    apply q_ext
                    intro x y
                    by_cases e1 : x = 27 + o
                    · rw [q_upA, if_pos e1, q_upN (by omega), q_upA, if_pos e1]
                    · rw [q_upA, if_neg e1]
                      by_cases e2 : x = 0 ∧ y = 6
                      · rw [e2.1, e2.2, q_upE, q_upE]
                      · rw [q_upO e2, q_upO e2, q_upA, if_neg e1]
                  rw [h3]
                  exact h2
              · refine ⟨-nI 10 - nI 3, _, _, ?_, ?_, bad (nI 3)⟩
                · rw [if_neg r2, if_pos (by decide)]; rfl
                · rw [if_neg r2, if_neg (by decide)]; rfl
            · refine ⟨-nI 10 - nI 3, _, _, ?_, ?_, bad (nI 3)⟩
              · rw [if_neg r1, if_pos (by decide)]; rfl
              · rw [if_neg r1, if_neg (by decide)]; rfl
          · refine ⟨-nI 10 - nI 2, _, _, ?_, ?_, bad (nI 2)⟩
            · rw [if_neg hla]; rfl
            · rw [if_neg hla]; rfl
end PPu

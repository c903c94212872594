/-! ===== 33: sheets ===== -/
theorem hs_in {k : Nat} (μ ν : nk_M) (hk : k < 4) : zf_S_has (nI k) μ = some (nI 1, μ) ∧ zf_M_noSheet (nI k) ν = some (nI 0, ν) := by
  constructor
  · simp (disch := omega) only [zf_S_has, zf_S_has_b14, u_lit, q_sub, Nat.add_sub_cancel, q_upE, q_upN, q_upM, q_upO, u_bd, u_pf, u_nm, q_ald, q_ast, q_tld, q_lt0, q_lt, q_le, q_eq, q_m9, q_9m, q_neg9, q_add, q_mul, q_zr0, q_zr1, q_clamp, if_true, if_false, if_pos, if_neg]
  · have := r_inT (x := nI k) (l := 0) (h := 3) ν 0 3 (by decide) (by decide) (by rw [q_nI (by omega)]; omega)
    unfold zf_M_noSheet
    rw [this, u_bd, if_neg (by decide)]
    rfl
theorem hs_out {x : Int32} (μ ν : nk_M) (hx : x < 0 ∨ nI 4 ≤ x) : zf_S_has x μ = some (nI 0, μ) ∧ zf_M_noSheet x ν = some (nI 1, ν) := by
  have hx2 : x.toInt < 0 ∨ 4 ≤ x.toInt := by
    rcases hx with h | h
    · left; rw [q_iff_lt] at h; simpa using h
    · right; rw [q_iff_le, q_nI (by omega)] at h; exact h
  constructor
  · unfold zf_S_has
    by_cases h' : x < 0
    · rw [if_pos h']; rfl
    · rcases hx with h | h
      · exact absurd h h'
      · rw [if_neg h', if_pos (show (4 : Int32) ≤ x from h)]; rfl
  · have := r_inF (x := x) (l := 0) (h := 3) ν 0 3 (by decide) (by decide) (by omega)
    unfold zf_M_noSheet
    rw [this, u_bd, if_pos (by decide)]
    rfl
theorem e_isLane (x : Int32) (μ : nk_M) : zf_N_isLane x μ = some (if 0 ≤ x.toInt ∧ x.toInt ≤ 2 then nI 1 else nI 0, μ) := by
  unfold zf_N_isLane
  by_cases h : x < 0
  · have h2 : x.toInt < 0 := by rw [q_iff_lt] at h; simpa using h
    rw [if_pos h, if_neg (by omega)]; rfl
  · have h2 : ¬ x.toInt < 0 := fun z => h (by rw [q_iff_lt]; simpa using z)
    rw [if_neg h]
    by_cases h3 : (3 : Int32) ≤ x
    · have h4 : 3 ≤ x.toInt := by have := h3; rw [q_iff_le] at this; simpa using this
      rw [if_pos h3, if_neg (by omega)]; rfl
    · have h4 : ¬ 3 ≤ x.toInt := fun z => h3 (by rw [q_iff_le]; simpa using z)
      rw [if_neg h3, if_pos (by omega)]; rfl
theorem q_add64 (x : Int32) (y : Int64) {m : Int} (hy : y.toInt = m) (hm : -4294967296 ≤ m ∧ m ≤ 4294967296) : (x.toInt64 + y).toInt = x.toInt + m := by
  rw [Int64.toInt_add, Int32.toInt_toInt64, hy]
  have h1 := Int32.le_toInt x
  have h2 := Int32.toInt_lt x
  simp only [Int.bmod] 
  omega
theorem r_isBeyond (x : Int32) (y : Int64) (s : Nat) (ν : nk_M) {m : Int} (hy : y.toInt = m) (hm : -4294967296 ≤ m ∧ m ≤ 4294967296) (hs : s ≤ 60) : zf_M_isBeyond x y (nI s) ν = some (if 0 ≤ x.toInt ∧ 0 ≤ m ∧ x.toInt + m ≤ s then nI 0 else nI 1, ν) := by
  have c1 : (lg_cmp y 0 < 0) ↔ m < 0 := by
    have := q_cmpL y 0
    rw [hy, show (0 : Int64).toInt = 0 by decide] at this
    exact this
  have z1 : (nI 0).toInt = 0 := by decide
  have z2 : Int32.toInt 0 = 0 := by decide
  have c2 : (lg_cmp (x.toInt64 + y) (nI s).toInt64 ≤ 0) ↔ x.toInt + m ≤ s := by
    have := q_cmpG (x.toInt64 + y) (nI s).toInt64
    rw [q_add64 x y hy hm, Int32.toInt_toInt64, q_nI (by omega)] at this
    constructor
    · intro h
      by_cases h2 : (s : Int) < x.toInt + m
      · have h3 := this.mpr h2
        rw [q_iff_lt] at h3; rw [q_iff_le] at h; omega
      · omega
    · intro h
      by_cases h2 : lg_cmp (x.toInt64 + y) (nI s).toInt64 ≤ 0
      · exact h2
      · have : nI 0 < lg_cmp (x.toInt64 + y) (nI s).toInt64 := by rw [q_iff_lt]; rw [q_iff_le] at h2; omega
        rw [‹nI 0 < lg_cmp (x.toInt64 + y) (nI s).toInt64 ↔ _›] at this
        omega
  unfold zf_M_isBeyond
  by_cases h : x < 0
  · have h2 : x.toInt < 0 := by rw [q_iff_lt] at h; simpa using h
    rw [if_pos h, if_neg (by omega)]; rfl
  · have h2 : ¬ x.toInt < 0 := fun z => h (by rw [q_iff_lt]; simpa using z)
    rw [if_neg h]
    by_cases h3 : m < 0
    · rw [if_pos (c1.mpr h3), if_neg (by omega)]; rfl
    · rw [if_neg (fun z => h3 (c1.mp z))]
      by_cases h4 : x.toInt + m ≤ s
      · rw [if_pos (c2.mpr h4), if_pos (by omega)]; rfl
      · rw [if_neg (fun z => h4 (c2.mp z)), if_neg (by omega)]; rfl
theorem e_isRange {k s : Nat} (x n : Int32) (μ : nk_M) (hk : k < 4) (h32 : μ 32 k = nI s) (hs : s ≤ 60) : zf_S_isRange (nI k) x n μ = some (if 0 ≤ x.toInt ∧ 0 ≤ n.toInt ∧ x.toInt + n.toInt ≤ s then nI 1 else nI 0, μ) := by
  unfold zf_S_isRange
  by_cases h : x < 0
  · have h2 : x.toInt < 0 := by rw [q_iff_lt] at h; simpa using h
    rw [if_pos h, if_neg (by omega)]; rfl
  · have h2 : ¬ x.toInt < 0 := fun z => h (by rw [q_iff_lt]; simpa using z)
    rw [if_neg h, q_ald hk (by omega), h32]
    by_cases h3 : (s : Int) < x.toInt
    · rw [if_pos ((q_klt (by omega)).mpr h3), if_neg (by omega)]; rfl
    · rw [if_neg (fun z => h3 ((q_klt (by omega)).mp z))]
      by_cases h4 : n < 0
      · have h5 : n.toInt < 0 := by rw [q_iff_lt] at h4; simpa using h4
        rw [if_pos h4, if_neg (by omega)]; rfl
      · have h5 : ¬ n.toInt < 0 := fun z => h4 (by rw [q_iff_lt]; simpa using z)
        obtain ⟨j, rfl, -, hj⟩ := q_of (x := x) (a := 0) (b := s) (by omega)
        rw [if_neg h4, q_ald hk (by omega), h32, q_sub hj]
        rw [q_nI (by omega)]
        by_cases h6 : nI (s - j) < n
        · have h7 := (q_klt (by omega)).mp h6
          rw [if_pos h6, if_neg (by omega)]; rfl
        · have h7 : ¬ ((s - j : Nat) : Int) < n.toInt := fun z => h6 ((q_klt (by omega)).mpr z)
          rw [if_neg h6, if_pos (by omega)]; rfl
/-- taking cells out of a sheet: refused alike -/
theorem k_range {k : Nat} {lane i n : Int32} {y : Int64} {μ ν : nk_M} (hS : R_S μ ν) (hk : k < 4) (hl : 0 ≤ lane.toInt ∧ lane.toInt ≤ 2) (hy : y.toInt = n.toInt) :
    ∃ f, f ≤ 4 ∧ zf_S_rangeFault (nI k) lane i n μ = some (nI f, μ) ∧ zf_M_cellsBarred (nI k) lane i y ν = (if f = 0 then some (nI 0, ν) else some (-nI 10 - nI f, nk_up ν 0 0 (nI f))) ∧
      (f = 0 → ∃ s j m, s ≤ 60 ∧ i = nI j ∧ n = nI m ∧ j + m ≤ s ∧ ∀ x, x < s → ν 27 (60 * k + x) = μ (27 + k) x) := by
  have hm : -4294967296 ≤ n.toInt ∧ n.toInt ≤ 4294967296 := by
    have h1 := Int32.le_toInt n
    have h2 := Int32.toInt_lt n
    omega
  have c1 : (0 ≤ lg_cmp y 0) ↔ 0 ≤ n.toInt := by rw [lg_cmp_ge, Int64.le_iff_toInt_le, hy]; simp
  unfold zf_S_rangeFault zf_M_cellsBarred
  rw [q_ald (k := 31) hk (by omega), q_ald (k := 25) hk (by omega)]
  rcases hS k hk with ⟨e1, e2⟩ | ⟨l, s, e1, e2, e3, e4, e5, e6, e7⟩
  · refine ⟨1, by omega, ?_, ?_, fun h => by omega⟩
    · rw [e1, if_pos (by decide)]; rfl
    · rw [e2, if_pos (by decide), if_neg (by omega)]
      unfold zf_M_cellsBarred_b25
      rw [q_ald hk (by omega), e2, if_neg (by decide)]
      rfl
  · have h1 : ¬ nI l = -1 := fun z => by
      have := congrArg Int32.toInt z
      rw [q_nI (by omega), show (-1 : Int32).toInt = -1 by decide] at this
      omega
    rw [e3, if_neg h1, q_ald (k := 31) hk (by omega), e3, e6, if_neg (show ¬ nI s < 0 from fun z => (q_lt0 (a := s) (by omega)).mp z), q_ald (k := 26) hk (by omega), e4]
    by_cases hla : nI l = lane
    · rw [if_pos hla, if_pos hla]
      unfold zf_M_cellsBarred_b25
      rw [q_ald hk (by omega), e6, if_pos (show (0 : Int32) ≤ nI s by rw [show (0 : Int32) = nI 0 from rfl, q_le (by omega) (by omega)]; omega)]
      by_cases hn : 0 ≤ n.toInt
      · rw [if_pos (show (0 : Int32) ≤ n by rw [q_iff_le]; simpa using hn), if_pos (c1.mpr hn), q_ald hk (by omega), e6, e_isRange i n μ hk e5 e2, r_isBeyond i y s ν hy hm e2, u_bd, u_bd]
        by_cases hr : 0 ≤ i.toInt ∧ 0 ≤ n.toInt ∧ i.toInt + n.toInt ≤ s
        · refine ⟨0, by omega, by rw [if_pos hr]; rfl, by rw [if_pos hr]; rfl, fun _ => ?_⟩
          obtain ⟨j, hj, -, hj2⟩ := q_of (x := i) (a := 0) (b := s) (by omega)
          obtain ⟨m, hm', -, hm2⟩ := q_of (x := n) (a := 0) (b := s) (by omega)
          refine ⟨s, j, m, e2, hj, hm', ?_, e7⟩
          rw [hj, hm', q_nI (by omega), q_nI (by omega)] at hr
          omega
        · exact ⟨3, by omega, by rw [if_neg hr]; rfl, by rw [if_neg hr]; rfl, fun h => by omega⟩
      · refine ⟨4, by omega, by rw [if_neg (show ¬ (0 : Int32) ≤ n from fun z => hn (by rw [q_iff_le] at z; simpa using z))]; rfl, ?_, fun h => by omega⟩
        rw [if_neg (fun z => hn (c1.mp z)), if_neg (by omega)]
        rfl
    · refine ⟨2, by omega, by rw [if_neg hla]; rfl, ?_, fun h => by omega⟩
      rw [if_neg hla, if_neg (by omega)]
      rfl
theorem q_upC {μ : nk_M} {a b c d : Nat} {u v : Int32} (h : ¬ (a = c ∧ b = d)) : nk_up (nk_up μ a b u) c d v = nk_up (nk_up μ c d v) a b u := by
  apply q_ext
  intro x y
  by_cases e1 : x = c ∧ y = d
  · rw [e1.1, e1.2, q_upE, q_upO (by omega), q_upE]
  · by_cases e2 : x = a ∧ y = b
    · rw [e2.1, e2.2, q_upO (by omega), q_upE, q_upE]
    · rw [q_upO e1, q_upO e2, q_upO e2, q_upO e1]
/-- a row of one sheet is written alike on both sides -/
theorem RR_sheet {μ ν μ' ν' : nk_M} (h : RR μ ν) (hC : ∀ k j, k < 27 ∨ 32 < k → μ' k j = μ k j) (hR : ∀ k j, k < 25 → ν' k j = ν k j) (hS : R_S μ' ν') : RR μ' ν' := by
  obtain ⟨N, fm, pt, hA, hL, hT, hD, -, hF⟩ := h
  exact ⟨N, fm, pt, R_A_c hA (fun k j h => hC k j (by omega)) (fun k j h => hR k j (by omega)), R_L_c hL (fun k j h => hC k j (by omega)) (fun k j h => hR k j (by omega)), R_T_c hT (fun k j h => hC k j (by omega)), R_D_c hD (fun k j h => hC k j (by omega)) (fun k j h => hR k j (by omega)), hS, R_F_c hF (fun j h => hC 0 j (by omega)) (fun j h => hR 0 j (by omega))⟩
section PSh
variable {μ ν : nk_M}
theorem RR_S (h : RR μ ν) : R_S μ ν := by obtain ⟨N, fm, pt, hA, hL, hT, hD, hS, hF⟩ := h; exact hS
theorem p_lose (a : Int32) (h : RR μ ν) : p_ok (zf_N_lose a μ) (zf_M_lose a ν) := by
  have hS := RR_S h
  rcases pk_ix a (n := 4) (by omega) with e | e | ⟨k, hk, rfl⟩
  · obtain ⟨g1, g2⟩ := hs_out μ ν (Or.inl e)
    exact ⟨-nI 1, μ, ν, by unfold zf_N_lose; rw [g1]; rfl, by unfold zf_M_lose; rw [g2]; rfl, h⟩
  · obtain ⟨g1, g2⟩ := hs_out μ ν (Or.inr e)
    exact ⟨-nI 1, μ, ν, by unfold zf_N_lose; rw [g1]; rfl, by unfold zf_M_lose; rw [g2]; rfl, h⟩
  · obtain ⟨g1, g2⟩ := hs_in μ ν hk
    have hR : RR (nk_up μ 31 k (-nI 1)) (nk_up ν 25 k (-nI 1)) := RR_sheet h (fun a b h => q_upN (by omega)) (fun a b h => q_upN (by omega)) (fun k' hk' => by
      by_cases e : k' = k
      · subst e; exact Or.inl ⟨q_upE, q_upE⟩
      · rw [q_upM e, q_upM e, q_upN (by omega), q_upN (by omega)]
        rcases hS k' hk' with z | ⟨l, n, z1, z2, z3, z4, z5, z6, z7⟩
        · exact Or.inl z
        · exact Or.inr ⟨l, n, z1, z2, z3, z4, z5, z6, fun i hi => by rw [q_upN (by omega), q_upN (by omega)]; exact z7 i hi⟩)
    unfold zf_N_lose zf_M_lose
    rw [g1, g2, u_bd, u_bd, if_neg (by decide), if_pos (by decide), q_ald hk (by omega), q_ald hk (by omega)]
    rcases hS k hk with ⟨e1, e2⟩ | ⟨l, s, e1, e2, e3, e4, e5, e6, e7⟩
    · rw [e1, e2]
      refine ⟨nI 0, _, _, ?_, ?_, hR⟩
      · rw [if_pos (by decide)]; unfold zf_N_lose_b31; exact q_ast hk (by omega)
      · rw [if_neg (by decide)]; unfold zf_M_lose_b23; exact q_ast hk (by omega)
    · have h1 : ¬ nI l = -1 := fun z => by
        have := congrArg Int32.toInt z
        rw [q_nI (by omega), show (-1 : Int32).toInt = -1 by decide] at this
        omega
      rw [e3, e6, if_neg h1, if_pos (show (0 : Int32) ≤ nI s by rw [show (0 : Int32) = nI 0 from rfl, q_le (by omega) (by omega)]; omega)]
      refine ⟨nI 1, _, _, ?_, ?_, hR⟩
      · unfold zf_N_lose_b31; exact q_ast hk (by omega)
      · unfold zf_M_lose_b23; exact q_ast hk (by omega)
theorem r_sheet_b {k n : Nat} (hk : k < 4) (hn : n ≤ 60) : ∀ (f i : Nat) (ν : nk_M), i ≤ n → n - i < f → zf_M_sheet_b65 f (nI k) (nI n) (nI i) ν = some (nI 1, nk_up (q_fl ν 27 (60 * k + i) (60 * k + n) (nI 0)) 0 0 (nI 0)) := by
  intro f
  induction f with
  | zero => intro i ν _ h; omega
  | succ f ih =>
    intro i ν hi hf
    rw [zf_M_sheet_b65]
    by_cases e : n ≤ i
    · rw [if_pos ((q_le (by omega) (by omega)).mpr e), show q_fl ν 27 (60 * k + i) (60 * k + n) (nI 0) = ν from q_ext fun a b => by rw [q_flN (by omega)]]
      rfl
    · have := ih (i + 1) (nk_up ν 27 (60 * k + i) (nI 0)) (by omega) (by omega)
      rw [if_neg (fun z => e ((q_le (by omega) (by omega)).mp z)), u_lit 60, q_mul, q_add, q_ast (by omega) (by omega), u_lit 1, q_add, u_lit 0, this]
      congr 3
      apply q_ext
      intro a b
      by_cases e1 : a = 27 ∧ 60 * k + i ≤ b ∧ b < 60 * k + n
      · rw [q_flE e1]
        by_cases e2 : b = 60 * k + i
        · rw [q_flN (by omega), e2, e1.1, q_upE]
        · rw [q_flE (by omega)]
      · rw [q_flN e1, q_flN (by omega), q_upO (by omega)]
theorem p_sheet (a b c : Int32) (h : RR μ ν) : p_ok (zf_N_sheet a b c μ) (zf_M_sheet a b c ν) := by
  have hS := RR_S h
  unfold zf_N_sheet
  rw [u_pf, u_lit 0]
  rcases pk_ix a (n := 4) (by omega) with e | e | ⟨k, hk, rfl⟩
  · obtain ⟨g1, g2⟩ := hs_out (nk_up μ 0 6 (nI 0)) ν (Or.inl e)
    exact ⟨-nI 1, _, _, by rw [g1]; rfl, by unfold zf_M_sheet; rw [g2]; rfl, RR_fault h (nI 0)⟩
  · obtain ⟨g1, g2⟩ := hs_out (nk_up μ 0 6 (nI 0)) ν (Or.inr e)
    exact ⟨-nI 1, _, _, by rw [g1]; rfl, by unfold zf_M_sheet; rw [g2]; rfl, RR_fault h (nI 0)⟩
  · obtain ⟨g1, g2⟩ := hs_in (nk_up μ 0 6 (nI 0)) ν hk
    have hl := e_isLane b (nk_up μ 0 6 (nI 0))
    by_cases el : 0 ≤ b.toInt ∧ b.toInt ≤ 2
    · have hin := r_inT (x := b) (l := 0) (h := 2) ν 0 2 (by decide) (by decide) el
      rw [if_pos el] at hl
      by_cases ec : c.toInt ≤ 60
      · have ec' : c ≤ 60 := by rw [q_iff_le]; simpa using ec
        by_cases en : 0 ≤ c.toInt
        · have en' : (0 : Int32) ≤ c := by rw [q_iff_le]; simpa using en
          obtain ⟨l, rfl, -, hl2⟩ := q_of (x := b) (a := 0) (b := 2) el
          obtain ⟨n, rfl, -, hn⟩ := q_of (x := c) (a := 0) (b := 60) ⟨en, ec⟩
          refine ⟨nI 1, q_fl (nk_up (nk_up (nk_up μ 0 6 (nI 0)) 31 k (nI l)) 32 k (nI n)) (27 + k) 0 60 (nI 0), nk_up (q_fl (nk_up (nk_up ν 25 k (nI n)) 26 k (nI l)) 27 (60 * k + 0) (60 * k + n) (nI 0)) 0 0 (nI 0), ?_, ?_, ?_⟩
          · rw [g1, u_bd, if_neg (by decide), hl, u_bd, if_neg (by decide), if_pos ec', if_pos (show nI 0 ≤ nI n from en')]
            unfold zf_S_makeRow
            rw [q_ast hk (by omega), q_ast hk (by omega), q_ard hk (by omega), q_clamp (by omega), u_lit 0, e_fill (by omega)]
            rfl
          · unfold zf_M_sheet
            rw [g2, u_bd, if_pos (by decide), hin, u_bd, if_neg (by decide), if_pos ec', if_pos en', q_ast hk (by omega), q_ast hk (by omega)]
            exact r_sheet_b hk hn nk_fu 0 _ (by omega) (by show _ < 4096; omega)
          · have h1 : RR (q_fl (nk_up (nk_up μ 31 k (nI l)) 32 k (nI n)) (27 + k) 0 60 (nI 0)) (q_fl (nk_up (nk_up ν 25 k (nI n)) 26 k (nI l)) 27 (60 * k + 0) (60 * k + n) (nI 0)) := by
              refine RR_sheet h (fun a b h => by rw [q_flN (by omega), q_upN (by omega), q_upN (by omega)]) (fun a b h => by rw [q_flN (by omega), q_upN (by omega), q_upN (by omega)]) (fun k' hk' => ?_)
              by_cases e : k' = k
              · subst e
                refine Or.inr ⟨l, n, hl2, hn, ?_, ?_, ?_, ?_, fun i hi => ?_⟩
                · rw [q_flN (by omega), q_upN (by omega), q_upE]
                · rw [q_flN (by omega), q_upE]
                · rw [q_flN (by omega), q_upE]
                · rw [q_flN (by omega), q_upN (by omega), q_upE]
                · rw [q_flE (by omega), q_flE (by omega)]
              · have v1 : q_fl (nk_up (nk_up μ 31 k (nI l)) 32 k (nI n)) (27 + k) 0 60 (nI 0) 31 k' = μ 31 k' := by rw [q_flN (by omega), q_upN (by omega), q_upM e]
                have v2 : q_fl (nk_up (nk_up μ 31 k (nI l)) 32 k (nI n)) (27 + k) 0 60 (nI 0) 32 k' = μ 32 k' := by rw [q_flN (by omega), q_upM e, q_upN (by omega)]
                have v3 : q_fl (nk_up (nk_up ν 25 k (nI n)) 26 k (nI l)) 27 (60 * k + 0) (60 * k + n) (nI 0) 25 k' = ν 25 k' := by rw [q_flN (by omega), q_upN (by omega), q_upM e]
                have v4 : q_fl (nk_up (nk_up ν 25 k (nI n)) 26 k (nI l)) 27 (60 * k + 0) (60 * k + n) (nI 0) 26 k' = ν 26 k' := by rw [q_flN (by omega), q_upM e, q_upN (by omega)]
                rw [v1, v2, v3, v4]
                rcases hS k' hk' with z | ⟨l, n, z1, z2, z3, z4, z5, z6, z7⟩
                · exact Or.inl z
                · exact Or.inr ⟨l, n, z1, z2, z3, z4, z5, z6, fun i hi => by rw [q_flN (by omega), q_flN (by omega), q_upN (by omega), q_upN (by omega), q_upN (by omega), q_upN (by omega)]; exact z7 i hi⟩
            have h2 := RR_fault h1 (nI 0)
            have h3 : q_fl (nk_up (nk_up (nk_up μ 0 6 (nI 0)) 31 k (nI l)) 32 k (nI n)) (27 + k) 0 60 (nI 0) = nk_up (q_fl (nk_up (nk_up μ 31 k (nI l)) 32 k (nI n)) (27 + k) 0 60 (nI 0)) 0 6 (nI 0) := by
              rw [q_upC (a := 0) (c := 31) (by omega), q_upC (a := 0) (c := 32) (by omega)]
              apply q_ext
              intro x y
              by_cases e1 : x = 27 + k ∧ 0 ≤ y ∧ y < 60
              · rw [q_flE e1, q_upO (by omega), q_flE e1]
              · rw [q_flN e1]
                by_cases e2 : x = 0 ∧ y = 6
                · rw [e2.1, e2.2, q_upE, q_upE]
                · rw [q_upO e2, q_upO e2, q_flN e1]
            rw [h3]
            exact h2
        · have en' : ¬ (0 : Int32) ≤ c := fun z => en (by rw [q_iff_le] at z; simpa using z)
          refine ⟨-nI 10 - nI 4, nk_up (nk_up μ 0 6 (nI 0)) 0 6 (nI 4), nk_up ν 0 0 (nI 4), ?_, ?_, ?_⟩
          · rw [g1, u_bd, if_neg (by decide), hl, u_bd, if_neg (by decide), if_pos ec', if_neg (show ¬ nI 0 ≤ c from en')]
            rfl
          · unfold zf_M_sheet
            rw [g2, u_bd, if_pos (by decide), hin, u_bd, if_neg (by decide), if_pos ec', if_neg en']
            rfl
          · rw [q_upU]; exact RR_fault h _
      · have ec' : ¬ c ≤ 60 := fun z => ec (by rw [q_iff_le] at z; simpa using z)
        refine ⟨-nI 2, _, _, ?_, ?_, RR_fault h (nI 0)⟩
        · rw [g1, u_bd, if_neg (by decide), hl, u_bd, if_neg (by decide), if_neg ec']
          rfl
        · unfold zf_M_sheet
          rw [g2, u_bd, if_pos (by decide), hin, u_bd, if_neg (by decide), if_neg ec']
          rfl
    · have hin := r_inF (x := b) (l := 0) (h := 2) ν 0 2 (by decide) (by decide) el
      rw [if_neg el] at hl
      refine ⟨-nI 2, _, _, ?_, ?_, RR_fault h (nI 0)⟩
      · rw [g1, u_bd, if_neg (by decide), hl, u_bd, if_pos (by decide)]
        rfl
      · unfold zf_M_sheet
        rw [g2, u_bd, if_pos (by decide), hin, u_bd, if_pos (by decide)]
        rfl
end PSh

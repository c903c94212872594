/-! ===== 40: the acts of a day ===== -/
def k_TT (N : Nat) (fm : Nat → Nat) (pt : Nat → Nat → Nat) (μ ν : nk_M) : Prop := j_st 2 15 N fm pt μ ν ∧ k_dy true 2 15 N fm pt μ ν ∧ ν 0 40 = μ 2 10 ∧ (∀ c, c < N → ∃ p, 1 ≤ p ∧ p ≤ 9 ∧ μ 16 c = nI p) ∧ R_T μ
def d_fC (μ μ' : nk_M) : Prop := ∀ k j, k ≠ 2 → ¬ (15 ≤ k ∧ k ≤ 23) → μ' k j = μ k j
def d_fR (ν ν' : nk_M) : Prop := ∀ k j, k ≠ 2 → ¬ (9 ≤ k ∧ k ≤ 16) → (k = 0 → j ≠ 17 ∧ (j < 21 ∨ 27 < j) ∧ j ≠ 30 ∧ j ≠ 40) → ν' k j = ν k j
theorem d_fC_t {μ μ' μ2 : nk_M} (h1 : d_fC μ μ') (h2 : d_fC μ' μ2) : d_fC μ μ2 := fun k j a b => by rw [h2 k j a b, h1 k j a b]
theorem d_fR_t {ν ν' ν2 : nk_M} (h1 : d_fR ν ν') (h2 : d_fR ν' ν2) : d_fR ν ν2 := fun k j a b c => by rw [h2 k j a b c, h1 k j a b c]
/-- an act that may be told -/
def d_ok (a b : Int32) : Prop := (∃ p c, 1 ≤ p ∧ p ≤ 9 ∧ c < 8 ∧ a = nI p ∧ b = nI (10 + c)) ∨ (∃ c, c < 8 ∧ a = nI 0 ∧ b = nI c) ∨ b = nI 20 ∨ b = nI 21
theorem e_isAct (a b : Int32) : ∃ r, r ≤ 1 ∧ (r = 1 → d_ok a b) ∧ ∀ μ ν : nk_M, zf_N_isAct a b μ = some (nI r, μ) ∧ zf_M_isAsTold a b ν = some (nI r, ν) := by
  by_cases e1 : 10 ≤ b.toInt ∧ b.toInt ≤ 17
  · by_cases e2 : 1 ≤ a.toInt ∧ a.toInt ≤ 9
    · refine ⟨1, by omega, fun _ => ?_, fun μ ν => ⟨?_, ?_⟩⟩
      · obtain ⟨p, rfl, p1, p2⟩ := q_of (a := 1) (b := 9) e2
        obtain ⟨q, rfl, q1, q2⟩ := q_of (a := 10) (b := 17) e1
        exact Or.inl ⟨p, q - 10, p1, p2, by omega, rfl, by rw [show 10 + (q - 10) = q by omega]⟩
      · unfold zf_N_isAct
        rw [if_neg (l_nxlt 10 (by omega) (by omega)), if_neg (show ¬ (18 : Int32) ≤ b from fun z => by have := (q_kle (k := 18) (by omega)).mp z; omega), if_neg (l_nxlt 1 (by omega) (by omega)), if_neg (show ¬ (9 : Int32) < a from fun z => by have := (q_klt (k := 9) (by omega)).mp z; omega)]
        rfl
      · unfold zf_M_isAsTold zf_M_isPrice
        rw [r_inT (x := b) ν 10 17 (by decide) (by decide) e1, u_bd, if_neg (by decide), r_inT (x := a) ν 1 9 (by decide) (by decide) e2]
        rfl
    · refine ⟨0, by omega, fun h => (by cases h), fun μ ν => ⟨?_, ?_⟩⟩
      · unfold zf_N_isAct
        rw [if_neg (l_nxlt 10 (by omega) (by omega)), if_neg (show ¬ (18 : Int32) ≤ b from fun z => by have := (q_kle (k := 18) (by omega)).mp z; omega)]
        by_cases e3 : a.toInt < 1
        · rw [if_pos (l_xlt 1 (by omega) (by omega))]; rfl
        · rw [if_neg (l_nxlt 1 (by omega) (by omega)), if_pos (show (9 : Int32) < a from (q_klt (k := 9) (by omega)).mpr (by omega))]; rfl
      · unfold zf_M_isAsTold zf_M_isPrice
        rw [r_inT (x := b) ν 10 17 (by decide) (by decide) e1, u_bd, if_neg (by decide), r_inF (x := a) ν 1 9 (by decide) (by decide) e2]
        rfl
  · have hN : ∀ μ : nk_M, zf_N_isAct a b μ = zf_N_isAct_b29 a b μ := fun μ => by
      unfold zf_N_isAct
      by_cases e3 : b.toInt < 10
      · rw [if_pos (l_xlt 10 (by omega) (by omega))]
      · rw [if_neg (l_nxlt 10 (by omega) (by omega)), if_pos (show (18 : Int32) ≤ b from (q_kle (k := 18) (by omega)).mpr (by omega))]
    have hM : ∀ ν : nk_M, zf_M_isAsTold a b ν = (if a = 0 then nk_bd (zf_M_in (b.toInt64) (0 : Int64) (7 : Int64) ν) (fun r2 m2 => (if r2 = 0 then nk_bd (zf_M_in (b.toInt64) (20 : Int64) (21 : Int64) m2) (fun r3 m3 => (if r3 = 0 then (zf_M_isAsTold_b53 m3) else (zf_M_isAsTold_b49 m3))) else (zf_M_isAsTold_b49 m2))) else (zf_M_isAsTold_b53 ν)) := fun ν => by
      unfold zf_M_isAsTold
      rw [r_inF (x := b) ν 10 17 (by decide) (by decide) e1, u_bd, if_pos (by decide)]
    have hF : ¬ a = 0 → ∀ μ : nk_M, zf_N_isAct_b29 a b μ = some (nI 0, μ) := fun ha μ => by
      unfold zf_N_isAct_b29 zf_N_isAct_b43 zf_N_isAct_b44
      rw [if_neg ha, if_neg ha]
      split
      · rfl
      · split <;> rfl
    by_cases e2 : a = 0
    · by_cases e3 : 0 ≤ b.toInt ∧ b.toInt ≤ 7
      · refine ⟨1, by omega, fun _ => ?_, fun μ ν => ⟨?_, ?_⟩⟩
        · obtain ⟨q, rfl, q1, q2⟩ := q_of (a := 0) (b := 7) e3
          exact Or.inr (Or.inl ⟨q, by omega, e2, rfl⟩)
        · rw [hN, e2]
          unfold zf_N_isAct_b29
          rw [if_neg (l_nxlt 0 (by omega) (by omega)), if_neg (show ¬ (8 : Int32) ≤ b from fun z => by have := (q_kle (k := 8) (by omega)).mp z; omega)]
          rfl
        · rw [hM, if_pos e2, r_inT (x := b) ν 0 7 (by decide) (by decide) e3]
          rfl
      · have h43 : ∀ μ : nk_M, zf_N_isAct_b29 a b μ = zf_N_isAct_b43 a b μ := fun μ => by
          unfold zf_N_isAct_b29
          by_cases e4 : b.toInt < 0
          · rw [if_pos (l_xlt 0 (by omega) (by omega))]
          · rw [if_neg (l_nxlt 0 (by omega) (by omega)), if_pos (show (8 : Int32) ≤ b from (q_kle (k := 8) (by omega)).mpr (by omega))]
        by_cases e4 : b = nI 20
        · refine ⟨1, by omega, fun _ => Or.inr (Or.inr (Or.inl e4)), fun μ ν => ⟨?_, ?_⟩⟩
          · rw [hN, h43, e2, e4]; rfl
          · rw [hM, e2, e4]; rfl
        · by_cases e5 : b = nI 21
          · refine ⟨1, by omega, fun _ => Or.inr (Or.inr (Or.inr e5)), fun μ ν => ⟨?_, ?_⟩⟩
            · rw [hN, h43, e2, e5]; rfl
            · rw [hM, e2, e5]; rfl
          · refine ⟨0, by omega, fun h => (by cases h), fun μ ν => ⟨?_, ?_⟩⟩
            · rw [hN, h43]
              unfold zf_N_isAct_b43 zf_N_isAct_b44
              rw [if_pos e2, if_pos rfl, if_neg (show ¬ b = 20 from e4), if_neg (show ¬ b = 21 from e5)]
              rfl
            · rw [hM, if_pos e2, r_inF (x := b) ν 0 7 (by decide) (by decide) e3, u_bd, if_pos (by decide), r_inF (x := b) ν 20 21 (by decide) (by decide) (fun z => by
                obtain ⟨q, rfl, q1, q2⟩ := q_of (a := 20) (b := 21) z
                rcases (show q = 20 ∨ q = 21 by omega) with rfl | rfl
                · exact e4 rfl
                · exact e5 rfl)]
              rfl
    · refine ⟨0, by omega, fun h => (by cases h), fun μ ν => ⟨?_, ?_⟩⟩
      · rw [hN, hF e2]
      · rw [hM, if_neg e2]; rfl
section AC
variable {N : Nat} {fm : Nat → Nat} {pt : Nat → Nat → Nat} {μ ν : nk_M}
theorem k_act {a b : Int32} (ho : d_ok a b) (hT : k_TT N fm pt μ ν) : ∃ (r : Nat) (μ' ν' : nk_M), r ≤ 1 ∧ zf_N_canDo a b μ = some (nI r, μ') ∧ zf_M_doesPair a b ν = some (nI r, ν') ∧ k_TT N fm pt μ' ν' ∧ d_fC μ μ' ∧ d_fR ν ν' := by
  obtain ⟨hs, hd, h40, hp, hRT⟩ := id hT
  obtain ⟨s1, s2, s3, s4⟩ := id hs
  rcases ho with ⟨p, c, p1, p2, hc, rfl, rfl⟩ | ⟨c, hc, rfl, rfl⟩ | rfl | rfl
  · have eN : zf_N_canDo (nI p) (nI (10 + c)) μ = zf_N_canDo_b55 (nI p) 1 (nI c) μ := by
      unfold zf_N_canDo
      rw [if_neg (l_ne 20 (by omega) (by omega) (by omega)), if_neg (l_ne 21 (by omega) (by omega) (by omega)), if_neg (l_nlt 10 (by omega) (by omega))]
      unfold zf_N_canDo_b42
      rw [if_neg (by decide), u_lit 10, q_sub (by omega), show 10 + c - 10 = c by omega]
    have eM : zf_M_doesPair (nI p) (nI (10 + c)) ν = nk_bd (zf_M_price (nI c) (nI p) ν) (fun r3 m3 => (if r3 < 0 then (zf_M_doesPair_b73 (0 : Int32) m3) else (zf_M_doesPair_b73 (1 : Int32) m3))) := by
      unfold zf_M_doesPair
      rw [if_pos (l_kle 8 (by omega) (by omega)), if_neg (l_nkle 20 (by omega) (by omega)), u_lit 10, q_sub (by omega), show 10 + c - 10 = c by omega]
    by_cases hcN : c < N
    · obtain ⟨g1, g2⟩ := hn_in (o := 2) (B := 15) s1 s2 s3 hcN
      obtain ⟨-, -, -, -, -, hpr, -⟩ := s4 c hcN
      obtain ⟨q, q1, q2, q3⟩ := hp c hcN
      refine ⟨1, nk_up μ 16 c (nI p), nk_up ν 2 c (nI p), by omega, ?_, ?_, ⟨j_st_price (o := 2) (B := 15) (by omega) hs, k_dy_c hd (fun k j h => q_upN (by omega)) (fun k j h => q_upN (by omega)), by rw [q_upN (by omega), q_upN (by omega)]; exact h40, fun c' hc' => ?_, R_T_c hRT (fun k j h => q_upN (by omega))⟩, fun k j h1 h2 => q_upN (by omega), fun k j h1 h2 h3 => q_upN (by omega)⟩
      · rw [eN]
        unfold zf_N_canDo_b55
        rw [g1, u_bd, if_neg (by decide), if_neg (by decide), q_ast (by omega) (by omega)]
        rfl
      · rw [eM]
        unfold zf_M_price zf_M_isPrice
        rw [g2, u_bd, if_pos (by decide), r_inT (x := nI p) ν 1 9 (by decide) (by decide) (by rw [q_nI (by omega)]; omega), u_bd, u_lit 1, q_zr1, u_bd, if_neg (by decide), q_ald (by omega) (by omega), q_ast (by omega) (by omega), u_bd, ← hpr, show μ (15 + 1) c = nI q from q3, if_neg (q_nlt0 (by omega))]
        rfl
      · by_cases e2 : c' = c
        · subst e2; exact ⟨p, p1, p2, by rw [q_upE]⟩
        · rw [q_upM e2]; exact hp c' hc'
    · obtain ⟨g1, g2⟩ := hn_out (o := 2) (B := 15) (x := nI c) s1 s2 s3 (Or.inr ((q_le (by omega) (by omega)).mpr (by omega)))
      refine ⟨0, μ, ν, by omega, ?_, ?_, hT, fun _ _ _ _ => rfl, fun _ _ _ _ _ => rfl⟩
      · rw [eN]
        unfold zf_N_canDo_b55
        rw [g1]; rfl
      · rw [eM]
        unfold zf_M_price
        rw [g2]; rfl
  · have eN : zf_N_canDo (nI 0) (nI c) μ = zf_N_canDo_b55 (nI 0) 0 (nI c) μ := by
      unfold zf_N_canDo
      rw [if_neg (l_ne 20 (by omega) (by omega) (by omega)), if_neg (l_ne 21 (by omega) (by omega) (by omega)), if_pos (l_lt 10 (by omega) (by omega))]
      unfold zf_N_canDo_b42
      rw [if_pos rfl]
    have eM : zf_M_doesPair (nI 0) (nI c) ν = nk_bd (zf_M_needsOnly (nI c) ν) (fun r4 m4 => (zf_M_doesPair_b73 r4 m4)) := by
      unfold zf_M_doesPair
      rw [if_neg (l_nkle 8 (by omega) (by omega))]
    by_cases hcN : c < N
    · obtain ⟨g1, g2⟩ := hn_in (o := 2) (B := 15) s1 s2 s3 hcN
      obtain ⟨v, x, μ', ν', hv, n1, n2, n3, n4, -, n6, n7, -, -⟩ := k_need (by omega) hs hd hcN
      obtain ⟨rfl, t2, t3, -, -, t6, -⟩ := n7 rfl
      have hTT : k_TT N fm pt μ' (nk_up ν' 0 40 (ν' 0 40 + ν' 0 26)) := ⟨j_st_c n6 (fun _ _ _ => rfl) (fun k j h => q_upO (by omega)), k_dy_c t2 (fun _ _ _ => rfl) (fun k j h => q_upO (by omega)), by rw [q_upE, t3, t6, n4.1 0 40 (by omega) (by omega) (by omega) (by omega) (by omega) (by omega) (by omega) (by omega), h40], fun c hc => by rw [n3 16 c (by omega) (by omega) (by omega) (by omega)]; exact hp c hc, R_T_c hRT (fun k j h => n3 k j (by omega) (by omega) (by omega) (by omega))⟩
      have hfC : d_fC μ μ' := fun k j h1 h2 => n3 k j (by omega) (by omega) (by omega) (by omega)
      have hfR : d_fR ν (nk_up ν' 0 40 (ν' 0 40 + ν' 0 26)) := fun k j h1 h2 h3 => by rw [q_upO (by omega), n4.1 k j (by omega) (by omega) (by omega) (by omega) (by omega) (by omega) (by omega) (by omega)]
      by_cases e : 100 < v
      · refine ⟨0, μ', _, by omega, ?_, ?_, hTT, hfC, hfR⟩
        · rw [eN]
          unfold zf_N_canDo_b55
          rw [g1, u_bd, if_neg (by decide), if_pos rfl, n1, u_bd, if_pos (l_klt 100 e (by omega))]
          rfl
        · rw [eM]
          unfold zf_M_needsOnly
          rw [g2, u_bd, if_pos (by decide), n2, u_bd, u_pf, if_pos (l_klt 100 e (by omega))]
          rfl
      · refine ⟨1, μ', _, by omega, ?_, ?_, hTT, hfC, hfR⟩
        · rw [eN]
          unfold zf_N_canDo_b55
          rw [g1, u_bd, if_neg (by decide), if_pos rfl, n1, u_bd, if_neg (l_nklt 100 (by omega) (by omega))]
          rfl
        · rw [eM]
          unfold zf_M_needsOnly
          rw [g2, u_bd, if_pos (by decide), n2, u_bd, u_pf, if_neg (l_nklt 100 (by omega) (by omega))]
          rfl
    · obtain ⟨g1, g2⟩ := hn_out (o := 2) (B := 15) (x := nI c) s1 s2 s3 (Or.inr ((q_le (by omega) (by omega)).mpr (by omega)))
      refine ⟨0, μ, ν, by omega, ?_, ?_, hT, fun _ _ _ _ => rfl, fun _ _ _ _ _ => rfl⟩
      · rw [eN]
        unfold zf_N_canDo_b55
        rw [g1]; rfl
      · rw [eM]
        unfold zf_M_needsOnly
        rw [g2]; rfl
  · obtain ⟨m, μ', ν', hm, e1, e2, e3, e4, e5, e6⟩ := k_shorten (by omega) hs hd
    refine ⟨1, μ', ν', by omega, ?_, ?_, ⟨e3, e4, by rw [e6 0 40 (by omega), e5 2 10 (by omega)]; exact h40, fun c hc => by rw [e5 16 c (by omega)]; exact hp c hc, R_T_c hRT (fun k j h => e5 k j (by omega))⟩, fun k j h1 h2 => e5 k j (by omega), fun k j h1 h2 h3 => e6 k j (by omega)⟩
    · unfold zf_N_canDo
      rw [if_pos (by decide), e1]; rfl
    · unfold zf_M_doesPair
      rw [if_pos (by decide), if_pos (by decide), if_pos (by decide), e2, u_bd, if_neg (q_nlt0 (by omega))]
      rfl
  · obtain ⟨⟨x, hx, x1, x2⟩, -⟩ := k_counts hs hd
    refine ⟨1, q_slp 15 μ, q_slpR ν, by omega, ?_, ?_, ⟨j_st_c hs (fun k j h => q_slpN (by omega)) (fun k j h => q_slpRN (by omega)), k_dy_slp (by omega) s1 hd.1.1 hd.1.2 hd.2.2.2.2, by rw [q_slpRN (by omega), q_slpN (by omega)]; exact h40, fun c hc => by rw [q_slpN (by omega)]; exact hp c hc, R_T_c hRT (fun k j h => q_slpN (by omega))⟩, fun k j h1 h2 => q_slpN (by omega), fun k j h1 h2 h3 => q_slpRN (by omega)⟩
    · unfold zf_N_canDo
      rw [if_neg (by decide), if_pos (by decide), e_putToSleep]; rfl
    · unfold zf_M_doesPair zf_M_sleep
      rw [if_pos (by decide), if_pos (by decide), if_neg (by decide), x2, u_bd, r_allAsleep, u_bd, u_bd, if_neg (q_nlt0 (by omega))]
      rfl
theorem e_at {k b : Nat} (μ : nk_M) (hk : k < 4) (hb : b < 60) : zf_S_at (nI k) (nI b) μ = some (μ (27 + k) b, μ) := by
  unfold zf_S_at
  rw [q_ard hk (by omega), q_clamp (by omega), q_ald hb (by omega)]
/-- the sheet of the day: both have it, and it is acts -/
def d_sh (k j n : Nat) (μ ν : nk_M) : Prop := ∀ x, x < n → ν 27 (60 * k + (j + 2 * x)) = μ (27 + k) (j + 2 * x) ∧ ν 27 (60 * k + (j + 2 * x + 1)) = μ (27 + k) (j + 2 * x + 1)
def d_ac (k j n : Nat) (μ : nk_M) : Prop := ∀ x, x < n → d_ok (μ (27 + k) (j + 2 * x)) (μ (27 + k) (j + 2 * x + 1))
theorem k_areActs {k j n : Nat} (hk : k < 4) (hj : j + 2 * n ≤ 60) (hsh : d_sh k j n μ ν) (what : Int32) : ∀ (m f x : Nat), x + m = n → m < f → (∀ i, i < x → d_ok (μ (27 + k) (j + 2 * i)) (μ (27 + k) (j + 2 * i + 1))) → ∃ r, r ≤ 1 ∧ zf_N_areActs_b3 f (nI k) (nI j) (nI n) (nI x) μ = some (nI r, μ) ∧ (r = 0 → zf_M_day_b122 f (nI n) what (nI (60 * k + j)) (nI x) ν = nk_bd (zf_M_refused (-2 : Int32) ν) (fun r8 m6 => some (r8, m6))) ∧ (r = 1 → d_ac k j n μ ∧ zf_M_day_b122 f (nI n) what (nI (60 * k + j)) (nI x) ν = nk_bd (zf_M_keeps ν) (fun _ m1 => nk_bd (zf_M_dayOf (nI (60 * k + j)) (nI n) what m1) (fun r2 m2 => nk_bd (zf_M_bringsBack m2) (fun _ m3 => nk_bd (zf_M_refused r2 m3) (fun r4 m4 => some (r4, m4)))))) := by
  intro m
  induction m with
  | zero =>
    intro f x hx hf hd
    obtain ⟨f, rfl⟩ : ∃ g, f = g + 1 := ⟨f - 1, by omega⟩
    refine ⟨1, by omega, ?_, fun h => (by cases h), fun _ => ⟨fun i hi => hd i (by omega), ?_⟩⟩
    · rw [zf_N_areActs_b3, if_pos ((q_le (by omega) (by omega)).mpr (by omega))]; rfl
    · rw [zf_M_day_b122, if_pos ((q_le (by omega) (by omega)).mpr (by omega))]
  | succ m ih =>
    intro f x hx hf hd
    obtain ⟨f, rfl⟩ : ∃ g, f = g + 1 := ⟨f - 1, by omega⟩
    obtain ⟨h1, h2⟩ := hsh x (by omega)
    obtain ⟨r, hr, hok, hb⟩ := e_isAct (μ (27 + k) (j + 2 * x)) (μ (27 + k) (j + 2 * x + 1))
    have eN : zf_N_areActs_b3 (f + 1) (nI k) (nI j) (nI n) (nI x) μ = (if nI r = 0 then nk_zr (0 : Int32) μ else (zf_N_areActs_b3 f (nI k) (nI j) (nI n) (nI (x + 1)) μ)) := by
      rw [zf_N_areActs_b3, if_neg (fun z => by have := (q_le (by omega) (by omega)).mp z; omega), u_nm, u_lit 2, q_mul, q_add, e_at μ hk (by omega), u_bd, u_lit 1, q_add, e_at μ hk (by omega), u_bd, (hb μ ν).1, u_bd, q_add]
    have eM : zf_M_day_b122 (f + 1) (nI n) what (nI (60 * k + j)) (nI x) ν = (if nI r = 0 then nk_bd (zf_M_refused (-2 : Int32) ν) (fun r8 m6 => some (r8, m6)) else (zf_M_day_b122 f (nI n) what (nI (60 * k + j)) (nI (x + 1)) ν)) := by
      rw [zf_M_day_b122, if_neg (fun z => by have := (q_le (by omega) (by omega)).mp z; omega), u_lit 2, q_mul, q_add, q_ald (by omega) (by omega), u_lit 1, q_add, q_ald (by omega) (by omega), show 60 * k + j + 2 * x + 1 = 60 * k + (j + 2 * x + 1) by omega, show 60 * k + j + 2 * x = 60 * k + (j + 2 * x) by omega, h1, h2, (hb μ ν).2, u_bd, q_add]
    rw [eN, eM]
    rcases (show r = 0 ∨ r = 1 by omega) with rfl | rfl
    · rw [if_pos (by decide), if_pos (by decide)]
      exact ⟨0, by omega, rfl, fun _ => rfl, fun h => (by cases h)⟩
    · rw [if_neg (by decide), if_neg (by decide)]
      refine ih f (x + 1) (by omega) (by omega) (fun i hi => ?_)
      by_cases e : i = x
      · rw [e]; exact hok rfl
      · exact hd i (by omega)
theorem k_acts {k j n : Nat} (hk : k < 4) (hj : j + 2 * n ≤ 60) (what : Int32) : ∀ (m f x : Nat) (μ ν : nk_M), x + m = n → m < f → d_sh k j n μ ν → d_ac k j n μ → k_TT N fm pt μ ν → ∃ (W : Int32) (μ' ν' : nk_M), (W = -nI 9 ∨ ∃ i, i < n ∧ W = nI i) ∧ zf_N_doActs_b3 f (nI k) (nI j) (nI n) (nI x) μ = some (W, μ') ∧ zf_M_dayOf_b15 f (nI (60 * k + j)) (nI n) what (-9) (nI x) ν = zf_M_dayOf_b72 what W ν' ∧ k_TT N fm pt μ' ν' ∧ d_fC μ μ' ∧ d_fR ν ν' := by
  intro m
  induction m with
  | zero =>
    intro f x μ ν hx hf h1 h2 hT
    obtain ⟨f, rfl⟩ : ∃ g, f = g + 1 := ⟨f - 1, by omega⟩
    refine ⟨-nI 9, μ, ν, Or.inl rfl, ?_, ?_, hT, fun _ _ _ _ => rfl, fun _ _ _ _ _ => rfl⟩
    · rw [zf_N_doActs_b3, if_pos ((q_le (by omega) (by omega)).mpr (by omega))]; rfl
    · rw [zf_M_dayOf_b15, if_pos ((q_le (by omega) (by omega)).mpr (by omega))]; rfl
  | succ m ih =>
    intro f x μ ν hx hf hsh hac hT
    obtain ⟨f, rfl⟩ : ∃ g, f = g + 1 := ⟨f - 1, by omega⟩
    obtain ⟨h1, h2⟩ := hsh x (by omega)
    obtain ⟨r, μ1, ν1, hr, a1, a2, a3, a4, a5⟩ := k_act (hac x (by omega)) hT
    have eN : zf_N_doActs_b3 (f + 1) (nI k) (nI j) (nI n) (nI x) μ = (if nI r = 0 then some (nI x, μ1) else (zf_N_doActs_b3 f (nI k) (nI j) (nI n) (nI (x + 1)) μ1)) := by
      rw [zf_N_doActs_b3, if_neg (fun z => by have := (q_le (by omega) (by omega)).mp z; omega), u_nm, u_lit 2, q_mul, q_add, e_at μ hk (by omega), u_bd, u_lit 1, q_add, e_at μ hk (by omega), u_bd, a1, u_bd, q_add]
    have eM : zf_M_dayOf_b15 (f + 1) (nI (60 * k + j)) (nI n) what (-9) (nI x) ν = (if nI r = 0 then (zf_M_dayOf_b15 f (nI (60 * k + j)) (nI n) what (nI x) (nI (x + 1)) ν1) else (zf_M_dayOf_b15 f (nI (60 * k + j)) (nI n) what (-9) (nI (x + 1)) ν1)) := by
      rw [zf_M_dayOf_b15, if_neg (fun z => by have := (q_le (by omega) (by omega)).mp z; omega), if_neg (by decide), u_lit 2, q_mul, q_add, q_ald (by omega) (by omega), u_lit 1, q_add, q_ald (by omega) (by omega), show 60 * k + j + 2 * x + 1 = 60 * k + (j + 2 * x + 1) by omega, show 60 * k + j + 2 * x = 60 * k + (j + 2 * x) by omega, h1, h2, a2, u_bd]
      unfold zf_M_dayOf_b64
      rw [u_lit 1, q_add]
    rw [eN, eM]
    rcases (show r = 0 ∨ r = 1 by omega) with rfl | rfl
    · obtain ⟨f, rfl⟩ : ∃ g, f = g + 1 := ⟨f - 1, by omega⟩
      refine ⟨nI x, μ1, ν1, Or.inr ⟨x, by omega, rfl⟩, by rw [if_pos (by decide)], ?_, a3, a4, a5⟩
      rw [if_pos (by decide), zf_M_dayOf_b15, if_pos (q_le0 (by omega))]
      split <;> rfl
    · rw [if_neg (by decide), if_neg (by decide)]
      obtain ⟨W, μ', ν', e1, e2, e3, e4, e5, e6⟩ := ih f (x + 1) μ1 ν1 (by omega) (by omega) (fun y hy => by
          rw [a4 (27 + k) _ (by omega) (by omega), a4 (27 + k) _ (by omega) (by omega), a5 27 _ (by omega) (by omega) (by omega), a5 27 _ (by omega) (by omega) (by omega)]
          exact hsh y hy) (fun y hy => by
          rw [a4 (27 + k) _ (by omega) (by omega), a4 (27 + k) _ (by omega) (by omega)]
          exact hac y hy) a3
      exact ⟨W, μ', ν', e1, e2, e3, e4, d_fC_t a4 e5, d_fR_t a5 e6⟩
end AC

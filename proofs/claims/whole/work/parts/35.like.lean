/-! ===== 35: the trial copy; plainly ===== -/
theorem q_cp0 {f g : Nat → Int32} {n j : Nat} (h : j < n) : va_cpy f g 0 0 n j = f j := by
  rw [pk_cpy_in (by omega) (by omega)]
  congr 1
  omega
theorem e_like {o B p P : Nat} (μ : nk_M) (ho : o < B) (hp : p < P) (hop : o ≠ p) (h1 : o < P) (h2 : p < B) (h3 : P + 8 < B ∨ B + 8 < P) :
    ∃ μ', zf_C_becomeLike o B p P μ = some ((), μ') ∧ μ' o 0 = μ p 0 ∧ μ' o 10 = μ p 10 ∧ (∀ r i, (r = 0 ∨ r = 1 ∨ r = 2 ∨ r = 4 ∨ r = 5 ∨ r = 6) → i < 8 → μ' (B + r) i = μ (P + r) i) ∧ (∀ i, i < 24 → μ' (B + 3) i = μ (P + 3) i) ∧ ∀ k j, ¬ (B ≤ k ∧ k ≤ B + 6) → (k = o → j ≠ 0 ∧ j ≠ 10) → μ' k j = μ k j := by
  unfold zf_C_becomeLike
  rw [u_pf, u_lit 0, u_lit 8, u_lit 24]
  rw [q_cpy (by omega) (by omega) (by omega) (by omega), q_cpy (by omega) (by omega) (by omega) (by omega), q_cpy (by omega) (by omega) (by omega) (by omega), q_cpy (by omega) (by omega) (by omega) (by omega), q_cpy (by omega) (by omega) (by omega) (by omega), q_cpy (by omega) (by omega) (by omega) (by omega), q_cpy (by omega) (by omega) (by omega) (by omega), u_pf]
  refine ⟨_, rfl, ?_, ?_, fun r i hr hi => ?_, fun i hi => ?_, fun k j hk hj => ?_⟩
  · rw [q_upM (by omega)]
    simp (disch := omega) only [q_upA, if_neg, q_upE]
  · rw [q_upE]
    simp (disch := omega) only [q_upA, if_neg, q_upN]
  · rcases hr with rfl | rfl | rfl | rfl | rfl | rfl
    · simp (disch := omega) only [q_upA, if_neg, if_pos, if_true, q_upN, q_cp0, Nat.add_zero]
    · simp (disch := omega) only [q_upA, if_neg, if_pos, if_true, q_upN, q_cp0]
    · simp (disch := omega) only [q_upA, if_neg, if_pos, if_true, q_upN, q_cp0]
    · simp (disch := omega) only [q_upA, if_neg, if_pos, if_true, q_upN, q_cp0]
    · simp (disch := omega) only [q_upA, if_neg, if_pos, if_true, q_upN, q_cp0]
    · simp (disch := omega) only [q_upA, if_neg, if_pos, if_true, q_upN, q_cp0]
  · simp (disch := omega) only [q_upA, if_neg, if_pos, if_true, q_upN, q_cp0]
  · rw [q_upO (by omega)]
    simp (disch := omega) only [q_upA, if_neg, q_upO]
section PL
variable {μ ν : nk_M}
theorem RR_trial {μ' ν' : nk_M} (h : RR μ ν) (hC : ∀ k j, k ≠ 2 → ¬ (15 ≤ k ∧ k ≤ 23) → μ' k j = μ k j) (hT : R_T μ') (hR : ∀ k j, (k = 0 ∧ (j = 0 ∨ j = 1 ∨ j = 16 ∨ j = 29 ∨ (31 ≤ j ∧ j ≤ 33) ∨ j = 41 ∨ j = 48)) ∨ (1 ≤ k ∧ k ≤ 4) ∨ (9 ≤ k ∧ k ≤ 12) ∨ k = 17 ∨ (23 ≤ k ∧ k ≤ 27) → ν' k j = ν k j) : RR μ' ν' := by
  obtain ⟨N, fm, pt, hA, hL, -, hD, hS, hF⟩ := h
  exact ⟨N, fm, pt, R_A_c hA (fun k j h => hC k j (by omega) (by omega)) (fun k j h => hR k j (by omega)), R_L_c hL (fun k j h => hC k j (by omega) (by omega)) (fun k j h => hR k j (by omega)), hT, R_D_c hD (fun k j h => hC k j (by omega) (by omega)) (fun k j h => hR k j (by omega)), R_S_c hS (fun k j h => hC k j (by omega) (by omega)) (fun k j h => hR k j (by omega)), R_F_c hF (fun j h => hC 0 j (by omega) (by omega)) (fun j h => hR 0 j (by omega))⟩
/-- the trial copy of the cells -/
theorem k_like {N : Nat} {fm : Nat → Nat} {pt : Nat → Nat → Nat} (hA : R_A N fm pt μ ν) (hT : R_T μ) :
    ∃ μ', zf_C_becomeLike 2 15 1 6 μ = some ((), μ') ∧ j_st 2 15 N fm pt μ' ν ∧ k_dy true 2 15 N fm pt μ' ν ∧ μ' 2 10 = μ 1 10 ∧ (∀ c, c < N → ∃ p, 1 ≤ p ∧ p ≤ 9 ∧ μ' 16 c = nI p) ∧ R_T μ' ∧ ∀ k j, k ≠ 2 → ¬ (15 ≤ k ∧ k ≤ 23) → μ' k j = μ k j := by
  obtain ⟨μ', e1, e2, e3, e4, e5, e6⟩ := e_like (o := 2) (B := 15) (p := 1) (P := 6) μ (by omega) (by omega) (by omega) (by omega) (by omega) (by omega)
  obtain ⟨⟨s1, s2, s3, s4⟩, ⟨d1, d2, d3, d4, d5⟩, hp⟩ := hA
  refine ⟨μ', e1, ⟨s1, by rw [e2]; exact s2, s3, fun c hc => ?_⟩, ⟨⟨d1.1, by rw [e6 2 9 (by omega) (by omega)]; exact hT.1⟩, fun c hc => ?_, fun c hc => ?_, fun c hc e => ?_, fun c hc => by rw [e6 22 c (by omega) (by omega)]; exact hT.2 c hc⟩, e3, fun c hc => ?_, ⟨by rw [e6 2 9 (by omega) (by omega)]; exact hT.1, fun c hc => by rw [e6 22 c (by omega) (by omega)]; exact hT.2 c hc⟩, fun k j h1 h2 => e6 k j (by omega) (by omega)⟩
  · obtain ⟨a1, a2, a3, a4, a5, a6, a7⟩ := s4 c hc
    refine ⟨a1, by rw [e4 2 c (by omega) (by omega)]; exact a2, a3, by rw [show 15 = 15 + 0 from rfl, e4 0 c (by omega) (by omega)]; exact a4, a5, by rw [e4 1 c (by omega) (by omega)]; exact a6, fun k hk => ?_⟩
    have := q_np3 (fm c)
    rw [e5 (3 * c + k) (by omega)]
    exact a7 k hk
  · rw [e4 4 c (by omega) (by omega)]; exact d2 c hc
  · rw [e4 6 c (by omega) (by omega)]; exact d3 c hc
  · rw [e4 4 c (by omega) (by omega)] at e
    rw [e4 5 c (by omega) (by omega)]; exact d4 c hc e
  · have := e4 1 c (by omega) (by omega)
    rw [show μ' 16 c = μ 7 c from this]; exact hp c hc
theorem p_plainly (a : Int32) (h : RR μ ν) : p_ok (zf_N_plainly a μ) (zf_M_plainly a ν) := by
  obtain ⟨N, fm, pt, hA, hL, hT, hD, hS, hF⟩ := id h
  obtain ⟨s1, s2, s3, s4⟩ := id hA.1
  rcases pk_ix a (n := N) (by omega) with e | e | ⟨c, hc, rfl⟩
  · obtain ⟨g1, g2⟩ := hn_out (o := 1) (B := 6) (x := a) s1 s2 s3 (Or.inl e)
    exact ⟨-nI 1, μ, ν, by unfold zf_N_plainly; rw [g1]; rfl, by unfold zf_M_plainly; rw [g2]; rfl, h⟩
  · obtain ⟨g1, g2⟩ := hn_out (o := 1) (B := 6) (x := a) s1 s2 s3 (Or.inr e)
    exact ⟨-nI 1, μ, ν, by unfold zf_N_plainly; rw [g1]; rfl, by unfold zf_M_plainly; rw [g2]; rfl, h⟩
  · obtain ⟨g1, g2⟩ := hn_in (o := 1) (B := 6) s1 s2 s3 hc
    obtain ⟨μ1, k1, k2, k3, k4, k5, k6, k7⟩ := k_like hA hT
    have st : j_st 2 15 N fm pt (nk_up (q_slp 15 μ1) 2 9 (nI 0)) (nk_up ν 0 29 (nI 1)) := j_st_c k2 (fun k j h => by rw [q_upO (by omega), q_slpN (by omega)]) (fun k j h => q_upO (by omega))
    have dy : k_dy false 2 15 N fm pt (nk_up (q_slp 15 μ1) 2 9 (nI 0)) (nk_up ν 0 29 (nI 1)) := by
      refine ⟨⟨q_upE, q_upE⟩, fun c hc => ?_, fun c hc => ?_, fun c hc e => ?_, fun c hc => ?_⟩
      · rw [q_upN (by omega), q_slp4 (by omega)]
        exact ⟨Or.inl rfl, fun h => (by cases h), fun _ => rfl⟩
      · rw [q_upN (by omega), q_slp6 (by omega)]
        exact ⟨Or.inl rfl, fun h => (by cases h), fun _ => rfl⟩
      · rw [q_upN (by omega), q_slp4 (by omega)] at e
        exact ((q_9m (by omega)).mp e).elim
      · rw [q_upN (by omega), q_slpN (by omega)]; exact k6.2 c hc
    obtain ⟨v, x, μ4, ν2, hv, n1, n2, n3, n4, -, -, -, n8, n9⟩ := k_need (by omega) st dy hc
    have hC : ∀ k j, k ≠ 2 → ¬ (15 ≤ k ∧ k ≤ 23) → (nk_up μ4 2 9 (nI 1)) k j = μ k j := fun k j h1 h2 => by
      rw [q_upN h1, n3 k j (by omega) (by omega) (by omega) (by omega), q_upN h1, q_slpN (by omega), k7 k j h1 h2]
    have hT' : R_T (nk_up μ4 2 9 (nI 1)) := ⟨q_upE, fun c hc => by rw [q_upN (by omega), n3 22 c (by omega) (by omega) (by omega) (by omega), q_upN (by omega), q_slpN (by omega)]; exact k6.2 c hc⟩
    have hR : ∀ k j, (k = 0 ∧ (j = 0 ∨ j = 1 ∨ j = 16 ∨ j = 29 ∨ (31 ≤ j ∧ j ≤ 33) ∨ j = 41 ∨ j = 48)) ∨ (1 ≤ k ∧ k ≤ 4) ∨ (9 ≤ k ∧ k ≤ 12) ∨ k = 17 ∨ (23 ≤ k ∧ k ≤ 27) → (nk_up ν2 0 29 (nI 0)) k j = ν k j := fun k j hkj => by
      by_cases e1 : k = 0 ∧ j = 29
      · rw [e1.1, e1.2, q_upE]; exact hA.2.1.1.1.symm
      · rw [q_upO e1]
        by_cases e2 : k = 9 ∨ k = 10 ∨ k = 11
        · rw [n4.2 rfl k j (by omega), q_upO e1]
        · rw [n4.1 k j (by omega) (by omega) (by omega) (by omega) (by omega) (by omega) (by omega) (by omega), q_upO e1]
    have hRR := RR_trial h hC hT' hR
    have eN : zf_N_plainly (nI c) μ = (if nI v = 101 then zf_C_timesPlainly_b36 2 15 (nk_up μ4 2 9 (nI 1)) else if (nk_up μ4 2 9 (nI 1)) 2 11 ≤ 999 then zf_C_timesPlainly_b45 2 15 ((nk_up μ4 2 9 (nI 1)) 2 11) (nk_up μ4 2 9 (nI 1)) else zf_C_timesPlainly_b36 2 15 (nk_up μ4 2 9 (nI 1))) := by
      unfold zf_N_plainly
      rw [g1, u_bd, if_neg (by decide), k1, u_bd, q_bdS]
      unfold zf_C_timesPlainly
      rw [e_putToSleep, u_bd, u_pf, u_lit 0, n1, u_bd, u_pf, u_lit 1]
    have eM : zf_M_plainly (nI c) ν = (if (nk_up ν2 0 29 (nI 0)) 0 30 = 0 then (if (nk_up ν2 0 29 (nI 0)) 0 24 ≤ 999 then zf_M_plainly_b52 ((nk_up ν2 0 29 (nI 0)) 0 24) (nk_up ν2 0 29 (nI 0)) else zf_M_plainly_b43 (nk_up ν2 0 29 (nI 0))) else zf_M_plainly_b43 (nk_up ν2 0 29 (nI 0))) := by
      unfold zf_M_plainly
      rw [g2, u_bd, if_pos (by decide), u_pf, u_lit 1, n2, u_bd, u_pf, u_lit 0]
    by_cases e : v = 101
    · have h30 := n9 rfl e
      refine ⟨-nI 9, _, _, ?_, ?_, hRR⟩
      · rw [eN, e, if_pos (by decide)]; rfl
      · rw [eM, q_upM (by omega), h30, if_neg (by decide)]; rfl
    · obtain ⟨h30, w, hw, h11, h24⟩ := n8 rfl e
      refine ⟨nI w, _, _, ?_, ?_, hRR⟩
      · rw [eN, if_neg (show ¬ nI v = 101 from fun z => e ((q_eq (by omega) (by omega)).mp z)), q_upM (by omega), h11, if_pos (show nI w ≤ 999 from (q_le (b := 999) (by omega) (by omega)).mpr (by omega))]; rfl
      · rw [eM, q_upM (by omega), h30, if_pos (by decide), q_upM (by omega), h24, if_pos (show nI w ≤ 999 from (q_le (b := 999) (by omega) (by omega)).mpr (by omega))]; rfl
end PL

/-! ===== 30: the plain calls ===== -/
def p_ok {α : Type} (F G : Option (α × nk_M)) : Prop := ∃ (r : α) (μ' ν' : nk_M), F = some (r, μ') ∧ G = some (r, ν') ∧ RR μ' ν'
theorem q_xlt {x : Int32} {k : Nat} (hk : k < 2147483648) : x < nI k ↔ x.toInt < (k : Int) := by rw [q_iff_lt, q_nI hk]
theorem q_xle {x : Int32} {k : Nat} (hk : k < 2147483648) : x ≤ nI k ↔ x.toInt ≤ (k : Int) := by rw [q_iff_le, q_nI hk]
theorem q_klt {x : Int32} {k : Nat} (hk : k < 2147483648) : nI k < x ↔ (k : Int) < x.toInt := by rw [q_iff_lt, q_nI hk]
theorem q_kle {x : Int32} {k : Nat} (hk : k < 2147483648) : nI k ≤ x ↔ (k : Int) ≤ x.toInt := by rw [q_iff_le, q_nI hk]
theorem q_xeq {x : Int32} {k : Nat} (hk : k < 2147483648) : x = nI k ↔ x.toInt = (k : Int) := ⟨fun e => by rw [e, q_nI hk], fun e => Int32.toInt_inj.mp (by rw [e, q_nI hk])⟩
theorem q_of {x : Int32} {a b : Nat} (h : (a : Int) ≤ x.toInt ∧ x.toInt ≤ (b : Int)) : ∃ p, x = nI p ∧ a ≤ p ∧ p ≤ b := by
  have hb : x.toInt < 2147483648 := by
    have := Int32.toInt_lt x
    simpa using this
  refine ⟨x.toInt.toNat, Int32.toInt_inj.mp ?_, by omega, by omega⟩
  rw [q_nI (by omega)]
  omega
section PS
variable {μ ν : nk_M}
theorem p_trace (h : RR μ ν) : p_ok (zf_N_trace μ) (zf_M_trace ν) := by
  obtain ⟨N, fm, pt, hA, hL, hT, hD, hS, hF⟩ := id h
  exact ⟨μ 0 5, μ, ν, rfl, by rw [hF.2]; rfl, h⟩
theorem p_fault (h : RR μ ν) : p_ok (zf_N_fault μ) (zf_M_fault ν) := by
  obtain ⟨N, fm, pt, hA, hL, hT, hD, hS, hF⟩ := id h
  exact ⟨μ 0 6, μ, ν, rfl, by rw [hF.1]; rfl, h⟩
theorem p_spent (h : RR μ ν) : p_ok (zf_N_spent μ) (zf_M_spent ν) := by
  obtain ⟨N, fm, pt, hA, hL, hT, hD, hS, hF⟩ := id h
  exact ⟨μ 1 10, μ, ν, rfl, by rw [hL.1]; rfl, h⟩
theorem p_latest (a : Int32) (h : RR μ ν) : p_ok (zf_N_latest a μ) (zf_M_latest a ν) := by
  obtain ⟨N, fm, pt, hA, hL, hT, hD, hS, hF⟩ := id h
  obtain ⟨-, l1, l2, l3, q, hq, q1, q2, q3⟩ := hL
  by_cases e : 10 ≤ a.toInt ∧ a.toInt ≤ 17
  · obtain ⟨p, rfl, hp1, hp2⟩ := q_of (a := 10) (b := 17) e
    have hin := r_inT (x := nI p) (l := 10) (h := 17) ν 10 17 (by decide) (by decide) e
    have h31 : ν 0 31 = nI q := by rw [← l1]; exact q2
    by_cases e2 : q ≤ p - 10
    · refine ⟨-nI 9, μ, ν, ?_, ?_, h⟩
      · simp (disch := omega) only [zf_N_latest, zf_N_latest_b97, q1, q_lit, q_sub, Nat.add_sub_cancel, q_upE, q_upN, q_upM, q_upO, q_bd, q_pf, q_nm, q_ald, q_ast, q_tld, q_lt0, q_lt, q_le, q_eq, q_m9, q_9m, q_neg9, q_add, q_mul, q_zr0, q_zr1, q_clamp, if_true, if_false, if_pos, if_neg]
      · simp (disch := omega) only [zf_M_latest, hin, zf_M_latest_b39, h31, q_lit, q_sub, Nat.add_sub_cancel, q_upE, q_upN, q_upM, q_upO, q_bd, q_pf, q_nm, q_ald, q_ast, q_tld, q_lt0, q_lt, q_le, q_eq, q_m9, q_9m, q_neg9, q_add, q_mul, q_zr0, q_zr1, q_clamp, if_true, if_false, if_pos, if_neg]
    · refine ⟨μ 14 (p - 10), μ, ν, ?_, ?_, h⟩
      · simp (disch := omega) only [zf_N_latest, zf_N_latest_b97, q1, q_lit, q_sub, Nat.add_sub_cancel, q_upE, q_upN, q_upM, q_upO, q_bd, q_pf, q_nm, q_ald, q_ast, q_tld, q_lt0, q_lt, q_le, q_eq, q_m9, q_9m, q_neg9, q_add, q_mul, q_zr0, q_zr1, q_clamp, if_true, if_false, if_pos, if_neg]
      · rw [q3 (p - 10) (by omega)]
        simp (disch := omega) only [zf_M_latest, hin, zf_M_latest_b39, h31, q_lit, q_sub, Nat.add_sub_cancel, q_upE, q_upN, q_upM, q_upO, q_bd, q_pf, q_nm, q_ald, q_ast, q_tld, q_lt0, q_lt, q_le, q_eq, q_m9, q_9m, q_neg9, q_add, q_mul, q_zr0, q_zr1, q_clamp, if_true, if_false, if_pos, if_neg]
  · have hin := r_inF (x := a) (l := 10) (h := 17) ν 10 17 (by decide) (by decide) e
    by_cases e0 : a.toInt = 0
    · refine ⟨μ 1 11, μ, ν, ?_, ?_, h⟩
      · simp (disch := omega) only [zf_N_latest, q_xeq, q_nI, q_lit, q_sub, Nat.add_sub_cancel, q_upE, q_upN, q_upM, q_upO, q_bd, q_pf, q_nm, q_ald, q_ast, q_tld, q_lt0, q_lt, q_le, q_eq, q_m9, q_9m, q_neg9, q_add, q_mul, q_zr0, q_zr1, q_clamp, if_true, if_false, if_pos, if_neg]
      · rw [l1]; simp (disch := omega) only [zf_M_latest, hin, zf_M_latest_b77, q_xeq, q_nI, q_lit, q_sub, Nat.add_sub_cancel, q_upE, q_upN, q_upM, q_upO, q_bd, q_pf, q_nm, q_ald, q_ast, q_tld, q_lt0, q_lt, q_le, q_eq, q_m9, q_9m, q_neg9, q_add, q_mul, q_zr0, q_zr1, q_clamp, if_true, if_false, if_pos, if_neg]
    · by_cases e1 : a.toInt = 1
      · refine ⟨μ 1 12, μ, ν, ?_, ?_, h⟩
        · simp (disch := omega) only [zf_N_latest, q_xeq, q_nI, q_lit, q_sub, Nat.add_sub_cancel, q_upE, q_upN, q_upM, q_upO, q_bd, q_pf, q_nm, q_ald, q_ast, q_tld, q_lt0, q_lt, q_le, q_eq, q_m9, q_9m, q_neg9, q_add, q_mul, q_zr0, q_zr1, q_clamp, if_true, if_false, if_pos, if_neg]
        · rw [l2]; simp (disch := omega) only [zf_M_latest, hin, zf_M_latest_b77, q_xeq, q_nI, q_lit, q_sub, Nat.add_sub_cancel, q_upE, q_upN, q_upM, q_upO, q_bd, q_pf, q_nm, q_ald, q_ast, q_tld, q_lt0, q_lt, q_le, q_eq, q_m9, q_9m, q_neg9, q_add, q_mul, q_zr0, q_zr1, q_clamp, if_true, if_false, if_pos, if_neg]
      · by_cases e2 : a.toInt = 2
        · refine ⟨μ 1 13, μ, ν, ?_, ?_, h⟩
          · simp (disch := omega) only [zf_N_latest, q_xeq, q_nI, q_lit, q_sub, Nat.add_sub_cancel, q_upE, q_upN, q_upM, q_upO, q_bd, q_pf, q_nm, q_ald, q_ast, q_tld, q_lt0, q_lt, q_le, q_eq, q_m9, q_9m, q_neg9, q_add, q_mul, q_zr0, q_zr1, q_clamp, if_true, if_false, if_pos, if_neg]
          · rw [l3]; simp (disch := omega) only [zf_M_latest, hin, zf_M_latest_b77, q_xeq, q_nI, q_lit, q_sub, Nat.add_sub_cancel, q_upE, q_upN, q_upM, q_upO, q_bd, q_pf, q_nm, q_ald, q_ast, q_tld, q_lt0, q_lt, q_le, q_eq, q_m9, q_9m, q_neg9, q_add, q_mul, q_zr0, q_zr1, q_clamp, if_true, if_false, if_pos, if_neg]
        · refine ⟨-nI 2, μ, ν, ?_, ?_, h⟩
          · by_cases e3 : a.toInt < 10
            · simp (disch := omega) only [zf_N_latest, zf_N_latest_b69, q_xeq, q_nI, q_xlt, q_lit, q_sub, Nat.add_sub_cancel, q_upE, q_upN, q_upM, q_upO, q_bd, q_pf, q_nm, q_ald, q_ast, q_tld, q_lt0, q_lt, q_le, q_eq, q_m9, q_9m, q_neg9, q_add, q_mul, q_zr0, q_zr1, q_clamp, if_true, if_false, if_pos, if_neg]
            · have e4 : ¬ (a - nI 10).toInt < 8 := by
                have hb : a.toInt < 2147483648 := by simpa using Int32.toInt_lt a
                obtain ⟨p, rfl, hp1, hp2⟩ := q_of (x := a) (a := 18) (b := 2147483647) (by omega)
                rw [q_sub (by omega), q_nI (by omega)]
                omega
              simp (disch := omega) only [zf_N_latest, zf_N_latest_b69, q_xeq, q_nI, q_xlt, q_lit, q_sub, Nat.add_sub_cancel, q_upE, q_upN, q_upM, q_upO, q_bd, q_pf, q_nm, q_ald, q_ast, q_tld, q_lt0, q_lt, q_le, q_eq, q_m9, q_9m, q_neg9, q_add, q_mul, q_zr0, q_zr1, q_clamp, if_true, if_false, if_pos, if_neg]
          · simp (disch := omega) only [zf_M_latest, hin, zf_M_latest_b77, q_xeq, q_nI, q_lit, q_sub, Nat.add_sub_cancel, q_upE, q_upN, q_upM, q_upO, q_bd, q_pf, q_nm, q_ald, q_ast, q_tld, q_lt0, q_lt, q_le, q_eq, q_m9, q_9m, q_neg9, q_add, q_mul, q_zr0, q_zr1, q_clamp, if_true, if_false, if_pos, if_neg]
theorem j_st_price {o B N c : Nat} {fm : Nat → Nat} {pt : Nat → Nat → Nat} {x : Int32} (ho : o < B) (h : j_st o B N fm pt μ ν) : j_st o B N fm pt (nk_up μ (B + 1) c x) (nk_up ν 2 c x) := by
  obtain ⟨h1, h2, h3, h4⟩ := h
  refine ⟨h1, by simp (disch := omega) only [q_lit, q_sub, Nat.add_sub_cancel, q_upE, q_upN, q_upM, q_upO, q_bd, q_pf, q_nm, q_ald, q_ast, q_tld, q_lt0, q_lt, q_le, q_eq, q_m9, q_9m, q_neg9, q_add, q_mul, q_zr0, q_zr1, q_clamp, if_true, if_false, if_pos, if_neg]; exact h2, by simp (disch := omega) only [q_lit, q_sub, Nat.add_sub_cancel, q_upE, q_upN, q_upM, q_upO, q_bd, q_pf, q_nm, q_ald, q_ast, q_tld, q_lt0, q_lt, q_le, q_eq, q_m9, q_9m, q_neg9, q_add, q_mul, q_zr0, q_zr1, q_clamp, if_true, if_false, if_pos, if_neg]; exact h3, fun c' hc => ?_⟩
  obtain ⟨a1, a2, a3, a4, a5, a6, a7⟩ := h4 c' hc
  refine ⟨a1, by simp (disch := omega) only [q_lit, q_sub, Nat.add_sub_cancel, q_upE, q_upN, q_upM, q_upO, q_bd, q_pf, q_nm, q_ald, q_ast, q_tld, q_lt0, q_lt, q_le, q_eq, q_m9, q_9m, q_neg9, q_add, q_mul, q_zr0, q_zr1, q_clamp, if_true, if_false, if_pos, if_neg]; exact a2, by simp (disch := omega) only [q_lit, q_sub, Nat.add_sub_cancel, q_upE, q_upN, q_upM, q_upO, q_bd, q_pf, q_nm, q_ald, q_ast, q_tld, q_lt0, q_lt, q_le, q_eq, q_m9, q_9m, q_neg9, q_add, q_mul, q_zr0, q_zr1, q_clamp, if_true, if_false, if_pos, if_neg]; exact a3, by simp (disch := omega) only [q_lit, q_sub, Nat.add_sub_cancel, q_upE, q_upN, q_upM, q_upO, q_bd, q_pf, q_nm, q_ald, q_ast, q_tld, q_lt0, q_lt, q_le, q_eq, q_m9, q_9m, q_neg9, q_add, q_mul, q_zr0, q_zr1, q_clamp, if_true, if_false, if_pos, if_neg]; exact a4, by simp (disch := omega) only [q_lit, q_sub, Nat.add_sub_cancel, q_upE, q_upN, q_upM, q_upO, q_bd, q_pf, q_nm, q_ald, q_ast, q_tld, q_lt0, q_lt, q_le, q_eq, q_m9, q_9m, q_neg9, q_add, q_mul, q_zr0, q_zr1, q_clamp, if_true, if_false, if_pos, if_neg]; exact a5, ?_, fun k hk => by simp (disch := omega) only [q_lit, q_sub, Nat.add_sub_cancel, q_upE, q_upN, q_upM, q_upO, q_bd, q_pf, q_nm, q_ald, q_ast, q_tld, q_lt0, q_lt, q_le, q_eq, q_m9, q_9m, q_neg9, q_add, q_mul, q_zr0, q_zr1, q_clamp, if_true, if_false, if_pos, if_neg]; exact a7 k hk⟩
  by_cases e : c' = c
  · subst e; rw [q_upE, q_upE]
  · rw [q_upM e, q_upM e]; exact a6
theorem p_price (a b : Int32) (h : RR μ ν) : p_ok (zf_N_price a b μ) (zf_M_price a b ν) := by
  obtain ⟨N, fm, pt, hA, hL, hT, hD, hS, hF⟩ := id h
  obtain ⟨s1, s2, s3, s4⟩ := id hA.1
  rcases pk_ix a (n := N) (by omega) with e | e | ⟨c, hc, rfl⟩
  · obtain ⟨g1, g2⟩ := hn_out (o := 1) (B := 6) (x := a) s1 s2 s3 (Or.inl e)
    exact ⟨-nI 1, μ, ν, by simp (disch := omega) only [zf_N_price, g1, q_lit, q_sub, Nat.add_sub_cancel, q_upE, q_upN, q_upM, q_upO, q_bd, q_pf, q_nm, q_ald, q_ast, q_tld, q_lt0, q_lt, q_le, q_eq, q_m9, q_9m, q_neg9, q_add, q_mul, q_zr0, q_zr1, q_clamp, if_true, if_false, if_pos, if_neg], by simp (disch := omega) only [zf_M_price, g2, q_10, q_lit, q_sub, Nat.add_sub_cancel, q_upE, q_upN, q_upM, q_upO, q_bd, q_pf, q_nm, q_ald, q_ast, q_tld, q_lt0, q_lt, q_le, q_eq, q_m9, q_9m, q_neg9, q_add, q_mul, q_zr0, q_zr1, q_clamp, if_true, if_false, if_pos, if_neg], h⟩
  · obtain ⟨g1, g2⟩ := hn_out (o := 1) (B := 6) (x := a) s1 s2 s3 (Or.inr e)
    exact ⟨-nI 1, μ, ν, by simp (disch := omega) only [zf_N_price, g1, q_lit, q_sub, Nat.add_sub_cancel, q_upE, q_upN, q_upM, q_upO, q_bd, q_pf, q_nm, q_ald, q_ast, q_tld, q_lt0, q_lt, q_le, q_eq, q_m9, q_9m, q_neg9, q_add, q_mul, q_zr0, q_zr1, q_clamp, if_true, if_false, if_pos, if_neg], by simp (disch := omega) only [zf_M_price, g2, q_10, q_lit, q_sub, Nat.add_sub_cancel, q_upE, q_upN, q_upM, q_upO, q_bd, q_pf, q_nm, q_ald, q_ast, q_tld, q_lt0, q_lt, q_le, q_eq, q_m9, q_9m, q_neg9, q_add, q_mul, q_zr0, q_zr1, q_clamp, if_true, if_false, if_pos, if_neg], h⟩
  · obtain ⟨g1, g2⟩ := hn_in (o := 1) (B := 6) s1 s2 s3 hc
    by_cases e : 1 ≤ b.toInt ∧ b.toInt ≤ 9
    · obtain ⟨p, rfl, hp1, hp2⟩ := q_of (a := 1) (b := 9) e
      have hin := r_inT (x := nI p) (l := 1) (h := 9) ν 1 9 (by decide) (by decide) e
      obtain ⟨-, -, -, -, -, hpr, -⟩ := s4 c hc
      refine ⟨μ 7 c, nk_up μ 7 c (nI p), nk_up ν 2 c (nI p), ?_, ?_, N, fm, pt, ⟨j_st_price (by omega) hA.1, k_dy_c hA.2.1 (fun k j h => by simp (disch := omega) only [q_lit, q_sub, Nat.add_sub_cancel, q_upE, q_upN, q_upM, q_upO, q_bd, q_pf, q_nm, q_ald, q_ast, q_tld, q_lt0, q_lt, q_le, q_eq, q_m9, q_9m, q_neg9, q_add, q_mul, q_zr0, q_zr1, q_clamp, if_true, if_false, if_pos, if_neg]) (fun k j h => by simp (disch := omega) only [q_lit, q_sub, Nat.add_sub_cancel, q_upE, q_upN, q_upM, q_upO, q_bd, q_pf, q_nm, q_ald, q_ast, q_tld, q_lt0, q_lt, q_le, q_eq, q_m9, q_9m, q_neg9, q_add, q_mul, q_zr0, q_zr1, q_clamp, if_true, if_false, if_pos, if_neg]), fun c' hc' => ?_⟩, R_L_c hL (fun k j h => by simp (disch := omega) only [q_lit, q_sub, Nat.add_sub_cancel, q_upE, q_upN, q_upM, q_upO, q_bd, q_pf, q_nm, q_ald, q_ast, q_tld, q_lt0, q_lt, q_le, q_eq, q_m9, q_9m, q_neg9, q_add, q_mul, q_zr0, q_zr1, q_clamp, if_true, if_false, if_pos, if_neg]) (fun k j h => by simp (disch := omega) only [q_lit, q_sub, Nat.add_sub_cancel, q_upE, q_upN, q_upM, q_upO, q_bd, q_pf, q_nm, q_ald, q_ast, q_tld, q_lt0, q_lt, q_le, q_eq, q_m9, q_9m, q_neg9, q_add, q_mul, q_zr0, q_zr1, q_clamp, if_true, if_false, if_pos, if_neg]), R_T_c hT (fun k j h => by simp (disch := omega) only [q_lit, q_sub, Nat.add_sub_cancel, q_upE, q_upN, q_upM, q_upO, q_bd, q_pf, q_nm, q_ald, q_ast, q_tld, q_lt0, q_lt, q_le, q_eq, q_m9, q_9m, q_neg9, q_add, q_mul, q_zr0, q_zr1, q_clamp, if_true, if_false, if_pos, if_neg]), R_D_c hD (fun k j h => by simp (disch := omega) only [q_lit, q_sub, Nat.add_sub_cancel, q_upE, q_upN, q_upM, q_upO, q_bd, q_pf, q_nm, q_ald, q_ast, q_tld, q_lt0, q_lt, q_le, q_eq, q_m9, q_9m, q_neg9, q_add, q_mul, q_zr0, q_zr1, q_clamp, if_true, if_false, if_pos, if_neg]) (fun k j h => by simp (disch := omega) only [q_lit, q_sub, Nat.add_sub_cancel, q_upE, q_upN, q_upM, q_upO, q_bd, q_pf, q_nm, q_ald, q_ast, q_tld, q_lt0, q_lt, q_le, q_eq, q_m9, q_9m, q_neg9, q_add, q_mul, q_zr0, q_zr1, q_clamp, if_true, if_false, if_pos, if_neg]), R_S_c hS (fun k j h => by simp (disch := omega) only [q_lit, q_sub, Nat.add_sub_cancel, q_upE, q_upN, q_upM, q_upO, q_bd, q_pf, q_nm, q_ald, q_ast, q_tld, q_lt0, q_lt, q_le, q_eq, q_m9, q_9m, q_neg9, q_add, q_mul, q_zr0, q_zr1, q_clamp, if_true, if_false, if_pos, if_neg]) (fun k j h => by simp (disch := omega) only [q_lit, q_sub, Nat.add_sub_cancel, q_upE, q_upN, q_upM, q_upO, q_bd, q_pf, q_nm, q_ald, q_ast, q_tld, q_lt0, q_lt, q_le, q_eq, q_m9, q_9m, q_neg9, q_add, q_mul, q_zr0, q_zr1, q_clamp, if_true, if_false, if_pos, if_neg]), R_F_c hF (fun j h => by simp (disch := omega) only [q_lit, q_sub, Nat.add_sub_cancel, q_upE, q_upN, q_upM, q_upO, q_bd, q_pf, q_nm, q_ald, q_ast, q_tld, q_lt0, q_lt, q_le, q_eq, q_m9, q_9m, q_neg9, q_add, q_mul, q_zr0, q_zr1, q_clamp, if_true, if_false, if_pos, if_neg]) (fun j h => by simp (disch := omega) only [q_lit, q_sub, Nat.add_sub_cancel, q_upE, q_upN, q_upM, q_upO, q_bd, q_pf, q_nm, q_ald, q_ast, q_tld, q_lt0, q_lt, q_le, q_eq, q_m9, q_9m, q_neg9, q_add, q_mul, q_zr0, q_zr1, q_clamp, if_true, if_false, if_pos, if_neg])⟩
      · simp (disch := omega) only [zf_N_price, g1, q_10, q_lit, q_sub, Nat.add_sub_cancel, q_upE, q_upN, q_upM, q_upO, q_bd, q_pf, q_nm, q_ald, q_ast, q_tld, q_lt0, q_lt, q_le, q_eq, q_m9, q_9m, q_neg9, q_add, q_mul, q_zr0, q_zr1, q_clamp, if_true, if_false, if_pos, if_neg]
      · rw [show μ 7 c = ν 2 c from hpr]
        simp (disch := omega) only [zf_M_price, g2, zf_M_isPrice, hin, q_10, q_lit, q_sub, Nat.add_sub_cancel, q_upE, q_upN, q_upM, q_upO, q_bd, q_pf, q_nm, q_ald, q_ast, q_tld, q_lt0, q_lt, q_le, q_eq, q_m9, q_9m, q_neg9, q_add, q_mul, q_zr0, q_zr1, q_clamp, if_true, if_false, if_pos, if_neg]
      · by_cases e2 : c' = c
        · subst e2; exact ⟨p, hp1, hp2, by rw [q_upE]⟩
        · rw [q_upM e2]; exact hA.2.2 c' hc'
    · have hin := r_inF (x := b) (l := 1) (h := 9) ν 1 9 (by decide) (by decide) e
      refine ⟨-nI 2, μ, ν, ?_, ?_, h⟩
      · by_cases e2 : b.toInt < 1
        · simp (disch := omega) only [zf_N_price, g1, q_10, q_xlt, q_nI, zf_N_price_b24, q_lit, q_sub, Nat.add_sub_cancel, q_upE, q_upN, q_upM, q_upO, q_bd, q_pf, q_nm, q_ald, q_ast, q_tld, q_lt0, q_lt, q_le, q_eq, q_m9, q_9m, q_neg9, q_add, q_mul, q_zr0, q_zr1, q_clamp, if_true, if_false, if_pos, if_neg]
        · simp (disch := omega) only [zf_N_price, g1, q_10, q_xlt, q_xle, q_nI, zf_N_price_b24, q_lit, q_sub, Nat.add_sub_cancel, q_upE, q_upN, q_upM, q_upO, q_bd, q_pf, q_nm, q_ald, q_ast, q_tld, q_lt0, q_lt, q_le, q_eq, q_m9, q_9m, q_neg9, q_add, q_mul, q_zr0, q_zr1, q_clamp, if_true, if_false, if_pos, if_neg]
      · simp (disch := omega) only [zf_M_price, g2, zf_M_isPrice, hin, q_lit, q_sub, Nat.add_sub_cancel, q_upE, q_upN, q_upM, q_upO, q_bd, q_pf, q_nm, q_ald, q_ast, q_tld, q_lt0, q_lt, q_le, q_eq, q_m9, q_9m, q_neg9, q_add, q_mul, q_zr0, q_zr1, q_clamp, if_true, if_false, if_pos, if_neg]
theorem p_back (a : Int32) (h : RR μ ν) : p_ok (zf_N_back a μ) (zf_M_back a ν) := by
  obtain ⟨N, fm, pt, hA, hL, hT, ⟨r, r1, r2, r3, r4⟩, hS, hF⟩ := id h
  have hr : ((nI r).toInt64).toInt = (r : Int) := by rw [Int32.toInt_toInt64, q_nI (by omega)]
  by_cases e : 0 ≤ a.toInt ∧ a.toInt ≤ (r : Int)
  · obtain ⟨p, rfl, hp1, hp2⟩ := q_of (a := 0) (b := r) e
    have hin := r_inT (x := nI p) (l := 0) (h := (nI r).toInt64) ν 0 r (by decide) hr e
    refine ⟨nI (r - p), nk_up μ 4 0 (nI (r - p)), nk_up ν 0 41 (nI (r - p)), ?_, ?_, N, fm, pt, R_A_c hA (fun k j h => by simp (disch := omega) only [q_lit, q_sub, Nat.add_sub_cancel, q_upE, q_upN, q_upM, q_upO, q_bd, q_pf, q_nm, q_ald, q_ast, q_tld, q_lt0, q_lt, q_le, q_eq, q_m9, q_9m, q_neg9, q_add, q_mul, q_zr0, q_zr1, q_clamp, if_true, if_false, if_pos, if_neg]) (fun k j h => by simp (disch := omega) only [q_lit, q_sub, Nat.add_sub_cancel, q_upE, q_upN, q_upM, q_upO, q_bd, q_pf, q_nm, q_ald, q_ast, q_tld, q_lt0, q_lt, q_le, q_eq, q_m9, q_9m, q_neg9, q_add, q_mul, q_zr0, q_zr1, q_clamp, if_true, if_false, if_pos, if_neg]), R_L_c hL (fun k j h => by simp (disch := omega) only [q_lit, q_sub, Nat.add_sub_cancel, q_upE, q_upN, q_upM, q_upO, q_bd, q_pf, q_nm, q_ald, q_ast, q_tld, q_lt0, q_lt, q_le, q_eq, q_m9, q_9m, q_neg9, q_add, q_mul, q_zr0, q_zr1, q_clamp, if_true, if_false, if_pos, if_neg]) (fun k j h => by simp (disch := omega) only [q_lit, q_sub, Nat.add_sub_cancel, q_upE, q_upN, q_upM, q_upO, q_bd, q_pf, q_nm, q_ald, q_ast, q_tld, q_lt0, q_lt, q_le, q_eq, q_m9, q_9m, q_neg9, q_add, q_mul, q_zr0, q_zr1, q_clamp, if_true, if_false, if_pos, if_neg]), R_T_c hT (fun k j h => by simp (disch := omega) only [q_lit, q_sub, Nat.add_sub_cancel, q_upE, q_upN, q_upM, q_upO, q_bd, q_pf, q_nm, q_ald, q_ast, q_tld, q_lt0, q_lt, q_le, q_eq, q_m9, q_9m, q_neg9, q_add, q_mul, q_zr0, q_zr1, q_clamp, if_true, if_false, if_pos, if_neg]), ⟨r - p, by omega, q_upE, q_upE, fun i hi => ?_⟩, R_S_c hS (fun k j h => by simp (disch := omega) only [q_lit, q_sub, Nat.add_sub_cancel, q_upE, q_upN, q_upM, q_upO, q_bd, q_pf, q_nm, q_ald, q_ast, q_tld, q_lt0, q_lt, q_le, q_eq, q_m9, q_9m, q_neg9, q_add, q_mul, q_zr0, q_zr1, q_clamp, if_true, if_false, if_pos, if_neg]) (fun k j h => by simp (disch := omega) only [q_lit, q_sub, Nat.add_sub_cancel, q_upE, q_upN, q_upM, q_upO, q_bd, q_pf, q_nm, q_ald, q_ast, q_tld, q_lt0, q_lt, q_le, q_eq, q_m9, q_9m, q_neg9, q_add, q_mul, q_zr0, q_zr1, q_clamp, if_true, if_false, if_pos, if_neg]), R_F_c hF (fun j h => by simp (disch := omega) only [q_lit, q_sub, Nat.add_sub_cancel, q_upE, q_upN, q_upM, q_upO, q_bd, q_pf, q_nm, q_ald, q_ast, q_tld, q_lt0, q_lt, q_le, q_eq, q_m9, q_9m, q_neg9, q_add, q_mul, q_zr0, q_zr1, q_clamp, if_true, if_false, if_pos, if_neg]) (fun j h => by simp (disch := omega) only [q_lit, q_sub, Nat.add_sub_cancel, q_upE, q_upN, q_upM, q_upO, q_bd, q_pf, q_nm, q_ald, q_ast, q_tld, q_lt0, q_lt, q_le, q_eq, q_m9, q_9m, q_neg9, q_add, q_mul, q_zr0, q_zr1, q_clamp, if_true, if_false, if_pos, if_neg])⟩
    · simp (disch := omega) only [zf_N_back, r2, q_lit, q_sub, Nat.add_sub_cancel, q_upE, q_upN, q_upM, q_upO, q_bd, q_pf, q_nm, q_ald, q_ast, q_tld, q_lt0, q_lt, q_le, q_eq, q_m9, q_9m, q_neg9, q_add, q_mul, q_zr0, q_zr1, q_clamp, if_true, if_false, if_pos, if_neg]
    · simp (disch := omega) only [zf_M_back, r3, hin, q_10, q_lit, q_sub, Nat.add_sub_cancel, q_upE, q_upN, q_upM, q_upO, q_bd, q_pf, q_nm, q_ald, q_ast, q_tld, q_lt0, q_lt, q_le, q_eq, q_m9, q_9m, q_neg9, q_add, q_mul, q_zr0, q_zr1, q_clamp, if_true, if_false, if_pos, if_neg]
    · simp (disch := omega) only [q_lit, q_sub, Nat.add_sub_cancel, q_upE, q_upN, q_upM, q_upO, q_bd, q_pf, q_nm, q_ald, q_ast, q_tld, q_lt0, q_lt, q_le, q_eq, q_m9, q_9m, q_neg9, q_add, q_mul, q_zr0, q_zr1, q_clamp, if_true, if_false, if_pos, if_neg]
      exact r4 i (by omega)
  · have hin := r_inF (x := a) (l := 0) (h := (nI r).toInt64) ν 0 r (by decide) hr e
    refine ⟨-nI 2, μ, ν, ?_, ?_, h⟩
    · by_cases e2 : a.toInt < 0
      · have e3 : a < nI 0 := by rw [q_xlt (by omega)]; exact e2
        simp only [zf_N_back, q_lit, e3, if_true, zf_N_back_b15]
      · have e3 : ¬ a < nI 0 := by rw [q_xlt (by omega)]; exact e2
        have e4 : ¬ a ≤ nI r := by rw [q_xle (by omega)]; omega
        simp only [zf_N_back, q_lit, e3, r2, e4, if_false, zf_N_back_b15]
    · simp (disch := omega) only [zf_M_back, r3, hin, q_lit, q_sub, Nat.add_sub_cancel, q_upE, q_upN, q_upM, q_upO, q_bd, q_pf, q_nm, q_ald, q_ast, q_tld, q_lt0, q_lt, q_le, q_eq, q_m9, q_9m, q_neg9, q_add, q_mul, q_zr0, q_zr1, q_clamp, if_true, if_false, if_pos, if_neg]
theorem p_reading (a b : Int32) (h : RR μ ν) : p_ok (zf_N_reading a b μ) (zf_M_reading a b ν) := by
  obtain ⟨N, fm, pt, hA, hL, hT, ⟨r, r1, r2, r3, r4⟩, hS, hF⟩ := id h
  obtain ⟨s1, s2, s3, s4⟩ := id hA.1
  rcases pk_ix a (n := N) (by omega) with e | e | ⟨c, hc, rfl⟩
  · obtain ⟨g1, g2⟩ := hn_out (o := 1) (B := 6) (x := a) s1 s2 s3 (Or.inl e)
    exact ⟨-nI 1, μ, ν, by simp (disch := omega) only [zf_N_reading, g1, q_lit, q_sub, Nat.add_sub_cancel, q_upE, q_upN, q_upM, q_upO, q_bd, q_pf, q_nm, q_ald, q_ast, q_tld, q_lt0, q_lt, q_le, q_eq, q_m9, q_9m, q_neg9, q_add, q_mul, q_zr0, q_zr1, q_clamp, if_true, if_false, if_pos, if_neg], by simp (disch := omega) only [zf_M_reading, g2, q_10, q_lit, q_sub, Nat.add_sub_cancel, q_upE, q_upN, q_upM, q_upO, q_bd, q_pf, q_nm, q_ald, q_ast, q_tld, q_lt0, q_lt, q_le, q_eq, q_m9, q_9m, q_neg9, q_add, q_mul, q_zr0, q_zr1, q_clamp, if_true, if_false, if_pos, if_neg], h⟩
  · obtain ⟨g1, g2⟩ := hn_out (o := 1) (B := 6) (x := a) s1 s2 s3 (Or.inr e)
    exact ⟨-nI 1, μ, ν, by simp (disch := omega) only [zf_N_reading, g1, q_lit, q_sub, Nat.add_sub_cancel, q_upE, q_upN, q_upM, q_upO, q_bd, q_pf, q_nm, q_ald, q_ast, q_tld, q_lt0, q_lt, q_le, q_eq, q_m9, q_9m, q_neg9, q_add, q_mul, q_zr0, q_zr1, q_clamp, if_true, if_false, if_pos, if_neg], by simp (disch := omega) only [zf_M_reading, g2, q_10, q_lit, q_sub, Nat.add_sub_cancel, q_upE, q_upN, q_upM, q_upO, q_bd, q_pf, q_nm, q_ald, q_ast, q_tld, q_lt0, q_lt, q_le, q_eq, q_m9, q_9m, q_neg9, q_add, q_mul, q_zr0, q_zr1, q_clamp, if_true, if_false, if_pos, if_neg], h⟩
  · obtain ⟨g1, g2⟩ := hn_in (o := 1) (B := 6) s1 s2 s3 hc
    by_cases e : 0 ≤ b.toInt ∧ b.toInt ≤ 200
    · obtain ⟨p, rfl, hp1, hp2⟩ := q_of (a := 0) (b := 200) e
      have hin := r_inT (x := nI p) (l := 0) (h := 200) ν 0 200 (by decide) (by decide) e
      by_cases e8 : r = 8
      · subst e8
        refine ⟨-nI 4, μ, ν, ?_, ?_, h⟩
        · simp (disch := omega) only [zf_N_reading, g1, q_10, zf_R_add, r2, q_lit, q_sub, Nat.add_sub_cancel, q_upE, q_upN, q_upM, q_upO, q_bd, q_pf, q_nm, q_ald, q_ast, q_tld, q_lt0, q_lt, q_le, q_eq, q_m9, q_9m, q_neg9, q_add, q_mul, q_zr0, q_zr1, q_clamp, if_true, if_false, if_pos, if_neg]
        · simp (disch := omega) only [zf_M_reading, g2, hin, q_10, r3, q_lit, q_sub, Nat.add_sub_cancel, q_upE, q_upN, q_upM, q_upO, q_bd, q_pf, q_nm, q_ald, q_ast, q_tld, q_lt0, q_lt, q_le, q_eq, q_m9, q_9m, q_neg9, q_add, q_mul, q_zr0, q_zr1, q_clamp, if_true, if_false, if_pos, if_neg]
      · refine ⟨nI r, nk_up (nk_up (nk_up μ 24 r (nI c)) 25 r (nI p)) 4 0 (nI (r + 1)), nk_up (nk_up (nk_up ν 23 r (nI c)) 24 r (nI p)) 0 41 (nI (r + 1)), ?_, ?_, N, fm, pt, R_A_c hA (fun k j h => by simp (disch := omega) only [q_lit, q_sub, Nat.add_sub_cancel, q_upE, q_upN, q_upM, q_upO, q_bd, q_pf, q_nm, q_ald, q_ast, q_tld, q_lt0, q_lt, q_le, q_eq, q_m9, q_9m, q_neg9, q_add, q_mul, q_zr0, q_zr1, q_clamp, if_true, if_false, if_pos, if_neg]) (fun k j h => by simp (disch := omega) only [q_lit, q_sub, Nat.add_sub_cancel, q_upE, q_upN, q_upM, q_upO, q_bd, q_pf, q_nm, q_ald, q_ast, q_tld, q_lt0, q_lt, q_le, q_eq, q_m9, q_9m, q_neg9, q_add, q_mul, q_zr0, q_zr1, q_clamp, if_true, if_false, if_pos, if_neg]), R_L_c hL (fun k j h => by simp (disch := omega) only [q_lit, q_sub, Nat.add_sub_cancel, q_upE, q_upN, q_upM, q_upO, q_bd, q_pf, q_nm, q_ald, q_ast, q_tld, q_lt0, q_lt, q_le, q_eq, q_m9, q_9m, q_neg9, q_add, q_mul, q_zr0, q_zr1, q_clamp, if_true, if_false, if_pos, if_neg]) (fun k j h => by simp (disch := omega) only [q_lit, q_sub, Nat.add_sub_cancel, q_upE, q_upN, q_upM, q_upO, q_bd, q_pf, q_nm, q_ald, q_ast, q_tld, q_lt0, q_lt, q_le, q_eq, q_m9, q_9m, q_neg9, q_add, q_mul, q_zr0, q_zr1, q_clamp, if_true, if_false, if_pos, if_neg]), R_T_c hT (fun k j h => by simp (disch := omega) only [q_lit, q_sub, Nat.add_sub_cancel, q_upE, q_upN, q_upM, q_upO, q_bd, q_pf, q_nm, q_ald, q_ast, q_tld, q_lt0, q_lt, q_le, q_eq, q_m9, q_9m, q_neg9, q_add, q_mul, q_zr0, q_zr1, q_clamp, if_true, if_false, if_pos, if_neg]), ⟨r + 1, by omega, q_upE, q_upE, fun i hi => ?_⟩, R_S_c hS (fun k j h => by simp (disch := omega) only [q_lit, q_sub, Nat.add_sub_cancel, q_upE, q_upN, q_upM, q_upO, q_bd, q_pf, q_nm, q_ald, q_ast, q_tld, q_lt0, q_lt, q_le, q_eq, q_m9, q_9m, q_neg9, q_add, q_mul, q_zr0, q_zr1, q_clamp, if_true, if_false, if_pos, if_neg]) (fun k j h => by simp (disch := omega) only [q_lit, q_sub, Nat.add_sub_cancel, q_upE, q_upN, q_upM, q_upO, q_bd, q_pf, q_nm, q_ald, q_ast, q_tld, q_lt0, q_lt, q_le, q_eq, q_m9, q_9m, q_neg9, q_add, q_mul, q_zr0, q_zr1, q_clamp, if_true, if_false, if_pos, if_neg]), R_F_c hF (fun j h => by simp (disch := omega) only [q_lit, q_sub, Nat.add_sub_cancel, q_upE, q_upN, q_upM, q_upO, q_bd, q_pf, q_nm, q_ald, q_ast, q_tld, q_lt0, q_lt, q_le, q_eq, q_m9, q_9m, q_neg9, q_add, q_mul, q_zr0, q_zr1, q_clamp, if_true, if_false, if_pos, if_neg]) (fun j h => by simp (disch := omega) only [q_lit, q_sub, Nat.add_sub_cancel, q_upE, q_upN, q_upM, q_upO, q_bd, q_pf, q_nm, q_ald, q_ast, q_tld, q_lt0, q_lt, q_le, q_eq, q_m9, q_9m, q_neg9, q_add, q_mul, q_zr0, q_zr1, q_clamp, if_true, if_false, if_pos, if_neg])⟩
        · simp (disch := omega) only [zf_N_reading, g1, q_10, zf_R_add, r2, q_lit, q_sub, Nat.add_sub_cancel, q_upE, q_upN, q_upM, q_upO, q_bd, q_pf, q_nm, q_ald, q_ast, q_tld, q_lt0, q_lt, q_le, q_eq, q_m9, q_9m, q_neg9, q_add, q_mul, q_zr0, q_zr1, q_clamp, if_true, if_false, if_pos, if_neg]
        · simp (disch := omega) only [zf_M_reading, g2, hin, q_10, r3, q_lit, q_sub, Nat.add_sub_cancel, q_upE, q_upN, q_upM, q_upO, q_bd, q_pf, q_nm, q_ald, q_ast, q_tld, q_lt0, q_lt, q_le, q_eq, q_m9, q_9m, q_neg9, q_add, q_mul, q_zr0, q_zr1, q_clamp, if_true, if_false, if_pos, if_neg]
        · by_cases e9 : i = r
          · subst e9
            simp (disch := omega) only [q_lit, q_sub, Nat.add_sub_cancel, q_upE, q_upN, q_upM, q_upO, q_bd, q_pf, q_nm, q_ald, q_ast, q_tld, q_lt0, q_lt, q_le, q_eq, q_m9, q_9m, q_neg9, q_add, q_mul, q_zr0, q_zr1, q_clamp, if_true, if_false, if_pos, if_neg]
            exact ⟨⟨c, hc, rfl⟩, trivial, trivial⟩
          · simp (disch := omega) only [q_lit, q_sub, Nat.add_sub_cancel, q_upE, q_upN, q_upM, q_upO, q_bd, q_pf, q_nm, q_ald, q_ast, q_tld, q_lt0, q_lt, q_le, q_eq, q_m9, q_9m, q_neg9, q_add, q_mul, q_zr0, q_zr1, q_clamp, if_true, if_false, if_pos, if_neg]
            exact r4 i (by omega)
    · have hin := r_inF (x := b) (l := 0) (h := 200) ν 0 200 (by decide) (by decide) e
      refine ⟨-nI 2, μ, ν, ?_, ?_, h⟩
      · by_cases e2 : b.toInt < 0
        · have e3 : b < nI 0 := by rw [q_xlt (by omega)]; exact e2
          simp (disch := omega) only [zf_N_reading, g1, q_10, e3, zf_N_reading_b24, q_lit, q_sub, Nat.add_sub_cancel, q_upE, q_upN, q_upM, q_upO, q_bd, q_pf, q_nm, q_ald, q_ast, q_tld, q_lt0, q_lt, q_le, q_eq, q_m9, q_9m, q_neg9, q_add, q_mul, q_zr0, q_zr1, q_clamp, if_true, if_false, if_pos, if_neg]
        · have e3 : ¬ b < nI 0 := by rw [q_xlt (by omega)]; exact e2
          simp (disch := omega) only [zf_N_reading, g1, q_10, e3, q_xle, q_nI, zf_N_reading_b24, q_lit, q_sub, Nat.add_sub_cancel, q_upE, q_upN, q_upM, q_upO, q_bd, q_pf, q_nm, q_ald, q_ast, q_tld, q_lt0, q_lt, q_le, q_eq, q_m9, q_9m, q_neg9, q_add, q_mul, q_zr0, q_zr1, q_clamp, if_true, if_false, if_pos, if_neg]
      · simp (disch := omega) only [zf_M_reading, g2, hin, q_lit, q_sub, Nat.add_sub_cancel, q_upE, q_upN, q_upM, q_upO, q_bd, q_pf, q_nm, q_ald, q_ast, q_tld, q_lt0, q_lt, q_le, q_eq, q_m9, q_9m, q_neg9, q_add, q_mul, q_zr0, q_zr1, q_clamp, if_true, if_false, if_pos, if_neg]
end PS

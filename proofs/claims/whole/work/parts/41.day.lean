/-! ===== 41: day ===== -/
section DY
variable {μ ν : nk_M}
theorem e_isOfDay (x : Int32) (μ : nk_M) : zf_N_isOfDay x μ = some (if (0 ≤ x.toInt ∧ x.toInt ≤ 4) ∨ (10 ≤ x.toInt ∧ x.toInt ≤ 17) then nI 1 else nI 0, μ) := by
  have h9 : ¬ (0 ≤ x.toInt ∧ x.toInt ≤ 4) → zf_N_isOfDay_b9 x μ = some (if (0 ≤ x.toInt ∧ x.toInt ≤ 4) ∨ (10 ≤ x.toInt ∧ x.toInt ≤ 17) then nI 1 else nI 0, μ) := fun h => by
    unfold zf_N_isOfDay_b9
    by_cases e1 : x.toInt < 10
    · rw [if_pos (l_xlt 10 (by omega) (by omega)), if_neg (by omega)]; rfl
    · rw [if_neg (l_nxlt 10 (by omega) (by omega))]
      by_cases e2 : 18 ≤ x.toInt
      · rw [if_pos (show (18 : Int32) ≤ x from (q_kle (k := 18) (by omega)).mpr (by omega)), if_neg (by omega)]; rfl
      · rw [if_neg (show ¬ (18 : Int32) ≤ x from fun z => by have := (q_kle (k := 18) (by omega)).mp z; omega), if_pos (by omega)]; rfl
  unfold zf_N_isOfDay
  by_cases e1 : x.toInt < 0
  · rw [if_pos (l_xlt 0 (by omega) (by omega))]; exact h9 (by omega)
  · rw [if_neg (l_nxlt 0 (by omega) (by omega))]
    by_cases e2 : x.toInt ≤ 4
    · rw [if_pos (l_xle 4 (by omega) (by omega)), if_pos (by omega)]; rfl
    · rw [if_neg (l_nxle 4 (by omega) (by omega))]; exact h9 (by omega)
theorem q_two : ∀ m : Fin 21, ((2 : Int64) * (nI m.val).toInt64).toInt = (nI (2 * m.val)).toInt := by decide
theorem q_nf {f : Nat} (h : 0 < f) (h4 : f ≤ 4) : ¬ (0 : Int32) ≤ -nI 10 - nI f := by
  rcases (show f = 1 ∨ f = 2 ∨ f = 3 ∨ f = 4 by omega) with rfl | rfl | rfl | rfl <;> decide
/-- what a day comes to, on both sides -/
theorem k_after {N : Nat} {fm : Nat → Nat} {pt : Nat → Nat → Nat} {x W : Int32} {n : Nat} (hN : 1 ≤ N) (hT : k_TT N fm pt μ ν) (hx : (0 ≤ x.toInt ∧ x.toInt ≤ 4) ∨ (10 ≤ x.toInt ∧ x.toInt ≤ 17)) (hn : n ≤ 20) (hW : W = -nI 9 ∨ ∃ i, i < n ∧ W = nI i) :
    ∃ r, (if x = (1 : Int32) then some (W, μ) else (if W = (-9 : Int32) then nk_bd (zf_N_afterDay x μ) (fun r8 m9 => some (r8, m9)) else some ((-100 : Int32) - W, μ))) = some (r, μ) ∧ zf_M_dayOf_b72 x W ν = some (r, ν) := by
  obtain ⟨hs, hd, h40, hp, hRT⟩ := id hT
  obtain ⟨s1, s2, s3, s4⟩ := id hs
  unfold zf_M_dayOf_b72
  by_cases e1 : x = 1
  · rw [if_pos e1, if_pos e1]; exact ⟨_, rfl, rfl⟩
  · rw [if_neg e1, if_neg e1]
    rcases hW with rfl | ⟨i, hi, rfl⟩
    · rw [if_pos (by decide), if_pos (by decide), q_bdS]
      unfold zf_N_afterDay
      by_cases e2 : 10 ≤ x.toInt
      · obtain ⟨p, rfl, p1, p2⟩ := q_of (x := x) (a := 10) (b := 17) (by omega)
        rw [if_neg (l_ne 0 (by omega) (by omega) (by omega)), if_neg (l_ne 2 (by omega) (by omega) (by omega)), if_neg (l_ne 3 (by omega) (by omega) (by omega)), if_neg (l_ne 4 (by omega) (by omega) (by omega)), if_neg (l_nlt 10 (by omega) (by omega)), u_lit 10, q_sub (by omega)]
        by_cases e3 : p - 10 < N
        · obtain ⟨g1, g2⟩ := hn_in (o := 2) (B := 15) s1 s2 s3 e3
          rw [g1, g2, u_bd, u_bd, if_neg (by decide), if_pos (by decide), q_ald (by omega) (by omega), q_ald (k := 9) (by omega) (by omega), (hd.2.1 (p - 10) e3).2.1 rfl]
          exact ⟨_, rfl, rfl⟩
        · obtain ⟨g1, g2⟩ := hn_out (o := 2) (B := 15) (x := nI (p - 10)) s1 s2 s3 (Or.inr ((q_le (by omega) (by omega)).mpr (by omega)))
          rw [g1, g2, u_bd, u_bd, if_pos (by decide), if_neg (by decide)]
          exact ⟨_, rfl, rfl⟩
      · obtain ⟨p, rfl, p1, p2⟩ := q_of (x := x) (a := 0) (b := 4) (by omega)
        rw [if_pos (l_lt 10 (by omega) (by omega))]
        obtain ⟨⟨y, -, y1, y2⟩, z, -, z1, z2⟩ := k_counts hs hd
        rcases (show p = 0 ∨ p = 1 ∨ p = 2 ∨ p = 3 ∨ p = 4 by omega) with rfl | rfl | rfl | rfl | rfl
        · rw [if_pos (by decide), if_pos (by decide), h40]
          exact ⟨_, rfl, rfl⟩
        · exact (e1 rfl).elim
        · rw [if_neg (by decide), if_pos (by decide), if_neg (by decide), if_pos (by decide), y1, y2]
          exact ⟨_, rfl, rfl⟩
        · rw [if_neg (by decide), if_neg (by decide), if_pos (by decide), if_neg (by decide), if_neg (by decide), if_pos (by decide), z1, z2]
          exact ⟨_, rfl, rfl⟩
        · obtain ⟨S, -, h1, h2⟩ := k_held hs hd (m := 2 ^ (N - 1)) (b_pw (by omega))
          rw [if_neg (by decide), if_neg (by decide), if_neg (by decide), if_pos (by decide), if_neg (by decide), if_neg (by decide), if_neg (by decide), s2, s3, show nI N - 1 = nI (N - 1) from q_sub (b := 1) (by omega), b_one (by omega), h1, h2]
          exact ⟨_, rfl, rfl⟩
    · rw [if_neg (l_m9 (by omega)), if_neg (q_nlt0 (by omega))]
      exact ⟨_, rfl, rfl⟩
/-- after a trial all is as it was, but for the fault -/
theorem RR_back_f {μ' ν1 ν2 ν3 : nk_M} (h : RR μ ν) (hC : ∀ k j, k ≠ 2 → ¬ (15 ≤ k ∧ k ≤ 23) → μ' k j = (nk_up μ 0 6 (nI 0)) k j) (hT : R_T μ')
    (k1 : ∀ a b, ¬ (18 ≤ a ∧ a ≤ 22) → ν1 a b = ν a b) (k2 : ∀ b, b < 8 → ν1 18 b = ν 9 b ∧ ν1 19 b = ν 10 b ∧ ν1 20 b = ν 11 b ∧ ν1 21 b = ν 12 b ∧ ν1 22 b = ν 2 b)
    (hF : ∀ k j, k ≠ 2 → ¬ (9 ≤ k ∧ k ≤ 16) → (k = 0 → j ≠ 17 ∧ (j < 21 ∨ 27 < j) ∧ j ≠ 30 ∧ j ≠ 40) → ν2 k j = ν1 k j)
    (b1 : ∀ a b, ¬ (a = 2 ∨ (9 ≤ a ∧ a ≤ 12)) → ν3 a b = ν2 a b) (b2 : ∀ b, b < 8 → ν3 9 b = ν2 18 b ∧ ν3 10 b = ν2 19 b ∧ ν3 11 b = ν2 20 b ∧ ν3 12 b = ν2 21 b ∧ ν3 2 b = ν2 22 b) : RR μ' (nk_up ν3 0 0 (nI 0)) := by
  have h1 : RR (nk_up μ' 0 6 (μ 0 6)) ν3 := RR_back h (fun k j h1 h2 => by
    by_cases e : k = 0 ∧ j = 6
    · rw [e.1, e.2, q_upE]
    · rw [q_upO e, hC k j h1 h2, q_upO e]) (R_T_c hT (fun k j h => q_upN (by omega))) k1 k2 hF b1 b2
  have h2 := RR_fault h1 (nI 0)
  have h3 : nk_up (nk_up μ' 0 6 (μ 0 6)) 0 6 (nI 0) = μ' := by
    rw [q_upU]
    apply q_ext
    intro a b
    by_cases e : a = 0 ∧ b = 6
    · rw [e.1, e.2, q_upE, hC 0 6 (by omega) (by omega), q_upE]
    · rw [q_upO e]
  rw [h3] at h2
  exact h2
theorem p_day (a b c d e : Int32) (h : RR μ ν) : p_ok (zf_N_day a b c d e μ) (zf_M_day a b c d e ν) := by
  obtain ⟨N, fm, pt, hA, hL, hT, hD, hS, hF⟩ := id h
  obtain ⟨s1, s2, s3, s4⟩ := id hA.1
  have hf := RR_fault h (nI 0)
  have fin : ∀ {x : Int32}, zf_N_day a b c d e μ = some (x, nk_up μ 0 6 (nI 0)) → zf_M_day a b c d e ν = nk_bd (zf_M_refused x ν) (fun r1 m1 => some (r1, m1)) → p_ok (zf_N_day a b c d e μ) (zf_M_day a b c d e ν) := fun {x} e1 e2 => ⟨x, _, _, e1, e2.trans (by rw [r_refused, u_bd]), hf⟩
  have ol : (a < 0 ∨ nI 4 ≤ a) → p_ok (zf_N_day a b c d e μ) (zf_M_day a b c d e ν) := fun z => by
    obtain ⟨g1, g2⟩ := hs_out (x := a) (nk_up μ 0 6 0) ν z
    refine fin (x := -1) ?_ ?_
    · unfold zf_N_day
      rw [u_pf, g1]; rfl
    · unfold zf_M_day
      rw [g2]; rfl
  rcases pk_ix a (n := 4) (by omega) with z | z | ⟨k, hk, rfl⟩
  · exact ol (Or.inl z)
  · exact ol (Or.inr z)
  obtain ⟨g1, g2⟩ := hs_in (k := k) (nk_up μ 0 6 (nI 0)) ν hk
  have eN : zf_N_day (nI k) b c d e μ = nk_bd (zf_N_isLane b (nk_up μ 0 6 (nI 0))) (fun r2 m3 => (if r2 = 0 then (zf_N_day_b45 m3) else (if d < 0 then (zf_N_day_b45 m3) else (if (20 : Int32) < d then (zf_N_day_b45 m3) else nk_bd (zf_N_isOfDay e m3) (fun r3 m4 => (if r3 = 0 then (zf_N_day_b45 m4) else (if (m4 1 0) = 0 then some ((-3 : Int32), m4) else nk_bd (zf_S_rangeFault (nI k) b c ((2 : Int32) * d) m4) (fun r4 m5 => (if r4 = 0 then nk_bd (zf_N_areActs (nI k) c d m5) (fun r5 m6 => (if r5 = 0 then some ((-2 : Int32), m6) else nk_bd (zf_C_becomeLike 2 15 1 6 m6) (fun _ m7 => nk_bd (zf_N_doActs (nI k) c d m7) (fun r7 m8 => (if e = (1 : Int32) then some (r7, m8) else (if r7 = (-9 : Int32) then nk_bd (zf_N_afterDay e m8) (fun r8 m9 => some (r8, m9)) else some ((-100 : Int32) - r7, m8))))))) else nk_bd (zf_N_faulted r4 m5) (fun r9 m10 => some (r9, m10))))))))))) := by
    unfold zf_N_day
    rw [u_pf, u_lit 0, g1, u_bd, if_neg (by decide)]
  have eM : zf_M_day (nI k) b c d e ν = nk_bd (zf_M_in (b.toInt64) (0 : Int64) (2 : Int64) ν) (fun r2 m2 => (if r2 = 0 then (zf_M_day_b66 m2) else nk_bd (zf_M_in (d.toInt64) (0 : Int64) (20 : Int64) m2) (fun r3 m3 => (if r3 = 0 then (zf_M_day_b66 m3) else nk_bd (zf_M_in (e.toInt64) (0 : Int64) (4 : Int64) m3) (fun r4 m4 => (if r4 = 0 then nk_bd (zf_M_in (e.toInt64) (10 : Int64) (17 : Int64) m4) (fun r5 m5 => (if r5 = 0 then (zf_M_day_b66 m5) else (zf_M_day_b73 (nI k) b c d e m5))) else (zf_M_day_b73 (nI k) b c d e m4))))))) := by
    unfold zf_M_day
    rw [g2, u_bd, if_pos (by decide)]
  rw [e_isLane, u_bd] at eN
  by_cases hl : 0 ≤ b.toInt ∧ b.toInt ≤ 2
  rotate_left
  · rw [if_neg hl, if_pos (by decide)] at eN
    rw [r_inF (x := b) ν 0 2 (by decide) (by decide) hl, u_bd, if_pos (by decide)] at eM
    exact fin eN eM
  rw [if_pos hl, if_neg (by decide)] at eN
  rw [r_inT (x := b) ν 0 2 (by decide) (by decide) hl, u_bd, if_neg (by decide)] at eM
  by_cases hn : 0 ≤ d.toInt ∧ d.toInt ≤ 20
  rotate_left
  · rw [r_inF (x := d) ν 0 20 (by decide) (by decide) hn, u_bd, if_pos (by decide)] at eM
    refine fin (eN.trans ?_) eM
    by_cases e2 : d.toInt < 0
    · rw [if_pos (l_xlt 0 e2 (by omega))]; rfl
    · rw [if_neg (l_nxlt 0 (by omega) (by omega)), if_pos (show (20 : Int32) < d from (q_klt (k := 20) (by omega)).mpr (by omega))]; rfl
  rw [if_neg (l_nxlt 0 (by omega) (by omega)), if_neg (show ¬ (20 : Int32) < d from fun z => by have := (q_klt (k := 20) (by omega)).mp z; omega), e_isOfDay, u_bd] at eN
  rw [r_inT (x := d) ν 0 20 (by decide) (by decide) hn, u_bd, if_neg (by decide)] at eM
  by_cases hw : (0 ≤ e.toInt ∧ e.toInt ≤ 4) ∨ (10 ≤ e.toInt ∧ e.toInt ≤ 17)
  rotate_left
  · rw [if_neg hw, if_pos (by decide)] at eN
    rw [r_inF (x := e) ν 0 4 (by decide) (by decide) (by omega), u_bd, if_pos (by decide), r_inF (x := e) ν 10 17 (by decide) (by decide) (by omega), u_bd, if_pos (by decide)] at eM
    exact fin eN eM
  rw [if_pos hw, if_neg (by decide), q_upN (by omega), s2] at eN
  have eM2 : zf_M_day (nI k) b c d e ν = zf_M_day_b73 (nI k) b c d e ν := by
    rw [eM]
    by_cases e2 : 0 ≤ e.toInt ∧ e.toInt ≤ 4
    · rw [r_inT (x := e) ν 0 4 (by decide) (by decide) e2, u_bd, if_neg (by decide)]
    · rw [r_inF (x := e) ν 0 4 (by decide) (by decide) e2, u_bd, if_pos (by decide), r_inT (x := e) ν 10 17 (by decide) (by decide) (by omega), u_bd, if_neg (by decide)]
  unfold zf_M_day_b73 at eM2
  rw [s3] at eM2
  by_cases h0 : N = 0
  · rw [if_pos (by rw [h0]; decide)] at eN eM2
    exact fin eN eM2
  rw [if_neg (l_ne 0 h0 (by omega) (by omega))] at eN eM2
  obtain ⟨n, rfl, -, hn20⟩ := q_of (a := 0) (b := 20) hn
  obtain ⟨f, f4, f1, f2, f3⟩ := k_range (lane := b) (i := c) (n := nI (2 * n)) (y := (2 : Int64) * (nI n).toInt64) (R_S_f hS (nI 0)) hk hl (q_two ⟨n, by omega⟩)
  rw [show (2 : Int32) * nI n = nI (2 * n) from q_mul 2 n, f1, u_bd] at eN
  rw [f2] at eM2
  by_cases e0 : f = 0
  rotate_left
  · rw [if_neg (l_ne 0 e0 (by omega) (by omega)), e_faulted, u_bd, q_upU] at eN
    rw [if_neg e0, u_bd, if_neg (q_nf (by omega) f4)] at eM2
    exact ⟨_, _, _, eN, eM2, RR_fault h (nI f)⟩
  obtain ⟨s, j, m, hs60, rfl, hm, hjm, hrow⟩ := f3 e0
  have hm2 : m = 2 * n := by
    have := congrArg Int32.toInt hm
    have hb : m ≤ 60 := by omega
    rw [q_nI (by omega), q_nI (by omega)] at this
    omega
  subst hm2
  rw [if_pos (by rw [e0]; decide)] at eN
  rw [if_pos e0, u_bd, if_pos (by decide), u_nm, show (60 : Int32) * nI k = nI (60 * k) from q_mul 60 k, q_add] at eM2
  have hsh : d_sh k j n (nk_up μ 0 6 (nI 0)) ν := fun x hx => ⟨hrow (j + 2 * x) (by omega), hrow (j + 2 * x + 1) (by omega)⟩
  obtain ⟨r, hr, a1, a2, a3⟩ := k_areActs hk (by omega) hsh e n nk_fu 0 (by omega) (by show _ < 4096; omega) (fun i hi => by omega)
  rw [show zf_N_areActs (nI k) (nI j) (nI n) (nk_up μ 0 6 (nI 0)) = some (nI r, nk_up μ 0 6 (nI 0)) from a1, u_bd] at eN
  rcases (show r = 0 ∨ r = 1 by omega) with rfl | rfl
  · rw [if_pos (by decide)] at eN
    exact fin eN (eM2.trans (a2 rfl))
  obtain ⟨hac, a4⟩ := a3 rfl
  rw [if_neg (by decide)] at eN
  have hA' : R_A N fm pt (nk_up μ 0 6 (nI 0)) ν := R_A_c hA (fun k j h => q_upN (by omega)) (fun _ _ _ => rfl)
  have hT' : R_T (nk_up μ 0 6 (nI 0)) := R_T_c hT (fun k j h => q_upN (by omega))
  obtain ⟨μ1, k1, k2, k3, k4, k5, k6, k7⟩ := k_like hA' hT'
  obtain ⟨ν1, v1, v2, v3⟩ := r_keeps ν
  rw [k1, u_bd] at eN
  have hTT : k_TT N fm pt μ1 (nk_up ν1 0 40 (ν1 0 16)) := ⟨j_st_c k2 (fun _ _ _ => rfl) (fun k j h => by rw [q_upO (by omega), v2 k j (by omega)]), k_dy_c k3 (fun _ _ _ => rfl) (fun k j h => by rw [q_upO (by omega), v2 k j (by omega)]), by rw [q_upE, v2 0 16 (by omega), k4, q_upN (by omega)]; exact hL.1.symm, k5, k6⟩
  obtain ⟨W, μ2, ν2, w1, w2, w3, w4, w5, w6⟩ := k_acts (N := N) (fm := fm) (pt := pt) hk (show j + 2 * n ≤ 60 by omega) e n nk_fu 0 μ1 (nk_up ν1 0 40 (ν1 0 16)) (by omega) (by show _ < 4096; omega) (fun x hx => by
      have := hsh x hx
      rw [k7 (27 + k) _ (by omega) (by omega), k7 (27 + k) _ (by omega) (by omega), q_upN (a := 27) (by omega), q_upN (a := 27) (by omega), v2 27 _ (by omega), v2 27 _ (by omega)]
      exact this) (fun x hx => by
      rw [k7 (27 + k) _ (by omega) (by omega), k7 (27 + k) _ (by omega) (by omega)]
      exact hac x hx) hTT
  obtain ⟨ρ, t1, t2⟩ := k_after (n := n) (Nat.pos_of_ne_zero h0) w4 hw hn20 w1
  obtain ⟨ν3, b0, b1, b2⟩ := r_brings ν2
  refine ⟨ρ, μ2, nk_up ν3 0 0 (nI 0), ?_, ?_, RR_back_f h (fun x y h1 h2 => by rw [w5 x y h1 h2, k7 x y h1 h2]) w4.2.2.2.2 v2 v3 (fun x y h1 h2 h3 => by rw [w6 x y h1 h2 h3, q_upO (by omega)]) b1 b2⟩
  · rw [eN, show zf_N_doActs (nI k) (nI j) (nI n) μ1 = some (W, μ2) from w2, u_bd]
    exact t1
  · rw [eM2]
    refine a4.trans ?_
    rw [v1, u_bd]
    unfold zf_M_dayOf
    rw [u_pf]
    refine Eq.trans (congrArg (fun z => nk_bd z _) (w3.trans t2)) ?_
    rw [u_bd, b0, u_bd, r_refused, u_bd]
end DY

/-! ===== 32: ofCell, tell, point, as ===== -/
theorem w_eqT {a b : Nat} (h : a = b) : (nI a = nI b) ↔ True := ⟨fun _ => trivial, fun _ => by rw [h]⟩
theorem w_eqF {a b : Nat} (h : a ≠ b ∧ a < 2147483648 ∧ b < 2147483648) : (nI a = nI b) ↔ False := ⟨fun e => h.1 ((q_eq h.2.1 h.2.2).mp e), fun e => e.elim⟩
theorem w_ltT {a b : Nat} (h : a < b ∧ b < 2147483648) : (nI a < nI b) ↔ True := ⟨fun _ => trivial, fun _ => (q_lt (by omega) (by omega)).mpr h.1⟩
theorem w_ltF {a b : Nat} (h : b ≤ a ∧ a < 2147483648) : (nI a < nI b) ↔ False := ⟨fun e => by have := (q_lt (by omega) (by omega)).mp e; omega, fun e => e.elim⟩
theorem w_leT {a b : Nat} (h : a ≤ b ∧ b < 2147483648) : (nI a ≤ nI b) ↔ True := ⟨fun _ => trivial, fun _ => (q_le (by omega) (by omega)).mpr h.1⟩
theorem w_leF {a b : Nat} (h : b < a ∧ a < 2147483648) : (nI a ≤ nI b) ↔ False := ⟨fun e => by have := (q_le (by omega) (by omega)).mp e; omega, fun e => e.elim⟩
theorem w_xeT {x : Int32} {k : Nat} (h : x.toInt = (k : Int) ∧ k < 2147483648) : (x = nI k) ↔ True := ⟨fun _ => trivial, fun _ => (q_xeq h.2).mpr h.1⟩
theorem w_xeF {x : Int32} {k : Nat} (h : x.toInt ≠ (k : Int) ∧ k < 2147483648) : (x = nI k) ↔ False := ⟨fun e => h.1 ((q_xeq h.2).mp e), fun e => e.elim⟩
theorem w_xltT {x : Int32} {k : Nat} (h : x.toInt < (k : Int) ∧ k < 2147483648) : (x < nI k) ↔ True := ⟨fun _ => trivial, fun _ => (q_xlt h.2).mpr h.1⟩
theorem w_xltF {x : Int32} {k : Nat} (h : (k : Int) ≤ x.toInt ∧ k < 2147483648) : (x < nI k) ↔ False := ⟨fun e => by have := (q_xlt h.2).mp e; omega, fun e => e.elim⟩
theorem w_xleT {x : Int32} {k : Nat} (h : x.toInt ≤ (k : Int) ∧ k < 2147483648) : (x ≤ nI k) ↔ True := ⟨fun _ => trivial, fun _ => (q_xle h.2).mpr h.1⟩
theorem w_xleF {x : Int32} {k : Nat} (h : (k : Int) < x.toInt ∧ k < 2147483648) : (x ≤ nI k) ↔ False := ⟨fun e => by have := (q_xle h.2).mp e; omega, fun e => e.elim⟩
theorem w_kltT {x : Int32} {k : Nat} (h : (k : Int) < x.toInt ∧ k < 2147483648) : (nI k < x) ↔ True := ⟨fun _ => trivial, fun _ => (q_klt h.2).mpr h.1⟩
theorem w_kltF {x : Int32} {k : Nat} (h : x.toInt ≤ (k : Int) ∧ k < 2147483648) : (nI k < x) ↔ False := ⟨fun e => by have := (q_klt h.2).mp e; omega, fun e => e.elim⟩
theorem w_kleT {x : Int32} {k : Nat} (h : (k : Int) ≤ x.toInt ∧ k < 2147483648) : (nI k ≤ x) ↔ True := ⟨fun _ => trivial, fun _ => (q_kle h.2).mpr h.1⟩
theorem w_kleF {x : Int32} {k : Nat} (h : x.toInt < (k : Int) ∧ k < 2147483648) : (nI k ≤ x) ↔ False := ⟨fun e => by have := (q_kle h.2).mp e; omega, fun e => e.elim⟩
theorem r_partsOf {f : Nat} {ν : nk_M} (h : f ≤ 6) : zf_M_partsOf (nI f) ν = some (nI (q_np f), ν) := by
  rcases (show f = 0 ∨ f = 1 ∨ f = 2 ∨ f = 3 ∨ f = 4 ∨ f = 5 ∨ f = 6 by omega) with rfl | rfl | rfl | rfl | rfl | rfl | rfl <;> rfl
section PT
variable {μ ν : nk_M}
theorem p_ofCell (a b : Int32) (h : RR μ ν) : p_ok (zf_N_ofCell a b μ) (zf_M_ofCell a b ν) := by
  obtain ⟨N, fm, pt, hA, hL, hT, hD, hS, hF⟩ := id h
  obtain ⟨s1, s2, s3, s4⟩ := id hA.1
  rcases pk_ix a (n := N) (by omega) with e | e | ⟨c, hc, rfl⟩
  · obtain ⟨g1, g2⟩ := hn_out (o := 1) (B := 6) (x := a) s1 s2 s3 (Or.inl e)
    exact ⟨-nI 1, μ, ν, by unfold zf_N_ofCell; rw [g1]; rfl, by unfold zf_M_ofCell; rw [g2]; rfl, h⟩
  · obtain ⟨g1, g2⟩ := hn_out (o := 1) (B := 6) (x := a) s1 s2 s3 (Or.inr e)
    exact ⟨-nI 1, μ, ν, by unfold zf_N_ofCell; rw [g1]; rfl, by unfold zf_M_ofCell; rw [g2]; rfl, h⟩
  · obtain ⟨g1, g2⟩ := hn_in (o := 1) (B := 6) s1 s2 s3 hc
    obtain ⟨t1, t2, t3, t4, t5, t6, t7⟩ := s4 c hc
    obtain ⟨-, d2, d3, -⟩ := hA.2.1
    by_cases e : 10 ≤ b.toInt ∧ b.toInt ≤ 12
    · obtain ⟨p, rfl, hp1, hp2⟩ := q_of (a := 10) (b := 12) e
      have hin := r_inT (x := nI p) (l := 10) (h := 12) ν 10 12 (by decide) (by decide) e
      have hp := r_partsOf (ν := ν) t1
      have h3 := q_np3 (fm c)
      have hc8 : c < 8 := by omega
      have hN : zf_N_ofCell (nI c) (nI p) μ = zf_C_partAsTold 1 6 (nI c) (nI (p - 10)) μ := by
        unfold zf_N_ofCell
        rw [g1, u_bd, if_neg (by decide)]
        rcases (show p = 10 ∨ p = 11 ∨ p = 12 by omega) with rfl | rfl | rfl <;> exact q_bdS
      by_cases e2 : p - 10 < q_np (fm c)
      · obtain ⟨y1, y2, -⟩ := t7 (p - 10) e2
        refine ⟨nI (pt c (p - 10)), μ, ν, by rw [hN, e_partAsTold (o := 1) (B := 6) (by omega) t2 t1 e2, y1], ?_, h⟩
        have y3 : 3 * c + p - 10 = 3 * c + (p - 10) := by omega
        unfold zf_M_ofCell
        rw [g2, u_bd, if_pos (by decide), hin, u_bd, if_neg (by decide), q_ald hc8 (by omega), t3, hp, u_bd]
        simp (disch := omega) only [y3, y2, zf_M_ofCell_b58, u_lit, q_sub, Nat.add_sub_cancel, q_upE, q_upN, q_upM, q_upO, u_bd, u_pf, u_nm, q_ald, q_ast, q_tld, q_lt0, q_lt, q_le, q_eq, q_m9, q_9m, q_neg9, q_add, q_mul, q_zr0, q_zr1, q_clamp, if_true, if_false, if_pos, if_neg]
      · refine ⟨-nI 9, μ, ν, by rw [hN, e_partAsTold9 (o := 1) (B := 6) (by omega) t2 t1 e2 (by omega)], ?_, h⟩
        unfold zf_M_ofCell
        rw [g2, u_bd, if_pos (by decide), hin, u_bd, if_neg (by decide), q_ald hc8 (by omega), t3, hp, u_bd]
        simp (disch := omega) only [zf_M_ofCell_b58, u_lit, q_sub, Nat.add_sub_cancel, q_upE, q_upN, q_upM, q_upO, u_bd, u_pf, u_nm, q_ald, q_ast, q_tld, q_lt0, q_lt, q_le, q_eq, q_m9, q_9m, q_neg9, q_add, q_mul, q_zr0, q_zr1, q_clamp, if_true, if_false, if_pos, if_neg]
    · have hin := r_inF (x := b) (l := 10) (h := 12) ν 10 12 (by decide) (by decide) e
      have hc8 : c < 8 := by omega
      by_cases e7 : 0 ≤ b.toInt ∧ b.toInt ≤ 6
      · obtain ⟨p, rfl, hp1, hp2⟩ := q_of (a := 0) (b := 6) e7
        rcases (show p = 0 ∨ p = 1 ∨ p = 2 ∨ p = 3 ∨ p = 4 ∨ p = 5 ∨ p = 6 by omega) with rfl | rfl | rfl | rfl | rfl | rfl | rfl
        · have hN : zf_N_ofCell (nI c) (nI 0) μ = nk_ald μ 6 8 (nI c) (fun x => some (x, μ)) := by unfold zf_N_ofCell; rw [g1]; rfl
          have hM : zf_M_ofCell (nI c) (nI 0) ν = nk_ald ν 1 8 (nI c) (fun x => some (x, ν)) := by unfold zf_M_ofCell; rw [g2, u_bd, if_pos (by decide), hin]; rfl
          rw [hN, hM, q_ald hc8 (by omega), q_ald hc8 (by omega), t4]
          exact ⟨ν 1 c, μ, ν, rfl, rfl, h⟩
        · have hN : zf_N_ofCell (nI c) (nI 1) μ = nk_ald μ 7 8 (nI c) (fun x => some (x, μ)) := by unfold zf_N_ofCell; rw [g1]; rfl
          have hM : zf_M_ofCell (nI c) (nI 1) ν = nk_ald ν 2 8 (nI c) (fun x => some (x, ν)) := by unfold zf_M_ofCell; rw [g2, u_bd, if_pos (by decide), hin]; rfl
          rw [hN, hM, q_ald hc8 (by omega), q_ald hc8 (by omega), show μ 7 c = ν 2 c from t6]
          exact ⟨ν 2 c, μ, ν, rfl, rfl, h⟩
        · have hN : zf_N_ofCell (nI c) (nI 2) μ = nk_bd (zf_C_costOf 1 6 (nI c) μ) (fun r m => some (r, m)) := by unfold zf_N_ofCell; rw [g1]; rfl
          have hM : zf_M_ofCell (nI c) (nI 2) ν = nk_bd (zf_M_cost (nI c) ν) (fun r m => some (r, m)) := by unfold zf_M_ofCell; rw [g2, u_bd, if_pos (by decide), hin]; rfl
          rw [hN, hM, q_bdS, q_bdS, e_costOf hc8, r_cost hc8 t5, t4, t6]
          exact ⟨q_cost (ν 1 c) (ν 2 c), μ, ν, rfl, rfl, h⟩
        · have hN : zf_N_ofCell (nI c) (nI 3) μ = nk_bd (zf_C_formNow 1 6 (nI c) μ) (fun r m => some (r, m)) := by unfold zf_N_ofCell; rw [g1]; rfl
          have hM : zf_M_ofCell (nI c) (nI 3) ν = nk_ald ν 12 8 (nI c) (fun x6 => (if x6 < 0 then nk_ald ν 3 8 (nI c) (fun x7 => (zf_M_ofCell_b144 x7 ν)) else (zf_M_ofCell_b144 (7 : Int32) ν))) := by unfold zf_M_ofCell; rw [g2, u_bd, if_pos (by decide), hin]; rfl
          rw [hN, hM, q_bdS, e_formNow hc8, q_ald hc8 (by omega)]
          obtain ⟨x1, x2, -⟩ := d3 c hc
          rcases x1 with z | ⟨j, hj, z⟩
          · have z2 : ν 12 c = -nI 9 := by rw [x2 rfl, z]
            rw [z, z2, if_pos rfl, t2, if_pos (by decide), q_ald hc8 (by omega), t3]
            exact ⟨nI (fm c), μ, ν, rfl, rfl, h⟩
          · have z2 : ν 12 c = nI j := by rw [x2 rfl, z]
            rw [z, z2, if_neg (fun w => (q_m9 (by omega)).mp w), if_neg (show ¬ nI j < 0 from fun w => (q_lt0 (a := j) (by omega)).mp w)]
            exact ⟨nI 7, μ, ν, rfl, rfl, h⟩
        · have hN : zf_N_ofCell (nI c) (nI 4) μ = nk_bd (zf_C_isAwake 1 6 (nI c) μ) (fun r6 m4 => (if r6 = 0 then (zf_N_ofCell_b134 (0 : Int32) m4) else (zf_N_ofCell_b134 (1 : Int32) m4))) := by unfold zf_N_ofCell; rw [g1]; rfl
          have hM : zf_M_ofCell (nI c) (nI 4) ν = nk_ald ν 9 8 (nI c) (fun x8 => (if x8 < 0 then (zf_M_ofCell_b159 (0 : Int32) ν) else (zf_M_ofCell_b159 (1 : Int32) ν))) := by unfold zf_M_ofCell; rw [g2, u_bd, if_pos (by decide), hin]; rfl
          rw [hN, hM, e_isAwake hc8, u_bd, q_ald hc8 (by omega)]
          obtain ⟨x1, x2, -⟩ := d2 c hc
          rcases x1 with z | ⟨j, hj, z⟩
          · have z2 : ν 9 c = -nI 9 := by rw [x2 rfl, z]
            rw [z, z2, if_pos rfl]
            exact ⟨nI 0, μ, ν, rfl, rfl, h⟩
          · have z2 : ν 9 c = nI j := by rw [x2 rfl, z]
            have z3 : ¬ μ (6 + 4) c = -nI 9 := by rw [z]; exact fun w => (q_m9 (by omega)).mp w
            rw [if_neg z3, z2]
            refine ⟨nI 1, μ, ν, rfl, ?_, h⟩
            rw [if_neg (show ¬ nI j < 0 from fun w => (q_lt0 (a := j) (by omega)).mp w)]
            rfl
        · have hN : zf_N_ofCell (nI c) (nI 5) μ = nk_ald μ 10 8 (nI c) (fun x => some (x, μ)) := by unfold zf_N_ofCell; rw [g1]; rfl
          have hM : zf_M_ofCell (nI c) (nI 5) ν = nk_ald ν 9 8 (nI c) (fun x => some (x, ν)) := by unfold zf_M_ofCell; rw [g2, u_bd, if_pos (by decide), hin]; rfl
          obtain ⟨-, x2, -⟩ := d2 c hc
          have x3 : ν 9 c = μ 10 c := x2 rfl
          rw [hN, hM, q_ald hc8 (by omega), q_ald hc8 (by omega), x3]
          exact ⟨μ 10 c, μ, ν, rfl, rfl, h⟩
        · have hN : zf_N_ofCell (nI c) (nI 6) μ = nk_ald μ 12 8 (nI c) (fun x => some (x, μ)) := by unfold zf_N_ofCell; rw [g1]; rfl
          have hM : zf_M_ofCell (nI c) (nI 6) ν = nk_ald ν 12 8 (nI c) (fun x => some (x, ν)) := by unfold zf_M_ofCell; rw [g2, u_bd, if_pos (by decide), hin]; rfl
          obtain ⟨-, x2, -⟩ := d3 c hc
          have x3 : ν 12 c = μ 12 c := x2 rfl
          rw [hN, hM, q_ald hc8 (by omega), q_ald hc8 (by omega), x3]
          exact ⟨μ 12 c, μ, ν, rfl, rfl, h⟩
      · have hne : ∀ k : Nat, k ≤ 6 ∨ (10 ≤ k ∧ k ≤ 12) → ¬ b = nI k := fun k hk z => by rw [q_xeq (by omega)] at z; omega
        refine ⟨-nI 2, μ, ν, ?_, ?_, h⟩
        · unfold zf_N_ofCell
          rw [g1, u_bd, if_neg (by decide), if_neg (show ¬ b = 0 from hne 0 (by omega)), if_neg (show ¬ b = 1 from hne 1 (by omega)), if_neg (show ¬ b = 2 from hne 2 (by omega)), if_neg (show ¬ b = 3 from hne 3 (by omega)), if_neg (show ¬ b = 4 from hne 4 (by omega)), if_neg (show ¬ b = 5 from hne 5 (by omega)), if_neg (show ¬ b = 6 from hne 6 (by omega)), if_neg (show ¬ b = 10 from hne 10 (by omega)), if_neg (show ¬ b = 11 from hne 11 (by omega)), if_neg (show ¬ b = 12 from hne 12 (by omega))]
          rfl
        · unfold zf_M_ofCell
          rw [g2, u_bd, if_pos (by decide), hin, u_bd, if_pos (by decide), if_neg (show ¬ b = 0 from hne 0 (by omega)), if_neg (show ¬ b = 1 from hne 1 (by omega)), if_neg (show ¬ b = 2 from hne 2 (by omega)), if_neg (show ¬ b = 3 from hne 3 (by omega)), if_neg (show ¬ b = 4 from hne 4 (by omega)), if_neg (show ¬ b = 5 from hne 5 (by omega)), if_neg (show ¬ b = 6 from hne 6 (by omega))]
          rfl
/-- the trace goes on, alike -/
theorem RR_trace (h : RR μ ν) (x : Int32) : RR (nk_up μ 0 5 x) (nk_up ν 0 48 x) := by
  obtain ⟨N, fm, pt, hA, hL, hT, hD, hS, hF⟩ := h
  exact ⟨N, fm, pt, R_A_c hA (fun k j h => by simp (disch := omega) only [u_lit, q_sub, Nat.add_sub_cancel, q_upE, q_upN, q_upM, q_upO, u_bd, u_pf, u_nm, q_ald, q_ast, q_tld, q_lt0, q_lt, q_le, q_eq, q_m9, q_9m, q_neg9, q_add, q_mul, q_zr0, q_zr1, q_clamp, if_true, if_false, if_pos, if_neg]) (fun k j h => by simp (disch := omega) only [u_lit, q_sub, Nat.add_sub_cancel, q_upE, q_upN, q_upM, q_upO, u_bd, u_pf, u_nm, q_ald, q_ast, q_tld, q_lt0, q_lt, q_le, q_eq, q_m9, q_9m, q_neg9, q_add, q_mul, q_zr0, q_zr1, q_clamp, if_true, if_false, if_pos, if_neg]), R_L_c hL (fun k j h => by simp (disch := omega) only [u_lit, q_sub, Nat.add_sub_cancel, q_upE, q_upN, q_upM, q_upO, u_bd, u_pf, u_nm, q_ald, q_ast, q_tld, q_lt0, q_lt, q_le, q_eq, q_m9, q_9m, q_neg9, q_add, q_mul, q_zr0, q_zr1, q_clamp, if_true, if_false, if_pos, if_neg]) (fun k j h => by simp (disch := omega) only [u_lit, q_sub, Nat.add_sub_cancel, q_upE, q_upN, q_upM, q_upO, u_bd, u_pf, u_nm, q_ald, q_ast, q_tld, q_lt0, q_lt, q_le, q_eq, q_m9, q_9m, q_neg9, q_add, q_mul, q_zr0, q_zr1, q_clamp, if_true, if_false, if_pos, if_neg]), R_T_c hT (fun k j h => by simp (disch := omega) only [u_lit, q_sub, Nat.add_sub_cancel, q_upE, q_upN, q_upM, q_upO, u_bd, u_pf, u_nm, q_ald, q_ast, q_tld, q_lt0, q_lt, q_le, q_eq, q_m9, q_9m, q_neg9, q_add, q_mul, q_zr0, q_zr1, q_clamp, if_true, if_false, if_pos, if_neg]), R_D_c hD (fun k j h => by simp (disch := omega) only [u_lit, q_sub, Nat.add_sub_cancel, q_upE, q_upN, q_upM, q_upO, u_bd, u_pf, u_nm, q_ald, q_ast, q_tld, q_lt0, q_lt, q_le, q_eq, q_m9, q_9m, q_neg9, q_add, q_mul, q_zr0, q_zr1, q_clamp, if_true, if_false, if_pos, if_neg]) (fun k j h => by simp (disch := omega) only [u_lit, q_sub, Nat.add_sub_cancel, q_upE, q_upN, q_upM, q_upO, u_bd, u_pf, u_nm, q_ald, q_ast, q_tld, q_lt0, q_lt, q_le, q_eq, q_m9, q_9m, q_neg9, q_add, q_mul, q_zr0, q_zr1, q_clamp, if_true, if_false, if_pos, if_neg]), R_S_c hS (fun k j h => by simp (disch := omega) only [u_lit, q_sub, Nat.add_sub_cancel, q_upE, q_upN, q_upM, q_upO, u_bd, u_pf, u_nm, q_ald, q_ast, q_tld, q_lt0, q_lt, q_le, q_eq, q_m9, q_9m, q_neg9, q_add, q_mul, q_zr0, q_zr1, q_clamp, if_true, if_false, if_pos, if_neg]) (fun k j h => by simp (disch := omega) only [u_lit, q_sub, Nat.add_sub_cancel, q_upE, q_upN, q_upM, q_upO, u_bd, u_pf, u_nm, q_ald, q_ast, q_tld, q_lt0, q_lt, q_le, q_eq, q_m9, q_9m, q_neg9, q_add, q_mul, q_zr0, q_zr1, q_clamp, if_true, if_false, if_pos, if_neg]), by simp (disch := omega) only [u_lit, q_sub, Nat.add_sub_cancel, q_upE, q_upN, q_upM, q_upO, u_bd, u_pf, u_nm, q_ald, q_ast, q_tld, q_lt0, q_lt, q_le, q_eq, q_m9, q_9m, q_neg9, q_add, q_mul, q_zr0, q_zr1, q_clamp, if_true, if_false, if_pos, if_neg]; exact hF.1, by simp (disch := omega) only [u_lit, q_sub, Nat.add_sub_cancel, q_upE, q_upN, q_upM, q_upO, u_bd, u_pf, u_nm, q_ald, q_ast, q_tld, q_lt0, q_lt, q_le, q_eq, q_m9, q_9m, q_neg9, q_add, q_mul, q_zr0, q_zr1, q_clamp, if_true, if_false, if_pos, if_neg]⟩
theorem e_trace (x : Int32) : zf_N_leaveTrace x μ = some ((), nk_up μ 0 5 (nI 31 * μ 0 5 + x)) := rfl
theorem r_trace (x : Int32) : zf_M_traced x ν = some ((), nk_up ν 0 48 (nI 31 * ν 0 48 + x)) := rfl
theorem RR_tr (h : RR μ ν) (x : Int32) : RR (nk_up μ 0 5 (nI 31 * μ 0 5 + x)) (nk_up ν 0 48 (nI 31 * ν 0 48 + x)) := by
  have : μ 0 5 = ν 0 48 := by obtain ⟨N, fm, pt, hA, hL, hT, hD, hS, hF⟩ := h; exact hF.2
  rw [this]
  exact RR_trace h _
theorem p_tell (a : Int32) (h : RR μ ν) : p_ok (zf_N_tell a μ) (zf_M_tell a ν) := by
  obtain ⟨N, fm, pt, hA, hL, hT, hD, hS, hF⟩ := id h
  obtain ⟨s1, s2, s3, s4⟩ := id hA.1
  rcases pk_ix a (n := N) (by omega) with e | e | ⟨c, hc, rfl⟩
  · obtain ⟨g1, g2⟩ := hn_out (o := 1) (B := 6) (x := a) s1 s2 s3 (Or.inl e)
    exact ⟨-nI 1, μ, ν, by unfold zf_N_tell; rw [g1]; rfl, by unfold zf_M_tell; rw [g2]; rfl, h⟩
  · obtain ⟨g1, g2⟩ := hn_out (o := 1) (B := 6) (x := a) s1 s2 s3 (Or.inr e)
    exact ⟨-nI 1, μ, ν, by unfold zf_N_tell; rw [g1]; rfl, by unfold zf_M_tell; rw [g2]; rfl, h⟩
  · obtain ⟨g1, g2⟩ := hn_in (o := 1) (B := 6) s1 s2 s3 hc
    obtain ⟨-, -, -, t4, t5, t6, -⟩ := s4 c hc
    obtain ⟨p, hp1, hp2, hp⟩ := hA.2.2 c hc
    have t6' : ν 2 c = nI p := by rw [← hp]; exact t6.symm
    have hc8 : c < 8 := by omega
    have eP : ∀ μ' : nk_M, μ' 7 c = μ 7 c → zf_N_tellPlain (nI c) μ' = some (nI p, nk_up μ' 0 5 (nI 31 * μ' 0 5 + nI 1)) := fun μ' h7 => by
      unfold zf_N_tellPlain
      rw [u_lit, e_trace, u_bd, q_ald hc8 (by omega), q_upN (by omega), h7, hp]
    have eD : ∀ μ' : nk_M, μ' 7 c = μ 7 c → zf_N_tellDear (nI c) μ' = some (nI p + nI 100, nk_up (nk_up μ' 0 5 (nI 31 * μ' 0 5 + nI 2)) 0 5 (nI 31 * (nI 31 * μ' 0 5 + nI 2) + nI 1)) := fun μ' h7 => by
      unfold zf_N_tellDear
      rw [u_lit, e_trace, u_bd, eP _ (by rw [q_upN (by omega)]; exact h7), u_bd, q_upE]
      rfl
    have eM : ∀ (ν' : nk_M), ν' 2 c = ν 2 c → ∀ y : Int32, zf_M_tell_b51 (nI c) y ν' = (if y = 0 then some (nI p, ν') else if y = 1 then some (nI p + nI 100, ν') else some (nI 2 * nI p + nI 100, ν')) := fun ν' h2 y => by
      unfold zf_M_tell_b51
      rw [q_ald hc8 (by omega), h2, t6']
      rfl
    unfold zf_N_tell zf_M_tell
    rw [g1, g2, u_bd, u_bd, if_neg (by decide), if_pos (by decide), q_ald hc8 (by omega), q_ald hc8 (by omega), t4]
    rcases t5 with e | e | e
    · rw [e, if_neg (by decide), if_neg (by decide), if_neg (by decide), q_bdS, eP μ rfl]
      unfold zf_M_tell_b27
      rw [if_pos (by decide)]
      unfold zf_M_tell_b36
      rw [u_lit 1, r_trace, u_bd, if_neg (by decide), eM _ (by rw [q_upN (by omega)]), if_pos (by decide)]
      exact ⟨nI p, _, _, rfl, rfl, RR_tr h (nI 1)⟩
    · rw [e, if_pos (by decide), if_neg (by decide), q_bdS, eD μ rfl]
      unfold zf_M_tell_b27
      rw [if_neg (by decide), u_lit 2, r_trace, u_bd]
      unfold zf_M_tell_b36
      rw [u_lit 1, r_trace, u_bd, if_neg (by decide), eM _ (by rw [q_upN (by omega), q_upN (by omega)]), if_neg (by decide), if_pos (by decide)]
      have := RR_tr (RR_tr h (nI 2)) (nI 1)
      rw [q_upE, q_upE] at this
      rw [q_upE]
      exact ⟨nI p + nI 100, _, _, rfl, rfl, this⟩
    · rw [e, if_neg (by decide), if_pos (by decide), if_pos (by decide), q_bdS, u_lit 3, r_trace, u_bd]
      unfold zf_M_tell_b27
      rw [if_neg (by decide), u_lit 2, r_trace, u_bd]
      unfold zf_M_tell_b36
      rw [u_lit 1, r_trace, u_bd, if_pos (by decide), r_trace, u_bd, eM _ (by rw [q_upN (by omega), q_upN (by omega), q_upN (by omega), q_upN (by omega)]), if_neg (by decide), if_neg (by decide)]
      unfold zf_N_tellDouble
      rw [u_lit 3, e_trace, u_bd, eD _ (by rw [q_upN (by omega)]), u_bd, eP _ (by rw [q_upN (by omega), q_upN (by omega), q_upN (by omega)]), u_bd]
      have := RR_tr (RR_tr (RR_tr (RR_tr h (nI 3)) (nI 2)) (nI 1)) (nI 1)
      simp only [q_upE] at this ⊢
      have hx : nI 2 * nI p + nI 100 = nI p + nI 100 + nI p := by rw [q_add, q_add, q_mul, q_add, show p + 100 + p = 2 * p + 100 by omega]
      rw [hx]
      exact ⟨nI p + nI 100 + nI p, _, _, rfl, rfl, this⟩
theorem p_point (a : Int32) (h : RR μ ν) : p_ok (zf_N_point a μ) (zf_M_point a ν) := by
  obtain ⟨N, fm, pt, hA, hL, hT, hD, hS, hF⟩ := id h
  obtain ⟨s1, s2, s3, s4⟩ := id hA.1
  rcases pk_ix a (n := N) (by omega) with e | e | ⟨c, hc, rfl⟩
  · obtain ⟨g1, g2⟩ := hn_out (o := 1) (B := 6) (x := a) s1 s2 s3 (Or.inl e)
    exact ⟨-nI 1, μ, ν, by unfold zf_N_point; rw [g1]; rfl, by unfold zf_M_point; rw [g2]; rfl, h⟩
  · obtain ⟨g1, g2⟩ := hn_out (o := 1) (B := 6) (x := a) s1 s2 s3 (Or.inr e)
    exact ⟨-nI 1, μ, ν, by unfold zf_N_point; rw [g1]; rfl, by unfold zf_M_point; rw [g2]; rfl, h⟩
  · obtain ⟨g1, g2⟩ := hn_in (o := 1) (B := 6) s1 s2 s3 hc
    obtain ⟨-, -, -, t4, t5, t6, -⟩ := s4 c hc
    by_cases e : ν 1 c = nI 2
    · have e' : μ 6 c = nI 2 := by rw [t4, e]
      exact ⟨nI 40, nk_up μ 0 5 (nI 31 * μ 0 5 + nI 5), nk_up ν 0 48 (nI 31 * ν 0 48 + nI 5), by unfold zf_N_point; rw [g1, u_bd, if_neg (by decide), q_ald (by omega) (by omega), if_pos (show μ 6 c = 2 from e')]; rfl, by unfold zf_M_point; rw [g2, u_bd, if_pos (by decide), q_ald (by omega) (by omega), if_pos (show ν 1 c = 2 from e)]; unfold zf_M_point_b26; rw [r_trace, u_bd, q_ald (by omega) (by omega), q_upN (by omega), if_pos (show ν 1 c = 2 from e)]; rfl, RR_tr h (nI 5)⟩
    · have e' : ¬ μ 6 c = nI 2 := by rw [t4]; exact e
      exact ⟨nI c, nk_up μ 0 5 (nI 31 * μ 0 5 + nI 4), nk_up ν 0 48 (nI 31 * ν 0 48 + nI 4), by unfold zf_N_point; rw [g1, u_bd, if_neg (by decide), q_ald (by omega) (by omega), if_neg (show ¬ μ 6 c = 2 from e')]; rfl, by unfold zf_M_point; rw [g2, u_bd, if_pos (by decide), q_ald (by omega) (by omega), if_neg (show ¬ ν 1 c = 2 from e)]; unfold zf_M_point_b26; rw [r_trace, u_bd, q_ald (by omega) (by omega), q_upN (by omega), if_neg (show ¬ ν 1 c = 2 from e)]; rfl, RR_tr h (nI 4)⟩
theorem e_faulted (x : Int32) : zf_N_faulted x μ = some (-nI 10 - x, nk_up μ 0 6 x) := rfl
theorem r_failed (x : Int32) : zf_M_failed x ν = some (-nI 10 - x, nk_up ν 0 0 x) := rfl
theorem r_refused (x : Int32) : zf_M_refused x ν = some (x, nk_up ν 0 0 (nI 0)) := rfl
theorem q_upU {k j : Nat} {u v : Int32} : nk_up (nk_up μ k j u) k j v = nk_up μ k j v := by
  apply q_ext
  intro a b
  by_cases e : a = k ∧ b = j
  · rw [e.1, e.2, q_upE, q_upE]
  · rw [q_upO e, q_upO e, q_upO e]
theorem p_as (a b : Int32) (h : RR μ ν) : p_ok (zf_N_as a b μ) (zf_M_as a b ν) := by
  obtain ⟨N, fm, pt, hA, hL, hT, hD, hS, hF⟩ := id h
  obtain ⟨s1, s2, s3, s4⟩ := id hA.1
  have h0 : (nk_up μ 0 6 (nI 0)) 1 0 = nI N := by simp (disch := omega) only [u_lit, q_sub, Nat.add_sub_cancel, q_upE, q_upN, q_upM, q_upO, u_bd, u_pf, u_nm, q_ald, q_ast, q_tld, q_lt0, q_lt, q_le, q_eq, q_m9, q_9m, q_neg9, q_add, q_mul, q_zr0, q_zr1, q_clamp, if_true, if_false, if_pos, if_neg]; exact s2
  rcases pk_ix a (n := N) (by omega) with e | e | ⟨c, hc, rfl⟩
  · obtain ⟨g1, g2⟩ := hn_out (o := 1) (B := 6) (x := a) s1 h0 s3 (Or.inl e)
    exact ⟨-nI 1, nk_up μ 0 6 (nI 0), nk_up ν 0 0 (nI 0), by unfold zf_N_as; rw [u_pf, u_lit 0, g1]; rfl, by unfold zf_M_as; rw [g2]; rfl, RR_fault h _⟩
  · obtain ⟨g1, g2⟩ := hn_out (o := 1) (B := 6) (x := a) s1 h0 s3 (Or.inr e)
    exact ⟨-nI 1, nk_up μ 0 6 (nI 0), nk_up ν 0 0 (nI 0), by unfold zf_N_as; rw [u_pf, u_lit 0, g1]; rfl, by unfold zf_M_as; rw [g2]; rfl, RR_fault h _⟩
  · obtain ⟨g1, g2⟩ := hn_in (o := 1) (B := 6) s1 h0 s3 hc
    obtain ⟨-, -, -, t4, t5, t6, -⟩ := s4 c hc
    by_cases e : 0 ≤ b.toInt ∧ b.toInt ≤ 2
    · obtain ⟨p, rfl, hp1, hp2⟩ := q_of (a := 0) (b := 2) e
      have hin := r_inT (x := nI p) (l := 0) (h := 2) ν 0 2 (by decide) (by decide) e
      obtain ⟨k, hk, e1⟩ : ∃ k, k ≤ 2 ∧ ν 1 c = nI k := by
        rcases t5 with e | e | e
        · exact ⟨0, by omega, e⟩
        · exact ⟨1, by omega, e⟩
        · exact ⟨2, by omega, e⟩
      have e1' : μ 6 c = nI k := by rw [t4, e1]
      by_cases e2 : k < p
      · refine ⟨-nI 10 - nI 2, nk_up (nk_up μ 0 6 (nI 0)) 0 6 (nI 2), nk_up ν 0 0 (nI 2), by simp (disch := omega) only [zf_N_as, g1, q_10, e1', e_faulted, zf_N_as_b52, u_lit, q_sub, Nat.add_sub_cancel, q_upE, q_upN, q_upM, q_upO, u_bd, u_pf, u_nm, q_ald, q_ast, q_tld, q_lt0, q_lt, q_le, q_eq, q_m9, q_9m, q_neg9, q_add, q_mul, q_zr0, q_zr1, q_clamp, if_true, if_false, if_pos, if_neg], by simp (disch := omega) only [zf_M_as, g2, hin, q_10, e1, r_failed, zf_M_as_b56, u_lit, q_sub, Nat.add_sub_cancel, q_upE, q_upN, q_upM, q_upO, u_bd, u_pf, u_nm, q_ald, q_ast, q_tld, q_lt0, q_lt, q_le, q_eq, q_m9, q_9m, q_neg9, q_add, q_mul, q_zr0, q_zr1, q_clamp, if_true, if_false, if_pos, if_neg], ?_⟩
        rw [q_upU]
        exact RR_fault h _
      · exact ⟨nI 1, nk_up μ 0 6 (nI 0), nk_up ν 0 0 (nI 0), by simp (disch := omega) only [zf_N_as, g1, q_10, e1', zf_N_as_b52, u_lit, q_sub, Nat.add_sub_cancel, q_upE, q_upN, q_upM, q_upO, u_bd, u_pf, u_nm, q_ald, q_ast, q_tld, q_lt0, q_lt, q_le, q_eq, q_m9, q_9m, q_neg9, q_add, q_mul, q_zr0, q_zr1, q_clamp, if_true, if_false, if_pos, if_neg], by simp (disch := omega) only [zf_M_as, g2, hin, q_10, e1, r_refused, zf_M_as_b56, u_lit, q_sub, Nat.add_sub_cancel, q_upE, q_upN, q_upM, q_upO, u_bd, u_pf, u_nm, q_ald, q_ast, q_tld, q_lt0, q_lt, q_le, q_eq, q_m9, q_9m, q_neg9, q_add, q_mul, q_zr0, q_zr1, q_clamp, if_true, if_false, if_pos, if_neg], RR_fault h _⟩
    · have hin := r_inF (x := b) (l := 0) (h := 2) ν 0 2 (by decide) (by decide) e
      refine ⟨-nI 2, nk_up μ 0 6 (nI 0), nk_up ν 0 0 (nI 0), ?_, by simp (disch := omega) only [zf_M_as, g2, hin, r_refused, u_lit, q_sub, Nat.add_sub_cancel, q_upE, q_upN, q_upM, q_upO, u_bd, u_pf, u_nm, q_ald, q_ast, q_tld, q_lt0, q_lt, q_le, q_eq, q_m9, q_9m, q_neg9, q_add, q_mul, q_zr0, q_zr1, q_clamp, if_true, if_false, if_pos, if_neg], RR_fault h _⟩
      by_cases e2 : b.toInt < 0
      · have e3 : b < nI 0 := by rw [q_xlt (by omega)]; exact e2
        simp (disch := omega) only [zf_N_as, g1, q_10, e3, zf_N_as_b27, u_lit, q_sub, Nat.add_sub_cancel, q_upE, q_upN, q_upM, q_upO, u_bd, u_pf, u_nm, q_ald, q_ast, q_tld, q_lt0, q_lt, q_le, q_eq, q_m9, q_9m, q_neg9, q_add, q_mul, q_zr0, q_zr1, q_clamp, if_true, if_false, if_pos, if_neg]
      · have e3 : ¬ b < nI 0 := by rw [q_xlt (by omega)]; exact e2
        have e4 : ¬ b < nI 3 := by rw [q_xlt (by omega)]; omega
        simp (disch := omega) only [zf_N_as, g1, q_10, e3, e4, zf_N_as_b27, u_lit, q_sub, Nat.add_sub_cancel, q_upE, q_upN, q_upM, q_upO, u_bd, u_pf, u_nm, q_ald, q_ast, q_tld, q_lt0, q_lt, q_le, q_eq, q_m9, q_9m, q_neg9, q_add, q_mul, q_zr0, q_zr1, q_clamp, if_true, if_false, if_pos, if_neg]
end PT

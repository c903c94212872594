/-! ===== 39: kinds, prices, odds ===== -/
theorem j_st_kind {o B N c i : Nat} {fm : Nat → Nat} {pt : Nat → Nat → Nat} {μ ν : nk_M} (ho : o < B) (hi : i ≤ 2) (h : j_st o B N fm pt μ ν) : j_st o B N fm pt (nk_up μ B c (nI i)) (nk_up ν 1 c (nI i)) := by
  obtain ⟨h1, h2, h3, h4⟩ := h
  refine ⟨h1, by simp (disch := omega) only [u_lit, q_sub, Nat.add_sub_cancel, q_upE, q_upN, q_upM, q_upO, u_bd, u_pf, u_nm, q_ald, q_ast, q_tld, q_lt0, q_lt, q_le, q_eq, q_m9, q_9m, q_neg9, q_add, q_mul, q_zr0, q_zr1, q_clamp, if_true, if_false, if_pos, if_neg]; exact h2, by simp (disch := omega) only [u_lit, q_sub, Nat.add_sub_cancel, q_upE, q_upN, q_upM, q_upO, u_bd, u_pf, u_nm, q_ald, q_ast, q_tld, q_lt0, q_lt, q_le, q_eq, q_m9, q_9m, q_neg9, q_add, q_mul, q_zr0, q_zr1, q_clamp, if_true, if_false, if_pos, if_neg]; exact h3, fun c' hc => ?_⟩
  obtain ⟨a1, a2, a3, a4, a5, a6, a7⟩ := h4 c' hc
  refine ⟨a1, by simp (disch := omega) only [u_lit, q_sub, Nat.add_sub_cancel, q_upE, q_upN, q_upM, q_upO, u_bd, u_pf, u_nm, q_ald, q_ast, q_tld, q_lt0, q_lt, q_le, q_eq, q_m9, q_9m, q_neg9, q_add, q_mul, q_zr0, q_zr1, q_clamp, if_true, if_false, if_pos, if_neg]; exact a2, by simp (disch := omega) only [u_lit, q_sub, Nat.add_sub_cancel, q_upE, q_upN, q_upM, q_upO, u_bd, u_pf, u_nm, q_ald, q_ast, q_tld, q_lt0, q_lt, q_le, q_eq, q_m9, q_9m, q_neg9, q_add, q_mul, q_zr0, q_zr1, q_clamp, if_true, if_false, if_pos, if_neg]; exact a3, ?_, ?_, by simp (disch := omega) only [u_lit, q_sub, Nat.add_sub_cancel, q_upE, q_upN, q_upM, q_upO, u_bd, u_pf, u_nm, q_ald, q_ast, q_tld, q_lt0, q_lt, q_le, q_eq, q_m9, q_9m, q_neg9, q_add, q_mul, q_zr0, q_zr1, q_clamp, if_true, if_false, if_pos, if_neg]; exact a6, fun k hk => by simp (disch := omega) only [u_lit, q_sub, Nat.add_sub_cancel, q_upE, q_upN, q_upM, q_upO, u_bd, u_pf, u_nm, q_ald, q_ast, q_tld, q_lt0, q_lt, q_le, q_eq, q_m9, q_9m, q_neg9, q_add, q_mul, q_zr0, q_zr1, q_clamp, if_true, if_false, if_pos, if_neg]; exact a7 k hk⟩
  · by_cases e : c' = c
    · subst e; rw [q_upE, q_upE]
    · rw [q_upM e, q_upM e]; exact a4
  · by_cases e : c' = c
    · subst e; rw [q_upE]
      rcases (show i = 0 ∨ i = 1 ∨ i = 2 by omega) with rfl | rfl | rfl
      · exact Or.inl rfl
      · exact Or.inr (Or.inl rfl)
      · exact Or.inr (Or.inr rfl)
    · rw [q_upM e]; exact a5
theorem b_or0 (x : Int32) : x ||| 0 = x := by
  apply Int32.toBitVec_inj.1
  show x.toBitVec ||| 0#32 = x.toBitVec
  simp
section KP
variable {N : Nat} {fm : Nat → Nat} {pt : Nat → Nat → Nat} {μ ν : nk_M}
theorem k_D {x y z : Nat} {μ μ' ν ν' : nk_M} (hx : x ≠ 4 ∧ x ≠ 24 ∧ x ≠ 25) (hy : y ≠ 0 ∧ y ≠ 23 ∧ y ≠ 24) (h : R_D N μ ν) (hC : k_fC x μ μ') (hR : k_fR y z ν ν') : R_D N μ' ν' :=
  R_D_c h (fun k j h => hC k j (by omega) (by omega) (by omega) (by omega) (by omega) (by omega)) (fun k j h => hR k j (by omega) (by omega) (by omega))
theorem k_kinds_b {c : Nat} (hc : c < N) (hN : N ≤ 8) (w : Int32) : ∀ (n f i : Nat) (s : Int32) (μ ν : nk_M), i + n = 3 → n < f → k_tr N fm pt μ ν → R_D N μ ν → ∃ (S : Int32) (μ' ν' : nk_M), zf_N_kinds_b28 f (nI c) s (nI i) μ = some (S, μ') ∧ zf_M_kinds_b26 f (nI c) w s (nI i) ν = nk_bd (zf_M_bringsBack (nk_up ν' 1 c w)) (fun _ m2 => some (S, m2)) ∧ k_fC 15 μ μ' ∧ k_fR 1 c ν ν' ∧ R_T μ' := by
  intro n
  induction n with
  | zero =>
    intro f i s μ ν hi hf ht hD
    obtain ⟨f, rfl⟩ : ∃ g, f = g + 1 := ⟨f - 1, by omega⟩
    refine ⟨s, μ, ν, ?_, ?_, k_fC_r, k_fR_r, ht.2.2⟩
    · rw [zf_N_kinds_b28, if_pos (l_kle 3 (by omega) (by omega))]
    · rw [zf_M_kinds_b26, if_pos (l_kle 3 (by omega) (by omega)), q_ast (by omega) (by omega)]
  | succ n ih =>
    intro f i s μ ν hi hf ht hD
    obtain ⟨f, rfl⟩ : ∃ g, f = g + 1 := ⟨f - 1, by omega⟩
    have ht1 : k_tr N fm pt (nk_up μ 15 c (nI i)) (nk_up ν 1 c (nI i)) := ⟨j_st_kind (by omega) (by omega) ht.1, by rw [q_upN (by omega)]; exact ht.2.1, R_T_c ht.2.2 (fun k j h => q_upN (by omega))⟩
    have hD1 : R_D N (nk_up μ 15 c (nI i)) (nk_up ν 1 c (nI i)) := k_D (by omega) (by omega) hD k_fC_u k_fR_u
    obtain ⟨a, μ1, ν1, ha, a1, a2, a3, a4⟩ := k_areSo ht1 hD1
    have ht2 := k_tr_c ht1 a3 a4
    have hD2 := k_D (by omega) (by omega) hD1 a3 a4
    rw [zf_N_kinds_b28, zf_M_kinds_b26, if_neg (l_nkle 3 (by omega) (by omega)), if_neg (l_nkle 3 (by omega) (by omega)), q_ast (k := 15) (by omega) (by omega), q_ast (k := 1) (by omega) (by omega), a1, a2, u_bd, u_bd]
    rcases (show a = 0 ∨ a = 1 by omega) with rfl | rfl
    · obtain ⟨S, μ', ν', e1, e2, e3, e4, e5⟩ := ih f (i + 1) s μ1 ν1 (by omega) (by omega) ht2 hD2
      refine ⟨S, μ', ν', ?_, ?_, k_fC_t (k_fC_t k_fC_u (k_fC_w 15 a3)) e3, k_fR_t (k_fR_t k_fR_u (k_fR_w 1 c a4)) e4, e5⟩
      · rw [if_pos (by decide)]
        unfold zf_N_kinds_b63
        rw [u_lit 1, q_add]; exact e1
      · rw [if_pos (by decide)]
        unfold zf_M_kinds_b56
        rw [u_nm, b_or0, u_lit 1, q_add]; exact e2
    · obtain ⟨S, μ', ν', e1, e2, e3, e4, e5⟩ := ih f (i + 1) (s ||| (1 : Int32) <<< (nI i &&& 31)) μ1 ν1 (by omega) (by omega) ht2 hD2
      refine ⟨S, μ', ν', ?_, ?_, k_fC_t (k_fC_t k_fC_u (k_fC_w 15 a3)) e3, k_fR_t (k_fR_t k_fR_u (k_fR_w 1 c a4)) e4, e5⟩
      · rw [if_neg (by decide), u_nm]
        unfold zf_N_kinds_b63
        rw [show nI i + 1 = nI (i + 1) from q_add i 1]; exact e1
      · rw [if_neg (by decide)]
        unfold zf_M_kinds_b56
        rw [u_nm, show nI i + 1 = nI (i + 1) from q_add i 1]; exact e2
theorem k_prices_b {c : Nat} (hc : c < N) (hN : N ≤ 8) : ∀ (n f i : Nat) (s : Int32) (μ ν : nk_M), i + n = 10 → n < f → k_tr N fm pt μ ν → R_D N μ ν → ∃ (S : Int32) (μ' ν' : nk_M), zf_N_prices_b28 f (nI c) s (nI i) μ = some (S, μ') ∧ zf_M_prices_b18 f (nI c) s (nI i) ν = nk_bd (zf_M_bringsBack ν') (fun _ m2 => some (S, m2)) ∧ k_fC 16 μ μ' ∧ k_fR 2 c ν ν' ∧ R_T μ' := by
  intro n
  induction n with
  | zero =>
    intro f i s μ ν hi hf ht hD
    obtain ⟨f, rfl⟩ : ∃ g, f = g + 1 := ⟨f - 1, by omega⟩
    refine ⟨s, μ, ν, ?_, ?_, k_fC_r, k_fR_r, ht.2.2⟩
    · rw [zf_N_prices_b28, if_pos (l_klt 9 (by omega) (by omega))]
    · rw [zf_M_prices_b18, if_pos (l_klt 9 (by omega) (by omega))]
  | succ n ih =>
    intro f i s μ ν hi hf ht hD
    obtain ⟨f, rfl⟩ : ∃ g, f = g + 1 := ⟨f - 1, by omega⟩
    have ht1 : k_tr N fm pt (nk_up μ 16 c (nI i)) (nk_up ν 2 c (nI i)) := ⟨j_st_price (o := 2) (B := 15) (by omega) ht.1, by rw [q_upN (by omega)]; exact ht.2.1, R_T_c ht.2.2 (fun k j h => q_upN (by omega))⟩
    have hD1 : R_D N (nk_up μ 16 c (nI i)) (nk_up ν 2 c (nI i)) := k_D (by omega) (by omega) hD k_fC_u k_fR_u
    obtain ⟨a, μ1, ν1, ha, a1, a2, a3, a4⟩ := k_areSo ht1 hD1
    have ht2 := k_tr_c ht1 a3 a4
    have hD2 := k_D (by omega) (by omega) hD1 a3 a4
    rw [zf_N_prices_b28, zf_M_prices_b18, if_neg (l_nklt 9 (by omega) (by omega)), if_neg (l_nklt 9 (by omega) (by omega)), q_ast (k := 16) (by omega) (by omega), q_ast (k := 2) (by omega) (by omega), a1, a2, u_bd, u_bd]
    rcases (show a = 0 ∨ a = 1 by omega) with rfl | rfl
    · obtain ⟨S, μ', ν', e1, e2, e3, e4, e5⟩ := ih f (i + 1) s μ1 ν1 (by omega) (by omega) ht2 hD2
      refine ⟨S, μ', ν', ?_, ?_, k_fC_t (k_fC_t k_fC_u (k_fC_w 16 a3)) e3, k_fR_t (k_fR_t k_fR_u (k_fR_w 2 c a4)) e4, e5⟩
      · rw [if_pos (by decide)]
        unfold zf_N_prices_b64
        rw [u_lit 1, q_add]; exact e1
      · rw [if_pos (by decide)]
        unfold zf_M_prices_b46
        rw [u_nm, b_or0, u_lit 1, q_add]; exact e2
    · obtain ⟨S, μ', ν', e1, e2, e3, e4, e5⟩ := ih f (i + 1) (s ||| (1 : Int32) <<< (nI i &&& 31)) μ1 ν1 (by omega) (by omega) ht2 hD2
      refine ⟨S, μ', ν', ?_, ?_, k_fC_t (k_fC_t k_fC_u (k_fC_w 16 a3)) e3, k_fR_t (k_fR_t k_fR_u (k_fR_w 2 c a4)) e4, e5⟩
      · rw [if_neg (by decide), u_nm]
        unfold zf_N_prices_b64
        rw [show nI i + 1 = nI (i + 1) from q_add i 1]; exact e1
      · rw [if_neg (by decide)]
        unfold zf_M_prices_b46
        rw [u_nm, show nI i + 1 = nI (i + 1) from q_add i 1]; exact e2
/-- the trial's and the reference's start of a trial -/
theorem k_start (hA : R_A N fm pt μ ν) (hT : R_T μ) (hD : R_D N μ ν) : ∃ μ1 ν1, zf_C_becomeLike 2 15 1 6 μ = some ((), μ1) ∧ zf_M_keeps ν = some ((), ν1) ∧ k_tr N fm pt μ1 ν1 ∧ R_D N μ1 ν1 ∧ (∀ k j, k ≠ 2 → ¬ (15 ≤ k ∧ k ≤ 23) → μ1 k j = μ k j) ∧ (∀ a b, ¬ (18 ≤ a ∧ a ≤ 22) → ν1 a b = ν a b) ∧ ∀ b, b < 8 → ν1 18 b = ν 9 b ∧ ν1 19 b = ν 10 b ∧ ν1 20 b = ν 11 b ∧ ν1 21 b = ν 12 b ∧ ν1 22 b = ν 2 b := by
  obtain ⟨μ1, k1, k2, k3, k4, k5, k6, k7⟩ := k_like hA hT
  obtain ⟨ν1, e1, e2, e3⟩ := r_keeps ν
  exact ⟨μ1, ν1, k1, e1, ⟨j_st_c k2 (fun _ _ _ => rfl) (fun k j h => e2 k j (by omega)), by rw [e2 0 29 (by omega)]; exact hA.2.1.1.1, k6⟩, R_D_c hD (fun k j h => k7 k j (by omega) (by omega)) (fun k j h => e2 k j (by omega)), k7, e2, e3⟩
theorem p_kinds (a : Int32) (h : RR μ ν) : p_ok (zf_N_kinds a μ) (zf_M_kinds a ν) := by
  obtain ⟨N, fm, pt, hA, hL, hT, hD, hS, hF⟩ := id h
  obtain ⟨s1, s2, s3, s4⟩ := id hA.1
  rcases pk_ix a (n := N) (by omega) with e | e | ⟨c, hc, rfl⟩
  · obtain ⟨g1, g2⟩ := hn_out (o := 1) (B := 6) (x := a) s1 s2 s3 (Or.inl e)
    exact ⟨-nI 1, μ, ν, by unfold zf_N_kinds; rw [g1]; rfl, by unfold zf_M_kinds; rw [g2]; rfl, h⟩
  · obtain ⟨g1, g2⟩ := hn_out (o := 1) (B := 6) (x := a) s1 s2 s3 (Or.inr e)
    exact ⟨-nI 1, μ, ν, by unfold zf_N_kinds; rw [g1]; rfl, by unfold zf_M_kinds; rw [g2]; rfl, h⟩
  · obtain ⟨g1, g2⟩ := hn_in (o := 1) (B := 6) s1 s2 s3 hc
    obtain ⟨μ1, ν1, t1, t2, t3, t4, t5, t6, t7⟩ := k_start hA hT hD
    obtain ⟨S, μ', ν', e1, e2, e3, e4, e5⟩ := k_kinds_b hc s1 (ν1 1 c) 3 nk_fu 0 0 μ1 ν1 (by omega) (by show _ < 4096; omega) t3 t4
    obtain ⟨ν3, b0, b1, b2⟩ := r_brings (nk_up ν' 1 c (ν1 1 c))
    refine ⟨S, μ', ν3, ?_, ?_, RR_back h (fun k j h1 h2 => ?_) e5 t6 t7 (fun k j h1 h2 h3 => ?_) b1 b2⟩
    · unfold zf_N_kinds
      rw [g1, u_bd, if_neg (by decide), t1, u_bd]
      exact e1
    · unfold zf_M_kinds
      rw [g2, u_bd, if_pos (by decide), t2, u_bd, q_ald (by omega) (by omega)]
      refine Eq.trans e2 ?_
      rw [b0, u_bd]
    · rw [e3 k j (by omega) (by omega) (by omega) (by omega) (by omega) (by omega), t5 k j h1 h2]
    · by_cases e : k = 1 ∧ j = c
      · rw [e.1, e.2, q_upE]
      · rw [q_upO e, e4 k j e h2 (by omega)]
theorem p_prices (a : Int32) (h : RR μ ν) : p_ok (zf_N_prices a μ) (zf_M_prices a ν) := by
  obtain ⟨N, fm, pt, hA, hL, hT, hD, hS, hF⟩ := id h
  obtain ⟨s1, s2, s3, s4⟩ := id hA.1
  rcases pk_ix a (n := N) (by omega) with e | e | ⟨c, hc, rfl⟩
  · obtain ⟨g1, g2⟩ := hn_out (o := 1) (B := 6) (x := a) s1 s2 s3 (Or.inl e)
    exact ⟨-nI 1, μ, ν, by unfold zf_N_prices; rw [g1]; rfl, by unfold zf_M_prices; rw [g2]; rfl, h⟩
  · obtain ⟨g1, g2⟩ := hn_out (o := 1) (B := 6) (x := a) s1 s2 s3 (Or.inr e)
    exact ⟨-nI 1, μ, ν, by unfold zf_N_prices; rw [g1]; rfl, by unfold zf_M_prices; rw [g2]; rfl, h⟩
  · obtain ⟨g1, g2⟩ := hn_in (o := 1) (B := 6) s1 s2 s3 hc
    obtain ⟨μ1, ν1, t1, t2, t3, t4, t5, t6, t7⟩ := k_start hA hT hD
    obtain ⟨S, μ', ν', e1, e2, e3, e4, e5⟩ := k_prices_b hc s1 9 nk_fu 1 0 μ1 ν1 (by omega) (by show _ < 4096; omega) t3 t4
    obtain ⟨ν3, b0, b1, b2⟩ := r_brings ν'
    refine ⟨S, μ', ν3, ?_, ?_, RR_back h (fun k j h1 h2 => ?_) e5 t6 t7 (fun k j h1 h2 h3 => ?_) b1 b2⟩
    · unfold zf_N_prices
      rw [g1, u_bd, if_neg (by decide), t1, u_bd]
      exact e1
    · unfold zf_M_prices
      rw [g2, u_bd, if_pos (by decide), t2, u_bd]
      refine Eq.trans e2 ?_
      rw [b0, u_bd]
    · rw [e3 k j (by omega) (by omega) (by omega) (by omega) (by omega) (by omega), t5 k j h1 h2]
    · rw [e4 k j (by omega) h2 (by omega)]
/-! odds -/
def q_pt (pt : Nat → Nat → Nat) (d x : Nat) : Nat → Nat → Nat := fun a k => if a = d ∧ k = 0 then x else pt a k
theorem j_st_part {o B N d x : Nat} {fm : Nat → Nat} {pt : Nat → Nat → Nat} {μ ν : nk_M} (ho : o < B) (hx : x ≤ 9) (hf : fm d = 0) (h : j_st o B N fm pt μ ν) : j_st o B N fm (q_pt pt d x) (nk_up μ (B + 3) (3 * d) (nI x)) (nk_up ν 4 (3 * d) (nI x)) := by
  obtain ⟨h1, h2, h3, h4⟩ := h
  refine ⟨h1, by simp (disch := omega) only [u_lit, q_sub, Nat.add_sub_cancel, q_upE, q_upN, q_upM, q_upO, u_bd, u_pf, u_nm, q_ald, q_ast, q_tld, q_lt0, q_lt, q_le, q_eq, q_m9, q_9m, q_neg9, q_add, q_mul, q_zr0, q_zr1, q_clamp, if_true, if_false, if_pos, if_neg]; exact h2, by simp (disch := omega) only [u_lit, q_sub, Nat.add_sub_cancel, q_upE, q_upN, q_upM, q_upO, u_bd, u_pf, u_nm, q_ald, q_ast, q_tld, q_lt0, q_lt, q_le, q_eq, q_m9, q_9m, q_neg9, q_add, q_mul, q_zr0, q_zr1, q_clamp, if_true, if_false, if_pos, if_neg]; exact h3, fun c' hc => ?_⟩
  obtain ⟨a1, a2, a3, a4, a5, a6, a7⟩ := h4 c' hc
  refine ⟨a1, by simp (disch := omega) only [u_lit, q_sub, Nat.add_sub_cancel, q_upE, q_upN, q_upM, q_upO, u_bd, u_pf, u_nm, q_ald, q_ast, q_tld, q_lt0, q_lt, q_le, q_eq, q_m9, q_9m, q_neg9, q_add, q_mul, q_zr0, q_zr1, q_clamp, if_true, if_false, if_pos, if_neg]; exact a2, by simp (disch := omega) only [u_lit, q_sub, Nat.add_sub_cancel, q_upE, q_upN, q_upM, q_upO, u_bd, u_pf, u_nm, q_ald, q_ast, q_tld, q_lt0, q_lt, q_le, q_eq, q_m9, q_9m, q_neg9, q_add, q_mul, q_zr0, q_zr1, q_clamp, if_true, if_false, if_pos, if_neg]; exact a3, by simp (disch := omega) only [u_lit, q_sub, Nat.add_sub_cancel, q_upE, q_upN, q_upM, q_upO, u_bd, u_pf, u_nm, q_ald, q_ast, q_tld, q_lt0, q_lt, q_le, q_eq, q_m9, q_9m, q_neg9, q_add, q_mul, q_zr0, q_zr1, q_clamp, if_true, if_false, if_pos, if_neg]; exact a4, by simp (disch := omega) only [u_lit, q_sub, Nat.add_sub_cancel, q_upE, q_upN, q_upM, q_upO, u_bd, u_pf, u_nm, q_ald, q_ast, q_tld, q_lt0, q_lt, q_le, q_eq, q_m9, q_9m, q_neg9, q_add, q_mul, q_zr0, q_zr1, q_clamp, if_true, if_false, if_pos, if_neg]; exact a5, by simp (disch := omega) only [u_lit, q_sub, Nat.add_sub_cancel, q_upE, q_upN, q_upM, q_upO, u_bd, u_pf, u_nm, q_ald, q_ast, q_tld, q_lt0, q_lt, q_le, q_eq, q_m9, q_9m, q_neg9, q_add, q_mul, q_zr0, q_zr1, q_clamp, if_true, if_false, if_pos, if_neg]; exact a6, fun k hk => ?_⟩
  have := q_np3 (fm c')
  by_cases e : c' = d ∧ k = 0
  · obtain ⟨rfl, rfl⟩ := e
    rw [show 3 * c' + 0 = 3 * c' by omega, q_upE, q_upE, show q_pt pt c' x c' 0 = x from if_pos ⟨rfl, rfl⟩]
    exact ⟨rfl, rfl, fun _ => hx, fun z => (z hf).elim⟩
  · rw [q_upM (by omega), q_upM (by omega), show q_pt pt d x c' k = pt c' k from if_neg e]
    exact a7 k hk
theorem q_slp_up {B j : Nat} {v : Int32} {μ : nk_M} : nk_up (q_slp B μ) (B + 3) j v = q_slp B (nk_up μ (B + 3) j v) := by
  apply q_ext
  intro a b
  by_cases e : a = B + 3 ∧ b = j
  · rw [e.1, e.2, q_upE, q_slpN (by omega), q_upE]
  · rw [q_upO e]
    unfold q_slp
    by_cases e1 : a = B + 6 ∧ 0 ≤ b ∧ b < 8
    · rw [q_flE e1, q_flE e1]
    · rw [q_flN e1, q_flN e1]
      by_cases e2 : a = B + 5 ∧ 0 ≤ b ∧ b < 8
      · rw [q_flE e2, q_flE e2]
      · rw [q_flN e2, q_flN e2]
        by_cases e3 : a = B + 4 ∧ 0 ≤ b ∧ b < 8
        · rw [q_flE e3, q_flE e3]
        · rw [q_flN e3, q_flN e3, q_upO e]
theorem k_odds_b {c d : Nat} (hc : c < N) (hd : d < N) (hN : N ≤ 8) (hf0 : fm d = 0) (v w x : Int32) : ∀ (n f i t : Nat) (pt : Nat → Nat → Nat) (μ ν : nk_M), i + n = 10 → t ≤ i → n < f → k_tr N fm pt μ ν → ∃ (T : Nat) (μ' ν' : nk_M), T ≤ 10 ∧ zf_N_timesItComesTo_b17 f (nI c) (nI d) v (nI t) (nI i) μ = some (nI T, μ') ∧ zf_M_odds_b72 f (nI c) (nI d) v w x (nI t) (nI i) ν = nk_bd (zf_M_bringsBack (nk_up ν' 4 (3 * d) x)) (fun _ m2 => nk_bd (zf_M_share ((nI T).toInt64) (10 : Int64) w m2) (fun r2 m3 => some (r2, m3))) ∧ k_fC 18 μ μ' ∧ k_fR 4 (3 * d) ν ν' ∧ R_T μ' := by
  intro n
  induction n with
  | zero =>
    intro f i t pt μ ν hi hti hf ht
    obtain ⟨f, rfl⟩ : ∃ g, f = g + 1 := ⟨f - 1, by omega⟩
    refine ⟨t, μ, ν, by omega, ?_, ?_, k_fC_r, k_fR_r, ht.2.2⟩
    · rw [zf_N_timesItComesTo_b17, if_pos (l_klt 9 (by omega) (by omega))]
    · rw [zf_M_odds_b72, if_pos (l_klt 9 (by omega) (by omega)), u_lit 3, q_mul, q_ast (by omega) (by omega)]
  | succ n ih =>
    intro f i t pt μ ν hi hti hf ht
    obtain ⟨f, rfl⟩ : ∃ g, f = g + 1 := ⟨f - 1, by omega⟩
    have ht1 : k_tr N fm (q_pt pt d i) (nk_up μ 18 (3 * d) (nI i)) (nk_up ν 4 (3 * d) (nI i)) := ⟨j_st_part (o := 2) (B := 15) (by omega) (by omega) hf0 ht.1, by rw [q_upN (by omega)]; exact ht.2.1, R_T_c ht.2.2 (fun k j h => q_upN (by omega))⟩
    obtain ⟨u, μ1, ν1, hu, n1, n2, n3, n4, n5⟩ := k_anew ht1 hc
    have ht2 := k_tr_c ht1 n4 n5
    have htell : zf_C_tellPart 2 15 (nI d) 0 (nI i) (q_slp 15 μ) = some ((), q_slp 15 (nk_up μ 18 (3 * d) (nI i))) := by
      unfold zf_C_tellPart
      rw [u_lit 3, u_lit 0, q_mul, q_add, q_ast (by omega) (by omega), ← q_slp_up, show d * 3 + 0 = 3 * d by omega]
    rw [zf_N_timesItComesTo_b17, zf_M_odds_b72, if_neg (l_nklt 9 (by omega) (by omega)), if_neg (l_nklt 9 (by omega) (by omega)), e_putToSleep, u_bd, htell, u_bd, n1, u_bd, show (3 : Int32) * nI d = nI (3 * d) from q_mul 3 d, q_ast (k := 4) (by omega) (by omega), r_allAsleep, u_bd, n2, u_bd]
    by_cases e : nI u = v
    · obtain ⟨T, μ', ν', e0, e1, e2, e3, e4, e5⟩ := ih f (i + 1) (t + 1) _ μ1 ν1 (by omega) (by omega) (by omega) ht2
      refine ⟨T, μ', ν', e0, ?_, ?_, k_fC_t (k_fC_t k_fC_u (k_fC_w 18 n4)) e3, k_fR_t (k_fR_t k_fR_u (k_fR_w 4 (3 * d) n5)) e4, e5⟩
      · rw [if_pos e]
        unfold zf_N_timesItComesTo_b57
        rw [u_lit 1, q_add, q_add]; exact e1
      · rw [if_pos e]
        unfold zf_M_odds_b109
        rw [u_nm, u_lit 1, q_add, q_add]; exact e2
    · obtain ⟨T, μ', ν', e0, e1, e2, e3, e4, e5⟩ := ih f (i + 1) t _ μ1 ν1 (by omega) (by omega) (by omega) ht2
      refine ⟨T, μ', ν', e0, ?_, ?_, k_fC_t (k_fC_t k_fC_u (k_fC_w 18 n4)) e3, k_fR_t (k_fR_t k_fR_u (k_fR_w 4 (3 * d) n5)) e4, e5⟩
      · rw [if_neg e]
        unfold zf_N_timesItComesTo_b57
        rw [u_lit 1, q_add]; exact e1
      · rw [if_neg e]
        unfold zf_M_odds_b109
        rw [u_nm, u_lit 1, u_lit 0, q_add, q_add, Nat.add_zero]; exact e2
theorem q_fu12 : nk_fu = 4084 + 12 := by decide
theorem q_share {t w : Nat} (ht : t ≤ 10) (hw : w ≤ 1) : ∃ r : Int64, ∀ μ ν : nk_M, (nk_bd (zf_N_commonWithTen (nI t) μ) (fun r5 m4 => (if nI w = 0 then nk_Didiv (nI t) r5 (fun x7 => (zf_N_odds_b103 (x7.toInt64) m4)) else nk_Didiv (10 : Int32) r5 (fun x6 => (zf_N_odds_b103 (x6.toInt64) m4)))) = some (r, μ)) ∧ zf_M_share ((nI t).toInt64) (10 : Int64) (nI w) ν = some (r, ν) := by
  unfold zf_N_commonWithTen zf_M_share
  rw [q_fu12]
  generalize 4084 = f
  rcases (show t = 0 ∨ t = 1 ∨ t = 2 ∨ t = 3 ∨ t = 4 ∨ t = 5 ∨ t = 6 ∨ t = 7 ∨ t = 8 ∨ t = 9 ∨ t = 10 by omega) with rfl | rfl | rfl | rfl | rfl | rfl | rfl | rfl | rfl | rfl | rfl
  · rcases (show w = 0 ∨ w = 1 by omega) with rfl | rfl
    · exact ⟨(0 : Int64), fun μ ν => ⟨Eq.trans (show _ = some (_, μ) from rfl) (congrArg (fun z => some (z, μ)) (show _ = (0 : Int64) by dsimp only; decide)), Eq.trans (show _ = some (_, ν) from rfl) (congrArg (fun z => some (z, ν)) (show _ = (0 : Int64) by decide))⟩⟩
    · exact ⟨(1 : Int64), fun μ ν => ⟨Eq.trans (show _ = some (_, μ) from rfl) (congrArg (fun z => some (z, μ)) (show _ = (1 : Int64) by dsimp only; decide)), Eq.trans (show _ = some (_, ν) from rfl) (congrArg (fun z => some (z, ν)) (show _ = (1 : Int64) by decide))⟩⟩
  · rcases (show w = 0 ∨ w = 1 by omega) with rfl | rfl
    · exact ⟨(1 : Int64), fun μ ν => ⟨Eq.trans (show _ = some (_, μ) from rfl) (congrArg (fun z => some (z, μ)) (show _ = (1 : Int64) by dsimp only; decide)), Eq.trans (show _ = some (_, ν) from rfl) (congrArg (fun z => some (z, ν)) (show _ = (1 : Int64) by decide))⟩⟩
    · exact ⟨(10 : Int64), fun μ ν => ⟨Eq.trans (show _ = some (_, μ) from rfl) (congrArg (fun z => some (z, μ)) (show _ = (10 : Int64) by dsimp only; decide)), Eq.trans (show _ = some (_, ν) from rfl) (congrArg (fun z => some (z, ν)) (show _ = (10 : Int64) by decide))⟩⟩
  · rcases (show w = 0 ∨ w = 1 by omega) with rfl | rfl
    · exact ⟨(1 : Int64), fun μ ν => ⟨Eq.trans (show _ = some (_, μ) from rfl) (congrArg (fun z => some (z, μ)) (show _ = (1 : Int64) by dsimp only; decide)), Eq.trans (show _ = some (_, ν) from rfl) (congrArg (fun z => some (z, ν)) (show _ = (1 : Int64) by decide))⟩⟩
    · exact ⟨(5 : Int64), fun μ ν => ⟨Eq.trans (show _ = some (_, μ) from rfl) (congrArg (fun z => some (z, μ)) (show _ = (5 : Int64) by dsimp only; decide)), Eq.trans (show _ = some (_, ν) from rfl) (congrArg (fun z => some (z, ν)) (show _ = (5 : Int64) by decide))⟩⟩
  · rcases (show w = 0 ∨ w = 1 by omega) with rfl | rfl
    · exact ⟨(3 : Int64), fun μ ν => ⟨Eq.trans (show _ = some (_, μ) from rfl) (congrArg (fun z => some (z, μ)) (show _ = (3 : Int64) by dsimp only; decide)), Eq.trans (show _ = some (_, ν) from rfl) (congrArg (fun z => some (z, ν)) (show _ = (3 : Int64) by decide))⟩⟩
    · exact ⟨(10 : Int64), fun μ ν => ⟨Eq.trans (show _ = some (_, μ) from rfl) (congrArg (fun z => some (z, μ)) (show _ = (10 : Int64) by dsimp only; decide)), Eq.trans (show _ = some (_, ν) from rfl) (congrArg (fun z => some (z, ν)) (show _ = (10 : Int64) by decide))⟩⟩
  · rcases (show w = 0 ∨ w = 1 by omega) with rfl | rfl
    · exact ⟨(2 : Int64), fun μ ν => ⟨Eq.trans (show _ = some (_, μ) from rfl) (congrArg (fun z => some (z, μ)) (show _ = (2 : Int64) by dsimp only; decide)), Eq.trans (show _ = some (_, ν) from rfl) (congrArg (fun z => some (z, ν)) (show _ = (2 : Int64) by decide))⟩⟩
    · exact ⟨(5 : Int64), fun μ ν => ⟨Eq.trans (show _ = some (_, μ) from rfl) (congrArg (fun z => some (z, μ)) (show _ = (5 : Int64) by dsimp only; decide)), Eq.trans (show _ = some (_, ν) from rfl) (congrArg (fun z => some (z, ν)) (show _ = (5 : Int64) by decide))⟩⟩
  · rcases (show w = 0 ∨ w = 1 by omega) with rfl | rfl
    · exact ⟨(1 : Int64), fun μ ν => ⟨Eq.trans (show _ = some (_, μ) from rfl) (congrArg (fun z => some (z, μ)) (show _ = (1 : Int64) by dsimp only; decide)), Eq.trans (show _ = some (_, ν) from rfl) (congrArg (fun z => some (z, ν)) (show _ = (1 : Int64) by decide))⟩⟩
    · exact ⟨(2 : Int64), fun μ ν => ⟨Eq.trans (show _ = some (_, μ) from rfl) (congrArg (fun z => some (z, μ)) (show _ = (2 : Int64) by dsimp only; decide)), Eq.trans (show _ = some (_, ν) from rfl) (congrArg (fun z => some (z, ν)) (show _ = (2 : Int64) by decide))⟩⟩
  · rcases (show w = 0 ∨ w = 1 by omega) with rfl | rfl
    · exact ⟨(3 : Int64), fun μ ν => ⟨Eq.trans (show _ = some (_, μ) from rfl) (congrArg (fun z => some (z, μ)) (show _ = (3 : Int64) by dsimp only; decide)), Eq.trans (show _ = some (_, ν) from rfl) (congrArg (fun z => some (z, ν)) (show _ = (3 : Int64) by decide))⟩⟩
    · exact ⟨(5 : Int64), fun μ ν => ⟨Eq.trans (show _ = some (_, μ) from rfl) (congrArg (fun z => some (z, μ)) (show _ = (5 : Int64) by dsimp only; decide)), Eq.trans (show _ = some (_, ν) from rfl) (congrArg (fun z => some (z, ν)) (show _ = (5 : Int64) by decide))⟩⟩
  · rcases (show w = 0 ∨ w = 1 by omega) with rfl | rfl
    · exact ⟨(7 : Int64), fun μ ν => ⟨Eq.trans (show _ = some (_, μ) from rfl) (congrArg (fun z => some (z, μ)) (show _ = (7 : Int64) by dsimp only; decide)), Eq.trans (show _ = some (_, ν) from rfl) (congrArg (fun z => some (z, ν)) (show _ = (7 : Int64) by decide))⟩⟩
    · exact ⟨(10 : Int64), fun μ ν => ⟨Eq.trans (show _ = some (_, μ) from rfl) (congrArg (fun z => some (z, μ)) (show _ = (10 : Int64) by dsimp only; decide)), Eq.trans (show _ = some (_, ν) from rfl) (congrArg (fun z => some (z, ν)) (show _ = (10 : Int64) by decide))⟩⟩
  · rcases (show w = 0 ∨ w = 1 by omega) with rfl | rfl
    · exact ⟨(4 : Int64), fun μ ν => ⟨Eq.trans (show _ = some (_, μ) from rfl) (congrArg (fun z => some (z, μ)) (show _ = (4 : Int64) by dsimp only; decide)), Eq.trans (show _ = some (_, ν) from rfl) (congrArg (fun z => some (z, ν)) (show _ = (4 : Int64) by decide))⟩⟩
    · exact ⟨(5 : Int64), fun μ ν => ⟨Eq.trans (show _ = some (_, μ) from rfl) (congrArg (fun z => some (z, μ)) (show _ = (5 : Int64) by dsimp only; decide)), Eq.trans (show _ = some (_, ν) from rfl) (congrArg (fun z => some (z, ν)) (show _ = (5 : Int64) by decide))⟩⟩
  · rcases (show w = 0 ∨ w = 1 by omega) with rfl | rfl
    · exact ⟨(9 : Int64), fun μ ν => ⟨Eq.trans (show _ = some (_, μ) from rfl) (congrArg (fun z => some (z, μ)) (show _ = (9 : Int64) by dsimp only; decide)), Eq.trans (show _ = some (_, ν) from rfl) (congrArg (fun z => some (z, ν)) (show _ = (9 : Int64) by decide))⟩⟩
    · exact ⟨(10 : Int64), fun μ ν => ⟨Eq.trans (show _ = some (_, μ) from rfl) (congrArg (fun z => some (z, μ)) (show _ = (10 : Int64) by dsimp only; decide)), Eq.trans (show _ = some (_, ν) from rfl) (congrArg (fun z => some (z, ν)) (show _ = (10 : Int64) by decide))⟩⟩
  · rcases (show w = 0 ∨ w = 1 by omega) with rfl | rfl
    · exact ⟨(1 : Int64), fun μ ν => ⟨Eq.trans (show _ = some (_, μ) from rfl) (congrArg (fun z => some (z, μ)) (show _ = (1 : Int64) by dsimp only; decide)), Eq.trans (show _ = some (_, ν) from rfl) (congrArg (fun z => some (z, ν)) (show _ = (1 : Int64) by decide))⟩⟩
    · exact ⟨(1 : Int64), fun μ ν => ⟨Eq.trans (show _ = some (_, μ) from rfl) (congrArg (fun z => some (z, μ)) (show _ = (1 : Int64) by dsimp only; decide)), Eq.trans (show _ = some (_, ν) from rfl) (congrArg (fun z => some (z, ν)) (show _ = (1 : Int64) by decide))⟩⟩
theorem p_odds (a b v w : Int32) (h : RR μ ν) : p_ok (zf_N_odds a b v w μ) (zf_M_odds a b v w ν) := by
  obtain ⟨N, fm, pt, hA, hL, hT, hD, hS, hF⟩ := id h
  obtain ⟨s1, s2, s3, s4⟩ := id hA.1
  have out : ∀ x : Int32, (x < 0 ∨ nI N ≤ x) → zf_C_has 1 6 x μ = some (nI 0, μ) ∧ zf_M_noOne x ν = some (nI 1, ν) := fun x hx => hn_out (o := 1) (B := 6) (x := x) s1 s2 s3 hx
  have no : ∀ {F G}, zf_N_odds a b v w μ = F → zf_M_odds a b v w ν = G → F = some ((-9223372036854775808 : Int64), μ) → G = some ((-9223372036854775808 : Int64), ν) → p_ok (zf_N_odds a b v w μ) (zf_M_odds a b v w ν) := fun e1 e2 e3 e4 => ⟨_, μ, ν, e1.trans e3, e2.trans e4, h⟩
  have o1 : (a < 0 ∨ nI N ≤ a) → p_ok (zf_N_odds a b v w μ) (zf_M_odds a b v w ν) := fun e => by
    obtain ⟨g1, g2⟩ := out a e
    exact no rfl rfl (by unfold zf_N_odds; rw [g1]; rfl) (by unfold zf_M_odds; rw [g2]; rfl)
  rcases pk_ix a (n := N) (by omega) with e | e | ⟨c, hc, rfl⟩
  · exact o1 (Or.inl e)
  · exact o1 (Or.inr e)
  obtain ⟨g1, g2⟩ := hn_in (o := 1) (B := 6) s1 s2 s3 hc
  have o2 : (b < 0 ∨ nI N ≤ b) → p_ok (zf_N_odds (nI c) b v w μ) (zf_M_odds (nI c) b v w ν) := fun e => by
    obtain ⟨g3, g4⟩ := out b e
    exact no rfl rfl (by unfold zf_N_odds; rw [g1, u_bd, if_neg (by decide), g3]; rfl) (by unfold zf_M_odds; rw [g2, u_bd, if_pos (by decide), g4]; rfl)
  rcases pk_ix b (n := N) (by omega) with e | e | ⟨d, hd, rfl⟩
  · exact o2 (Or.inl e)
  · exact o2 (Or.inr e)
  obtain ⟨g3, g4⟩ := hn_in (o := 1) (B := 6) s1 s2 s3 hd
  obtain ⟨z1, z2, z3, -⟩ := s4 d hd
  have hd8 : d < 8 := by omega
  have eN : zf_N_odds (nI c) (nI d) v w μ = (if nI (fm d) = 0 then (if v < 0 then (zf_N_odds_b63 μ) else (if (102 : Int32) < v then (zf_N_odds_b63 μ) else (if w < 0 then (zf_N_odds_b63 μ) else (if w ≤ (1 : Int32) then nk_bd (zf_N_timesItComesTo (nI c) (nI d) v μ) (fun r4 m3 => nk_bd (zf_N_commonWithTen r4 m3) (fun r5 m4 => (if w = 0 then nk_Didiv r4 r5 (fun x7 => (zf_N_odds_b103 (x7.toInt64) m4)) else nk_Didiv (10 : Int32) r5 (fun x6 => (zf_N_odds_b103 (x6.toInt64) m4))))) else (zf_N_odds_b63 μ))))) else some ((-9223372036854775808 : Int64), μ)) := by
    unfold zf_N_odds
    rw [g1, u_bd, if_neg (by decide), g3, u_bd, if_neg (by decide), q_ald hd8 (by omega), show μ 8 d = nI (fm d) from z2]
  have eM : zf_M_odds (nI c) (nI d) v w ν = (if nI (fm d) = 0 then nk_bd (zf_M_in (v.toInt64) (0 : Int64) (102 : Int64) ν) (fun r4 m3 => (if r4 = 0 then (zf_M_odds_b48 m3) else nk_bd (zf_M_in (w.toInt64) (0 : Int64) (1 : Int64) m3) (fun r5 m4 => (if r5 = 0 then (zf_M_odds_b48 m4) else nk_bd (zf_M_keeps m4) (fun _ m5 => nk_ald m5 4 24 ((3 : Int32) * nI d) (fun x7 => (zf_M_odds_b72 nk_fu (nI c) (nI d) v w x7 (0 : Int32) (0 : Int32) m5))))))) else (zf_M_odds_b48 ν)) := by
    unfold zf_M_odds
    rw [g2, u_bd, if_pos (by decide), g4, u_bd, if_pos (by decide), q_ald hd8 (by omega), z3]
  by_cases f0 : fm d = 0
  · rw [if_pos (show nI (fm d) = 0 by rw [f0]; decide)] at eN eM
    by_cases ev : 0 ≤ v.toInt ∧ v.toInt ≤ 102
    · rw [if_neg (l_nxlt 0 ev.1 (by omega)), if_neg (show ¬ (102 : Int32) < v from fun z => by have := (q_klt (k := 102) (by omega)).mp z; omega)] at eN
      rw [r_inT (x := v) ν 0 102 (by decide) (by decide) ev, u_bd, if_neg (by decide)] at eM
      by_cases ew : 0 ≤ w.toInt ∧ w.toInt ≤ 1
      · rw [if_neg (l_nxlt 0 ew.1 (by omega)), if_pos (l_xle 1 ew.2 (by omega))] at eN
        rw [r_inT (x := w) ν 0 1 (by decide) (by decide) ew, u_bd, if_neg (by decide)] at eM
        obtain ⟨p, rfl, -, hp⟩ := q_of (a := 0) (b := 1) ew
        obtain ⟨μ1, ν1, t1, t2, t3, t4, t5, t6, t7⟩ := k_start hA hT hD
        obtain ⟨T, μ', ν', e0, e1, e2, e3, e4, e5⟩ := k_odds_b hc hd s1 f0 v (nI p) (ν1 4 (3 * d)) 10 nk_fu 0 0 pt μ1 ν1 (by omega) (by omega) (by show _ < 4096; omega) t3
        obtain ⟨ν3, b0, b1, b2⟩ := r_brings (nk_up ν' 4 (3 * d) (ν1 4 (3 * d)))
        obtain ⟨r, hr⟩ := q_share (t := T) (w := p) e0 hp
        obtain ⟨h1, h2⟩ := hr μ' ν3
        refine ⟨r, μ', ν3, ?_, ?_, RR_back h (fun k j h1 h2 => ?_) e5 t6 t7 (fun k j h1 h2 h3 => ?_) b1 b2⟩
        · rw [eN]
          unfold zf_N_timesItComesTo
          rw [t1, u_bd]
          refine Eq.trans (congrArg (fun z => nk_bd z _) e1) ?_
          exact h1
        · rw [eM, t2, u_bd, show (3 : Int32) * nI d = nI (3 * d) from q_mul 3 d, q_ald (by omega) (by omega)]
          refine Eq.trans e2 ?_
          rw [b0, u_bd, h2, u_bd]
        · rw [e3 k j (by omega) (by omega) (by omega) (by omega) (by omega) (by omega), t5 k j h1 h2]
        · by_cases e : k = 4 ∧ j = 3 * d
          · rw [e.1, e.2, q_upE]
          · rw [q_upO e, e4 k j e h2 (by omega)]
      · rw [r_inF (x := w) ν 0 1 (by decide) (by decide) ew, u_bd, if_pos (by decide)] at eM
        refine no eN eM ?_ rfl
        by_cases e2 : w.toInt < 0
        · rw [if_pos (l_xlt 0 e2 (by omega))]; rfl
        · rw [if_neg (l_nxlt 0 (by omega) (by omega)), if_neg (l_nxle 1 (by omega) (by omega))]; rfl
    · rw [r_inF (x := v) ν 0 102 (by decide) (by decide) ev, u_bd, if_pos (by decide)] at eM
      refine no eN eM ?_ rfl
      by_cases e2 : v.toInt < 0
      · rw [if_pos (l_xlt 0 e2 (by omega))]; rfl
      · rw [if_neg (l_nxlt 0 (by omega) (by omega)), if_pos (show (102 : Int32) < v from (q_klt (k := 102) (by omega)).mpr (by omega))]; rfl
  · rw [if_neg (l_ne 0 f0 (by omega) (by omega))] at eN eM
    exact no eN eM rfl rfl
end KP

/-! ===== 27: need: sums, products, choices, parts of pairs; the whole recursion ===== -/
section JC
variable {K : Bool} {o B N n d c : Nat} {fm : Nat → Nat} {pt : Nat → Nat → Nat} {μ ν : nk_M} {wk : Nat}
/-- the first part of c is needed, and come to -/
theorem jb_first (ho : o < B) (IH : j_T K o B N fm pt n (d + 1)) (hd8 : d < 8) (hs : j_st o B N fm pt μ ν) (hd : j_dy K o B N (d + 1) fm pt μ ν) (hc : c < N) (h13 : ν 13 d = nI c) (h14 : ν 14 d = nI 0) (hw : K = false → ν 0 30 = nI 0 ∧ μ o 11 = nI wk ∧ wk + 2 ^ (8 - d) ≤ 257) (hl : μ (B + 6) c = -nI 9) (hf0 : fm c ≠ 0) (hf4 : fm c ≠ 4) :
    ∃ (v : Nat) (μ1 ν2 : nk_M) (k : Nat), v ≤ 102 ∧ zf_C_comeToN o B n (nI (pt c 0)) (nI (d + 1 + 1)) μ = some (nI v, μ1) ∧ j_it (k + 1) ν ν2 ∧ k + 3 ≤ 3 * 2 ^ (8 - (d + 1)) ∧ j_fC K o B μ μ1 ∧ j_fR K ν ν2 ∧
      ((K = true ∨ v ≠ 101) → j_st o B N fm pt μ1 ν2 ∧ j_dy K o B N (d + 1) fm pt μ1 ν2 ∧ ν2 0 21 = nI v ∧ (v = 100 → j_pr o B N (pt c 0) fm pt μ1 ν2) ∧ j_lo d ν ν2 ∧ ν2 13 d = nI c ∧ ν2 14 d = nI 1 ∧ j_go ν2 ∧ r_nl c ν2 ∧ (K = false → ν2 0 30 = nI 0 ∧ ∃ wk', μ1 o 11 = nI wk' ∧ wk' + 1 ≤ wk + 2 ^ (8 - (d + 1)))) ∧ (K = false → v = 101 → ν2 0 30 = nI 1) := by
  have hN : N ≤ 8 := hs.1
  obtain ⟨hP1, hP2⟩ := j_pow hd8
  obtain ⟨f1, f2⟩ := j_up14 K ν d (nI 1)
  obtain ⟨s1, s2, s3, -, -, -, s7⟩ := hs.2.2.2 c hc
  obtain ⟨p1, p2, -, p4⟩ := s7 0 (by have := q_np3 (fm c); omega)
  have hp := p4 hf0
  have h17 := hd.2.2.2.2.1.2.1
  have hd' : j_dy K o B N (d + 1) fm pt μ (nk_up ν 14 d (nI 1)) := j_dy_cong (fun k j k1 k2 k3 => q_upN k1) hd
  obtain ⟨v, μ1, ν1, ν2, k, hv, e1, e2, e3, e4, e5, e6, e7, e8⟩ := IH (pt c 0) μ (nk_up ν 14 d (nI 1)) wk (j_st_f ho j_fC_rf f1 hs) hd' hp (fun hK => ⟨by rw [q_upN (by omega)]; exact (hw hK).1, (hw hK).2.1, by have := (hw hK).2.2; omega⟩)
  refine ⟨v, μ1, ν2, k, hv, e1, ⟨j_go_of hd (fun hK => ⟨(hw hK).1, wk, (hw hK).2.1, by have := (hw hK).2.2; omega⟩), ν1, g_first (by omega) hd8 h17 h13 h14 s3 s1 hf0 hf4 (j_nl hd hc hl) p2 e2, e3⟩, e4, e5, j_fR_tr f1 e6, fun hn => ?_, e8⟩
  obtain ⟨n1, n2, n3, n4, n5⟩ := e7 hn
  have t13 : ν2 13 d = nI c := by rw [(n4 d (by omega)).1, q_upN (by omega)]; exact h13
  have t14 : ν2 14 d = nI 1 := by rw [(n4 d (by omega)).2.1, q_upE]
  have hl1 : μ1 (B + 6) c = -nI 9 := by rw [e5.1 (B + 6) c (by omega) (by omega) (by omega) (by omega)]; exact hl
  refine ⟨j_st_f ho e5 (j_fR_tr f1 e6) hs, n1, n2, n3, j_lo_tr f2 (j_lo_le n4 (by omega)), t13, t14, j_go_of n1 (fun hK => ?_), j_nl n1 hc hl1, fun hK => n5 hK⟩
  obtain ⟨x1, wk', x2, x3⟩ := n5 hK
  exact ⟨x1, wk', x2, by have := (hw hK).2.2; omega⟩
theorem jb_both (ho : o < B) (IH : j_T K o B N fm pt n (d + 1)) (hd8 : d < 8) (hs : j_st o B N fm pt μ ν) (hd : j_dy K o B N (d + 1) fm pt μ ν) (hc : c < N) (h13 : ν 13 d = nI c) (h14 : ν 14 d = nI 0) (hw : K = false → ν 0 30 = nI 0 ∧ μ o 11 = nI wk ∧ wk + 2 ^ (8 - d) ≤ 257) (hl : μ (B + 6) c = -nI 9) (hf : fm c = 1 ∨ fm c = 2) : j_B K o B N fm pt n d c μ ν wk := by
  have hN : N ≤ 8 := hs.1
  obtain ⟨hP1, hP2⟩ := j_pow hd8
  obtain ⟨s1, s2, s3, -, -, -, s7⟩ := hs.2.2.2 c hc
  have hnp : q_np (fm c) = 2 := by rcases hf with e | e <;> rw [e] <;> rfl
  obtain ⟨p1, -, -, -⟩ := s7 0 (by omega)
  obtain ⟨v1, μ1, ν2, k1, hv1, a1, a2, a3, a4, a5, a6, a7⟩ := jb_first ho IH hd8 hs hd hc h13 h14 hw hl (by omega) (by omega)
  have hcw := c_work12 (o := o) (B := B) (rc := zf_C_comeToN o B n) (a := d + 1) (μ := μ) (show c < 8 by omega) hl s2 hf
  by_cases hv : 100 ≤ v1
  · -- the first part is no number
    have hq := c_bothA (o := o) (B := B) (rc := zf_C_comeToN o B n) (a := d + 1) (show c < 8 by omega) s2 hf p1 hv1 a1 hv
    refine ⟨q_wn v1, μ1, by unfold q_wn; split <;> omega, by rw [hcw]; exact hq, a4, fun hn => ?_, fun hK h101 => ?_⟩
    · have hn1 : K = true ∨ v1 ≠ 101 := by
        rcases hn with h | h
        · exact Or.inl h
        · exact Or.inr (fun e => h (by subst e; rfl))
      obtain ⟨b1, b2, b3, b4, b5, b6, b7, b8, b9, b10⟩ := a6 hn1
      obtain ⟨-, -, r3, -⟩ := b1.2.2.2 c hc
      refine ⟨k1 + 1, ν2, ν2, by omega, a2, b8, fun ν7 h7 => ?_, b2, b6, fun h => ?_, a5, b5, fun hK => ?_⟩
      · by_cases e : v1 = 100
        · subst e
          exact g_hfWrong (by omega) hd8 b2.2.2.2.2.1.2.1 b6 b7 r3 s1 b9 (by omega) b3 (Or.inl ⟨rfl, by omega⟩) h7
        · have e' : q_wn v1 = v1 := by unfold q_wn; rw [if_neg e]
          rw [e'] at h7
          exact g_hfBad (by omega) hd8 b2.2.2.2.2.1.2.1 b6 b7 r3 b3 (by omega) h7
      · exfalso
        unfold q_wn at h
        split at h <;> omega
      · obtain ⟨x1, wk', x2, x3⟩ := b10 hK
        exact ⟨x1, wk', x2, by omega⟩
    · have h1 : v1 = 101 := by unfold q_wn at h101; split at h101 <;> omega
      exact ⟨k1 + 1, ν2, by omega, a2, a7 hK h1, a5⟩
  · have hn1 : K = true ∨ v1 ≠ 101 := Or.inr (by omega)
    obtain ⟨b1, b2, b3, b4, b5, b6, b7, b8, b9, b10⟩ := a6 hn1
    obtain ⟨-, r2, r3, -, -, -, r7⟩ := b1.2.2.2 c hc
    obtain ⟨u1, u2, -, u4⟩ := r7 1 (by omega)
    have hp1 := u4 (by omega)
    -- the second part
    have hr : ∀ k j, k ≠ 14 → k ≠ 15 → (nk_up (nk_up ν2 15 d (nI v1)) 14 d (nI 2)) k j = ν2 k j := fun k j k1 k2 => by rw [q_upN k1, q_upN k2]
    have hfr : j_fR K ν2 (nk_up (nk_up ν2 15 d (nI v1)) 14 d (nI 2)) := ⟨fun k j _ _ _ _ k5 k6 _ _ => hr k j k5 k6, fun _ k j hk => hr k j (by omega) (by omega)⟩
    have hlo2 : j_lo d ν2 (nk_up (nk_up ν2 15 d (nI v1)) 14 d (nI 2)) := fun i hi => ⟨hr 13 i (by omega) (by omega), by rw [q_upM (by omega), q_upN (by omega)], by rw [q_upN (by omega), q_upM (by omega)]⟩
    obtain ⟨wk1, hwk1⟩ : ∃ wk1, K = false → ν2 0 30 = nI 0 ∧ μ1 o 11 = nI wk1 ∧ wk1 + 1 ≤ wk + 2 ^ (8 - (d + 1)) := by
      cases hK : K
      · obtain ⟨x1, w1, x2, x3⟩ := b10 hK
        exact ⟨w1, fun _ => ⟨x1, x2, x3⟩⟩
      · exact ⟨0, fun h => by cases h⟩
    obtain ⟨v2, μ2, ν4, ν5, k2, hv2, c1, c2, c3, c4, c5, c6, c7, c8⟩ := IH (pt c 1) μ1 (nk_up (nk_up ν2 15 d (nI v1)) 14 d (nI 2)) wk1 (j_st_f ho j_fC_rf hfr b1) (j_dy_cong (fun k j x1 x2 _ => hr k j x1 x2) b2) hp1 (fun hK => ⟨by rw [hr 0 30 (by omega) (by omega)]; exact (hwk1 hK).1, (hwk1 hK).2.1, by have := (hwk1 hK).2.2; have := (hw hK).2.2; omega⟩)
    have hgo2 := g_hf2 (show c < 8 by omega) hd8 b2.2.2.2.2.1.2.1 b6 b7 r3 hf b9 (show v1 < 100 by omega) b3 u2 c2
    have hit2 : j_it (k1 + 1 + 1 + k2) ν ν5 := j_it_add (j_it_add a2 (l := 1) ⟨b8, ν4, hgo2, rfl⟩) c3
    by_cases hvv : 100 ≤ v2
    · have hq := c_bothB (o := o) (B := B) (rc := zf_C_comeToN o B n) (a := d + 1) (show c < 8 by omega) s2 hf p1 a1 (by omega) r2 u1 hv2 c1 hvv
      refine ⟨q_wn v2, μ2, by unfold q_wn; split <;> omega, by rw [hcw]; exact hq, j_fC_tr a4 c5, fun hn => ?_, fun hK h101 => ?_⟩
      · have hn2 : K = true ∨ v2 ≠ 101 := by
          rcases hn with h | h
          · exact Or.inl h
          · exact Or.inr (fun e => h (by subst e; rfl))
        obtain ⟨m1, m2, m3, m4, m5⟩ := c7 hn2
        have t13 : ν5 13 d = nI c := by rw [(m4 d (by omega)).1, hr 13 d (by omega) (by omega)]; exact b6
        have t14 : ν5 14 d = nI 2 := by rw [(m4 d (by omega)).2.1, q_upE]
        refine ⟨k1 + 1 + 1 + k2, ν5, ν5, by omega, hit2, j_go_of m1 (fun hK => ?_), fun ν7 h7 => g_hsBad (by omega) hd8 m1.2.2.2.2.1.2.1 t13 t14 hv2 m2 hvv h7, m1, t13, fun h => ?_, j_fR_tr a5 (j_fR_tr hfr c6), j_lo_tr b5 (j_lo_tr hlo2 (j_lo_le m4 (by omega))), fun hK => ?_⟩
        · obtain ⟨x1, w', x2, x3⟩ := m5 hK
          exact ⟨x1, w', x2, by have := (hwk1 hK).2.2; have := (hw hK).2.2; omega⟩
        · exfalso
          unfold q_wn at h
          split at h <;> omega
        · obtain ⟨x1, w', x2, x3⟩ := m5 hK
          exact ⟨x1, w', x2, by have := (hwk1 hK).2.2; omega⟩
      · have h1 : v2 = 101 := by unfold q_wn at h101; split at h101 <;> omega
        exact ⟨k1 + 1 + 1 + k2, ν5, by omega, hit2, c8 hK h1, j_fR_tr a5 (j_fR_tr hfr c6)⟩
    · obtain ⟨m1, m2, m3, m4, m5⟩ := c7 (Or.inr (by omega))
      have hst2 := j_st_f ho c5 (j_fR_tr hfr c6) b1
      obtain ⟨-, y2, y3, -⟩ := hst2.2.2.2 c hc
      have hq := c_bothC (o := o) (B := B) (rc := zf_C_comeToN o B n) (a := d + 1) (show c < 8 by omega) s2 hf p1 a1 (by omega) r2 u1 c1 (by omega) y2
      have t13 : ν5 13 d = nI c := by rw [(m4 d (by omega)).1, hr 13 d (by omega) (by omega)]; exact b6
      have t14 : ν5 14 d = nI 2 := by rw [(m4 d (by omega)).2.1, q_upE]
      have t15 : ν5 15 d = nI v1 := by rw [(m4 d (by omega)).2.2, q_upN (by omega), q_upE]
      have h99 : (if fm c = 1 then v1 + v2 else v1 * v2) % 100 < 100 := Nat.mod_lt _ (by omega)
      refine ⟨(if fm c = 1 then v1 + v2 else v1 * v2) % 100, μ2, by omega, by rw [hcw]; exact hq, j_fC_tr a4 c5, fun hn => ⟨k1 + 1 + 1 + k2, ν5, ν5, by omega, hit2, j_go_of m1 (fun hK => ?_), fun ν7 h7 => g_hs (by omega) hd8 m1.2.2.2.2.1.2.1 t13 t14 y3 hf (by omega) m2 (by omega) t15 h7, m1, t13, fun h => ?_, j_fR_tr a5 (j_fR_tr hfr c6), j_lo_tr b5 (j_lo_tr hlo2 (j_lo_le m4 (by omega))), fun hK => ?_⟩, fun hK h101 => ?_⟩
      · obtain ⟨x1, w', x2, x3⟩ := m5 hK
        exact ⟨x1, w', x2, by have := (hwk1 hK).2.2; have := (hw hK).2.2; omega⟩
      · exfalso; omega
      · obtain ⟨x1, w', x2, x3⟩ := m5 hK
        exact ⟨x1, w', x2, by have := (hwk1 hK).2.2; omega⟩
      · exfalso; omega
/-- behind its first part c passes on what p comes to -/
theorem jb_then {k1 v1 wa p : Nat} {μ1 ν2 : nk_M} (ho : o < B) (IH : j_T K o B N fm pt n (d + 1)) (hd8 : d < 8) (hc : c < N) (hwk : K = false → wk + 2 ^ (8 - d) ≤ 257) (a2 : j_it (k1 + 1) ν ν2) (a3 : k1 + 3 ≤ 3 * 2 ^ (8 - (d + 1))) (a4 : j_fC K o B μ μ1) (a5 : j_fR K ν ν2) (b1 : j_st o B N fm pt μ1 ν2) (b2 : j_dy K o B N (d + 1) fm pt μ1 ν2) (b5 : j_lo d ν ν2) (b6 : ν2 13 d = nI c) (b8 : j_go ν2)
    (hwa : K = false → ν2 0 30 = nI 0 ∧ μ1 o 11 = nI wa ∧ wa + 1 ≤ wk + 2 ^ (8 - (d + 1))) (hp : p < N) (hstep : ∀ ν1, zf_M_wants (nI p) (nk_up ν2 14 d (nI 3)) = some ((), ν1) → zf_M_goesOn ν2 = some ((), ν1))
    (hcl : zf_C_workOut o B (zf_C_comeToN o B n) (nI c) (nI (d + 1)) μ = zf_C_passOn o B (zf_C_comeToN o B n) (nI c) (nI p) (nI (d + 1)) μ1) : j_B K o B N fm pt n d c μ ν wk := by
  have hN : N ≤ 8 := b1.1
  obtain ⟨hP1, hP2⟩ := j_pow hd8
  obtain ⟨f1, f2⟩ := j_up14 K ν2 d (nI 3)
  refine jb_pass (p := p) (ks := k1 + 1) (wa := wa) (μa := μ1) (νa := nk_up ν2 14 d (nI 3)) (νs := ν2) ho IH hd8 hc (j_st_f ho j_fC_rf f1 b1) (j_dy_cong (fun k j x1 x2 x3 => q_upN x1) b2) hp (by rw [q_upN (by omega)]; exact b6) (fun hK => ⟨by rw [q_upN (by omega)]; exact (hwa hK).1, (hwa hK).2.1, by have := (hwa hK).2.2; have := hwk hK; omega, by have := (hwa hK).2.2; omega⟩) a2 b8 hstep hcl a4 (j_fR_tr a5 f1) (j_lo_tr b5 f2) (by omega) (fun v ν6 ν7 v1 v2 v3 v4 v5 v6 v7 => ?_)
  exact g_3 (by omega) hd8 v2 v3 (by rw [v4, q_upE]) v5 v7
theorem jb_choice (ho : o < B) (IH : j_T K o B N fm pt n (d + 1)) (hd8 : d < 8) (hs : j_st o B N fm pt μ ν) (hd : j_dy K o B N (d + 1) fm pt μ ν) (hc : c < N) (h13 : ν 13 d = nI c) (h14 : ν 14 d = nI 0) (hw : K = false → ν 0 30 = nI 0 ∧ μ o 11 = nI wk ∧ wk + 2 ^ (8 - d) ≤ 257) (hl : μ (B + 6) c = -nI 9) (hf : fm c = 3) : j_B K o B N fm pt n d c μ ν wk := by
  have hN : N ≤ 8 := hs.1
  obtain ⟨hP1, hP2⟩ := j_pow hd8
  obtain ⟨s1, s2, s3, -, -, -, s7⟩ := hs.2.2.2 c hc
  have hnp : q_np (fm c) = 3 := by rw [hf]; rfl
  obtain ⟨p1, -, -, -⟩ := s7 0 (by omega)
  obtain ⟨v1, μ1, ν2, k1, hv1, a1, a2, a3, a4, a5, a6, a7⟩ := jb_first ho IH hd8 hs hd hc h13 h14 hw hl (by omega) (by omega)
  rw [hf] at s2
  have hcw := c_work3 (o := o) (B := B) (rc := zf_C_comeToN o B n) (a := d + 1) (μ := μ) (show c < 8 by omega) hl s2
  by_cases hv : 100 ≤ v1
  · have hq := c_choiceA (o := o) (B := B) (rc := zf_C_comeToN o B n) (a := d + 1) (show c < 8 by omega) s2 p1 hv1 a1 hv
    refine ⟨q_wn v1, μ1, by unfold q_wn; split <;> omega, by rw [hcw]; exact hq, a4, fun hn => ?_, fun hK h101 => ?_⟩
    · have hn1 : K = true ∨ v1 ≠ 101 := by
        rcases hn with h | h
        · exact Or.inl h
        · exact Or.inr (fun e => h (by subst e; rfl))
      obtain ⟨b1, b2, b3, b4, b5, b6, b7, b8, b9, b10⟩ := a6 hn1
      obtain ⟨-, -, r3, -⟩ := b1.2.2.2 c hc
      refine ⟨k1 + 1, ν2, ν2, by omega, a2, b8, fun ν7 h7 => ?_, b2, b6, fun h => ?_, a5, b5, fun hK => ?_⟩
      · by_cases e : v1 = 100
        · subst e
          exact g_hfWrong (by omega) hd8 b2.2.2.2.2.1.2.1 b6 b7 r3 s1 b9 (by omega) b3 (Or.inl ⟨rfl, by omega⟩) h7
        · have e' : q_wn v1 = v1 := by unfold q_wn; rw [if_neg e]
          rw [e'] at h7
          exact g_hfBad (by omega) hd8 b2.2.2.2.2.1.2.1 b6 b7 r3 b3 (by omega) h7
      · exfalso
        unfold q_wn at h
        split at h <;> omega
      · obtain ⟨x1, wk', x2, x3⟩ := b10 hK
        exact ⟨x1, wk', x2, by omega⟩
    · have h1 : v1 = 101 := by unfold q_wn at h101; split at h101 <;> omega
      exact ⟨k1 + 1, ν2, by omega, a2, a7 hK h1, a5⟩
  · obtain ⟨b1, b2, b3, b4, b5, b6, b7, b8, b9, b10⟩ := a6 (Or.inr (by omega))
    obtain ⟨-, r2, r3, -, -, -, r7⟩ := b1.2.2.2 c hc
    have hi : (if v1 = 0 then 2 else 1) < q_np (fm c) := by split <;> omega
    obtain ⟨u1, u2, -, u4⟩ := r7 (if v1 = 0 then 2 else 1) hi
    have hp1 := u4 (by omega)
    obtain ⟨wk1, hwk1⟩ : ∃ wk1, K = false → ν2 0 30 = nI 0 ∧ μ1 o 11 = nI wk1 ∧ wk1 + 1 ≤ wk + 2 ^ (8 - (d + 1)) := by
      cases hK : K
      · obtain ⟨x1, w1, x2, x3⟩ := b10 hK
        exact ⟨w1, fun _ => ⟨x1, x2, x3⟩⟩
      · exact ⟨0, fun h => by cases h⟩
    rw [hf] at r2 r3
    refine jb_then (v1 := v1) ho IH hd8 hc (fun hK => (hw hK).2.2) a2 a3 a4 a5 b1 b2 b5 b6 b8 hwk1 hp1 (fun ν1 h1 => g_hf3 (by omega) hd8 b2.2.2.2.2.1.2.1 b6 b7 r3 b9 (by omega) b3 u2 h1) ?_
    rw [hcw]
    exact c_choiceB (show c < 8 by omega) s2 p1 a1 (by omega) r2 u1
theorem jb_of (ho : o < B) (IH : j_T K o B N fm pt n (d + 1)) (hd8 : d < 8) (hs : j_st o B N fm pt μ ν) (hd : j_dy K o B N (d + 1) fm pt μ ν) (hc : c < N) (h13 : ν 13 d = nI c) (h14 : ν 14 d = nI 0) (hw : K = false → ν 0 30 = nI 0 ∧ μ o 11 = nI wk ∧ wk + 2 ^ (8 - d) ≤ 257) (hl : μ (B + 6) c = -nI 9) (hf : fm c = 5 ∨ fm c = 6) : j_B K o B N fm pt n d c μ ν wk := by
  have hN : N ≤ 8 := hs.1
  obtain ⟨hP1, hP2⟩ := j_pow hd8
  obtain ⟨s1, s2, s3, -, -, -, s7⟩ := hs.2.2.2 c hc
  obtain ⟨p1, -, -, p4⟩ := s7 0 (by have := q_np3 (fm c); omega)
  have hp0 := p4 (by omega)
  obtain ⟨v1, μ1, ν2, k1, hv1, a1, a2, a3, a4, a5, a6, a7⟩ := jb_first ho IH hd8 hs hd hc h13 h14 hw hl (by omega) (by omega)
  have hcw := c_work56 (o := o) (B := B) (rc := zf_C_comeToN o B n) (a := d + 1) (μ := μ) (show c < 8 by omega) hl s2 hf
  by_cases hv : v1 = 100
  · subst hv
    obtain ⟨b1, b2, b3, b4, b5, b6, b7, b8, b9, b10⟩ := a6 (Or.inr (by omega))
    obtain ⟨-, r2, r3, -⟩ := b1.2.2.2 c hc
    obtain ⟨q, q1, q2, q3, q4, q5⟩ := b4 rfl
    obtain ⟨-, -, -, -, -, -, y7⟩ := b1.2.2.2 q q1
    have hi : (if fm c = 5 then 0 else 1) < q_np (fm q) := by rw [q3, show q_np 4 = 2 from rfl]; split <;> omega
    obtain ⟨u1, u2, -, u4⟩ := y7 (if fm c = 5 then 0 else 1) hi
    have hp1 := u4 (by omega)
    obtain ⟨wk1, hwk1⟩ : ∃ wk1, K = false → ν2 0 30 = nI 0 ∧ μ1 o 11 = nI wk1 ∧ wk1 + 1 ≤ wk + 2 ^ (8 - (d + 1)) := by
      cases hK : K
      · obtain ⟨x1, w1, x2, x3⟩ := b10 hK
        exact ⟨w1, fun _ => ⟨x1, x2, x3⟩⟩
      · exact ⟨0, fun h => by cases h⟩
    refine jb_then (v1 := 100) ho IH hd8 hc (fun hK => (hw hK).2.2) a2 a3 a4 a5 b1 b2 b5 b6 b8 hwk1 hp1 (fun ν1 h1 => g_hf56 (by omega) hd8 b2.2.2.2.2.1.2.1 b6 b7 r3 hf b9 b3 ?_ h1) ?_
    · rcases hf with e | e
      · simp only [e, if_true]; exact q4
      · rw [e, if_neg (by decide), if_neg (by decide)]; exact q5
    · rw [hcw]
      exact c_ofB (show c < 8 by omega) s2 hf p1 (by omega) a1 r2 (by omega) q2 u1
  · have hq := c_ofA (o := o) (B := B) (rc := zf_C_comeToN o B n) (a := d + 1) (show c < 8 by omega) s2 hf p1 hv1 a1 hv
    refine ⟨if v1 < 100 then 102 else v1, μ1, by split <;> omega, by rw [hcw]; exact hq, a4, fun hn => ?_, fun hK h101 => ?_⟩
    · have hn1 : K = true ∨ v1 ≠ 101 := by
        rcases hn with h | h
        · exact Or.inl h
        · exact Or.inr (fun e => h (by subst e; rfl))
      obtain ⟨b1, b2, b3, b4, b5, b6, b7, b8, b9, b10⟩ := a6 hn1
      obtain ⟨-, -, r3, -⟩ := b1.2.2.2 c hc
      refine ⟨k1 + 1, ν2, ν2, by omega, a2, b8, fun ν7 h7 => ?_, b2, b6, fun h => ?_, a5, b5, fun hK => ?_⟩
      · by_cases e : v1 < 100
        · rw [if_pos e] at h7
          exact g_hfWrong (by omega) hd8 b2.2.2.2.2.1.2.1 b6 b7 r3 s1 b9 (by omega) b3 (Or.inr ⟨e, by omega⟩) h7
        · rw [if_neg e] at h7
          exact g_hfBad (by omega) hd8 b2.2.2.2.2.1.2.1 b6 b7 r3 b3 (by omega) h7
      · exfalso
        split at h <;> omega
      · obtain ⟨x1, wk', x2, x3⟩ := b10 hK
        exact ⟨x1, wk', x2, by omega⟩
    · have h1 : v1 = 101 := by split at h101 <;> omega
      exact ⟨k1 + 1, ν2, by omega, a2, a7 hK h1, a5⟩
/-- working c out, whatever it is -/
theorem jb_all (ho : o < B) (IH : j_T K o B N fm pt n (d + 1)) (hd8 : d < 8) (hs : j_st o B N fm pt μ ν) (hd : j_dy K o B N (d + 1) fm pt μ ν) (hc : c < N) (h13 : ν 13 d = nI c) (h14 : ν 14 d = nI 0) (hw : K = false → ν 0 30 = nI 0 ∧ μ o 11 = nI wk ∧ wk + 2 ^ (8 - d) ≤ 257) : j_B K o B N fm pt n d c μ ν wk := by
  obtain ⟨s1, -⟩ := hs.2.2.2 c hc
  rcases (hd.2.2.1 c hc).1 with hl | ⟨j, hj, hl⟩
  · rcases (show fm c = 0 ∨ (fm c = 1 ∨ fm c = 2) ∨ fm c = 3 ∨ fm c = 4 ∨ (fm c = 5 ∨ fm c = 6) by omega) with h | h | h | h | h
    · exact jb_num ho hd8 hs hd hc h13 h14 hw hl h
    · exact jb_both ho IH hd8 hs hd hc h13 h14 hw hl h
    · exact jb_choice ho IH hd8 hs hd hc h13 h14 hw hl h
    · exact jb_pair ho hd8 hs hd hc h13 h14 hw hl h
    · exact jb_of ho IH hd8 hs hd hc h13 h14 hw hl h
  · exact jb_link ho IH hd8 hs hd hc h13 h14 hw hj hl
end JC

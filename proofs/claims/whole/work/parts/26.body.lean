/-! ===== 26: need: working a cell out, form by form ===== -/
section JB
variable {K : Bool} {o B N n d c : Nat} {fm : Nat → Nat} {pt : Nat → Nat → Nat} {μ ν : nk_M} {wk : Nat}
theorem j_top (h : j_dy K o B N (d + 1) fm pt μ ν) (hN : N ≤ 8) (hc : c < N) (h13 : ν 13 d = nI c) : μ (B + 7) c = nI 1 ∧ μ (B + 4) c = -nI 9 := by
  obtain ⟨-, -, -, -, ⟨-, -, a7, -⟩, a8, -⟩ := h
  have hb1 : μ (B + 7) c = nI 1 := by
    obtain ⟨c', h', e1, e2⟩ := a7 d (by omega)
    rw [h13] at e1
    have := (q_eq (by omega) (by omega)).mp e1
    subst this
    exact e2
  refine ⟨hb1, ?_⟩
  rcases a8 c hc with e | ⟨-, e, -⟩
  · rw [hb1] at e; exact (q_10.mp e).elim
  · exact e
theorem j_nl (h : j_dy K o B N d fm pt μ ν) (hc : c < N) (hl : μ (B + 6) c = -nI 9) : r_nl c ν := by
  obtain ⟨a1, -, a3, -⟩ := h
  cases K
  · exact Or.inl a1.1
  · exact Or.inr ⟨a1.1, by rw [(a3 c hc).2.1 rfl]; exact hl⟩
theorem j_pow (h : d < 8) : 2 ^ (8 - d) = 2 * 2 ^ (8 - (d + 1)) ∧ 1 ≤ 2 ^ (8 - (d + 1)) := by
  refine ⟨?_, Nat.one_le_two_pow⟩
  rw [show 8 - d = (8 - (d + 1)) + 1 by omega, Nat.pow_succ]
  omega
theorem j_up14 (K : Bool) (ν : nk_M) (d : Nat) (x : Int32) : j_fR K ν (nk_up ν 14 d x) ∧ j_lo d ν (nk_up ν 14 d x) := by
  refine ⟨⟨fun k j _ _ _ _ e _ _ _ => q_upN e, fun _ k j hk => q_upN (by omega)⟩, fun i hi => ⟨q_upN (by omega), q_upM (by omega), q_upN (by omega)⟩⟩
/-- c passes on what p comes to -/
theorem jb_pass {p ks wa : Nat} {μa νa νs : nk_M} (ho : o < B) (IH : j_T K o B N fm pt n (d + 1)) (hd8 : d < 8) (hc : c < N) (hsa : j_st o B N fm pt μa νa) (hda : j_dy K o B N (d + 1) fm pt μa νa) (hp : p < N) (ha13 : νa 13 d = nI c)
    (hwa : K = false → νa 0 30 = nI 0 ∧ μa o 11 = nI wa ∧ wa + 2 ^ (8 - (d + 1)) ≤ 256 ∧ wa + 2 ^ (8 - (d + 1)) + 1 ≤ wk + 2 ^ (8 - d)) (hit : j_it ks ν νs) (hgo : j_go νs) (hstep : ∀ ν1, zf_M_wants (nI p) νa = some ((), ν1) → zf_M_goesOn νs = some ((), ν1))
    (hcl : zf_C_workOut o B (zf_C_comeToN o B n) (nI c) (nI (d + 1)) μ = zf_C_passOn o B (zf_C_comeToN o B n) (nI c) (nI p) (nI (d + 1)) μa) (hC : j_fC K o B μ μa) (hRa : j_fR K ν νa) (hloa : j_lo d ν νa) (hk : ks + 3 * 2 ^ (8 - (d + 1)) + 2 ≤ 3 * 2 ^ (8 - d))
    (hfin : ∀ (v : Nat) (ν6 ν7 : nk_M), v ≤ 102 → ν6 0 17 = nI (d + 1) → ν6 13 d = nI c → ν6 14 d = νa 14 d → ν6 0 21 = nI v → j_fR K νa ν6 → zf_M_isDone (nI v) ν6 = some ((), ν7) → zf_M_goesOn ν6 = some ((), ν7)) : j_B K o B N fm pt n d c μ ν wk := by
  have hN : N ≤ 8 := hsa.1
  obtain ⟨v, μ2, ν1, ν2, k, hv, e1, e2, e3, e4, e5, e6, e7, e8⟩ := IH p μa νa wa hsa hda hp (fun hK => ⟨(hwa hK).1, (hwa hK).2.1, (hwa hK).2.2.1⟩)
  have hw := c_passOn (o := o) (B := B) (c := c) (j := p) (a := d + 1) (by omega) (by omega) hv e1
  rw [← hcl] at hw
  refine ⟨v, _, hv, hw, ?_, fun hn => ?_, fun hK h101 => ?_⟩
  · have h1 : j_fC K o B μ μ2 := j_fC_tr hC e5
    by_cases e : v = 100
    · rw [if_pos e]
      exact ⟨fun k j k1 k2 k3 k4 => by rw [q_upN k2]; exact h1.1 k j k1 k2 k3 k4, fun hK j => by rw [q_upN (by omega)]; exact h1.2.1 hK j, by rw [q_upN (by omega), q_upN (by omega)]; exact h1.2.2⟩
    · rw [if_neg e]; exact h1
  · obtain ⟨n1, n2, n3, n4, n5⟩ := e7 hn
    have t13 : ν2 13 d = nI c := by rw [(n4 d (by omega)).1]; exact ha13
    obtain ⟨-, t4⟩ := j_top n1 hN hc t13
    have g2 : j_go ν2 := j_go_of n1 (fun hK => by
      obtain ⟨x1, wk', x2, x3⟩ := n5 hK
      exact ⟨x1, wk', x2, by have := (hwa hK).2.2.1; omega⟩)
    refine ⟨ks + 1 + k, ν2, ν2, by omega, j_it_add (j_it_add hit (l := 1) ⟨hgo, ν1, hstep ν1 e2, rfl⟩) e3, g2, fun ν7 h7 => hfin v ν2 ν7 hv n1.2.2.2.2.1.2.1 t13 (n4 d (by omega)).2.1 n2 e6 h7, ?_, t13, fun hv1 => ?_, j_fR_tr hRa e6, j_lo_tr hloa (j_lo_le n4 (by omega)), fun hK => ?_⟩
    · by_cases e : v = 100
      · rw [if_pos e]; exact j_dy_pair ho t4 n1
      · rw [if_neg e]; exact n1
    · obtain ⟨q, q1, q2, q3, q4, q5⟩ := n3 hv1
      rw [if_pos hv1]
      exact ⟨q, q1, by rw [q_upE]; exact q2, q3, q4, q5⟩
    · obtain ⟨x1, wk', x2, x3⟩ := n5 hK
      refine ⟨x1, wk', ?_, by have := (hwa hK).2.2.2; omega⟩
      by_cases e : v = 100
      · rw [if_pos e, q_upN (by omega)]; exact x2
      · rw [if_neg e]; exact x2
  · exact ⟨ks + 1 + k, ν2, by omega, j_it_add (j_it_add hit (l := 1) ⟨hgo, ν1, hstep ν1 e2, rfl⟩) e3, e8 hK h101, j_fR_tr hRa e6⟩
theorem jb_link {j : Nat} (ho : o < B) (IH : j_T K o B N fm pt n (d + 1)) (hd8 : d < 8) (hs : j_st o B N fm pt μ ν) (hd : j_dy K o B N (d + 1) fm pt μ ν) (hc : c < N) (h13 : ν 13 d = nI c) (h14 : ν 14 d = nI 0) (hw : K = false → ν 0 30 = nI 0 ∧ μ o 11 = nI wk ∧ wk + 2 ^ (8 - d) ≤ 257) (hj : j < N) (hl : μ (B + 6) c = nI j) : j_B K o B N fm pt n d c μ ν wk := by
  have hN : N ≤ 8 := hs.1
  obtain ⟨hP1, hP2⟩ := j_pow hd8
  obtain ⟨f1, f2⟩ := j_up14 K ν d (nI 1)
  obtain ⟨-, s2, s3, -⟩ := hs.2.2.2 c hc
  have hK : K = true := by
    cases hK : K
    · have := (hd.2.2.1 c hc).2.2 hK
      rw [hl] at this
      exact ((q_m9 (by omega)).mp this).elim
    · rfl
  have h29 : ν 0 29 = nI 0 := by have := hd.1.1; rw [hK] at this; exact this
  have h12 : ν 12 c = nI j := by rw [(hd.2.2.1 c hc).2.1 hK]; exact hl
  have h17 := hd.2.2.2.2.1.2.1
  refine jb_pass (p := j) (ks := 0) (wa := wk) (μa := μ) (νa := nk_up ν 14 d (nI 1)) (νs := ν) ho IH hd8 hc (j_st_f ho j_fC_rf f1 hs) (j_dy_cong (fun k j k1 k2 k3 => q_upN k1) hd) hj (by rw [q_upN (by omega)]; exact h13) (fun h => by rw [hK] at h; cases h) rfl (j_go_of hd (fun h => by rw [hK] at h; cases h)) (fun ν1 h1 => g_link (by omega) (by omega) hd8 h17 h13 h14 s3 h29 h12 h1) (c_workLink (by omega) (by omega) hl) j_fC_rf f1 f2 (by omega) (fun v ν6 ν7 v1 v2 v3 v4 v5 v6 v7 => ?_)
  have z3 : ν6 3 c = nI (fm c) := by rw [v6.1 3 c (by omega) (by omega) (by omega) (by omega) (by omega) (by omega) (by omega) (by omega), q_upN (by omega)]; exact s3
  have z29 : ν6 0 29 = nI 0 := by rw [v6.1 0 29 (by omega) (by omega) (by omega) (by omega) (by omega) (by omega) (by omega) (by omega), q_upN (by omega)]; exact h29
  have z12 : ν6 12 c = nI j := by rw [v6.1 12 c (by omega) (by omega) (by omega) (by omega) (by omega) (by omega) (by omega) (by omega), q_upN (by omega)]; exact h12
  exact g_hfLink (by omega) (by omega) hd8 v2 v3 (by rw [v4, q_upE]) z3 v1 v5 z29 z12 v7
theorem jb_num (ho : o < B) (hd8 : d < 8) (hs : j_st o B N fm pt μ ν) (hd : j_dy K o B N (d + 1) fm pt μ ν) (hc : c < N) (h13 : ν 13 d = nI c) (h14 : ν 14 d = nI 0) (hw : K = false → ν 0 30 = nI 0 ∧ μ o 11 = nI wk ∧ wk + 2 ^ (8 - d) ≤ 257) (hl : μ (B + 6) c = -nI 9) (hf : fm c = 0) : j_B K o B N fm pt n d c μ ν wk := by
  have hN : N ≤ 8 := hs.1
  obtain ⟨hP1, hP2⟩ := j_pow hd8
  obtain ⟨f1, f2⟩ := j_up14 K ν d (nI 1)
  obtain ⟨-, s2, s3, -, -, -, s7⟩ := hs.2.2.2 c hc
  obtain ⟨p1, p2, p3, -⟩ := s7 0 (by have := q_np3 (fm c); omega)
  have hp9 := p3 hf
  rw [hf] at s2 s3
  have e1 := c_work0 (o := o) (B := B) (rc := zf_C_comeToN o B n) (a := d + 1) (by omega) hl s2
  rw [p1] at e1
  have h17 := hd.2.2.2.2.1.2.1
  refine ⟨pt c 0, μ, by omega, e1, j_fC_rf, fun _ => ⟨0, ν, nk_up ν 14 d (nI 1), by omega, rfl, j_go_of hd (fun hK => ⟨(hw hK).1, wk, (hw hK).2.1, by have := (hw hK).2.2; omega⟩), fun ν7 h7 => g_num (by omega) hd8 h17 h13 h14 s3 (j_nl hd hc hl) p2 h7, j_dy_cong (fun k j k1 k2 k3 => q_upN k1) hd, by rw [q_upN (by omega)]; exact h13, fun h => by omega, f1, f2, fun hK => ⟨by rw [q_upN (by omega)]; exact (hw hK).1, wk, (hw hK).2.1, by omega⟩⟩, fun _ h => by omega⟩
theorem jb_pair (ho : o < B) (hd8 : d < 8) (hs : j_st o B N fm pt μ ν) (hd : j_dy K o B N (d + 1) fm pt μ ν) (hc : c < N) (h13 : ν 13 d = nI c) (h14 : ν 14 d = nI 0) (hw : K = false → ν 0 30 = nI 0 ∧ μ o 11 = nI wk ∧ wk + 2 ^ (8 - d) ≤ 257) (hl : μ (B + 6) c = -nI 9) (hf : fm c = 4) : j_B K o B N fm pt n d c μ ν wk := by
  have hN : N ≤ 8 := hs.1
  obtain ⟨hP1, hP2⟩ := j_pow hd8
  obtain ⟨-, s2, s3, -, -, -, s7⟩ := hs.2.2.2 c hc
  have hnp : q_np (fm c) = 2 := by rw [hf]; rfl
  obtain ⟨p1, p2, -, -⟩ := s7 0 (by omega)
  obtain ⟨p1', p2', -, -⟩ := s7 1 (by omega)
  rw [hf] at s2 s3
  have e1 := c_work4 (o := o) (B := B) (rc := zf_C_comeToN o B n) (a := d + 1) (by omega) hl s2
  have h17 := hd.2.2.2.2.1.2.1
  obtain ⟨-, t4⟩ := j_top hd hN hc h13
  have hr : ∀ k j, k ≠ 14 → (k = 0 → j ≠ 22 ∧ j ≠ 23) → (nk_up (nk_up (nk_up ν 14 d (nI 1)) 0 22 (nI (pt c 0))) 0 23 (nI (pt c 1))) k j = ν k j := fun k j k1 k2 => by
    by_cases e : k = 0
    · have := k2 e
      rw [q_upM (by omega), q_upM (by omega), q_upN k1]
    · rw [q_upN e, q_upN e, q_upN k1]
  refine ⟨100, _, by omega, e1, ⟨fun k j k1 k2 k3 k4 => q_upN k2, fun _ j => q_upN (by omega), by rw [q_upN (by omega), q_upN (by omega)]⟩, fun _ => ⟨0, ν, nk_up (nk_up (nk_up ν 14 d (nI 1)) 0 22 (nI (pt c 0))) 0 23 (nI (pt c 1)), by omega, rfl, j_go_of hd (fun hK => ⟨(hw hK).1, wk, (hw hK).2.1, by have := (hw hK).2.2; omega⟩), fun ν7 h7 => g_pair (by omega) hd8 h17 h13 h14 s3 (j_nl hd hc hl) p2 p2' h7, j_dy_cong (fun k j k1 k2 k3 => hr k j k1 (fun e => by have := k3 e; omega)) (j_dy_pair ho t4 hd), by rw [hr 13 d (by omega) (by omega)]; exact h13, fun _ => ⟨c, hc, q_upE, hf, ?_, q_upE⟩, ⟨fun k j _ _ _ _ k5 _ _ k8 => hr k j k5 (fun e => by have := k8 e; omega), fun _ k j hk => hr k j (by omega) (by omega)⟩, fun i hi => ⟨hr 13 i (by omega) (by omega), ?_, hr 15 i (by omega) (by omega)⟩, fun hK => ⟨by rw [hr 0 30 (by omega) (by omega)]; exact (hw hK).1, wk, by rw [q_upN (by omega)]; exact (hw hK).2.1, by omega⟩⟩, fun _ h => by omega⟩
  · rw [q_upM (by omega), q_upE]
  · rw [q_upN (by omega), q_upN (by omega), q_upM (by omega)]
end JB

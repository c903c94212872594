/-! ===== 25: need: the recursion of the class and the stack of the reference come to the same ===== -/
/-- the reference's loop goes on -/
def j_go (ν : nk_M) : Prop := ¬ ν 0 17 ≤ nI 0 ∧ (ν 0 29 = nI 0 ∨ (ν 0 29 = nI 1 ∧ ν 0 30 = nI 0 ∧ ¬ nI 999 < ν 0 24))
def j_it : Nat → nk_M → nk_M → Prop
  | 0, ν, ν' => ν' = ν
  | k + 1, ν, ν' => j_go ν ∧ ∃ ν1, zf_M_goesOn ν = some ((), ν1) ∧ j_it k ν1 ν'
theorem j_it_add : ∀ {k l : Nat} {ν ν1 ν2 : nk_M}, j_it k ν ν1 → j_it l ν1 ν2 → j_it (k + l) ν ν2
  | 0, l, ν, ν1, ν2, h, h2 => by
    have h' : ν1 = ν := h
    subst h'
    rw [Nat.zero_add]
    exact h2
  | k + 1, l, ν, ν1, ν2, h, h2 => by
    obtain ⟨g, ν3, e, h3⟩ := h
    rw [show k + 1 + l = (k + l) + 1 by omega]
    exact ⟨g, ν3, e, j_it_add h3 h2⟩
def j_fC (K : Bool) (o B : Nat) (μ μ' : nk_M) : Prop := (∀ k j, k ≠ B + 4 → k ≠ B + 5 → k ≠ B + 8 → (k = o → j < 10 ∨ 14 < j) → μ' k j = μ k j) ∧ (K = false → ∀ j, μ' (B + 4) j = μ (B + 4) j) ∧ μ' o 10 - μ' o 13 = μ o 10 - μ o 13
def j_fR (K : Bool) (ν ν' : nk_M) : Prop := (∀ k j, k ≠ 9 → k ≠ 10 → k ≠ 11 → k ≠ 13 → k ≠ 14 → k ≠ 15 → k ≠ 16 → (k = 0 → j ≠ 17 ∧ (j < 21 ∨ 27 < j) ∧ j ≠ 30) → ν' k j = ν k j) ∧ (K = false → ∀ k j, (k = 9 ∨ k = 10 ∨ k = 11 ∨ k = 16) → ν' k j = ν k j)
def j_lo (d : Nat) (ν ν' : nk_M) : Prop := ∀ i, i < d → ν' 13 i = ν 13 i ∧ ν' 14 i = ν 14 i ∧ ν' 15 i = ν 15 i
theorem j_fC_rf {K : Bool} {o B : Nat} {μ : nk_M} : j_fC K o B μ μ := ⟨fun _ _ _ _ _ _ => rfl, fun _ _ => rfl, rfl⟩
theorem j_fC_tr {K : Bool} {o B : Nat} {μ μ1 μ2 : nk_M} (h : j_fC K o B μ μ1) (h2 : j_fC K o B μ1 μ2) : j_fC K o B μ μ2 := ⟨fun k j a b c e => (h2.1 k j a b c e).trans (h.1 k j a b c e), fun hK j => (h2.2.1 hK j).trans (h.2.1 hK j), h2.2.2.trans h.2.2⟩
theorem j_fR_rf {K : Bool} {ν : nk_M} : j_fR K ν ν := ⟨fun _ _ _ _ _ _ _ _ _ _ => rfl, fun _ _ _ _ => rfl⟩
theorem j_fR_tr {K : Bool} {ν ν1 ν2 : nk_M} (h : j_fR K ν ν1) (h2 : j_fR K ν1 ν2) : j_fR K ν ν2 := ⟨fun k j a b c d e f g i => (h2.1 k j a b c d e f g i).trans (h.1 k j a b c d e f g i), fun hK k j hk => (h2.2 hK k j hk).trans (h.2 hK k j hk)⟩
theorem j_lo_tr {d : Nat} {ν ν1 ν2 : nk_M} (h : j_lo d ν ν1) (h2 : j_lo d ν1 ν2) : j_lo d ν ν2 := fun i hi => ⟨(h2 i hi).1.trans (h i hi).1, (h2 i hi).2.1.trans (h i hi).2.1, (h2 i hi).2.2.trans (h i hi).2.2⟩
theorem j_lo_le {d e : Nat} {ν ν1 : nk_M} (h : j_lo d ν ν1) (he : e ≤ d) : j_lo e ν ν1 := fun i hi => h i (by omega)
/-- what was told is as it was -/
theorem j_st_fr {o B N : Nat} {fm : Nat → Nat} {pt : Nat → Nat → Nat} {μ ν μ' ν' : nk_M} (ho : o < B) (hC : ∀ k j, k ≠ B + 4 → k ≠ B + 5 → k ≠ B + 7 → k ≠ B + 8 → (k = o → j < 10 ∨ 14 < j) → μ' k j = μ k j) (hR : ∀ k j, k ≠ 9 → k ≠ 10 → k ≠ 11 → k ≠ 13 → k ≠ 14 → k ≠ 15 → k ≠ 16 → (k = 0 → j ≠ 17 ∧ (j < 21 ∨ 27 < j) ∧ j ≠ 30) → ν' k j = ν k j) (h : j_st o B N fm pt μ ν) : j_st o B N fm pt μ' ν' := by
  obtain ⟨h1, h2, h3, h4⟩ := h
  refine ⟨h1, by rw [hC o 0 (by omega) (by omega) (by omega) (by omega) (by omega)]; exact h2, by rw [hR 0 1 (by omega) (by omega) (by omega) (by omega) (by omega) (by omega) (by omega) (by omega)]; exact h3, fun c hc => ?_⟩
  rw [hC (B + 2) c (by omega) (by omega) (by omega) (by omega) (by omega), hC B c (by omega) (by omega) (by omega) (by omega) (by omega), hC (B + 1) c (by omega) (by omega) (by omega) (by omega) (by omega), hR 3 c (by omega) (by omega) (by omega) (by omega) (by omega) (by omega) (by omega) (by omega), hR 1 c (by omega) (by omega) (by omega) (by omega) (by omega) (by omega) (by omega) (by omega), hR 2 c (by omega) (by omega) (by omega) (by omega) (by omega) (by omega) (by omega) (by omega)]
  obtain ⟨a1, a2, a3, a4, a5, a6, a7⟩ := h4 c hc
  refine ⟨a1, a2, a3, a4, a5, a6, fun k hk => ?_⟩
  rw [hC (B + 3) _ (by omega) (by omega) (by omega) (by omega) (by omega), hR 4 _ (by omega) (by omega) (by omega) (by omega) (by omega) (by omega) (by omega) (by omega)]
  exact a7 k hk
theorem j_st_f {K : Bool} {o B N : Nat} {fm : Nat → Nat} {pt : Nat → Nat → Nat} {μ ν μ' ν' : nk_M} (ho : o < B) (hC : j_fC K o B μ μ') (hR : j_fR K ν ν') (h : j_st o B N fm pt μ ν) : j_st o B N fm pt μ' ν' :=
  j_st_fr ho (fun k j a b _ d e => hC.1 k j a b d e) hR.1 h
theorem j_dy_cong {K : Bool} {o B N d : Nat} {fm : Nat → Nat} {pt : Nat → Nat → Nat} {μ ν ν' : nk_M} (hR : ∀ k j, k ≠ 14 → k ≠ 15 → (k = 0 → j ≠ 21 ∧ j ≠ 22 ∧ j ≠ 23 ∧ j ≠ 30) → ν' k j = ν k j) (h : j_dy K o B N d fm pt μ ν) : j_dy K o B N d fm pt μ ν' := by
  obtain ⟨a1, a2, a3, a4, ⟨a5, a6, a7, a7i⟩, a8, a9, ⟨b1, b2, b3⟩, b4⟩ := h
  refine ⟨⟨by rw [hR 0 29 (by omega) (by omega) (by omega)]; exact a1.1, a1.2⟩, fun c hc => ?_, fun c hc => ?_, fun c hc e => ?_, ⟨a5, by rw [hR 0 17 (by omega) (by omega) (by omega)]; exact a6, fun i hi => ?_, fun i j hi hj => ?_⟩, fun c hc => ?_, a9, ⟨by rw [hR 0 24 (by omega) (by omega) (by omega)]; exact b1, by rw [hR 0 25 (by omega) (by omega) (by omega)]; exact b2, by rw [hR 0 26 (by omega) (by omega) (by omega)]; exact b3⟩, fun hK => ?_⟩
  · rw [hR 9 c (by omega) (by omega) (by omega)]; exact a2 c hc
  · rw [hR 12 c (by omega) (by omega) (by omega)]; exact a3 c hc
  · rw [hR 10 c (by omega) (by omega) (by omega), hR 11 c (by omega) (by omega) (by omega)]; exact a4 c hc e
  · rw [hR 13 i (by omega) (by omega) (by omega)]; exact a7 i hi
  · rw [hR 13 i (by omega) (by omega) (by omega), hR 13 j (by omega) (by omega) (by omega)]; exact a7i i j hi hj
  · rcases a8 c hc with e | ⟨e1, e2, i, hi, e3⟩
    · exact Or.inl e
    · exact Or.inr ⟨e1, e2, i, hi, by rw [hR 13 i (by omega) (by omega) (by omega)]; exact e3⟩
  · obtain ⟨q, c1, c2, c3, c4, c5⟩ := b4 hK
    exact ⟨q, c1, by rw [hR 0 27 (by omega) (by omega) (by omega)]; exact c2, c3, c4, fun i hi => by rw [hR 16 i (by omega) (by omega) (by omega)]; exact c5 i hi⟩
theorem j_dy_pair {K : Bool} {o B N d c : Nat} {fm : Nat → Nat} {pt : Nat → Nat → Nat} {μ ν : nk_M} {x : Int32} (ho : o < B) (h4 : μ (B + 4) c = -nI 9) (h : j_dy K o B N d fm pt μ ν) : j_dy K o B N d fm pt (nk_up μ (B + 5) c x) ν := by
  have m : ∀ k j, k ≠ B + 5 → (nk_up μ (B + 5) c x) k j = μ k j := fun k j hk => q_upN hk
  obtain ⟨a1, a2, a3, a4, ⟨a5, a6, a7, a7i⟩, a8, a9, ⟨b1, b2, b3⟩, b4⟩ := h
  refine ⟨⟨a1.1, by rw [m o 9 (by omega)]; exact a1.2⟩, fun c hc => ?_, fun c hc => ?_, fun c' hc' e => ?_, ⟨a5, a6, fun i hi => ?_, a7i⟩, fun c hc => ?_, ?_, ⟨by rw [m o 11 (by omega)]; exact b1, by rw [m o 12 (by omega)]; exact b2, by rw [m o 13 (by omega)]; exact b3⟩, fun hK => ?_⟩
  · rw [m (B + 4) c (by omega)]; exact a2 c hc
  · rw [m (B + 6) c (by omega)]; exact a3 c hc
  · rw [m (B + 4) c' (by omega)] at e
    have hne : c' ≠ c := fun z => by rw [z, h4] at e; exact (q_9m (by omega)).mp e
    rw [q_upM hne]
    exact a4 c' hc' e
  · obtain ⟨c', h', e1, e2⟩ := a7 i hi
    exact ⟨c', h', e1, by rw [m (B + 7) c' (by omega)]; exact e2⟩
  · rw [m (B + 7) c (by omega), m (B + 4) c (by omega)]; exact a8 c hc
  · rw [q_cnt_congr (p' := fun c => decide (μ (B + 7) c = nI 1)) (fun a _ => by simp only [m (B + 7) a (by omega)])]; exact a9
  · obtain ⟨q, c1, c2, c3, c4, c5⟩ := b4 hK
    refine ⟨q, by rw [m o 14 (by omega)]; exact c1, c2, ?_, by rw [m o 11 (by omega)]; exact c4, fun i hi => by rw [m (B + 8) i (by omega)]; exact c5 i hi⟩
    rw [q_cnt_congr (p' := fun c => decide (μ (B + 4) c = -nI 9)) (fun a _ => by simp only [m (B + 4) a (by omega)])]; exact c3
theorem j_go_of {K : Bool} {o B N d : Nat} {fm : Nat → Nat} {pt : Nat → Nat → Nat} {μ ν : nk_M} (h : j_dy K o B N (d + 1) fm pt μ ν) (hw : K = false → ν 0 30 = nI 0 ∧ ∃ wk, μ o 11 = nI wk ∧ wk ≤ 256) : j_go ν := by
  obtain ⟨a1, -, -, -, ⟨a5, a6, -⟩, -, -, ⟨b1, -, -⟩, -⟩ := h
  refine ⟨by rw [a6, q_le (by omega) (by omega)]; omega, ?_⟩
  cases K
  · obtain ⟨h30, wk, e, hwk⟩ := hw rfl
    refine Or.inr ⟨a1.1, h30, ?_⟩
    rw [← b1, e, q_lt (by omega) (by omega)]
    omega
  · exact Or.inl a1.1
/-- what is claimed of a cell that is needed while d are being worked -/
def j_T (K : Bool) (o B N : Nat) (fm : Nat → Nat) (pt : Nat → Nat → Nat) (n d : Nat) : Prop := ∀ (c : Nat) (μ ν : nk_M) (wk : Nat), j_st o B N fm pt μ ν → j_dy K o B N d fm pt μ ν → c < N → (K = false → ν 0 30 = nI 0 ∧ μ o 11 = nI wk ∧ wk + 2 ^ (8 - d) ≤ 256) →
  ∃ (v : Nat) (μ' ν1 ν' : nk_M) (k : Nat), v ≤ 102 ∧ zf_C_comeToN o B n (nI c) (nI (d + 1)) μ = some (nI v, μ') ∧ zf_M_wants (nI c) ν = some ((), ν1) ∧ j_it k ν1 ν' ∧ k + 3 ≤ 3 * 2 ^ (8 - d) ∧ j_fC K o B μ μ' ∧ j_fR K ν ν' ∧
    ((K = true ∨ v ≠ 101) → j_dy K o B N d fm pt μ' ν' ∧ ν' 0 21 = nI v ∧ (v = 100 → j_pr o B N c fm pt μ' ν') ∧ j_lo d ν ν' ∧ (K = false → ν' 0 30 = nI 0 ∧ ∃ wk', μ' o 11 = nI wk' ∧ wk' + 1 ≤ wk + 2 ^ (8 - d))) ∧
    (K = false → v = 101 → ν' 0 30 = nI 1)
/-- what is claimed of working c out, once it is pushed as the (d + 1)-th -/
def j_B (K : Bool) (o B N : Nat) (fm : Nat → Nat) (pt : Nat → Nat → Nat) (n d c : Nat) (μ ν : nk_M) (wk : Nat) : Prop :=
  ∃ (v : Nat) (μ6 : nk_M), v ≤ 102 ∧ zf_C_workOut o B (zf_C_comeToN o B n) (nI c) (nI (d + 1)) μ = some (nI v, μ6) ∧ j_fC K o B μ μ6 ∧
    ((K = true ∨ v ≠ 101) → ∃ (k : Nat) (ν6 ν6' : nk_M), k + 4 ≤ 3 * 2 ^ (8 - d) ∧ j_it k ν ν6 ∧ j_go ν6 ∧ (∀ ν7, zf_M_isDone (nI v) ν6' = some ((), ν7) → zf_M_goesOn ν6 = some ((), ν7)) ∧ j_dy K o B N (d + 1) fm pt μ6 ν6' ∧ ν6' 13 d = nI c ∧ (v = 100 → j_pr o B N c fm pt μ6 ν6') ∧ j_fR K ν ν6' ∧ j_lo d ν ν6' ∧ (K = false → ν6' 0 30 = nI 0 ∧ ∃ wk', μ6 o 11 = nI wk' ∧ wk' + 2 ≤ wk + 2 ^ (8 - d))) ∧
    (K = false → v = 101 → ∃ (k : Nat) (ν6 : nk_M), k + 3 ≤ 3 * 2 ^ (8 - d) ∧ j_it k ν ν6 ∧ ν6 0 30 = nI 1 ∧ j_fR K ν ν6)

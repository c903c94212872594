/-! ===== 36: shorten ===== -/
def q_lk (μ : nk_M) (k : Nat) (p : Nat → Bool) (T : Nat → Nat) (i : Nat) : nk_M := fun a b => if a = k ∧ b < i ∧ p b = true then nI (T b) else μ a b
theorem q_lkE {μ : nk_M} {k i a b : Nat} {p : Nat → Bool} {T : Nat → Nat} (h : a = k ∧ b < i ∧ p b = true) : q_lk μ k p T i a b = nI (T b) := if_pos h
theorem q_lkN {μ : nk_M} {k i a b : Nat} {p : Nat → Bool} {T : Nat → Nat} (h : ¬ (a = k ∧ b < i ∧ p b = true)) : q_lk μ k p T i a b = μ a b := if_neg h
theorem q_lk_s {μ : nk_M} {k i : Nat} {p : Nat → Bool} {T : Nat → Nat} (h : p i = true) : nk_up (q_lk μ k p T i) k i (nI (T i)) = q_lk μ k p T (i + 1) := by
  apply q_ext
  intro a b
  by_cases e : a = k ∧ b = i
  · rw [e.1, e.2, q_upE, q_lkE ⟨rfl, by omega, h⟩]
  · rw [q_upO e]
    by_cases e2 : a = k ∧ b < i ∧ p b = true
    · rw [q_lkE e2, q_lkE ⟨e2.1, by omega, e2.2.2⟩]
    · rw [q_lkN e2, q_lkN (fun z => e2 ⟨z.1, by have := z.2.1; omega, z.2.2⟩)]
theorem q_lk_n {μ : nk_M} {k i : Nat} {p : Nat → Bool} {T : Nat → Nat} (h : p i = false) : q_lk μ k p T i = q_lk μ k p T (i + 1) := by
  apply q_ext
  intro a b
  by_cases e2 : a = k ∧ b < i ∧ p b = true
  · rw [q_lkE e2, q_lkE ⟨e2.1, by omega, e2.2.2⟩]
  · rw [q_lkN e2, q_lkN (fun z => e2 ⟨z.1, by
      have h1 := z.2.1
      by_cases eb : b = i
      · subst eb; rw [h] at z; cases z.2.2
      · omega, z.2.2⟩)]
theorem q_lk_0 {μ : nk_M} {k : Nat} {p : Nat → Bool} {T : Nat → Nat} : q_lk μ k p T 0 = μ := by
  apply q_ext
  intro a b
  rw [q_lkN (by omega)]
/-- the first of n that is so, else y -/
def q_ft (p : Nat → Bool) : Nat → Int32 → Int32
  | 0, y => y
  | n + 1, y => q_ft p n (if p n then nI n else y)
theorem q_ft_none {p : Nat → Bool} : ∀ {n : Nat} {y : Int32}, (∀ c, c < n → p c = false) → q_ft p n y = y
  | 0, _, _ => rfl
  | n + 1, y, h => by
    unfold q_ft
    rw [h n (by omega), q_ft_none (fun c hc => h c (by omega))]
    rfl
theorem q_ft_some {p : Nat → Bool} {c : Nat} : ∀ {n : Nat} {y : Int32}, c < n → p c = true → (∀ a, a < c → p a = false) → q_ft p n y = nI c
  | 0, _, h, _, _ => by omega
  | n + 1, y, h, h1, h2 => by
    unfold q_ft
    by_cases e : c = n
    · subst e
      rw [h1, q_ft_none h2]
      rfl
    · exact q_ft_some (by omega) h1 h2
/-- least one from i on -/
theorem q_least (p : Nat → Bool) (N : Nat) : ∀ m i, i + m = N → (∀ c, i ≤ c → c < N → p c = false) ∨ ∃ c, i ≤ c ∧ c < N ∧ p c = true ∧ ∀ a, i ≤ a → a < c → p a = false
  | 0, i, h => Or.inl fun c h1 h2 => by omega
  | m + 1, i, h => by
    cases e : p i
    · rcases q_least p N m (i + 1) (by omega) with z | ⟨c, z1, z2, z3, z4⟩
      · refine Or.inl fun c h1 h2 => ?_
        by_cases ec : c = i
        · subst ec; exact e
        · exact z c (by omega) h2
      · refine Or.inr ⟨c, by omega, z2, z3, fun a h1 h2 => ?_⟩
        by_cases ea : a = i
        · subst ea; exact e
        · exact z4 a (by omega) h2
    · exact Or.inr ⟨i, by omega, by omega, e, fun a h1 h2 => by omega⟩
theorem q_cnt_skip {p : Nat → Bool} {i : Nat} : ∀ {c : Nat}, i ≤ c → (∀ a, i ≤ a → a < c → p a = false) → q_cnt p c = q_cnt p i
  | 0, h, _ => by rw [show i = 0 by omega]
  | c + 1, h, h2 => by
    by_cases e : i = c + 1
    · rw [e]
    · show q_cnt p c + (if p c then 1 else 0) = _
      rw [q_cnt_skip (c := c) (by omega) (fun a h3 h4 => h2 a h3 (by omega)), h2 c (by omega) (by omega)]
      rfl
theorem q_lk_skip {μ : nk_M} {k i : Nat} {p : Nat → Bool} {T : Nat → Nat} : ∀ {c : Nat}, i ≤ c → (∀ a, i ≤ a → a < c → p a = false) → q_lk μ k p T c = q_lk μ k p T i
  | 0, h, _ => by rw [show i = 0 by omega]
  | c + 1, h, h2 => by
    by_cases e : i = c + 1
    · rw [e]
    · rw [← q_lk_n (h2 c (by omega) (by omega)), q_lk_skip (c := c) (by omega) (fun a h3 h4 => h2 a h3 (by omega))]
section SH
variable {o B N : Nat} {fm : Nat → Nat} {pt : Nat → Nat → Nat} {μ ν : nk_M}
/-- c may be made a link -/
def q_may (B : Nat) (fm : Nat → Nat) (pt : Nat → Nat → Nat) (μ : nk_M) (c : Nat) : Bool := decide (fm c = 5 ∨ fm c = 6) && (decide (μ (B + 4) c = -nI 9) && (decide (μ (B + 6) c = -nI 9) && decide (μ (B + 4) (pt c 0) = nI 100)))
def q_tgt (B : Nat) (fm : Nat → Nat) (pt : Nat → Nat → Nat) (μ : nk_M) (c : Nat) : Nat := pt ((μ (B + 5) (pt c 0)).toNatClampNeg) (if fm c = 5 then 0 else 1)
theorem c_can {c : Nat} {μ' : nk_M} (hs : j_st o B N fm pt μ ν) (hd : k_dy true o B N fm pt μ ν) (hc : c < N) (h2 : μ' (B + 2) c = μ (B + 2) c) (h4 : ∀ j, μ' (B + 4) j = μ (B + 4) j) (h6 : μ' (B + 6) c = μ (B + 6) c) (h3 : ∀ j, μ' (B + 3) j = μ (B + 3) j) : zf_C_canBeLink o B (nI c) μ' = some (if q_may B fm pt μ c then nI 1 else nI 0, μ') := by
  obtain ⟨s1, s2, s3, s4⟩ := hs
  obtain ⟨t1, t2, t3, t4, t5, t6, t7⟩ := s4 c hc
  have hc8 : c < 8 := by omega
  unfold zf_C_canBeLink
  rw [e_formNow hc8, u_bd, e_isAwake hc8, u_bd, h4, h6, h2, t2]
  unfold q_may
  by_cases e4 : μ (B + 4) c = -nI 9
  · rw [if_pos e4, if_pos (by decide)]
    by_cases e6 : μ (B + 6) c = -nI 9
    · rw [if_pos e6]
      have rest : fm c = 5 ∨ fm c = 6 → zf_C_canBeLink_b27 o B (nI c) μ' = some (if decide (μ (B + 4) (pt c 0) = nI 100) then nI 1 else nI 0, μ') := fun h56 => by
        have hnp : q_np (fm c) = 1 := by rcases h56 with z | z <;> rw [z] <;> rfl
        obtain ⟨y1, -, -, y4⟩ := t7 0 (by omega)
        have hp := y4 (by omega)
        unfold zf_C_canBeLink_b27
        rw [u_lit 0, e_partAsTold (o := o) (B := B) (k := 0) hc8 (h2.trans t2) t1 (by omega), h3, y1, u_bd, q_ald (by omega) (by omega), h4]
        by_cases e : μ (B + 4) (pt c 0) = nI 100
        · rw [if_pos (show μ (B + 4) (pt c 0) = 100 from e), e]; rfl
        · rw [if_neg (show ¬ μ (B + 4) (pt c 0) = 100 from e)]; simp only [e, decide_false]; rfl
      by_cases e5 : fm c = 5
      · rw [if_pos (show nI (fm c) = 5 by rw [e5]; rfl), rest (Or.inl e5)]
        simp [e5, e4, e6]
      · rw [if_neg (show ¬ nI (fm c) = 5 from fun z => e5 ((q_eq (by omega) (by omega)).mp z))]
        by_cases e7 : fm c = 6
        · rw [if_pos (show nI (fm c) = 6 by rw [e7]; rfl), rest (Or.inr e7)]
          simp [e7, e4, e6]
        · rw [if_neg (show ¬ nI (fm c) = 6 from fun z => e7 ((q_eq (by omega) (by omega)).mp z))]
          simp [e5, e7]
          rfl
    · rw [if_neg e6, if_neg (by decide), if_neg (by decide)]
      simp [e6]
      rfl
  · rw [if_neg e4, if_neg (by decide)]
    simp [e4]
    rfl
theorem c_make (ho : o < B) (hs : j_st o B N fm pt μ ν) (hd : k_dy true o B N fm pt μ ν) : ∀ (f i : Nat), i ≤ N → N - i < f → zf_C_makeLinks_b4 o B f (nI (q_cnt (q_may B fm pt μ) i)) (nI i) (q_lk μ (B + 6) (q_may B fm pt μ) (q_tgt B fm pt μ) i) = some (nI (q_cnt (q_may B fm pt μ) N), q_lk μ (B + 6) (q_may B fm pt μ) (q_tgt B fm pt μ) N) := by
  intro f
  induction f with
  | zero => intro i _ h; omega
  | succ f ih =>
    intro i hi hf
    obtain ⟨s1, s2, s3, s4⟩ := id hs
    rw [zf_C_makeLinks_b4, q_lkN (by omega), s2]
    by_cases e : N ≤ i
    · rw [if_pos ((q_le (by omega) (by omega)).mpr e), show i = N by omega]
    · rw [if_neg (fun z => e ((q_le (by omega) (by omega)).mp z)), c_can hs hd (by omega) (q_lkN (by omega)) (fun j => q_lkN (by omega)) (q_lkN (by omega)) (fun j => q_lkN (by omega)), u_bd]
      have ih1 := ih (i + 1) (by omega) (by omega)
      have hu : q_cnt (q_may B fm pt μ) (i + 1) = q_cnt (q_may B fm pt μ) i + (if q_may B fm pt μ i then 1 else 0) := rfl
      cases em : q_may B fm pt μ i
      · rw [hu, em] at ih1
        rw [← q_lk_n em] at ih1
        rw [show (if false = true then nI 1 else nI 0) = nI 0 from rfl, if_pos (by decide)]
        unfold zf_C_makeLinks_b43
        rw [u_lit 1, q_add]
        exact ih1
      · rw [hu, em] at ih1
        rw [if_pos rfl, if_neg (by decide)]
        obtain ⟨t1, t2, t3, t4, t5, t6, t7⟩ := s4 i (by omega)
        have em' := em
        unfold q_may at em'
        simp only [Bool.and_eq_true, decide_eq_true_eq] at em'
        obtain ⟨m1, m2, m3, m4⟩ := em'
        have hnp : q_np (fm i) = 1 := by rcases m1 with z | z <;> rw [z] <;> rfl
        obtain ⟨y1, y2, -, y4⟩ := t7 0 (by omega)
        have hp := y4 (by omega)
        obtain ⟨q, q1, q2, q3, -, -⟩ := hd.2.2.2.1 (pt i 0) hp m4
        obtain ⟨-, -, -, -, -, -, r7⟩ := s4 q q1
        have hsel : (if fm i = 5 then 0 else 1) < q_np (fm q) := by rw [q3, show q_np 4 = 2 from rfl]; split <;> omega
        obtain ⟨w1, -, -, -⟩ := r7 _ hsel
        have ht : q_tgt B fm pt μ i = pt q (if fm i = 5 then 0 else 1) := by unfold q_tgt; rw [q2, q_clamp (by omega)]
        have hf5 : (if (q_lk μ (B + 6) (q_may B fm pt μ) (q_tgt B fm pt μ) i) (B + 2) i = nI 5 then 0 else 1) = (if fm i = 5 then 0 else 1) := by
          rw [q_lkN (by omega), t2]
          by_cases z : fm i = 5
          · rw [z, if_pos rfl, if_pos rfl]
          · rw [if_neg z, if_neg (fun w => z ((q_eq (by omega) (by omega)).mp w))]
        rw [u_lit 0, e_partAsTold (o := o) (B := B) (k := 0) (by omega) ((q_lkN (by omega)).trans t2) t1 (by omega), u_bd, q_lkN (by omega), y1, e_partOfPair (o := o) (B := B) (q := q) (by omega) (by omega) (by omega) ((q_lkN (by omega)).trans q2), u_bd, q_ast (by omega) (by omega), hf5, q_lkN (by omega), w1, ← ht, q_lk_s em]
        unfold zf_C_makeLinks_b43
        rw [u_lit 1, q_add, q_add]
        exact ih1
/-- the reference finds the next one -/
theorem r_next {m : Nat → Bool} (hN : N ≤ 8) (hm : ∀ c, c < N → ∀ F G : Option (Int32 × nk_M), (nk_ald ν 3 8 (nI c) (fun x1 => (if x1 ≤ (4 : Int32) then F else nk_ald ν 9 8 (nI c) (fun x2 => (if 0 ≤ x2 then F else nk_ald ν 12 8 (nI c) (fun x3 => (if 0 ≤ x3 then F else nk_ald ν 4 24 ((3 : Int32) * nI c) (fun x4 => nk_ald ν 9 8 x4 (fun x5 => (if x5 = (100 : Int32) then G else F)))))))))) = if m c then G else F) : ∀ (n f : Nat) (y : Int32), n ≤ N → n < f → zf_M_nextToShorten_b10 f y (nI n - nI 1) ν = some (q_ft m n y, ν) := by
  intro n
  induction n with
  | zero =>
    intro f y _ hf
    obtain ⟨f, rfl⟩ : ∃ g, f = g + 1 := ⟨f - 1, by omega⟩
    rw [zf_M_nextToShorten_b10, if_pos (by decide)]
    rfl
  | succ n ih =>
    intro f y hn hf
    obtain ⟨f, rfl⟩ : ∃ g, f = g + 1 := ⟨f - 1, by omega⟩
    rw [zf_M_nextToShorten_b10, q_sub (by omega), show n + 1 - 1 = n by omega, if_neg (q_nlt0 (by omega)), hm n (by omega)]
    have e1 : nI n + (-1) = nI n - nI 1 := by rw [Int32.sub_eq_add_neg]; rfl
    unfold zf_M_nextToShorten_b64 zf_M_nextToShorten_b65 zf_M_nextToShorten_b75 q_ft
    cases m n
    · rw [if_neg (by decide), if_pos (by decide), e1, ih f y (by omega) (by omega)]; rfl
    · rw [if_pos rfl, if_neg (by decide), e1, ih f (nI n) (by omega) (by omega)]; rfl
theorem r_may {i c : Nat} (hs : j_st o B N fm pt μ ν) (hd : k_dy true o B N fm pt μ ν) (hT : ∀ c, c < N → q_may B fm pt μ c = true → q_tgt B fm pt μ c < N) (hc : c < N) (F G : Option (Int32 × nk_M)) :
    (nk_ald (q_lk ν 12 (q_may B fm pt μ) (q_tgt B fm pt μ) i) 3 8 (nI c) (fun x1 => (if x1 ≤ (4 : Int32) then F else nk_ald (q_lk ν 12 (q_may B fm pt μ) (q_tgt B fm pt μ) i) 9 8 (nI c) (fun x2 => (if 0 ≤ x2 then F else nk_ald (q_lk ν 12 (q_may B fm pt μ) (q_tgt B fm pt μ) i) 12 8 (nI c) (fun x3 => (if 0 ≤ x3 then F else nk_ald (q_lk ν 12 (q_may B fm pt μ) (q_tgt B fm pt μ) i) 4 24 ((3 : Int32) * nI c) (fun x4 => nk_ald (q_lk ν 12 (q_may B fm pt μ) (q_tgt B fm pt μ) i) 9 8 x4 (fun x5 => (if x5 = (100 : Int32) then G else F)))))))))) = if (q_may B fm pt μ c && decide (i ≤ c)) then G else F := by
  obtain ⟨s1, s2, s3, s4⟩ := hs
  obtain ⟨t1, t2, t3, t4, t5, t6, t7⟩ := s4 c hc
  obtain ⟨-, d2, d3, -, -⟩ := hd
  obtain ⟨x1, x2, -⟩ := d2 c hc
  obtain ⟨z1, z2, -⟩ := d3 c hc
  have hc8 : c < 8 := by omega
  rw [q_ald hc8 (by omega), q_lkN (by omega), t3]
  by_cases e1 : fm c ≤ 4
  · rw [if_pos (show nI (fm c) ≤ 4 from (q_le (b := 4) (by omega) (by omega)).mpr e1), if_neg]
    unfold q_may
    simp only [Bool.and_eq_true, decide_eq_true_eq]
    omega
  · rw [if_neg (show ¬ nI (fm c) ≤ 4 from fun z => e1 ((q_le (b := 4) (by omega) (by omega)).mp z)), q_ald hc8 (by omega), q_lkN (by omega), x2 rfl]
    rcases x1 with y | ⟨v, hv, y⟩
    · rw [y, if_neg (by decide), q_ald hc8 (by omega)]
      by_cases ei : c < i ∧ q_may B fm pt μ c = true
      · rw [q_lkE ⟨rfl, ei.1, ei.2⟩, if_pos (q_le0 (by have := hT c hc ei.2; omega)), if_neg]
        simp only [Bool.and_eq_true, decide_eq_true_eq]
        omega
      · rw [q_lkN (fun w => ei ⟨w.2.1, w.2.2⟩), z2 rfl]
        rcases z1 with w | ⟨j, hj, w⟩
        · rw [w, if_neg (by decide)]
          have hnp : q_np (fm c) = 1 := by rcases (show fm c = 5 ∨ fm c = 6 by omega) with z | z <;> rw [z] <;> rfl
          obtain ⟨y1, y2, -, y4⟩ := t7 0 (by omega)
          have hp := y4 (by omega)
          rw [u_lit 3, q_mul, q_ald (by omega) (by omega), q_lkN (by omega), show 3 * c = 3 * c + 0 by omega, y2, q_ald (by omega) (by omega), q_lkN (by omega), (d2 (pt c 0) hp).2.1 rfl]
          by_cases e5 : μ (B + 4) (pt c 0) = nI 100
          · have hm : q_may B fm pt μ c = true := by
              unfold q_may
              simp only [Bool.and_eq_true, decide_eq_true_eq]
              exact ⟨by omega, y, w, e5⟩
            rw [if_pos (show μ (B + 4) (pt c 0) = 100 from e5), hm, if_pos]
            simp only [Bool.true_and, decide_eq_true_eq]
            exact Nat.not_lt.mp fun z => ei ⟨z, hm⟩
          · rw [if_neg (show ¬ μ (B + 4) (pt c 0) = 100 from e5), if_neg]
            unfold q_may
            simp only [Bool.and_eq_true, decide_eq_true_eq]
            exact fun z => e5 z.1.2.2.2
        · rw [w, if_pos (q_le0 (by omega)), if_neg]
          unfold q_may
          simp only [Bool.and_eq_true, decide_eq_true_eq]
          exact fun z => (q_m9 (a := j) (by omega)).mp (w ▸ z.1.2.2.1)
    · rw [y, if_pos (q_le0 (by omega)), if_neg]
      unfold q_may
      simp only [Bool.and_eq_true, decide_eq_true_eq]
      exact fun z => (q_m9 (a := v) (by omega)).mp (y ▸ z.1.2.1)
theorem r_short_b (hs : j_st o B N fm pt μ ν) (hd : k_dy true o B N fm pt μ ν) (hT : ∀ c, c < N → q_may B fm pt μ c = true → q_tgt B fm pt μ c < N) : ∀ (f i : Nat) (y : Int32), i ≤ N → N - i < f → y = q_ft (fun c => q_may B fm pt μ c && decide (i ≤ c)) N (-nI 9) → zf_M_shorten_b7 f (nI (q_cnt (q_may B fm pt μ) i)) y (q_lk ν 12 (q_may B fm pt μ) (q_tgt B fm pt μ) i) = some (nI (q_cnt (q_may B fm pt μ) N), q_lk ν 12 (q_may B fm pt μ) (q_tgt B fm pt μ) N) := by
  intro f
  induction f with
  | zero => intro i y _ h; omega
  | succ f ih =>
    intro i y hi hf hy
    obtain ⟨s1, s2, s3, s4⟩ := id hs
    rw [zf_M_shorten_b7]
    rcases q_least (q_may B fm pt μ) N (N - i) i (by omega) with z | ⟨c, z1, z2, z3, z4⟩
    · rw [q_ft_none (fun c hc => by
        by_cases e : i ≤ c
        · rw [z c e hc]; rfl
        · simp [e])] at hy
      rw [hy, if_pos (by decide), ← q_cnt_skip (c := N) hi z, q_lk_skip (c := N) hi z]
    · rw [q_ft_some (c := c) z2 (by simp [z1, z3]) (fun a ha => by
        by_cases e : i ≤ a
        · rw [z4 a e ha]; rfl
        · simp [e])] at hy
      obtain ⟨t1, t2, t3, t4, t5, t6, t7⟩ := s4 c z2
      have em' := z3
      unfold q_may at em'
      simp only [Bool.and_eq_true, decide_eq_true_eq] at em'
      obtain ⟨m1, m2, m3, m4⟩ := em'
      have hnp : q_np (fm c) = 1 := by rcases m1 with z | z <;> rw [z] <;> rfl
      obtain ⟨y1, y2, -, y4⟩ := t7 0 (by omega)
      have hp := y4 (by omega)
      obtain ⟨q, q1, q2, q3, q4, q5⟩ := hd.2.2.2.1 (pt c 0) hp m4
      have ht : q_tgt B fm pt μ c = pt q (if fm c = 5 then 0 else 1) := by unfold q_tgt; rw [q2, q_clamp (by omega)]
      have hx := ih (c + 1) (q_ft (fun a => q_may B fm pt μ a && decide (c + 1 ≤ a)) N (-nI 9)) (by omega) (by omega) rfl
      have hn := r_next (ν := q_lk ν 12 (q_may B fm pt μ) (q_tgt B fm pt μ) (c + 1)) s1 (fun a ha F G => r_may (i := c + 1) hs hd hT ha F G) N nk_fu (-9) (Nat.le_refl _) (by show _ < 4096; omega)
      have hnext : zf_M_nextToShorten (q_lk ν 12 (q_may B fm pt μ) (q_tgt B fm pt μ) (c + 1)) = some (q_ft (fun a => q_may B fm pt μ a && decide (c + 1 ≤ a)) N (-nI 9), q_lk ν 12 (q_may B fm pt μ) (q_tgt B fm pt μ) (c + 1)) := by
        unfold zf_M_nextToShorten
        rw [u_nm, q_lkN (by omega), s3, u_lit 1]
        exact hn
      have hu : q_cnt (q_may B fm pt μ) (c + 1) = q_cnt (q_may B fm pt μ) i + 1 := by
        show q_cnt (q_may B fm pt μ) c + (if q_may B fm pt μ c then 1 else 0) = _
        rw [z3, q_cnt_skip z1 z4]
        rfl
      have fin : ∀ u : Int32, u = nI (q_tgt B fm pt μ c) → zf_M_shorten_b50 (zf_M_shorten_b7 f) (nI (q_cnt (q_may B fm pt μ) i)) (nI c) u (q_lk ν 12 (q_may B fm pt μ) (q_tgt B fm pt μ) i) = some (nI (q_cnt (q_may B fm pt μ) N), q_lk ν 12 (q_may B fm pt μ) (q_tgt B fm pt μ) N) := fun u hu2 => by
        unfold zf_M_shorten_b50
        rw [q_ast (by omega) (by omega), hu2, ← q_lk_skip z1 z4, q_lk_s z3, hnext, u_bd, u_lit 1, q_add, ← hu]
        exact hx
      rw [hy, if_neg (q_nlt0 (by omega)), u_lit 3, q_mul, q_ald (by omega) (by omega), q_lkN (by omega), show 3 * c = 3 * c + 0 by omega, y2, q_ald (by omega) (by omega), q_lkN (by omega), t3]
      by_cases e5 : fm c = 5
      · rw [if_pos (show nI (fm c) = 5 by rw [e5]; rfl), q_ald (by omega) (by omega), q_lkN (by omega)]
        exact fin _ (by rw [q4, ht, if_pos e5])
      · rw [if_neg (show ¬ nI (fm c) = 5 from fun z => e5 ((q_eq (by omega) (by omega)).mp z)), q_ald (by omega) (by omega), q_lkN (by omega)]
        exact fin _ (by rw [q5, ht, if_neg e5])
/-- shortening, on both sides -/
theorem k_shorten (ho : o < B) (hs : j_st o B N fm pt μ ν) (hd : k_dy true o B N fm pt μ ν) : ∃ (a : Nat) (μ' ν' : nk_M), a ≤ 8 ∧ zf_C_makeLinks o B μ = some (nI a, μ') ∧ zf_M_shorten ν = some (nI a, ν') ∧ j_st o B N fm pt μ' ν' ∧ k_dy true o B N fm pt μ' ν' ∧ (∀ k j, k ≠ B + 6 → μ' k j = μ k j) ∧ ∀ k j, k ≠ 12 → ν' k j = ν k j := by
  obtain ⟨s1, s2, s3, s4⟩ := id hs
  have hT : ∀ c, c < N → q_may B fm pt μ c = true → q_tgt B fm pt μ c < N := fun c hc hm => by
    unfold q_may at hm
    simp only [Bool.and_eq_true, decide_eq_true_eq] at hm
    obtain ⟨m1, m2, m3, m4⟩ := hm
    obtain ⟨-, -, -, -, -, -, t7⟩ := s4 c hc
    obtain ⟨-, -, -, y4⟩ := t7 0 (by have := q_np3 (fm c); omega)
    obtain ⟨q, q1, q2, q3, -, -⟩ := hd.2.2.2.1 (pt c 0) (y4 (by omega)) m4
    obtain ⟨-, -, -, -, -, -, r7⟩ := s4 q q1
    have hsel : (if fm c = 5 then 0 else 1) < q_np (fm q) := by rw [q3, show q_np 4 = 2 from rfl]; split <;> omega
    obtain ⟨-, -, -, w4⟩ := r7 _ hsel
    unfold q_tgt
    rw [q2, q_clamp (by omega)]
    exact w4 (by omega)
  refine ⟨q_cnt (q_may B fm pt μ) N, q_lk μ (B + 6) (q_may B fm pt μ) (q_tgt B fm pt μ) N, q_lk ν 12 (q_may B fm pt μ) (q_tgt B fm pt μ) N, Nat.le_trans (q_cnt_le _ _) s1, ?_, ?_, j_st_c hs (fun k j h => q_lkN (by omega)) (fun k j h => q_lkN (by omega)), ?_, fun k j h => q_lkN (fun z => h z.1), fun k j h => q_lkN (fun z => h z.1)⟩
  · have := c_make ho hs hd nk_fu 0 (by omega) (by show _ < 4096; omega)
    rw [q_lk_0] at this
    exact this
  · have hn := r_next (ν := q_lk ν 12 (q_may B fm pt μ) (q_tgt B fm pt μ) 0) s1 (fun a ha F G => r_may (i := 0) hs hd hT ha F G) N nk_fu (-9) (Nat.le_refl _) (by show _ < 4096; omega)
    have hx := r_short_b hs hd hT nk_fu 0 _ (by omega) (by show _ < 4096; omega) rfl
    rw [q_lk_0] at hn hx
    unfold zf_M_shorten zf_M_nextToShorten
    rw [u_nm, s3, u_lit 1, hn, u_bd]
    exact hx
  · obtain ⟨d1, d2, d3, d4, d5⟩ := hd
    refine ⟨⟨by rw [q_lkN (by omega)]; exact d1.1, by rw [q_lkN (by omega)]; exact d1.2⟩, fun c hc => ?_, fun c hc => ?_, fun c hc e => ?_, fun c hc => by rw [q_lkN (by omega)]; exact d5 c hc⟩
    · rw [q_lkN (by omega), q_lkN (by omega)]; exact d2 c hc
    · cases em : q_may B fm pt μ c
      · rw [q_lkN (fun z => by rw [em] at z; cases z.2.2), q_lkN (fun z => by rw [em] at z; cases z.2.2)]; exact d3 c hc
      · rw [q_lkE ⟨rfl, hc, em⟩, q_lkE ⟨rfl, hc, em⟩]
        exact ⟨Or.inr ⟨_, hT c hc em, rfl⟩, fun _ => rfl, fun h => by cases h⟩
    · rw [q_lkN (by omega)] at e
      rw [q_lkN (by omega), q_lkN (by omega), q_lkN (by omega)]; exact d4 c hc e
end SH
theorem p_shorten {μ ν : nk_M} (h : RR μ ν) : p_ok (zf_N_shorten μ) (zf_M_shorten ν) := by
  obtain ⟨N, fm, pt, hA, hL, hT, hD, hS, hF⟩ := id h
  obtain ⟨a, μ', ν', -, e1, e2, e3, e4, e5, e6⟩ := k_shorten (by omega) hA.1 hA.2.1
  exact ⟨nI a, μ', ν', by unfold zf_N_shorten; rw [q_bdS]; exact e1, e2, N, fm, pt, ⟨e3, e4, fun c hc => by rw [e5 7 c (by omega)]; exact hA.2.2 c hc⟩, R_L_c hL (fun k j h => e5 k j (by omega)) (fun k j h => e6 k j (by omega)), R_T_c hT (fun k j h => e5 k j (by omega)), R_D_c hD (fun k j h => e5 k j (by omega)) (fun k j h => e6 k j (by omega)), R_S_c hS (fun k j h => e5 k j (by omega)) (fun k j h => e6 k j (by omega)), R_F_c hF (fun j h => e5 0 j (by omega)) (fun j h => e6 0 j (by omega))⟩

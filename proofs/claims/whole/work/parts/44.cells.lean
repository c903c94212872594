/-! ===== 44: all cells of a text; loose parts ===== -/
section CS
variable {k j n : Nat}
def g_fC (M M' : nk_M) : Prop := ∀ k j, k ≠ 3 → ¬ (k = 2 ∧ j = 0) → ¬ (15 ≤ k ∧ k ≤ 18) → M' k j = M k j
def g_fR (V V' : nk_M) : Prop := ∀ k j, ¬ (k = 0 ∧ (j = 6 ∨ j = 7)) → ¬ (5 ≤ k ∧ k ≤ 8) → V' k j = V k j
theorem g_fC_t {M M' M2 : nk_M} (h1 : g_fC M M') (h2 : g_fC M' M2) : g_fC M M2 := fun k j a b d => by rw [h2 k j a b d, h1 k j a b d]
theorem g_fR_t {V V' V2 : nk_M} (h1 : g_fR V V') (h2 : g_fR V' V2) : g_fR V V2 := fun k j a b => by rw [h2 k j a b, h1 k j a b]
theorem g_fC_w {c : Nat} {M M' : nk_M} (h : h_fC c M M') : g_fC M M' := fun k j a b d => h k j a b (by omega) (by omega)
theorem g_fR_w {c : Nat} {V V' : nk_M} (h : h_fR c V V') : g_fR V V' := fun k j a b => h k j a (by omega) (by omega)
theorem g_fC_r {M : nk_M} : g_fC M M := fun _ _ _ _ _ => rfl
theorem g_fR_r {V : nk_M} : g_fR V V := fun _ _ _ _ => rfl
theorem h_cells (hk : k < 4) (hj : j + n ≤ 60) : ∀ (G F t c : Nat) (M V : nk_M), n - t + 1 < G → n - t < F → t ≤ n → c ≤ 8 → h_tx k j n M V → M 3 0 = nI 1 → M 2 0 = nI c → V 0 6 = nI t → V 0 7 = nI c → (∀ i, i < c → h_ce i M V) →
    (∃ (w : Nat) (M' V' : nk_M), zf_T_readInto_b12 2 15 F (nI k) (nI j) (nI n) (nI t) M = some (nI w, M') ∧ zf_M_readsCells_b35 G (nI (60 * k + j)) (nI n) (nI 1) V = some (nI 0, V') ∧ V' 0 6 = nI w ∧ w ≤ n ∧ g_fC M M' ∧ g_fR V V') ∨
    ∃ (c' : Nat) (M' V' : nk_M), 1 ≤ c' ∧ c' ≤ 8 ∧ zf_T_readInto_b12 2 15 F (nI k) (nI j) (nI n) (nI t) M = some (-nI 9, M') ∧ zf_M_readsCells_b35 G (nI (60 * k + j)) (nI n) (nI 1) V = some (nI 1, V') ∧ M' 2 0 = nI c' ∧ V' 0 7 = nI c' ∧ (∀ i, i < c' → h_ce i M' V') ∧ g_fC M M' ∧ g_fR V V' := by
  intro G
  induction G with
  | zero => intro F t c M V h; omega
  | succ G ih =>
    intro F t c M V hG hF ht hc htx h3 h2 h6 h7 hce
    have hR : ¬ (1 ≤ c ∧ t = n) → zf_M_readsCells_b35 (G + 1) (nI (60 * k + j)) (nI n) (nI 1) V = nk_bd (zf_M_readsCell (nI (60 * k + j)) (nI n) V) (fun r1 m1 => (zf_M_readsCells_b35 G (nI (60 * k + j)) (nI n) r1 m1)) := fun hh => by
      rw [zf_M_readsCells_b35, if_neg (by decide), h7, h6]
      unfold zf_M_readsCells_b55
      by_cases e : c < 1
      · rw [if_pos (l_lt 1 e (by omega))]
      · rw [if_neg (l_nlt 1 (by omega) (by omega)), if_neg (fun z => by have := (q_le (by omega) (by omega)).mp z; omega)]
    have hz : ∀ V', zf_M_readsCells_b35 G (nI (60 * k + j)) (nI n) (nI 0) V' = some (nI 0, V') := fun V' => by
      obtain ⟨G, rfl⟩ : ∃ g, G = g + 1 := ⟨G - 1, by omega⟩
      rw [zf_M_readsCells_b35, if_pos (by decide)]; rfl
    by_cases e : t = n
    · subst e
      obtain ⟨F, rfl⟩ : ∃ g, F = g + 1 := ⟨F - 1, by omega⟩
      have hC : zf_T_readInto_b12 2 15 (F + 1) (nI k) (nI j) (nI t) (nI t) M = (if nI c ≤ 0 then some (nI t, M) else some (-nI 9, M)) := by
        rw [zf_T_readInto_b12, if_pos ((q_le (by omega) (by omega)).mpr (Nat.le_refl _)), h3, if_pos (by decide), h2]
        rfl
      by_cases e0 : c = 0
      · refine Or.inl ⟨t, M, V, ?_, ?_, h6, Nat.le_refl _, g_fC_r, g_fR_r⟩
        · rw [hC, if_pos (by rw [e0]; decide)]
        · rw [hR (by omega)]
          unfold zf_M_readsCell
          rw [h7, if_neg (l_ne 8 (by omega) (by omega) (by omega)), r_codeAt hk hj htx h6 (Nat.le_refl _), u_bd, h_cd9 (by omega), if_neg (by decide)]
          exact hz V
      · refine Or.inr ⟨c, M, V, by omega, hc, ?_, ?_, h2, h7, hce, g_fC_r, g_fR_r⟩
        · rw [hC, if_neg (l_nle 0 (by omega) (by omega))]
        · rw [zf_M_readsCells_b35, if_neg (by decide), h7, h6, if_neg (l_nlt 1 (by omega) (by omega)), if_pos ((q_le (by omega) (by omega)).mpr (Nat.le_refl _))]
          rfl
    · rw [hR (by omega)]
      rcases h_cell hk hj hc hF (by omega) htx h3 h2 h6 h7 with ⟨w, M', V', a1, a2, a3, a4, a5, a6⟩ | ⟨F', t', M', V', a1, a2, a3, a4, a5, a6, a7, a8, a9, b1, b2, b3, b4⟩
      · refine Or.inl ⟨w, M', V', a1, ?_, a3, a4, g_fC_w a5, g_fR_w a6⟩
        rw [a2, u_bd]; exact hz V'
      · rw [a1, a2, u_bd]
        rcases ih F' t' (c + 1) M' V' (by omega) a3 a5 (by omega) (h_tx_c hk htx b3 b4) a7 a8 a9 b1 (fun i hi => by
            by_cases ei : i = c
            · rw [ei]; exact b2
            · exact h_ce_c (hce i (by omega)) (by omega) b3 b4) with ⟨w, M2, V2, c1, c2, c3, c4, c5, c6⟩ | ⟨c', M2, V2, c0, c1, c2, c3, c4, c5, c6, c7, c8⟩
        · exact Or.inl ⟨w, M2, V2, c1, c2, c3, c4, g_fC_t (g_fC_w b3) c5, g_fR_t (g_fR_w b4) c6⟩
        · exact Or.inr ⟨c', M2, V2, c0, c1, c2, c3, c4, c5, c6, g_fC_t (g_fC_w b3) c7, g_fR_t (g_fR_w b4) c8⟩
/-- the class forgets all ahead of a text -/
def h_m0 (μ : nk_M) : nk_M := nk_up (q_slp 15 (nk_up (nk_up μ 2 0 (nI 0)) 2 10 (nI 0))) 3 0 (nI 0)
theorem h_m0N {μ : nk_M} {a b : Nat} (h1 : ¬ (a = 3 ∧ b = 0)) (h2 : ¬ (a = 2 ∧ (b = 0 ∨ b = 10))) (h3 : ¬ (19 ≤ a ∧ a ≤ 21)) : h_m0 μ a b = μ a b := by
  unfold h_m0
  rw [q_upO h1, q_slpN (by omega), q_upO (by omega), q_upO (by omega)]
/-- a text, on both sides -/
theorem k_text {μ ν : nk_M} (hk : k < 4) (hj : j + n ≤ 60) (htx : h_tx k j n μ ν) :
    (∃ (w : Nat) (M' V' : nk_M), w ≤ n ∧ zf_T_readInto 2 15 (nI k) (nI j) (nI n) μ = some (nI w, M') ∧ zf_M_readsCells (nI (60 * k + j)) (nI n) ν = some (nI 0, V') ∧ V' 0 6 = nI w ∧ g_fC (h_m0 μ) M' ∧ g_fR ν V') ∨
    ∃ (c : Nat) (M' V' : nk_M), 1 ≤ c ∧ c ≤ 8 ∧ zf_T_readInto 2 15 (nI k) (nI j) (nI n) μ = some (-nI 9, M') ∧ zf_M_readsCells (nI (60 * k + j)) (nI n) ν = some (nI 1, V') ∧ M' 2 0 = nI c ∧ V' 0 7 = nI c ∧ (∀ i, i < c → h_ce i M' V') ∧ g_fC (h_m0 μ) M' ∧ g_fR ν V' := by
  have hC : zf_T_readInto 2 15 (nI k) (nI j) (nI n) μ = zf_T_readInto_b12 2 15 (4094 + 1 + 1) (nI k) (nI j) (nI n) (nI 0) (h_m0 μ) := by
    unfold zf_T_readInto zf_C_forgetAll h_m0
    rw [u_pf, u_pf, e_putToSleep, u_bd, u_bd, u_pf]
    rfl
  have gR0 : g_fR ν (nk_up (nk_up ν 0 6 (nI 0)) 0 7 (nI 0)) := fun a b h1 h2 => by rw [q_upO (by omega), q_upO (by omega)]
  have tx0 : h_tx k j n (h_m0 μ) (nk_up (nk_up ν 0 6 (nI 0)) 0 7 (nI 0)) := fun t ht => by
    rw [q_upN (by omega), q_upN (by omega), h_m0N (by omega) (by omega) (by omega)]
    exact htx t ht
  have h30 : h_m0 μ 3 0 = nI 0 := by unfold h_m0; rw [q_upE]
  have hR : zf_M_readsCells (nI (60 * k + j)) (nI n) ν = (if h_cd k j n (h_m0 μ) 0 = (108 : Int32) then zf_M_readsCells_b35 nk_fu (nI (60 * k + j)) (nI n) (1 : Int32) (nk_up (nk_up (nk_up ν 0 6 (nI 0)) 0 7 (nI 0)) 0 6 (nI 1)) else nk_zr (0 : Int32) (nk_up (nk_up ν 0 6 (nI 0)) 0 7 (nI 0))) := by
    unfold zf_M_readsCells
    rw [u_pf, u_pf, u_lit 0, r_codeAt hk hj tx0 (by rw [q_upM (by omega), q_upE]) (by omega), u_bd, u_pf, q_upM (by omega), q_upE, u_lit 1, q_add]
  have hg : zf_T_goesOn 2 15 (h_cd k j n (h_m0 μ) 0) (h_m0 μ) = some (if h_cd k j n (h_m0 μ) 0 = 108 then nI 1 else nI 0, nk_up (h_m0 μ) 3 0 (nI 1)) := by
    unfold zf_T_goesOn
    rw [u_nm, h30, if_pos (by decide), u_pf, u_lit 1]
    by_cases e : h_cd k j n (h_m0 μ) 0 = 108
    · rw [if_pos e, if_pos e]; rfl
    · rw [if_neg e, if_neg e]; rfl
  have gC0 : g_fC (h_m0 μ) (nk_up (h_m0 μ) 3 0 (nI 1)) := fun a b h1 h2 h3 => q_upN h1
  rw [hC, hR]
  by_cases e : h_cd k j n (h_m0 μ) 0 = 108
  · rw [if_pos e] at hg
    have hn0 : 0 < n := Classical.byContradiction fun z => by
      rw [h_cd9 z] at e
      exact absurd e (by decide)
    have gR1 : g_fR ν (nk_up (nk_up (nk_up ν 0 6 (nI 0)) 0 7 (nI 0)) 0 6 (nI 1)) := g_fR_t gR0 (fun a b h1 h2 => q_upO (by omega))
    rw [if_pos e, h_go hk hj hn0 hg]
    rcases h_cells (k := k) (j := j) (n := n) hk hj nk_fu (4094 + 1) (0 + 1) 0 (nk_up (h_m0 μ) 3 0 (nI 1)) (nk_up (nk_up (nk_up ν 0 6 (nI 0)) 0 7 (nI 0)) 0 6 (nI 1)) (by show _ < 4096; omega) (by omega) (by omega) (by omega) (fun t ht => by
        rw [q_upN (k := 0) (v := nI 1) (by omega), q_upN (k := 3) (by omega)]; exact tx0 t ht) q_upE (by rw [q_upN (by omega)]; unfold h_m0; rw [q_upN (by omega), q_slpN (by omega), q_upM (by omega), q_upE]) q_upE (by rw [q_upM (by omega), q_upE]) (fun i hi => by omega) with ⟨w, M2, V2, c1, c2, c3, c4, c5, c6⟩ | ⟨c', M2, V2, c0, c1, c2, c3, c4, c5, c6, c7, c8⟩
    · exact Or.inl ⟨w, M2, V2, c4, c1, c2, c3, g_fC_t gC0 c5, g_fR_t gR1 c6⟩
    · exact Or.inr ⟨c', M2, V2, c0, c1, c2, c3, c4, c5, c6, g_fC_t gC0 c7, g_fR_t gR1 c8⟩
  · rw [if_neg e] at hg
    obtain ⟨M', m1, m2⟩ := h_fail (F := 4094 + 1) hk hj h30 (by omega) (by omega) (show 0 ≤ n by omega) hg
    rw [if_neg e]
    refine Or.inl ⟨0, M', _, by omega, m1, rfl, by rw [q_upM (by omega), q_upE], ?_, gR0⟩
    rcases m2 with rfl | rfl
    · exact g_fC_r
    · exact gC0
end CS
/-! loose parts -/
def q_any (p : Nat → Bool) : Nat → Bool
  | 0 => false
  | n + 1 => q_any p n || p n
theorem b_ps_any {p : Nat → Nat} {N : Nat} : ∀ n, (q_any (fun x => decide (N ≤ p x)) n = false → b_ps p n < 2 ^ N) ∧ (q_any (fun x => decide (N ≤ p x)) n = true → 2 ^ N ≤ b_ps p n)
  | 0 => ⟨fun _ => Nat.two_pow_pos N, fun h => (by cases h)⟩
  | n + 1 => by
    obtain ⟨h1, h2⟩ := b_ps_any (p := p) (N := N) n
    have hu : q_any (fun x => decide (N ≤ p x)) (n + 1) = (q_any (fun x => decide (N ≤ p x)) n || decide (N ≤ p n)) := rfl
    have hv : b_ps p (n + 1) = b_ps p n ||| 2 ^ p n := rfl
    rw [hu, hv]
    cases e : q_any (fun x => decide (N ≤ p x)) n
    · by_cases e2 : N ≤ p n
      · refine ⟨fun h => ?_, fun _ => ?_⟩
        · rw [decide_eq_true e2] at h; cases h
        · exact Nat.le_trans (Nat.pow_le_pow_right (by decide) e2) Nat.right_le_or
      · refine ⟨fun _ => Nat.or_lt_two_pow (h1 e) (Nat.pow_lt_pow_right (by decide) (by omega)), fun h => ?_⟩
        rw [decide_eq_false e2] at h; cases h
    · exact ⟨fun h => (by cases h), fun _ => Nat.le_trans (h2 e) Nat.left_le_or⟩
theorem q_any_no {p : Nat → Bool} : ∀ {n : Nat}, q_any p n = false → ∀ x, x < n → p x = false
  | 0, _, x, h => by omega
  | n + 1, h, x, hx => by
    have hu : (q_any p n || p n) = false := h
    rw [Bool.or_eq_false_iff] at hu
    by_cases e : x = n
    · rw [e]; exact hu.2
    · exact q_any_no hu.1 x (by omega)
def q_lo (N : Nat) (fm : Nat → Nat) (pt : Nat → Nat → Nat) (c : Nat) : Bool := decide (fm c ≠ 0) && q_any (fun x => decide (N ≤ pt c x)) (q_np (fm c))
section LO
variable {N : Nat} {fm : Nat → Nat} {pt : Nat → Nat → Nat} {M V : nk_M}
/-- the cells that were read -/
def h_al (N : Nat) (fm : Nat → Nat) (pt : Nat → Nat → Nat) (M V : nk_M) : Prop := ∀ c, c < N → fm c ≤ 6 ∧ M 17 c = nI (fm c) ∧ V 7 c = nI (fm c) ∧ M 15 c = V 5 c ∧ (V 5 c = nI 0 ∨ V 5 c = nI 1 ∨ V 5 c = nI 2) ∧ M 16 c = V 6 c ∧ (∃ p, 1 ≤ p ∧ p ≤ 9 ∧ M 16 c = nI p) ∧ ∀ x, x < q_np (fm c) → M 18 (3 * c + x) = nI (pt c x) ∧ V 8 (3 * c + x) = nI (pt c x) ∧ (fm c = 0 → pt c x ≤ 9) ∧ (fm c ≠ 0 → pt c x < 8)
theorem h_al_of (h : ∀ i, i < N → h_ce i M V) : h_al N (fun c => (M 17 c).toNatClampNeg) (fun c x => (M 18 (3 * c + x)).toNatClampNeg) M V := fun c hc => by
  obtain ⟨f, f6, f1, f2, ⟨κ, κ2, k1, k2⟩, ⟨p, p1, p9, p2, p3⟩, hp⟩ := h c hc
  have e : (M 17 c).toNatClampNeg = f := by rw [f1, q_clamp (by omega)]
  simp only [e]
  refine ⟨f6, f1, f2, by rw [k1, k2], ?_, by rw [p2, p3], ⟨p, p1, p9, p2⟩, fun x hx => ?_⟩
  · rcases (show κ = 0 ∨ κ = 1 ∨ κ = 2 by omega) with rfl | rfl | rfl
    · exact Or.inl k2
    · exact Or.inr (Or.inl k2)
    · exact Or.inr (Or.inr k2)
  · obtain ⟨y, y1, y2, y3, y4⟩ := hp x hx
    have y9 : y ≤ 9 := by by_cases z : f = 0
                          · exact y3 z
                          · have := y4 z; omega
    rw [y1, q_clamp (by omega)]
    exact ⟨rfl, y2, y3, y4⟩
theorem e_partSetL {c : Nat} (hc : c < 8) (t1 : fm c ≤ 6) (t2 : M 17 c = nI (fm c)) (h0 : fm c ≠ 0) (t7 : ∀ x, x < q_np (fm c) → M 18 (3 * c + x) = nI (pt c x) ∧ pt c x < 8) : zf_C_partSet 2 15 (nI c) M = some (nI (b_ps (pt c) (q_np (fm c))), M) := by
  have hn3 := q_np3 (fm c)
  unfold zf_C_partSet
  rw [q_ald hc (by omega), t2, if_neg (l_ne 0 h0 (by omega) (by omega)), u_lit 0]
  have main : ∀ (f i : Nat), i ≤ q_np (fm c) → q_np (fm c) - i < f → zf_C_partSet_b15 2 15 f (nI c) (nI (b_ps (pt c) i)) (nI i) M = some (nI (b_ps (pt c) (q_np (fm c))), M) := by
    intro f
    induction f with
    | zero => intro i _ h; omega
    | succ f ih =>
      intro i hi hf
      rw [zf_C_partSet_b15, q_ald hc (by omega), t2, q_tld (by omega) (by omega), q_t2 t1]
      by_cases e : q_np (fm c) ≤ i
      · rw [if_pos ((q_le (by omega) (by omega)).mpr e), show i = q_np (fm c) by omega]
      · obtain ⟨y1, y4⟩ := t7 i (by omega)
        rw [if_neg (fun z => e ((q_le (by omega) (by omega)).mp z)), e_partAsTold hc t2 t1 (by omega), u_bd, u_nm, show M (15 + 3) (3 * c + i) = nI (pt c i) from y1, b_one (by omega), b_or, u_lit 1, q_add]
        exact ih (i + 1) (by omega) (by omega)
  exact main nk_fu 0 (by omega) (by show _ < 4096; omega)
theorem c_loose (hN : N ≤ 8) (h2 : M 2 0 = nI N) (ha : h_al N fm pt M V) : ∀ (m f i : Nat), i + m = N → m < f → (∀ a, a < i → q_lo N fm pt a = false) → zf_C_firstLoose_b2 2 15 f (nI i) M = some (q_ft (q_lo N fm pt) N (-nI 9), M) := by
  intro m
  induction m with
  | zero =>
    intro f i hi hf hn
    obtain ⟨f, rfl⟩ : ∃ g, f = g + 1 := ⟨f - 1, by omega⟩
    rw [zf_C_firstLoose_b2, h2, if_pos ((q_le (by omega) (by omega)).mpr (by omega)), q_ft_none (fun c hc => hn c (by omega))]
    rfl
  | succ m ih =>
    intro f i hi hf hn
    obtain ⟨f, rfl⟩ : ∃ g, f = g + 1 := ⟨f - 1, by omega⟩
    obtain ⟨t1, t2, -, -, -, -, -, t7⟩ := ha i (by omega)
    have hnp := q_np3 (fm i)
    have hgo : q_lo N fm pt i = false → zf_C_firstLoose_b2 2 15 f (nI (i + 1)) M = some (q_ft (q_lo N fm pt) N (-nI 9), M) := fun e => ih f (i + 1) (by omega) (by omega) (fun a hh => by
      by_cases ea : a = i
      · rw [ea]; exact e
      · exact hn a (by omega))
    rw [zf_C_firstLoose_b2, h2, if_neg (fun z => by have := (q_le (by omega) (by omega)).mp z; omega)]
    by_cases h0 : fm i = 0
    · have hps : zf_C_partSet 2 15 (nI i) M = some (nI 0, M) := by
        unfold zf_C_partSet
        rw [q_ald (by omega) (by omega), t2, h0, if_pos (by decide)]
        rfl
      rw [hps, u_bd, h2, b_one hN, if_pos ((q_lt (by omega) (by have : 2 ^ N ≤ 2 ^ 8 := Nat.pow_le_pow_right (by decide) hN; omega)).mpr (Nat.two_pow_pos N)), u_lit 1, q_add]
      exact hgo (by unfold q_lo; rw [h0]; rfl)
    · have hb := b_ps_any (p := pt i) (N := N) (q_np (fm i))
      have hlt : b_ps (pt i) (q_np (fm i)) < 256 := b_ps_lt (fun x hx => (t7 x hx).2.2.2 h0)
      have hpw : 2 ^ N ≤ 2 ^ 8 := Nat.pow_le_pow_right (by decide) hN
      rw [e_partSetL (by omega) t1 t2 h0 (fun x hx => ⟨(t7 x hx).1, (t7 x hx).2.2.2 h0⟩), u_bd, h2, b_one hN]
      have hlo : q_lo N fm pt i = q_any (fun x => decide (N ≤ pt i x)) (q_np (fm i)) := by unfold q_lo; rw [decide_eq_true h0]; rfl
      cases e : q_any (fun x => decide (N ≤ pt i x)) (q_np (fm i))
      · rw [if_pos ((q_lt (by omega) (by omega)).mpr (hb.1 e)), u_lit 1, q_add]
        exact hgo (by rw [hlo, e])
      · have := hb.2 e
        rw [if_neg (fun z => by have := (q_lt (by omega) (by omega)).mp z; omega), q_ft_some (c := i) (by omega) (by rw [hlo, e]) hn]
theorem r_loose_i (hN : N ≤ 8) (h7 : V 0 7 = nI N) (ha : h_al N fm pt M V) {c : Nat} (hc : c < N) (rc : Int32 → Int32 → nk_M → Option (Int32 × nk_M)) (y0 : Int32) : ∀ (m f x : Nat), x + m = q_np (fm c) → m < f → zf_M_looseOne_b16 rc f (if (decide (fm c ≠ 0) && q_any (fun x => decide (N ≤ pt c x)) x) then nI c else y0) (nI c) (nI x) V = rc (if q_lo N fm pt c then nI c else y0) (nI c + (-1)) V := by
  obtain ⟨t1, -, t2, -, -, -, -, t7⟩ := ha c hc
  have hnp := q_np3 (fm c)
  intro m
  induction m with
  | zero =>
    intro f x hx hf
    obtain ⟨f, rfl⟩ : ∃ g, f = g + 1 := ⟨f - 1, by omega⟩
    rw [zf_M_looseOne_b16, q_ald (by omega) (by omega), t2, r_partsOf t1, u_bd, if_pos ((q_le (by omega) (by omega)).mpr (by omega)), show x = q_np (fm c) by omega]
    rfl
  | succ m ih =>
    intro f x hx hf
    obtain ⟨f, rfl⟩ : ∃ g, f = g + 1 := ⟨f - 1, by omega⟩
    have ih1 := ih f (x + 1) (by omega) (by omega)
    have hu : q_any (fun x => decide (N ≤ pt c x)) (x + 1) = (q_any (fun x => decide (N ≤ pt c x)) x || decide (N ≤ pt c x)) := rfl
    rw [hu] at ih1
    rw [zf_M_looseOne_b16, q_ald (by omega) (by omega), t2, r_partsOf t1, u_bd, if_neg (fun z => by have := (q_le (by omega) (by omega)).mp z; omega), q_ald (by omega) (by omega), t2]
    unfold zf_M_looseOne_b59 zf_M_looseOne_b60
    by_cases h0 : fm c = 0
    · rw [if_pos (by rw [h0]; decide), u_lit 1, q_add]
      rw [decide_eq_false (fun z => z h0), Bool.false_and] at ih1
      rw [decide_eq_false (fun z => z h0), Bool.false_and]
      exact ih1
    · obtain ⟨-, y2, -, y4⟩ := t7 x (by omega)
      have := y4 h0
      rw [decide_eq_true h0, Bool.true_and] at ih1
      rw [if_neg (l_nle 0 (by omega) (by omega)), u_lit 3, q_mul, q_add, q_ald (by omega) (by omega), y2, h7, decide_eq_true h0, Bool.true_and, u_lit 1, q_add]
      by_cases e : N ≤ pt c x
      · rw [if_neg (fun z => by have := (q_lt (by omega) (by omega)).mp z; omega)]
        rw [decide_eq_true e, Bool.or_true, if_pos rfl] at ih1
        exact ih1
      · rw [if_pos ((q_lt (by omega) (by omega)).mpr (by omega))]
        rw [decide_eq_false e, Bool.or_false] at ih1
        exact ih1
theorem r_loose (hN : N ≤ 8) (h7 : V 0 7 = nI N) (ha : h_al N fm pt M V) : ∀ (m f : Nat) (y : Int32), m ≤ N → m < f → zf_M_looseOne_b10 f y (nI m - nI 1) V = some (q_ft (q_lo N fm pt) m y, V) := by
  intro m
  induction m with
  | zero =>
    intro f y _ hf
    obtain ⟨f, rfl⟩ : ∃ g, f = g + 1 := ⟨f - 1, by omega⟩
    rw [zf_M_looseOne_b10, if_pos (by decide)]
    rfl
  | succ m ih =>
    intro f y hm hf
    obtain ⟨f, rfl⟩ : ∃ g, f = g + 1 := ⟨f - 1, by omega⟩
    have hnp := q_np3 (fm m)
    have h1 := r_loose_i hN h7 ha (c := m) (by omega) (zf_M_looseOne_b10 f) y (q_np (fm m)) nk_fu 0 (by omega) (by show _ < 4096; omega)
    rw [show (decide (fm m ≠ 0) && q_any (fun x => decide (N ≤ pt m x)) 0) = false by show (_ && false) = false; rw [Bool.and_false]] at h1
    rw [zf_M_looseOne_b10, q_sub (by omega), show m + 1 - 1 = m by omega, if_neg (q_nlt0 (by omega)), u_lit 0]
    refine Eq.trans h1 ?_
    have e1 : nI m + (-1) = nI m - nI 1 := by rw [Int32.sub_eq_add_neg]; rfl
    rw [e1, ih f _ (by omega) (by omega)]
    rfl
theorem k_loose (hN : N ≤ 8) (h2 : M 2 0 = nI N) (h7 : V 0 7 = nI N) (ha : h_al N fm pt M V) : zf_C_firstLoose 2 15 M = some (q_ft (q_lo N fm pt) N (-nI 9), M) ∧ zf_M_looseOne V = some (q_ft (q_lo N fm pt) N (-nI 9), V) ∧ ((∃ c, c < N ∧ q_ft (q_lo N fm pt) N (-nI 9) = nI c) ∨ (q_ft (q_lo N fm pt) N (-nI 9) = -nI 9 ∧ ∀ c, c < N → q_lo N fm pt c = false)) := by
  refine ⟨c_loose hN h2 ha N nk_fu 0 (by omega) (by show _ < 4096; omega) (fun a h => by omega), ?_, ?_⟩
  · unfold zf_M_looseOne
    rw [u_nm, h7, u_lit 1]
    exact r_loose hN h7 ha N nk_fu _ (Nat.le_refl _) (by show _ < 4096; omega)
  · rcases q_least (q_lo N fm pt) N N 0 (by omega) with z | ⟨c, z1, z2, z3, z4⟩
    · exact Or.inr ⟨q_ft_none (fun c hc => z c (by omega) hc), fun c hc => z c (by omega) hc⟩
    · exact Or.inl ⟨c, z2, q_ft_some z2 z3 (fun a ha => z4 a (by omega) ha)⟩
end LO

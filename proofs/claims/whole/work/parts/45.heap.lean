/-! ===== 45: heap ===== -/
section HP
variable {N : Nat} {fm : Nat → Nat} {pt : Nat → Nat → Nat}
theorem r_take_i {c : Nat} (hc : c < 8) (hf : fm c ≤ 6) (rc : Int32 → nk_M → Option (Int32 × nk_M)) : ∀ (m f x : Nat) (V : nk_M), x + m = q_np (fm c) → m < f → V 3 c = nI (fm c) → ∃ V', zf_M_heap_b166 rc f (nI c) (nI x) V = rc (nI (c + 1)) V' ∧ (∀ a b, ¬ (a = 4 ∧ 3 * c + x ≤ b ∧ b < 3 * c + 3) → V' a b = V a b) ∧ ∀ y, x ≤ y → y < q_np (fm c) → V' 4 (3 * c + y) = V 8 (3 * c + y) := by
  have hnp := q_np3 (fm c)
  intro m
  induction m with
  | zero =>
    intro f x V hx hf h3
    obtain ⟨f, rfl⟩ : ∃ g, f = g + 1 := ⟨f - 1, by omega⟩
    refine ⟨V, ?_, fun _ _ _ => rfl, fun y h1 h2 => by omega⟩
    rw [zf_M_heap_b166, q_ald hc (by omega), h3, r_partsOf (by omega), u_bd, if_pos ((q_le (by omega) (by omega)).mpr (by omega)), u_lit 1, q_add]
  | succ m ih =>
    intro f x V hx hf h3
    obtain ⟨f, rfl⟩ : ∃ g, f = g + 1 := ⟨f - 1, by omega⟩
    obtain ⟨V', e1, e2, e3⟩ := ih f (x + 1) (nk_up V 4 (3 * c + x) (V 8 (3 * c + x))) (by omega) (by omega) (by rw [q_upN (by omega)]; exact h3)
    refine ⟨V', ?_, fun a b h => by rw [e2 a b (by omega), q_upO (by omega)], fun y h1 h2 => ?_⟩
    · rw [zf_M_heap_b166, q_ald hc (by omega), h3, r_partsOf (by omega), u_bd, if_neg (fun z => by have := (q_le (by omega) (by omega)).mp z; omega), u_lit 3, q_mul, q_add, q_ald (by omega) (by omega), q_ast (by omega) (by omega), u_lit 1, q_add]
      exact e1
    · by_cases e : y = x
      · rw [e, e2 4 _ (by omega), q_upE]
      · rw [e3 y (by omega) h2, q_upN (by omega)]
/-- the reference's end of heap -/
def r_end (V : nk_M) : nk_M := nk_up (nk_up (nk_up (nk_up (nk_up V 0 41 (nI 0)) 0 16 (nI 0)) 0 31 (nI 0)) 0 32 (nI 0)) 0 33 (nI 0)
theorem r_take (hN : N ≤ 8) : ∀ (m f i : Nat) (V : nk_M), i + m = N → m < f → V 0 1 = nI N → (∀ c, c < N → fm c ≤ 6 ∧ V 7 c = nI (fm c)) → ∃ V', zf_M_heap_b112 f (nI i) V = some (nI N, nk_up (q_slpR (r_end V')) 0 0 (nI 0)) ∧ (∀ a b, ¬ ((1 ≤ a ∧ a ≤ 3 ∧ i ≤ b) ∨ (a = 4 ∧ 3 * i ≤ b)) → V' a b = V a b) ∧ ∀ c, i ≤ c → c < N → V' 1 c = V 5 c ∧ V' 2 c = V 6 c ∧ V' 3 c = V 7 c ∧ ∀ x, x < q_np (fm c) → V' 4 (3 * c + x) = V 8 (3 * c + x) := by
  intro m
  induction m with
  | zero =>
    intro f i V hi hf h1 h7
    obtain ⟨f, rfl⟩ : ∃ g, f = g + 1 := ⟨f - 1, by omega⟩
    refine ⟨V, ?_, fun _ _ _ => rfl, fun c h1 h2 => by omega⟩
    rw [zf_M_heap_b112, h1, if_pos ((q_le (by omega) (by omega)).mpr (by omega)), u_pf, u_pf, u_pf, u_pf, u_pf, r_allAsleep, u_bd, r_refused, u_bd, q_slpRN (by omega)]
    rw [q_upM (by omega), q_upM (by omega), q_upM (by omega), q_upM (by omega), q_upM (by omega), h1]
    rfl
  | succ m ih =>
    intro f i V hi hf h1 h7
    obtain ⟨f, rfl⟩ : ∃ g, f = g + 1 := ⟨f - 1, by omega⟩
    have i8 : i < 8 := by omega
    obtain ⟨g6, g7⟩ := h7 i (by omega)
    have hnp := q_np3 (fm i)
    obtain ⟨V1, a1, a2, a3⟩ := r_take_i (fm := fm) (c := i) i8 g6 (zf_M_heap_b112 f) (q_np (fm i)) nk_fu 0 (nk_up (nk_up (nk_up V 1 i (V 5 i)) 2 i (V 6 i)) 3 i (V 7 i)) (by omega) (by show _ < 4096; omega) (by rw [q_upE]; exact g7)
    obtain ⟨V', e1, e2, e3⟩ := ih f (i + 1) V1 (by omega) (by omega) (by rw [a2 0 1 (by omega), q_upN (by omega), q_upN (by omega), q_upN (by omega)]; exact h1) (fun c hc => by rw [a2 7 c (by omega), q_upN (by omega), q_upN (by omega), q_upN (by omega)]; exact h7 c hc)
    refine ⟨V', ?_, fun a b h => by rw [e2 a b (by omega), a2 a b (by omega), q_upO (by omega), q_upO (by omega), q_upO (by omega)], fun c h1 h2 => ?_⟩
    · rw [zf_M_heap_b112, h1, if_neg (fun z => by have := (q_le (by omega) (by omega)).mp z; omega), q_ald i8 (by omega), q_ast i8 (by omega), q_ald i8 (by omega), q_upN (by omega), q_ast i8 (by omega), q_ald i8 (by omega), q_upN (by omega), q_upN (by omega), q_ast i8 (by omega), u_lit 0, a1]
      exact e1
    · by_cases e : c = i
      · subst e
        rw [e2 1 c (by omega), e2 2 c (by omega), e2 3 c (by omega), a2 1 c (by omega), a2 2 c (by omega), a2 3 c (by omega)]
        refine ⟨by rw [q_upN (by omega), q_upN (by omega), q_upE], by rw [q_upN (by omega), q_upE], by rw [q_upE], fun x hx => ?_⟩
        rw [e2 4 _ (by omega), a3 x (by omega) hx, q_upN (by omega), q_upN (by omega), q_upN (by omega)]
      · obtain ⟨z1, z2, z3, z4⟩ := e3 c (by omega) h2
        rw [z1, z2, z3, a2 5 c (by omega), a2 6 c (by omega), a2 7 c (by omega)]
        refine ⟨by rw [q_upN (by omega), q_upN (by omega), q_upN (by omega)], by rw [q_upN (by omega), q_upN (by omega), q_upN (by omega)], by rw [q_upN (by omega), q_upN (by omega), q_upN (by omega)], fun x hx => ?_⟩
        rw [z4 x hx, a2 8 _ (by omega), q_upN (by omega), q_upN (by omega), q_upN (by omega)]
variable {μ ν : nk_M}
theorem RR_scr {μ' ν' : nk_M} (h : RR μ ν) (hC : ∀ k j, k ≠ 2 → k ≠ 3 → ¬ (15 ≤ k ∧ k ≤ 23) → μ' k j = μ k j) (hT : R_T μ') (hR : ∀ k j, ¬ (k = 0 ∧ (j = 6 ∨ j = 7)) → ¬ (5 ≤ k ∧ k ≤ 8) → ν' k j = ν k j) : RR μ' ν' := by
  obtain ⟨N, fm, pt, hA, hL, -, hD, hS, hF⟩ := h
  exact ⟨N, fm, pt, R_A_c hA (fun k j h => hC k j (by omega) (by omega) (by omega)) (fun k j h => hR k j (by omega) (by omega)), R_L_c hL (fun k j h => hC k j (by omega) (by omega) (by omega)) (fun k j h => hR k j (by omega) (by omega)), hT, R_D_c hD (fun k j h => hC k j (by omega) (by omega) (by omega)) (fun k j h => hR k j (by omega) (by omega)), R_S_c hS (fun k j h => hC k j (by omega) (by omega) (by omega)) (fun k j h => hR k j (by omega) (by omega)), R_F_c hF (fun j h => hC 0 j (by omega) (by omega) (by omega)) (fun j h => hR 0 j (by omega) (by omega))⟩
theorem p_heap (a b c d : Int32) (h : RR μ ν) : p_ok (zf_N_heap a b c d μ) (zf_M_heap a b c d ν) := by
  obtain ⟨N, fm, pt, hA, hL, hT, hD, hS, hF⟩ := id h
  have hf := RR_fault h (nI 0)
  have fin : ∀ {x : Int32}, zf_N_heap a b c d μ = some (x, nk_up μ 0 6 (nI 0)) → zf_M_heap a b c d ν = nk_bd (zf_M_refused x ν) (fun r1 m1 => some (r1, m1)) → p_ok (zf_N_heap a b c d μ) (zf_M_heap a b c d ν) := fun {x} e1 e2 => ⟨x, _, _, e1, e2.trans (by rw [r_refused, u_bd]), hf⟩
  have ol : (a < 0 ∨ nI 4 ≤ a) → p_ok (zf_N_heap a b c d μ) (zf_M_heap a b c d ν) := fun z => by
    obtain ⟨g1, g2⟩ := hs_out (x := a) (nk_up μ 0 6 0) ν z
    refine fin (x := -1) ?_ ?_
    · unfold zf_N_heap
      rw [u_pf, g1]; rfl
    · unfold zf_M_heap
      rw [g2]; rfl
  rcases pk_ix a (n := 4) (by omega) with z | z | ⟨k, hk, rfl⟩
  · exact ol (Or.inl z)
  · exact ol (Or.inr z)
  obtain ⟨g1, g2⟩ := hs_in (k := k) (nk_up μ 0 6 (nI 0)) ν hk
  have eN : zf_N_heap (nI k) b c d μ = nk_bd (zf_N_isLane b (nk_up μ 0 6 (nI 0))) (fun r2 m3 => (if r2 = 0 then some ((-2 : Int32), m3) else nk_bd (zf_S_rangeFault (nI k) b c d m3) (fun r3 m4 => (if r3 = 0 then nk_bd (zf_T_readInto 2 15 (nI k) c d m4) (fun r4 m5 => (if r4 = (-9 : Int32) then nk_bd (zf_C_firstLoose 2 15 m5) (fun r5 m6 => (if r5 = (-9 : Int32) then nk_bd (zf_C_becomeLike 1 6 2 15 m6) (fun _ m7 => nk_bd (zf_C_startLatest 1 6 m7) (fun _ m8 => nk_pf m8 4 0 (0 : Int32) (fun m9 => some ((m9 1 0), m9)))) else some ((-200 : Int32) - r5, m6))) else some ((-100 : Int32) - r4, m5))) else nk_bd (zf_N_faulted r3 m4) (fun r8 m10 => some (r8, m10)))))) := by
    unfold zf_N_heap
    rw [u_pf, u_lit 0, g1, u_bd, if_neg (by decide)]
  have eM : zf_M_heap (nI k) b c d ν = nk_bd (zf_M_in (b.toInt64) (0 : Int64) (2 : Int64) ν) (fun r2 m2 => (if r2 = 0 then nk_bd (zf_M_refused (-2 : Int32) m2) (fun r8 m9 => some (r8, m9)) else nk_bd (zf_M_cellsBarred (nI k) b c (d.toInt64) m2) (fun r3 m3 => (if 0 ≤ r3 then nk_bd (zf_M_readsCells (((60 : Int32) * nI k) + c) d m3) (fun r4 m4 => (if r4 = 0 then nk_bd (zf_M_refused ((-100 : Int32) - (m4 0 6)) m4) (fun r7 m8 => some (r7, m8)) else nk_bd (zf_M_looseOne m4) (fun r5 m5 => (if r5 < 0 then nk_pf m5 0 1 (m5 0 7) (fun m6 => (zf_M_heap_b112 nk_fu (0 : Int32) m6)) else nk_bd (zf_M_refused ((-200 : Int32) - r5) m5) (fun r6 m7 => some (r6, m7)))))) else some (r3, m3))))) := by
    unfold zf_M_heap
    rw [g2, u_bd, if_pos (by decide)]
  rw [e_isLane, u_bd] at eN
  by_cases hl : 0 ≤ b.toInt ∧ b.toInt ≤ 2
  rotate_left
  · rw [if_neg hl, if_pos (by decide)] at eN
    rw [r_inF (x := b) ν 0 2 (by decide) (by decide) hl, u_bd, if_pos (by decide)] at eM
    exact fin eN eM
  rw [if_pos hl, if_neg (by decide)] at eN
  rw [r_inT (x := b) ν 0 2 (by decide) (by decide) hl, u_bd, if_neg (by decide)] at eM
  obtain ⟨f, f4, f1, f2, f3⟩ := k_range (lane := b) (i := c) (n := d) (y := d.toInt64) (R_S_f hS (nI 0)) hk hl (Int32.toInt_toInt64 d)
  rw [f1, u_bd] at eN
  rw [f2] at eM
  by_cases e0 : f = 0
  rotate_left
  · rw [if_neg (l_ne 0 e0 (by omega) (by omega)), e_faulted, u_bd, q_upU] at eN
    rw [if_neg e0, u_bd, if_neg (q_nf (by omega) f4)] at eM
    exact ⟨_, _, _, eN, eM, RR_fault h (nI f)⟩
  obtain ⟨s, j, n, hs60, rfl, rfl, hjm, hrow⟩ := f3 e0
  rw [if_pos (by rw [e0]; decide)] at eN
  rw [if_pos e0, u_bd, if_pos (by decide), show (60 : Int32) * nI k = nI (60 * k) from q_mul 60 k, q_add] at eM
  have htx : h_tx k j n (nk_up μ 0 6 (nI 0)) ν := fun t ht => by
    rw [show 60 * k + j + t = 60 * k + (j + t) by omega]
    exact hrow (j + t) (by omega)
  -- what is left of the class where no heap comes of it
  have back : ∀ {M' V' : nk_M}, g_fC (h_m0 (nk_up μ 0 6 (nI 0))) M' → g_fR ν V' → RR M' (nk_up V' 0 0 (nI 0)) := fun {M' V'} hC hR => by
    refine RR_scr hf (fun k j h1 h2 h3 => ?_) ⟨?_, fun c hc => ?_⟩ (fun k j h1 h2 => ?_)
    · rw [hC k j h2 (by omega) (by omega), h_m0N (by omega) (by omega) (by omega)]
    · rw [hC 2 9 (by omega) (by omega) (by omega), h_m0N (by omega) (by omega) (by omega), q_upN (by omega)]; exact hT.1
    · rw [hC 22 c (by omega) (by omega) (by omega), h_m0N (by omega) (by omega) (by omega), q_upN (by omega)]; exact hT.2 c hc
    · by_cases e : k = 0 ∧ j = 0
      · rw [e.1, e.2, q_upE, q_upE]
      · rw [q_upO e, q_upO e, hR k j h1 h2]
  rcases k_text (k := k) (j := j) (n := n) hk (by omega) htx with ⟨w, M', V', hw, t1, t2, t3, t4, t5⟩ | ⟨c, M', V', c1, c8, t1, t2, t3, t4, t5, t6, t7⟩
  · rw [t1, u_bd, if_neg (l_m9 (by omega))] at eN
    rw [t2, u_bd, if_pos (by decide), t3, r_refused, u_bd] at eM
    exact ⟨_, _, _, eN, eM, back t4 t5⟩
  rw [t1, u_bd, if_pos (by decide)] at eN
  rw [t2, u_bd, if_neg (by decide)] at eM
  have hal := h_al_of t5
  generalize (fun c => (M' 17 c).toNatClampNeg) = fm' at hal
  generalize (fun c x => (M' 18 (3 * c + x)).toNatClampNeg) = pt' at hal
  obtain ⟨l1, l2, l3⟩ := k_loose c8 t3 t4 hal
  rw [l1, u_bd] at eN
  rw [l2, u_bd] at eM
  rcases l3 with ⟨x, hx, e1⟩ | ⟨e1, e2⟩
  · rw [e1, if_neg (l_m9 (by omega))] at eN
    rw [e1, if_neg (q_nlt0 (by omega)), r_refused, u_bd] at eM
    exact ⟨_, _, _, eN, eM, back t6 t7⟩
  · obtain ⟨μ', m1, m2, m3, m4, m5, m6⟩ := e_like (o := 1) (B := 6) (p := 2) (P := 15) M' (by omega) (by omega) (by omega) (by omega) (by omega) (by omega)
    rw [e1, if_pos (by decide), m1, u_bd, c_startLatest, u_bd, u_pf, u_lit 0] at eN
    rw [e1, if_pos (by decide), u_pf, t4] at eM
    obtain ⟨V2, v1, v2, v3⟩ := r_take (fm := fm') c8 c nk_fu 0 (nk_up V' 0 1 (nI c)) (by omega) (by show _ < 4096; omega) q_upE (fun x hx => by rw [q_upN (by omega)]; exact ⟨(hal x hx).1, (hal x hx).2.2.1⟩)
    -- what lies where in the end
    have cN : ∀ a b, ¬ (6 ≤ a ∧ a ≤ 12) → (a = 1 → b ≠ 0 ∧ (b < 10 ∨ 14 < b)) → ¬ (a = 4 ∧ b = 0) → (nk_up (nk_up (nk_up (nk_up (nk_up μ' 1 11 (nI 0)) 1 12 (nI 0)) 1 13 (nI 0)) 1 14 (nI 0)) 4 0 (nI 0)) a b = M' a b := fun a b h1 h2 h3 => by
      rw [q_upO h3, q_upO (by omega), q_upO (by omega), q_upO (by omega), q_upO (by omega), m6 a b (by omega) (by omega)]
    have cR : ∀ a b, 6 ≤ a → a ≤ 12 → (nk_up (nk_up (nk_up (nk_up (nk_up μ' 1 11 (nI 0)) 1 12 (nI 0)) 1 13 (nI 0)) 1 14 (nI 0)) 4 0 (nI 0)) a b = μ' a b := fun a b h1 h2 => by
      rw [q_upN (by omega), q_upN (by omega), q_upN (by omega), q_upN (by omega), q_upN (by omega)]
    have cM : ∀ a b, a ≠ 3 → ¬ (a = 2 ∧ (b = 0 ∨ b = 10)) → ¬ (15 ≤ a ∧ a ≤ 21) → M' a b = (nk_up μ 0 6 (nI 0)) a b := fun a b h1 h2 h3 => by
      rw [t6 a b h1 (by omega) (by omega), h_m0N (by omega) (by omega) (by omega)]
    have cS : ∀ y x, y = 19 ∨ y = 21 → x < 8 → M' y x = -nI 9 := fun y x hy hx => by
      rw [t6 y x (by omega) (by omega) (by omega)]
      unfold h_m0
      rw [q_upN (by omega)]
      rcases hy with rfl | rfl
      · exact q_slp4 (B := 15) hx
      · exact q_slp6 (B := 15) hx
    have rN : ∀ a b, ¬ (1 ≤ a ∧ a ≤ 4) → ¬ (5 ≤ a ∧ a ≤ 9) → a ≠ 12 → (a = 0 → b ≠ 0 ∧ b ≠ 1 ∧ b ≠ 6 ∧ b ≠ 7 ∧ b ≠ 16 ∧ b ≠ 41 ∧ (b < 31 ∨ 33 < b)) → (nk_up (q_slpR (r_end V2)) 0 0 (nI 0)) a b = ν a b := fun a b h1 h2 h3 h4 => by
      rw [q_upO (by omega), q_slpRN (by omega)]
      unfold r_end
      rw [q_upO (by omega), q_upO (by omega), q_upO (by omega), q_upO (by omega), q_upO (by omega), v2 a b (by omega), q_upO (by omega), t7 a b (by omega) (by omega)]
    have rE : ∀ a b, 1 ≤ a → a ≤ 4 → (nk_up (q_slpR (r_end V2)) 0 0 (nI 0)) a b = V2 a b := fun a b h1 h2 => by
      rw [q_upN (by omega), q_slpRN (by omega)]
      unfold r_end
      rw [q_upN (by omega), q_upN (by omega), q_upN (by omega), q_upN (by omega), q_upN (by omega)]
    have r0 : ∀ b, b = 16 ∨ b = 31 ∨ b = 32 ∨ b = 33 ∨ b = 41 → (nk_up (q_slpR (r_end V2)) 0 0 (nI 0)) 0 b = nI 0 := fun b hb => by
      rw [q_upM (by omega), q_slpRN (by omega)]
      unfold r_end
      rcases hb with rfl | rfl | rfl | rfl | rfl <;> simp (disch := omega) only [q_upM, q_upE]
    have hv := fun x (hx : x < c) => v3 x (by omega) hx
    refine ⟨nI c, (nk_up (nk_up (nk_up (nk_up (nk_up μ' 1 11 (nI 0)) 1 12 (nI 0)) 1 13 (nI 0)) 1 14 (nI 0)) 4 0 (nI 0)), (nk_up (q_slpR (r_end V2)) 0 0 (nI 0)), eN.trans ?_, eM.trans v1, c, fm', pt', ⟨⟨c8, ?_, ?_, fun x hx => ?_⟩, ⟨⟨?_, ?_⟩, fun x hx => ?_, fun x hx => ?_, fun x hx e => ?_, fun x hx => ?_⟩, fun x hx => ?_⟩, ⟨?_, ?_, ?_, ?_, 0, by omega, ?_, ?_, fun i hi => by omega⟩, ⟨?_, fun x hx => ?_⟩, ⟨0, by omega, q_upE, r0 41 (by omega), fun i hi => by omega⟩, R_S_c hS (fun a b h => ?_) (fun a b h => ?_), ⟨?_, ?_⟩⟩
    · rw [q_upN (by omega), q_upM (by omega), q_upM (by omega), q_upM (by omega), q_upM (by omega), m2, t3]
    · rw [q_upN (by omega), q_upM (by omega), q_upM (by omega), q_upM (by omega), q_upM (by omega), m2, t3]
    · rw [q_upM (by omega), q_slpRN (by omega)]
      unfold r_end
      rw [q_upM (by omega), q_upM (by omega), q_upM (by omega), q_upM (by omega), q_upM (by omega), v2 0 1 (by omega), q_upE]
    · obtain ⟨z1, z2, z3, z4, z5, z6, z7, z8⟩ := hal x hx
      obtain ⟨y1, y2, y3, y4⟩ := hv x hx
      rw [q_upN (by omega)] at y1 y2 y3
      have hnp := q_np3 (fm' x)
      refine ⟨z1, ?_, ?_, ?_, ?_, ?_, fun y hy => ?_⟩
      · rw [cR (6 + 2) x (by omega) (by omega), m4 2 x (by omega) (by omega)]; exact z2
      · rw [rE 3 x (by omega) (by omega), y3]; exact z3
      · rw [cR 6 x (by omega) (by omega), show μ' 6 x = μ' (6 + 0) x from rfl, m4 0 x (by omega) (by omega), rE 1 x (by omega) (by omega), y1]; exact z4
      · rw [rE 1 x (by omega) (by omega), y1]; exact z5
      · rw [cR (6 + 1) x (by omega) (by omega), m4 1 x (by omega) (by omega), rE 2 x (by omega) (by omega), y2]; exact z6
      · obtain ⟨w1, w2, w3, w4⟩ := z8 y hy
        rw [cR (6 + 3) _ (by omega) (by omega), m5 _ (by omega), rE 4 _ (by omega) (by omega), y4 y hy, q_upN (by omega)]
        refine ⟨w1, w2, w3, fun z => ?_⟩
        have hlo := e2 x hx
        unfold q_lo at hlo
        rw [decide_eq_true z, Bool.true_and] at hlo
        have := q_any_no hlo y hy
        exact Nat.lt_of_not_le (of_decide_eq_false this)
    · rw [rN 0 29 (by omega) (by omega) (by omega) (by omega)]; exact hA.2.1.1.1
    · rw [cN 1 9 (by omega) (by omega) (by omega), cM 1 9 (by omega) (by omega) (by omega), q_upN (by omega)]; exact hA.2.1.1.2
    · rw [cR (6 + 4) x (by omega) (by omega), m4 4 x (by omega) (by omega), cS (15 + 4) x (by omega) (by omega), q_upN (by omega), q_slpR9 (by omega)]
      exact ⟨Or.inl rfl, fun _ => rfl, fun _ => rfl⟩
    · rw [cR (6 + 6) x (by omega) (by omega), m4 6 x (by omega) (by omega), cS (15 + 6) x (by omega) (by omega), q_upN (by omega), q_slpR12 (by omega)]
      exact ⟨Or.inl rfl, fun _ => rfl, fun _ => rfl⟩
    · rw [cR (6 + 4) x (by omega) (by omega), m4 4 x (by omega) (by omega), cS (15 + 4) x (by omega) (by omega)] at e
      exact ((q_9m (by omega)).mp e).elim
    · rw [cN 13 x (by omega) (by omega) (by omega), cM 13 x (by omega) (by omega) (by omega), q_upN (by omega)]; exact hA.2.1.2.2.2.2 x hx
    · obtain ⟨z1, z2, z3, z4, z5, z6, z7, z8⟩ := hal x hx
      rw [cR (6 + 1) x (by omega) (by omega), m4 1 x (by omega) (by omega)]; exact z7
    · rw [r0 16 (by omega), q_upN (by omega), q_upM (by omega), q_upM (by omega), q_upM (by omega), q_upM (by omega), m3, t6 2 10 (by omega) (by omega) (by omega)]
      unfold h_m0
      rw [q_upN (by omega), q_slpN (by omega), q_upE]
    · rw [r0 31 (by omega), q_upN (by omega), q_upM (by omega), q_upM (by omega), q_upM (by omega), q_upE]
    · rw [r0 32 (by omega), q_upN (by omega), q_upM (by omega), q_upM (by omega), q_upE]
    · rw [r0 33 (by omega), q_upN (by omega), q_upM (by omega), q_upE]
    · rw [q_upN (by omega), q_upE]
    · rw [q_upN (by omega), q_upM (by omega), q_upM (by omega), q_upM (by omega), q_upE]
    · rw [cN 2 9 (by omega) (by omega) (by omega), cM 2 9 (by omega) (by omega) (by omega), q_upN (by omega)]; exact hT.1
    · rw [cN 22 x (by omega) (by omega) (by omega), cM 22 x (by omega) (by omega) (by omega), q_upN (by omega)]; exact hT.2 x hx
    · rw [cN a b (by omega) (by omega) (by omega), cM a b (by omega) (by omega) (by omega), q_upN (by omega)]
    · rw [rN a b (by omega) (by omega) (by omega) (by omega)]
    · rw [cN 0 6 (by omega) (by omega) (by omega), cM 0 6 (by omega) (by omega) (by omega), q_upE, q_upE]
    · rw [cN 0 5 (by omega) (by omega) (by omega), cM 0 5 (by omega) (by omega) (by omega), q_upM (by omega), rN 0 48 (by omega) (by omega) (by omega) (by omega)]; exact hF.2
end HP

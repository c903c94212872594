/-! ===== 43: a cell of the text, all cells ===== -/
theorem h_kd_c (x : Int32) : (x = 112 ∧ h_kd x = nI 0) ∨ (x = 100 ∧ h_kd x = nI 1) ∨ (x = 119 ∧ h_kd x = nI 2) ∨ (x ≠ 112 ∧ x ≠ 100 ∧ x ≠ 119 ∧ h_kd x = -9) := by
  unfold h_kd
  by_cases e1 : x = 112
  · exact Or.inl ⟨e1, if_pos e1⟩
  · rw [if_neg e1]
    by_cases e2 : x = 100
    · exact Or.inr (Or.inl ⟨e2, if_pos e2⟩)
    · rw [if_neg e2]
      by_cases e3 : x = 119
      · exact Or.inr (Or.inr (Or.inl ⟨e3, if_pos e3⟩))
      · exact Or.inr (Or.inr (Or.inr ⟨e1, e2, e3, if_neg e3⟩))
section CE
variable {k j n : Nat}
/-- the cell c is read the same on both sides -/
def h_ce (c : Nat) (M V : nk_M) : Prop := ∃ f, f ≤ 6 ∧ M 17 c = nI f ∧ V 7 c = nI f ∧ (∃ κ, κ ≤ 2 ∧ M 15 c = nI κ ∧ V 5 c = nI κ) ∧ (∃ p, 1 ≤ p ∧ p ≤ 9 ∧ M 16 c = nI p ∧ V 6 c = nI p) ∧ ∀ x, x < q_np f → h_pt c f x M V
theorem h_ce_c {c d : Nat} {M M' V V' : nk_M} (h : h_ce c M V) (hne : c ≠ d) (hC : h_fC d M M') (hR : h_fR d V V') : h_ce c M' V' := by
  obtain ⟨f, f6, f1, f2, ⟨κ, κ2, k1, k2⟩, ⟨p, p1, p9, p2, p3⟩, hp⟩ := h
  have hnp := q_np3 f
  refine ⟨f, f6, by rw [hC 17 c (by omega) (by omega) (by omega) (by omega)]; exact f1, by rw [hR 7 c (by omega) (by omega) (by omega)]; exact f2, ⟨κ, κ2, by rw [hC 15 c (by omega) (by omega) (by omega) (by omega)]; exact k1, by rw [hR 5 c (by omega) (by omega) (by omega)]; exact k2⟩, ⟨p, p1, p9, by rw [hC 16 c (by omega) (by omega) (by omega) (by omega)]; exact p2, by rw [hR 6 c (by omega) (by omega) (by omega)]; exact p3⟩, fun x hx => ?_⟩
  obtain ⟨y, y1, y2, y3, y4⟩ := hp x hx
  exact ⟨y, by rw [hC 18 _ (by omega) (by omega) (by omega) (by omega)]; exact y1, by rw [hR 8 _ (by omega) (by omega) (by omega)]; exact y2, y3, y4⟩
theorem c_st1 {M : nk_M} {x : Int32} {c : Nat} (h3 : M 3 0 = nI 1) (h2 : M 2 0 = nI c) (hc : c ≤ 8) : zf_T_goesOn 2 15 x M = some (if x = 59 ∧ c < 8 then nI 1 else nI 0, nk_up M 3 0 (nI 2)) := by
  unfold zf_T_goesOn
  rw [u_nm, h3, h2, if_neg (by decide), if_pos (by decide), u_pf, u_lit 2]
  by_cases e : x = 59
  · rw [if_pos e]
    by_cases e2 : c < 8
    · rw [if_neg (l_nkle 8 (by omega) (by omega)), if_pos ⟨e, e2⟩]; rfl
    · rw [if_pos (l_kle 8 (by omega) (by omega)), if_neg (fun z => e2 z.2)]; rfl
  · rw [if_neg e, if_neg (fun z => e z.1)]; rfl
theorem c_st2 {M : nk_M} {x : Int32} {c : Nat} (h3 : M 3 0 = nI 2) (h2 : M 2 0 = nI c) (hc : c < 8) : zf_T_goesOn 2 15 x M = (if h_kd x = -9 then some (nI 0, M) else some (nI 1, nk_up (nk_up M 15 c (h_kd x)) 3 0 (nI 3))) := by
  unfold zf_T_goesOn zf_T_takesKind
  rw [u_nm, h3, h2, if_neg (by decide), if_neg (by decide), if_pos (by decide), e_place3, u_bd]
  by_cases e : h_kd x = -9
  · rw [if_pos e, if_pos e]; rfl
  · rw [if_neg e, if_neg e, q_ast hc (by omega), u_pf]; rfl
theorem c_st3 {M : nk_M} {x : Int32} {c : Nat} (h3 : M 3 0 = nI 3) (h2 : M 2 0 = nI c) (hc : c < 8) : zf_T_goesOn 2 15 x M = (if 49 ≤ x.toInt ∧ x.toInt ≤ 57 then some (nI 1, nk_up (nk_up M 16 c (x - nI 48)) 3 0 (nI 4)) else some (nI 0, M)) := by
  unfold zf_T_goesOn zf_T_takesPrice
  rw [u_nm, h3, h2, if_neg (by decide), if_neg (by decide), if_neg (by decide), if_pos (by decide)]
  by_cases e : x.toInt < 49
  · rw [if_pos (l_xlt 49 e (by omega)), if_neg (by omega)]; rfl
  · rw [if_neg (l_nxlt 49 (by omega) (by omega))]
    by_cases e2 : x.toInt ≤ 57
    · rw [if_pos (l_xle 57 e2 (by omega)), if_pos (by omega), q_ast hc (by omega), u_pf]; rfl
    · rw [if_neg (l_nxle 57 (by omega) (by omega)), if_neg (by omega)]; rfl
theorem c_st4 {M : nk_M} {x : Int32} {c : Nat} (h3 : M 3 0 = nI 4) (h2 : M 2 0 = nI c) (hc : c < 8) : zf_T_goesOn 2 15 x M = (if h_sg x = -9 then some (nI 0, M) else some (nI 1, nk_up (nk_up (nk_up M 17 c (h_sg x)) 3 1 (nI 0)) 3 0 (nI 5))) := by
  unfold zf_T_goesOn zf_T_takesSign
  rw [u_nm, h3, h2, if_neg (by decide), if_neg (by decide), if_neg (by decide), if_neg (by decide), if_pos (by decide), e_place7, u_bd]
  by_cases e : h_sg x = -9
  · rw [if_pos e, if_pos e]; rfl
  · rw [if_neg e, if_neg e, q_ast hc (by omega), u_pf, u_pf]; rfl
theorem h_u3 {c : Nat} {i : Nat} {v : Int32} {M : nk_M} : h_fC c M (nk_up M 3 i v) := fun a b h _ _ _ => q_upN h
theorem h_ur {c y : Nat} {v : Int32} {M : nk_M} (h : 15 ≤ y ∧ y ≤ 17) : h_fC c M (nk_up M y c v) := fun a b _ _ h2 _ => q_upO (by omega)
theorem h_v6 {c : Nat} {v : Int32} {V : nk_M} : h_fR c V (nk_up V 0 6 v) := fun a b h _ _ => q_upO (by omega)
theorem h_v7 {c : Nat} {v : Int32} {V : nk_M} : h_fR c V (nk_up V 0 7 v) := fun a b h _ _ => q_upO (by omega)
theorem h_vr {c y : Nat} {v : Int32} {V : nk_M} (h : 5 ≤ y ∧ y ≤ 7) : h_fR c V (nk_up V y c v) := fun a b _ h2 _ => q_upO (by omega)
/-- the form and the parts -/
theorem h_form {c F t : Nat} {M V : nk_M} (hk : k < 4) (hj : j + n ≤ 60) (hc : c < 8) (hF : n - t < F) (ht : t ≤ n) (htx : h_tx k j n M V) (h3 : M 3 0 = nI 4) (h2 : M 2 0 = nI c) (h6 : V 0 6 = nI t) (h7 : V 0 7 = nI c) :
    (∃ (w : Nat) (M' V' : nk_M), zf_T_readInto_b12 2 15 F (nI k) (nI j) (nI n) (nI t) M = some (nI w, M') ∧ zf_M_readsForm (nI (60 * k + j)) (nI n) V = some (nI 0, V') ∧ V' 0 6 = nI w ∧ w ≤ n ∧ h_fC c M M' ∧ h_fR c V V') ∨
    ∃ (F' t' f : Nat) (M' V' : nk_M), zf_T_readInto_b12 2 15 F (nI k) (nI j) (nI n) (nI t) M = zf_T_readInto_b12 2 15 F' (nI k) (nI j) (nI n) (nI t') M' ∧ zf_M_readsForm (nI (60 * k + j)) (nI n) V = some (nI 1, V') ∧ n - t' < F' ∧ t ≤ t' ∧ t' ≤ n ∧ M' 3 0 = nI 1 ∧ M' 2 0 = nI (c + 1) ∧ V' 0 6 = nI t' ∧ V' 0 7 = nI c ∧ f ≤ 6 ∧ M' 17 c = nI f ∧ V' 7 c = nI f ∧ (∀ x, x < q_np f → h_pt c f x M' V') ∧ h_fC c M M' ∧ h_fR c V V' ∧ (M' 15 c = M 15 c ∧ M' 16 c = M 16 c) ∧ V' 5 c = V 5 c ∧ V' 6 c = V 6 c := by
  obtain ⟨F, rfl⟩ : ∃ g, F = g + 1 := ⟨F - 1, by omega⟩
  have hR : zf_M_readsForm (nI (60 * k + j)) (nI n) V = (if 0 ≤ h_sg (h_cd k j n M t) then nk_pf V 0 6 ((V 0 6) + (1 : Int32)) (fun m3 => nk_ast m3 7 8 (m3 0 7) (h_sg (h_cd k j n M t)) (fun m4 => (zf_M_readsForm_b39 nk_fu (nI (60 * k + j)) (nI n) (h_sg (h_cd k j n M t)) (0 : Int32) m4))) else nk_zr (0 : Int32) V) := by
    unfold zf_M_readsForm
    rw [r_codeAt hk hj htx h6 ht, u_bd, r_formBy, u_bd]
  have hg := c_st4 (x := h_cd k j n M t) h3 h2 hc
  rcases h_sg_c (h_cd k j n M t) with e | ⟨f, hf, e⟩
  · rw [e, if_pos rfl] at hg
    obtain ⟨M', m1, m2⟩ := h_fail (F := F) hk hj h3 (by omega) (by omega) ht hg
    refine Or.inl ⟨t, M', V, m1, ?_, h6, ht, ?_, h_fR_r⟩
    · rw [hR, e, if_neg (by decide)]; rfl
    · rcases m2 with rfl | rfl <;> exact h_fC_r
  · have htn : t < n := Classical.byContradiction fun z => by
      rw [h_cd9 z, show h_sg (-nI 9) = -9 by decide] at e
      exact (q_9m (by omega)).mp e
    rw [e, if_neg (l_m9 (by omega))] at hg
    have hnp := q_np3 f
    have fC : h_fC c M (nk_up (nk_up (nk_up M 17 c (nI f)) 3 1 (nI 0)) 3 0 (nI 5)) := h_fC_t (h_ur (by omega)) (h_fC_t h_u3 h_u3)
    have fR : h_fR c V (nk_up (nk_up V 0 6 (nI (t + 1))) 7 c (nI f)) := h_fR_t h_v6 (h_vr (by omega))
    have hRo : zf_M_readsForm (nI (60 * k + j)) (nI n) V = zf_M_readsForm_b39 nk_fu (nI (60 * k + j)) (nI n) (nI f) (nI 0) (nk_up (nk_up V 0 6 (nI (t + 1))) 7 c (nI f)) := by
      rw [hR, e, if_pos (q_le0 (by omega)), u_pf, h6, u_lit 1, q_add, q_upM (by omega), h7, q_ast hc (by omega)]
      rfl
    have := h_parts (k := k) (j := j) (n := n) hk hj hc hf (q_np f) F nk_fu 0 (t + 1) _ _ (by omega) (by show _ < 4096; omega) (by omega) (by omega) (h_tx_c hk htx fC fR) (by rw [if_neg (by omega), q_upE]) (by rw [q_upM (by omega), q_upE]) (by rw [if_neg (by omega), q_upN (by omega), q_upN (by omega), q_upN (by omega)]; exact h2) (by rw [q_upN (by omega), q_upN (by omega), q_upE]) (by rw [q_upN (by omega), q_upE]) (by rw [q_upN (by omega), q_upM (by omega)]; exact h7) (fun x hx => by omega)
    rw [h_go hk hj htn hg, hRo]
    rcases this with ⟨w, M', V', a1, a2, a3, a4, a5, a6⟩ | ⟨F', t', M', V', a1, a2, a3, a4, a5, a6, a7, a8, a9, a10, a11, a12, a13, a14⟩
    · exact Or.inl ⟨w, M', V', a1, a2, a3, a4, h_fC_t fC a5, h_fR_t fR a6⟩
    · refine Or.inr ⟨F', t', f, M', V', a1, a2, a3, by omega, a5, a6, a7, a8, a9, hf, ?_, ?_, a10, h_fC_t fC a11, h_fR_t fR a12, ⟨?_, ?_⟩, ?_, ?_⟩
      · rw [a13 17 (by omega) (by omega), q_upN (by omega), q_upN (by omega), q_upE]
      · rw [a14 7 (by omega) (by omega), q_upE]
      · rw [a13 15 (by omega) (by omega), q_upN (by omega), q_upN (by omega), q_upN (by omega)]
      · rw [a13 16 (by omega) (by omega), q_upN (by omega), q_upN (by omega), q_upN (by omega)]
      · rw [a14 5 (by omega) (by omega), q_upN (by omega), q_upN (by omega)]
      · rw [a14 6 (by omega) (by omega), q_upN (by omega), q_upN (by omega)]
/-- a cell -/
theorem h_cell {c F t : Nat} {M V : nk_M} (hk : k < 4) (hj : j + n ≤ 60) (hc : c ≤ 8) (hF : n - t < F) (ht : t < n) (htx : h_tx k j n M V) (h3 : M 3 0 = nI 1) (h2 : M 2 0 = nI c) (h6 : V 0 6 = nI t) (h7 : V 0 7 = nI c) :
    (∃ (w : Nat) (M' V' : nk_M), zf_T_readInto_b12 2 15 F (nI k) (nI j) (nI n) (nI t) M = some (nI w, M') ∧ zf_M_readsCell (nI (60 * k + j)) (nI n) V = some (nI 0, V') ∧ V' 0 6 = nI w ∧ w ≤ n ∧ h_fC c M M' ∧ h_fR c V V') ∨
    ∃ (F' t' : Nat) (M' V' : nk_M), zf_T_readInto_b12 2 15 F (nI k) (nI j) (nI n) (nI t) M = zf_T_readInto_b12 2 15 F' (nI k) (nI j) (nI n) (nI t') M' ∧ zf_M_readsCell (nI (60 * k + j)) (nI n) V = some (nI 1, V') ∧ n - t' < F' ∧ t < t' ∧ t' ≤ n ∧ c < 8 ∧ M' 3 0 = nI 1 ∧ M' 2 0 = nI (c + 1) ∧ V' 0 6 = nI t' ∧ V' 0 7 = nI (c + 1) ∧ h_ce c M' V' ∧ h_fC c M M' ∧ h_fR c V V' := by
  obtain ⟨F, rfl⟩ : ∃ g, F = g + 1 := ⟨F - 1, by omega⟩
  have hg := c_st1 (x := h_cd k j n M t) h3 h2 hc
  by_cases e0 : h_cd k j n M t = 59 ∧ c < 8
  rotate_left
  · rw [if_neg e0] at hg
    refine Or.inl ⟨t, _, V, by rw [h_step hk hj ht, hg, u_bd, if_pos (by decide)], ?_, h6, by omega, h_u3, h_fR_r⟩
    unfold zf_M_readsCell
    rw [h7]
    by_cases e8 : c = 8
    · rw [if_pos (by rw [e8]; decide)]; rfl
    · rw [if_neg (l_ne 8 e8 (by omega) (by omega)), r_codeAt hk hj htx h6 (by omega), u_bd, if_neg (fun z => e0 ⟨z, by omega⟩)]
      rfl
  obtain ⟨e59, hc8⟩ := e0
  rw [if_pos ⟨e59, hc8⟩] at hg
  rw [h_go hk hj ht hg]
  have hR : zf_M_readsCell (nI (60 * k + j)) (nI n) V = nk_bd (zf_M_codeAt (nI (60 * k + j)) (nI n) (nk_up V 0 6 (nI (t + 1)))) (fun r2 m3 => (if r2 = (112 : Int32) then (zf_M_readsCell_b59 (nI (60 * k + j)) (nI n) r2 m3) else (if r2 = (100 : Int32) then (zf_M_readsCell_b59 (nI (60 * k + j)) (nI n) r2 m3) else (if r2 = (119 : Int32) then (zf_M_readsCell_b59 (nI (60 * k + j)) (nI n) r2 m3) else nk_zr (0 : Int32) m3)))) := by
    unfold zf_M_readsCell
    rw [h7, if_neg (l_ne 8 (by omega) (by omega) (by omega)), r_codeAt hk hj htx h6 (by omega), u_bd, if_pos e59, u_pf, h6, u_lit 1, q_add]
  have fC1 : h_fC c M (nk_up M 3 0 (nI 2)) := h_u3
  have fR1 : h_fR c V (nk_up V 0 6 (nI (t + 1))) := h_v6
  have tx1 := h_tx_c hk htx fC1 fR1
  rw [r_codeAt hk hj tx1 q_upE (by omega), u_bd] at hR
  obtain ⟨F, rfl⟩ : ∃ g, F = g + 1 := ⟨F - 1, by omega⟩
  have hg2 := c_st2 (M := nk_up M 3 0 (nI 2)) (x := h_cd k j n (nk_up M 3 0 (nI 2)) (t + 1)) q_upE ((q_upN (by omega)).trans h2) hc8
  generalize hx : h_cd k j n (nk_up M 3 0 (nI 2)) (t + 1) = x at hR hg2
  -- the kind
  have hkd : (h_kd x = -9 ∧ zf_M_readsCell (nI (60 * k + j)) (nI n) V = some (nI 0, nk_up V 0 6 (nI (t + 1)))) ∨ ∃ κ, κ ≤ 2 ∧ h_kd x = nI κ ∧ zf_M_readsCell (nI (60 * k + j)) (nI n) V = zf_M_readsCell_b59 (nI (60 * k + j)) (nI n) x (nk_up V 0 6 (nI (t + 1))) ∧ ∀ (y1 y2 : Int32) (m4 : nk_M), (if x = (112 : Int32) then (zf_M_readsCell_b134 (nI (60 * k + j)) (nI n) y1 y2 (0 : Int32) m4) else (if x = (100 : Int32) then (zf_M_readsCell_b134 (nI (60 * k + j)) (nI n) y1 y2 (1 : Int32) m4) else (zf_M_readsCell_b134 (nI (60 * k + j)) (nI n) y1 y2 (2 : Int32) m4))) = zf_M_readsCell_b134 (nI (60 * k + j)) (nI n) y1 y2 (nI κ) m4 := by
    rcases h_kd_c x with ⟨z1, z2⟩ | ⟨z1, z2⟩ | ⟨z1, z2⟩ | ⟨z1, z2, z3, z4⟩
    · refine Or.inr ⟨0, by omega, z2, ?_, fun y1 y2 m4 => ?_⟩
      · rw [hR, if_pos z1]
      · rw [if_pos z1]; rfl
    · refine Or.inr ⟨1, by omega, z2, ?_, fun y1 y2 m4 => ?_⟩
      · rw [hR, if_neg (by rw [z1]; decide), if_pos z1]
      · rw [if_neg (by rw [z1]; decide), if_pos z1]; rfl
    · refine Or.inr ⟨2, by omega, z2, ?_, fun y1 y2 m4 => ?_⟩
      · rw [hR, if_neg (by rw [z1]; decide), if_neg (by rw [z1]; decide), if_pos z1]
      · rw [if_neg (by rw [z1]; decide), if_neg (by rw [z1]; decide)]; rfl
    · refine Or.inl ⟨z4, ?_⟩
      rw [hR, if_neg z1, if_neg z2, if_neg z3]; rfl
  rcases hkd with ⟨z1, z2⟩ | ⟨κ, hκ, z1, z2, z3⟩
  · rw [if_pos z1, ← hx] at hg2
    obtain ⟨M', m1, m2⟩ := h_fail (F := F) hk hj (s := 2) q_upE (by omega) (by omega) (show t + 1 ≤ n by omega) hg2
    refine Or.inl ⟨t + 1, M', _, m1, z2, q_upE, by omega, ?_, fR1⟩
    rcases m2 with rfl | rfl <;> exact fC1
  have htn : t + 1 < n := Classical.byContradiction fun z => by
    rw [h_cd9 z] at hx
    rw [← hx, show h_kd (-nI 9) = -9 by decide] at z1
    exact (q_9m (by omega)).mp z1
  rw [if_neg (by rw [z1]; exact l_m9 (by omega)), z1, ← hx] at hg2
  rw [h_go hk hj htn hg2, z2]
  clear hR hg hg2
  have fC2 : h_fC c M (nk_up (nk_up (nk_up M 3 0 (nI 2)) 15 c (nI κ)) 3 0 (nI 3)) := h_fC_t fC1 (h_fC_t (h_ur (by omega)) h_u3)
  have fR2 : h_fR c V (nk_up (nk_up V 0 6 (nI (t + 1))) 0 6 (nI (t + 1 + 1))) := h_fR_t fR1 h_v6
  have tx2 := h_tx_c hk htx fC2 fR2
  obtain ⟨F, rfl⟩ : ∃ g, F = g + 1 := ⟨F - 1, by omega⟩
  have hg3 := c_st3 (M := nk_up (nk_up (nk_up M 3 0 (nI 2)) 15 c (nI κ)) 3 0 (nI 3)) (x := h_cd k j n (nk_up (nk_up (nk_up M 3 0 (nI 2)) 15 c (nI κ)) 3 0 (nI 3)) (t + 1 + 1)) q_upE (by rw [q_upN (by omega), q_upN (by omega), q_upN (by omega)]; exact h2) hc8
  have hR3 : zf_M_readsCell_b59 (nI (60 * k + j)) (nI n) x (nk_up V 0 6 (nI (t + 1))) = nk_bd (zf_M_in ((h_cd k j n (nk_up (nk_up (nk_up M 3 0 (nI 2)) 15 c (nI κ)) 3 0 (nI 3)) (t + 1 + 1) - nI 48).toInt64) (1 : Int64) (9 : Int64) (nk_up (nk_up V 0 6 (nI (t + 1))) 0 6 (nI (t + 1 + 1)))) (fun r3 m3 => (if r3 = 0 then nk_zr (0 : Int32) m3 else nk_pf m3 0 6 ((m3 0 6) + (1 : Int32)) (fun m4 => zf_M_readsCell_b134 (nI (60 * k + j)) (nI n) (h_cd k j n (nk_up (nk_up (nk_up M 3 0 (nI 2)) 15 c (nI κ)) 3 0 (nI 3)) (t + 1 + 1) - nI 48) (m4 0 7) (nI κ) m4))) := by
    unfold zf_M_readsCell_b59
    rw [u_pf, q_upE, u_lit 1, q_add, r_codeAt hk hj tx2 q_upE (by omega), u_bd, u_nm, u_lit 48]
    congr 1
    funext r3 m3
    congr 1
    congr 1
    funext m4
    exact z3 _ _ _
  rw [hR3]
  generalize hx3 : h_cd k j n (nk_up (nk_up (nk_up M 3 0 (nI 2)) 15 c (nI κ)) 3 0 (nI 3)) (t + 1 + 1) = x3 at hg3
  rcases h_dig x3 (lo := 1) (hi := 9) (by omega) with ⟨p, p1, p9, rfl⟩ | ⟨e1, e2⟩
  rotate_left
  · rw [if_neg (by omega), ← hx3] at hg3
    obtain ⟨M', m1, m2⟩ := h_fail (F := F) hk hj (s := 3) q_upE (by omega) (by omega) (show t + 1 + 1 ≤ n by omega) hg3
    refine Or.inl ⟨t + 1 + 1, M', _, m1, ?_, q_upE, by omega, ?_, fR2⟩
    · rw [r_inF _ 1 9 (by decide) (by decide) e2, u_bd, if_pos (by decide)]; rfl
    · rcases m2 with rfl | rfl <;> exact fC2
  have htn3 : t + 1 + 1 < n := Classical.byContradiction fun z => by
    rw [h_cd9 z] at hx3
    exact (q_9m (by omega)).mp hx3
  rw [if_pos (by rw [q_nI (by omega)]; omega), ← hx3] at hg3
  rw [h_go hk hj htn3 hg3, hx3, q_sub (by omega), show 48 + p - 48 = p by omega]
  rw [r_inT _ 1 9 (by decide) (by decide) (by rw [q_nI (by omega)]; omega), u_bd, if_neg (by decide), u_pf, q_upE, u_lit 1, q_add, q_upM (by omega), q_upM (by omega), q_upM (by omega), h7]
  clear hg3 hR3
  unfold zf_M_readsCell_b134
  rw [q_ast hc8 (by omega), q_upN (by omega), q_upM (by omega), q_upM (by omega), q_upM (by omega), h7, q_ast hc8 (by omega)]
  have fC3 : h_fC c M (nk_up (nk_up (nk_up (nk_up (nk_up M 3 0 (nI 2)) 15 c (nI κ)) 3 0 (nI 3)) 16 c (nI p)) 3 0 (nI 4)) := h_fC_t fC2 (h_fC_t (h_ur (by omega)) h_u3)
  have fR3 : h_fR c V (nk_up (nk_up (nk_up (nk_up (nk_up V 0 6 (nI (t + 1))) 0 6 (nI (t + 1 + 1))) 0 6 (nI (t + 1 + 1 + 1))) 5 c (nI κ)) 6 c (nI p)) := h_fR_t fR2 (h_fR_t h_v6 (h_fR_t (h_vr (by omega)) (h_vr (by omega))))
  have tx3 := h_tx_c hk htx fC3 fR3
  rcases h_form (F := F) (t := t + 1 + 1 + 1) hk hj hc8 (by omega) (by omega) tx3 q_upE (by rw [q_upN (by omega), q_upN (by omega), q_upN (by omega), q_upN (by omega), q_upN (by omega)]; exact h2) (by rw [q_upN (by omega), q_upN (by omega), q_upE]) (by rw [q_upN (by omega), q_upN (by omega), q_upM (by omega), q_upM (by omega), q_upM (by omega)]; exact h7) with ⟨w, M', V', a1, a2, a3, a4, a5, a6⟩ | ⟨F', t', f, M', V', a1, a2, a3, a4, a5, a6, a7, a8, a9, b1, b2, b3, b4, b5, b6, ⟨b7, b8⟩, b9, b10⟩
  · refine Or.inl ⟨w, M', nk_up V' 0 7 (V' 0 7 + 0), a1, ?_, by rw [q_upM (by omega)]; exact a3, a4, h_fC_t fC3 a5, h_fR_t fR3 (h_fR_t a6 h_v7)⟩
    rw [a2, u_bd, if_pos (by decide)]; rfl
  · refine Or.inr ⟨F', t', M', nk_up V' 0 7 (nI (c + 1)), a1, ?_, a3, by omega, a5, hc8, a6, a7, by rw [q_upM (by omega)]; exact a8, q_upE, ⟨f, b1, b2, by rw [q_upN (by omega)]; exact b3, ⟨κ, hκ, ?_, ?_⟩, ⟨p, p1, p9, ?_, ?_⟩, fun y hy => ?_⟩, h_fC_t fC3 b5, h_fR_t fR3 (h_fR_t b6 h_v7)⟩
    · rw [a2, u_bd, if_neg (by decide)]
      unfold zf_M_readsCell_b169
      rw [a9, u_lit 1, q_add, u_pf]; rfl
    · rw [b7, q_upN (by omega), q_upN (by omega), q_upN (by omega), q_upE]
    · rw [q_upN (by omega), b9, q_upN (by omega), q_upE]
    · rw [b8, q_upN (by omega), q_upE]
    · rw [q_upN (by omega), b10, q_upE]
    · obtain ⟨z, z1, z2, z3, z4⟩ := b4 y hy
      exact ⟨z, z1, by rw [q_upN (by omega)]; exact z2, z3, z4⟩
end CE

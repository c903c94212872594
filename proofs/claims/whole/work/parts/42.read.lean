/-! ===== 42: the text's reader, on both sides ===== -/
theorem h_sy {α : Type} {a x : Int32} {F G : α} : (if a = x then F else G) = if x = a then F else G := by
  by_cases h : x = a
  · rw [if_pos h, if_pos h.symm]
  · rw [if_neg h, if_neg (fun z => h z.symm)]
theorem h_pl {n i f : Nat} {tf : Nat → Int32} {x : Int32} {M : nk_M} (hi : i < n) (hn : n < 100) : zf_T_placeIn_b2 n tf (f + 1) x (nI i) M = if x = tf i then some (nI i, M) else zf_T_placeIn_b2 n tf f x (nI (i + 1)) M := by
  rw [zf_T_placeIn_b2, if_neg (fun z => by have := (q_le (by omega) (by omega)).mp z; omega), q_tld hi (by omega), u_lit 1, q_add, h_sy]
theorem h_plE {n f : Nat} {tf : Nat → Int32} {x : Int32} {M : nk_M} (hn : n < 100) : zf_T_placeIn_b2 n tf (f + 1) x (nI n) M = some (-9, M) := by
  rw [zf_T_placeIn_b2, if_pos ((q_le (by omega) (by omega)).mpr (Nat.le_refl _))]
def h_kd (x : Int32) : Int32 := if x = 112 then nI 0 else if x = 100 then nI 1 else if x = 119 then nI 2 else -9
def h_sg (x : Int32) : Int32 := if x = 110 then nI 0 else if x = 97 then nI 1 else if x = 109 then nI 2 else if x = 105 then nI 3 else if x = 116 then nI 4 else if x = 102 then nI 5 else if x = 114 then nI 6 else -9
theorem e_place3 (x : Int32) (M : nk_M) : zf_T_placeIn 3 nk_t0 x M = some (h_kd x, M) := by
  unfold zf_T_placeIn
  rw [q_fu12]
  generalize 4084 = f
  show zf_T_placeIn_b2 3 nk_t0 ((f + 8) + 1 + 1 + 1 + 1) x (nI 0) M = _
  rw [h_pl (by omega) (by omega), h_pl (by omega) (by omega), h_pl (by omega) (by omega), h_plE (by omega)]
  rw [show nk_t0 0 = 112 from rfl, show nk_t0 (0 + 1) = 100 from rfl, show nk_t0 (0 + 1 + 1) = 119 from rfl]
  unfold h_kd
  split
  · rfl
  · split
    · rfl
    · split <;> rfl
theorem e_place7 (x : Int32) (M : nk_M) : zf_T_placeIn 7 nk_t1 x M = some (h_sg x, M) := by
  unfold zf_T_placeIn
  rw [q_fu12]
  generalize 4084 = f
  show zf_T_placeIn_b2 7 nk_t1 ((f + 4) + 1 + 1 + 1 + 1 + 1 + 1 + 1 + 1) x (nI 0) M = _
  rw [h_pl (by omega) (by omega), h_pl (by omega) (by omega), h_pl (by omega) (by omega), h_pl (by omega) (by omega), h_pl (by omega) (by omega), h_pl (by omega) (by omega), h_pl (by omega) (by omega), h_plE (by omega)]
  rw [show nk_t1 0 = 110 from rfl, show nk_t1 (0 + 1) = 97 from rfl, show nk_t1 (0 + 1 + 1) = 109 from rfl, show nk_t1 (0 + 1 + 1 + 1) = 105 from rfl, show nk_t1 (0 + 1 + 1 + 1 + 1) = 116 from rfl, show nk_t1 (0 + 1 + 1 + 1 + 1 + 1) = 102 from rfl, show nk_t1 (0 + 1 + 1 + 1 + 1 + 1 + 1) = 114 from rfl]
  unfold h_sg
  split
  · rfl
  · split
    · rfl
    · split
      · rfl
      · split
        · rfl
        · split
          · rfl
          · split
            · rfl
            · split <;> rfl
theorem r_formBy (x : Int32) (V : nk_M) : zf_M_formBy x V = some (h_sg x, V) := by
  unfold zf_M_formBy h_sg
  split
  · rfl
  · split
    · rfl
    · split
      · rfl
      · split
        · rfl
        · split
          · rfl
          · split
            · rfl
            · split <;> rfl
theorem h_sg_c (x : Int32) : h_sg x = -9 ∨ ∃ f, f ≤ 6 ∧ h_sg x = nI f := by
  unfold h_sg
  split
  · exact Or.inr ⟨0, by omega, rfl⟩
  · split
    · exact Or.inr ⟨1, by omega, rfl⟩
    · split
      · exact Or.inr ⟨2, by omega, rfl⟩
      · split
        · exact Or.inr ⟨3, by omega, rfl⟩
        · split
          · exact Or.inr ⟨4, by omega, rfl⟩
          · split
            · exact Or.inr ⟨5, by omega, rfl⟩
            · split
              · exact Or.inr ⟨6, by omega, rfl⟩
              · exact Or.inl rfl
theorem h_dig (x : Int32) {lo hi : Nat} (h : hi ≤ 9) : (∃ p, lo ≤ p ∧ p ≤ hi ∧ x = nI (48 + p)) ∨ ((x.toInt < 48 + (lo : Int) ∨ 48 + (hi : Int) < x.toInt) ∧ ¬ ((lo : Int) ≤ (x - nI 48).toInt ∧ (x - nI 48).toInt ≤ (hi : Int))) := by
  by_cases e : (((48 + lo : Nat)) : Int) ≤ x.toInt ∧ x.toInt ≤ ((48 + hi : Nat) : Int)
  · obtain ⟨q, rfl, q1, q2⟩ := q_of e
    exact Or.inl ⟨q - 48, by omega, by omega, by rw [show 48 + (q - 48) = q by omega]⟩
  · refine Or.inr ⟨by omega, fun z => ?_⟩
    obtain ⟨p, hp, p1, p2⟩ := q_of z
    have : x = nI (p + 48) := by
      rw [← q_add, ← hp, Int32.sub_add_cancel]
    rw [this, q_nI (by omega)] at e
    omega
section RD
variable {k j n : Nat}
/-- the code at a place of the text; NONE behind it -/
def h_cd (k j n : Nat) (M : nk_M) (t : Nat) : Int32 := if t < n then M (27 + k) (j + t) else -nI 9
def h_tx (k j n : Nat) (M V : nk_M) : Prop := ∀ t, t < n → V 27 (60 * k + j + t) = M (27 + k) (j + t)
theorem r_codeAt {M V : nk_M} {t : Nat} (hk : k < 4) (hj : j + n ≤ 60) (ht : h_tx k j n M V) (h6 : V 0 6 = nI t) (htn : t ≤ n) : zf_M_codeAt (nI (60 * k + j)) (nI n) V = some (h_cd k j n M t, V) := by
  unfold zf_M_codeAt h_cd
  rw [h6]
  by_cases e : t < n
  · rw [if_neg (fun z => by have := (q_le (by omega) (by omega)).mp z; omega), q_add, q_ald (by omega) (by omega), ht t e, if_pos e]
    rfl
  · rw [if_pos ((q_le (by omega) (by omega)).mpr (by omega)), if_neg e]
    rfl
/-- one code of the class -/
theorem h_step {M : nk_M} {F t : Nat} (hk : k < 4) (hj : j + n ≤ 60) (ht : t < n) : zf_T_readInto_b12 2 15 (F + 1) (nI k) (nI j) (nI n) (nI t) M = nk_bd (zf_T_goesOn 2 15 (h_cd k j n M t) M) (fun r2 m2 => (if r2 = 0 then some (nI t, m2) else (zf_T_readInto_b12 2 15 F (nI k) (nI j) (nI n) (nI (t + 1)) m2))) := by
  rw [zf_T_readInto_b12, if_neg (fun z => by have := (q_le (by omega) (by omega)).mp z; omega), q_add, e_at M hk (by omega), u_bd, u_lit 1, q_add]
  unfold h_cd
  rw [if_pos ht]
theorem h_stop {M : nk_M} {F s : Nat} (hn : n ≤ 60) (h3 : M 3 0 = nI s) (hs : s ≠ 1) (hs2 : s < 10) : zf_T_readInto_b12 2 15 (F + 1) (nI k) (nI j) (nI n) (nI n) M = some (nI n, M) := by
  rw [zf_T_readInto_b12, if_pos ((q_le (by omega) (by omega)).mpr (Nat.le_refl _)), h3, if_neg (l_ne 1 hs (by omega) (by omega))]
  rfl
/-- a code that none goes on with, or the end of the text -/
theorem h_fail {M M1 : nk_M} {F s t : Nat} (hk : k < 4) (hj : j + n ≤ 60) (h3 : M 3 0 = nI s) (hs : s ≠ 1) (hs2 : s < 10) (ht : t ≤ n) (hg : zf_T_goesOn 2 15 (h_cd k j n M t) M = some (nI 0, M1)) : ∃ M', zf_T_readInto_b12 2 15 (F + 1) (nI k) (nI j) (nI n) (nI t) M = some (nI t, M') ∧ (M' = M ∨ M' = M1) := by
  by_cases e : t < n
  · refine ⟨M1, ?_, Or.inr rfl⟩
    rw [h_step hk hj e, hg, u_bd, if_pos (by decide)]
  · obtain rfl : t = n := by omega
    exact ⟨M, h_stop (by omega) h3 hs hs2, Or.inl rfl⟩
theorem h_go {M M1 : nk_M} {F t : Nat} (hk : k < 4) (hj : j + n ≤ 60) (ht : t < n) (hg : zf_T_goesOn 2 15 (h_cd k j n M t) M = some (nI 1, M1)) : zf_T_readInto_b12 2 15 (F + 1) (nI k) (nI j) (nI n) (nI t) M = zf_T_readInto_b12 2 15 F (nI k) (nI j) (nI n) (nI (t + 1)) M1 := by
  rw [h_step hk hj ht, hg, u_bd, if_neg (by decide)]
theorem h_cd9 {M : nk_M} {t : Nat} (ht : ¬ t < n) : h_cd k j n M t = -nI 9 := if_neg ht
/-- what reading a cell may change -/
def h_fC (c : Nat) (M M' : nk_M) : Prop := ∀ k j, k ≠ 3 → ¬ (k = 2 ∧ j = 0) → ¬ (15 ≤ k ∧ k ≤ 17 ∧ j = c) → ¬ (k = 18 ∧ 3 * c ≤ j ∧ j < 3 * c + 3) → M' k j = M k j
def h_fR (c : Nat) (V V' : nk_M) : Prop := ∀ k j, ¬ (k = 0 ∧ (j = 6 ∨ j = 7)) → ¬ (5 ≤ k ∧ k ≤ 7 ∧ j = c) → ¬ (k = 8 ∧ 3 * c ≤ j ∧ j < 3 * c + 3) → V' k j = V k j
theorem h_fC_t {c : Nat} {M M' M2 : nk_M} (h1 : h_fC c M M') (h2 : h_fC c M' M2) : h_fC c M M2 := fun k j a b d e => by rw [h2 k j a b d e, h1 k j a b d e]
theorem h_fR_t {c : Nat} {V V' V2 : nk_M} (h1 : h_fR c V V') (h2 : h_fR c V' V2) : h_fR c V V2 := fun k j a b d => by rw [h2 k j a b d, h1 k j a b d]
theorem h_fC_r {c : Nat} {M : nk_M} : h_fC c M M := fun _ _ _ _ _ _ => rfl
theorem h_fR_r {c : Nat} {V : nk_M} : h_fR c V V := fun _ _ _ _ _ => rfl
theorem h_tx_c {c : Nat} {M M' V V' : nk_M} (hk : k < 4) (h : h_tx k j n M V) (hC : h_fC c M M') (hR : h_fR c V V') : h_tx k j n M' V' := fun t ht => by
  rw [hC (27 + k) _ (by omega) (by omega) (by omega) (by omega), hR 27 _ (by omega) (by omega) (by omega)]
  exact h t ht
theorem h_cd_c {c t : Nat} {M M' : nk_M} (hC : h_fC c M M') : h_cd k j n M' t = h_cd k j n M t := by
  unfold h_cd
  rw [hC (27 + k) _ (by omega) (by omega) (by omega) (by omega)]
/-- a part of the cell c that is read the same on both sides -/
def h_pt (c f i : Nat) (M V : nk_M) : Prop := ∃ p, M 18 (3 * c + i) = nI p ∧ V 8 (3 * c + i) = nI p ∧ (f = 0 → p ≤ 9) ∧ (f ≠ 0 → p < 8)
theorem h_parts {c f : Nat} (hk : k < 4) (hj : j + n ≤ 60) (hc : c < 8) (hf : f ≤ 6) : ∀ (m F G i t : Nat) (M V : nk_M), i + m = q_np f → m < G → n - t < F → t ≤ n → h_tx k j n M V → M 3 0 = (if m = 0 then nI 1 else nI 5) → M 3 1 = nI i → M 2 0 = (if m = 0 then nI (c + 1) else nI c) → M 17 c = nI f → V 0 6 = nI t → V 0 7 = nI c → (∀ x, x < i → h_pt c f x M V) →
    (∃ (w : Nat) (M' V' : nk_M), zf_T_readInto_b12 2 15 F (nI k) (nI j) (nI n) (nI t) M = some (nI w, M') ∧ zf_M_readsForm_b39 G (nI (60 * k + j)) (nI n) (nI f) (nI i) V = some (nI 0, V') ∧ V' 0 6 = nI w ∧ w ≤ n ∧ h_fC c M M' ∧ h_fR c V V') ∨
    ∃ (F' t' : Nat) (M' V' : nk_M), zf_T_readInto_b12 2 15 F (nI k) (nI j) (nI n) (nI t) M = zf_T_readInto_b12 2 15 F' (nI k) (nI j) (nI n) (nI t') M' ∧ zf_M_readsForm_b39 G (nI (60 * k + j)) (nI n) (nI f) (nI i) V = some (nI 1, V') ∧ n - t' < F' ∧ t ≤ t' ∧ t' ≤ n ∧ M' 3 0 = nI 1 ∧ M' 2 0 = nI (c + 1) ∧ V' 0 6 = nI t' ∧ V' 0 7 = nI c ∧ (∀ x, x < q_np f → h_pt c f x M' V') ∧ h_fC c M M' ∧ h_fR c V V' ∧ (∀ y, 15 ≤ y → y ≤ 17 → M' y c = M y c) ∧ ∀ y, 5 ≤ y → y ≤ 7 → V' y c = V y c := by
  intro m
  have hnp := q_np3 f
  induction m with
  | zero =>
    intro F G i t M V hi hG hF ht htx h3 h31 h2 h17 h6 h7 hp
    obtain ⟨G, rfl⟩ : ∃ g, G = g + 1 := ⟨G - 1, by omega⟩
    refine Or.inr ⟨F, t, M, V, rfl, ?_, hF, Nat.le_refl _, ht, h3, h2, h6, h7, fun x hx => hp x (by omega), h_fC_r, h_fR_r, fun _ _ _ => rfl, fun _ _ _ => rfl⟩
    rw [zf_M_readsForm_b39, r_partsOf hf, u_bd, if_pos ((q_le (by omega) (by omega)).mpr (by omega))]
    rfl
  | succ m ih =>
    intro F G i t M V hi hG hF ht htx h3 h31 h2 h17 h6 h7 hp
    obtain ⟨G, rfl⟩ : ∃ g, G = g + 1 := ⟨G - 1, by omega⟩
    obtain ⟨F, rfl⟩ : ∃ g, F = g + 1 := ⟨F - 1, by omega⟩
    rw [if_neg (by omega)] at h3 h2
    -- the most that the part may be
    have hR : zf_M_readsForm_b39 (G + 1) (nI (60 * k + j)) (nI n) (nI f) (nI i) V = nk_bd (zf_M_in ((h_cd k j n M t - nI 48).toInt64) (0 : Int64) (if f = 0 then (9 : Int64) else 7) V) (fun r1 m1 => (if r1 = 0 then nk_zr (0 : Int32) m1 else nk_ast m1 8 24 (((3 : Int32) * (m1 0 7)) + nI i) (h_cd k j n M t - nI 48) (fun m2 => nk_pf m2 0 6 ((m2 0 6) + (1 : Int32)) (fun m3 => (zf_M_readsForm_b39 G (nI (60 * k + j)) (nI n) (nI f) (nI (i + 1)) m3))))) := by
      rw [zf_M_readsForm_b39, r_partsOf hf, u_bd, if_neg (fun z => by have := (q_le (by omega) (by omega)).mp z; omega), r_codeAt hk hj htx h6 ht, u_bd, u_nm, u_lit 48]
      by_cases e : f = 0
      · rw [if_pos (by rw [e]; decide), if_pos e]
        unfold zf_M_readsForm_b76
        rw [show nI i + 1 = nI (i + 1) from q_add i 1]
      · rw [if_neg (l_ne 0 e (by omega) (by omega)), if_neg e]
        unfold zf_M_readsForm_b76
        rw [show nI i + 1 = nI (i + 1) from q_add i 1]
    have hC : zf_T_goesOn 2 15 (h_cd k j n M t) M = zf_T_takesPart_b16 2 15 (nI c) (h_cd k j n M t) (if f = 0 then 57 else 55) M := by
      unfold zf_T_goesOn
      rw [u_nm, h3, h2, if_neg (by decide), if_neg (by decide), if_neg (by decide), if_neg (by decide), if_neg (by decide)]
      have : ∀ u : Int32, nk_bd (zf_T_takesPart_b16 2 15 (nI c) (h_cd k j n M t) u M) (fun r5 m6 => nk_zr r5 m6) = zf_T_takesPart_b16 2 15 (nI c) (h_cd k j n M t) u M := fun u => by
        unfold zf_T_takesPart_b16 zf_T_takesPart_b30 zf_T_takesPart_b84
        split
        · rfl
        · split
          · unfold zf_C_tellPart
            rw [u_lit 3, q_mul, h31, q_add, q_ast (by omega) (by omega), u_bd, u_pf, q_ald (by omega) (by omega), q_upN (by omega), q_upN (by omega), h17, q_tld (by omega) (by omega)]
            split <;> rfl
          · rfl
      unfold zf_T_takesPart
      rw [q_ald (by omega) (by omega), h17]
      by_cases e : f = 0
      · rw [if_pos (by rw [e]; decide), if_pos e]; exact this _
      · rw [if_neg (l_ne 0 e (by omega) (by omega)), if_neg e]; exact this _
    rcases h_dig (h_cd k j n M t) (lo := 0) (hi := if f = 0 then 9 else 7) (by split <;> omega) with ⟨p, -, hp2, hpx⟩ | ⟨e1, e2⟩
    · have hp9 : p ≤ 9 := by split at hp2 <;> omega
      have htn : t < n := Classical.byContradiction fun z => by
        rw [h_cd9 z] at hpx
        exact (q_9m (by omega)).mp hpx
      have hgo : zf_T_goesOn 2 15 (h_cd k j n M t) M = some (nI 1, if m = 0 then nk_up (nk_up (nk_up (nk_up M 18 (3 * c + i) (nI p)) 3 1 (nI (i + 1))) 2 0 (nI (c + 1))) 3 0 (nI 1) else nk_up (nk_up M 18 (3 * c + i) (nI p)) 3 1 (nI (i + 1))) := by
        rw [hC, hpx]
        unfold zf_T_takesPart_b16 zf_C_tellPart
        have : nI (48 + p) ≤ (if f = 0 then 57 else 55) := by
          by_cases e : f = 0
          · rw [if_pos e]; rw [if_pos e] at hp2; exact l_le 57 (by omega) (by omega)
          · rw [if_neg e]; rw [if_neg e] at hp2; exact l_le 55 (by omega) (by omega)
        rw [if_neg (l_nlt 48 (by omega) (by omega)), if_pos this, u_lit 3, q_mul, h31, q_add, u_lit 48, q_sub (by omega), show 48 + p - 48 = p by omega, show c * 3 + i = 3 * c + i by omega, q_ast (by omega) (by omega), u_bd, u_pf, q_upN (by omega), h31, u_lit 1, q_add, q_ald (by omega) (by omega), q_upN (by omega), q_upN (by omega), h17, q_tld (by omega) (by omega), q_t2 hf, q_upE, q_add, u_pf, u_pf]
        by_cases e : m = 0
        · rw [if_pos e, if_pos (by rw [show i + 1 = q_np f by omega])]
          rfl
        · rw [if_neg e, if_neg (fun z => by have := (q_eq (by omega) (by omega)).mp z; omega)]
          rfl
      have hin : zf_M_in ((h_cd k j n M t - nI 48).toInt64) (0 : Int64) (if f = 0 then (9 : Int64) else 7) V = some (nI 1, V) := by
        rw [hpx, q_sub (by omega), show 48 + p - 48 = p by omega]
        by_cases e : f = 0
        · rw [if_pos e]; rw [if_pos e] at hp2
          exact r_inT V 0 9 (by decide) (by decide) (by rw [q_nI (by omega)]; omega)
        · rw [if_neg e]; rw [if_neg e] at hp2
          exact r_inT V 0 7 (by decide) (by decide) (by rw [q_nI (by omega)]; omega)
      have hRo : zf_M_readsForm_b39 (G + 1) (nI (60 * k + j)) (nI n) (nI f) (nI i) V = zf_M_readsForm_b39 G (nI (60 * k + j)) (nI n) (nI f) (nI (i + 1)) (nk_up (nk_up V 8 (3 * c + i) (nI p)) 0 6 (nI (t + 1))) := by
        rw [hR, hin, u_bd, if_neg (by decide), h7, u_lit 3, q_mul, q_add, q_ast (by omega) (by omega), u_pf, q_upN (by omega), h6, u_lit 1, q_add, hpx, q_sub (by omega), show 48 + p - 48 = p by omega]
      have hfC1 : h_fC c M (if m = 0 then nk_up (nk_up (nk_up (nk_up M 18 (3 * c + i) (nI p)) 3 1 (nI (i + 1))) 2 0 (nI (c + 1))) 3 0 (nI 1) else nk_up (nk_up M 18 (3 * c + i) (nI p)) 3 1 (nI (i + 1))) := fun a b z1 z2 z3 z4 => by
        split
        · rw [q_upN (by omega), q_upO (by omega), q_upN (by omega), q_upO (by omega)]
        · rw [q_upN (by omega), q_upO (by omega)]
      have hfR1 : h_fR c V (nk_up (nk_up V 8 (3 * c + i) (nI p)) 0 6 (nI (t + 1))) := fun a b z1 z2 z3 => by rw [q_upO (by omega), q_upO (by omega)]
      have hM18 : ∀ x, (if m = 0 then nk_up (nk_up (nk_up (nk_up M 18 (3 * c + i) (nI p)) 3 1 (nI (i + 1))) 2 0 (nI (c + 1))) 3 0 (nI 1) else nk_up (nk_up M 18 (3 * c + i) (nI p)) 3 1 (nI (i + 1))) 18 x = (nk_up M 18 (3 * c + i) (nI p)) 18 x := fun x => by
        split
        · rw [q_upN (by omega), q_upN (by omega), q_upN (by omega)]
        · rw [q_upN (by omega)]
      have hrow : ∀ y, 15 ≤ y → y ≤ 17 → (if m = 0 then nk_up (nk_up (nk_up (nk_up M 18 (3 * c + i) (nI p)) 3 1 (nI (i + 1))) 2 0 (nI (c + 1))) 3 0 (nI 1) else nk_up (nk_up M 18 (3 * c + i) (nI p)) 3 1 (nI (i + 1))) y c = M y c := fun y y1 y2 => by
        split
        · rw [q_upN (by omega), q_upN (by omega), q_upN (by omega), q_upN (by omega)]
        · rw [q_upN (by omega), q_upN (by omega)]
      have := ih F G (i + 1) (t + 1) _ (nk_up (nk_up V 8 (3 * c + i) (nI p)) 0 6 (nI (t + 1))) (by omega) (by omega) (by omega) (by omega) (h_tx_c hk htx hfC1 hfR1) (by
          by_cases e : m = 0
          · rw [if_pos e, if_pos e, q_upE]
          · rw [if_neg e, if_neg e, q_upM (by omega), q_upN (by omega)]; exact h3) (by
          by_cases e : m = 0
          · rw [if_pos e, q_upM (by omega), q_upN (by omega), q_upE]
          · rw [if_neg e, q_upE]) (by
          by_cases e : m = 0
          · rw [if_pos e, if_pos e, q_upN (by omega), q_upE]
          · rw [if_neg e, if_neg e, q_upN (by omega), q_upN (by omega)]; exact h2) ((hrow 17 (by omega) (by omega)).trans h17) q_upE (by rw [q_upM (by omega), q_upN (by omega)]; exact h7) (fun x hx => by
          by_cases e : x = i
          · subst e
            refine ⟨p, by rw [hM18, q_upE], by rw [q_upN (by omega), q_upE], fun z => by rw [if_pos z] at hp2; exact hp2, fun z => by rw [if_neg z] at hp2; omega⟩
          · obtain ⟨y, y1, y2, y3, y4⟩ := hp x (by omega)
            exact ⟨y, by rw [hM18, q_upM (by omega)]; exact y1, by rw [q_upN (by omega), q_upM (by omega)]; exact y2, y3, y4⟩)
      rw [h_go hk hj htn hgo, hRo]
      rcases this with ⟨w, M', V', a1, a2, a3, a4, a5, a6⟩ | ⟨F', t', M', V', a1, a2, a3, a4, a5, a6, a7, a8, a9, a10, a11, a12, a13, a14⟩
      · exact Or.inl ⟨w, M', V', a1, a2, a3, a4, h_fC_t hfC1 a5, h_fR_t hfR1 a6⟩
      · exact Or.inr ⟨F', t', M', V', a1, a2, a3, by omega, a5, a6, a7, a8, a9, a10, h_fC_t hfC1 a11, h_fR_t hfR1 a12, fun y y1 y2 => (a13 y y1 y2).trans (hrow y y1 y2), fun y y1 y2 => by rw [a14 y y1 y2, q_upN (by omega), q_upN (by omega)]⟩
    · have hg : zf_T_goesOn 2 15 (h_cd k j n M t) M = some (nI 0, M) := by
        rw [hC]
        unfold zf_T_takesPart_b16
        by_cases e3 : (h_cd k j n M t).toInt < 48
        · rw [if_pos (l_xlt 48 e3 (by omega))]; rfl
        · rw [if_neg (l_nxlt 48 (by omega) (by omega)), if_neg]
          · rfl
          · by_cases e : f = 0
            · rw [if_pos e]; rw [if_pos e] at e1; exact l_nxle 57 (by omega) (by omega)
            · rw [if_neg e]; rw [if_neg e] at e1; exact l_nxle 55 (by omega) (by omega)
      have hin : zf_M_in ((h_cd k j n M t - nI 48).toInt64) (0 : Int64) (if f = 0 then (9 : Int64) else 7) V = some (nI 0, V) := by
        by_cases e : f = 0
        · rw [if_pos e]; rw [if_pos e] at e2
          exact r_inF V 0 9 (by decide) (by decide) e2
        · rw [if_neg e]; rw [if_neg e] at e2
          exact r_inF V 0 7 (by decide) (by decide) e2
      obtain ⟨M', m1, m2⟩ := h_fail (F := F) hk hj h3 (by omega) (by omega) ht hg
      refine Or.inl ⟨t, M', V, m1, ?_, h6, ht, ?_, h_fR_r⟩
      · rw [hR, hin, u_bd, if_pos (by decide)]; rfl
      · rcases m2 with rfl | rfl <;> exact h_fC_r
end RD

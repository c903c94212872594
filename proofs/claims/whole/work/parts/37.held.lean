/-! ===== 37: held ===== -/
theorem l_ne {a : Nat} (k : Nat) (h : a ≠ k) (ha : a < 2147483648) (hk : k < 2147483648) : ¬ nI a = (OfNat.ofNat k : Int32) := fun z => h ((q_eq ha hk).mp z)
theorem l_le {a : Nat} (k : Nat) (h : a ≤ k) (hk : k < 2147483648) : nI a ≤ (OfNat.ofNat k : Int32) := (q_le (by omega) hk).mpr h
theorem l_nle {a : Nat} (k : Nat) (h : k < a) (ha : a < 2147483648) : ¬ nI a ≤ (OfNat.ofNat k : Int32) := fun z => by have := (q_le ha (by omega)).mp z; omega
theorem l_lt {a : Nat} (k : Nat) (h : a < k) (hk : k < 2147483648) : nI a < (OfNat.ofNat k : Int32) := (q_lt (by omega) hk).mpr h
theorem l_nlt {a : Nat} (k : Nat) (h : k ≤ a) (ha : a < 2147483648) : ¬ nI a < (OfNat.ofNat k : Int32) := fun z => by have := (q_lt ha (by omega)).mp z; omega
theorem l_kle {a : Nat} (k : Nat) (h : k ≤ a) (ha : a < 2147483648) : (OfNat.ofNat k : Int32) ≤ nI a := (q_le (by omega) ha).mpr h
theorem l_nkle {a : Nat} (k : Nat) (h : a < k) (hk : k < 2147483648) : ¬ (OfNat.ofNat k : Int32) ≤ nI a := fun z => by have := (q_le hk (by omega)).mp z; omega
theorem l_klt {a : Nat} (k : Nat) (h : k < a) (ha : a < 2147483648) : (OfNat.ofNat k : Int32) < nI a := (q_lt (by omega) ha).mpr h
theorem l_nklt {a : Nat} (k : Nat) (h : a ≤ k) (hk : k < 2147483648) : ¬ (OfNat.ofNat k : Int32) < nI a := fun z => by have := (q_lt hk (by omega)).mp z; omega
theorem l_m9 {a : Nat} (ha : a < 2147483648) : ¬ nI a = -9 := fun z => (q_m9 ha).mp z
theorem l_xlt {x : Int32} (k : Nat) (h : x.toInt < (k : Int)) (hk : k < 2147483648) : x < (OfNat.ofNat k : Int32) := (q_xlt hk).mpr h
theorem l_nxlt {x : Int32} (k : Nat) (h : (k : Int) ≤ x.toInt) (hk : k < 2147483648) : ¬ x < (OfNat.ofNat k : Int32) := fun z => by have := (q_xlt hk).mp z; omega
theorem l_xle {x : Int32} (k : Nat) (h : x.toInt ≤ (k : Int)) (hk : k < 2147483648) : x ≤ (OfNat.ofNat k : Int32) := (q_xle hk).mpr h
theorem l_nxle {x : Int32} (k : Nat) (h : (k : Int) < x.toInt) (hk : k < 2147483648) : ¬ x ≤ (OfNat.ofNat k : Int32) := fun z => by have := (q_xle hk).mp z; omega
theorem b_or (a b : Nat) : nI a ||| nI b = nI (a ||| b) := by
  apply Int32.toBitVec_inj.1
  show BitVec.ofNat 32 a ||| BitVec.ofNat 32 b = BitVec.ofNat 32 (a ||| b)
  apply BitVec.eq_of_getLsbD_eq
  intro i hi
  simp [hi]
theorem b_sft {c : Nat} (h : c ≤ 8) : nI c &&& 31 = nI c ∧ ((nI c).toBitVec.smod 32).toNat = c := by
  rcases (show c = 0 ∨ c = 1 ∨ c = 2 ∨ c = 3 ∨ c = 4 ∨ c = 5 ∨ c = 6 ∨ c = 7 ∨ c = 8 by omega) with rfl | rfl | rfl | rfl | rfl | rfl | rfl | rfl | rfl <;> exact ⟨by decide, by decide⟩
theorem b_one {c : Nat} (h : c ≤ 8) : (1 : Int32) <<< (nI c &&& 31) = nI (2 ^ c) := by
  rcases (show c = 0 ∨ c = 1 ∨ c = 2 ∨ c = 3 ∨ c = 4 ∨ c = 5 ∨ c = 6 ∨ c = 7 ∨ c = 8 by omega) with rfl | rfl | rfl | rfl | rfl | rfl | rfl | rfl | rfl <;> decide
theorem b_bit {m c : Nat} (hm : m < 256) (h : c ≤ 8) : ((nI m >>> (nI c &&& 31)) &&& (1 : Int32)) = (1 : Int32) ↔ m.testBit c = true := by
  obtain ⟨h1, h2⟩ := b_sft h
  have h3 : m / 2 ^ c ≤ m := Nat.div_le_self _ _
  rw [h1, pk_shrN (by omega) _ c h2, pk_andN (k := 1) (by omega) (by decide), Nat.testBit_eq_decide_div_mod_eq, decide_eq_true_eq]
  have h4 : m / 2 ^ c % 2 ^ 1 < 2 := Nat.mod_lt _ (by decide)
  exact q_eq (b := 1) (by omega) (by omega)
theorem b_mask {m N : Nat} (hm : m < 256) (hN : N ≤ 8) : nI m &&& ((1 : Int32) <<< (nI N &&& 31) - 1) = nI (m % 2 ^ N) := by
  refine pk_andN (by omega) N ?_
  rcases (show N = 0 ∨ N = 1 ∨ N = 2 ∨ N = 3 ∨ N = 4 ∨ N = 5 ∨ N = 6 ∨ N = 7 ∨ N = 8 by omega) with rfl | rfl | rfl | rfl | rfl | rfl | rfl | rfl | rfl <;> decide
def b_ss (a b : Nat) : Prop := ∀ i, a.testBit i = true → b.testBit i = true
theorem b_ss_or {a b c : Nat} (h1 : b_ss a c) (h2 : b_ss b c) : b_ss (a ||| b) c := fun i h => by
  rw [Nat.testBit_or, Bool.or_eq_true] at h
  exact h.elim (h1 i) (h2 i)
theorem b_ss_l (a b : Nat) : b_ss a (a ||| b) := fun i h => by rw [Nat.testBit_or, h, Bool.true_or]
theorem b_ss_r (a b : Nat) : b_ss b (a ||| b) := fun i h => by rw [Nat.testBit_or, h, Bool.or_true]
theorem b_ss_t {a b c : Nat} (h1 : b_ss a b) (h2 : b_ss b c) : b_ss a c := fun i h => h2 i (h1 i h)
theorem b_ss_a {a b : Nat} (h1 : b_ss a b) (h2 : b_ss b a) : a = b := Nat.eq_of_testBit_eq fun i => by
  cases e1 : a.testBit i <;> cases e2 : b.testBit i
  · rfl
  · rw [h2 i e2] at e1; cases e1
  · rw [h1 i e1] at e2; cases e2
  · rfl
theorem b_lt {a b : Nat} (h1 : a < 256) (h2 : b < 256) : a ||| b < 256 := Nat.or_lt_two_pow (n := 8) h1 h2
def b_cnt (m : Nat) : Nat := q_cnt (fun i => m.testBit i) 8
theorem q_cnt_mono {p p' : Nat → Bool} : ∀ {n : Nat}, (∀ c, c < n → p c = true → p' c = true) → q_cnt p n ≤ q_cnt p' n
  | 0, _ => Nat.le_refl _
  | n + 1, h => by
    have := q_cnt_mono (n := n) (fun c hc => h c (by omega))
    unfold q_cnt
    cases e : p n
    · simp only [Bool.false_eq_true, if_false]; omega
    · rw [h n (by omega) e]; simp only [if_true]; omega
theorem q_cnt_str {p p' : Nat → Bool} {a : Nat} : ∀ {n : Nat}, (∀ c, c < n → p c = true → p' c = true) → a < n → p a = false → p' a = true → q_cnt p n < q_cnt p' n
  | 0, _, h, _, _ => by omega
  | n + 1, h, ha, h1, h2 => by
    unfold q_cnt
    by_cases e : a = n
    · subst e
      have := q_cnt_mono (n := a) (fun c hc => h c (by omega))
      rw [h1, h2]; simp only [Bool.false_eq_true, if_false, if_true]; omega
    · have := q_cnt_str (n := n) (fun c hc => h c (by omega)) (by omega) h1 h2
      cases e2 : p n
      · simp only [Bool.false_eq_true, if_false]; omega
      · rw [h n (by omega) e2]; simp only [if_true]; omega
theorem b_grow {a b : Nat} (ha : a < 256) (hb : b < 256) (h : b_ss a b) (hne : b ≠ a) : b_cnt a < b_cnt b := by
  have : ∃ i, i < 8 ∧ a.testBit i = false ∧ b.testBit i = true := by
    apply Classical.byContradiction
    intro hh
    refine hne (b_ss_a (fun i hi => ?_) h)
    by_cases e : i < 8
    · cases e1 : a.testBit i
      · exact (hh ⟨i, e, e1, hi⟩).elim
      · rfl
    · rw [Nat.testBit_lt_two_pow (Nat.lt_of_lt_of_le hb (show 2 ^ 8 ≤ 2 ^ i from Nat.pow_le_pow_right (by decide) (by omega)))] at hi
      cases hi
  obtain ⟨i, h1, h2, h3⟩ := this
  exact q_cnt_str (fun c _ hc => h c hc) h1 h2 h3
/-- one round of the class, of the reference -/
def b_sc (D : Nat → Nat) : Nat → Nat → Nat → Nat
  | 0, _, m => m
  | k + 1, i, m => b_sc D k (i + 1) (if m.testBit i then m ||| D i else m)
def b_sr (D : Nat → Nat) (h : Nat) : Nat → Nat → Nat → Nat
  | 0, _, m => m
  | k + 1, i, m => b_sr D h k (i + 1) (if h.testBit i then m ||| D i else m)
def b_cls (D : Nat → Nat) (N S : Nat) : Prop := ∀ c, c < N → S.testBit c = true → b_ss (D c) S
/-- the least set that m lies in and that is closed -/
def b_lst (D : Nat → Nat) (N m S : Nat) : Prop := b_ss m S ∧ b_cls D N S ∧ ∀ T, b_cls D N T → b_ss m T → b_ss S T
theorem b_lst_u {D : Nat → Nat} {N m S T : Nat} (h1 : b_lst D N m S) (h2 : b_lst D N m T) : S = T := b_ss_a (h1.2.2 T h2.2.1 h2.1) (h2.2.2 S h1.2.1 h1.1)
theorem b_sc_up {D : Nat → Nat} : ∀ (k i m : Nat), b_ss m (b_sc D k i m)
  | 0, _, _ => fun _ h => h
  | k + 1, i, m => by
    refine b_ss_t ?_ (b_sc_up k (i + 1) _)
    split
    · exact b_ss_l _ _
    · exact fun _ h => h
theorem b_sr_up {D : Nat → Nat} {h : Nat} : ∀ (k i m : Nat), b_ss m (b_sr D h k i m)
  | 0, _, _ => fun _ h => h
  | k + 1, i, m => by
    refine b_ss_t ?_ (b_sr_up k (i + 1) _)
    split
    · exact b_ss_l _ _
    · exact fun _ h => h
theorem b_sc_lt {D : Nat → Nat} {N : Nat} (hD : ∀ c, c < N → D c < 256) : ∀ (k i m : Nat), i + k ≤ N → m < 256 → b_sc D k i m < 256
  | 0, _, _, _, h => h
  | k + 1, i, m, hi, h => by
    refine b_sc_lt hD k (i + 1) _ (by omega) ?_
    split
    · exact b_lt h (hD i (by omega))
    · exact h
theorem b_sr_lt {D : Nat → Nat} {N h : Nat} (hD : ∀ c, c < N → D c < 256) : ∀ (k i m : Nat), i + k ≤ N → m < 256 → b_sr D h k i m < 256
  | 0, _, _, _, h => h
  | k + 1, i, m, hi, h => by
    refine b_sr_lt hD k (i + 1) _ (by omega) ?_
    split
    · exact b_lt h (hD i (by omega))
    · exact h
theorem b_sc_in {D : Nat → Nat} {N T : Nat} (hT : b_cls D N T) : ∀ (k i m : Nat), i + k ≤ N → b_ss m T → b_ss (b_sc D k i m) T
  | 0, _, _, _, h => h
  | k + 1, i, m, hi, h => by
    refine b_sc_in hT k (i + 1) _ (by omega) ?_
    split
    · rename_i e
      exact b_ss_or h (hT i (by omega) (h i e))
    · exact h
theorem b_sr_in {D : Nat → Nat} {N T h0 : Nat} (hT : b_cls D N T) (hh : b_ss h0 T) : ∀ (k i m : Nat), i + k ≤ N → b_ss m T → b_ss (b_sr D h0 k i m) T
  | 0, _, _, _, h => h
  | k + 1, i, m, hi, h => by
    refine b_sr_in hT hh k (i + 1) _ (by omega) ?_
    split
    · rename_i e
      exact b_ss_or h (hT i (by omega) (hh i e))
    · exact h
theorem b_sc_fix {D : Nat → Nat} : ∀ (k i m : Nat), b_sc D k i m = m → ∀ c, i ≤ c → c < i + k → m.testBit c = true → b_ss (D c) m
  | 0, i, m, _, c, h1, h2, _ => by omega
  | k + 1, i, m, h, c, h1, h2, h3 => by
    have hu : b_ss (if m.testBit i then m ||| D i else m) m := by
      have := b_sc_up (D := D) k (i + 1) (if m.testBit i then m ||| D i else m)
      rw [show b_sc D k (i + 1) (if m.testBit i then m ||| D i else m) = m from h] at this
      exact this
    by_cases e : c = i
    · subst e
      rw [h3, if_pos rfl] at hu
      exact b_ss_t (b_ss_r _ _) hu
    · have he : (if m.testBit i then m ||| D i else m) = m := by
        refine b_ss_a hu ?_
        split
        · exact b_ss_l _ _
        · exact fun _ h => h
      have h' : b_sc D k (i + 1) (if m.testBit i then m ||| D i else m) = m := h
      rw [he] at h'
      exact b_sc_fix k (i + 1) m h' c (by omega) (by omega) h3
theorem b_sr_fix {D : Nat → Nat} {h0 : Nat} : ∀ (k i m : Nat), b_sr D h0 k i m = m → ∀ c, i ≤ c → c < i + k → h0.testBit c = true → b_ss (D c) m
  | 0, i, m, _, c, h1, h2, _ => by omega
  | k + 1, i, m, h, c, h1, h2, h3 => by
    have hu : b_ss (if h0.testBit i then m ||| D i else m) m := by
      have := b_sr_up (D := D) (h := h0) k (i + 1) (if h0.testBit i then m ||| D i else m)
      rw [show b_sr D h0 k (i + 1) (if h0.testBit i then m ||| D i else m) = m from h] at this
      exact this
    by_cases e : c = i
    · subst e
      rw [h3, if_pos rfl] at hu
      exact b_ss_t (b_ss_r _ _) hu
    · have he : (if h0.testBit i then m ||| D i else m) = m := by
        refine b_ss_a hu ?_
        split
        · exact b_ss_l _ _
        · exact fun _ h => h
      have h' : b_sr D h0 k (i + 1) (if h0.testBit i then m ||| D i else m) = m := h
      rw [he] at h'
      exact b_sr_fix k (i + 1) m h' c (by omega) (by omega) h3
section HB
variable {o B N : Nat} {μ ν : nk_M} {D : Nat → Nat}
theorem c_held_i (hN : N ≤ 8) (h0 : μ o 0 = nI N) (hD : ∀ c, c < N → D c < 256) (hd : ∀ c, c < N → zf_C_heldDirectly o B (nI c) μ = some (nI (D c), μ)) (rc : Int32 → Int32 → nk_M → Option (Int32 × nk_M)) (y3 y4 : Int32) :
    ∀ (k f i m : Nat), i + k = N → k < f → m < 256 → zf_C_heldBy_b25 o B rc f (nI m) y3 y4 (nI i) μ = (if nI (b_sc D k i m) = y4 then some (nI (b_sc D k i m), μ) else rc (nI (b_sc D k i m)) (y3 + 1) μ) := by
  intro k
  induction k with
  | zero =>
    intro f i m hi hf hm
    obtain ⟨f, rfl⟩ : ∃ g, f = g + 1 := ⟨f - 1, by omega⟩
    rw [zf_C_heldBy_b25, h0, if_pos ((q_le (by omega) (by omega)).mpr (by omega))]
    rfl
  | succ k ih =>
    intro f i m hi hf hm
    obtain ⟨f, rfl⟩ : ∃ g, f = g + 1 := ⟨f - 1, by omega⟩
    rw [zf_C_heldBy_b25, h0, if_neg (fun z => by have := (q_le (by omega) (by omega)).mp z; omega)]
    by_cases e : m.testBit i = true
    · have h1 := ih f (i + 1) (m ||| D i) (by omega) (by omega) (b_lt hm (hD i (by omega)))
      rw [if_pos ((b_bit hm (by omega)).mpr e), hd i (by omega), u_bd, u_nm, b_or]
      unfold zf_C_heldBy_b53
      rw [u_lit 1, q_add, h1]
      rw [show b_sc D (k + 1) i m = b_sc D k (i + 1) (m ||| D i) by rw [b_sc, e, if_pos rfl]]
      rfl
    · have h1 := ih f (i + 1) m (by omega) (by omega) hm
      rw [if_neg (fun z => e ((b_bit hm (by omega)).mp z))]
      unfold zf_C_heldBy_b53
      rw [u_lit 1, q_add, h1]
      rw [show b_sc D (k + 1) i m = b_sc D k (i + 1) m by rw [b_sc, if_neg e]]
      rfl
theorem c_held_b (hN : N ≤ 8) (h0 : μ o 0 = nI N) (hD : ∀ c, c < N → D c < 256) (hd : ∀ c, c < N → zf_C_heldDirectly o B (nI c) μ = some (nI (D c), μ)) : ∀ (f r m : Nat), r ≤ b_cnt m → 9 - b_cnt m ≤ f → m < 256 → ∃ S, S < 256 ∧ b_lst D N m S ∧ zf_C_heldBy_b13 o B f (nI m) (nI r) μ = some (nI S, μ) := by
  intro f
  induction f with
  | zero =>
    intro r m h1 h2 hm
    have : b_cnt m ≤ 8 := q_cnt_le _ _
    omega
  | succ f ih =>
    intro r m h1 h2 hm
    have h8 : b_cnt m ≤ 8 := q_cnt_le _ _
    have hs := b_sc_lt hD N 0 m (by omega) hm
    rw [zf_C_heldBy_b13, if_neg (l_nklt 8 (by omega) (by omega)), u_lit 0, c_held_i hN h0 hD hd _ _ _ N nk_fu 0 m (by omega) (by show _ < 4096; omega) hm]
    by_cases e : b_sc D N 0 m = m
    · rw [if_pos (by rw [e]), e]
      exact ⟨m, hm, ⟨fun _ h => h, fun c hc h => b_sc_fix N 0 m e c (by omega) (by omega) h, fun T _ h => h⟩, rfl⟩
    · rw [if_neg (fun z => e ((q_eq (by omega) (by omega)).mp z)), u_lit 1, q_add]
      have hg := b_grow hm hs (b_sc_up N 0 m) e
      obtain ⟨S, s1, s2, s3⟩ := ih (r + 1) (b_sc D N 0 m) (by omega) (by omega) hs
      exact ⟨S, s1, ⟨b_ss_t (b_sc_up N 0 m) s2.1, s2.2.1, fun T t1 t2 => s2.2.2 T t1 (b_sc_in t1 N 0 m (by omega) t2)⟩, s3⟩
theorem r_held_i (hN : N ≤ 8) (h0 : ν 0 1 = nI N) (hD : ∀ c, c < N → D c < 256) (hd : ∀ c, c < N → zf_M_holds (nI c) ν = some (nI (D c), ν)) (rc : Int32 → Int32 → nk_M → Option (Int32 × nk_M)) {h : Nat} (hh : h < 256) :
    ∀ (k f i m : Nat), i + k = N → k < f → m < 256 → zf_M_heldBy_b23 rc f (nI m) (nI h) (nI i) ν = rc (nI (b_sr D h k i m)) (nI h) ν := by
  intro k
  induction k with
  | zero =>
    intro f i m hi hf hm
    obtain ⟨f, rfl⟩ : ∃ g, f = g + 1 := ⟨f - 1, by omega⟩
    rw [zf_M_heldBy_b23, h0, if_pos ((q_le (by omega) (by omega)).mpr (by omega))]
    rfl
  | succ k ih =>
    intro f i m hi hf hm
    obtain ⟨f, rfl⟩ : ∃ g, f = g + 1 := ⟨f - 1, by omega⟩
    rw [zf_M_heldBy_b23, h0, if_neg (fun z => by have := (q_le (by omega) (by omega)).mp z; omega)]
    by_cases e : h.testBit i = true
    · have h1 := ih f (i + 1) (m ||| D i) (by omega) (by omega) (b_lt hm (hD i (by omega)))
      rw [if_pos ((b_bit hh (by omega)).mpr e), hd i (by omega), u_bd]
      unfold zf_M_heldBy_b53
      rw [u_nm, b_or, u_lit 1, q_add, h1]
      rw [show b_sr D h (k + 1) i m = b_sr D h k (i + 1) (m ||| D i) by rw [b_sr, e, if_pos rfl]]
    · have h1 := ih f (i + 1) m (by omega) (by omega) hm
      rw [if_neg (fun z => e ((b_bit hh (by omega)).mp z))]
      unfold zf_M_heldBy_b53
      rw [u_nm, u_lit 0, b_or, Nat.or_zero, u_lit 1, q_add, h1]
      rw [show b_sr D h (k + 1) i m = b_sr D h k (i + 1) m by rw [b_sr, if_neg e]]
theorem r_held_b (hN : N ≤ 8) (h0 : ν 0 1 = nI N) (hD : ∀ c, c < N → D c < 256) (hd : ∀ c, c < N → zf_M_holds (nI c) ν = some (nI (D c), ν)) : ∀ (f m : Nat) (y : Int32), 10 - b_cnt m ≤ f → m < 256 → (y ≠ nI m ∨ b_cls D N m) → ∃ S, S < 256 ∧ b_lst D N m S ∧ zf_M_heldBy_b13 f (nI m) y ν = some (nI S, ν) := by
  intro f
  induction f with
  | zero =>
    intro m y h2 hm
    have : b_cnt m ≤ 8 := q_cnt_le _ _
    omega
  | succ f ih =>
    intro m y h2 hm hy
    have h8 : b_cnt m ≤ 8 := q_cnt_le _ _
    have hs := b_sr_lt (h := m) hD N 0 m (by omega) hm
    rw [zf_M_heldBy_b13]
    by_cases ey : y = nI m
    · rw [if_pos ey]
      rcases hy with h | h
      · exact (h ey).elim
      · exact ⟨m, hm, ⟨fun _ h => h, h, fun T _ h => h⟩, rfl⟩
    · rw [if_neg ey, u_lit 0, r_held_i hN h0 hD hd _ hm N nk_fu 0 m (by omega) (by show _ < 4096; omega) hm]
      by_cases e : b_sr D m N 0 m = m
      · have hc : b_cls D N m := fun c hc h => b_sr_fix N 0 m e c (by omega) (by omega) h
        obtain ⟨f, rfl⟩ : ∃ g, f = g + 1 := ⟨f - 1, by omega⟩
        rw [e, zf_M_heldBy_b13, if_pos rfl]
        exact ⟨m, hm, ⟨fun _ h => h, hc, fun T _ h => h⟩, rfl⟩
      · have hg := b_grow hm hs (b_sr_up N 0 m) e
        obtain ⟨S, s1, s2, s3⟩ := ih (b_sr D m N 0 m) (nI m) (by omega) hs (Or.inl (fun z => e ((q_eq (by omega) (by omega)).mp z.symm)))
        exact ⟨S, s1, ⟨b_ss_t (b_sr_up N 0 m) s2.1, s2.2.1, fun T t1 t2 => s2.2.2 T t1 (b_sr_in t1 t2 N 0 m (by omega) t2)⟩, s3⟩
/-- the parts of a cell, as a set -/
def b_ps (p : Nat → Nat) : Nat → Nat
  | 0 => 0
  | k + 1 => b_ps p k ||| 2 ^ p k
theorem b_pw {p : Nat} (h : p < 8) : 2 ^ p < 256 := Nat.lt_of_lt_of_le (Nat.pow_lt_pow_right (by decide) h) (Nat.le_refl _)
theorem b_ps_lt {p : Nat → Nat} : ∀ {n : Nat}, (∀ k, k < n → p k < 8) → b_ps p n < 256
  | 0, _ => by unfold b_ps; omega
  | n + 1, h => b_lt (b_ps_lt (fun k hk => h k (by omega))) (b_pw (h n (by omega)))
variable {fm : Nat → Nat} {pt : Nat → Nat → Nat}
theorem e_partSet (hs : j_st o B N fm pt μ ν) {c : Nat} (hc : c < N) (h0 : fm c ≠ 0) : zf_C_partSet o B (nI c) μ = some (nI (b_ps (pt c) (q_np (fm c))), μ) := by
  obtain ⟨s1, s2, s3, s4⟩ := hs
  obtain ⟨t1, t2, -, -, -, -, t7⟩ := s4 c hc
  have hn3 := q_np3 (fm c)
  unfold zf_C_partSet
  rw [q_ald (by omega) (by omega), t2, if_neg (l_ne 0 h0 (by omega) (by omega)), u_lit 0]
  have main : ∀ (f i : Nat), i ≤ q_np (fm c) → q_np (fm c) - i < f → zf_C_partSet_b15 o B f (nI c) (nI (b_ps (pt c) i)) (nI i) μ = some (nI (b_ps (pt c) (q_np (fm c))), μ) := by
    intro f
    induction f with
    | zero => intro i _ h; omega
    | succ f ih =>
      intro i hi hf
      rw [zf_C_partSet_b15, q_ald (by omega) (by omega), t2, q_tld (by omega) (by omega), q_t2 t1]
      by_cases e : q_np (fm c) ≤ i
      · rw [if_pos ((q_le (by omega) (by omega)).mpr e), show i = q_np (fm c) by omega]
      · obtain ⟨y1, -, -, y4⟩ := t7 i (by omega)
        have := y4 h0
        rw [if_neg (fun z => e ((q_le (by omega) (by omega)).mp z)), e_partAsTold (by omega) t2 t1 (by omega), u_bd, u_nm, y1, b_one (by omega), b_or, u_lit 1, q_add]
        exact ih (i + 1) (by omega) (by omega)
  exact main nk_fu 0 (by omega) (by show _ < 4096; omega)
theorem r_partSet (hs : j_st o B N fm pt μ ν) {c : Nat} (hc : c < N) (h0 : fm c ≠ 0) : ∀ (f i : Nat), i ≤ q_np (fm c) → q_np (fm c) - i < f → zf_M_holds_b64 f (nI c) (nI (b_ps (pt c) i)) (nI i) ν = some (nI (b_ps (pt c) (q_np (fm c))), ν) := by
  obtain ⟨s1, s2, s3, s4⟩ := hs
  obtain ⟨t1, -, t2, -, -, -, t7⟩ := s4 c hc
  have hn3 := q_np3 (fm c)
  intro f
  induction f with
  | zero => intro i _ h; omega
  | succ f ih =>
    intro i hi hf
    rw [zf_M_holds_b64, q_ald (by omega) (by omega), t2, r_partsOf t1, u_bd]
    by_cases e : q_np (fm c) ≤ i
    · rw [if_pos ((q_le (by omega) (by omega)).mpr e), show i = q_np (fm c) by omega]
      rfl
    · obtain ⟨-, y1, -, y4⟩ := t7 i (by omega)
      have := y4 h0
      rw [if_neg (fun z => e ((q_le (by omega) (by omega)).mp z)), q_ald (by omega) (by omega), t2, if_neg (l_nle 0 (by omega) (by omega)), u_lit 3, q_mul, q_add, q_ald (by omega) (by omega), u_nm, y1, b_one (by omega), b_or, u_lit 1, q_add]
      exact ih (i + 1) (by omega) (by omega)
/-- what a cell holds at once, on both sides -/
theorem k_holds (hs : j_st o B N fm pt μ ν) (hd : k_dy true o B N fm pt μ ν) {c : Nat} (hc : c < N) : ∃ d, d < 256 ∧ zf_C_heldDirectly o B (nI c) μ = some (nI d, μ) ∧ zf_M_holds (nI c) ν = some (nI d, ν) := by
  obtain ⟨s1, s2, s3, s4⟩ := id hs
  obtain ⟨t1, t2, t3, -, -, -, t7⟩ := s4 c hc
  obtain ⟨d1, d2, d3, d4, d5⟩ := hd
  obtain ⟨x1, x2, -⟩ := d2 c hc
  obtain ⟨z1, z2, -⟩ := d3 c hc
  have hc8 : c < 8 := by omega
  unfold zf_C_heldDirectly zf_M_holds
  rw [e_isAwake hc8, u_bd, q_ald (k := 9) hc8 (by omega), x2 rfl]
  rcases x1 with y | ⟨v, hv, y⟩
  · rw [y, if_pos rfl, if_pos (by decide), if_pos (by decide), q_ald (k := B + 6) hc8 (by omega), q_ald (k := 12) hc8 (by omega), z2 rfl]
    rcases z1 with w | ⟨j, hj, w⟩
    · rw [w, if_pos (by decide), if_pos (by decide)]
      by_cases h0 : fm c = 0
      · refine ⟨0, by omega, ?_, ?_⟩
        · unfold zf_C_partSet
          rw [q_ald hc8 (by omega), t2, h0, if_pos (by decide)]
          rfl
        · rw [zf_M_holds_b64.eq_def]
          show (nk_ald ν 3 8 (nI c) _) = _
          rw [q_ald hc8 (by omega), t3, r_partsOf t1, u_bd, h0, if_neg (by decide), q_ald hc8 (by omega), t3, h0, if_pos (by decide)]
          rfl
      · refine ⟨_, b_ps_lt (p := pt c) (n := q_np (fm c)) (fun k hk => by have := (t7 k hk).2.2.2 h0; omega), ?_, ?_⟩
        · rw [e_partSet hs hc h0, u_bd]
          rfl
        · exact r_partSet hs hc h0 nk_fu 0 (by omega) (by have := q_np3 (fm c); show _ < 4096; omega)
    · rw [w, if_neg (l_m9 (by omega)), q_ald (k := B + 6) hc8 (by omega), w, if_neg (q_nlt0 (by omega)), q_ald (k := 12) hc8 (by omega), z2 rfl, w, b_one (by omega)]
      exact ⟨_, b_pw (by omega), rfl, rfl⟩
  · rw [y, if_neg (fun z => (q_m9 (a := v) (by omega)).mp z), if_neg (by decide), if_neg (q_nlt0 (by omega)), q_ald (k := B + 4) hc8 (by omega), q_ald (k := 9) hc8 (by omega), x2 rfl, y]
    by_cases e : v = 100
    · obtain ⟨q, q1, q2, q3, q4, q5⟩ := d4 c hc (by rw [y, e])
      obtain ⟨-, -, -, -, -, -, r7⟩ := s4 q q1
      have p0 := (r7 0 (by rw [q3]; decide)).2.2.2 (by omega)
      have p1 := (r7 1 (by rw [q3]; decide)).2.2.2 (by omega)
      rw [e, if_pos (by decide), if_pos (by decide), q_ald (k := B + 5) hc8 (by omega), q2, e_partSet hs q1 (by omega), u_bd, q_ald (k := 10) hc8 (by omega), q_ald (k := 11) hc8 (by omega), q4, q5, b_one (by omega), b_one (by omega), b_or, q3]
      refine ⟨2 ^ pt q 0 ||| 2 ^ pt q 1, b_lt (b_pw (by omega)) (b_pw (by omega)), ?_, rfl⟩
      show some (nI ((0 ||| 2 ^ pt q 0) ||| 2 ^ pt q 1), μ) = _
      rw [Nat.zero_or]
    · rw [if_neg (l_ne 100 e (by omega) (by omega)), if_neg (l_ne 100 e (by omega) (by omega))]
      exact ⟨0, by omega, rfl, rfl⟩
/-- what a set holds, on both sides -/
theorem k_held (hs : j_st o B N fm pt μ ν) (hd : k_dy true o B N fm pt μ ν) {m : Nat} (hm : m < 256) : ∃ S, S < 256 ∧ zf_C_heldBy o B (nI m) μ = some (nI S, μ) ∧ zf_M_heldBy (nI m) ν = some (nI S, ν) := by
  obtain ⟨s1, s2, s3, s4⟩ := id hs
  have hD : ∃ D : Nat → Nat, ∀ c, c < N → D c < 256 ∧ zf_C_heldDirectly o B (nI c) μ = some (nI (D c), μ) ∧ zf_M_holds (nI c) ν = some (nI (D c), ν) :=
    ⟨fun c => if h : c < N then (k_holds hs hd h).choose else 0, fun c hc => by
      simp only [hc, dif_pos]
      exact (k_holds hs hd hc).choose_spec⟩
  obtain ⟨D, hD⟩ := hD
  have hm2 : m % 2 ^ N < 256 := Nat.lt_of_le_of_lt (Nat.mod_le _ _) hm
  obtain ⟨S, a1, a2, a3⟩ := c_held_b (o := o) (B := B) (μ := μ) s1 s2 (fun c hc => (hD c hc).1) (fun c hc => (hD c hc).2.1) nk_fu 0 (m % 2 ^ N) (by omega) (by show _ ≤ 4096; omega) hm2
  obtain ⟨T, b1, b2, b3⟩ := r_held_b (ν := ν) s1 s3 (fun c hc => (hD c hc).1) (fun c hc => (hD c hc).2.2) nk_fu (m % 2 ^ N) (-1) (by show _ ≤ 4096; omega) hm2 (Or.inl (fun z => q_neg1 (by omega) z.symm))
  have e := b_lst_u a2 b2
  subst e
  refine ⟨S, a1, ?_, ?_⟩
  · unfold zf_C_heldBy
    rw [u_nm, s2, b_mask hm s1]
    exact a3
  · unfold zf_M_heldBy
    rw [u_nm, s3, b_mask hm s1]
    exact b3
end HB
theorem p_held {μ ν : nk_M} (a : Int32) (h : RR μ ν) : p_ok (zf_N_held a μ) (zf_M_held a ν) := by
  obtain ⟨N, fm, pt, hA, hL, hT, hD, hS, hF⟩ := id h
  by_cases e : 0 ≤ a.toInt ∧ a.toInt ≤ 255
  · obtain ⟨p, rfl, hp1, hp2⟩ := q_of (a := 0) (b := 255) e
    obtain ⟨S, -, e1, e2⟩ := k_held hA.1 hA.2.1 (m := p) (by omega)
    refine ⟨nI S, μ, ν, ?_, ?_, h⟩
    · unfold zf_N_held
      rw [if_neg (q_nlt0 (by omega)), if_pos (l_le 255 (by omega) (by omega)), e1]
      rfl
    · unfold zf_M_held
      rw [r_inT (x := nI p) ν 0 255 (by decide) (by decide) e, u_bd, if_neg (by decide), e2]
      rfl
  · refine ⟨-nI 2, μ, ν, ?_, ?_, h⟩
    · unfold zf_N_held
      by_cases e2 : a.toInt < 0
      · rw [if_pos (l_xlt 0 e2 (by omega))]
        rfl
      · rw [if_neg (l_nxlt 0 (by omega) (by omega)), if_neg (l_nxle 255 (by omega) (by omega))]
        rfl
    · unfold zf_M_held
      rw [r_inF (x := a) ν 0 255 (by decide) (by decide) e, u_bd, if_pos (by decide)]
      rfl

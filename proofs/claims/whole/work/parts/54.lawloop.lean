/-! ===== 54: the law's loop (written by program) ===== -/
theorem lo_sub {L i : Nat} (hL : L ≤ 3072) (hi : i ≤ 4000) : (Int32.ofNat L - 6 < nI i) ↔ ¬ i + 6 ≤ L := by
  by_cases h : 6 ≤ L
  · rw [show Int32.ofNat L - 6 = nI (L - 6) from q_sub (a := L) (b := 6) h, q_lt (by omega) (by omega)]
    omega
  · have h1 : (Int32.ofNat L - 6).toInt < 0 := by
      rcases (show L = 0 ∨ L = 1 ∨ L = 2 ∨ L = 3 ∨ L = 4 ∨ L = 5 by omega) with rfl | rfl | rfl | rfl | rfl | rfl <;> decide
    rw [q_iff_lt, q_nI (by omega)]
    omega
set_option maxHeartbeats 4000000 in
set_option maxRecDepth 100000 in
theorem lo_loop {p : Program} {l : Launch} {e : Env} {s : State} {m : MethodId} {below : List Frame} {meth : Method} {c : Code} {b L : Nat} {xs : Nat → Int32} {G1 G2 : nk_V} (C : lo_C p s m meth c b L xs G1 G2) : ∀ (n i : Nat) (μ ν : nk_M), i ≤ 3080 → L < i + n → RR μ ν → lo_J p l e s m below meth c b G1 G2 i μ ν 18 [] := by
  obtain ⟨⟨hx, hb, hr, hml, hown, hts, hX, hbl, hlocks, hgv⟩, -, -, -, -, -, hL⟩ := id C
  intro n
  induction n with
  | zero =>
    intro i μ ν hi hn hRR H locs ls h1 h2 hS hl
    refine lv_iload_n hx hb zd_L_18 rfl (lv_at hl 3 rfl) ?_
    refine lv_aload_n hx hb zd_L_19 rfl (lv_at hl 0 rfl) ?_
    refine va_slen hx hb hX hbl (Nat.not_le.mpr hbl) hS zd_L_20 ?_
    refine lv_bipush (v := 6) hx hb zd_L_21 (by decide) ?_
    refine lv_isub hx hb zd_L_23 ?_
    refine lv_icmp_gt (tgt := 975) hx hb zd_L_24 (by decide) (fun c1 => ?_) (fun c1 => absurd ((lo_sub hL (by omega)).mpr (by omega)) c1)
    refine lv_iconst (v := 1) hx hb zd_L_975 (by decide) ?_
    refine va_forget (fun q hq => hS.2.2 q hq) ?_
    refine W.widen (k := 600000) (n := 7302250) (Nat.le_of_ble_eq_true rfl) (Nat.le_of_ble_eq_true rfl) ?_
    exact lw_ret hx hb hr hlocks zd_L_976
  | succ n ih =>
    intro i μ ν hi hn hRR H locs ls h1 h2 hS hl
    refine lv_iload_n hx hb zd_L_18 rfl (lv_at hl 3 rfl) ?_
    refine lv_aload_n hx hb zd_L_19 rfl (lv_at hl 0 rfl) ?_
    refine va_slen hx hb hX hbl (Nat.not_le.mpr hbl) hS zd_L_20 ?_
    refine lv_bipush (v := 6) hx hb zd_L_21 (by decide) ?_
    refine lv_isub hx hb zd_L_23 ?_
    refine lv_icmp_gt (tgt := 975) hx hb zd_L_24 (by decide) (fun c1 => ?_) (fun c1 => ?_)
    · refine lv_iconst (v := 1) hx hb zd_L_975 (by decide) ?_
      refine va_forget (fun q hq => hS.2.2 q hq) ?_
      refine W.widen (k := 600000) (n := 7302250) (Nat.le_of_ble_eq_true rfl) (Nat.le_of_ble_eq_true rfl) ?_
      exact lw_ret hx hb hr hlocks zd_L_976
    · have hi6 : i + 6 ≤ L := Classical.byContradiction fun z => c1 ((lo_sub hL (by omega)).mpr z)
      have next : ∀ μ' ν' : nk_M, RR μ' ν' → lo_J p l e s m below meth c b G1 G2 i μ' ν' 969 [] := by
        intro μ' ν' hR' H locs ls h1 h2 hS hl
        refine lv_iinc (v := nI (i + 6)) (lv' := [(3, .int (nI (i + 6))), (0, .ref b), (1, .ref (G1.2.1 0)), (2, .ref (G2.2.1 0))]) hx hb zd_L_969 hl (k := 3) rfl (q_add i 6) (by decide) rfl (fun ls hl => ?_)
        refine lv_goto (tgt := 18) hx hb zd_L_972 (by decide) ?_
        exact ih (i + 6) μ' ν' (by omega) (by omega) hR' H locs ls h1 h2 hS (lv_sub hl [1, 2, 3, 0] rfl)
      refine lv_aload_n hx hb zd_L_27 rfl (lv_at hl 0 rfl) ?_
      refine lv_iload_n hx hb zd_L_28 rfl (lv_at hl 3 rfl) ?_
      refine va_sld hx hb hX hbl (Nat.not_le.mpr hbl) hS (vp_in_nI (show i < L by omega) (by omega)) zd_L_29 ?_
      refine lv_bipush (v := 31) hx hb zd_L_30 (by decide) ?_
      refine lv_iand hx hb zd_L_32 ?_
      obtain ⟨j, hj, ej⟩ := pk_andE (xs (nI i).toNatClampNeg) (m := 31) 5 (by decide)
      rw [ej]
      have hj32 : j < 32 := hj
      rcases (show j = 0 ∨ j = 1 ∨ j = 2 ∨ j = 3 ∨ j = 4 ∨ j = 5 ∨ j = 6 ∨ j = 7 ∨ j = 8 ∨ j = 9 ∨ j = 10 ∨ j = 11 ∨ j = 12 ∨ j = 13 ∨ j = 14 ∨ j = 15 ∨ j = 16 ∨ j = 17 ∨ j = 18 ∨ j = 19 ∨ j = 20 ∨ j = 21 ∨ j = 22 ∨ j = 23 ∨ j = 24 ∨ j = 25 ∨ j = 26 ∨ j = 27 ∨ j = 28 ∨ j = 29 ∨ j = 30 ∨ j = 31 by omega) with rfl | rfl | rfl | rfl | rfl | rfl | rfl | rfl | rfl | rfl | rfl | rfl | rfl | rfl | rfl | rfl | rfl | rfl | rfl | rfl | rfl | rfl | rfl | rfl | rfl | rfl | rfl | rfl | rfl | rfl | rfl | rfl
      · exact lv_tableIn (tgt := 156) hx hb zd_L_33 (by decide) (by decide) (off := 123) (by decide) (by decide) (lo_0 C hi6 hRR next H locs ls h1 h2 hS hl)
      · exact lv_tableIn (tgt := 209) hx hb zd_L_33 (by decide) (by decide) (off := 176) (by decide) (by decide) (lo_1 C hi6 hRR next H locs ls h1 h2 hS hl)
      · exact lv_tableIn (tgt := 242) hx hb zd_L_33 (by decide) (by decide) (off := 209) (by decide) (by decide) (lo_2 C hi6 hRR next H locs ls h1 h2 hS hl)
      · exact lv_tableIn (tgt := 275) hx hb zd_L_33 (by decide) (by decide) (off := 242) (by decide) (by decide) (lo_3 C hi6 hRR next H locs ls h1 h2 hS hl)
      · exact lv_tableIn (tgt := 298) hx hb zd_L_33 (by decide) (by decide) (off := 265) (by decide) (by decide) (lo_4 C hi6 hRR next H locs ls h1 h2 hS hl)
      · exact lv_tableIn (tgt := 321) hx hb zd_L_33 (by decide) (by decide) (off := 288) (by decide) (by decide) (lo_5 C hi6 hRR next H locs ls h1 h2 hS hl)
      · exact lv_tableIn (tgt := 334) hx hb zd_L_33 (by decide) (by decide) (off := 301) (by decide) (by decide) (lo_6 C hi6 hRR next H locs ls h1 h2 hS hl)
      · exact lv_tableIn (tgt := 347) hx hb zd_L_33 (by decide) (by decide) (off := 314) (by decide) (by decide) (lo_7 C hi6 hRR next H locs ls h1 h2 hS hl)
      · exact lv_tableIn (tgt := 360) hx hb zd_L_33 (by decide) (by decide) (off := 327) (by decide) (by decide) (lo_8 C hi6 hRR next H locs ls h1 h2 hS hl)
      · exact lv_tableIn (tgt := 383) hx hb zd_L_33 (by decide) (by decide) (off := 350) (by decide) (by decide) (lo_9 C hi6 hRR next H locs ls h1 h2 hS hl)
      · exact lv_tableIn (tgt := 406) hx hb zd_L_33 (by decide) (by decide) (off := 373) (by decide) (by decide) (lo_10 C hi6 hRR next H locs ls h1 h2 hS hl)
      · exact lv_tableIn (tgt := 469) hx hb zd_L_33 (by decide) (by decide) (off := 436) (by decide) (by decide) (lo_11 C hi6 hRR next H locs ls h1 h2 hS hl)
      · exact lv_tableIn (tgt := 502) hx hb zd_L_33 (by decide) (by decide) (off := 469) (by decide) (by decide) (lo_12 C hi6 hRR next H locs ls h1 h2 hS hl)
      · exact lv_tableIn (tgt := 525) hx hb zd_L_33 (by decide) (by decide) (off := 492) (by decide) (by decide) (lo_13 C hi6 hRR next H locs ls h1 h2 hS hl)
      · exact lv_tableIn (tgt := 548) hx hb zd_L_33 (by decide) (by decide) (off := 515) (by decide) (by decide) (lo_14 C hi6 hRR next H locs ls h1 h2 hS hl)
      · exact lv_tableIn (tgt := 571) hx hb zd_L_33 (by decide) (by decide) (off := 538) (by decide) (by decide) (lo_15 C hi6 hRR next H locs ls h1 h2 hS hl)
      · exact lv_tableIn (tgt := 625) hx hb zd_L_33 (by decide) (by decide) (off := 592) (by decide) (by decide) (lo_16 C hi6 hRR next H locs ls h1 h2 hS hl)
      · exact lv_tableIn (tgt := 668) hx hb zd_L_33 (by decide) (by decide) (off := 635) (by decide) (by decide) (lo_17 C hi6 hRR next H locs ls h1 h2 hS hl)
      · exact lv_tableIn (tgt := 691) hx hb zd_L_33 (by decide) (by decide) (off := 658) (by decide) (by decide) (lo_18 C hi6 hRR next H locs ls h1 h2 hS hl)
      · exact lv_tableIn (tgt := 734) hx hb zd_L_33 (by decide) (by decide) (off := 701) (by decide) (by decide) (lo_19 C hi6 hRR next H locs ls h1 h2 hS hl)
      · exact lv_tableIn (tgt := 778) hx hb zd_L_33 (by decide) (by decide) (off := 745) (by decide) (by decide) (lo_20 C hi6 hRR next H locs ls h1 h2 hS hl)
      · exact lv_tableIn (tgt := 841) hx hb zd_L_33 (by decide) (by decide) (off := 808) (by decide) (by decide) (lo_21 C hi6 hRR next H locs ls h1 h2 hS hl)
      · exact lv_tableIn (tgt := 864) hx hb zd_L_33 (by decide) (by decide) (off := 831) (by decide) (by decide) (lo_22 C hi6 hRR next H locs ls h1 h2 hS hl)
      · exact lv_tableIn (tgt := 887) hx hb zd_L_33 (by decide) (by decide) (off := 854) (by decide) (by decide) (lo_23 C hi6 hRR next H locs ls h1 h2 hS hl)
      · exact lv_tableIn (tgt := 920) hx hb zd_L_33 (by decide) (by decide) (off := 887) (by decide) (by decide) (lo_24 C hi6 hRR next H locs ls h1 h2 hS hl)
      · exact lv_tableIn (tgt := 933) hx hb zd_L_33 (by decide) (by decide) (off := 900) (by decide) (by decide) (lo_25 C hi6 hRR next H locs ls h1 h2 hS hl)
      · exact lv_tableIn (tgt := 946) hx hb zd_L_33 (by decide) (by decide) (off := 913) (by decide) (by decide) (lo_26 C hi6 hRR next H locs ls h1 h2 hS hl)
      · exact lv_tableOut (tgt := 969) hx hb zd_L_33 (Or.inr (by decide)) (by decide) (next μ ν hRR H locs ls h1 h2 hS hl)
      · exact lv_tableOut (tgt := 969) hx hb zd_L_33 (Or.inr (by decide)) (by decide) (next μ ν hRR H locs ls h1 h2 hS hl)
      · exact lv_tableOut (tgt := 969) hx hb zd_L_33 (Or.inr (by decide)) (by decide) (next μ ν hRR H locs ls h1 h2 hS hl)
      · exact lv_tableOut (tgt := 969) hx hb zd_L_33 (Or.inr (by decide)) (by decide) (next μ ν hRR H locs ls h1 h2 hS hl)
      · exact lv_tableOut (tgt := 969) hx hb zd_L_33 (Or.inr (by decide)) (by decide) (next μ ν hRR H locs ls h1 h2 hS hl)

/-! ===== 06: decode rows, meanings (zf_) and contracts (zc_) of methods (written by program) ===== -/
theorem zd_J_fill_0 : decode zb_J_fill 0 = .ok (.iconst 0, 1) := by decide +kernel
theorem zd_J_fill_1 : decode zb_J_fill 1 = .ok (.istore_n 2, 1) := by decide +kernel
theorem zd_J_fill_2 : decode zb_J_fill 2 = .ok (.aload_n 0, 1) := by decide +kernel
theorem zd_J_fill_3 : decode zb_J_fill 3 = .ok (.arraylength, 1) := by decide +kernel
theorem zd_J_fill_4 : decode zb_J_fill 4 = .ok (.istore_n 3, 1) := by decide +kernel
theorem zd_J_fill_5 : decode zb_J_fill 5 = .ok (.iload_n 2, 1) := by decide +kernel
theorem zd_J_fill_6 : decode zb_J_fill 6 = .ok (.iload_n 3, 1) := by decide +kernel
theorem zd_J_fill_7 : decode zb_J_fill 7 = .ok (.if_icmp .ge 13, 3) := by decide +kernel
theorem zd_J_fill_10 : decode zb_J_fill 10 = .ok (.aload_n 0, 1) := by decide +kernel
theorem zd_J_fill_11 : decode zb_J_fill 11 = .ok (.iload_n 2, 1) := by decide +kernel
theorem zd_J_fill_12 : decode zb_J_fill 12 = .ok (.iload_n 1, 1) := by decide +kernel
theorem zd_J_fill_13 : decode zb_J_fill 13 = .ok (.iastore, 1) := by decide +kernel
theorem zd_J_fill_14 : decode zb_J_fill 14 = .ok (.iinc 2 1, 3) := by decide +kernel
theorem zd_J_fill_17 : decode zb_J_fill 17 = .ok (.goto (-12), 3) := by decide +kernel
theorem zd_J_fill_20 : decode zb_J_fill 20 = .ok (.return_, 1) := by decide +kernel
def zf_J_fill_b5 (k n : Nat) : Nat → Int32 → Int32 → Int32 → nk_M → Option (Unit × nk_M)
  | 0, _, _, _, _ => none
  | n0 + 1, y1, y2, y3, m0 => (if y3 ≤ y2 then some ((), m0) else nk_ast m0 k n y2 y1 (fun m1 => (zf_J_fill_b5 k n n0 y1 (y2 + 1) y3 m1)))
set_option maxHeartbeats 4000000 in
set_option maxRecDepth 100000 in
theorem zs_J_fill_b5 {G : nk_V} {X : nk_X} (k n : Nat) (hk : k < nk_wC.2.2.1) (hs : nk_wC.2.1 k = .inr (.inl (.int, n))) (C : nk_C "java/util/Arrays" zb_J_fill 4 nk_wC G X) (hR : X.2.2.2.1 = nk_rm 1) (hr : X.2.2.2.2.2.2.2.2.1.sig.returnType = none)  : ∀ (n0 : Nat) (y1 : Int32) (y2 : Int32) (y3 : Int32) (m0 : nk_M), nk_Sim nk_wC G X 4 nk_ov 5 [nk_r G k, .int y1, .int y2, .int y3] [] m0 (zf_J_fill_b5 k n n0 y1 y2 y3 m0) := by
  intro n0
  induction n0 with
  | zero => intros; exact nk_none
  | succ n0 ih =>
    intro y1 y2 y3 m0
    rw [zf_J_fill_b5]
    refine nk_iload_n C zd_J_fill_5 rfl rfl ?_
    refine nk_iload_n C zd_J_fill_6 rfl rfl ?_
    refine nk_icmp_ge (tgt := 20) C zd_J_fill_7 (by decide) ?_ ?_
    · exact nk_vret C hr zd_J_fill_20
    · refine nk_aload_n C zd_J_fill_10 rfl rfl ?_
      refine nk_iload_n C zd_J_fill_11 rfl rfl ?_
      refine nk_iload_n C zd_J_fill_12 rfl rfl ?_
      refine nk_iast C hk hs zd_J_fill_13 (fun m1 => ?_)
      refine nk_iinc (v0 := y2 + 1) C zd_J_fill_14 rfl (nk_inc _ (by decide)) (Nat.le_of_ble_eq_true rfl) rfl ?_
      refine nk_goto (tgt := 5) C zd_J_fill_17 (by decide) ?_
      exact ih y1 (y2 + 1) y3 m1
def zf_J_fill (k n : Nat) (a2 : Int32) (m0 : nk_M) : Option (Unit × nk_M) := nk_nm (nI n) (fun x1 => (zf_J_fill_b5 k n nk_fu a2 (0 : Int32) x1 m0))
set_option maxHeartbeats 4000000 in
set_option maxRecDepth 100000 in
theorem zc_J_fill {l : Launch} {G : nk_V} (k n : Nat) (hk : k < nk_wC.2.2.1) (hs : nk_wC.2.1 k = .inr (.inl (.int, n))) (a2 : Int32) (m0 : nk_M) : nk_Ct l nk_wC G 1 zy_J_fill zb_J_fill 4 none nk_ov [nk_r G k, .int a2] m0 (zf_J_fill k n a2 m0) := by
  refine nk_ent (own := "java/util/Arrays") (lv := [nk_r G k, .int a2, .null, .null]) 2 rfl (by decide) (Nat.le_of_ble_eq_true rfl) rfl (fun X hl hR C hr => ?_)
  subst hl
  unfold zf_J_fill
  refine nk_iconst (v := 0) C zd_J_fill_0 (by decide) ?_
  refine nk_istore_n C zd_J_fill_1 rfl (Nat.le_of_ble_eq_true rfl) rfl ?_
  refine nk_aload_n C zd_J_fill_2 rfl rfl ?_
  refine nk_alen C hk hs zd_J_fill_3 ?_
  refine nk_named (fun x1 => ?_)
  refine nk_istore_n C zd_J_fill_4 rfl (Nat.le_of_ble_eq_true rfl) rfl ?_
  exact zs_J_fill_b5 k n hk hs C hR hr nk_fu a2 (0 : Int32) x1 m0
theorem zd_C_putToSleep_0 : decode zb_C_putToSleep 0 = .ok (.aload_n 0, 1) := by decide +kernel
theorem zd_C_putToSleep_1 : decode zb_C_putToSleep 1 = .ok (.getfield 24, 3) := by decide +kernel
theorem zd_C_putToSleep_4 : decode zb_C_putToSleep 4 = .ok (.bipush (-9), 2) := by decide +kernel
theorem zd_C_putToSleep_6 : decode zb_C_putToSleep 6 = .ok (.invokestatic 71, 3) := by decide +kernel
theorem zd_C_putToSleep_9 : decode zb_C_putToSleep 9 = .ok (.aload_n 0, 1) := by decide +kernel
theorem zd_C_putToSleep_10 : decode zb_C_putToSleep 10 = .ok (.getfield 27, 3) := by decide +kernel
theorem zd_C_putToSleep_13 : decode zb_C_putToSleep 13 = .ok (.bipush (-9), 2) := by decide +kernel
theorem zd_C_putToSleep_15 : decode zb_C_putToSleep 15 = .ok (.invokestatic 71, 3) := by decide +kernel
theorem zd_C_putToSleep_18 : decode zb_C_putToSleep 18 = .ok (.aload_n 0, 1) := by decide +kernel
theorem zd_C_putToSleep_19 : decode zb_C_putToSleep 19 = .ok (.getfield 30, 3) := by decide +kernel
theorem zd_C_putToSleep_22 : decode zb_C_putToSleep 22 = .ok (.bipush (-9), 2) := by decide +kernel
theorem zd_C_putToSleep_24 : decode zb_C_putToSleep 24 = .ok (.invokestatic 71, 3) := by decide +kernel
theorem zd_C_putToSleep_27 : decode zb_C_putToSleep 27 = .ok (.return_, 1) := by decide +kernel
def zf_C_putToSleep (o B : Nat)  (m0 : nk_M) : Option (Unit × nk_M) := nk_bd (zf_J_fill (B + 4) 8 (-9 : Int32) m0) (fun _ m1 => nk_bd (zf_J_fill (B + 5) 8 (-9 : Int32) m1) (fun _ m2 => nk_bd (zf_J_fill (B + 6) 8 (-9 : Int32) m2) (fun _ m3 => some ((), m3))))
set_option maxHeartbeats 4000000 in
set_option maxRecDepth 100000 in
theorem zc_C_putToSleep {l : Launch} {G : nk_V} (o B : Nat) (hc : nk_isC o B)  (m0 : nk_M) : nk_Ct l nk_wC G 2 zy_C_putToSleep zb_C_putToSleep 1 none nk_ov [nk_r G o] m0 (zf_C_putToSleep o B  m0) := by
  refine nk_ent (own := "NeedOnce$Cells") (lv := [nk_r G o]) 0 rfl (by decide) (Nat.le_of_ble_eq_true rfl) rfl (fun X hl hR C hr => ?_)
  subst hl
  unfold zf_C_putToSleep
  refine nk_aload_n C zd_C_putToSleep_0 rfl rfl ?_
  refine nk_getR C (r := (B + 4)) za_C_24 (nkc_ok hc) (nkc_os hc) rfl zd_C_putToSleep_1 ?_
  refine nk_bipush (v := -9) C zd_C_putToSleep_4 (by decide) ?_
  refine nk_callSv C [nk_r G (B + 4), .int (-9 : Int32)] zv_C_71 hR (zc_J_fill (B + 4) 8 (nkc_bk4 hc) (nkc_bs4 hc) (-9 : Int32) m0) (by omega) rfl rfl (Nat.le_of_ble_eq_true rfl) zd_C_putToSleep_6 (fun m1 => ?_)
  refine nk_aload_n C zd_C_putToSleep_9 rfl rfl ?_
  refine nk_getR C (r := (B + 5)) za_C_27 (nkc_ok hc) (nkc_os hc) rfl zd_C_putToSleep_10 ?_
  refine nk_bipush (v := -9) C zd_C_putToSleep_13 (by decide) ?_
  refine nk_callSv C [nk_r G (B + 5), .int (-9 : Int32)] zv_C_71 hR (zc_J_fill (B + 5) 8 (nkc_bk5 hc) (nkc_bs5 hc) (-9 : Int32) m1) (by omega) rfl rfl (Nat.le_of_ble_eq_true rfl) zd_C_putToSleep_15 (fun m2 => ?_)
  refine nk_aload_n C zd_C_putToSleep_18 rfl rfl ?_
  refine nk_getR C (r := (B + 6)) za_C_30 (nkc_ok hc) (nkc_os hc) rfl zd_C_putToSleep_19 ?_
  refine nk_bipush (v := -9) C zd_C_putToSleep_22 (by decide) ?_
  refine nk_callSv C [nk_r G (B + 6), .int (-9 : Int32)] zv_C_71 hR (zc_J_fill (B + 6) 8 (nkc_bk6 hc) (nkc_bs6 hc) (-9 : Int32) m2) (by omega) rfl rfl (Nat.le_of_ble_eq_true rfl) zd_C_putToSleep_24 (fun m3 => ?_)
  exact nk_vret C hr zd_C_putToSleep_27
theorem zd_S_has_0 : decode zb_S_has 0 = .ok (.iload_n 1, 1) := by decide +kernel
theorem zd_S_has_1 : decode zb_S_has 1 = .ok (.ifCond .lt 12, 3) := by decide +kernel
theorem zd_S_has_4 : decode zb_S_has 4 = .ok (.iload_n 1, 1) := by decide +kernel
theorem zd_S_has_5 : decode zb_S_has 5 = .ok (.iconst 4, 1) := by decide +kernel
theorem zd_S_has_6 : decode zb_S_has 6 = .ok (.if_icmp .ge 7, 3) := by decide +kernel
theorem zd_S_has_9 : decode zb_S_has 9 = .ok (.iconst 1, 1) := by decide +kernel
theorem zd_S_has_10 : decode zb_S_has 10 = .ok (.goto 4, 3) := by decide +kernel
theorem zd_S_has_13 : decode zb_S_has 13 = .ok (.iconst 0, 1) := by decide +kernel
theorem zd_S_has_14 : decode zb_S_has 14 = .ok (.ireturn, 1) := by decide +kernel
def zf_S_has_b14  (u0 : Int32) (m0 : nk_M) : Option (Int32 × nk_M) := nk_zr u0 m0
set_option maxHeartbeats 4000000 in
set_option maxRecDepth 100000 in
theorem zs_S_has_b14 {G : nk_V} {X : nk_X}   (C : nk_C "NeedOnce$Sheets" zb_S_has 2 nk_wC G X) (hR : X.2.2.2.1 = nk_rm 1) (hr : X.2.2.2.2.2.2.2.2.1.sig.returnType = (some .boolean))  : ∀ (u0 : Int32) (m0 : nk_M), nk_Sim nk_wC G X 2 nk_oi 14 [nk_r G 5, .null] [.int u0] m0 (zf_S_has_b14 u0 m0) := by
  intro u0 m0
  unfold zf_S_has_b14
  exact nk_zret C hr zd_S_has_14
def zf_S_has_b13   (m0 : nk_M) : Option (Int32 × nk_M) := (zf_S_has_b14 (0 : Int32) m0)
set_option maxHeartbeats 4000000 in
set_option maxRecDepth 100000 in
theorem zs_S_has_b13 {G : nk_V} {X : nk_X}   (C : nk_C "NeedOnce$Sheets" zb_S_has 2 nk_wC G X) (hR : X.2.2.2.1 = nk_rm 1) (hr : X.2.2.2.2.2.2.2.2.1.sig.returnType = (some .boolean))  : ∀  (m0 : nk_M), nk_Sim nk_wC G X 2 nk_oi 13 [nk_r G 5, .null] [] m0 (zf_S_has_b13  m0) := by
  intro m0
  unfold zf_S_has_b13
  refine nk_iconst (v := 0) C zd_S_has_13 (by decide) ?_
  exact zs_S_has_b14 C hR hr (0 : Int32) m0
def zf_S_has  (a1 : Int32) (m0 : nk_M) : Option (Int32 × nk_M) := (if a1 < 0 then (zf_S_has_b13 m0) else (if (4 : Int32) ≤ a1 then (zf_S_has_b13 m0) else (zf_S_has_b14 (1 : Int32) m0)))
set_option maxHeartbeats 4000000 in
set_option maxRecDepth 100000 in
theorem zc_S_has {l : Launch} {G : nk_V}   (a1 : Int32) (m0 : nk_M) : nk_Ct l nk_wC G 1 zy_S_has zb_S_has 2 (some .boolean) nk_oi [nk_r G 5, .int a1] m0 (zf_S_has  a1 m0) := by
  refine nk_ent (own := "NeedOnce$Sheets") (lv := [nk_r G 5, .int a1]) 0 rfl (by decide) (Nat.le_of_ble_eq_true rfl) rfl (fun X hl hR C hr => ?_)
  subst hl
  unfold zf_S_has
  refine nk_iload_n C zd_S_has_0 rfl rfl ?_
  refine nk_if_lt (tgt := 13) C zd_S_has_1 (by decide) ?_ ?_
  · refine nk_wk [true, false] ?_
    exact zs_S_has_b13 C hR hr m0
  · refine nk_iload_n C zd_S_has_4 rfl rfl ?_
    refine nk_iconst (v := 4) C zd_S_has_5 (by decide) ?_
    refine nk_icmp_ge (tgt := 13) C zd_S_has_6 (by decide) ?_ ?_
    · refine nk_wk [true, false] ?_
      exact zs_S_has_b13 C hR hr m0
    · refine nk_iconst (v := 1) C zd_S_has_9 (by decide) ?_
      refine nk_goto (tgt := 14) C zd_S_has_10 (by decide) ?_
      refine nk_wk [true, false] ?_
      exact zs_S_has_b14 C hR hr (1 : Int32) m0
theorem zd_N_isLane_0 : decode zb_N_isLane 0 = .ok (.iload_n 0, 1) := by decide +kernel
theorem zd_N_isLane_1 : decode zb_N_isLane 1 = .ok (.ifCond .lt 12, 3) := by decide +kernel
theorem zd_N_isLane_4 : decode zb_N_isLane 4 = .ok (.iload_n 0, 1) := by decide +kernel
theorem zd_N_isLane_5 : decode zb_N_isLane 5 = .ok (.iconst 3, 1) := by decide +kernel
theorem zd_N_isLane_6 : decode zb_N_isLane 6 = .ok (.if_icmp .ge 7, 3) := by decide +kernel
theorem zd_N_isLane_9 : decode zb_N_isLane 9 = .ok (.iconst 1, 1) := by decide +kernel
theorem zd_N_isLane_10 : decode zb_N_isLane 10 = .ok (.goto 4, 3) := by decide +kernel
theorem zd_N_isLane_13 : decode zb_N_isLane 13 = .ok (.iconst 0, 1) := by decide +kernel
theorem zd_N_isLane_14 : decode zb_N_isLane 14 = .ok (.ireturn, 1) := by decide +kernel
def zf_N_isLane_b14  (u0 : Int32) (m0 : nk_M) : Option (Int32 × nk_M) := nk_zr u0 m0
set_option maxHeartbeats 4000000 in
set_option maxRecDepth 100000 in
theorem zs_N_isLane_b14 {G : nk_V} {X : nk_X}   (C : nk_C "NeedOnce" zb_N_isLane 1 nk_wC G X) (hR : X.2.2.2.1 = nk_rm 1) (hr : X.2.2.2.2.2.2.2.2.1.sig.returnType = (some .boolean))  : ∀ (u0 : Int32) (m0 : nk_M), nk_Sim nk_wC G X 1 nk_oi 14 [.null] [.int u0] m0 (zf_N_isLane_b14 u0 m0) := by
  intro u0 m0
  unfold zf_N_isLane_b14
  exact nk_zret C hr zd_N_isLane_14
def zf_N_isLane_b13   (m0 : nk_M) : Option (Int32 × nk_M) := (zf_N_isLane_b14 (0 : Int32) m0)
set_option maxHeartbeats 4000000 in
set_option maxRecDepth 100000 in
theorem zs_N_isLane_b13 {G : nk_V} {X : nk_X}   (C : nk_C "NeedOnce" zb_N_isLane 1 nk_wC G X) (hR : X.2.2.2.1 = nk_rm 1) (hr : X.2.2.2.2.2.2.2.2.1.sig.returnType = (some .boolean))  : ∀  (m0 : nk_M), nk_Sim nk_wC G X 1 nk_oi 13 [.null] [] m0 (zf_N_isLane_b13  m0) := by
  intro m0
  unfold zf_N_isLane_b13
  refine nk_iconst (v := 0) C zd_N_isLane_13 (by decide) ?_
  exact zs_N_isLane_b14 C hR hr (0 : Int32) m0
def zf_N_isLane  (a1 : Int32) (m0 : nk_M) : Option (Int32 × nk_M) := (if a1 < 0 then (zf_N_isLane_b13 m0) else (if (3 : Int32) ≤ a1 then (zf_N_isLane_b13 m0) else (zf_N_isLane_b14 (1 : Int32) m0)))
set_option maxHeartbeats 4000000 in
set_option maxRecDepth 100000 in
theorem zc_N_isLane {l : Launch} {G : nk_V}   (a1 : Int32) (m0 : nk_M) : nk_Ct l nk_wC G 1 zy_N_isLane zb_N_isLane 1 (some .boolean) nk_oi [.int a1] m0 (zf_N_isLane  a1 m0) := by
  refine nk_ent (own := "NeedOnce") (lv := [.int a1]) 0 rfl (by decide) (Nat.le_of_ble_eq_true rfl) rfl (fun X hl hR C hr => ?_)
  subst hl
  unfold zf_N_isLane
  refine nk_iload_n C zd_N_isLane_0 rfl rfl ?_
  refine nk_if_lt (tgt := 13) C zd_N_isLane_1 (by decide) ?_ ?_
  · refine nk_wk [false] ?_
    exact zs_N_isLane_b13 C hR hr m0
  · refine nk_iload_n C zd_N_isLane_4 rfl rfl ?_
    refine nk_iconst (v := 3) C zd_N_isLane_5 (by decide) ?_
    refine nk_icmp_ge (tgt := 13) C zd_N_isLane_6 (by decide) ?_ ?_
    · refine nk_wk [false] ?_
      exact zs_N_isLane_b13 C hR hr m0
    · refine nk_iconst (v := 1) C zd_N_isLane_9 (by decide) ?_
      refine nk_goto (tgt := 14) C zd_N_isLane_10 (by decide) ?_
      refine nk_wk [false] ?_
      exact zs_N_isLane_b14 C hR hr (1 : Int32) m0
theorem zd_S_isRange_0 : decode zb_S_isRange 0 = .ok (.iload_n 2, 1) := by decide +kernel
theorem zd_S_isRange_1 : decode zb_S_isRange 1 = .ok (.ifCond .lt 33, 3) := by decide +kernel
theorem zd_S_isRange_4 : decode zb_S_isRange 4 = .ok (.iload_n 2, 1) := by decide +kernel
theorem zd_S_isRange_5 : decode zb_S_isRange 5 = .ok (.aload_n 0, 1) := by decide +kernel
theorem zd_S_isRange_6 : decode zb_S_isRange 6 = .ok (.getfield 20, 3) := by decide +kernel
theorem zd_S_isRange_9 : decode zb_S_isRange 9 = .ok (.iload_n 1, 1) := by decide +kernel
theorem zd_S_isRange_10 : decode zb_S_isRange 10 = .ok (.iaload, 1) := by decide +kernel
theorem zd_S_isRange_11 : decode zb_S_isRange 11 = .ok (.if_icmp .gt 23, 3) := by decide +kernel
theorem zd_S_isRange_14 : decode zb_S_isRange 14 = .ok (.iload_n 3, 1) := by decide +kernel
theorem zd_S_isRange_15 : decode zb_S_isRange 15 = .ok (.ifCond .lt 19, 3) := by decide +kernel
theorem zd_S_isRange_18 : decode zb_S_isRange 18 = .ok (.iload_n 3, 1) := by decide +kernel
theorem zd_S_isRange_19 : decode zb_S_isRange 19 = .ok (.aload_n 0, 1) := by decide +kernel
theorem zd_S_isRange_20 : decode zb_S_isRange 20 = .ok (.getfield 20, 3) := by decide +kernel
theorem zd_S_isRange_23 : decode zb_S_isRange 23 = .ok (.iload_n 1, 1) := by decide +kernel
theorem zd_S_isRange_24 : decode zb_S_isRange 24 = .ok (.iaload, 1) := by decide +kernel
theorem zd_S_isRange_25 : decode zb_S_isRange 25 = .ok (.iload_n 2, 1) := by decide +kernel
theorem zd_S_isRange_26 : decode zb_S_isRange 26 = .ok (.isub, 1) := by decide +kernel
theorem zd_S_isRange_27 : decode zb_S_isRange 27 = .ok (.if_icmp .gt 7, 3) := by decide +kernel
theorem zd_S_isRange_30 : decode zb_S_isRange 30 = .ok (.iconst 1, 1) := by decide +kernel
theorem zd_S_isRange_31 : decode zb_S_isRange 31 = .ok (.goto 4, 3) := by decide +kernel
theorem zd_S_isRange_34 : decode zb_S_isRange 34 = .ok (.iconst 0, 1) := by decide +kernel
theorem zd_S_isRange_35 : decode zb_S_isRange 35 = .ok (.ireturn, 1) := by decide +kernel
def zf_S_isRange_b35  (u0 : Int32) (m0 : nk_M) : Option (Int32 × nk_M) := nk_zr u0 m0
set_option maxHeartbeats 4000000 in
set_option maxRecDepth 100000 in
theorem zs_S_isRange_b35 {G : nk_V} {X : nk_X}   (C : nk_C "NeedOnce$Sheets" zb_S_isRange 4 nk_wC G X) (hR : X.2.2.2.1 = nk_rm 1) (hr : X.2.2.2.2.2.2.2.2.1.sig.returnType = (some .boolean))  : ∀ (u0 : Int32) (m0 : nk_M), nk_Sim nk_wC G X 4 nk_oi 35 [nk_r G 5, .null, .null, .null] [.int u0] m0 (zf_S_isRange_b35 u0 m0) := by
  intro u0 m0
  unfold zf_S_isRange_b35
  exact nk_zret C hr zd_S_isRange_35
def zf_S_isRange_b34   (m0 : nk_M) : Option (Int32 × nk_M) := (zf_S_isRange_b35 (0 : Int32) m0)
set_option maxHeartbeats 4000000 in
set_option maxRecDepth 100000 in
theorem zs_S_isRange_b34 {G : nk_V} {X : nk_X}   (C : nk_C "NeedOnce$Sheets" zb_S_isRange 4 nk_wC G X) (hR : X.2.2.2.1 = nk_rm 1) (hr : X.2.2.2.2.2.2.2.2.1.sig.returnType = (some .boolean))  : ∀  (m0 : nk_M), nk_Sim nk_wC G X 4 nk_oi 34 [nk_r G 5, .null, .null, .null] [] m0 (zf_S_isRange_b34  m0) := by
  intro m0
  unfold zf_S_isRange_b34
  refine nk_iconst (v := 0) C zd_S_isRange_34 (by decide) ?_
  exact zs_S_isRange_b35 C hR hr (0 : Int32) m0
def zf_S_isRange  (a1 : Int32) (a2 : Int32) (a3 : Int32) (m0 : nk_M) : Option (Int32 × nk_M) := (if a2 < 0 then (zf_S_isRange_b34 m0) else nk_ald m0 32 4 a1 (fun x1 => (if x1 < a2 then (zf_S_isRange_b34 m0) else (if a3 < 0 then (zf_S_isRange_b34 m0) else nk_ald m0 32 4 a1 (fun x2 => (if (x2 - a2) < a3 then (zf_S_isRange_b34 m0) else (zf_S_isRange_b35 (1 : Int32) m0)))))))
set_option maxHeartbeats 4000000 in
set_option maxRecDepth 100000 in
theorem zc_S_isRange {l : Launch} {G : nk_V}   (a1 : Int32) (a2 : Int32) (a3 : Int32) (m0 : nk_M) : nk_Ct l nk_wC G 1 zy_S_isRange zb_S_isRange 4 (some .boolean) nk_oi [nk_r G 5, .int a1, .int a2, .int a3] m0 (zf_S_isRange  a1 a2 a3 m0) := by
  refine nk_ent (own := "NeedOnce$Sheets") (lv := [nk_r G 5, .int a1, .int a2, .int a3]) 0 rfl (by decide) (Nat.le_of_ble_eq_true rfl) rfl (fun X hl hR C hr => ?_)
  subst hl
  unfold zf_S_isRange
  refine nk_iload_n C zd_S_isRange_0 rfl rfl ?_
  refine nk_if_lt (tgt := 34) C zd_S_isRange_1 (by decide) ?_ ?_
  · refine nk_wk [true, false, false, false] ?_
    exact zs_S_isRange_b34 C hR hr m0
  · refine nk_iload_n C zd_S_isRange_4 rfl rfl ?_
    refine nk_aload_n C zd_S_isRange_5 rfl rfl ?_
    refine nk_getR C (r := 32) za_S_20 (Nat.le_of_ble_eq_true rfl) rfl rfl zd_S_isRange_6 ?_
    refine nk_iload_n C zd_S_isRange_9 rfl rfl ?_
    refine nk_iald C (Nat.le_of_ble_eq_true rfl) rfl zd_S_isRange_10 (fun x1 => ?_)
    refine nk_icmp_gt (tgt := 34) C zd_S_isRange_11 (by decide) ?_ ?_
    · refine nk_wk [true, false, false, false] ?_
      exact zs_S_isRange_b34 C hR hr m0
    · refine nk_iload_n C zd_S_isRange_14 rfl rfl ?_
      refine nk_if_lt (tgt := 34) C zd_S_isRange_15 (by decide) ?_ ?_
      · refine nk_wk [true, false, false, false] ?_
        exact zs_S_isRange_b34 C hR hr m0
      · refine nk_iload_n C zd_S_isRange_18 rfl rfl ?_
        refine nk_aload_n C zd_S_isRange_19 rfl rfl ?_
        refine nk_getR C (r := 32) za_S_20 (Nat.le_of_ble_eq_true rfl) rfl rfl zd_S_isRange_20 ?_
        refine nk_iload_n C zd_S_isRange_23 rfl rfl ?_
        refine nk_iald C (Nat.le_of_ble_eq_true rfl) rfl zd_S_isRange_24 (fun x2 => ?_)
        refine nk_iload_n C zd_S_isRange_25 rfl rfl ?_
        refine nk_isub C zd_S_isRange_26 ?_
        refine nk_icmp_gt (tgt := 34) C zd_S_isRange_27 (by decide) ?_ ?_
        · refine nk_wk [true, false, false, false] ?_
          exact zs_S_isRange_b34 C hR hr m0
        · refine nk_iconst (v := 1) C zd_S_isRange_30 (by decide) ?_
          refine nk_goto (tgt := 35) C zd_S_isRange_31 (by decide) ?_
          refine nk_wk [true, false, false, false] ?_
          exact zs_S_isRange_b35 C hR hr (1 : Int32) m0
theorem zd_S_rangeFault_0 : decode zb_S_rangeFault 0 = .ok (.aload_n 0, 1) := by decide +kernel
theorem zd_S_rangeFault_1 : decode zb_S_rangeFault 1 = .ok (.getfield 16, 3) := by decide +kernel
theorem zd_S_rangeFault_4 : decode zb_S_rangeFault 4 = .ok (.iload_n 1, 1) := by decide +kernel
theorem zd_S_rangeFault_5 : decode zb_S_rangeFault 5 = .ok (.iaload, 1) := by decide +kernel
theorem zd_S_rangeFault_6 : decode zb_S_rangeFault 6 = .ok (.iconst (-1), 1) := by decide +kernel
theorem zd_S_rangeFault_7 : decode zb_S_rangeFault 7 = .ok (.if_icmp .ne 5, 3) := by decide +kernel
theorem zd_S_rangeFault_10 : decode zb_S_rangeFault 10 = .ok (.iconst 1, 1) := by decide +kernel
theorem zd_S_rangeFault_11 : decode zb_S_rangeFault 11 = .ok (.ireturn, 1) := by decide +kernel
theorem zd_S_rangeFault_12 : decode zb_S_rangeFault 12 = .ok (.aload_n 0, 1) := by decide +kernel
theorem zd_S_rangeFault_13 : decode zb_S_rangeFault 13 = .ok (.getfield 16, 3) := by decide +kernel
theorem zd_S_rangeFault_16 : decode zb_S_rangeFault 16 = .ok (.iload_n 1, 1) := by decide +kernel
theorem zd_S_rangeFault_17 : decode zb_S_rangeFault 17 = .ok (.iaload, 1) := by decide +kernel
theorem zd_S_rangeFault_18 : decode zb_S_rangeFault 18 = .ok (.iload_n 2, 1) := by decide +kernel
theorem zd_S_rangeFault_19 : decode zb_S_rangeFault 19 = .ok (.if_icmp .eq 5, 3) := by decide +kernel
theorem zd_S_rangeFault_22 : decode zb_S_rangeFault 22 = .ok (.iconst 2, 1) := by decide +kernel
theorem zd_S_rangeFault_23 : decode zb_S_rangeFault 23 = .ok (.ireturn, 1) := by decide +kernel
theorem zd_S_rangeFault_24 : decode zb_S_rangeFault 24 = .ok (.iload 4, 2) := by decide +kernel
theorem zd_S_rangeFault_26 : decode zb_S_rangeFault 26 = .ok (.ifCond .ge 5, 3) := by decide +kernel
theorem zd_S_rangeFault_29 : decode zb_S_rangeFault 29 = .ok (.iconst 4, 1) := by decide +kernel
theorem zd_S_rangeFault_30 : decode zb_S_rangeFault 30 = .ok (.ireturn, 1) := by decide +kernel
theorem zd_S_rangeFault_31 : decode zb_S_rangeFault 31 = .ok (.aload_n 0, 1) := by decide +kernel
theorem zd_S_rangeFault_32 : decode zb_S_rangeFault 32 = .ok (.iload_n 1, 1) := by decide +kernel
theorem zd_S_rangeFault_33 : decode zb_S_rangeFault 33 = .ok (.iload_n 3, 1) := by decide +kernel
theorem zd_S_rangeFault_34 : decode zb_S_rangeFault 34 = .ok (.iload 4, 2) := by decide +kernel
theorem zd_S_rangeFault_36 : decode zb_S_rangeFault 36 = .ok (.invokevirtual 29, 3) := by decide +kernel
theorem zd_S_rangeFault_39 : decode zb_S_rangeFault 39 = .ok (.ifCond .eq 7, 3) := by decide +kernel
theorem zd_S_rangeFault_42 : decode zb_S_rangeFault 42 = .ok (.iconst 0, 1) := by decide +kernel
theorem zd_S_rangeFault_43 : decode zb_S_rangeFault 43 = .ok (.goto 4, 3) := by decide +kernel
theorem zd_S_rangeFault_46 : decode zb_S_rangeFault 46 = .ok (.iconst 3, 1) := by decide +kernel
theorem zd_S_rangeFault_47 : decode zb_S_rangeFault 47 = .ok (.ireturn, 1) := by decide +kernel
def zf_S_rangeFault_b47  (u0 : Int32) (m0 : nk_M) : Option (Int32 × nk_M) := some (u0, m0)
set_option maxHeartbeats 4000000 in
set_option maxRecDepth 100000 in
theorem zs_S_rangeFault_b47 {G : nk_V} {X : nk_X}   (C : nk_C "NeedOnce$Sheets" zb_S_rangeFault 5 nk_wC G X) (hR : X.2.2.2.1 = nk_rm 2) (hr : X.2.2.2.2.2.2.2.2.1.sig.returnType = (some .int))  : ∀ (u0 : Int32) (m0 : nk_M), nk_Sim nk_wC G X 5 nk_oi 47 [nk_r G 5, .null, .null, .null, .null] [.int u0] m0 (zf_S_rangeFault_b47 u0 m0) := by
  intro u0 m0
  unfold zf_S_rangeFault_b47
  exact nk_iret C hr zd_S_rangeFault_47
def zf_S_rangeFault  (a1 : Int32) (a2 : Int32) (a3 : Int32) (a4 : Int32) (m0 : nk_M) : Option (Int32 × nk_M) := nk_ald m0 31 4 a1 (fun x1 => (if x1 = (-1 : Int32) then some ((1 : Int32), m0) else nk_ald m0 31 4 a1 (fun x2 => (if x2 = a2 then (if 0 ≤ a4 then nk_bd (zf_S_isRange a1 a3 a4 m0) (fun r3 m1 => (if r3 = 0 then (zf_S_rangeFault_b47 (3 : Int32) m1) else (zf_S_rangeFault_b47 (0 : Int32) m1))) else some ((4 : Int32), m0)) else some ((2 : Int32), m0)))))
set_option maxHeartbeats 4000000 in
set_option maxRecDepth 100000 in
theorem zc_S_rangeFault {l : Launch} {G : nk_V}   (a1 : Int32) (a2 : Int32) (a3 : Int32) (a4 : Int32) (m0 : nk_M) : nk_Ct l nk_wC G 2 zy_S_rangeFault zb_S_rangeFault 5 (some .int) nk_oi [nk_r G 5, .int a1, .int a2, .int a3, .int a4] m0 (zf_S_rangeFault  a1 a2 a3 a4 m0) := by
  refine nk_ent (own := "NeedOnce$Sheets") (lv := [nk_r G 5, .int a1, .int a2, .int a3, .int a4]) 0 rfl (by decide) (Nat.le_of_ble_eq_true rfl) rfl (fun X hl hR C hr => ?_)
  subst hl
  unfold zf_S_rangeFault
  refine nk_aload_n C zd_S_rangeFault_0 rfl rfl ?_
  refine nk_getR C (r := 31) za_S_16 (Nat.le_of_ble_eq_true rfl) rfl rfl zd_S_rangeFault_1 ?_
  refine nk_iload_n C zd_S_rangeFault_4 rfl rfl ?_
  refine nk_iald C (Nat.le_of_ble_eq_true rfl) rfl zd_S_rangeFault_5 (fun x1 => ?_)
  refine nk_iconst (v := -1) C zd_S_rangeFault_6 (by decide) ?_
  refine nk_icmp_ne (tgt := 12) C zd_S_rangeFault_7 (by decide) ?_ ?_
  · refine nk_aload_n C zd_S_rangeFault_12 rfl rfl ?_
    refine nk_getR C (r := 31) za_S_16 (Nat.le_of_ble_eq_true rfl) rfl rfl zd_S_rangeFault_13 ?_
    refine nk_iload_n C zd_S_rangeFault_16 rfl rfl ?_
    refine nk_iald C (Nat.le_of_ble_eq_true rfl) rfl zd_S_rangeFault_17 (fun x2 => ?_)
    refine nk_iload_n C zd_S_rangeFault_18 rfl rfl ?_
    refine nk_icmp_eq (tgt := 24) C zd_S_rangeFault_19 (by decide) ?_ ?_
    · refine nk_iload C zd_S_rangeFault_24 rfl ?_
      refine nk_if_ge (tgt := 31) C zd_S_rangeFault_26 (by decide) ?_ ?_
      · refine nk_aload_n C zd_S_rangeFault_31 rfl rfl ?_
        refine nk_iload_n C zd_S_rangeFault_32 rfl rfl ?_
        refine nk_iload_n C zd_S_rangeFault_33 rfl rfl ?_
        refine nk_iload C zd_S_rangeFault_34 rfl ?_
        refine nk_callVi C [.int a1, .int a3, .int a4] zv_S_29 hR (zc_S_isRange a1 a3 a4 m0) (by omega) (Nat.le_of_ble_eq_true rfl) rfl rfl rfl rfl (Nat.le_of_ble_eq_true rfl) zd_S_rangeFault_36 (fun r3 m1 => ?_)
        refine nk_if_eq (tgt := 46) C zd_S_rangeFault_39 (by decide) ?_ ?_
        · refine nk_iconst (v := 3) C zd_S_rangeFault_46 (by decide) ?_
          refine nk_wk [true, false, false, false, false] ?_
          exact zs_S_rangeFault_b47 C hR hr (3 : Int32) m1
        · refine nk_iconst (v := 0) C zd_S_rangeFault_42 (by decide) ?_
          refine nk_goto (tgt := 47) C zd_S_rangeFault_43 (by decide) ?_
          refine nk_wk [true, false, false, false, false] ?_
          exact zs_S_rangeFault_b47 C hR hr (0 : Int32) m1
      · refine nk_iconst (v := 4) C zd_S_rangeFault_29 (by decide) ?_
        exact nk_iret C hr zd_S_rangeFault_30
    · refine nk_iconst (v := 2) C zd_S_rangeFault_22 (by decide) ?_
      exact nk_iret C hr zd_S_rangeFault_23
  · refine nk_iconst (v := 1) C zd_S_rangeFault_10 (by decide) ?_
    exact nk_iret C hr zd_S_rangeFault_11
theorem zd_N_faulted_0 : decode zb_N_faulted 0 = .ok (.aload_n 0, 1) := by decide +kernel
theorem zd_N_faulted_1 : decode zb_N_faulted 1 = .ok (.iload_n 1, 1) := by decide +kernel
theorem zd_N_faulted_2 : decode zb_N_faulted 2 = .ok (.putfield 42, 3) := by decide +kernel
theorem zd_N_faulted_5 : decode zb_N_faulted 5 = .ok (.bipush (-10), 2) := by decide +kernel
theorem zd_N_faulted_7 : decode zb_N_faulted 7 = .ok (.iload_n 1, 1) := by decide +kernel
theorem zd_N_faulted_8 : decode zb_N_faulted 8 = .ok (.isub, 1) := by decide +kernel
theorem zd_N_faulted_9 : decode zb_N_faulted 9 = .ok (.ireturn, 1) := by decide +kernel
def zf_N_faulted  (a1 : Int32) (m0 : nk_M) : Option (Int32 × nk_M) := nk_pf m0 0 6 a1 (fun m1 => some ((-10 : Int32) - a1, m1))
set_option maxHeartbeats 4000000 in
set_option maxRecDepth 100000 in
theorem zc_N_faulted {l : Launch} {G : nk_V}   (a1 : Int32) (m0 : nk_M) : nk_Ct l nk_wC G 1 zy_N_faulted zb_N_faulted 2 (some .int) nk_oi [nk_r G 0, .int a1] m0 (zf_N_faulted  a1 m0) := by
  refine nk_ent (own := "NeedOnce") (lv := [nk_r G 0, .int a1]) 0 rfl (by decide) (Nat.le_of_ble_eq_true rfl) rfl (fun X hl hR C hr => ?_)
  subst hl
  unfold zf_N_faulted
  refine nk_aload_n C zd_N_faulted_0 rfl rfl ?_
  refine nk_iload_n C zd_N_faulted_1 rfl rfl ?_
  refine nk_putI C zp_N_42 (Nat.le_of_ble_eq_true rfl) rfl rfl zd_N_faulted_2 (fun m1 => ?_)
  refine nk_bipush (v := -10) C zd_N_faulted_5 (by decide) ?_
  refine nk_iload_n C zd_N_faulted_7 rfl rfl ?_
  refine nk_isub C zd_N_faulted_8 ?_
  exact nk_iret C hr zd_N_faulted_9
theorem zd_C_forgetAll_0 : decode zb_C_forgetAll 0 = .ok (.aload_n 0, 1) := by decide +kernel
theorem zd_C_forgetAll_1 : decode zb_C_forgetAll 1 = .ok (.iconst 0, 1) := by decide +kernel
theorem zd_C_forgetAll_2 : decode zb_C_forgetAll 2 = .ok (.putfield 47, 3) := by decide +kernel
theorem zd_C_forgetAll_5 : decode zb_C_forgetAll 5 = .ok (.aload_n 0, 1) := by decide +kernel
theorem zd_C_forgetAll_6 : decode zb_C_forgetAll 6 = .ok (.iconst 0, 1) := by decide +kernel
theorem zd_C_forgetAll_7 : decode zb_C_forgetAll 7 = .ok (.putfield 60, 3) := by decide +kernel
theorem zd_C_forgetAll_10 : decode zb_C_forgetAll 10 = .ok (.aload_n 0, 1) := by decide +kernel
theorem zd_C_forgetAll_11 : decode zb_C_forgetAll 11 = .ok (.invokevirtual 44, 3) := by decide +kernel
theorem zd_C_forgetAll_14 : decode zb_C_forgetAll 14 = .ok (.return_, 1) := by decide +kernel
def zf_C_forgetAll (o B : Nat)  (m0 : nk_M) : Option (Unit × nk_M) := nk_pf m0 o 0 (0 : Int32) (fun m1 => nk_pf m1 o 10 (0 : Int32) (fun m2 => nk_bd (zf_C_putToSleep o B m2) (fun _ m3 => some ((), m3))))
set_option maxHeartbeats 4000000 in
set_option maxRecDepth 100000 in
theorem zc_C_forgetAll {l : Launch} {G : nk_V} (o B : Nat) (hc : nk_isC o B)  (m0 : nk_M) : nk_Ct l nk_wC G 3 zy_C_forgetAll zb_C_forgetAll 1 none nk_ov [nk_r G o] m0 (zf_C_forgetAll o B  m0) := by
  refine nk_ent (own := "NeedOnce$Cells") (lv := [nk_r G o]) 0 rfl (by decide) (Nat.le_of_ble_eq_true rfl) rfl (fun X hl hR C hr => ?_)
  subst hl
  unfold zf_C_forgetAll
  refine nk_aload_n C zd_C_forgetAll_0 rfl rfl ?_
  refine nk_iconst (v := 0) C zd_C_forgetAll_1 (by decide) ?_
  refine nk_putI C zp_C_47 (nkc_ok hc) (nkc_os hc) rfl zd_C_forgetAll_2 (fun m1 => ?_)
  refine nk_aload_n C zd_C_forgetAll_5 rfl rfl ?_
  refine nk_iconst (v := 0) C zd_C_forgetAll_6 (by decide) ?_
  refine nk_putI C zp_C_60 (nkc_ok hc) (nkc_os hc) rfl zd_C_forgetAll_7 (fun m2 => ?_)
  refine nk_aload_n C zd_C_forgetAll_10 rfl rfl ?_
  refine nk_callVv C [] zv_C_44 hR (zc_C_putToSleep o B hc m2) (by omega) (nkc_ok hc) (nkc_os hc) rfl rfl rfl (Nat.le_of_ble_eq_true rfl) zd_C_forgetAll_11 (fun m3 => ?_)
  exact nk_vret C hr zd_C_forgetAll_14
theorem zd_S_at_0 : decode zb_S_at 0 = .ok (.aload_n 0, 1) := by decide +kernel
theorem zd_S_at_1 : decode zb_S_at 1 = .ok (.getfield 11, 3) := by decide +kernel
theorem zd_S_at_4 : decode zb_S_at 4 = .ok (.iload_n 1, 1) := by decide +kernel
theorem zd_S_at_5 : decode zb_S_at 5 = .ok (.aaload, 1) := by decide +kernel
theorem zd_S_at_6 : decode zb_S_at 6 = .ok (.iload_n 2, 1) := by decide +kernel
theorem zd_S_at_7 : decode zb_S_at 7 = .ok (.iaload, 1) := by decide +kernel
theorem zd_S_at_8 : decode zb_S_at 8 = .ok (.ireturn, 1) := by decide +kernel
def zf_S_at  (a1 : Int32) (a2 : Int32) (m0 : nk_M) : Option (Int32 × nk_M) := nk_ard 4 a1 (nk_ald m0 (27 + Int32.toNatClampNeg a1) 60 a2 (fun x2 => some (x2, m0)))
set_option maxHeartbeats 4000000 in
set_option maxRecDepth 100000 in
theorem zc_S_at {l : Launch} {G : nk_V}   (a1 : Int32) (a2 : Int32) (m0 : nk_M) : nk_Ct l nk_wC G 1 zy_S_at zb_S_at 3 (some .int) nk_oi [nk_r G 5, .int a1, .int a2] m0 (zf_S_at  a1 a2 m0) := by
  refine nk_ent (own := "NeedOnce$Sheets") (lv := [nk_r G 5, .int a1, .int a2]) 0 rfl (by decide) (Nat.le_of_ble_eq_true rfl) rfl (fun X hl hR C hr => ?_)
  subst hl
  unfold zf_S_at
  refine nk_aload_n C zd_S_at_0 rfl rfl ?_
  refine nk_getR C (r := 26) za_S_11 (Nat.le_of_ble_eq_true rfl) rfl rfl zd_S_at_1 ?_
  refine nk_iload_n C zd_S_at_4 rfl rfl ?_
  refine nk_aald C (Nat.le_of_ble_eq_true rfl) rfl zd_S_at_5 (fun hi1 => ?_)
  refine nk_iload_n C zd_S_at_6 rfl rfl ?_
  refine nk_iald C (nkc_rk hi1) (nkc_rs hi1) zd_S_at_7 (fun x2 => ?_)
  exact nk_iret C hr zd_S_at_8
theorem zd_T_placeIn_0 : decode zb_T_placeIn 0 = .ok (.iconst 0, 1) := by decide +kernel
theorem zd_T_placeIn_1 : decode zb_T_placeIn 1 = .ok (.istore_n 2, 1) := by decide +kernel
theorem zd_T_placeIn_2 : decode zb_T_placeIn 2 = .ok (.iload_n 2, 1) := by decide +kernel
theorem zd_T_placeIn_3 : decode zb_T_placeIn 3 = .ok (.aload_n 0, 1) := by decide +kernel
theorem zd_T_placeIn_4 : decode zb_T_placeIn 4 = .ok (.arraylength, 1) := by decide +kernel
theorem zd_T_placeIn_5 : decode zb_T_placeIn 5 = .ok (.if_icmp .ge 18, 3) := by decide +kernel
theorem zd_T_placeIn_8 : decode zb_T_placeIn 8 = .ok (.aload_n 0, 1) := by decide +kernel
theorem zd_T_placeIn_9 : decode zb_T_placeIn 9 = .ok (.iload_n 2, 1) := by decide +kernel
theorem zd_T_placeIn_10 : decode zb_T_placeIn 10 = .ok (.caload, 1) := by decide +kernel
theorem zd_T_placeIn_11 : decode zb_T_placeIn 11 = .ok (.iload_n 1, 1) := by decide +kernel
theorem zd_T_placeIn_12 : decode zb_T_placeIn 12 = .ok (.if_icmp .ne 5, 3) := by decide +kernel
theorem zd_T_placeIn_15 : decode zb_T_placeIn 15 = .ok (.iload_n 2, 1) := by decide +kernel
theorem zd_T_placeIn_16 : decode zb_T_placeIn 16 = .ok (.ireturn, 1) := by decide +kernel
theorem zd_T_placeIn_17 : decode zb_T_placeIn 17 = .ok (.iinc 2 1, 3) := by decide +kernel
theorem zd_T_placeIn_20 : decode zb_T_placeIn 20 = .ok (.goto (-18), 3) := by decide +kernel
theorem zd_T_placeIn_23 : decode zb_T_placeIn 23 = .ok (.bipush (-9), 2) := by decide +kernel
theorem zd_T_placeIn_25 : decode zb_T_placeIn 25 = .ok (.ireturn, 1) := by decide +kernel
def zf_T_placeIn_b2 (n : Nat) (tf : Nat → Int32) : Nat → Int32 → Int32 → nk_M → Option (Int32 × nk_M)
  | 0, _, _, _ => none
  | n0 + 1, y1, y2, m0 => (if (nI n) ≤ y2 then some ((-9 : Int32), m0) else nk_tld n tf y2 (fun x1 => (if x1 = y1 then some (y2, m0) else (zf_T_placeIn_b2 n tf n0 y1 (y2 + 1) m0))))
set_option maxHeartbeats 4000000 in
set_option maxRecDepth 100000 in
theorem zs_T_placeIn_b2 {G : nk_V} {X : nk_X} (n : Nat) (tf : Nat → Int32) {ti : Nat} {s1 s2 s3 : String} (hq : nk_wC.2.2.2[ti]? = some (s1, s2, s3, .char, n, tf)) (C : nk_C "NeedOnce$TextReader" zb_T_placeIn 3 nk_wC G X) (hR : X.2.2.2.1 = nk_rm 1) (hr : X.2.2.2.2.2.2.2.2.1.sig.returnType = (some .int))  : ∀ (n0 : Nat) (y1 : Int32) (y2 : Int32) (m0 : nk_M), nk_Sim nk_wC G X 3 nk_oi 2 [nk_ts G ti, .int y1, .int y2] [] m0 (zf_T_placeIn_b2 n tf n0 y1 y2 m0) := by
  intro n0
  induction n0 with
  | zero => intros; exact nk_none
  | succ n0 ih =>
    intro y1 y2 m0
    rw [zf_T_placeIn_b2]
    refine nk_iload_n C zd_T_placeIn_2 rfl rfl ?_
    refine nk_aload_n C zd_T_placeIn_3 rfl rfl ?_
    refine nk_tlen C hq zd_T_placeIn_4 ?_
    refine nk_icmp_ge (tgt := 23) C zd_T_placeIn_5 (by decide) ?_ ?_
    · refine nk_bipush (v := -9) C zd_T_placeIn_23 (by decide) ?_
      exact nk_iret C hr zd_T_placeIn_25
    · refine nk_aload_n C zd_T_placeIn_8 rfl rfl ?_
      refine nk_iload_n C zd_T_placeIn_9 rfl rfl ?_
      refine nk_tc C hq zd_T_placeIn_10 (fun x1 => ?_)
      refine nk_iload_n C zd_T_placeIn_11 rfl rfl ?_
      refine nk_icmp_ne (tgt := 17) C zd_T_placeIn_12 (by decide) ?_ ?_
      · refine nk_iinc (v0 := y2 + 1) C zd_T_placeIn_17 rfl (nk_inc _ (by decide)) (Nat.le_of_ble_eq_true rfl) rfl ?_
        refine nk_goto (tgt := 2) C zd_T_placeIn_20 (by decide) ?_
        exact ih y1 (y2 + 1) m0
      · refine nk_iload_n C zd_T_placeIn_15 rfl rfl ?_
        exact nk_iret C hr zd_T_placeIn_16
def zf_T_placeIn (n : Nat) (tf : Nat → Int32) (a2 : Int32) (m0 : nk_M) : Option (Int32 × nk_M) := (zf_T_placeIn_b2 n tf nk_fu a2 (0 : Int32) m0)
set_option maxHeartbeats 4000000 in
set_option maxRecDepth 100000 in
theorem zc_T_placeIn {l : Launch} {G : nk_V} (n : Nat) (tf : Nat → Int32) {ti : Nat} {s1 s2 s3 : String} (hq : nk_wC.2.2.2[ti]? = some (s1, s2, s3, .char, n, tf)) (a2 : Int32) (m0 : nk_M) : nk_Ct l nk_wC G 1 zy_T_placeIn zb_T_placeIn 3 (some .int) nk_oi [nk_ts G ti, .int a2] m0 (zf_T_placeIn n tf a2 m0) := by
  refine nk_ent (own := "NeedOnce$TextReader") (lv := [nk_ts G ti, .int a2, .null]) 1 rfl (by decide) (Nat.le_of_ble_eq_true rfl) rfl (fun X hl hR C hr => ?_)
  subst hl
  unfold zf_T_placeIn
  refine nk_iconst (v := 0) C zd_T_placeIn_0 (by decide) ?_
  refine nk_istore_n C zd_T_placeIn_1 rfl (Nat.le_of_ble_eq_true rfl) rfl ?_
  exact zs_T_placeIn_b2 n tf hq C hR hr nk_fu a2 (0 : Int32) m0
theorem zd_T_takesKind_0 : decode zb_T_takesKind 0 = .ok (.getstatic 46, 3) := by decide +kernel
theorem zd_T_takesKind_3 : decode zb_T_takesKind 3 = .ok (.iload_n 3, 1) := by decide +kernel
theorem zd_T_takesKind_4 : decode zb_T_takesKind 4 = .ok (.invokestatic 50, 3) := by decide +kernel
theorem zd_T_takesKind_7 : decode zb_T_takesKind 7 = .ok (.istore 4, 2) := by decide +kernel
theorem zd_T_takesKind_9 : decode zb_T_takesKind 9 = .ok (.iload 4, 2) := by decide +kernel
theorem zd_T_takesKind_11 : decode zb_T_takesKind 11 = .ok (.bipush (-9), 2) := by decide +kernel
theorem zd_T_takesKind_13 : decode zb_T_takesKind 13 = .ok (.if_icmp .ne 5, 3) := by decide +kernel
theorem zd_T_takesKind_16 : decode zb_T_takesKind 16 = .ok (.iconst 0, 1) := by decide +kernel
theorem zd_T_takesKind_17 : decode zb_T_takesKind 17 = .ok (.ireturn, 1) := by decide +kernel
theorem zd_T_takesKind_18 : decode zb_T_takesKind 18 = .ok (.aload_n 1, 1) := by decide +kernel
theorem zd_T_takesKind_19 : decode zb_T_takesKind 19 = .ok (.getfield 54, 3) := by decide +kernel
theorem zd_T_takesKind_22 : decode zb_T_takesKind 22 = .ok (.iload_n 2, 1) := by decide +kernel
theorem zd_T_takesKind_23 : decode zb_T_takesKind 23 = .ok (.iload 4, 2) := by decide +kernel
theorem zd_T_takesKind_25 : decode zb_T_takesKind 25 = .ok (.iastore, 1) := by decide +kernel
theorem zd_T_takesKind_26 : decode zb_T_takesKind 26 = .ok (.aload_n 0, 1) := by decide +kernel
theorem zd_T_takesKind_27 : decode zb_T_takesKind 27 = .ok (.iconst 3, 1) := by decide +kernel
theorem zd_T_takesKind_28 : decode zb_T_takesKind 28 = .ok (.putfield 16, 3) := by decide +kernel
theorem zd_T_takesKind_31 : decode zb_T_takesKind 31 = .ok (.iconst 1, 1) := by decide +kernel
theorem zd_T_takesKind_32 : decode zb_T_takesKind 32 = .ok (.ireturn, 1) := by decide +kernel
def zf_T_takesKind (p P : Nat) (a2 : Int32) (a3 : Int32) (m0 : nk_M) : Option (Int32 × nk_M) := nk_bd (zf_T_placeIn 3 nk_t0 a3 m0) (fun r1 m1 => (if r1 = (-9 : Int32) then nk_zr (0 : Int32) m1 else nk_ast m1 P 8 a2 r1 (fun m2 => nk_pf m2 3 0 (3 : Int32) (fun m3 => nk_zr (1 : Int32) m3))))
set_option maxHeartbeats 4000000 in
set_option maxRecDepth 100000 in
theorem zc_T_takesKind {l : Launch} {G : nk_V} (p P : Nat) (hp : nk_isC p P) (a2 : Int32) (a3 : Int32) (m0 : nk_M) : nk_Ct l nk_wC G 2 zy_T_takesKind zb_T_takesKind 5 (some .boolean) nk_oi [nk_r G 3, nk_r G p, .int a2, .int a3] m0 (zf_T_takesKind p P a2 a3 m0) := by
  refine nk_ent (own := "NeedOnce$TextReader") (lv := [nk_r G 3, nk_r G p, .int a2, .int a3, .null]) 1 rfl (by decide) (Nat.le_of_ble_eq_true rfl) rfl (fun X hl hR C hr => ?_)
  subst hl
  unfold zf_T_takesKind
  refine nk_gets C (i := 0) rfl ⟨_, zn_T_46⟩ zd_T_takesKind_0 ?_
  refine nk_iload_n C zd_T_takesKind_3 rfl rfl ?_
  refine nk_callSi C [nk_ts G 0, .int a3] zv_T_50 hR (zc_T_placeIn 3 nk_t0 (ti := 0) rfl a3 m0) (by omega) rfl rfl (Nat.le_of_ble_eq_true rfl) zd_T_takesKind_4 (fun r1 m1 => ?_)
  refine nk_istore C zd_T_takesKind_7 (Nat.le_of_ble_eq_true rfl) rfl ?_
  refine nk_iload C zd_T_takesKind_9 rfl ?_
  refine nk_bipush (v := -9) C zd_T_takesKind_11 (by decide) ?_
  refine nk_icmp_ne (tgt := 18) C zd_T_takesKind_13 (by decide) ?_ ?_
  · refine nk_aload_n C zd_T_takesKind_18 rfl rfl ?_
    refine nk_getR C (r := P) za_T_54 (nkc_ok hp) (nkc_os hp) rfl zd_T_takesKind_19 ?_
    refine nk_iload_n C zd_T_takesKind_22 rfl rfl ?_
    refine nk_iload C zd_T_takesKind_23 rfl ?_
    refine nk_iast C (nkc_bk0 hp) (nkc_bs0 hp) zd_T_takesKind_25 (fun m2 => ?_)
    refine nk_aload_n C zd_T_takesKind_26 rfl rfl ?_
    refine nk_iconst (v := 3) C zd_T_takesKind_27 (by decide) ?_
    refine nk_putI C zp_T_16 (Nat.le_of_ble_eq_true rfl) rfl rfl zd_T_takesKind_28 (fun m3 => ?_)
    refine nk_iconst (v := 1) C zd_T_takesKind_31 (by decide) ?_
    exact nk_zret C hr zd_T_takesKind_32
  · refine nk_iconst (v := 0) C zd_T_takesKind_16 (by decide) ?_
    exact nk_zret C hr zd_T_takesKind_17
theorem zd_T_takesPrice_0 : decode zb_T_takesPrice 0 = .ok (.iload_n 3, 1) := by decide +kernel
theorem zd_T_takesPrice_1 : decode zb_T_takesPrice 1 = .ok (.bipush 49, 2) := by decide +kernel
theorem zd_T_takesPrice_3 : decode zb_T_takesPrice 3 = .ok (.if_icmp .lt 9, 3) := by decide +kernel
theorem zd_T_takesPrice_6 : decode zb_T_takesPrice 6 = .ok (.iload_n 3, 1) := by decide +kernel
theorem zd_T_takesPrice_7 : decode zb_T_takesPrice 7 = .ok (.bipush 57, 2) := by decide +kernel
theorem zd_T_takesPrice_9 : decode zb_T_takesPrice 9 = .ok (.if_icmp .le 5, 3) := by decide +kernel
theorem zd_T_takesPrice_12 : decode zb_T_takesPrice 12 = .ok (.iconst 0, 1) := by decide +kernel
theorem zd_T_takesPrice_13 : decode zb_T_takesPrice 13 = .ok (.ireturn, 1) := by decide +kernel
theorem zd_T_takesPrice_14 : decode zb_T_takesPrice 14 = .ok (.aload_n 1, 1) := by decide +kernel
theorem zd_T_takesPrice_15 : decode zb_T_takesPrice 15 = .ok (.getfield 58, 3) := by decide +kernel
theorem zd_T_takesPrice_18 : decode zb_T_takesPrice 18 = .ok (.iload_n 2, 1) := by decide +kernel
theorem zd_T_takesPrice_19 : decode zb_T_takesPrice 19 = .ok (.iload_n 3, 1) := by decide +kernel
theorem zd_T_takesPrice_20 : decode zb_T_takesPrice 20 = .ok (.bipush 48, 2) := by decide +kernel
theorem zd_T_takesPrice_22 : decode zb_T_takesPrice 22 = .ok (.isub, 1) := by decide +kernel
theorem zd_T_takesPrice_23 : decode zb_T_takesPrice 23 = .ok (.iastore, 1) := by decide +kernel
theorem zd_T_takesPrice_24 : decode zb_T_takesPrice 24 = .ok (.aload_n 0, 1) := by decide +kernel
theorem zd_T_takesPrice_25 : decode zb_T_takesPrice 25 = .ok (.iconst 4, 1) := by decide +kernel
theorem zd_T_takesPrice_26 : decode zb_T_takesPrice 26 = .ok (.putfield 16, 3) := by decide +kernel
theorem zd_T_takesPrice_29 : decode zb_T_takesPrice 29 = .ok (.iconst 1, 1) := by decide +kernel
theorem zd_T_takesPrice_30 : decode zb_T_takesPrice 30 = .ok (.ireturn, 1) := by decide +kernel
def zf_T_takesPrice_b12 (p P : Nat)  (m0 : nk_M) : Option (Int32 × nk_M) := nk_zr (0 : Int32) m0
set_option maxHeartbeats 4000000 in
set_option maxRecDepth 100000 in
theorem zs_T_takesPrice_b12 {G : nk_V} {X : nk_X} (p P : Nat) (hp : nk_isC p P) (C : nk_C "NeedOnce$TextReader" zb_T_takesPrice 4 nk_wC G X) (hR : X.2.2.2.1 = nk_rm 1) (hr : X.2.2.2.2.2.2.2.2.1.sig.returnType = (some .boolean))  : ∀  (m0 : nk_M), nk_Sim nk_wC G X 4 nk_oi 12 [nk_r G 3, nk_r G p, .null, .null] [] m0 (zf_T_takesPrice_b12 p P  m0) := by
  intro m0
  unfold zf_T_takesPrice_b12
  refine nk_iconst (v := 0) C zd_T_takesPrice_12 (by decide) ?_
  exact nk_zret C hr zd_T_takesPrice_13
def zf_T_takesPrice (p P : Nat) (a2 : Int32) (a3 : Int32) (m0 : nk_M) : Option (Int32 × nk_M) := (if a3 < (49 : Int32) then (zf_T_takesPrice_b12 p P m0) else (if a3 ≤ (57 : Int32) then nk_ast m0 (P + 1) 8 a2 (a3 - (48 : Int32)) (fun m1 => nk_pf m1 3 0 (4 : Int32) (fun m2 => nk_zr (1 : Int32) m2)) else (zf_T_takesPrice_b12 p P m0)))
set_option maxHeartbeats 4000000 in
set_option maxRecDepth 100000 in
theorem zc_T_takesPrice {l : Launch} {G : nk_V} (p P : Nat) (hp : nk_isC p P) (a2 : Int32) (a3 : Int32) (m0 : nk_M) : nk_Ct l nk_wC G 1 zy_T_takesPrice zb_T_takesPrice 4 (some .boolean) nk_oi [nk_r G 3, nk_r G p, .int a2, .int a3] m0 (zf_T_takesPrice p P a2 a3 m0) := by
  refine nk_ent (own := "NeedOnce$TextReader") (lv := [nk_r G 3, nk_r G p, .int a2, .int a3]) 0 rfl (by decide) (Nat.le_of_ble_eq_true rfl) rfl (fun X hl hR C hr => ?_)
  subst hl
  unfold zf_T_takesPrice
  refine nk_iload_n C zd_T_takesPrice_0 rfl rfl ?_
  refine nk_bipush (v := 49) C zd_T_takesPrice_1 (by decide) ?_
  refine nk_icmp_lt (tgt := 12) C zd_T_takesPrice_3 (by decide) ?_ ?_
  · refine nk_wk [true, true, false, false] ?_
    exact zs_T_takesPrice_b12 p P hp C hR hr m0
  · refine nk_iload_n C zd_T_takesPrice_6 rfl rfl ?_
    refine nk_bipush (v := 57) C zd_T_takesPrice_7 (by decide) ?_
    refine nk_icmp_le (tgt := 14) C zd_T_takesPrice_9 (by decide) ?_ ?_
    · refine nk_aload_n C zd_T_takesPrice_14 rfl rfl ?_
      refine nk_getR C (r := (P + 1)) za_T_58 (nkc_ok hp) (nkc_os hp) rfl zd_T_takesPrice_15 ?_
      refine nk_iload_n C zd_T_takesPrice_18 rfl rfl ?_
      refine nk_iload_n C zd_T_takesPrice_19 rfl rfl ?_
      refine nk_bipush (v := 48) C zd_T_takesPrice_20 (by decide) ?_
      refine nk_isub C zd_T_takesPrice_22 ?_
      refine nk_iast C (nkc_bk1 hp) (nkc_bs1 hp) zd_T_takesPrice_23 (fun m1 => ?_)
      refine nk_aload_n C zd_T_takesPrice_24 rfl rfl ?_
      refine nk_iconst (v := 4) C zd_T_takesPrice_25 (by decide) ?_
      refine nk_putI C zp_T_16 (Nat.le_of_ble_eq_true rfl) rfl rfl zd_T_takesPrice_26 (fun m2 => ?_)
      refine nk_iconst (v := 1) C zd_T_takesPrice_29 (by decide) ?_
      exact nk_zret C hr zd_T_takesPrice_30
    · refine nk_wk [true, true, false, false] ?_
      exact zs_T_takesPrice_b12 p P hp C hR hr m0
theorem zd_T_takesSign_0 : decode zb_T_takesSign 0 = .ok (.getstatic 61, 3) := by decide +kernel
theorem zd_T_takesSign_3 : decode zb_T_takesSign 3 = .ok (.iload_n 3, 1) := by decide +kernel
theorem zd_T_takesSign_4 : decode zb_T_takesSign 4 = .ok (.invokestatic 50, 3) := by decide +kernel
theorem zd_T_takesSign_7 : decode zb_T_takesSign 7 = .ok (.istore 4, 2) := by decide +kernel
theorem zd_T_takesSign_9 : decode zb_T_takesSign 9 = .ok (.iload 4, 2) := by decide +kernel
theorem zd_T_takesSign_11 : decode zb_T_takesSign 11 = .ok (.bipush (-9), 2) := by decide +kernel
theorem zd_T_takesSign_13 : decode zb_T_takesSign 13 = .ok (.if_icmp .ne 5, 3) := by decide +kernel
theorem zd_T_takesSign_16 : decode zb_T_takesSign 16 = .ok (.iconst 0, 1) := by decide +kernel
theorem zd_T_takesSign_17 : decode zb_T_takesSign 17 = .ok (.ireturn, 1) := by decide +kernel
theorem zd_T_takesSign_18 : decode zb_T_takesSign 18 = .ok (.aload_n 1, 1) := by decide +kernel
theorem zd_T_takesSign_19 : decode zb_T_takesSign 19 = .ok (.getfield 64, 3) := by decide +kernel
theorem zd_T_takesSign_22 : decode zb_T_takesSign 22 = .ok (.iload_n 2, 1) := by decide +kernel
theorem zd_T_takesSign_23 : decode zb_T_takesSign 23 = .ok (.iload 4, 2) := by decide +kernel
theorem zd_T_takesSign_25 : decode zb_T_takesSign 25 = .ok (.iastore, 1) := by decide +kernel
theorem zd_T_takesSign_26 : decode zb_T_takesSign 26 = .ok (.aload_n 0, 1) := by decide +kernel
theorem zd_T_takesSign_27 : decode zb_T_takesSign 27 = .ok (.iconst 0, 1) := by decide +kernel
theorem zd_T_takesSign_28 : decode zb_T_takesSign 28 = .ok (.putfield 67, 3) := by decide +kernel
theorem zd_T_takesSign_31 : decode zb_T_takesSign 31 = .ok (.aload_n 0, 1) := by decide +kernel
theorem zd_T_takesSign_32 : decode zb_T_takesSign 32 = .ok (.iconst 5, 1) := by decide +kernel
theorem zd_T_takesSign_33 : decode zb_T_takesSign 33 = .ok (.putfield 16, 3) := by decide +kernel
theorem zd_T_takesSign_36 : decode zb_T_takesSign 36 = .ok (.iconst 1, 1) := by decide +kernel
theorem zd_T_takesSign_37 : decode zb_T_takesSign 37 = .ok (.ireturn, 1) := by decide +kernel
def zf_T_takesSign (p P : Nat) (a2 : Int32) (a3 : Int32) (m0 : nk_M) : Option (Int32 × nk_M) := nk_bd (zf_T_placeIn 7 nk_t1 a3 m0) (fun r1 m1 => (if r1 = (-9 : Int32) then nk_zr (0 : Int32) m1 else nk_ast m1 (P + 2) 8 a2 r1 (fun m2 => nk_pf m2 3 1 (0 : Int32) (fun m3 => nk_pf m3 3 0 (5 : Int32) (fun m4 => nk_zr (1 : Int32) m4)))))
set_option maxHeartbeats 4000000 in
set_option maxRecDepth 100000 in
theorem zc_T_takesSign {l : Launch} {G : nk_V} (p P : Nat) (hp : nk_isC p P) (a2 : Int32) (a3 : Int32) (m0 : nk_M) : nk_Ct l nk_wC G 2 zy_T_takesSign zb_T_takesSign 5 (some .boolean) nk_oi [nk_r G 3, nk_r G p, .int a2, .int a3] m0 (zf_T_takesSign p P a2 a3 m0) := by
  refine nk_ent (own := "NeedOnce$TextReader") (lv := [nk_r G 3, nk_r G p, .int a2, .int a3, .null]) 1 rfl (by decide) (Nat.le_of_ble_eq_true rfl) rfl (fun X hl hR C hr => ?_)
  subst hl
  unfold zf_T_takesSign
  refine nk_gets C (i := 1) rfl ⟨_, zn_T_61⟩ zd_T_takesSign_0 ?_
  refine nk_iload_n C zd_T_takesSign_3 rfl rfl ?_
  refine nk_callSi C [nk_ts G 1, .int a3] zv_T_50 hR (zc_T_placeIn 7 nk_t1 (ti := 1) rfl a3 m0) (by omega) rfl rfl (Nat.le_of_ble_eq_true rfl) zd_T_takesSign_4 (fun r1 m1 => ?_)
  refine nk_istore C zd_T_takesSign_7 (Nat.le_of_ble_eq_true rfl) rfl ?_
  refine nk_iload C zd_T_takesSign_9 rfl ?_
  refine nk_bipush (v := -9) C zd_T_takesSign_11 (by decide) ?_
  refine nk_icmp_ne (tgt := 18) C zd_T_takesSign_13 (by decide) ?_ ?_
  · refine nk_aload_n C zd_T_takesSign_18 rfl rfl ?_
    refine nk_getR C (r := (P + 2)) za_T_64 (nkc_ok hp) (nkc_os hp) rfl zd_T_takesSign_19 ?_
    refine nk_iload_n C zd_T_takesSign_22 rfl rfl ?_
    refine nk_iload C zd_T_takesSign_23 rfl ?_
    refine nk_iast C (nkc_bk2 hp) (nkc_bs2 hp) zd_T_takesSign_25 (fun m2 => ?_)
    refine nk_aload_n C zd_T_takesSign_26 rfl rfl ?_
    refine nk_iconst (v := 0) C zd_T_takesSign_27 (by decide) ?_
    refine nk_putI C zp_T_67 (Nat.le_of_ble_eq_true rfl) rfl rfl zd_T_takesSign_28 (fun m3 => ?_)
    refine nk_aload_n C zd_T_takesSign_31 rfl rfl ?_
    refine nk_iconst (v := 5) C zd_T_takesSign_32 (by decide) ?_
    refine nk_putI C zp_T_16 (Nat.le_of_ble_eq_true rfl) rfl rfl zd_T_takesSign_33 (fun m4 => ?_)
    refine nk_iconst (v := 1) C zd_T_takesSign_36 (by decide) ?_
    exact nk_zret C hr zd_T_takesSign_37
  · refine nk_iconst (v := 0) C zd_T_takesSign_16 (by decide) ?_
    exact nk_zret C hr zd_T_takesSign_17
theorem zd_C_tellPart_0 : decode zb_C_tellPart 0 = .ok (.aload_n 0, 1) := by decide +kernel
theorem zd_C_tellPart_1 : decode zb_C_tellPart 1 = .ok (.getfield 21, 3) := by decide +kernel
theorem zd_C_tellPart_4 : decode zb_C_tellPart 4 = .ok (.iload_n 1, 1) := by decide +kernel
theorem zd_C_tellPart_5 : decode zb_C_tellPart 5 = .ok (.iconst 3, 1) := by decide +kernel
theorem zd_C_tellPart_6 : decode zb_C_tellPart 6 = .ok (.imul, 1) := by decide +kernel
theorem zd_C_tellPart_7 : decode zb_C_tellPart 7 = .ok (.iload_n 2, 1) := by decide +kernel
theorem zd_C_tellPart_8 : decode zb_C_tellPart 8 = .ok (.iadd, 1) := by decide +kernel
theorem zd_C_tellPart_9 : decode zb_C_tellPart 9 = .ok (.iload_n 3, 1) := by decide +kernel
theorem zd_C_tellPart_10 : decode zb_C_tellPart 10 = .ok (.iastore, 1) := by decide +kernel
theorem zd_C_tellPart_11 : decode zb_C_tellPart 11 = .ok (.return_, 1) := by decide +kernel
def zf_C_tellPart (o B : Nat) (a1 : Int32) (a2 : Int32) (a3 : Int32) (m0 : nk_M) : Option (Unit × nk_M) := nk_ast m0 (B + 3) 24 ((a1 * (3 : Int32)) + a2) a3 (fun m1 => some ((), m1))
set_option maxHeartbeats 4000000 in
set_option maxRecDepth 100000 in
theorem zc_C_tellPart {l : Launch} {G : nk_V} (o B : Nat) (hc : nk_isC o B) (a1 : Int32) (a2 : Int32) (a3 : Int32) (m0 : nk_M) : nk_Ct l nk_wC G 1 zy_C_tellPart zb_C_tellPart 4 none nk_ov [nk_r G o, .int a1, .int a2, .int a3] m0 (zf_C_tellPart o B a1 a2 a3 m0) := by
  refine nk_ent (own := "NeedOnce$Cells") (lv := [nk_r G o, .int a1, .int a2, .int a3]) 0 rfl (by decide) (Nat.le_of_ble_eq_true rfl) rfl (fun X hl hR C hr => ?_)
  subst hl
  unfold zf_C_tellPart
  refine nk_aload_n C zd_C_tellPart_0 rfl rfl ?_
  refine nk_getR C (r := (B + 3)) za_C_21 (nkc_ok hc) (nkc_os hc) rfl zd_C_tellPart_1 ?_
  refine nk_iload_n C zd_C_tellPart_4 rfl rfl ?_
  refine nk_iconst (v := 3) C zd_C_tellPart_5 (by decide) ?_
  refine nk_imul C zd_C_tellPart_6 ?_
  refine nk_iload_n C zd_C_tellPart_7 rfl rfl ?_
  refine nk_iadd C zd_C_tellPart_8 ?_
  refine nk_iload_n C zd_C_tellPart_9 rfl rfl ?_
  refine nk_iast C (nkc_bk3 hc) (nkc_bs3 hc) zd_C_tellPart_10 (fun m1 => ?_)
  exact nk_vret C hr zd_C_tellPart_11
theorem zd_T_takesPart_0 : decode zb_T_takesPart 0 = .ok (.aload_n 1, 1) := by decide +kernel
theorem zd_T_takesPart_1 : decode zb_T_takesPart 1 = .ok (.getfield 64, 3) := by decide +kernel
theorem zd_T_takesPart_4 : decode zb_T_takesPart 4 = .ok (.iload_n 2, 1) := by decide +kernel
theorem zd_T_takesPart_5 : decode zb_T_takesPart 5 = .ok (.iaload, 1) := by decide +kernel
theorem zd_T_takesPart_6 : decode zb_T_takesPart 6 = .ok (.ifCond .ne 8, 3) := by decide +kernel
theorem zd_T_takesPart_9 : decode zb_T_takesPart 9 = .ok (.bipush 57, 2) := by decide +kernel
theorem zd_T_takesPart_11 : decode zb_T_takesPart 11 = .ok (.goto 5, 3) := by decide +kernel
theorem zd_T_takesPart_14 : decode zb_T_takesPart 14 = .ok (.bipush 55, 2) := by decide +kernel
theorem zd_T_takesPart_16 : decode zb_T_takesPart 16 = .ok (.istore 4, 2) := by decide +kernel
theorem zd_T_takesPart_18 : decode zb_T_takesPart 18 = .ok (.iload_n 3, 1) := by decide +kernel
theorem zd_T_takesPart_19 : decode zb_T_takesPart 19 = .ok (.bipush 48, 2) := by decide +kernel
theorem zd_T_takesPart_21 : decode zb_T_takesPart 21 = .ok (.if_icmp .lt 9, 3) := by decide +kernel
theorem zd_T_takesPart_24 : decode zb_T_takesPart 24 = .ok (.iload_n 3, 1) := by decide +kernel
theorem zd_T_takesPart_25 : decode zb_T_takesPart 25 = .ok (.iload 4, 2) := by decide +kernel
theorem zd_T_takesPart_27 : decode zb_T_takesPart 27 = .ok (.if_icmp .le 5, 3) := by decide +kernel
theorem zd_T_takesPart_30 : decode zb_T_takesPart 30 = .ok (.iconst 0, 1) := by decide +kernel
theorem zd_T_takesPart_31 : decode zb_T_takesPart 31 = .ok (.ireturn, 1) := by decide +kernel
theorem zd_T_takesPart_32 : decode zb_T_takesPart 32 = .ok (.aload_n 1, 1) := by decide +kernel
theorem zd_T_takesPart_33 : decode zb_T_takesPart 33 = .ok (.iload_n 2, 1) := by decide +kernel
theorem zd_T_takesPart_34 : decode zb_T_takesPart 34 = .ok (.aload_n 0, 1) := by decide +kernel
theorem zd_T_takesPart_35 : decode zb_T_takesPart 35 = .ok (.getfield 67, 3) := by decide +kernel
theorem zd_T_takesPart_38 : decode zb_T_takesPart 38 = .ok (.iload_n 3, 1) := by decide +kernel
theorem zd_T_takesPart_39 : decode zb_T_takesPart 39 = .ok (.bipush 48, 2) := by decide +kernel
theorem zd_T_takesPart_41 : decode zb_T_takesPart 41 = .ok (.isub, 1) := by decide +kernel
theorem zd_T_takesPart_42 : decode zb_T_takesPart 42 = .ok (.invokevirtual 70, 3) := by decide +kernel
theorem zd_T_takesPart_45 : decode zb_T_takesPart 45 = .ok (.aload_n 0, 1) := by decide +kernel
theorem zd_T_takesPart_46 : decode zb_T_takesPart 46 = .ok (.dup, 1) := by decide +kernel
theorem zd_T_takesPart_47 : decode zb_T_takesPart 47 = .ok (.getfield 67, 3) := by decide +kernel
theorem zd_T_takesPart_50 : decode zb_T_takesPart 50 = .ok (.iconst 1, 1) := by decide +kernel
theorem zd_T_takesPart_51 : decode zb_T_takesPart 51 = .ok (.iadd, 1) := by decide +kernel
theorem zd_T_takesPart_52 : decode zb_T_takesPart 52 = .ok (.putfield 67, 3) := by decide +kernel
theorem zd_T_takesPart_55 : decode zb_T_takesPart 55 = .ok (.aload_n 0, 1) := by decide +kernel
theorem zd_T_takesPart_56 : decode zb_T_takesPart 56 = .ok (.getfield 67, 3) := by decide +kernel
theorem zd_T_takesPart_59 : decode zb_T_takesPart 59 = .ok (.getstatic 74, 3) := by decide +kernel
theorem zd_T_takesPart_62 : decode zb_T_takesPart 62 = .ok (.aload_n 1, 1) := by decide +kernel
theorem zd_T_takesPart_63 : decode zb_T_takesPart 63 = .ok (.getfield 64, 3) := by decide +kernel
theorem zd_T_takesPart_66 : decode zb_T_takesPart 66 = .ok (.iload_n 2, 1) := by decide +kernel
theorem zd_T_takesPart_67 : decode zb_T_takesPart 67 = .ok (.iaload, 1) := by decide +kernel
theorem zd_T_takesPart_68 : decode zb_T_takesPart 68 = .ok (.iaload, 1) := by decide +kernel
theorem zd_T_takesPart_69 : decode zb_T_takesPart 69 = .ok (.if_icmp .ne 15, 3) := by decide +kernel
theorem zd_T_takesPart_72 : decode zb_T_takesPart 72 = .ok (.aload_n 1, 1) := by decide +kernel
theorem zd_T_takesPart_73 : decode zb_T_takesPart 73 = .ok (.iload_n 2, 1) := by decide +kernel
theorem zd_T_takesPart_74 : decode zb_T_takesPart 74 = .ok (.iconst 1, 1) := by decide +kernel
theorem zd_T_takesPart_75 : decode zb_T_takesPart 75 = .ok (.iadd, 1) := by decide +kernel
theorem zd_T_takesPart_76 : decode zb_T_takesPart 76 = .ok (.putfield 30, 3) := by decide +kernel
theorem zd_T_takesPart_79 : decode zb_T_takesPart 79 = .ok (.aload_n 0, 1) := by decide +kernel
theorem zd_T_takesPart_80 : decode zb_T_takesPart 80 = .ok (.iconst 1, 1) := by decide +kernel
theorem zd_T_takesPart_81 : decode zb_T_takesPart 81 = .ok (.putfield 16, 3) := by decide +kernel
theorem zd_T_takesPart_84 : decode zb_T_takesPart 84 = .ok (.iconst 1, 1) := by decide +kernel
theorem zd_T_takesPart_85 : decode zb_T_takesPart 85 = .ok (.ireturn, 1) := by decide +kernel
def zf_T_takesPart_b30 (p P : Nat)  (m0 : nk_M) : Option (Int32 × nk_M) := nk_zr (0 : Int32) m0
set_option maxHeartbeats 4000000 in
set_option maxRecDepth 100000 in
theorem zs_T_takesPart_b30 {G : nk_V} {X : nk_X} (p P : Nat) (hp : nk_isC p P) (C : nk_C "NeedOnce$TextReader" zb_T_takesPart 5 nk_wC G X) (hR : X.2.2.2.1 = nk_rm 2) (hr : X.2.2.2.2.2.2.2.2.1.sig.returnType = (some .boolean))  : ∀  (m0 : nk_M), nk_Sim nk_wC G X 5 nk_oi 30 [nk_r G 3, nk_r G p, .null, .null, .null] [] m0 (zf_T_takesPart_b30 p P  m0) := by
  intro m0
  unfold zf_T_takesPart_b30
  refine nk_iconst (v := 0) C zd_T_takesPart_30 (by decide) ?_
  exact nk_zret C hr zd_T_takesPart_31
def zf_T_takesPart_b84 (p P : Nat)  (m0 : nk_M) : Option (Int32 × nk_M) := nk_zr (1 : Int32) m0
set_option maxHeartbeats 4000000 in
set_option maxRecDepth 100000 in
theorem zs_T_takesPart_b84 {G : nk_V} {X : nk_X} (p P : Nat) (hp : nk_isC p P) (C : nk_C "NeedOnce$TextReader" zb_T_takesPart 5 nk_wC G X) (hR : X.2.2.2.1 = nk_rm 2) (hr : X.2.2.2.2.2.2.2.2.1.sig.returnType = (some .boolean))  : ∀  (m0 : nk_M), nk_Sim nk_wC G X 5 nk_oi 84 [nk_r G 3, nk_r G p, .null, .null, .null] [] m0 (zf_T_takesPart_b84 p P  m0) := by
  intro m0
  unfold zf_T_takesPart_b84
  refine nk_iconst (v := 1) C zd_T_takesPart_84 (by decide) ?_
  exact nk_zret C hr zd_T_takesPart_85
def zf_T_takesPart_b16 (p P : Nat) (y2 : Int32) (y3 : Int32) (u0 : Int32) (m0 : nk_M) : Option (Int32 × nk_M) := (if y3 < (48 : Int32) then (zf_T_takesPart_b30 p P m0) else (if y3 ≤ u0 then nk_bd (zf_C_tellPart p P y2 (m0 3 1) (y3 - (48 : Int32)) m0) (fun _ m1 => nk_pf m1 3 1 ((m1 3 1) + (1 : Int32)) (fun m2 => nk_ald m2 (P + 2) 8 y2 (fun x2 => nk_tld 7 nk_t2 x2 (fun x3 => (if (m2 3 1) = x3 then nk_pf m2 p 0 (y2 + (1 : Int32)) (fun m3 => nk_pf m3 3 0 (1 : Int32) (fun m4 => (zf_T_takesPart_b84 p P m4))) else (zf_T_takesPart_b84 p P m2)))))) else (zf_T_takesPart_b30 p P m0)))
set_option maxHeartbeats 4000000 in
set_option maxRecDepth 100000 in
theorem zs_T_takesPart_b16 {G : nk_V} {X : nk_X} (p P : Nat) (hp : nk_isC p P) (C : nk_C "NeedOnce$TextReader" zb_T_takesPart 5 nk_wC G X) (hR : X.2.2.2.1 = nk_rm 2) (hr : X.2.2.2.2.2.2.2.2.1.sig.returnType = (some .boolean))  : ∀ (y2 : Int32) (y3 : Int32) (u0 : Int32) (m0 : nk_M), nk_Sim nk_wC G X 5 nk_oi 16 [nk_r G 3, nk_r G p, .int y2, .int y3, .null] [.int u0] m0 (zf_T_takesPart_b16 p P y2 y3 u0 m0) := by
  intro y2 y3 u0 m0
  unfold zf_T_takesPart_b16
  refine nk_istore C zd_T_takesPart_16 (Nat.le_of_ble_eq_true rfl) rfl ?_
  refine nk_iload_n C zd_T_takesPart_18 rfl rfl ?_
  refine nk_bipush (v := 48) C zd_T_takesPart_19 (by decide) ?_
  refine nk_icmp_lt (tgt := 30) C zd_T_takesPart_21 (by decide) ?_ ?_
  · refine nk_wk [true, true, false, false, false] ?_
    exact zs_T_takesPart_b30 p P hp C hR hr m0
  · refine nk_iload_n C zd_T_takesPart_24 rfl rfl ?_
    refine nk_iload C zd_T_takesPart_25 rfl ?_
    refine nk_icmp_le (tgt := 32) C zd_T_takesPart_27 (by decide) ?_ ?_
    · refine nk_aload_n C zd_T_takesPart_32 rfl rfl ?_
      refine nk_iload_n C zd_T_takesPart_33 rfl rfl ?_
      refine nk_aload_n C zd_T_takesPart_34 rfl rfl ?_
      refine nk_getI C za_T_67 (Nat.le_of_ble_eq_true rfl) rfl rfl zd_T_takesPart_35 ?_
      refine nk_iload_n C zd_T_takesPart_38 rfl rfl ?_
      refine nk_bipush (v := 48) C zd_T_takesPart_39 (by decide) ?_
      refine nk_isub C zd_T_takesPart_41 ?_
      refine nk_callVv C [.int y2, .int (m0 3 1), .int (y3 - (48 : Int32))] zv_T_70 hR (zc_C_tellPart p P hp y2 (m0 3 1) (y3 - (48 : Int32)) m0) (by omega) (nkc_ok hp) (nkc_os hp) rfl rfl rfl (Nat.le_of_ble_eq_true rfl) zd_T_takesPart_42 (fun m1 => ?_)
      refine nk_aload_n C zd_T_takesPart_45 rfl rfl ?_
      refine nk_dup C zd_T_takesPart_46 rfl ?_
      refine nk_getI C za_T_67 (Nat.le_of_ble_eq_true rfl) rfl rfl zd_T_takesPart_47 ?_
      refine nk_iconst (v := 1) C zd_T_takesPart_50 (by decide) ?_
      refine nk_iadd C zd_T_takesPart_51 ?_
      refine nk_putI C zp_T_67 (Nat.le_of_ble_eq_true rfl) rfl rfl zd_T_takesPart_52 (fun m2 => ?_)
      refine nk_aload_n C zd_T_takesPart_55 rfl rfl ?_
      refine nk_getI C za_T_67 (Nat.le_of_ble_eq_true rfl) rfl rfl zd_T_takesPart_56 ?_
      refine nk_gets C (i := 2) rfl ⟨_, zn_T_74⟩ zd_T_takesPart_59 ?_
      refine nk_aload_n C zd_T_takesPart_62 rfl rfl ?_
      refine nk_getR C (r := (P + 2)) za_T_64 (nkc_ok hp) (nkc_os hp) rfl zd_T_takesPart_63 ?_
      refine nk_iload_n C zd_T_takesPart_66 rfl rfl ?_
      refine nk_iald C (nkc_bk2 hp) (nkc_bs2 hp) zd_T_takesPart_67 (fun x2 => ?_)
      refine nk_ti C rfl zd_T_takesPart_68 (fun x3 => ?_)
      refine nk_icmp_ne (tgt := 84) C zd_T_takesPart_69 (by decide) ?_ ?_
      · refine nk_wk [true, true, false, false, false] ?_
        exact zs_T_takesPart_b84 p P hp C hR hr m2
      · refine nk_aload_n C zd_T_takesPart_72 rfl rfl ?_
        refine nk_iload_n C zd_T_takesPart_73 rfl rfl ?_
        refine nk_iconst (v := 1) C zd_T_takesPart_74 (by decide) ?_
        refine nk_iadd C zd_T_takesPart_75 ?_
        refine nk_putI C zp_T_30 (nkc_ok hp) (nkc_os hp) rfl zd_T_takesPart_76 (fun m3 => ?_)
        refine nk_aload_n C zd_T_takesPart_79 rfl rfl ?_
        refine nk_iconst (v := 1) C zd_T_takesPart_80 (by decide) ?_
        refine nk_putI C zp_T_16 (Nat.le_of_ble_eq_true rfl) rfl rfl zd_T_takesPart_81 (fun m4 => ?_)
        refine nk_wk [true, true, false, false, false] ?_
        exact zs_T_takesPart_b84 p P hp C hR hr m4
    · refine nk_wk [true, true, false, false, false] ?_
      exact zs_T_takesPart_b30 p P hp C hR hr m0
def zf_T_takesPart (p P : Nat) (a2 : Int32) (a3 : Int32) (m0 : nk_M) : Option (Int32 × nk_M) := nk_ald m0 (P + 2) 8 a2 (fun x1 => (if x1 = 0 then (zf_T_takesPart_b16 p P a2 a3 (57 : Int32) m0) else (zf_T_takesPart_b16 p P a2 a3 (55 : Int32) m0)))
set_option maxHeartbeats 4000000 in
set_option maxRecDepth 100000 in
theorem zc_T_takesPart {l : Launch} {G : nk_V} (p P : Nat) (hp : nk_isC p P) (a2 : Int32) (a3 : Int32) (m0 : nk_M) : nk_Ct l nk_wC G 2 zy_T_takesPart zb_T_takesPart 5 (some .boolean) nk_oi [nk_r G 3, nk_r G p, .int a2, .int a3] m0 (zf_T_takesPart p P a2 a3 m0) := by
  refine nk_ent (own := "NeedOnce$TextReader") (lv := [nk_r G 3, nk_r G p, .int a2, .int a3, .null]) 1 rfl (by decide) (Nat.le_of_ble_eq_true rfl) rfl (fun X hl hR C hr => ?_)
  subst hl
  unfold zf_T_takesPart
  refine nk_aload_n C zd_T_takesPart_0 rfl rfl ?_
  refine nk_getR C (r := (P + 2)) za_T_64 (nkc_ok hp) (nkc_os hp) rfl zd_T_takesPart_1 ?_
  refine nk_iload_n C zd_T_takesPart_4 rfl rfl ?_
  refine nk_iald C (nkc_bk2 hp) (nkc_bs2 hp) zd_T_takesPart_5 (fun x1 => ?_)
  refine nk_if_ne (tgt := 14) C zd_T_takesPart_6 (by decide) ?_ ?_
  · refine nk_bipush (v := 55) C zd_T_takesPart_14 (by decide) ?_
    exact zs_T_takesPart_b16 p P hp C hR hr a2 a3 (55 : Int32) m0
  · refine nk_bipush (v := 57) C zd_T_takesPart_9 (by decide) ?_
    refine nk_goto (tgt := 16) C zd_T_takesPart_11 (by decide) ?_
    exact zs_T_takesPart_b16 p P hp C hR hr a2 a3 (57 : Int32) m0
theorem zd_T_goesOn_0 : decode zb_T_goesOn 0 = .ok (.aload_n 1, 1) := by decide +kernel
theorem zd_T_goesOn_1 : decode zb_T_goesOn 1 = .ok (.getfield 30, 3) := by decide +kernel
theorem zd_T_goesOn_4 : decode zb_T_goesOn 4 = .ok (.istore_n 3, 1) := by decide +kernel
theorem zd_T_goesOn_5 : decode zb_T_goesOn 5 = .ok (.aload_n 0, 1) := by decide +kernel
theorem zd_T_goesOn_6 : decode zb_T_goesOn 6 = .ok (.getfield 16, 3) := by decide +kernel
theorem zd_T_goesOn_9 : decode zb_T_goesOn 9 = .ok (.tableswitch 99 0 4 #[35, 52, 75, 83, 91], 35) := by decide +kernel
theorem zd_T_goesOn_44 : decode zb_T_goesOn 44 = .ok (.aload_n 0, 1) := by decide +kernel
theorem zd_T_goesOn_45 : decode zb_T_goesOn 45 = .ok (.iconst 1, 1) := by decide +kernel
theorem zd_T_goesOn_46 : decode zb_T_goesOn 46 = .ok (.putfield 16, 3) := by decide +kernel
theorem zd_T_goesOn_49 : decode zb_T_goesOn 49 = .ok (.iload_n 2, 1) := by decide +kernel
theorem zd_T_goesOn_50 : decode zb_T_goesOn 50 = .ok (.bipush 108, 2) := by decide +kernel
theorem zd_T_goesOn_52 : decode zb_T_goesOn 52 = .ok (.if_icmp .ne 7, 3) := by decide +kernel
theorem zd_T_goesOn_55 : decode zb_T_goesOn 55 = .ok (.iconst 1, 1) := by decide +kernel
theorem zd_T_goesOn_56 : decode zb_T_goesOn 56 = .ok (.goto 4, 3) := by decide +kernel
theorem zd_T_goesOn_59 : decode zb_T_goesOn 59 = .ok (.iconst 0, 1) := by decide +kernel
theorem zd_T_goesOn_60 : decode zb_T_goesOn 60 = .ok (.ireturn, 1) := by decide +kernel
theorem zd_T_goesOn_61 : decode zb_T_goesOn 61 = .ok (.aload_n 0, 1) := by decide +kernel
theorem zd_T_goesOn_62 : decode zb_T_goesOn 62 = .ok (.iconst 2, 1) := by decide +kernel
theorem zd_T_goesOn_63 : decode zb_T_goesOn 63 = .ok (.putfield 16, 3) := by decide +kernel
theorem zd_T_goesOn_66 : decode zb_T_goesOn 66 = .ok (.iload_n 2, 1) := by decide +kernel
theorem zd_T_goesOn_67 : decode zb_T_goesOn 67 = .ok (.bipush 59, 2) := by decide +kernel
theorem zd_T_goesOn_69 : decode zb_T_goesOn 69 = .ok (.if_icmp .ne 13, 3) := by decide +kernel
theorem zd_T_goesOn_72 : decode zb_T_goesOn 72 = .ok (.iload_n 3, 1) := by decide +kernel
theorem zd_T_goesOn_73 : decode zb_T_goesOn 73 = .ok (.bipush 8, 2) := by decide +kernel
theorem zd_T_goesOn_75 : decode zb_T_goesOn 75 = .ok (.if_icmp .ge 7, 3) := by decide +kernel
theorem zd_T_goesOn_78 : decode zb_T_goesOn 78 = .ok (.iconst 1, 1) := by decide +kernel
theorem zd_T_goesOn_79 : decode zb_T_goesOn 79 = .ok (.goto 4, 3) := by decide +kernel
theorem zd_T_goesOn_82 : decode zb_T_goesOn 82 = .ok (.iconst 0, 1) := by decide +kernel
theorem zd_T_goesOn_83 : decode zb_T_goesOn 83 = .ok (.ireturn, 1) := by decide +kernel
theorem zd_T_goesOn_84 : decode zb_T_goesOn 84 = .ok (.aload_n 0, 1) := by decide +kernel
theorem zd_T_goesOn_85 : decode zb_T_goesOn 85 = .ok (.aload_n 1, 1) := by decide +kernel
theorem zd_T_goesOn_86 : decode zb_T_goesOn 86 = .ok (.iload_n 3, 1) := by decide +kernel
theorem zd_T_goesOn_87 : decode zb_T_goesOn 87 = .ok (.iload_n 2, 1) := by decide +kernel
theorem zd_T_goesOn_88 : decode zb_T_goesOn 88 = .ok (.invokevirtual 33, 3) := by decide +kernel
theorem zd_T_goesOn_91 : decode zb_T_goesOn 91 = .ok (.ireturn, 1) := by decide +kernel
theorem zd_T_goesOn_92 : decode zb_T_goesOn 92 = .ok (.aload_n 0, 1) := by decide +kernel
theorem zd_T_goesOn_93 : decode zb_T_goesOn 93 = .ok (.aload_n 1, 1) := by decide +kernel
theorem zd_T_goesOn_94 : decode zb_T_goesOn 94 = .ok (.iload_n 3, 1) := by decide +kernel
theorem zd_T_goesOn_95 : decode zb_T_goesOn 95 = .ok (.iload_n 2, 1) := by decide +kernel
theorem zd_T_goesOn_96 : decode zb_T_goesOn 96 = .ok (.invokevirtual 37, 3) := by decide +kernel
theorem zd_T_goesOn_99 : decode zb_T_goesOn 99 = .ok (.ireturn, 1) := by decide +kernel
theorem zd_T_goesOn_100 : decode zb_T_goesOn 100 = .ok (.aload_n 0, 1) := by decide +kernel
theorem zd_T_goesOn_101 : decode zb_T_goesOn 101 = .ok (.aload_n 1, 1) := by decide +kernel
theorem zd_T_goesOn_102 : decode zb_T_goesOn 102 = .ok (.iload_n 3, 1) := by decide +kernel
theorem zd_T_goesOn_103 : decode zb_T_goesOn 103 = .ok (.iload_n 2, 1) := by decide +kernel
theorem zd_T_goesOn_104 : decode zb_T_goesOn 104 = .ok (.invokevirtual 40, 3) := by decide +kernel
theorem zd_T_goesOn_107 : decode zb_T_goesOn 107 = .ok (.ireturn, 1) := by decide +kernel
theorem zd_T_goesOn_108 : decode zb_T_goesOn 108 = .ok (.aload_n 0, 1) := by decide +kernel
theorem zd_T_goesOn_109 : decode zb_T_goesOn 109 = .ok (.aload_n 1, 1) := by decide +kernel
theorem zd_T_goesOn_110 : decode zb_T_goesOn 110 = .ok (.iload_n 3, 1) := by decide +kernel
theorem zd_T_goesOn_111 : decode zb_T_goesOn 111 = .ok (.iload_n 2, 1) := by decide +kernel
theorem zd_T_goesOn_112 : decode zb_T_goesOn 112 = .ok (.invokevirtual 43, 3) := by decide +kernel
theorem zd_T_goesOn_115 : decode zb_T_goesOn 115 = .ok (.ireturn, 1) := by decide +kernel
def zf_T_goesOn_b60 (p P : Nat) (u0 : Int32) (m0 : nk_M) : Option (Int32 × nk_M) := nk_zr u0 m0
set_option maxHeartbeats 4000000 in
set_option maxRecDepth 100000 in
theorem zs_T_goesOn_b60 {G : nk_V} {X : nk_X} (p P : Nat) (hp : nk_isC p P) (C : nk_C "NeedOnce$TextReader" zb_T_goesOn 4 nk_wC G X) (hR : X.2.2.2.1 = nk_rm 3) (hr : X.2.2.2.2.2.2.2.2.1.sig.returnType = (some .boolean))  : ∀ (u0 : Int32) (m0 : nk_M), nk_Sim nk_wC G X 4 nk_oi 60 [nk_r G 3, nk_r G p, .null, .null] [.int u0] m0 (zf_T_goesOn_b60 p P u0 m0) := by
  intro u0 m0
  unfold zf_T_goesOn_b60
  exact nk_zret C hr zd_T_goesOn_60
def zf_T_goesOn_b83 (p P : Nat) (u0 : Int32) (m0 : nk_M) : Option (Int32 × nk_M) := nk_zr u0 m0
set_option maxHeartbeats 4000000 in
set_option maxRecDepth 100000 in
theorem zs_T_goesOn_b83 {G : nk_V} {X : nk_X} (p P : Nat) (hp : nk_isC p P) (C : nk_C "NeedOnce$TextReader" zb_T_goesOn 4 nk_wC G X) (hR : X.2.2.2.1 = nk_rm 3) (hr : X.2.2.2.2.2.2.2.2.1.sig.returnType = (some .boolean))  : ∀ (u0 : Int32) (m0 : nk_M), nk_Sim nk_wC G X 4 nk_oi 83 [nk_r G 3, nk_r G p, .null, .null] [.int u0] m0 (zf_T_goesOn_b83 p P u0 m0) := by
  intro u0 m0
  unfold zf_T_goesOn_b83
  exact nk_zret C hr zd_T_goesOn_83
def zf_T_goesOn_b82 (p P : Nat)  (m0 : nk_M) : Option (Int32 × nk_M) := (zf_T_goesOn_b83 p P (0 : Int32) m0)
set_option maxHeartbeats 4000000 in
set_option maxRecDepth 100000 in
theorem zs_T_goesOn_b82 {G : nk_V} {X : nk_X} (p P : Nat) (hp : nk_isC p P) (C : nk_C "NeedOnce$TextReader" zb_T_goesOn 4 nk_wC G X) (hR : X.2.2.2.1 = nk_rm 3) (hr : X.2.2.2.2.2.2.2.2.1.sig.returnType = (some .boolean))  : ∀  (m0 : nk_M), nk_Sim nk_wC G X 4 nk_oi 82 [nk_r G 3, nk_r G p, .null, .null] [] m0 (zf_T_goesOn_b82 p P  m0) := by
  intro m0
  unfold zf_T_goesOn_b82
  refine nk_iconst (v := 0) C zd_T_goesOn_82 (by decide) ?_
  exact zs_T_goesOn_b83 p P hp C hR hr (0 : Int32) m0
def zf_T_goesOn (p P : Nat) (a2 : Int32) (m0 : nk_M) : Option (Int32 × nk_M) := nk_nm (m0 p 0) (fun x1 => (if (m0 3 0) = (0 : Int32) then nk_pf m0 3 0 (1 : Int32) (fun m1 => (if a2 = (108 : Int32) then (zf_T_goesOn_b60 p P (1 : Int32) m1) else (zf_T_goesOn_b60 p P (0 : Int32) m1))) else if (m0 3 0) = (1 : Int32) then nk_pf m0 3 0 (2 : Int32) (fun m2 => (if a2 = (59 : Int32) then (if (8 : Int32) ≤ x1 then (zf_T_goesOn_b82 p P m2) else (zf_T_goesOn_b83 p P (1 : Int32) m2)) else (zf_T_goesOn_b82 p P m2))) else if (m0 3 0) = (2 : Int32) then nk_bd (zf_T_takesKind p P x1 a2 m0) (fun r2 m3 => nk_zr r2 m3) else if (m0 3 0) = (3 : Int32) then nk_bd (zf_T_takesPrice p P x1 a2 m0) (fun r3 m4 => nk_zr r3 m4) else if (m0 3 0) = (4 : Int32) then nk_bd (zf_T_takesSign p P x1 a2 m0) (fun r4 m5 => nk_zr r4 m5) else nk_bd (zf_T_takesPart p P x1 a2 m0) (fun r5 m6 => nk_zr r5 m6)))
set_option maxHeartbeats 4000000 in
set_option maxRecDepth 100000 in
theorem zc_T_goesOn {l : Launch} {G : nk_V} (p P : Nat) (hp : nk_isC p P) (a2 : Int32) (m0 : nk_M) : nk_Ct l nk_wC G 3 zy_T_goesOn zb_T_goesOn 4 (some .boolean) nk_oi [nk_r G 3, nk_r G p, .int a2] m0 (zf_T_goesOn p P a2 m0) := by
  refine nk_ent (own := "NeedOnce$TextReader") (lv := [nk_r G 3, nk_r G p, .int a2, .null]) 1 rfl (by decide) (Nat.le_of_ble_eq_true rfl) rfl (fun X hl hR C hr => ?_)
  subst hl
  unfold zf_T_goesOn
  refine nk_aload_n C zd_T_goesOn_0 rfl rfl ?_
  refine nk_getI C za_T_30 (nkc_ok hp) (nkc_os hp) rfl zd_T_goesOn_1 ?_
  refine nk_named (fun x1 => ?_)
  refine nk_istore_n C zd_T_goesOn_4 rfl (Nat.le_of_ble_eq_true rfl) rfl ?_
  refine nk_aload_n C zd_T_goesOn_5 rfl rfl ?_
  refine nk_getI C za_T_16 (Nat.le_of_ble_eq_true rfl) rfl rfl zd_T_goesOn_6 ?_
  refine nk_tbl C (0 : Int32) (off := 35) (tgt := 44) zd_T_goesOn_9 ⟨by decide, by decide, by decide, by decide⟩ ?_ (fun h0 => ?_)
  · refine nk_aload_n C zd_T_goesOn_44 rfl rfl ?_
    refine nk_iconst (v := 1) C zd_T_goesOn_45 (by decide) ?_
    refine nk_putI C zp_T_16 (Nat.le_of_ble_eq_true rfl) rfl rfl zd_T_goesOn_46 (fun m1 => ?_)
    refine nk_iload_n C zd_T_goesOn_49 rfl rfl ?_
    refine nk_bipush (v := 108) C zd_T_goesOn_50 (by decide) ?_
    refine nk_icmp_ne (tgt := 59) C zd_T_goesOn_52 (by decide) ?_ ?_
    · refine nk_iconst (v := 0) C zd_T_goesOn_59 (by decide) ?_
      refine nk_wk [true, true, false, false] ?_
      exact zs_T_goesOn_b60 p P hp C hR hr (0 : Int32) m1
    · refine nk_iconst (v := 1) C zd_T_goesOn_55 (by decide) ?_
      refine nk_goto (tgt := 60) C zd_T_goesOn_56 (by decide) ?_
      refine nk_wk [true, true, false, false] ?_
      exact zs_T_goesOn_b60 p P hp C hR hr (1 : Int32) m1
  refine nk_tbl C (1 : Int32) (off := 52) (tgt := 61) zd_T_goesOn_9 ⟨by decide, by decide, by decide, by decide⟩ ?_ (fun h1 => ?_)
  · refine nk_aload_n C zd_T_goesOn_61 rfl rfl ?_
    refine nk_iconst (v := 2) C zd_T_goesOn_62 (by decide) ?_
    refine nk_putI C zp_T_16 (Nat.le_of_ble_eq_true rfl) rfl rfl zd_T_goesOn_63 (fun m2 => ?_)
    refine nk_iload_n C zd_T_goesOn_66 rfl rfl ?_
    refine nk_bipush (v := 59) C zd_T_goesOn_67 (by decide) ?_
    refine nk_icmp_ne (tgt := 82) C zd_T_goesOn_69 (by decide) ?_ ?_
    · refine nk_wk [true, true, false, false] ?_
      exact zs_T_goesOn_b82 p P hp C hR hr m2
    · refine nk_iload_n C zd_T_goesOn_72 rfl rfl ?_
      refine nk_bipush (v := 8) C zd_T_goesOn_73 (by decide) ?_
      refine nk_icmp_ge (tgt := 82) C zd_T_goesOn_75 (by decide) ?_ ?_
      · refine nk_wk [true, true, false, false] ?_
        exact zs_T_goesOn_b82 p P hp C hR hr m2
      · refine nk_iconst (v := 1) C zd_T_goesOn_78 (by decide) ?_
        refine nk_goto (tgt := 83) C zd_T_goesOn_79 (by decide) ?_
        refine nk_wk [true, true, false, false] ?_
        exact zs_T_goesOn_b83 p P hp C hR hr (1 : Int32) m2
  refine nk_tbl C (2 : Int32) (off := 75) (tgt := 84) zd_T_goesOn_9 ⟨by decide, by decide, by decide, by decide⟩ ?_ (fun h2 => ?_)
  · refine nk_aload_n C zd_T_goesOn_84 rfl rfl ?_
    refine nk_aload_n C zd_T_goesOn_85 rfl rfl ?_
    refine nk_iload_n C zd_T_goesOn_86 rfl rfl ?_
    refine nk_iload_n C zd_T_goesOn_87 rfl rfl ?_
    refine nk_callVi C [nk_r G p, .int x1, .int a2] zv_T_33 hR (zc_T_takesKind p P hp x1 a2 m0) (by omega) (Nat.le_of_ble_eq_true rfl) rfl rfl rfl rfl (Nat.le_of_ble_eq_true rfl) zd_T_goesOn_88 (fun r2 m3 => ?_)
    exact nk_zret C hr zd_T_goesOn_91
  refine nk_tbl C (3 : Int32) (off := 83) (tgt := 92) zd_T_goesOn_9 ⟨by decide, by decide, by decide, by decide⟩ ?_ (fun h3 => ?_)
  · refine nk_aload_n C zd_T_goesOn_92 rfl rfl ?_
    refine nk_aload_n C zd_T_goesOn_93 rfl rfl ?_
    refine nk_iload_n C zd_T_goesOn_94 rfl rfl ?_
    refine nk_iload_n C zd_T_goesOn_95 rfl rfl ?_
    refine nk_callVi C [nk_r G p, .int x1, .int a2] zv_T_37 hR (zc_T_takesPrice p P hp x1 a2 m0) (by omega) (Nat.le_of_ble_eq_true rfl) rfl rfl rfl rfl (Nat.le_of_ble_eq_true rfl) zd_T_goesOn_96 (fun r3 m4 => ?_)
    exact nk_zret C hr zd_T_goesOn_99
  refine nk_tbl C (4 : Int32) (off := 91) (tgt := 100) zd_T_goesOn_9 ⟨by decide, by decide, by decide, by decide⟩ ?_ (fun h4 => ?_)
  · refine nk_aload_n C zd_T_goesOn_100 rfl rfl ?_
    refine nk_aload_n C zd_T_goesOn_101 rfl rfl ?_
    refine nk_iload_n C zd_T_goesOn_102 rfl rfl ?_
    refine nk_iload_n C zd_T_goesOn_103 rfl rfl ?_
    refine nk_callVi C [nk_r G p, .int x1, .int a2] zv_T_40 hR (zc_T_takesSign p P hp x1 a2 m0) (by omega) (Nat.le_of_ble_eq_true rfl) rfl rfl rfl rfl (Nat.le_of_ble_eq_true rfl) zd_T_goesOn_104 (fun r4 m5 => ?_)
    exact nk_zret C hr zd_T_goesOn_107
  refine nk_tblD C (tgt := 108) zd_T_goesOn_9 (by
      have g0 := nk_neK (i := 0) (by decide) h0; have g1 := nk_neK (i := 1) (by decide) h1; have g2 := nk_neK (i := 2) (by decide) h2; have g3 := nk_neK (i := 3) (by decide) h3; have g4 := nk_neK (i := 4) (by decide) h4
      by_cases a0 : Int32.toInt (m0 3 0) < 0
      · exact Or.inl a0
      by_cases b0 : 4 < Int32.toInt (m0 3 0)
      · exact Or.inr (Or.inl b0)
      exfalso; omega) (by decide) ?_
  refine nk_aload_n C zd_T_goesOn_108 rfl rfl ?_
  refine nk_aload_n C zd_T_goesOn_109 rfl rfl ?_
  refine nk_iload_n C zd_T_goesOn_110 rfl rfl ?_
  refine nk_iload_n C zd_T_goesOn_111 rfl rfl ?_
  refine nk_callVi C [nk_r G p, .int x1, .int a2] zv_T_43 hR (zc_T_takesPart p P hp x1 a2 m0) (by omega) (Nat.le_of_ble_eq_true rfl) rfl rfl rfl rfl (Nat.le_of_ble_eq_true rfl) zd_T_goesOn_112 (fun r5 m6 => ?_)
  exact nk_zret C hr zd_T_goesOn_115
theorem zd_T_readInto_0 : decode zb_T_readInto 0 = .ok (.aload_n 1, 1) := by decide +kernel
theorem zd_T_readInto_1 : decode zb_T_readInto 1 = .ok (.invokevirtual 9, 3) := by decide +kernel
theorem zd_T_readInto_4 : decode zb_T_readInto 4 = .ok (.aload_n 0, 1) := by decide +kernel
theorem zd_T_readInto_5 : decode zb_T_readInto 5 = .ok (.iconst 0, 1) := by decide +kernel
theorem zd_T_readInto_6 : decode zb_T_readInto 6 = .ok (.putfield 16, 3) := by decide +kernel
theorem zd_T_readInto_9 : decode zb_T_readInto 9 = .ok (.iconst 0, 1) := by decide +kernel
theorem zd_T_readInto_10 : decode zb_T_readInto 10 = .ok (.istore 6, 2) := by decide +kernel
theorem zd_T_readInto_12 : decode zb_T_readInto 12 = .ok (.iload 6, 2) := by decide +kernel
theorem zd_T_readInto_14 : decode zb_T_readInto 14 = .ok (.iload 5, 2) := by decide +kernel
theorem zd_T_readInto_16 : decode zb_T_readInto 16 = .ok (.if_icmp .ge 30, 3) := by decide +kernel
theorem zd_T_readInto_19 : decode zb_T_readInto 19 = .ok (.aload_n 0, 1) := by decide +kernel
theorem zd_T_readInto_20 : decode zb_T_readInto 20 = .ok (.aload_n 1, 1) := by decide +kernel
theorem zd_T_readInto_21 : decode zb_T_readInto 21 = .ok (.aload_n 2, 1) := by decide +kernel
theorem zd_T_readInto_22 : decode zb_T_readInto 22 = .ok (.iload_n 3, 1) := by decide +kernel
theorem zd_T_readInto_23 : decode zb_T_readInto 23 = .ok (.iload 4, 2) := by decide +kernel
theorem zd_T_readInto_25 : decode zb_T_readInto 25 = .ok (.iload 6, 2) := by decide +kernel
theorem zd_T_readInto_27 : decode zb_T_readInto 27 = .ok (.iadd, 1) := by decide +kernel
theorem zd_T_readInto_28 : decode zb_T_readInto 28 = .ok (.invokevirtual 20, 3) := by decide +kernel
theorem zd_T_readInto_31 : decode zb_T_readInto 31 = .ok (.invokevirtual 26, 3) := by decide +kernel
theorem zd_T_readInto_34 : decode zb_T_readInto 34 = .ok (.ifCond .ne 6, 3) := by decide +kernel
theorem zd_T_readInto_37 : decode zb_T_readInto 37 = .ok (.iload 6, 2) := by decide +kernel
theorem zd_T_readInto_39 : decode zb_T_readInto 39 = .ok (.ireturn, 1) := by decide +kernel
theorem zd_T_readInto_40 : decode zb_T_readInto 40 = .ok (.iinc 6 1, 3) := by decide +kernel
theorem zd_T_readInto_43 : decode zb_T_readInto 43 = .ok (.goto (-31), 3) := by decide +kernel
theorem zd_T_readInto_46 : decode zb_T_readInto 46 = .ok (.aload_n 0, 1) := by decide +kernel
theorem zd_T_readInto_47 : decode zb_T_readInto 47 = .ok (.getfield 16, 3) := by decide +kernel
theorem zd_T_readInto_50 : decode zb_T_readInto 50 = .ok (.iconst 1, 1) := by decide +kernel
theorem zd_T_readInto_51 : decode zb_T_readInto 51 = .ok (.if_icmp .ne 15, 3) := by decide +kernel
theorem zd_T_readInto_54 : decode zb_T_readInto 54 = .ok (.aload_n 1, 1) := by decide +kernel
theorem zd_T_readInto_55 : decode zb_T_readInto 55 = .ok (.getfield 30, 3) := by decide +kernel
theorem zd_T_readInto_58 : decode zb_T_readInto 58 = .ok (.ifCond .le 8, 3) := by decide +kernel
theorem zd_T_readInto_61 : decode zb_T_readInto 61 = .ok (.bipush (-9), 2) := by decide +kernel
theorem zd_T_readInto_63 : decode zb_T_readInto 63 = .ok (.goto 5, 3) := by decide +kernel
theorem zd_T_readInto_66 : decode zb_T_readInto 66 = .ok (.iload 5, 2) := by decide +kernel
theorem zd_T_readInto_68 : decode zb_T_readInto 68 = .ok (.ireturn, 1) := by decide +kernel
def zf_T_readInto_b68 (p P : Nat) (u0 : Int32) (m0 : nk_M) : Option (Int32 × nk_M) := some (u0, m0)
set_option maxHeartbeats 4000000 in
set_option maxRecDepth 100000 in
theorem zs_T_readInto_b68 {G : nk_V} {X : nk_X} (p P : Nat) (hp : nk_isC p P) (C : nk_C "NeedOnce$TextReader" zb_T_readInto 7 nk_wC G X) (hR : X.2.2.2.1 = nk_rm 4) (hr : X.2.2.2.2.2.2.2.2.1.sig.returnType = (some .int))  : ∀ (u0 : Int32) (m0 : nk_M), nk_Sim nk_wC G X 7 nk_oi 68 [nk_r G 3, nk_r G p, nk_r G 5, .null, .null, .null, .null] [.int u0] m0 (zf_T_readInto_b68 p P u0 m0) := by
  intro u0 m0
  unfold zf_T_readInto_b68
  exact nk_iret C hr zd_T_readInto_68
def zf_T_readInto_b66 (p P : Nat) (y5 : Int32) (m0 : nk_M) : Option (Int32 × nk_M) := (zf_T_readInto_b68 p P y5 m0)
set_option maxHeartbeats 4000000 in
set_option maxRecDepth 100000 in
theorem zs_T_readInto_b66 {G : nk_V} {X : nk_X} (p P : Nat) (hp : nk_isC p P) (C : nk_C "NeedOnce$TextReader" zb_T_readInto 7 nk_wC G X) (hR : X.2.2.2.1 = nk_rm 4) (hr : X.2.2.2.2.2.2.2.2.1.sig.returnType = (some .int))  : ∀ (y5 : Int32) (m0 : nk_M), nk_Sim nk_wC G X 7 nk_oi 66 [nk_r G 3, nk_r G p, nk_r G 5, .null, .null, .int y5, .null] [] m0 (zf_T_readInto_b66 p P y5 m0) := by
  intro y5 m0
  unfold zf_T_readInto_b66
  refine nk_iload C zd_T_readInto_66 rfl ?_
  refine nk_wk [true, true, true, false, false, false, false] ?_
  exact zs_T_readInto_b68 p P hp C hR hr y5 m0
def zf_T_readInto_b12 (p P : Nat) : Nat → Int32 → Int32 → Int32 → Int32 → nk_M → Option (Int32 × nk_M)
  | 0, _, _, _, _, _ => none
  | n0 + 1, y3, y4, y5, y6, m0 => (if y5 ≤ y6 then (if (m0 3 0) = (1 : Int32) then (if (m0 p 0) ≤ 0 then (zf_T_readInto_b66 p P y5 m0) else (zf_T_readInto_b68 p P (-9 : Int32) m0)) else (zf_T_readInto_b66 p P y5 m0)) else nk_bd (zf_S_at y3 (y4 + y6) m0) (fun r1 m1 => nk_bd (zf_T_goesOn p P r1 m1) (fun r2 m2 => (if r2 = 0 then some (y6, m2) else (zf_T_readInto_b12 p P n0 y3 y4 y5 (y6 + 1) m2)))))
set_option maxHeartbeats 4000000 in
set_option maxRecDepth 100000 in
theorem zs_T_readInto_b12 {G : nk_V} {X : nk_X} (p P : Nat) (hp : nk_isC p P) (C : nk_C "NeedOnce$TextReader" zb_T_readInto 7 nk_wC G X) (hR : X.2.2.2.1 = nk_rm 4) (hr : X.2.2.2.2.2.2.2.2.1.sig.returnType = (some .int))  : ∀ (n0 : Nat) (y3 : Int32) (y4 : Int32) (y5 : Int32) (y6 : Int32) (m0 : nk_M), nk_Sim nk_wC G X 7 nk_oi 12 [nk_r G 3, nk_r G p, nk_r G 5, .int y3, .int y4, .int y5, .int y6] [] m0 (zf_T_readInto_b12 p P n0 y3 y4 y5 y6 m0) := by
  intro n0
  induction n0 with
  | zero => intros; exact nk_none
  | succ n0 ih =>
    intro y3 y4 y5 y6 m0
    rw [zf_T_readInto_b12]
    refine nk_iload C zd_T_readInto_12 rfl ?_
    refine nk_iload C zd_T_readInto_14 rfl ?_
    refine nk_icmp_ge (tgt := 46) C zd_T_readInto_16 (by decide) ?_ ?_
    · refine nk_aload_n C zd_T_readInto_46 rfl rfl ?_
      refine nk_getI C za_T_16 (Nat.le_of_ble_eq_true rfl) rfl rfl zd_T_readInto_47 ?_
      refine nk_iconst (v := 1) C zd_T_readInto_50 (by decide) ?_
      refine nk_icmp_ne (tgt := 66) C zd_T_readInto_51 (by decide) ?_ ?_
      · refine nk_wk [true, true, true, false, false, true, false] ?_
        exact zs_T_readInto_b66 p P hp C hR hr y5 m0
      · refine nk_aload_n C zd_T_readInto_54 rfl rfl ?_
        refine nk_getI C za_T_30 (nkc_ok hp) (nkc_os hp) rfl zd_T_readInto_55 ?_
        refine nk_if_le (tgt := 66) C zd_T_readInto_58 (by decide) ?_ ?_
        · refine nk_wk [true, true, true, false, false, true, false] ?_
          exact zs_T_readInto_b66 p P hp C hR hr y5 m0
        · refine nk_bipush (v := -9) C zd_T_readInto_61 (by decide) ?_
          refine nk_goto (tgt := 68) C zd_T_readInto_63 (by decide) ?_
          refine nk_wk [true, true, true, false, false, false, false] ?_
          exact zs_T_readInto_b68 p P hp C hR hr (-9 : Int32) m0
    · refine nk_aload_n C zd_T_readInto_19 rfl rfl ?_
      refine nk_aload_n C zd_T_readInto_20 rfl rfl ?_
      refine nk_aload_n C zd_T_readInto_21 rfl rfl ?_
      refine nk_iload_n C zd_T_readInto_22 rfl rfl ?_
      refine nk_iload C zd_T_readInto_23 rfl ?_
      refine nk_iload C zd_T_readInto_25 rfl ?_
      refine nk_iadd C zd_T_readInto_27 ?_
      refine nk_callVi C [.int y3, .int (y4 + y6)] zv_T_20 hR (zc_S_at y3 (y4 + y6) m0) (by omega) (Nat.le_of_ble_eq_true rfl) rfl rfl rfl rfl (Nat.le_of_ble_eq_true rfl) zd_T_readInto_28 (fun r1 m1 => ?_)
      refine nk_callVi C [nk_r G p, .int r1] zv_T_26 hR (zc_T_goesOn p P hp r1 m1) (by omega) (Nat.le_of_ble_eq_true rfl) rfl rfl rfl rfl (Nat.le_of_ble_eq_true rfl) zd_T_readInto_31 (fun r2 m2 => ?_)
      refine nk_if_ne (tgt := 40) C zd_T_readInto_34 (by decide) ?_ ?_
      · refine nk_iinc (v0 := y6 + 1) C zd_T_readInto_40 rfl (nk_inc _ (by decide)) (Nat.le_of_ble_eq_true rfl) rfl ?_
        refine nk_goto (tgt := 12) C zd_T_readInto_43 (by decide) ?_
        exact ih y3 y4 y5 (y6 + 1) m2
      · refine nk_iload C zd_T_readInto_37 rfl ?_
        exact nk_iret C hr zd_T_readInto_39
def zf_T_readInto (p P : Nat) (a3 : Int32) (a4 : Int32) (a5 : Int32) (m0 : nk_M) : Option (Int32 × nk_M) := nk_bd (zf_C_forgetAll p P m0) (fun _ m1 => nk_pf m1 3 0 (0 : Int32) (fun m2 => (zf_T_readInto_b12 p P nk_fu a3 a4 a5 (0 : Int32) m2)))
set_option maxHeartbeats 4000000 in
set_option maxRecDepth 100000 in
theorem zc_T_readInto {l : Launch} {G : nk_V} (p P : Nat) (hp : nk_isC p P) (a3 : Int32) (a4 : Int32) (a5 : Int32) (m0 : nk_M) : nk_Ct l nk_wC G 4 zy_T_readInto zb_T_readInto 7 (some .int) nk_oi [nk_r G 3, nk_r G p, nk_r G 5, .int a3, .int a4, .int a5] m0 (zf_T_readInto p P a3 a4 a5 m0) := by
  refine nk_ent (own := "NeedOnce$TextReader") (lv := [nk_r G 3, nk_r G p, nk_r G 5, .int a3, .int a4, .int a5, .null]) 1 rfl (by decide) (Nat.le_of_ble_eq_true rfl) rfl (fun X hl hR C hr => ?_)
  subst hl
  unfold zf_T_readInto
  refine nk_aload_n C zd_T_readInto_0 rfl rfl ?_
  refine nk_callVv C [] zv_T_9 hR (zc_C_forgetAll p P hp m0) (by omega) (nkc_ok hp) (nkc_os hp) rfl rfl rfl (Nat.le_of_ble_eq_true rfl) zd_T_readInto_1 (fun m1 => ?_)
  refine nk_aload_n C zd_T_readInto_4 rfl rfl ?_
  refine nk_iconst (v := 0) C zd_T_readInto_5 (by decide) ?_
  refine nk_putI C zp_T_16 (Nat.le_of_ble_eq_true rfl) rfl rfl zd_T_readInto_6 (fun m2 => ?_)
  refine nk_iconst (v := 0) C zd_T_readInto_9 (by decide) ?_
  refine nk_istore C zd_T_readInto_10 (Nat.le_of_ble_eq_true rfl) rfl ?_
  exact zs_T_readInto_b12 p P hp C hR hr nk_fu a3 a4 a5 (0 : Int32) m2
theorem zd_C_partAsTold_0 : decode zb_C_partAsTold 0 = .ok (.iload_n 2, 1) := by decide +kernel
theorem zd_C_partAsTold_1 : decode zb_C_partAsTold 1 = .ok (.getstatic 51, 3) := by decide +kernel
theorem zd_C_partAsTold_4 : decode zb_C_partAsTold 4 = .ok (.aload_n 0, 1) := by decide +kernel
theorem zd_C_partAsTold_5 : decode zb_C_partAsTold 5 = .ok (.getfield 18, 3) := by decide +kernel
theorem zd_C_partAsTold_8 : decode zb_C_partAsTold 8 = .ok (.iload_n 1, 1) := by decide +kernel
theorem zd_C_partAsTold_9 : decode zb_C_partAsTold 9 = .ok (.iaload, 1) := by decide +kernel
theorem zd_C_partAsTold_10 : decode zb_C_partAsTold 10 = .ok (.iaload, 1) := by decide +kernel
theorem zd_C_partAsTold_11 : decode zb_C_partAsTold 11 = .ok (.if_icmp .ge 16, 3) := by decide +kernel
theorem zd_C_partAsTold_14 : decode zb_C_partAsTold 14 = .ok (.aload_n 0, 1) := by decide +kernel
theorem zd_C_partAsTold_15 : decode zb_C_partAsTold 15 = .ok (.getfield 21, 3) := by decide +kernel
theorem zd_C_partAsTold_18 : decode zb_C_partAsTold 18 = .ok (.iload_n 1, 1) := by decide +kernel
theorem zd_C_partAsTold_19 : decode zb_C_partAsTold 19 = .ok (.iconst 3, 1) := by decide +kernel
theorem zd_C_partAsTold_20 : decode zb_C_partAsTold 20 = .ok (.imul, 1) := by decide +kernel
theorem zd_C_partAsTold_21 : decode zb_C_partAsTold 21 = .ok (.iload_n 2, 1) := by decide +kernel
theorem zd_C_partAsTold_22 : decode zb_C_partAsTold 22 = .ok (.iadd, 1) := by decide +kernel
theorem zd_C_partAsTold_23 : decode zb_C_partAsTold 23 = .ok (.iaload, 1) := by decide +kernel
theorem zd_C_partAsTold_24 : decode zb_C_partAsTold 24 = .ok (.goto 5, 3) := by decide +kernel
theorem zd_C_partAsTold_27 : decode zb_C_partAsTold 27 = .ok (.bipush (-9), 2) := by decide +kernel
theorem zd_C_partAsTold_29 : decode zb_C_partAsTold 29 = .ok (.ireturn, 1) := by decide +kernel
def zf_C_partAsTold_b29 (o B : Nat) (u0 : Int32) (m0 : nk_M) : Option (Int32 × nk_M) := some (u0, m0)
set_option maxHeartbeats 4000000 in
set_option maxRecDepth 100000 in
theorem zs_C_partAsTold_b29 {G : nk_V} {X : nk_X} (o B : Nat) (hc : nk_isC o B) (C : nk_C "NeedOnce$Cells" zb_C_partAsTold 3 nk_wC G X) (hR : X.2.2.2.1 = nk_rm 1) (hr : X.2.2.2.2.2.2.2.2.1.sig.returnType = (some .int))  : ∀ (u0 : Int32) (m0 : nk_M), nk_Sim nk_wC G X 3 nk_oi 29 [nk_r G o, .null, .null] [.int u0] m0 (zf_C_partAsTold_b29 o B u0 m0) := by
  intro u0 m0
  unfold zf_C_partAsTold_b29
  exact nk_iret C hr zd_C_partAsTold_29
def zf_C_partAsTold (o B : Nat) (a1 : Int32) (a2 : Int32) (m0 : nk_M) : Option (Int32 × nk_M) := nk_ald m0 (B + 2) 8 a1 (fun x1 => nk_tld 7 nk_t2 x1 (fun x2 => (if x2 ≤ a2 then (zf_C_partAsTold_b29 o B (-9 : Int32) m0) else nk_ald m0 (B + 3) 24 ((a1 * (3 : Int32)) + a2) (fun x3 => (zf_C_partAsTold_b29 o B x3 m0)))))
set_option maxHeartbeats 4000000 in
set_option maxRecDepth 100000 in
theorem zc_C_partAsTold {l : Launch} {G : nk_V} (o B : Nat) (hc : nk_isC o B) (a1 : Int32) (a2 : Int32) (m0 : nk_M) : nk_Ct l nk_wC G 1 zy_C_partAsTold zb_C_partAsTold 3 (some .int) nk_oi [nk_r G o, .int a1, .int a2] m0 (zf_C_partAsTold o B a1 a2 m0) := by
  refine nk_ent (own := "NeedOnce$Cells") (lv := [nk_r G o, .int a1, .int a2]) 0 rfl (by decide) (Nat.le_of_ble_eq_true rfl) rfl (fun X hl hR C hr => ?_)
  subst hl
  unfold zf_C_partAsTold
  refine nk_iload_n C zd_C_partAsTold_0 rfl rfl ?_
  refine nk_gets C (i := 2) rfl ⟨_, zn_C_51⟩ zd_C_partAsTold_1 ?_
  refine nk_aload_n C zd_C_partAsTold_4 rfl rfl ?_
  refine nk_getR C (r := (B + 2)) za_C_18 (nkc_ok hc) (nkc_os hc) rfl zd_C_partAsTold_5 ?_
  refine nk_iload_n C zd_C_partAsTold_8 rfl rfl ?_
  refine nk_iald C (nkc_bk2 hc) (nkc_bs2 hc) zd_C_partAsTold_9 (fun x1 => ?_)
  refine nk_ti C rfl zd_C_partAsTold_10 (fun x2 => ?_)
  refine nk_icmp_ge (tgt := 27) C zd_C_partAsTold_11 (by decide) ?_ ?_
  · refine nk_bipush (v := -9) C zd_C_partAsTold_27 (by decide) ?_
    refine nk_wk [true, false, false] ?_
    exact zs_C_partAsTold_b29 o B hc C hR hr (-9 : Int32) m0
  · refine nk_aload_n C zd_C_partAsTold_14 rfl rfl ?_
    refine nk_getR C (r := (B + 3)) za_C_21 (nkc_ok hc) (nkc_os hc) rfl zd_C_partAsTold_15 ?_
    refine nk_iload_n C zd_C_partAsTold_18 rfl rfl ?_
    refine nk_iconst (v := 3) C zd_C_partAsTold_19 (by decide) ?_
    refine nk_imul C zd_C_partAsTold_20 ?_
    refine nk_iload_n C zd_C_partAsTold_21 rfl rfl ?_
    refine nk_iadd C zd_C_partAsTold_22 ?_
    refine nk_iald C (nkc_bk3 hc) (nkc_bs3 hc) zd_C_partAsTold_23 (fun x3 => ?_)
    refine nk_goto (tgt := 29) C zd_C_partAsTold_24 (by decide) ?_
    refine nk_wk [true, false, false] ?_
    exact zs_C_partAsTold_b29 o B hc C hR hr x3 m0
theorem zd_C_partSet_0 : decode zb_C_partSet 0 = .ok (.aload_n 0, 1) := by decide +kernel
theorem zd_C_partSet_1 : decode zb_C_partSet 1 = .ok (.getfield 18, 3) := by decide +kernel
theorem zd_C_partSet_4 : decode zb_C_partSet 4 = .ok (.iload_n 1, 1) := by decide +kernel
theorem zd_C_partSet_5 : decode zb_C_partSet 5 = .ok (.iaload, 1) := by decide +kernel
theorem zd_C_partSet_6 : decode zb_C_partSet 6 = .ok (.ifCond .ne 5, 3) := by decide +kernel
theorem zd_C_partSet_9 : decode zb_C_partSet 9 = .ok (.iconst 0, 1) := by decide +kernel
theorem zd_C_partSet_10 : decode zb_C_partSet 10 = .ok (.ireturn, 1) := by decide +kernel
theorem zd_C_partSet_11 : decode zb_C_partSet 11 = .ok (.iconst 0, 1) := by decide +kernel
theorem zd_C_partSet_12 : decode zb_C_partSet 12 = .ok (.istore_n 2, 1) := by decide +kernel
theorem zd_C_partSet_13 : decode zb_C_partSet 13 = .ok (.iconst 0, 1) := by decide +kernel
theorem zd_C_partSet_14 : decode zb_C_partSet 14 = .ok (.istore_n 3, 1) := by decide +kernel
theorem zd_C_partSet_15 : decode zb_C_partSet 15 = .ok (.iload_n 3, 1) := by decide +kernel
theorem zd_C_partSet_16 : decode zb_C_partSet 16 = .ok (.getstatic 51, 3) := by decide +kernel
theorem zd_C_partSet_19 : decode zb_C_partSet 19 = .ok (.aload_n 0, 1) := by decide +kernel
theorem zd_C_partSet_20 : decode zb_C_partSet 20 = .ok (.getfield 18, 3) := by decide +kernel
theorem zd_C_partSet_23 : decode zb_C_partSet 23 = .ok (.iload_n 1, 1) := by decide +kernel
theorem zd_C_partSet_24 : decode zb_C_partSet 24 = .ok (.iaload, 1) := by decide +kernel
theorem zd_C_partSet_25 : decode zb_C_partSet 25 = .ok (.iaload, 1) := by decide +kernel
theorem zd_C_partSet_26 : decode zb_C_partSet 26 = .ok (.if_icmp .ge 20, 3) := by decide +kernel
theorem zd_C_partSet_29 : decode zb_C_partSet 29 = .ok (.iload_n 2, 1) := by decide +kernel
theorem zd_C_partSet_30 : decode zb_C_partSet 30 = .ok (.iconst 1, 1) := by decide +kernel
theorem zd_C_partSet_31 : decode zb_C_partSet 31 = .ok (.aload_n 0, 1) := by decide +kernel
theorem zd_C_partSet_32 : decode zb_C_partSet 32 = .ok (.iload_n 1, 1) := by decide +kernel
theorem zd_C_partSet_33 : decode zb_C_partSet 33 = .ok (.iload_n 3, 1) := by decide +kernel
theorem zd_C_partSet_34 : decode zb_C_partSet 34 = .ok (.invokevirtual 67, 3) := by decide +kernel
theorem zd_C_partSet_37 : decode zb_C_partSet 37 = .ok (.ishl, 1) := by decide +kernel
theorem zd_C_partSet_38 : decode zb_C_partSet 38 = .ok (.ior, 1) := by decide +kernel
theorem zd_C_partSet_39 : decode zb_C_partSet 39 = .ok (.istore_n 2, 1) := by decide +kernel
theorem zd_C_partSet_40 : decode zb_C_partSet 40 = .ok (.iinc 3 1, 3) := by decide +kernel
theorem zd_C_partSet_43 : decode zb_C_partSet 43 = .ok (.goto (-28), 3) := by decide +kernel
theorem zd_C_partSet_46 : decode zb_C_partSet 46 = .ok (.iload_n 2, 1) := by decide +kernel
theorem zd_C_partSet_47 : decode zb_C_partSet 47 = .ok (.ireturn, 1) := by decide +kernel
def zf_C_partSet_b15 (o B : Nat) : Nat → Int32 → Int32 → Int32 → nk_M → Option (Int32 × nk_M)
  | 0, _, _, _, _ => none
  | n0 + 1, y1, y2, y3, m0 => nk_ald m0 (B + 2) 8 y1 (fun x1 => nk_tld 7 nk_t2 x1 (fun x2 => (if x2 ≤ y3 then some (y2, m0) else nk_bd (zf_C_partAsTold o B y1 y3 m0) (fun r3 m1 => nk_nm (y2 ||| ((1 : Int32) <<< (r3 &&& 31))) (fun x4 => (zf_C_partSet_b15 o B n0 y1 x4 (y3 + 1) m1))))))
set_option maxHeartbeats 4000000 in
set_option maxRecDepth 100000 in
theorem zs_C_partSet_b15 {G : nk_V} {X : nk_X} (o B : Nat) (hc : nk_isC o B) (C : nk_C "NeedOnce$Cells" zb_C_partSet 4 nk_wC G X) (hR : X.2.2.2.1 = nk_rm 2) (hr : X.2.2.2.2.2.2.2.2.1.sig.returnType = (some .int))  : ∀ (n0 : Nat) (y1 : Int32) (y2 : Int32) (y3 : Int32) (m0 : nk_M), nk_Sim nk_wC G X 4 nk_oi 15 [nk_r G o, .int y1, .int y2, .int y3] [] m0 (zf_C_partSet_b15 o B n0 y1 y2 y3 m0) := by
  intro n0
  induction n0 with
  | zero => intros; exact nk_none
  | succ n0 ih =>
    intro y1 y2 y3 m0
    rw [zf_C_partSet_b15]
    refine nk_iload_n C zd_C_partSet_15 rfl rfl ?_
    refine nk_gets C (i := 2) rfl ⟨_, zn_C_51⟩ zd_C_partSet_16 ?_
    refine nk_aload_n C zd_C_partSet_19 rfl rfl ?_
    refine nk_getR C (r := (B + 2)) za_C_18 (nkc_ok hc) (nkc_os hc) rfl zd_C_partSet_20 ?_
    refine nk_iload_n C zd_C_partSet_23 rfl rfl ?_
    refine nk_iald C (nkc_bk2 hc) (nkc_bs2 hc) zd_C_partSet_24 (fun x1 => ?_)
    refine nk_ti C rfl zd_C_partSet_25 (fun x2 => ?_)
    refine nk_icmp_ge (tgt := 46) C zd_C_partSet_26 (by decide) ?_ ?_
    · refine nk_iload_n C zd_C_partSet_46 rfl rfl ?_
      exact nk_iret C hr zd_C_partSet_47
    · refine nk_iload_n C zd_C_partSet_29 rfl rfl ?_
      refine nk_iconst (v := 1) C zd_C_partSet_30 (by decide) ?_
      refine nk_aload_n C zd_C_partSet_31 rfl rfl ?_
      refine nk_iload_n C zd_C_partSet_32 rfl rfl ?_
      refine nk_iload_n C zd_C_partSet_33 rfl rfl ?_
      refine nk_callVi C [.int y1, .int y3] zv_C_67 hR (zc_C_partAsTold o B hc y1 y3 m0) (by omega) (nkc_ok hc) (nkc_os hc) rfl rfl rfl (Nat.le_of_ble_eq_true rfl) zd_C_partSet_34 (fun r3 m1 => ?_)
      refine nk_ishl C zd_C_partSet_37 ?_
      refine nk_ior C zd_C_partSet_38 ?_
      refine nk_named (fun x4 => ?_)
      refine nk_istore_n C zd_C_partSet_39 rfl (Nat.le_of_ble_eq_true rfl) rfl ?_
      refine nk_iinc (v0 := y3 + 1) C zd_C_partSet_40 rfl (nk_inc _ (by decide)) (Nat.le_of_ble_eq_true rfl) rfl ?_
      refine nk_goto (tgt := 15) C zd_C_partSet_43 (by decide) ?_
      exact ih y1 x4 (y3 + 1) m1
def zf_C_partSet (o B : Nat) (a1 : Int32) (m0 : nk_M) : Option (Int32 × nk_M) := nk_ald m0 (B + 2) 8 a1 (fun x1 => (if x1 = 0 then some ((0 : Int32), m0) else (zf_C_partSet_b15 o B nk_fu a1 (0 : Int32) (0 : Int32) m0)))
set_option maxHeartbeats 4000000 in
set_option maxRecDepth 100000 in
theorem zc_C_partSet {l : Launch} {G : nk_V} (o B : Nat) (hc : nk_isC o B) (a1 : Int32) (m0 : nk_M) : nk_Ct l nk_wC G 2 zy_C_partSet zb_C_partSet 4 (some .int) nk_oi [nk_r G o, .int a1] m0 (zf_C_partSet o B a1 m0) := by
  refine nk_ent (own := "NeedOnce$Cells") (lv := [nk_r G o, .int a1, .null, .null]) 2 rfl (by decide) (Nat.le_of_ble_eq_true rfl) rfl (fun X hl hR C hr => ?_)
  subst hl
  unfold zf_C_partSet
  refine nk_aload_n C zd_C_partSet_0 rfl rfl ?_
  refine nk_getR C (r := (B + 2)) za_C_18 (nkc_ok hc) (nkc_os hc) rfl zd_C_partSet_1 ?_
  refine nk_iload_n C zd_C_partSet_4 rfl rfl ?_
  refine nk_iald C (nkc_bk2 hc) (nkc_bs2 hc) zd_C_partSet_5 (fun x1 => ?_)
  refine nk_if_ne (tgt := 11) C zd_C_partSet_6 (by decide) ?_ ?_
  · refine nk_iconst (v := 0) C zd_C_partSet_11 (by decide) ?_
    refine nk_istore_n C zd_C_partSet_12 rfl (Nat.le_of_ble_eq_true rfl) rfl ?_
    refine nk_iconst (v := 0) C zd_C_partSet_13 (by decide) ?_
    refine nk_istore_n C zd_C_partSet_14 rfl (Nat.le_of_ble_eq_true rfl) rfl ?_
    exact zs_C_partSet_b15 o B hc C hR hr nk_fu a1 (0 : Int32) (0 : Int32) m0
  · refine nk_iconst (v := 0) C zd_C_partSet_9 (by decide) ?_
    exact nk_iret C hr zd_C_partSet_10
theorem zd_C_firstLoose_0 : decode zb_C_firstLoose 0 = .ok (.iconst 0, 1) := by decide +kernel
theorem zd_C_firstLoose_1 : decode zb_C_firstLoose 1 = .ok (.istore_n 1, 1) := by decide +kernel
theorem zd_C_firstLoose_2 : decode zb_C_firstLoose 2 = .ok (.iload_n 1, 1) := by decide +kernel
theorem zd_C_firstLoose_3 : decode zb_C_firstLoose 3 = .ok (.aload_n 0, 1) := by decide +kernel
theorem zd_C_firstLoose_4 : decode zb_C_firstLoose 4 = .ok (.getfield 47, 3) := by decide +kernel
theorem zd_C_firstLoose_7 : decode zb_C_firstLoose 7 = .ok (.if_icmp .ge 25, 3) := by decide +kernel
theorem zd_C_firstLoose_10 : decode zb_C_firstLoose 10 = .ok (.aload_n 0, 1) := by decide +kernel
theorem zd_C_firstLoose_11 : decode zb_C_firstLoose 11 = .ok (.iload_n 1, 1) := by decide +kernel
theorem zd_C_firstLoose_12 : decode zb_C_firstLoose 12 = .ok (.invokevirtual 63, 3) := by decide +kernel
theorem zd_C_firstLoose_15 : decode zb_C_firstLoose 15 = .ok (.iconst 1, 1) := by decide +kernel
theorem zd_C_firstLoose_16 : decode zb_C_firstLoose 16 = .ok (.aload_n 0, 1) := by decide +kernel
theorem zd_C_firstLoose_17 : decode zb_C_firstLoose 17 = .ok (.getfield 47, 3) := by decide +kernel
theorem zd_C_firstLoose_20 : decode zb_C_firstLoose 20 = .ok (.ishl, 1) := by decide +kernel
theorem zd_C_firstLoose_21 : decode zb_C_firstLoose 21 = .ok (.if_icmp .lt 5, 3) := by decide +kernel
theorem zd_C_firstLoose_24 : decode zb_C_firstLoose 24 = .ok (.iload_n 1, 1) := by decide +kernel
theorem zd_C_firstLoose_25 : decode zb_C_firstLoose 25 = .ok (.ireturn, 1) := by decide +kernel
theorem zd_C_firstLoose_26 : decode zb_C_firstLoose 26 = .ok (.iinc 1 1, 3) := by decide +kernel
theorem zd_C_firstLoose_29 : decode zb_C_firstLoose 29 = .ok (.goto (-27), 3) := by decide +kernel
theorem zd_C_firstLoose_32 : decode zb_C_firstLoose 32 = .ok (.bipush (-9), 2) := by decide +kernel
theorem zd_C_firstLoose_34 : decode zb_C_firstLoose 34 = .ok (.ireturn, 1) := by decide +kernel
def zf_C_firstLoose_b2 (o B : Nat) : Nat → Int32 → nk_M → Option (Int32 × nk_M)
  | 0, _, _ => none
  | n0 + 1, y1, m0 => (if (m0 o 0) ≤ y1 then some ((-9 : Int32), m0) else nk_bd (zf_C_partSet o B y1 m0) (fun r1 m1 => (if r1 < ((1 : Int32) <<< ((m1 o 0) &&& 31)) then (zf_C_firstLoose_b2 o B n0 (y1 + 1) m1) else some (y1, m1))))
set_option maxHeartbeats 4000000 in
set_option maxRecDepth 100000 in
theorem zs_C_firstLoose_b2 {G : nk_V} {X : nk_X} (o B : Nat) (hc : nk_isC o B) (C : nk_C "NeedOnce$Cells" zb_C_firstLoose 2 nk_wC G X) (hR : X.2.2.2.1 = nk_rm 3) (hr : X.2.2.2.2.2.2.2.2.1.sig.returnType = (some .int))  : ∀ (n0 : Nat) (y1 : Int32) (m0 : nk_M), nk_Sim nk_wC G X 2 nk_oi 2 [nk_r G o, .int y1] [] m0 (zf_C_firstLoose_b2 o B n0 y1 m0) := by
  intro n0
  induction n0 with
  | zero => intros; exact nk_none
  | succ n0 ih =>
    intro y1 m0
    rw [zf_C_firstLoose_b2]
    refine nk_iload_n C zd_C_firstLoose_2 rfl rfl ?_
    refine nk_aload_n C zd_C_firstLoose_3 rfl rfl ?_
    refine nk_getI C za_C_47 (nkc_ok hc) (nkc_os hc) rfl zd_C_firstLoose_4 ?_
    refine nk_icmp_ge (tgt := 32) C zd_C_firstLoose_7 (by decide) ?_ ?_
    · refine nk_bipush (v := -9) C zd_C_firstLoose_32 (by decide) ?_
      exact nk_iret C hr zd_C_firstLoose_34
    · refine nk_aload_n C zd_C_firstLoose_10 rfl rfl ?_
      refine nk_iload_n C zd_C_firstLoose_11 rfl rfl ?_
      refine nk_callVi C [.int y1] zv_C_63 hR (zc_C_partSet o B hc y1 m0) (by omega) (nkc_ok hc) (nkc_os hc) rfl rfl rfl (Nat.le_of_ble_eq_true rfl) zd_C_firstLoose_12 (fun r1 m1 => ?_)
      refine nk_iconst (v := 1) C zd_C_firstLoose_15 (by decide) ?_
      refine nk_aload_n C zd_C_firstLoose_16 rfl rfl ?_
      refine nk_getI C za_C_47 (nkc_ok hc) (nkc_os hc) rfl zd_C_firstLoose_17 ?_
      refine nk_ishl C zd_C_firstLoose_20 ?_
      refine nk_icmp_lt (tgt := 26) C zd_C_firstLoose_21 (by decide) ?_ ?_
      · refine nk_iinc (v0 := y1 + 1) C zd_C_firstLoose_26 rfl (nk_inc _ (by decide)) (Nat.le_of_ble_eq_true rfl) rfl ?_
        refine nk_goto (tgt := 2) C zd_C_firstLoose_29 (by decide) ?_
        exact ih (y1 + 1) m1
      · refine nk_iload_n C zd_C_firstLoose_24 rfl rfl ?_
        exact nk_iret C hr zd_C_firstLoose_25
def zf_C_firstLoose (o B : Nat)  (m0 : nk_M) : Option (Int32 × nk_M) := (zf_C_firstLoose_b2 o B nk_fu (0 : Int32) m0)
set_option maxHeartbeats 4000000 in
set_option maxRecDepth 100000 in
theorem zc_C_firstLoose {l : Launch} {G : nk_V} (o B : Nat) (hc : nk_isC o B)  (m0 : nk_M) : nk_Ct l nk_wC G 3 zy_C_firstLoose zb_C_firstLoose 2 (some .int) nk_oi [nk_r G o] m0 (zf_C_firstLoose o B  m0) := by
  refine nk_ent (own := "NeedOnce$Cells") (lv := [nk_r G o, .null]) 1 rfl (by decide) (Nat.le_of_ble_eq_true rfl) rfl (fun X hl hR C hr => ?_)
  subst hl
  unfold zf_C_firstLoose
  refine nk_iconst (v := 0) C zd_C_firstLoose_0 (by decide) ?_
  refine nk_istore_n C zd_C_firstLoose_1 rfl (Nat.le_of_ble_eq_true rfl) rfl ?_
  exact zs_C_firstLoose_b2 o B hc C hR hr nk_fu (0 : Int32) m0
theorem zd_C_becomeLike_0 : decode zb_C_becomeLike 0 = .ok (.aload_n 0, 1) := by decide +kernel
theorem zd_C_becomeLike_1 : decode zb_C_becomeLike 1 = .ok (.aload_n 1, 1) := by decide +kernel
theorem zd_C_becomeLike_2 : decode zb_C_becomeLike 2 = .ok (.getfield 47, 3) := by decide +kernel
theorem zd_C_becomeLike_5 : decode zb_C_becomeLike 5 = .ok (.putfield 47, 3) := by decide +kernel
theorem zd_C_becomeLike_8 : decode zb_C_becomeLike 8 = .ok (.aload_n 1, 1) := by decide +kernel
theorem zd_C_becomeLike_9 : decode zb_C_becomeLike 9 = .ok (.getfield 9, 3) := by decide +kernel
theorem zd_C_becomeLike_12 : decode zb_C_becomeLike 12 = .ok (.iconst 0, 1) := by decide +kernel
theorem zd_C_becomeLike_13 : decode zb_C_becomeLike 13 = .ok (.aload_n 0, 1) := by decide +kernel
theorem zd_C_becomeLike_14 : decode zb_C_becomeLike 14 = .ok (.getfield 9, 3) := by decide +kernel
theorem zd_C_becomeLike_17 : decode zb_C_becomeLike 17 = .ok (.iconst 0, 1) := by decide +kernel
theorem zd_C_becomeLike_18 : decode zb_C_becomeLike 18 = .ok (.bipush 8, 2) := by decide +kernel
theorem zd_C_becomeLike_20 : decode zb_C_becomeLike 20 = .ok (.invokestatic 54, 3) := by decide +kernel
theorem zd_C_becomeLike_23 : decode zb_C_becomeLike 23 = .ok (.aload_n 1, 1) := by decide +kernel
theorem zd_C_becomeLike_24 : decode zb_C_becomeLike 24 = .ok (.getfield 15, 3) := by decide +kernel
theorem zd_C_becomeLike_27 : decode zb_C_becomeLike 27 = .ok (.iconst 0, 1) := by decide +kernel
theorem zd_C_becomeLike_28 : decode zb_C_becomeLike 28 = .ok (.aload_n 0, 1) := by decide +kernel
theorem zd_C_becomeLike_29 : decode zb_C_becomeLike 29 = .ok (.getfield 15, 3) := by decide +kernel
theorem zd_C_becomeLike_32 : decode zb_C_becomeLike 32 = .ok (.iconst 0, 1) := by decide +kernel
theorem zd_C_becomeLike_33 : decode zb_C_becomeLike 33 = .ok (.bipush 8, 2) := by decide +kernel
theorem zd_C_becomeLike_35 : decode zb_C_becomeLike 35 = .ok (.invokestatic 54, 3) := by decide +kernel
theorem zd_C_becomeLike_38 : decode zb_C_becomeLike 38 = .ok (.aload_n 1, 1) := by decide +kernel
theorem zd_C_becomeLike_39 : decode zb_C_becomeLike 39 = .ok (.getfield 18, 3) := by decide +kernel
theorem zd_C_becomeLike_42 : decode zb_C_becomeLike 42 = .ok (.iconst 0, 1) := by decide +kernel
theorem zd_C_becomeLike_43 : decode zb_C_becomeLike 43 = .ok (.aload_n 0, 1) := by decide +kernel
theorem zd_C_becomeLike_44 : decode zb_C_becomeLike 44 = .ok (.getfield 18, 3) := by decide +kernel
theorem zd_C_becomeLike_47 : decode zb_C_becomeLike 47 = .ok (.iconst 0, 1) := by decide +kernel
theorem zd_C_becomeLike_48 : decode zb_C_becomeLike 48 = .ok (.bipush 8, 2) := by decide +kernel
theorem zd_C_becomeLike_50 : decode zb_C_becomeLike 50 = .ok (.invokestatic 54, 3) := by decide +kernel
theorem zd_C_becomeLike_53 : decode zb_C_becomeLike 53 = .ok (.aload_n 1, 1) := by decide +kernel
theorem zd_C_becomeLike_54 : decode zb_C_becomeLike 54 = .ok (.getfield 21, 3) := by decide +kernel
theorem zd_C_becomeLike_57 : decode zb_C_becomeLike 57 = .ok (.iconst 0, 1) := by decide +kernel
theorem zd_C_becomeLike_58 : decode zb_C_becomeLike 58 = .ok (.aload_n 0, 1) := by decide +kernel
theorem zd_C_becomeLike_59 : decode zb_C_becomeLike 59 = .ok (.getfield 21, 3) := by decide +kernel
theorem zd_C_becomeLike_62 : decode zb_C_becomeLike 62 = .ok (.iconst 0, 1) := by decide +kernel
theorem zd_C_becomeLike_63 : decode zb_C_becomeLike 63 = .ok (.bipush 24, 2) := by decide +kernel
theorem zd_C_becomeLike_65 : decode zb_C_becomeLike 65 = .ok (.invokestatic 54, 3) := by decide +kernel
theorem zd_C_becomeLike_68 : decode zb_C_becomeLike 68 = .ok (.aload_n 1, 1) := by decide +kernel
theorem zd_C_becomeLike_69 : decode zb_C_becomeLike 69 = .ok (.getfield 24, 3) := by decide +kernel
theorem zd_C_becomeLike_72 : decode zb_C_becomeLike 72 = .ok (.iconst 0, 1) := by decide +kernel
theorem zd_C_becomeLike_73 : decode zb_C_becomeLike 73 = .ok (.aload_n 0, 1) := by decide +kernel
theorem zd_C_becomeLike_74 : decode zb_C_becomeLike 74 = .ok (.getfield 24, 3) := by decide +kernel
theorem zd_C_becomeLike_77 : decode zb_C_becomeLike 77 = .ok (.iconst 0, 1) := by decide +kernel
theorem zd_C_becomeLike_78 : decode zb_C_becomeLike 78 = .ok (.bipush 8, 2) := by decide +kernel
theorem zd_C_becomeLike_80 : decode zb_C_becomeLike 80 = .ok (.invokestatic 54, 3) := by decide +kernel
theorem zd_C_becomeLike_83 : decode zb_C_becomeLike 83 = .ok (.aload_n 1, 1) := by decide +kernel
theorem zd_C_becomeLike_84 : decode zb_C_becomeLike 84 = .ok (.getfield 27, 3) := by decide +kernel
theorem zd_C_becomeLike_87 : decode zb_C_becomeLike 87 = .ok (.iconst 0, 1) := by decide +kernel
theorem zd_C_becomeLike_88 : decode zb_C_becomeLike 88 = .ok (.aload_n 0, 1) := by decide +kernel
theorem zd_C_becomeLike_89 : decode zb_C_becomeLike 89 = .ok (.getfield 27, 3) := by decide +kernel
theorem zd_C_becomeLike_92 : decode zb_C_becomeLike 92 = .ok (.iconst 0, 1) := by decide +kernel
theorem zd_C_becomeLike_93 : decode zb_C_becomeLike 93 = .ok (.bipush 8, 2) := by decide +kernel
theorem zd_C_becomeLike_95 : decode zb_C_becomeLike 95 = .ok (.invokestatic 54, 3) := by decide +kernel
theorem zd_C_becomeLike_98 : decode zb_C_becomeLike 98 = .ok (.aload_n 1, 1) := by decide +kernel
theorem zd_C_becomeLike_99 : decode zb_C_becomeLike 99 = .ok (.getfield 30, 3) := by decide +kernel
theorem zd_C_becomeLike_102 : decode zb_C_becomeLike 102 = .ok (.iconst 0, 1) := by decide +kernel
theorem zd_C_becomeLike_103 : decode zb_C_becomeLike 103 = .ok (.aload_n 0, 1) := by decide +kernel
theorem zd_C_becomeLike_104 : decode zb_C_becomeLike 104 = .ok (.getfield 30, 3) := by decide +kernel
theorem zd_C_becomeLike_107 : decode zb_C_becomeLike 107 = .ok (.iconst 0, 1) := by decide +kernel
theorem zd_C_becomeLike_108 : decode zb_C_becomeLike 108 = .ok (.bipush 8, 2) := by decide +kernel
theorem zd_C_becomeLike_110 : decode zb_C_becomeLike 110 = .ok (.invokestatic 54, 3) := by decide +kernel
theorem zd_C_becomeLike_113 : decode zb_C_becomeLike 113 = .ok (.aload_n 0, 1) := by decide +kernel
theorem zd_C_becomeLike_114 : decode zb_C_becomeLike 114 = .ok (.aload_n 1, 1) := by decide +kernel
theorem zd_C_becomeLike_115 : decode zb_C_becomeLike 115 = .ok (.getfield 60, 3) := by decide +kernel
theorem zd_C_becomeLike_118 : decode zb_C_becomeLike 118 = .ok (.putfield 60, 3) := by decide +kernel
theorem zd_C_becomeLike_121 : decode zb_C_becomeLike 121 = .ok (.return_, 1) := by decide +kernel
def zf_C_becomeLike (o B : Nat) (p P : Nat)  (m0 : nk_M) : Option (Unit × nk_M) := nk_pf m0 o 0 (m0 p 0) (fun m1 => nk_cpy m1 P 8 (0 : Int32) B 8 (0 : Int32) (8 : Int32) (fun m2 => nk_cpy m2 (P + 1) 8 (0 : Int32) (B + 1) 8 (0 : Int32) (8 : Int32) (fun m3 => nk_cpy m3 (P + 2) 8 (0 : Int32) (B + 2) 8 (0 : Int32) (8 : Int32) (fun m4 => nk_cpy m4 (P + 3) 24 (0 : Int32) (B + 3) 24 (0 : Int32) (24 : Int32) (fun m5 => nk_cpy m5 (P + 4) 8 (0 : Int32) (B + 4) 8 (0 : Int32) (8 : Int32) (fun m6 => nk_cpy m6 (P + 5) 8 (0 : Int32) (B + 5) 8 (0 : Int32) (8 : Int32) (fun m7 => nk_cpy m7 (P + 6) 8 (0 : Int32) (B + 6) 8 (0 : Int32) (8 : Int32) (fun m8 => nk_pf m8 o 10 (m8 p 10) (fun m9 => some ((), m9))))))))))
set_option maxHeartbeats 4000000 in
set_option maxRecDepth 100000 in
theorem zc_C_becomeLike {l : Launch} {G : nk_V} (o B : Nat) (p P : Nat) (hc : nk_isC o B) (hp : nk_isC p P)  (m0 : nk_M) : nk_Ct l nk_wC G 1 zy_C_becomeLike zb_C_becomeLike 2 none nk_ov [nk_r G o, nk_r G p] m0 (zf_C_becomeLike o B p P  m0) := by
  refine nk_ent (own := "NeedOnce$Cells") (lv := [nk_r G o, nk_r G p]) 0 rfl (by decide) (Nat.le_of_ble_eq_true rfl) rfl (fun X hl hR C hr => ?_)
  subst hl
  unfold zf_C_becomeLike
  refine nk_aload_n C zd_C_becomeLike_0 rfl rfl ?_
  refine nk_aload_n C zd_C_becomeLike_1 rfl rfl ?_
  refine nk_getI C za_C_47 (nkc_ok hp) (nkc_os hp) rfl zd_C_becomeLike_2 ?_
  refine nk_putI C zp_C_47 (nkc_ok hc) (nkc_os hc) rfl zd_C_becomeLike_5 (fun m1 => ?_)
  refine nk_aload_n C zd_C_becomeLike_8 rfl rfl ?_
  refine nk_getR C (r := P) za_C_9 (nkc_ok hp) (nkc_os hp) rfl zd_C_becomeLike_9 ?_
  refine nk_iconst (v := 0) C zd_C_becomeLike_12 (by decide) ?_
  refine nk_aload_n C zd_C_becomeLike_13 rfl rfl ?_
  refine nk_getR C (r := B) za_C_9 (nkc_ok hc) (nkc_os hc) rfl zd_C_becomeLike_14 ?_
  refine nk_iconst (v := 0) C zd_C_becomeLike_17 (by decide) ?_
  refine nk_bipush (v := 8) C zd_C_becomeLike_18 (by decide) ?_
  refine nk_acopy C hR zw_254 zw_256 zw_255 zw_8 (nkc_bk0 hp) (nkc_bs0 hp) (nkc_bk0 hc) (nkc_bs0 hc) (Nat.le_of_ble_eq_true rfl) zd_C_becomeLike_20 (fun m2 => ?_)
  refine nk_aload_n C zd_C_becomeLike_23 rfl rfl ?_
  refine nk_getR C (r := (P + 1)) za_C_15 (nkc_ok hp) (nkc_os hp) rfl zd_C_becomeLike_24 ?_
  refine nk_iconst (v := 0) C zd_C_becomeLike_27 (by decide) ?_
  refine nk_aload_n C zd_C_becomeLike_28 rfl rfl ?_
  refine nk_getR C (r := (B + 1)) za_C_15 (nkc_ok hc) (nkc_os hc) rfl zd_C_becomeLike_29 ?_
  refine nk_iconst (v := 0) C zd_C_becomeLike_32 (by decide) ?_
  refine nk_bipush (v := 8) C zd_C_becomeLike_33 (by decide) ?_
  refine nk_acopy C hR zw_254 zw_256 zw_255 zw_8 (nkc_bk1 hp) (nkc_bs1 hp) (nkc_bk1 hc) (nkc_bs1 hc) (Nat.le_of_ble_eq_true rfl) zd_C_becomeLike_35 (fun m3 => ?_)
  refine nk_aload_n C zd_C_becomeLike_38 rfl rfl ?_
  refine nk_getR C (r := (P + 2)) za_C_18 (nkc_ok hp) (nkc_os hp) rfl zd_C_becomeLike_39 ?_
  refine nk_iconst (v := 0) C zd_C_becomeLike_42 (by decide) ?_
  refine nk_aload_n C zd_C_becomeLike_43 rfl rfl ?_
  refine nk_getR C (r := (B + 2)) za_C_18 (nkc_ok hc) (nkc_os hc) rfl zd_C_becomeLike_44 ?_
  refine nk_iconst (v := 0) C zd_C_becomeLike_47 (by decide) ?_
  refine nk_bipush (v := 8) C zd_C_becomeLike_48 (by decide) ?_
  refine nk_acopy C hR zw_254 zw_256 zw_255 zw_8 (nkc_bk2 hp) (nkc_bs2 hp) (nkc_bk2 hc) (nkc_bs2 hc) (Nat.le_of_ble_eq_true rfl) zd_C_becomeLike_50 (fun m4 => ?_)
  refine nk_aload_n C zd_C_becomeLike_53 rfl rfl ?_
  refine nk_getR C (r := (P + 3)) za_C_21 (nkc_ok hp) (nkc_os hp) rfl zd_C_becomeLike_54 ?_
  refine nk_iconst (v := 0) C zd_C_becomeLike_57 (by decide) ?_
  refine nk_aload_n C zd_C_becomeLike_58 rfl rfl ?_
  refine nk_getR C (r := (B + 3)) za_C_21 (nkc_ok hc) (nkc_os hc) rfl zd_C_becomeLike_59 ?_
  refine nk_iconst (v := 0) C zd_C_becomeLike_62 (by decide) ?_
  refine nk_bipush (v := 24) C zd_C_becomeLike_63 (by decide) ?_
  refine nk_acopy C hR zw_254 zw_256 zw_255 zw_8 (nkc_bk3 hp) (nkc_bs3 hp) (nkc_bk3 hc) (nkc_bs3 hc) (Nat.le_of_ble_eq_true rfl) zd_C_becomeLike_65 (fun m5 => ?_)
  refine nk_aload_n C zd_C_becomeLike_68 rfl rfl ?_
  refine nk_getR C (r := (P + 4)) za_C_24 (nkc_ok hp) (nkc_os hp) rfl zd_C_becomeLike_69 ?_
  refine nk_iconst (v := 0) C zd_C_becomeLike_72 (by decide) ?_
  refine nk_aload_n C zd_C_becomeLike_73 rfl rfl ?_
  refine nk_getR C (r := (B + 4)) za_C_24 (nkc_ok hc) (nkc_os hc) rfl zd_C_becomeLike_74 ?_
  refine nk_iconst (v := 0) C zd_C_becomeLike_77 (by decide) ?_
  refine nk_bipush (v := 8) C zd_C_becomeLike_78 (by decide) ?_
  refine nk_acopy C hR zw_254 zw_256 zw_255 zw_8 (nkc_bk4 hp) (nkc_bs4 hp) (nkc_bk4 hc) (nkc_bs4 hc) (Nat.le_of_ble_eq_true rfl) zd_C_becomeLike_80 (fun m6 => ?_)
  refine nk_aload_n C zd_C_becomeLike_83 rfl rfl ?_
  refine nk_getR C (r := (P + 5)) za_C_27 (nkc_ok hp) (nkc_os hp) rfl zd_C_becomeLike_84 ?_
  refine nk_iconst (v := 0) C zd_C_becomeLike_87 (by decide) ?_
  refine nk_aload_n C zd_C_becomeLike_88 rfl rfl ?_
  refine nk_getR C (r := (B + 5)) za_C_27 (nkc_ok hc) (nkc_os hc) rfl zd_C_becomeLike_89 ?_
  refine nk_iconst (v := 0) C zd_C_becomeLike_92 (by decide) ?_
  refine nk_bipush (v := 8) C zd_C_becomeLike_93 (by decide) ?_
  refine nk_acopy C hR zw_254 zw_256 zw_255 zw_8 (nkc_bk5 hp) (nkc_bs5 hp) (nkc_bk5 hc) (nkc_bs5 hc) (Nat.le_of_ble_eq_true rfl) zd_C_becomeLike_95 (fun m7 => ?_)
  refine nk_aload_n C zd_C_becomeLike_98 rfl rfl ?_
  refine nk_getR C (r := (P + 6)) za_C_30 (nkc_ok hp) (nkc_os hp) rfl zd_C_becomeLike_99 ?_
  refine nk_iconst (v := 0) C zd_C_becomeLike_102 (by decide) ?_
  refine nk_aload_n C zd_C_becomeLike_103 rfl rfl ?_
  refine nk_getR C (r := (B + 6)) za_C_30 (nkc_ok hc) (nkc_os hc) rfl zd_C_becomeLike_104 ?_
  refine nk_iconst (v := 0) C zd_C_becomeLike_107 (by decide) ?_
  refine nk_bipush (v := 8) C zd_C_becomeLike_108 (by decide) ?_
  refine nk_acopy C hR zw_254 zw_256 zw_255 zw_8 (nkc_bk6 hp) (nkc_bs6 hp) (nkc_bk6 hc) (nkc_bs6 hc) (Nat.le_of_ble_eq_true rfl) zd_C_becomeLike_110 (fun m8 => ?_)
  refine nk_aload_n C zd_C_becomeLike_113 rfl rfl ?_
  refine nk_aload_n C zd_C_becomeLike_114 rfl rfl ?_
  refine nk_getI C za_C_60 (nkc_ok hp) (nkc_os hp) rfl zd_C_becomeLike_115 ?_
  refine nk_putI C zp_C_60 (nkc_ok hc) (nkc_os hc) rfl zd_C_becomeLike_118 (fun m9 => ?_)
  exact nk_vret C hr zd_C_becomeLike_121

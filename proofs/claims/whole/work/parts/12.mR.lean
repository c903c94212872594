/-! ===== 12: decode rows, meanings (zf_) and contracts (zc_) of methods (written by program) ===== -/
theorem zd_M_in_0 : decode zb_M_in 0 = .ok (.lload_n 0, 1) := by decide +kernel
theorem zd_M_in_1 : decode zb_M_in 1 = .ok (.lload_n 2, 1) := by decide +kernel
theorem zd_M_in_2 : decode zb_M_in 2 = .ok (.lcmp, 1) := by decide +kernel
theorem zd_M_in_3 : decode zb_M_in 3 = .ok (.ifCond .lt 14, 3) := by decide +kernel
theorem zd_M_in_6 : decode zb_M_in 6 = .ok (.lload_n 0, 1) := by decide +kernel
theorem zd_M_in_7 : decode zb_M_in 7 = .ok (.lload 4, 2) := by decide +kernel
theorem zd_M_in_9 : decode zb_M_in 9 = .ok (.lcmp, 1) := by decide +kernel
theorem zd_M_in_10 : decode zb_M_in 10 = .ok (.ifCond .gt 7, 3) := by decide +kernel
theorem zd_M_in_13 : decode zb_M_in 13 = .ok (.iconst 1, 1) := by decide +kernel
theorem zd_M_in_14 : decode zb_M_in 14 = .ok (.goto 4, 3) := by decide +kernel
theorem zd_M_in_17 : decode zb_M_in 17 = .ok (.iconst 0, 1) := by decide +kernel
theorem zd_M_in_18 : decode zb_M_in 18 = .ok (.ireturn, 1) := by decide +kernel
def zf_M_in_b18  (u0 : Int32) (m0 : nk_M) : Option (Int32 × nk_M) := nk_zr u0 m0
set_option maxHeartbeats 4000000 in
set_option maxRecDepth 100000 in
theorem zs_M_in_b18 {G : nk_V} {X : nk_X}   (C : nk_C "NeedOnceModel" zb_M_in 6 nk_wR G X) (hR : X.2.2.2.1 = nk_rm 1) (hr : X.2.2.2.2.2.2.2.2.1.sig.returnType = (some .boolean))  : ∀ (u0 : Int32) (m0 : nk_M), nk_Sim nk_wR G X 6 nk_oi 18 [.null, .null, .null, .null, .null, .null] [.int u0] m0 (zf_M_in_b18 u0 m0) := by
  intro u0 m0
  unfold zf_M_in_b18
  exact nk_zret C hr zd_M_in_18
def zf_M_in_b17   (m0 : nk_M) : Option (Int32 × nk_M) := (zf_M_in_b18 (0 : Int32) m0)
set_option maxHeartbeats 4000000 in
set_option maxRecDepth 100000 in
theorem zs_M_in_b17 {G : nk_V} {X : nk_X}   (C : nk_C "NeedOnceModel" zb_M_in 6 nk_wR G X) (hR : X.2.2.2.1 = nk_rm 1) (hr : X.2.2.2.2.2.2.2.2.1.sig.returnType = (some .boolean))  : ∀  (m0 : nk_M), nk_Sim nk_wR G X 6 nk_oi 17 [.null, .null, .null, .null, .null, .null] [] m0 (zf_M_in_b17  m0) := by
  intro m0
  unfold zf_M_in_b17
  refine nk_iconst (v := 0) C zd_M_in_17 (by decide) ?_
  exact zs_M_in_b18 C hR hr (0 : Int32) m0
def zf_M_in  (a1 : Int64) (a2 : Int64) (a3 : Int64) (m0 : nk_M) : Option (Int32 × nk_M) := (if (lg_cmp a1 a2) < 0 then (zf_M_in_b17 m0) else (if 0 < (lg_cmp a1 a3) then (zf_M_in_b17 m0) else (zf_M_in_b18 (1 : Int32) m0)))
set_option maxHeartbeats 4000000 in
set_option maxRecDepth 100000 in
theorem zc_M_in {l : Launch} {G : nk_V}   (a1 : Int64) (a2 : Int64) (a3 : Int64) (m0 : nk_M) : nk_Ct l nk_wR G 1 zy_M_in zb_M_in 6 (some .boolean) nk_oi [.long a1, .long a2, .long a3] m0 (zf_M_in  a1 a2 a3 m0) := by
  refine nk_ent (own := "NeedOnceModel") (lv := [.long a1, .null, .long a2, .null, .long a3, .null]) 0 rfl (by decide) (Nat.le_of_ble_eq_true rfl) rfl (fun X hl hR C hr => ?_)
  subst hl
  unfold zf_M_in
  refine nk_lload_n C zd_M_in_0 rfl rfl ?_
  refine nk_lload_n C zd_M_in_1 rfl rfl ?_
  refine nk_lcmp C zd_M_in_2 ?_
  refine nk_if_lt (tgt := 17) C zd_M_in_3 (by decide) ?_ ?_
  · refine nk_wk [false, false, false, false, false, false] ?_
    exact zs_M_in_b17 C hR hr m0
  · refine nk_lload_n C zd_M_in_6 rfl rfl ?_
    refine nk_lload C zd_M_in_7 rfl ?_
    refine nk_lcmp C zd_M_in_9 ?_
    refine nk_if_gt (tgt := 17) C zd_M_in_10 (by decide) ?_ ?_
    · refine nk_wk [false, false, false, false, false, false] ?_
      exact zs_M_in_b17 C hR hr m0
    · refine nk_iconst (v := 1) C zd_M_in_13 (by decide) ?_
      refine nk_goto (tgt := 18) C zd_M_in_14 (by decide) ?_
      refine nk_wk [false, false, false, false, false, false] ?_
      exact zs_M_in_b18 C hR hr (1 : Int32) m0
theorem zd_M_noSheet_0 : decode zb_M_noSheet 0 = .ok (.iload_n 0, 1) := by decide +kernel
theorem zd_M_noSheet_1 : decode zb_M_noSheet 1 = .ok (.i2l, 1) := by decide +kernel
theorem zd_M_noSheet_2 : decode zb_M_noSheet 2 = .ok (.lconst 0, 1) := by decide +kernel
theorem zd_M_noSheet_3 : decode zb_M_noSheet 3 = .ok (.ldc2_w 321, 3) := by decide +kernel
theorem zd_M_noSheet_6 : decode zb_M_noSheet 6 = .ok (.invokestatic 107, 3) := by decide +kernel
theorem zd_M_noSheet_9 : decode zb_M_noSheet 9 = .ok (.ifCond .ne 7, 3) := by decide +kernel
theorem zd_M_noSheet_12 : decode zb_M_noSheet 12 = .ok (.iconst 1, 1) := by decide +kernel
theorem zd_M_noSheet_13 : decode zb_M_noSheet 13 = .ok (.goto 4, 3) := by decide +kernel
theorem zd_M_noSheet_16 : decode zb_M_noSheet 16 = .ok (.iconst 0, 1) := by decide +kernel
theorem zd_M_noSheet_17 : decode zb_M_noSheet 17 = .ok (.ireturn, 1) := by decide +kernel
def zf_M_noSheet_b17  (u0 : Int32) (m0 : nk_M) : Option (Int32 × nk_M) := nk_zr u0 m0
set_option maxHeartbeats 4000000 in
set_option maxRecDepth 100000 in
theorem zs_M_noSheet_b17 {G : nk_V} {X : nk_X}   (C : nk_C "NeedOnceModel" zb_M_noSheet 1 nk_wR G X) (hR : X.2.2.2.1 = nk_rm 2) (hr : X.2.2.2.2.2.2.2.2.1.sig.returnType = (some .boolean))  : ∀ (u0 : Int32) (m0 : nk_M), nk_Sim nk_wR G X 1 nk_oi 17 [.null] [.int u0] m0 (zf_M_noSheet_b17 u0 m0) := by
  intro u0 m0
  unfold zf_M_noSheet_b17
  exact nk_zret C hr zd_M_noSheet_17
def zf_M_noSheet  (a1 : Int32) (m0 : nk_M) : Option (Int32 × nk_M) := nk_bd (zf_M_in (a1.toInt64) (0 : Int64) (3 : Int64) m0) (fun r1 m1 => (if r1 = 0 then (zf_M_noSheet_b17 (1 : Int32) m1) else (zf_M_noSheet_b17 (0 : Int32) m1)))
set_option maxHeartbeats 4000000 in
set_option maxRecDepth 100000 in
theorem zc_M_noSheet {l : Launch} {G : nk_V}   (a1 : Int32) (m0 : nk_M) : nk_Ct l nk_wR G 2 zy_M_noSheet zb_M_noSheet 1 (some .boolean) nk_oi [.int a1] m0 (zf_M_noSheet  a1 m0) := by
  refine nk_ent (own := "NeedOnceModel") (lv := [.int a1]) 0 rfl (by decide) (Nat.le_of_ble_eq_true rfl) rfl (fun X hl hR C hr => ?_)
  subst hl
  unfold zf_M_noSheet
  refine nk_iload_n C zd_M_noSheet_0 rfl rfl ?_
  refine nk_i2l C zd_M_noSheet_1 ?_
  refine nk_lconst (v := 0) C zd_M_noSheet_2 (by decide) ?_
  refine nk_ldc2 (v := 3) C zw_702 zd_M_noSheet_3 ?_
  refine nk_callSi C [.long (a1.toInt64), .long (0 : Int64), .long (3 : Int64)] zv_M_107 hR (zc_M_in (a1.toInt64) (0 : Int64) (3 : Int64) m0) (by omega) rfl rfl (Nat.le_of_ble_eq_true rfl) zd_M_noSheet_6 (fun r1 m1 => ?_)
  refine nk_if_ne (tgt := 16) C zd_M_noSheet_9 (by decide) ?_ ?_
  · refine nk_iconst (v := 0) C zd_M_noSheet_16 (by decide) ?_
    refine nk_wk [false] ?_
    exact zs_M_noSheet_b17 C hR hr (0 : Int32) m1
  · refine nk_iconst (v := 1) C zd_M_noSheet_12 (by decide) ?_
    refine nk_goto (tgt := 17) C zd_M_noSheet_13 (by decide) ?_
    refine nk_wk [false] ?_
    exact zs_M_noSheet_b17 C hR hr (1 : Int32) m1
theorem zd_M_refused_0 : decode zb_M_refused 0 = .ok (.aload_n 0, 1) := by decide +kernel
theorem zd_M_refused_1 : decode zb_M_refused 1 = .ok (.iconst 0, 1) := by decide +kernel
theorem zd_M_refused_2 : decode zb_M_refused 2 = .ok (.putfield 96, 3) := by decide +kernel
theorem zd_M_refused_5 : decode zb_M_refused 5 = .ok (.iload_n 1, 1) := by decide +kernel
theorem zd_M_refused_6 : decode zb_M_refused 6 = .ok (.ireturn, 1) := by decide +kernel
def zf_M_refused  (a1 : Int32) (m0 : nk_M) : Option (Int32 × nk_M) := nk_pf m0 0 0 (0 : Int32) (fun m1 => some (a1, m1))
set_option maxHeartbeats 4000000 in
set_option maxRecDepth 100000 in
theorem zc_M_refused {l : Launch} {G : nk_V}   (a1 : Int32) (m0 : nk_M) : nk_Ct l nk_wR G 1 zy_M_refused zb_M_refused 2 (some .int) nk_oi [nk_r G 0, .int a1] m0 (zf_M_refused  a1 m0) := by
  refine nk_ent (own := "NeedOnceModel") (lv := [nk_r G 0, .int a1]) 0 rfl (by decide) (Nat.le_of_ble_eq_true rfl) rfl (fun X hl hR C hr => ?_)
  subst hl
  unfold zf_M_refused
  refine nk_aload_n C zd_M_refused_0 rfl rfl ?_
  refine nk_iconst (v := 0) C zd_M_refused_1 (by decide) ?_
  refine nk_putI C zp_M_96 (Nat.le_of_ble_eq_true rfl) rfl rfl zd_M_refused_2 (fun m1 => ?_)
  refine nk_iload_n C zd_M_refused_5 rfl rfl ?_
  exact nk_iret C hr zd_M_refused_6
theorem zd_M_failed_0 : decode zb_M_failed 0 = .ok (.aload_n 0, 1) := by decide +kernel
theorem zd_M_failed_1 : decode zb_M_failed 1 = .ok (.iload_n 1, 1) := by decide +kernel
theorem zd_M_failed_2 : decode zb_M_failed 2 = .ok (.putfield 96, 3) := by decide +kernel
theorem zd_M_failed_5 : decode zb_M_failed 5 = .ok (.bipush (-10), 2) := by decide +kernel
theorem zd_M_failed_7 : decode zb_M_failed 7 = .ok (.iload_n 1, 1) := by decide +kernel
theorem zd_M_failed_8 : decode zb_M_failed 8 = .ok (.isub, 1) := by decide +kernel
theorem zd_M_failed_9 : decode zb_M_failed 9 = .ok (.ireturn, 1) := by decide +kernel
def zf_M_failed  (a1 : Int32) (m0 : nk_M) : Option (Int32 × nk_M) := nk_pf m0 0 0 a1 (fun m1 => some ((-10 : Int32) - a1, m1))
set_option maxHeartbeats 4000000 in
set_option maxRecDepth 100000 in
theorem zc_M_failed {l : Launch} {G : nk_V}   (a1 : Int32) (m0 : nk_M) : nk_Ct l nk_wR G 1 zy_M_failed zb_M_failed 2 (some .int) nk_oi [nk_r G 0, .int a1] m0 (zf_M_failed  a1 m0) := by
  refine nk_ent (own := "NeedOnceModel") (lv := [nk_r G 0, .int a1]) 0 rfl (by decide) (Nat.le_of_ble_eq_true rfl) rfl (fun X hl hR C hr => ?_)
  subst hl
  unfold zf_M_failed
  refine nk_aload_n C zd_M_failed_0 rfl rfl ?_
  refine nk_iload_n C zd_M_failed_1 rfl rfl ?_
  refine nk_putI C zp_M_96 (Nat.le_of_ble_eq_true rfl) rfl rfl zd_M_failed_2 (fun m1 => ?_)
  refine nk_bipush (v := -10) C zd_M_failed_5 (by decide) ?_
  refine nk_iload_n C zd_M_failed_7 rfl rfl ?_
  refine nk_isub C zd_M_failed_8 ?_
  exact nk_iret C hr zd_M_failed_9
theorem zd_M_isBeyond_0 : decode zb_M_isBeyond 0 = .ok (.iload_n 0, 1) := by decide +kernel
theorem zd_M_isBeyond_1 : decode zb_M_isBeyond 1 = .ok (.ifCond .lt 19, 3) := by decide +kernel
theorem zd_M_isBeyond_4 : decode zb_M_isBeyond 4 = .ok (.lload_n 1, 1) := by decide +kernel
theorem zd_M_isBeyond_5 : decode zb_M_isBeyond 5 = .ok (.lconst 0, 1) := by decide +kernel
theorem zd_M_isBeyond_6 : decode zb_M_isBeyond 6 = .ok (.lcmp, 1) := by decide +kernel
theorem zd_M_isBeyond_7 : decode zb_M_isBeyond 7 = .ok (.ifCond .lt 13, 3) := by decide +kernel
theorem zd_M_isBeyond_10 : decode zb_M_isBeyond 10 = .ok (.iload_n 0, 1) := by decide +kernel
theorem zd_M_isBeyond_11 : decode zb_M_isBeyond 11 = .ok (.i2l, 1) := by decide +kernel
theorem zd_M_isBeyond_12 : decode zb_M_isBeyond 12 = .ok (.lload_n 1, 1) := by decide +kernel
theorem zd_M_isBeyond_13 : decode zb_M_isBeyond 13 = .ok (.ladd, 1) := by decide +kernel
theorem zd_M_isBeyond_14 : decode zb_M_isBeyond 14 = .ok (.iload_n 3, 1) := by decide +kernel
theorem zd_M_isBeyond_15 : decode zb_M_isBeyond 15 = .ok (.i2l, 1) := by decide +kernel
theorem zd_M_isBeyond_16 : decode zb_M_isBeyond 16 = .ok (.lcmp, 1) := by decide +kernel
theorem zd_M_isBeyond_17 : decode zb_M_isBeyond 17 = .ok (.ifCond .le 7, 3) := by decide +kernel
theorem zd_M_isBeyond_20 : decode zb_M_isBeyond 20 = .ok (.iconst 1, 1) := by decide +kernel
theorem zd_M_isBeyond_21 : decode zb_M_isBeyond 21 = .ok (.goto 4, 3) := by decide +kernel
theorem zd_M_isBeyond_24 : decode zb_M_isBeyond 24 = .ok (.iconst 0, 1) := by decide +kernel
theorem zd_M_isBeyond_25 : decode zb_M_isBeyond 25 = .ok (.ireturn, 1) := by decide +kernel
def zf_M_isBeyond_b25  (u0 : Int32) (m0 : nk_M) : Option (Int32 × nk_M) := nk_zr u0 m0
set_option maxHeartbeats 4000000 in
set_option maxRecDepth 100000 in
theorem zs_M_isBeyond_b25 {G : nk_V} {X : nk_X}   (C : nk_C "NeedOnceModel" zb_M_isBeyond 4 nk_wR G X) (hR : X.2.2.2.1 = nk_rm 1) (hr : X.2.2.2.2.2.2.2.2.1.sig.returnType = (some .boolean))  : ∀ (u0 : Int32) (m0 : nk_M), nk_Sim nk_wR G X 4 nk_oi 25 [.null, .null, .null, .null] [.int u0] m0 (zf_M_isBeyond_b25 u0 m0) := by
  intro u0 m0
  unfold zf_M_isBeyond_b25
  exact nk_zret C hr zd_M_isBeyond_25
def zf_M_isBeyond_b20   (m0 : nk_M) : Option (Int32 × nk_M) := (zf_M_isBeyond_b25 (1 : Int32) m0)
set_option maxHeartbeats 4000000 in
set_option maxRecDepth 100000 in
theorem zs_M_isBeyond_b20 {G : nk_V} {X : nk_X}   (C : nk_C "NeedOnceModel" zb_M_isBeyond 4 nk_wR G X) (hR : X.2.2.2.1 = nk_rm 1) (hr : X.2.2.2.2.2.2.2.2.1.sig.returnType = (some .boolean))  : ∀  (m0 : nk_M), nk_Sim nk_wR G X 4 nk_oi 20 [.null, .null, .null, .null] [] m0 (zf_M_isBeyond_b20  m0) := by
  intro m0
  unfold zf_M_isBeyond_b20
  refine nk_iconst (v := 1) C zd_M_isBeyond_20 (by decide) ?_
  refine nk_goto (tgt := 25) C zd_M_isBeyond_21 (by decide) ?_
  exact zs_M_isBeyond_b25 C hR hr (1 : Int32) m0
def zf_M_isBeyond  (a1 : Int32) (a2 : Int64) (a3 : Int32) (m0 : nk_M) : Option (Int32 × nk_M) := (if a1 < 0 then (zf_M_isBeyond_b20 m0) else (if (lg_cmp a2 (0 : Int64)) < 0 then (zf_M_isBeyond_b20 m0) else (if (lg_cmp ((a1.toInt64) + a2) (a3.toInt64)) ≤ 0 then (zf_M_isBeyond_b25 (0 : Int32) m0) else (zf_M_isBeyond_b20 m0))))
set_option maxHeartbeats 4000000 in
set_option maxRecDepth 100000 in
theorem zc_M_isBeyond {l : Launch} {G : nk_V}   (a1 : Int32) (a2 : Int64) (a3 : Int32) (m0 : nk_M) : nk_Ct l nk_wR G 1 zy_M_isBeyond zb_M_isBeyond 4 (some .boolean) nk_oi [.int a1, .long a2, .int a3] m0 (zf_M_isBeyond  a1 a2 a3 m0) := by
  refine nk_ent (own := "NeedOnceModel") (lv := [.int a1, .long a2, .null, .int a3]) 0 rfl (by decide) (Nat.le_of_ble_eq_true rfl) rfl (fun X hl hR C hr => ?_)
  subst hl
  unfold zf_M_isBeyond
  refine nk_iload_n C zd_M_isBeyond_0 rfl rfl ?_
  refine nk_if_lt (tgt := 20) C zd_M_isBeyond_1 (by decide) ?_ ?_
  · refine nk_wk [false, false, false, false] ?_
    exact zs_M_isBeyond_b20 C hR hr m0
  · refine nk_lload_n C zd_M_isBeyond_4 rfl rfl ?_
    refine nk_lconst (v := 0) C zd_M_isBeyond_5 (by decide) ?_
    refine nk_lcmp C zd_M_isBeyond_6 ?_
    refine nk_if_lt (tgt := 20) C zd_M_isBeyond_7 (by decide) ?_ ?_
    · refine nk_wk [false, false, false, false] ?_
      exact zs_M_isBeyond_b20 C hR hr m0
    · refine nk_iload_n C zd_M_isBeyond_10 rfl rfl ?_
      refine nk_i2l C zd_M_isBeyond_11 ?_
      refine nk_lload_n C zd_M_isBeyond_12 rfl rfl ?_
      refine nk_ladd C zd_M_isBeyond_13 ?_
      refine nk_iload_n C zd_M_isBeyond_14 rfl rfl ?_
      refine nk_i2l C zd_M_isBeyond_15 ?_
      refine nk_lcmp C zd_M_isBeyond_16 ?_
      refine nk_if_le (tgt := 24) C zd_M_isBeyond_17 (by decide) ?_ ?_
      · refine nk_iconst (v := 0) C zd_M_isBeyond_24 (by decide) ?_
        refine nk_wk [false, false, false, false] ?_
        exact zs_M_isBeyond_b25 C hR hr (0 : Int32) m0
      · refine nk_wk [false, false, false, false] ?_
        exact zs_M_isBeyond_b20 C hR hr m0
theorem zd_M_cellsBarred_0 : decode zb_M_cellsBarred 0 = .ok (.aload_n 0, 1) := by decide +kernel
theorem zd_M_cellsBarred_1 : decode zb_M_cellsBarred 1 = .ok (.getfield 82, 3) := by decide +kernel
theorem zd_M_cellsBarred_4 : decode zb_M_cellsBarred 4 = .ok (.iload_n 1, 1) := by decide +kernel
theorem zd_M_cellsBarred_5 : decode zb_M_cellsBarred 5 = .ok (.iaload, 1) := by decide +kernel
theorem zd_M_cellsBarred_6 : decode zb_M_cellsBarred 6 = .ok (.ifCond .lt 19, 3) := by decide +kernel
theorem zd_M_cellsBarred_9 : decode zb_M_cellsBarred 9 = .ok (.aload_n 0, 1) := by decide +kernel
theorem zd_M_cellsBarred_10 : decode zb_M_cellsBarred 10 = .ok (.getfield 85, 3) := by decide +kernel
theorem zd_M_cellsBarred_13 : decode zb_M_cellsBarred 13 = .ok (.iload_n 1, 1) := by decide +kernel
theorem zd_M_cellsBarred_14 : decode zb_M_cellsBarred 14 = .ok (.iaload, 1) := by decide +kernel
theorem zd_M_cellsBarred_15 : decode zb_M_cellsBarred 15 = .ok (.iload_n 2, 1) := by decide +kernel
theorem zd_M_cellsBarred_16 : decode zb_M_cellsBarred 16 = .ok (.if_icmp .eq 9, 3) := by decide +kernel
theorem zd_M_cellsBarred_19 : decode zb_M_cellsBarred 19 = .ok (.aload_n 0, 1) := by decide +kernel
theorem zd_M_cellsBarred_20 : decode zb_M_cellsBarred 20 = .ok (.iconst 2, 1) := by decide +kernel
theorem zd_M_cellsBarred_21 : decode zb_M_cellsBarred 21 = .ok (.invokevirtual 139, 3) := by decide +kernel
theorem zd_M_cellsBarred_24 : decode zb_M_cellsBarred 24 = .ok (.ireturn, 1) := by decide +kernel
theorem zd_M_cellsBarred_25 : decode zb_M_cellsBarred 25 = .ok (.aload_n 0, 1) := by decide +kernel
theorem zd_M_cellsBarred_26 : decode zb_M_cellsBarred 26 = .ok (.getfield 82, 3) := by decide +kernel
theorem zd_M_cellsBarred_29 : decode zb_M_cellsBarred 29 = .ok (.iload_n 1, 1) := by decide +kernel
theorem zd_M_cellsBarred_30 : decode zb_M_cellsBarred 30 = .ok (.iaload, 1) := by decide +kernel
theorem zd_M_cellsBarred_31 : decode zb_M_cellsBarred 31 = .ok (.ifCond .ge 9, 3) := by decide +kernel
theorem zd_M_cellsBarred_34 : decode zb_M_cellsBarred 34 = .ok (.aload_n 0, 1) := by decide +kernel
theorem zd_M_cellsBarred_35 : decode zb_M_cellsBarred 35 = .ok (.iconst 1, 1) := by decide +kernel
theorem zd_M_cellsBarred_36 : decode zb_M_cellsBarred 36 = .ok (.invokevirtual 139, 3) := by decide +kernel
theorem zd_M_cellsBarred_39 : decode zb_M_cellsBarred 39 = .ok (.ireturn, 1) := by decide +kernel
theorem zd_M_cellsBarred_40 : decode zb_M_cellsBarred 40 = .ok (.lload 4, 2) := by decide +kernel
theorem zd_M_cellsBarred_42 : decode zb_M_cellsBarred 42 = .ok (.lconst 0, 1) := by decide +kernel
theorem zd_M_cellsBarred_43 : decode zb_M_cellsBarred 43 = .ok (.lcmp, 1) := by decide +kernel
theorem zd_M_cellsBarred_44 : decode zb_M_cellsBarred 44 = .ok (.ifCond .ge 9, 3) := by decide +kernel
theorem zd_M_cellsBarred_47 : decode zb_M_cellsBarred 47 = .ok (.aload_n 0, 1) := by decide +kernel
theorem zd_M_cellsBarred_48 : decode zb_M_cellsBarred 48 = .ok (.iconst 4, 1) := by decide +kernel
theorem zd_M_cellsBarred_49 : decode zb_M_cellsBarred 49 = .ok (.invokevirtual 139, 3) := by decide +kernel
theorem zd_M_cellsBarred_52 : decode zb_M_cellsBarred 52 = .ok (.ireturn, 1) := by decide +kernel
theorem zd_M_cellsBarred_53 : decode zb_M_cellsBarred 53 = .ok (.iload_n 3, 1) := by decide +kernel
theorem zd_M_cellsBarred_54 : decode zb_M_cellsBarred 54 = .ok (.lload 4, 2) := by decide +kernel
theorem zd_M_cellsBarred_56 : decode zb_M_cellsBarred 56 = .ok (.aload_n 0, 1) := by decide +kernel
theorem zd_M_cellsBarred_57 : decode zb_M_cellsBarred 57 = .ok (.getfield 82, 3) := by decide +kernel
theorem zd_M_cellsBarred_60 : decode zb_M_cellsBarred 60 = .ok (.iload_n 1, 1) := by decide +kernel
theorem zd_M_cellsBarred_61 : decode zb_M_cellsBarred 61 = .ok (.iaload, 1) := by decide +kernel
theorem zd_M_cellsBarred_62 : decode zb_M_cellsBarred 62 = .ok (.invokestatic 142, 3) := by decide +kernel
theorem zd_M_cellsBarred_65 : decode zb_M_cellsBarred 65 = .ok (.ifCond .eq 11, 3) := by decide +kernel
theorem zd_M_cellsBarred_68 : decode zb_M_cellsBarred 68 = .ok (.aload_n 0, 1) := by decide +kernel
theorem zd_M_cellsBarred_69 : decode zb_M_cellsBarred 69 = .ok (.iconst 3, 1) := by decide +kernel
theorem zd_M_cellsBarred_70 : decode zb_M_cellsBarred 70 = .ok (.invokevirtual 139, 3) := by decide +kernel
theorem zd_M_cellsBarred_73 : decode zb_M_cellsBarred 73 = .ok (.goto 4, 3) := by decide +kernel
theorem zd_M_cellsBarred_76 : decode zb_M_cellsBarred 76 = .ok (.iconst 0, 1) := by decide +kernel
theorem zd_M_cellsBarred_77 : decode zb_M_cellsBarred 77 = .ok (.ireturn, 1) := by decide +kernel
def zf_M_cellsBarred_b77  (u0 : Int32) (m0 : nk_M) : Option (Int32 × nk_M) := some (u0, m0)
set_option maxHeartbeats 4000000 in
set_option maxRecDepth 100000 in
theorem zs_M_cellsBarred_b77 {G : nk_V} {X : nk_X}   (C : nk_C "NeedOnceModel" zb_M_cellsBarred 6 nk_wR G X) (hR : X.2.2.2.1 = nk_rm 2) (hr : X.2.2.2.2.2.2.2.2.1.sig.returnType = (some .int))  : ∀ (u0 : Int32) (m0 : nk_M), nk_Sim nk_wR G X 6 nk_oi 77 [nk_r G 0, .null, .null, .null, .null, .null] [.int u0] m0 (zf_M_cellsBarred_b77 u0 m0) := by
  intro u0 m0
  unfold zf_M_cellsBarred_b77
  exact nk_iret C hr zd_M_cellsBarred_77
def zf_M_cellsBarred_b25  (y1 : Int32) (y3 : Int32) (y4 : Int64) (m0 : nk_M) : Option (Int32 × nk_M) := nk_ald m0 25 4 y1 (fun x1 => (if 0 ≤ x1 then (if 0 ≤ (lg_cmp y4 (0 : Int64)) then nk_ald m0 25 4 y1 (fun x2 => nk_bd (zf_M_isBeyond y3 y4 x2 m0) (fun r3 m1 => (if r3 = 0 then (zf_M_cellsBarred_b77 (0 : Int32) m1) else nk_bd (zf_M_failed (3 : Int32) m1) (fun r4 m2 => (zf_M_cellsBarred_b77 r4 m2))))) else nk_bd (zf_M_failed (4 : Int32) m0) (fun r5 m3 => some (r5, m3))) else nk_bd (zf_M_failed (1 : Int32) m0) (fun r6 m4 => some (r6, m4))))
set_option maxHeartbeats 4000000 in
set_option maxRecDepth 100000 in
theorem zs_M_cellsBarred_b25 {G : nk_V} {X : nk_X}   (C : nk_C "NeedOnceModel" zb_M_cellsBarred 6 nk_wR G X) (hR : X.2.2.2.1 = nk_rm 2) (hr : X.2.2.2.2.2.2.2.2.1.sig.returnType = (some .int))  : ∀ (y1 : Int32) (y3 : Int32) (y4 : Int64) (m0 : nk_M), nk_Sim nk_wR G X 6 nk_oi 25 [nk_r G 0, .int y1, .null, .int y3, .long y4, .null] [] m0 (zf_M_cellsBarred_b25 y1 y3 y4 m0) := by
  intro y1 y3 y4 m0
  unfold zf_M_cellsBarred_b25
  refine nk_aload_n C zd_M_cellsBarred_25 rfl rfl ?_
  refine nk_getR C (r := 25) za_M_82 (Nat.le_of_ble_eq_true rfl) rfl rfl zd_M_cellsBarred_26 ?_
  refine nk_iload_n C zd_M_cellsBarred_29 rfl rfl ?_
  refine nk_iald C (Nat.le_of_ble_eq_true rfl) rfl zd_M_cellsBarred_30 (fun x1 => ?_)
  refine nk_if_ge (tgt := 40) C zd_M_cellsBarred_31 (by decide) ?_ ?_
  · refine nk_lload C zd_M_cellsBarred_40 rfl ?_
    refine nk_lconst (v := 0) C zd_M_cellsBarred_42 (by decide) ?_
    refine nk_lcmp C zd_M_cellsBarred_43 ?_
    refine nk_if_ge (tgt := 53) C zd_M_cellsBarred_44 (by decide) ?_ ?_
    · refine nk_iload_n C zd_M_cellsBarred_53 rfl rfl ?_
      refine nk_lload C zd_M_cellsBarred_54 rfl ?_
      refine nk_aload_n C zd_M_cellsBarred_56 rfl rfl ?_
      refine nk_getR C (r := 25) za_M_82 (Nat.le_of_ble_eq_true rfl) rfl rfl zd_M_cellsBarred_57 ?_
      refine nk_iload_n C zd_M_cellsBarred_60 rfl rfl ?_
      refine nk_iald C (Nat.le_of_ble_eq_true rfl) rfl zd_M_cellsBarred_61 (fun x2 => ?_)
      refine nk_callSi C [.int y3, .long y4, .int x2] zv_M_142 hR (zc_M_isBeyond y3 y4 x2 m0) (by omega) rfl rfl (Nat.le_of_ble_eq_true rfl) zd_M_cellsBarred_62 (fun r3 m1 => ?_)
      refine nk_if_eq (tgt := 76) C zd_M_cellsBarred_65 (by decide) ?_ ?_
      · refine nk_iconst (v := 0) C zd_M_cellsBarred_76 (by decide) ?_
        refine nk_wk [true, false, false, false, false, false] ?_
        exact zs_M_cellsBarred_b77 C hR hr (0 : Int32) m1
      · refine nk_aload_n C zd_M_cellsBarred_68 rfl rfl ?_
        refine nk_iconst (v := 3) C zd_M_cellsBarred_69 (by decide) ?_
        refine nk_callVi C [.int (3 : Int32)] zv_M_139 hR (zc_M_failed (3 : Int32) m1) (by omega) (Nat.le_of_ble_eq_true rfl) rfl rfl rfl rfl (Nat.le_of_ble_eq_true rfl) zd_M_cellsBarred_70 (fun r4 m2 => ?_)
        refine nk_goto (tgt := 77) C zd_M_cellsBarred_73 (by decide) ?_
        refine nk_wk [true, false, false, false, false, false] ?_
        exact zs_M_cellsBarred_b77 C hR hr r4 m2
    · refine nk_aload_n C zd_M_cellsBarred_47 rfl rfl ?_
      refine nk_iconst (v := 4) C zd_M_cellsBarred_48 (by decide) ?_
      refine nk_callVi C [.int (4 : Int32)] zv_M_139 hR (zc_M_failed (4 : Int32) m0) (by omega) (Nat.le_of_ble_eq_true rfl) rfl rfl rfl rfl (Nat.le_of_ble_eq_true rfl) zd_M_cellsBarred_49 (fun r5 m3 => ?_)
      exact nk_iret C hr zd_M_cellsBarred_52
  · refine nk_aload_n C zd_M_cellsBarred_34 rfl rfl ?_
    refine nk_iconst (v := 1) C zd_M_cellsBarred_35 (by decide) ?_
    refine nk_callVi C [.int (1 : Int32)] zv_M_139 hR (zc_M_failed (1 : Int32) m0) (by omega) (Nat.le_of_ble_eq_true rfl) rfl rfl rfl rfl (Nat.le_of_ble_eq_true rfl) zd_M_cellsBarred_36 (fun r6 m4 => ?_)
    exact nk_iret C hr zd_M_cellsBarred_39
def zf_M_cellsBarred  (a1 : Int32) (a2 : Int32) (a3 : Int32) (a4 : Int64) (m0 : nk_M) : Option (Int32 × nk_M) := nk_ald m0 25 4 a1 (fun x1 => (if x1 < 0 then (zf_M_cellsBarred_b25 a1 a3 a4 m0) else nk_ald m0 26 4 a1 (fun x2 => (if x2 = a2 then (zf_M_cellsBarred_b25 a1 a3 a4 m0) else nk_bd (zf_M_failed (2 : Int32) m0) (fun r3 m1 => some (r3, m1))))))
set_option maxHeartbeats 4000000 in
set_option maxRecDepth 100000 in
theorem zc_M_cellsBarred {l : Launch} {G : nk_V}   (a1 : Int32) (a2 : Int32) (a3 : Int32) (a4 : Int64) (m0 : nk_M) : nk_Ct l nk_wR G 2 zy_M_cellsBarred zb_M_cellsBarred 6 (some .int) nk_oi [nk_r G 0, .int a1, .int a2, .int a3, .long a4] m0 (zf_M_cellsBarred  a1 a2 a3 a4 m0) := by
  refine nk_ent (own := "NeedOnceModel") (lv := [nk_r G 0, .int a1, .int a2, .int a3, .long a4, .null]) 0 rfl (by decide) (Nat.le_of_ble_eq_true rfl) rfl (fun X hl hR C hr => ?_)
  subst hl
  unfold zf_M_cellsBarred
  refine nk_aload_n C zd_M_cellsBarred_0 rfl rfl ?_
  refine nk_getR C (r := 25) za_M_82 (Nat.le_of_ble_eq_true rfl) rfl rfl zd_M_cellsBarred_1 ?_
  refine nk_iload_n C zd_M_cellsBarred_4 rfl rfl ?_
  refine nk_iald C (Nat.le_of_ble_eq_true rfl) rfl zd_M_cellsBarred_5 (fun x1 => ?_)
  refine nk_if_lt (tgt := 25) C zd_M_cellsBarred_6 (by decide) ?_ ?_
  · refine nk_wk [true, true, false, true, true, false] ?_
    exact zs_M_cellsBarred_b25 C hR hr a1 a3 a4 m0
  · refine nk_aload_n C zd_M_cellsBarred_9 rfl rfl ?_
    refine nk_getR C (r := 26) za_M_85 (Nat.le_of_ble_eq_true rfl) rfl rfl zd_M_cellsBarred_10 ?_
    refine nk_iload_n C zd_M_cellsBarred_13 rfl rfl ?_
    refine nk_iald C (Nat.le_of_ble_eq_true rfl) rfl zd_M_cellsBarred_14 (fun x2 => ?_)
    refine nk_iload_n C zd_M_cellsBarred_15 rfl rfl ?_
    refine nk_icmp_eq (tgt := 25) C zd_M_cellsBarred_16 (by decide) ?_ ?_
    · refine nk_wk [true, true, false, true, true, false] ?_
      exact zs_M_cellsBarred_b25 C hR hr a1 a3 a4 m0
    · refine nk_aload_n C zd_M_cellsBarred_19 rfl rfl ?_
      refine nk_iconst (v := 2) C zd_M_cellsBarred_20 (by decide) ?_
      refine nk_callVi C [.int (2 : Int32)] zv_M_139 hR (zc_M_failed (2 : Int32) m0) (by omega) (Nat.le_of_ble_eq_true rfl) rfl rfl rfl rfl (Nat.le_of_ble_eq_true rfl) zd_M_cellsBarred_21 (fun r3 m1 => ?_)
      exact nk_iret C hr zd_M_cellsBarred_24
theorem zd_M_codeAt_0 : decode zb_M_codeAt 0 = .ok (.aload_n 0, 1) := by decide +kernel
theorem zd_M_codeAt_1 : decode zb_M_codeAt 1 = .ok (.getfield 111, 3) := by decide +kernel
theorem zd_M_codeAt_4 : decode zb_M_codeAt 4 = .ok (.iload_n 2, 1) := by decide +kernel
theorem zd_M_codeAt_5 : decode zb_M_codeAt 5 = .ok (.if_icmp .ge 17, 3) := by decide +kernel
theorem zd_M_codeAt_8 : decode zb_M_codeAt 8 = .ok (.aload_n 0, 1) := by decide +kernel
theorem zd_M_codeAt_9 : decode zb_M_codeAt 9 = .ok (.getfield 88, 3) := by decide +kernel
theorem zd_M_codeAt_12 : decode zb_M_codeAt 12 = .ok (.iload_n 1, 1) := by decide +kernel
theorem zd_M_codeAt_13 : decode zb_M_codeAt 13 = .ok (.aload_n 0, 1) := by decide +kernel
theorem zd_M_codeAt_14 : decode zb_M_codeAt 14 = .ok (.getfield 111, 3) := by decide +kernel
theorem zd_M_codeAt_17 : decode zb_M_codeAt 17 = .ok (.iadd, 1) := by decide +kernel
theorem zd_M_codeAt_18 : decode zb_M_codeAt 18 = .ok (.iaload, 1) := by decide +kernel
theorem zd_M_codeAt_19 : decode zb_M_codeAt 19 = .ok (.goto 5, 3) := by decide +kernel
theorem zd_M_codeAt_22 : decode zb_M_codeAt 22 = .ok (.bipush (-9), 2) := by decide +kernel
theorem zd_M_codeAt_24 : decode zb_M_codeAt 24 = .ok (.ireturn, 1) := by decide +kernel
def zf_M_codeAt_b24  (u0 : Int32) (m0 : nk_M) : Option (Int32 × nk_M) := some (u0, m0)
set_option maxHeartbeats 4000000 in
set_option maxRecDepth 100000 in
theorem zs_M_codeAt_b24 {G : nk_V} {X : nk_X}   (C : nk_C "NeedOnceModel" zb_M_codeAt 3 nk_wR G X) (hR : X.2.2.2.1 = nk_rm 1) (hr : X.2.2.2.2.2.2.2.2.1.sig.returnType = (some .int))  : ∀ (u0 : Int32) (m0 : nk_M), nk_Sim nk_wR G X 3 nk_oi 24 [nk_r G 0, .null, .null] [.int u0] m0 (zf_M_codeAt_b24 u0 m0) := by
  intro u0 m0
  unfold zf_M_codeAt_b24
  exact nk_iret C hr zd_M_codeAt_24
def zf_M_codeAt  (a1 : Int32) (a2 : Int32) (m0 : nk_M) : Option (Int32 × nk_M) := (if a2 ≤ (m0 0 6) then (zf_M_codeAt_b24 (-9 : Int32) m0) else nk_ald m0 27 240 (a1 + (m0 0 6)) (fun x1 => (zf_M_codeAt_b24 x1 m0)))
set_option maxHeartbeats 4000000 in
set_option maxRecDepth 100000 in
theorem zc_M_codeAt {l : Launch} {G : nk_V}   (a1 : Int32) (a2 : Int32) (m0 : nk_M) : nk_Ct l nk_wR G 1 zy_M_codeAt zb_M_codeAt 3 (some .int) nk_oi [nk_r G 0, .int a1, .int a2] m0 (zf_M_codeAt  a1 a2 m0) := by
  refine nk_ent (own := "NeedOnceModel") (lv := [nk_r G 0, .int a1, .int a2]) 0 rfl (by decide) (Nat.le_of_ble_eq_true rfl) rfl (fun X hl hR C hr => ?_)
  subst hl
  unfold zf_M_codeAt
  refine nk_aload_n C zd_M_codeAt_0 rfl rfl ?_
  refine nk_getI C za_M_111 (Nat.le_of_ble_eq_true rfl) rfl rfl zd_M_codeAt_1 ?_
  refine nk_iload_n C zd_M_codeAt_4 rfl rfl ?_
  refine nk_icmp_ge (tgt := 22) C zd_M_codeAt_5 (by decide) ?_ ?_
  · refine nk_bipush (v := -9) C zd_M_codeAt_22 (by decide) ?_
    refine nk_wk [true, false, false] ?_
    exact zs_M_codeAt_b24 C hR hr (-9 : Int32) m0
  · refine nk_aload_n C zd_M_codeAt_8 rfl rfl ?_
    refine nk_getR C (r := 27) za_M_88 (Nat.le_of_ble_eq_true rfl) rfl rfl zd_M_codeAt_9 ?_
    refine nk_iload_n C zd_M_codeAt_12 rfl rfl ?_
    refine nk_aload_n C zd_M_codeAt_13 rfl rfl ?_
    refine nk_getI C za_M_111 (Nat.le_of_ble_eq_true rfl) rfl rfl zd_M_codeAt_14 ?_
    refine nk_iadd C zd_M_codeAt_17 ?_
    refine nk_iald C (Nat.le_of_ble_eq_true rfl) rfl zd_M_codeAt_18 (fun x1 => ?_)
    refine nk_goto (tgt := 24) C zd_M_codeAt_19 (by decide) ?_
    refine nk_wk [true, false, false] ?_
    exact zs_M_codeAt_b24 C hR hr x1 m0
theorem zd_M_formBy_0 : decode zb_M_formBy 0 = .ok (.iload_n 0, 1) := by decide +kernel
theorem zd_M_formBy_1 : decode zb_M_formBy 1 = .ok (.bipush 110, 2) := by decide +kernel
theorem zd_M_formBy_3 : decode zb_M_formBy 3 = .ok (.if_icmp .ne 7, 3) := by decide +kernel
theorem zd_M_formBy_6 : decode zb_M_formBy 6 = .ok (.iconst 0, 1) := by decide +kernel
theorem zd_M_formBy_7 : decode zb_M_formBy 7 = .ok (.goto 66, 3) := by decide +kernel
theorem zd_M_formBy_10 : decode zb_M_formBy 10 = .ok (.iload_n 0, 1) := by decide +kernel
theorem zd_M_formBy_11 : decode zb_M_formBy 11 = .ok (.bipush 97, 2) := by decide +kernel
theorem zd_M_formBy_13 : decode zb_M_formBy 13 = .ok (.if_icmp .ne 7, 3) := by decide +kernel
theorem zd_M_formBy_16 : decode zb_M_formBy 16 = .ok (.iconst 1, 1) := by decide +kernel
theorem zd_M_formBy_17 : decode zb_M_formBy 17 = .ok (.goto 56, 3) := by decide +kernel
theorem zd_M_formBy_20 : decode zb_M_formBy 20 = .ok (.iload_n 0, 1) := by decide +kernel
theorem zd_M_formBy_21 : decode zb_M_formBy 21 = .ok (.bipush 109, 2) := by decide +kernel
theorem zd_M_formBy_23 : decode zb_M_formBy 23 = .ok (.if_icmp .ne 7, 3) := by decide +kernel
theorem zd_M_formBy_26 : decode zb_M_formBy 26 = .ok (.iconst 2, 1) := by decide +kernel
theorem zd_M_formBy_27 : decode zb_M_formBy 27 = .ok (.goto 46, 3) := by decide +kernel
theorem zd_M_formBy_30 : decode zb_M_formBy 30 = .ok (.iload_n 0, 1) := by decide +kernel
theorem zd_M_formBy_31 : decode zb_M_formBy 31 = .ok (.bipush 105, 2) := by decide +kernel
theorem zd_M_formBy_33 : decode zb_M_formBy 33 = .ok (.if_icmp .ne 7, 3) := by decide +kernel
theorem zd_M_formBy_36 : decode zb_M_formBy 36 = .ok (.iconst 3, 1) := by decide +kernel
theorem zd_M_formBy_37 : decode zb_M_formBy 37 = .ok (.goto 36, 3) := by decide +kernel
theorem zd_M_formBy_40 : decode zb_M_formBy 40 = .ok (.iload_n 0, 1) := by decide +kernel
theorem zd_M_formBy_41 : decode zb_M_formBy 41 = .ok (.bipush 116, 2) := by decide +kernel
theorem zd_M_formBy_43 : decode zb_M_formBy 43 = .ok (.if_icmp .ne 7, 3) := by decide +kernel
theorem zd_M_formBy_46 : decode zb_M_formBy 46 = .ok (.iconst 4, 1) := by decide +kernel
theorem zd_M_formBy_47 : decode zb_M_formBy 47 = .ok (.goto 26, 3) := by decide +kernel
theorem zd_M_formBy_50 : decode zb_M_formBy 50 = .ok (.iload_n 0, 1) := by decide +kernel
theorem zd_M_formBy_51 : decode zb_M_formBy 51 = .ok (.bipush 102, 2) := by decide +kernel
theorem zd_M_formBy_53 : decode zb_M_formBy 53 = .ok (.if_icmp .ne 7, 3) := by decide +kernel
theorem zd_M_formBy_56 : decode zb_M_formBy 56 = .ok (.iconst 5, 1) := by decide +kernel
theorem zd_M_formBy_57 : decode zb_M_formBy 57 = .ok (.goto 16, 3) := by decide +kernel
theorem zd_M_formBy_60 : decode zb_M_formBy 60 = .ok (.iload_n 0, 1) := by decide +kernel
theorem zd_M_formBy_61 : decode zb_M_formBy 61 = .ok (.bipush 114, 2) := by decide +kernel
theorem zd_M_formBy_63 : decode zb_M_formBy 63 = .ok (.if_icmp .ne 8, 3) := by decide +kernel
theorem zd_M_formBy_66 : decode zb_M_formBy 66 = .ok (.bipush 6, 2) := by decide +kernel
theorem zd_M_formBy_68 : decode zb_M_formBy 68 = .ok (.goto 5, 3) := by decide +kernel
theorem zd_M_formBy_71 : decode zb_M_formBy 71 = .ok (.bipush (-9), 2) := by decide +kernel
theorem zd_M_formBy_73 : decode zb_M_formBy 73 = .ok (.ireturn, 1) := by decide +kernel
def zf_M_formBy_b73  (u0 : Int32) (m0 : nk_M) : Option (Int32 × nk_M) := some (u0, m0)
set_option maxHeartbeats 4000000 in
set_option maxRecDepth 100000 in
theorem zs_M_formBy_b73 {G : nk_V} {X : nk_X}   (C : nk_C "NeedOnceModel" zb_M_formBy 1 nk_wR G X) (hR : X.2.2.2.1 = nk_rm 1) (hr : X.2.2.2.2.2.2.2.2.1.sig.returnType = (some .int))  : ∀ (u0 : Int32) (m0 : nk_M), nk_Sim nk_wR G X 1 nk_oi 73 [.null] [.int u0] m0 (zf_M_formBy_b73 u0 m0) := by
  intro u0 m0
  unfold zf_M_formBy_b73
  exact nk_iret C hr zd_M_formBy_73
def zf_M_formBy  (a1 : Int32) (m0 : nk_M) : Option (Int32 × nk_M) := (if a1 = (110 : Int32) then (zf_M_formBy_b73 (0 : Int32) m0) else (if a1 = (97 : Int32) then (zf_M_formBy_b73 (1 : Int32) m0) else (if a1 = (109 : Int32) then (zf_M_formBy_b73 (2 : Int32) m0) else (if a1 = (105 : Int32) then (zf_M_formBy_b73 (3 : Int32) m0) else (if a1 = (116 : Int32) then (zf_M_formBy_b73 (4 : Int32) m0) else (if a1 = (102 : Int32) then (zf_M_formBy_b73 (5 : Int32) m0) else (if a1 = (114 : Int32) then (zf_M_formBy_b73 (6 : Int32) m0) else (zf_M_formBy_b73 (-9 : Int32) m0))))))))
set_option maxHeartbeats 4000000 in
set_option maxRecDepth 100000 in
theorem zc_M_formBy {l : Launch} {G : nk_V}   (a1 : Int32) (m0 : nk_M) : nk_Ct l nk_wR G 1 zy_M_formBy zb_M_formBy 1 (some .int) nk_oi [.int a1] m0 (zf_M_formBy  a1 m0) := by
  refine nk_ent (own := "NeedOnceModel") (lv := [.int a1]) 0 rfl (by decide) (Nat.le_of_ble_eq_true rfl) rfl (fun X hl hR C hr => ?_)
  subst hl
  unfold zf_M_formBy
  refine nk_iload_n C zd_M_formBy_0 rfl rfl ?_
  refine nk_bipush (v := 110) C zd_M_formBy_1 (by decide) ?_
  refine nk_icmp_ne (tgt := 10) C zd_M_formBy_3 (by decide) ?_ ?_
  · refine nk_iload_n C zd_M_formBy_10 rfl rfl ?_
    refine nk_bipush (v := 97) C zd_M_formBy_11 (by decide) ?_
    refine nk_icmp_ne (tgt := 20) C zd_M_formBy_13 (by decide) ?_ ?_
    · refine nk_iload_n C zd_M_formBy_20 rfl rfl ?_
      refine nk_bipush (v := 109) C zd_M_formBy_21 (by decide) ?_
      refine nk_icmp_ne (tgt := 30) C zd_M_formBy_23 (by decide) ?_ ?_
      · refine nk_iload_n C zd_M_formBy_30 rfl rfl ?_
        refine nk_bipush (v := 105) C zd_M_formBy_31 (by decide) ?_
        refine nk_icmp_ne (tgt := 40) C zd_M_formBy_33 (by decide) ?_ ?_
        · refine nk_iload_n C zd_M_formBy_40 rfl rfl ?_
          refine nk_bipush (v := 116) C zd_M_formBy_41 (by decide) ?_
          refine nk_icmp_ne (tgt := 50) C zd_M_formBy_43 (by decide) ?_ ?_
          · refine nk_iload_n C zd_M_formBy_50 rfl rfl ?_
            refine nk_bipush (v := 102) C zd_M_formBy_51 (by decide) ?_
            refine nk_icmp_ne (tgt := 60) C zd_M_formBy_53 (by decide) ?_ ?_
            · refine nk_iload_n C zd_M_formBy_60 rfl rfl ?_
              refine nk_bipush (v := 114) C zd_M_formBy_61 (by decide) ?_
              refine nk_icmp_ne (tgt := 71) C zd_M_formBy_63 (by decide) ?_ ?_
              · refine nk_bipush (v := -9) C zd_M_formBy_71 (by decide) ?_
                refine nk_wk [false] ?_
                exact zs_M_formBy_b73 C hR hr (-9 : Int32) m0
              · refine nk_bipush (v := 6) C zd_M_formBy_66 (by decide) ?_
                refine nk_goto (tgt := 73) C zd_M_formBy_68 (by decide) ?_
                refine nk_wk [false] ?_
                exact zs_M_formBy_b73 C hR hr (6 : Int32) m0
            · refine nk_iconst (v := 5) C zd_M_formBy_56 (by decide) ?_
              refine nk_goto (tgt := 73) C zd_M_formBy_57 (by decide) ?_
              refine nk_wk [false] ?_
              exact zs_M_formBy_b73 C hR hr (5 : Int32) m0
          · refine nk_iconst (v := 4) C zd_M_formBy_46 (by decide) ?_
            refine nk_goto (tgt := 73) C zd_M_formBy_47 (by decide) ?_
            refine nk_wk [false] ?_
            exact zs_M_formBy_b73 C hR hr (4 : Int32) m0
        · refine nk_iconst (v := 3) C zd_M_formBy_36 (by decide) ?_
          refine nk_goto (tgt := 73) C zd_M_formBy_37 (by decide) ?_
          refine nk_wk [false] ?_
          exact zs_M_formBy_b73 C hR hr (3 : Int32) m0
      · refine nk_iconst (v := 2) C zd_M_formBy_26 (by decide) ?_
        refine nk_goto (tgt := 73) C zd_M_formBy_27 (by decide) ?_
        refine nk_wk [false] ?_
        exact zs_M_formBy_b73 C hR hr (2 : Int32) m0
    · refine nk_iconst (v := 1) C zd_M_formBy_16 (by decide) ?_
      refine nk_goto (tgt := 73) C zd_M_formBy_17 (by decide) ?_
      refine nk_wk [false] ?_
      exact zs_M_formBy_b73 C hR hr (1 : Int32) m0
  · refine nk_iconst (v := 0) C zd_M_formBy_6 (by decide) ?_
    refine nk_goto (tgt := 73) C zd_M_formBy_7 (by decide) ?_
    refine nk_wk [false] ?_
    exact zs_M_formBy_b73 C hR hr (0 : Int32) m0
theorem zd_M_partsOf_0 : decode zb_M_partsOf 0 = .ok (.iload_n 0, 1) := by decide +kernel
theorem zd_M_partsOf_1 : decode zb_M_partsOf 1 = .ok (.ifCond .eq 8, 3) := by decide +kernel
theorem zd_M_partsOf_4 : decode zb_M_partsOf 4 = .ok (.iload_n 0, 1) := by decide +kernel
theorem zd_M_partsOf_5 : decode zb_M_partsOf 5 = .ok (.iconst 4, 1) := by decide +kernel
theorem zd_M_partsOf_6 : decode zb_M_partsOf 6 = .ok (.if_icmp .le 7, 3) := by decide +kernel
theorem zd_M_partsOf_9 : decode zb_M_partsOf 9 = .ok (.iconst 1, 1) := by decide +kernel
theorem zd_M_partsOf_10 : decode zb_M_partsOf 10 = .ok (.goto 13, 3) := by decide +kernel
theorem zd_M_partsOf_13 : decode zb_M_partsOf 13 = .ok (.iload_n 0, 1) := by decide +kernel
theorem zd_M_partsOf_14 : decode zb_M_partsOf 14 = .ok (.iconst 3, 1) := by decide +kernel
theorem zd_M_partsOf_15 : decode zb_M_partsOf 15 = .ok (.if_icmp .ne 7, 3) := by decide +kernel
theorem zd_M_partsOf_18 : decode zb_M_partsOf 18 = .ok (.iconst 3, 1) := by decide +kernel
theorem zd_M_partsOf_19 : decode zb_M_partsOf 19 = .ok (.goto 4, 3) := by decide +kernel
theorem zd_M_partsOf_22 : decode zb_M_partsOf 22 = .ok (.iconst 2, 1) := by decide +kernel
theorem zd_M_partsOf_23 : decode zb_M_partsOf 23 = .ok (.ireturn, 1) := by decide +kernel
def zf_M_partsOf_b23  (u0 : Int32) (m0 : nk_M) : Option (Int32 × nk_M) := some (u0, m0)
set_option maxHeartbeats 4000000 in
set_option maxRecDepth 100000 in
theorem zs_M_partsOf_b23 {G : nk_V} {X : nk_X}   (C : nk_C "NeedOnceModel" zb_M_partsOf 1 nk_wR G X) (hR : X.2.2.2.1 = nk_rm 1) (hr : X.2.2.2.2.2.2.2.2.1.sig.returnType = (some .int))  : ∀ (u0 : Int32) (m0 : nk_M), nk_Sim nk_wR G X 1 nk_oi 23 [.null] [.int u0] m0 (zf_M_partsOf_b23 u0 m0) := by
  intro u0 m0
  unfold zf_M_partsOf_b23
  exact nk_iret C hr zd_M_partsOf_23
def zf_M_partsOf_b9   (m0 : nk_M) : Option (Int32 × nk_M) := (zf_M_partsOf_b23 (1 : Int32) m0)
set_option maxHeartbeats 4000000 in
set_option maxRecDepth 100000 in
theorem zs_M_partsOf_b9 {G : nk_V} {X : nk_X}   (C : nk_C "NeedOnceModel" zb_M_partsOf 1 nk_wR G X) (hR : X.2.2.2.1 = nk_rm 1) (hr : X.2.2.2.2.2.2.2.2.1.sig.returnType = (some .int))  : ∀  (m0 : nk_M), nk_Sim nk_wR G X 1 nk_oi 9 [.null] [] m0 (zf_M_partsOf_b9  m0) := by
  intro m0
  unfold zf_M_partsOf_b9
  refine nk_iconst (v := 1) C zd_M_partsOf_9 (by decide) ?_
  refine nk_goto (tgt := 23) C zd_M_partsOf_10 (by decide) ?_
  exact zs_M_partsOf_b23 C hR hr (1 : Int32) m0
def zf_M_partsOf  (a1 : Int32) (m0 : nk_M) : Option (Int32 × nk_M) := (if a1 = 0 then (zf_M_partsOf_b9 m0) else (if a1 ≤ (4 : Int32) then (if a1 = (3 : Int32) then (zf_M_partsOf_b23 (3 : Int32) m0) else (zf_M_partsOf_b23 (2 : Int32) m0)) else (zf_M_partsOf_b9 m0)))
set_option maxHeartbeats 4000000 in
set_option maxRecDepth 100000 in
theorem zc_M_partsOf {l : Launch} {G : nk_V}   (a1 : Int32) (m0 : nk_M) : nk_Ct l nk_wR G 1 zy_M_partsOf zb_M_partsOf 1 (some .int) nk_oi [.int a1] m0 (zf_M_partsOf  a1 m0) := by
  refine nk_ent (own := "NeedOnceModel") (lv := [.int a1]) 0 rfl (by decide) (Nat.le_of_ble_eq_true rfl) rfl (fun X hl hR C hr => ?_)
  subst hl
  unfold zf_M_partsOf
  refine nk_iload_n C zd_M_partsOf_0 rfl rfl ?_
  refine nk_if_eq (tgt := 9) C zd_M_partsOf_1 (by decide) ?_ ?_
  · refine nk_wk [false] ?_
    exact zs_M_partsOf_b9 C hR hr m0
  · refine nk_iload_n C zd_M_partsOf_4 rfl rfl ?_
    refine nk_iconst (v := 4) C zd_M_partsOf_5 (by decide) ?_
    refine nk_icmp_le (tgt := 13) C zd_M_partsOf_6 (by decide) ?_ ?_
    · refine nk_iload_n C zd_M_partsOf_13 rfl rfl ?_
      refine nk_iconst (v := 3) C zd_M_partsOf_14 (by decide) ?_
      refine nk_icmp_ne (tgt := 22) C zd_M_partsOf_15 (by decide) ?_ ?_
      · refine nk_iconst (v := 2) C zd_M_partsOf_22 (by decide) ?_
        refine nk_wk [false] ?_
        exact zs_M_partsOf_b23 C hR hr (2 : Int32) m0
      · refine nk_iconst (v := 3) C zd_M_partsOf_18 (by decide) ?_
        refine nk_goto (tgt := 23) C zd_M_partsOf_19 (by decide) ?_
        refine nk_wk [false] ?_
        exact zs_M_partsOf_b23 C hR hr (3 : Int32) m0
    · refine nk_wk [false] ?_
      exact zs_M_partsOf_b9 C hR hr m0
theorem zd_M_readsForm_0 : decode zb_M_readsForm 0 = .ok (.aload_n 0, 1) := by decide +kernel
theorem zd_M_readsForm_1 : decode zb_M_readsForm 1 = .ok (.iload_n 1, 1) := by decide +kernel
theorem zd_M_readsForm_2 : decode zb_M_readsForm 2 = .ok (.iload_n 2, 1) := by decide +kernel
theorem zd_M_readsForm_3 : decode zb_M_readsForm 3 = .ok (.invokevirtual 114, 3) := by decide +kernel
theorem zd_M_readsForm_6 : decode zb_M_readsForm 6 = .ok (.invokestatic 118, 3) := by decide +kernel
theorem zd_M_readsForm_9 : decode zb_M_readsForm 9 = .ok (.istore_n 3, 1) := by decide +kernel
theorem zd_M_readsForm_10 : decode zb_M_readsForm 10 = .ok (.iload_n 3, 1) := by decide +kernel
theorem zd_M_readsForm_11 : decode zb_M_readsForm 11 = .ok (.ifCond .ge 5, 3) := by decide +kernel
theorem zd_M_readsForm_14 : decode zb_M_readsForm 14 = .ok (.iconst 0, 1) := by decide +kernel
theorem zd_M_readsForm_15 : decode zb_M_readsForm 15 = .ok (.ireturn, 1) := by decide +kernel
theorem zd_M_readsForm_16 : decode zb_M_readsForm 16 = .ok (.aload_n 0, 1) := by decide +kernel
theorem zd_M_readsForm_17 : decode zb_M_readsForm 17 = .ok (.dup, 1) := by decide +kernel
theorem zd_M_readsForm_18 : decode zb_M_readsForm 18 = .ok (.getfield 111, 3) := by decide +kernel
theorem zd_M_readsForm_21 : decode zb_M_readsForm 21 = .ok (.iconst 1, 1) := by decide +kernel
theorem zd_M_readsForm_22 : decode zb_M_readsForm 22 = .ok (.iadd, 1) := by decide +kernel
theorem zd_M_readsForm_23 : decode zb_M_readsForm 23 = .ok (.putfield 111, 3) := by decide +kernel
theorem zd_M_readsForm_26 : decode zb_M_readsForm 26 = .ok (.aload_n 0, 1) := by decide +kernel
theorem zd_M_readsForm_27 : decode zb_M_readsForm 27 = .ok (.getfield 28, 3) := by decide +kernel
theorem zd_M_readsForm_30 : decode zb_M_readsForm 30 = .ok (.aload_n 0, 1) := by decide +kernel
theorem zd_M_readsForm_31 : decode zb_M_readsForm 31 = .ok (.getfield 122, 3) := by decide +kernel
theorem zd_M_readsForm_34 : decode zb_M_readsForm 34 = .ok (.iload_n 3, 1) := by decide +kernel
theorem zd_M_readsForm_35 : decode zb_M_readsForm 35 = .ok (.iastore, 1) := by decide +kernel
theorem zd_M_readsForm_36 : decode zb_M_readsForm 36 = .ok (.iconst 0, 1) := by decide +kernel
theorem zd_M_readsForm_37 : decode zb_M_readsForm 37 = .ok (.istore 4, 2) := by decide +kernel
theorem zd_M_readsForm_39 : decode zb_M_readsForm 39 = .ok (.iload 4, 2) := by decide +kernel
theorem zd_M_readsForm_41 : decode zb_M_readsForm 41 = .ok (.iload_n 3, 1) := by decide +kernel
theorem zd_M_readsForm_42 : decode zb_M_readsForm 42 = .ok (.invokestatic 125, 3) := by decide +kernel
theorem zd_M_readsForm_45 : decode zb_M_readsForm 45 = .ok (.if_icmp .ge 71, 3) := by decide +kernel
theorem zd_M_readsForm_48 : decode zb_M_readsForm 48 = .ok (.aload_n 0, 1) := by decide +kernel
theorem zd_M_readsForm_49 : decode zb_M_readsForm 49 = .ok (.iload_n 1, 1) := by decide +kernel
theorem zd_M_readsForm_50 : decode zb_M_readsForm 50 = .ok (.iload_n 2, 1) := by decide +kernel
theorem zd_M_readsForm_51 : decode zb_M_readsForm 51 = .ok (.invokevirtual 114, 3) := by decide +kernel
theorem zd_M_readsForm_54 : decode zb_M_readsForm 54 = .ok (.bipush 48, 2) := by decide +kernel
theorem zd_M_readsForm_56 : decode zb_M_readsForm 56 = .ok (.isub, 1) := by decide +kernel
theorem zd_M_readsForm_57 : decode zb_M_readsForm 57 = .ok (.istore 5, 2) := by decide +kernel
theorem zd_M_readsForm_59 : decode zb_M_readsForm 59 = .ok (.iload 5, 2) := by decide +kernel
theorem zd_M_readsForm_61 : decode zb_M_readsForm 61 = .ok (.i2l, 1) := by decide +kernel
theorem zd_M_readsForm_62 : decode zb_M_readsForm 62 = .ok (.lconst 0, 1) := by decide +kernel
theorem zd_M_readsForm_63 : decode zb_M_readsForm 63 = .ok (.iload_n 3, 1) := by decide +kernel
theorem zd_M_readsForm_64 : decode zb_M_readsForm 64 = .ok (.ifCond .ne 9, 3) := by decide +kernel
theorem zd_M_readsForm_67 : decode zb_M_readsForm 67 = .ok (.ldc2_w 128, 3) := by decide +kernel
theorem zd_M_readsForm_70 : decode zb_M_readsForm 70 = .ok (.goto 6, 3) := by decide +kernel
theorem zd_M_readsForm_73 : decode zb_M_readsForm 73 = .ok (.ldc2_w 130, 3) := by decide +kernel
theorem zd_M_readsForm_76 : decode zb_M_readsForm 76 = .ok (.invokestatic 107, 3) := by decide +kernel
theorem zd_M_readsForm_79 : decode zb_M_readsForm 79 = .ok (.ifCond .ne 5, 3) := by decide +kernel
theorem zd_M_readsForm_82 : decode zb_M_readsForm 82 = .ok (.iconst 0, 1) := by decide +kernel
theorem zd_M_readsForm_83 : decode zb_M_readsForm 83 = .ok (.ireturn, 1) := by decide +kernel
theorem zd_M_readsForm_84 : decode zb_M_readsForm 84 = .ok (.aload_n 0, 1) := by decide +kernel
theorem zd_M_readsForm_85 : decode zb_M_readsForm 85 = .ok (.getfield 31, 3) := by decide +kernel
theorem zd_M_readsForm_88 : decode zb_M_readsForm 88 = .ok (.iconst 3, 1) := by decide +kernel
theorem zd_M_readsForm_89 : decode zb_M_readsForm 89 = .ok (.aload_n 0, 1) := by decide +kernel
theorem zd_M_readsForm_90 : decode zb_M_readsForm 90 = .ok (.getfield 122, 3) := by decide +kernel
theorem zd_M_readsForm_93 : decode zb_M_readsForm 93 = .ok (.imul, 1) := by decide +kernel
theorem zd_M_readsForm_94 : decode zb_M_readsForm 94 = .ok (.iload 4, 2) := by decide +kernel
theorem zd_M_readsForm_96 : decode zb_M_readsForm 96 = .ok (.iadd, 1) := by decide +kernel
theorem zd_M_readsForm_97 : decode zb_M_readsForm 97 = .ok (.iload 5, 2) := by decide +kernel
theorem zd_M_readsForm_99 : decode zb_M_readsForm 99 = .ok (.iastore, 1) := by decide +kernel
theorem zd_M_readsForm_100 : decode zb_M_readsForm 100 = .ok (.aload_n 0, 1) := by decide +kernel
theorem zd_M_readsForm_101 : decode zb_M_readsForm 101 = .ok (.dup, 1) := by decide +kernel
theorem zd_M_readsForm_102 : decode zb_M_readsForm 102 = .ok (.getfield 111, 3) := by decide +kernel
theorem zd_M_readsForm_105 : decode zb_M_readsForm 105 = .ok (.iconst 1, 1) := by decide +kernel
theorem zd_M_readsForm_106 : decode zb_M_readsForm 106 = .ok (.iadd, 1) := by decide +kernel
theorem zd_M_readsForm_107 : decode zb_M_readsForm 107 = .ok (.putfield 111, 3) := by decide +kernel
theorem zd_M_readsForm_110 : decode zb_M_readsForm 110 = .ok (.iinc 4 1, 3) := by decide +kernel
theorem zd_M_readsForm_113 : decode zb_M_readsForm 113 = .ok (.goto (-74), 3) := by decide +kernel
theorem zd_M_readsForm_116 : decode zb_M_readsForm 116 = .ok (.iconst 1, 1) := by decide +kernel
theorem zd_M_readsForm_117 : decode zb_M_readsForm 117 = .ok (.ireturn, 1) := by decide +kernel
def zf_M_readsForm_b76 (rc39 : Int32 → Int32 → Int32 → Int32 → nk_M → Option (Int32 × nk_M)) (y1 : Int32) (y2 : Int32) (y3 : Int32) (y4 : Int32) (y5 : Int32) (u0 : Int64) (u1 : Int64) (u2 : Int64) (m0 : nk_M) : Option (Int32 × nk_M) := nk_bd (zf_M_in u0 u1 u2 m0) (fun r1 m1 => (if r1 = 0 then nk_zr (0 : Int32) m1 else nk_ast m1 8 24 (((3 : Int32) * (m1 0 7)) + y4) y5 (fun m2 => nk_pf m2 0 6 ((m2 0 6) + (1 : Int32)) (fun m3 => (rc39 y1 y2 y3 (y4 + 1) m3)))))
set_option maxHeartbeats 4000000 in
set_option maxRecDepth 100000 in
theorem zs_M_readsForm_b76 {G : nk_V} {X : nk_X}   (C : nk_C "NeedOnceModel" zb_M_readsForm 6 nk_wR G X) (hR : X.2.2.2.1 = nk_rm 2) (hr : X.2.2.2.2.2.2.2.2.1.sig.returnType = (some .boolean)) (rc39 : Int32 → Int32 → Int32 → Int32 → nk_M → Option (Int32 × nk_M)) (hr39 : ∀ (y1 : Int32) (y2 : Int32) (y3 : Int32) (y4 : Int32) (m0 : nk_M), nk_Sim nk_wR G X 6 nk_oi 39 [nk_r G 0, .int y1, .int y2, .int y3, .int y4, .null] [] m0 (rc39 y1 y2 y3 y4 m0)) : ∀ (y1 : Int32) (y2 : Int32) (y3 : Int32) (y4 : Int32) (y5 : Int32) (u0 : Int64) (u1 : Int64) (u2 : Int64) (m0 : nk_M), nk_Sim nk_wR G X 6 nk_oi 76 [nk_r G 0, .int y1, .int y2, .int y3, .int y4, .int y5] [.long u2, .long u1, .long u0] m0 (zf_M_readsForm_b76 rc39 y1 y2 y3 y4 y5 u0 u1 u2 m0) := by
  intro y1 y2 y3 y4 y5 u0 u1 u2 m0
  unfold zf_M_readsForm_b76
  refine nk_callSi C [.long u0, .long u1, .long u2] zv_M_107 hR (zc_M_in u0 u1 u2 m0) (by omega) rfl rfl (Nat.le_of_ble_eq_true rfl) zd_M_readsForm_76 (fun r1 m1 => ?_)
  refine nk_if_ne (tgt := 84) C zd_M_readsForm_79 (by decide) ?_ ?_
  · refine nk_aload_n C zd_M_readsForm_84 rfl rfl ?_
    refine nk_getR C (r := 8) za_M_31 (Nat.le_of_ble_eq_true rfl) rfl rfl zd_M_readsForm_85 ?_
    refine nk_iconst (v := 3) C zd_M_readsForm_88 (by decide) ?_
    refine nk_aload_n C zd_M_readsForm_89 rfl rfl ?_
    refine nk_getI C za_M_122 (Nat.le_of_ble_eq_true rfl) rfl rfl zd_M_readsForm_90 ?_
    refine nk_imul C zd_M_readsForm_93 ?_
    refine nk_iload C zd_M_readsForm_94 rfl ?_
    refine nk_iadd C zd_M_readsForm_96 ?_
    refine nk_iload C zd_M_readsForm_97 rfl ?_
    refine nk_iast C (Nat.le_of_ble_eq_true rfl) rfl zd_M_readsForm_99 (fun m2 => ?_)
    refine nk_aload_n C zd_M_readsForm_100 rfl rfl ?_
    refine nk_dup C zd_M_readsForm_101 rfl ?_
    refine nk_getI C za_M_111 (Nat.le_of_ble_eq_true rfl) rfl rfl zd_M_readsForm_102 ?_
    refine nk_iconst (v := 1) C zd_M_readsForm_105 (by decide) ?_
    refine nk_iadd C zd_M_readsForm_106 ?_
    refine nk_putI C zp_M_111 (Nat.le_of_ble_eq_true rfl) rfl rfl zd_M_readsForm_107 (fun m3 => ?_)
    refine nk_iinc (v0 := y4 + 1) C zd_M_readsForm_110 rfl (nk_inc _ (by decide)) (Nat.le_of_ble_eq_true rfl) rfl ?_
    refine nk_goto (tgt := 39) C zd_M_readsForm_113 (by decide) ?_
    refine nk_wk [true, true, true, true, true, false] ?_
    exact hr39 y1 y2 y3 (y4 + 1) m3
  · refine nk_iconst (v := 0) C zd_M_readsForm_82 (by decide) ?_
    exact nk_zret C hr zd_M_readsForm_83
def zf_M_readsForm_b39  : Nat → Int32 → Int32 → Int32 → Int32 → nk_M → Option (Int32 × nk_M)
  | 0, _, _, _, _, _ => none
  | n0 + 1, y1, y2, y3, y4, m0 => nk_bd (zf_M_partsOf y3 m0) (fun r1 m1 => (if r1 ≤ y4 then nk_zr (1 : Int32) m1 else nk_bd (zf_M_codeAt y1 y2 m1) (fun r2 m2 => nk_nm (r2 - (48 : Int32)) (fun x3 => (if y3 = 0 then (zf_M_readsForm_b76 (zf_M_readsForm_b39 n0) y1 y2 y3 y4 x3 (x3.toInt64) (0 : Int64) (9 : Int64) m2) else (zf_M_readsForm_b76 (zf_M_readsForm_b39 n0) y1 y2 y3 y4 x3 (x3.toInt64) (0 : Int64) (7 : Int64) m2))))))
set_option maxHeartbeats 4000000 in
set_option maxRecDepth 100000 in
theorem zs_M_readsForm_b39 {G : nk_V} {X : nk_X}   (C : nk_C "NeedOnceModel" zb_M_readsForm 6 nk_wR G X) (hR : X.2.2.2.1 = nk_rm 2) (hr : X.2.2.2.2.2.2.2.2.1.sig.returnType = (some .boolean))  : ∀ (n0 : Nat) (y1 : Int32) (y2 : Int32) (y3 : Int32) (y4 : Int32) (m0 : nk_M), nk_Sim nk_wR G X 6 nk_oi 39 [nk_r G 0, .int y1, .int y2, .int y3, .int y4, .null] [] m0 (zf_M_readsForm_b39 n0 y1 y2 y3 y4 m0) := by
  intro n0
  induction n0 with
  | zero => intros; exact nk_none
  | succ n0 ih =>
    intro y1 y2 y3 y4 m0
    rw [zf_M_readsForm_b39]
    refine nk_iload C zd_M_readsForm_39 rfl ?_
    refine nk_iload_n C zd_M_readsForm_41 rfl rfl ?_
    refine nk_callSi C [.int y3] zv_M_125 hR (zc_M_partsOf y3 m0) (by omega) rfl rfl (Nat.le_of_ble_eq_true rfl) zd_M_readsForm_42 (fun r1 m1 => ?_)
    refine nk_icmp_ge (tgt := 116) C zd_M_readsForm_45 (by decide) ?_ ?_
    · refine nk_iconst (v := 1) C zd_M_readsForm_116 (by decide) ?_
      exact nk_zret C hr zd_M_readsForm_117
    · refine nk_aload_n C zd_M_readsForm_48 rfl rfl ?_
      refine nk_iload_n C zd_M_readsForm_49 rfl rfl ?_
      refine nk_iload_n C zd_M_readsForm_50 rfl rfl ?_
      refine nk_callVi C [.int y1, .int y2] zv_M_114 hR (zc_M_codeAt y1 y2 m1) (by omega) (Nat.le_of_ble_eq_true rfl) rfl rfl rfl rfl (Nat.le_of_ble_eq_true rfl) zd_M_readsForm_51 (fun r2 m2 => ?_)
      refine nk_bipush (v := 48) C zd_M_readsForm_54 (by decide) ?_
      refine nk_isub C zd_M_readsForm_56 ?_
      refine nk_named (fun x3 => ?_)
      refine nk_istore C zd_M_readsForm_57 (Nat.le_of_ble_eq_true rfl) rfl ?_
      refine nk_iload C zd_M_readsForm_59 rfl ?_
      refine nk_i2l C zd_M_readsForm_61 ?_
      refine nk_lconst (v := 0) C zd_M_readsForm_62 (by decide) ?_
      refine nk_iload_n C zd_M_readsForm_63 rfl rfl ?_
      refine nk_if_ne (tgt := 73) C zd_M_readsForm_64 (by decide) ?_ ?_
      · refine nk_ldc2 (v := 7) C zw_745 zd_M_readsForm_73 ?_
        exact zs_M_readsForm_b76 C hR hr (zf_M_readsForm_b39 n0) ih y1 y2 y3 y4 x3 (x3.toInt64) (0 : Int64) (7 : Int64) m2
      · refine nk_ldc2 (v := 9) C zw_734 zd_M_readsForm_67 ?_
        refine nk_goto (tgt := 76) C zd_M_readsForm_70 (by decide) ?_
        exact zs_M_readsForm_b76 C hR hr (zf_M_readsForm_b39 n0) ih y1 y2 y3 y4 x3 (x3.toInt64) (0 : Int64) (9 : Int64) m2
def zf_M_readsForm  (a1 : Int32) (a2 : Int32) (m0 : nk_M) : Option (Int32 × nk_M) := nk_bd (zf_M_codeAt a1 a2 m0) (fun r1 m1 => nk_bd (zf_M_formBy r1 m1) (fun r2 m2 => (if 0 ≤ r2 then nk_pf m2 0 6 ((m2 0 6) + (1 : Int32)) (fun m3 => nk_ast m3 7 8 (m3 0 7) r2 (fun m4 => (zf_M_readsForm_b39 nk_fu a1 a2 r2 (0 : Int32) m4))) else nk_zr (0 : Int32) m2)))
set_option maxHeartbeats 4000000 in
set_option maxRecDepth 100000 in
theorem zc_M_readsForm {l : Launch} {G : nk_V}   (a1 : Int32) (a2 : Int32) (m0 : nk_M) : nk_Ct l nk_wR G 2 zy_M_readsForm zb_M_readsForm 6 (some .boolean) nk_oi [nk_r G 0, .int a1, .int a2] m0 (zf_M_readsForm  a1 a2 m0) := by
  refine nk_ent (own := "NeedOnceModel") (lv := [nk_r G 0, .int a1, .int a2, .null, .null, .null]) 3 rfl (by decide) (Nat.le_of_ble_eq_true rfl) rfl (fun X hl hR C hr => ?_)
  subst hl
  unfold zf_M_readsForm
  refine nk_aload_n C zd_M_readsForm_0 rfl rfl ?_
  refine nk_iload_n C zd_M_readsForm_1 rfl rfl ?_
  refine nk_iload_n C zd_M_readsForm_2 rfl rfl ?_
  refine nk_callVi C [.int a1, .int a2] zv_M_114 hR (zc_M_codeAt a1 a2 m0) (by omega) (Nat.le_of_ble_eq_true rfl) rfl rfl rfl rfl (Nat.le_of_ble_eq_true rfl) zd_M_readsForm_3 (fun r1 m1 => ?_)
  refine nk_callSi C [.int r1] zv_M_118 hR (zc_M_formBy r1 m1) (by omega) rfl rfl (Nat.le_of_ble_eq_true rfl) zd_M_readsForm_6 (fun r2 m2 => ?_)
  refine nk_istore_n C zd_M_readsForm_9 rfl (Nat.le_of_ble_eq_true rfl) rfl ?_
  refine nk_iload_n C zd_M_readsForm_10 rfl rfl ?_
  refine nk_if_ge (tgt := 16) C zd_M_readsForm_11 (by decide) ?_ ?_
  · refine nk_aload_n C zd_M_readsForm_16 rfl rfl ?_
    refine nk_dup C zd_M_readsForm_17 rfl ?_
    refine nk_getI C za_M_111 (Nat.le_of_ble_eq_true rfl) rfl rfl zd_M_readsForm_18 ?_
    refine nk_iconst (v := 1) C zd_M_readsForm_21 (by decide) ?_
    refine nk_iadd C zd_M_readsForm_22 ?_
    refine nk_putI C zp_M_111 (Nat.le_of_ble_eq_true rfl) rfl rfl zd_M_readsForm_23 (fun m3 => ?_)
    refine nk_aload_n C zd_M_readsForm_26 rfl rfl ?_
    refine nk_getR C (r := 7) za_M_28 (Nat.le_of_ble_eq_true rfl) rfl rfl zd_M_readsForm_27 ?_
    refine nk_aload_n C zd_M_readsForm_30 rfl rfl ?_
    refine nk_getI C za_M_122 (Nat.le_of_ble_eq_true rfl) rfl rfl zd_M_readsForm_31 ?_
    refine nk_iload_n C zd_M_readsForm_34 rfl rfl ?_
    refine nk_iast C (Nat.le_of_ble_eq_true rfl) rfl zd_M_readsForm_35 (fun m4 => ?_)
    refine nk_iconst (v := 0) C zd_M_readsForm_36 (by decide) ?_
    refine nk_istore C zd_M_readsForm_37 (Nat.le_of_ble_eq_true rfl) rfl ?_
    exact zs_M_readsForm_b39 C hR hr nk_fu a1 a2 r2 (0 : Int32) m4
  · refine nk_iconst (v := 0) C zd_M_readsForm_14 (by decide) ?_
    exact nk_zret C hr zd_M_readsForm_15
theorem zd_M_readsCell_0 : decode zb_M_readsCell 0 = .ok (.aload_n 0, 1) := by decide +kernel
theorem zd_M_readsCell_1 : decode zb_M_readsCell 1 = .ok (.getfield 122, 3) := by decide +kernel
theorem zd_M_readsCell_4 : decode zb_M_readsCell 4 = .ok (.bipush 8, 2) := by decide +kernel
theorem zd_M_readsCell_6 : decode zb_M_readsCell 6 = .ok (.if_icmp .eq 14, 3) := by decide +kernel
theorem zd_M_readsCell_9 : decode zb_M_readsCell 9 = .ok (.aload_n 0, 1) := by decide +kernel
theorem zd_M_readsCell_10 : decode zb_M_readsCell 10 = .ok (.iload_n 1, 1) := by decide +kernel
theorem zd_M_readsCell_11 : decode zb_M_readsCell 11 = .ok (.iload_n 2, 1) := by decide +kernel
theorem zd_M_readsCell_12 : decode zb_M_readsCell 12 = .ok (.invokevirtual 114, 3) := by decide +kernel
theorem zd_M_readsCell_15 : decode zb_M_readsCell 15 = .ok (.bipush 59, 2) := by decide +kernel
theorem zd_M_readsCell_17 : decode zb_M_readsCell 17 = .ok (.if_icmp .eq 5, 3) := by decide +kernel
theorem zd_M_readsCell_20 : decode zb_M_readsCell 20 = .ok (.iconst 0, 1) := by decide +kernel
theorem zd_M_readsCell_21 : decode zb_M_readsCell 21 = .ok (.ireturn, 1) := by decide +kernel
theorem zd_M_readsCell_22 : decode zb_M_readsCell 22 = .ok (.aload_n 0, 1) := by decide +kernel
theorem zd_M_readsCell_23 : decode zb_M_readsCell 23 = .ok (.dup, 1) := by decide +kernel
theorem zd_M_readsCell_24 : decode zb_M_readsCell 24 = .ok (.getfield 111, 3) := by decide +kernel
theorem zd_M_readsCell_27 : decode zb_M_readsCell 27 = .ok (.iconst 1, 1) := by decide +kernel
theorem zd_M_readsCell_28 : decode zb_M_readsCell 28 = .ok (.iadd, 1) := by decide +kernel
theorem zd_M_readsCell_29 : decode zb_M_readsCell 29 = .ok (.putfield 111, 3) := by decide +kernel
theorem zd_M_readsCell_32 : decode zb_M_readsCell 32 = .ok (.aload_n 0, 1) := by decide +kernel
theorem zd_M_readsCell_33 : decode zb_M_readsCell 33 = .ok (.iload_n 1, 1) := by decide +kernel
theorem zd_M_readsCell_34 : decode zb_M_readsCell 34 = .ok (.iload_n 2, 1) := by decide +kernel
theorem zd_M_readsCell_35 : decode zb_M_readsCell 35 = .ok (.invokevirtual 114, 3) := by decide +kernel
theorem zd_M_readsCell_38 : decode zb_M_readsCell 38 = .ok (.istore_n 3, 1) := by decide +kernel
theorem zd_M_readsCell_39 : decode zb_M_readsCell 39 = .ok (.iload_n 3, 1) := by decide +kernel
theorem zd_M_readsCell_40 : decode zb_M_readsCell 40 = .ok (.bipush 112, 2) := by decide +kernel
theorem zd_M_readsCell_42 : decode zb_M_readsCell 42 = .ok (.if_icmp .eq 17, 3) := by decide +kernel
theorem zd_M_readsCell_45 : decode zb_M_readsCell 45 = .ok (.iload_n 3, 1) := by decide +kernel
theorem zd_M_readsCell_46 : decode zb_M_readsCell 46 = .ok (.bipush 100, 2) := by decide +kernel
theorem zd_M_readsCell_48 : decode zb_M_readsCell 48 = .ok (.if_icmp .eq 11, 3) := by decide +kernel
theorem zd_M_readsCell_51 : decode zb_M_readsCell 51 = .ok (.iload_n 3, 1) := by decide +kernel
theorem zd_M_readsCell_52 : decode zb_M_readsCell 52 = .ok (.bipush 119, 2) := by decide +kernel
theorem zd_M_readsCell_54 : decode zb_M_readsCell 54 = .ok (.if_icmp .eq 5, 3) := by decide +kernel
theorem zd_M_readsCell_57 : decode zb_M_readsCell 57 = .ok (.iconst 0, 1) := by decide +kernel
theorem zd_M_readsCell_58 : decode zb_M_readsCell 58 = .ok (.ireturn, 1) := by decide +kernel
theorem zd_M_readsCell_59 : decode zb_M_readsCell 59 = .ok (.aload_n 0, 1) := by decide +kernel
theorem zd_M_readsCell_60 : decode zb_M_readsCell 60 = .ok (.dup, 1) := by decide +kernel
theorem zd_M_readsCell_61 : decode zb_M_readsCell 61 = .ok (.getfield 111, 3) := by decide +kernel
theorem zd_M_readsCell_64 : decode zb_M_readsCell 64 = .ok (.iconst 1, 1) := by decide +kernel
theorem zd_M_readsCell_65 : decode zb_M_readsCell 65 = .ok (.iadd, 1) := by decide +kernel
theorem zd_M_readsCell_66 : decode zb_M_readsCell 66 = .ok (.putfield 111, 3) := by decide +kernel
theorem zd_M_readsCell_69 : decode zb_M_readsCell 69 = .ok (.aload_n 0, 1) := by decide +kernel
theorem zd_M_readsCell_70 : decode zb_M_readsCell 70 = .ok (.iload_n 1, 1) := by decide +kernel
theorem zd_M_readsCell_71 : decode zb_M_readsCell 71 = .ok (.iload_n 2, 1) := by decide +kernel
theorem zd_M_readsCell_72 : decode zb_M_readsCell 72 = .ok (.invokevirtual 114, 3) := by decide +kernel
theorem zd_M_readsCell_75 : decode zb_M_readsCell 75 = .ok (.bipush 48, 2) := by decide +kernel
theorem zd_M_readsCell_77 : decode zb_M_readsCell 77 = .ok (.isub, 1) := by decide +kernel
theorem zd_M_readsCell_78 : decode zb_M_readsCell 78 = .ok (.istore 4, 2) := by decide +kernel
theorem zd_M_readsCell_80 : decode zb_M_readsCell 80 = .ok (.iload 4, 2) := by decide +kernel
theorem zd_M_readsCell_82 : decode zb_M_readsCell 82 = .ok (.i2l, 1) := by decide +kernel
theorem zd_M_readsCell_83 : decode zb_M_readsCell 83 = .ok (.lconst 1, 1) := by decide +kernel
theorem zd_M_readsCell_84 : decode zb_M_readsCell 84 = .ok (.ldc2_w 128, 3) := by decide +kernel
theorem zd_M_readsCell_87 : decode zb_M_readsCell 87 = .ok (.invokestatic 107, 3) := by decide +kernel
theorem zd_M_readsCell_90 : decode zb_M_readsCell 90 = .ok (.ifCond .ne 5, 3) := by decide +kernel
theorem zd_M_readsCell_93 : decode zb_M_readsCell 93 = .ok (.iconst 0, 1) := by decide +kernel
theorem zd_M_readsCell_94 : decode zb_M_readsCell 94 = .ok (.ireturn, 1) := by decide +kernel
theorem zd_M_readsCell_95 : decode zb_M_readsCell 95 = .ok (.aload_n 0, 1) := by decide +kernel
theorem zd_M_readsCell_96 : decode zb_M_readsCell 96 = .ok (.dup, 1) := by decide +kernel
theorem zd_M_readsCell_97 : decode zb_M_readsCell 97 = .ok (.getfield 111, 3) := by decide +kernel
theorem zd_M_readsCell_100 : decode zb_M_readsCell 100 = .ok (.iconst 1, 1) := by decide +kernel
theorem zd_M_readsCell_101 : decode zb_M_readsCell 101 = .ok (.iadd, 1) := by decide +kernel
theorem zd_M_readsCell_102 : decode zb_M_readsCell 102 = .ok (.putfield 111, 3) := by decide +kernel
theorem zd_M_readsCell_105 : decode zb_M_readsCell 105 = .ok (.aload_n 0, 1) := by decide +kernel
theorem zd_M_readsCell_106 : decode zb_M_readsCell 106 = .ok (.getfield 22, 3) := by decide +kernel
theorem zd_M_readsCell_109 : decode zb_M_readsCell 109 = .ok (.aload_n 0, 1) := by decide +kernel
theorem zd_M_readsCell_110 : decode zb_M_readsCell 110 = .ok (.getfield 122, 3) := by decide +kernel
theorem zd_M_readsCell_113 : decode zb_M_readsCell 113 = .ok (.iload_n 3, 1) := by decide +kernel
theorem zd_M_readsCell_114 : decode zb_M_readsCell 114 = .ok (.bipush 112, 2) := by decide +kernel
theorem zd_M_readsCell_116 : decode zb_M_readsCell 116 = .ok (.if_icmp .ne 7, 3) := by decide +kernel
theorem zd_M_readsCell_119 : decode zb_M_readsCell 119 = .ok (.iconst 0, 1) := by decide +kernel
theorem zd_M_readsCell_120 : decode zb_M_readsCell 120 = .ok (.goto 14, 3) := by decide +kernel
theorem zd_M_readsCell_123 : decode zb_M_readsCell 123 = .ok (.iload_n 3, 1) := by decide +kernel
theorem zd_M_readsCell_124 : decode zb_M_readsCell 124 = .ok (.bipush 100, 2) := by decide +kernel
theorem zd_M_readsCell_126 : decode zb_M_readsCell 126 = .ok (.if_icmp .ne 7, 3) := by decide +kernel
theorem zd_M_readsCell_129 : decode zb_M_readsCell 129 = .ok (.iconst 1, 1) := by decide +kernel
theorem zd_M_readsCell_130 : decode zb_M_readsCell 130 = .ok (.goto 4, 3) := by decide +kernel
theorem zd_M_readsCell_133 : decode zb_M_readsCell 133 = .ok (.iconst 2, 1) := by decide +kernel
theorem zd_M_readsCell_134 : decode zb_M_readsCell 134 = .ok (.iastore, 1) := by decide +kernel
theorem zd_M_readsCell_135 : decode zb_M_readsCell 135 = .ok (.aload_n 0, 1) := by decide +kernel
theorem zd_M_readsCell_136 : decode zb_M_readsCell 136 = .ok (.getfield 25, 3) := by decide +kernel
theorem zd_M_readsCell_139 : decode zb_M_readsCell 139 = .ok (.aload_n 0, 1) := by decide +kernel
theorem zd_M_readsCell_140 : decode zb_M_readsCell 140 = .ok (.getfield 122, 3) := by decide +kernel
theorem zd_M_readsCell_143 : decode zb_M_readsCell 143 = .ok (.iload 4, 2) := by decide +kernel
theorem zd_M_readsCell_145 : decode zb_M_readsCell 145 = .ok (.iastore, 1) := by decide +kernel
theorem zd_M_readsCell_146 : decode zb_M_readsCell 146 = .ok (.aload_n 0, 1) := by decide +kernel
theorem zd_M_readsCell_147 : decode zb_M_readsCell 147 = .ok (.iload_n 1, 1) := by decide +kernel
theorem zd_M_readsCell_148 : decode zb_M_readsCell 148 = .ok (.iload_n 2, 1) := by decide +kernel
theorem zd_M_readsCell_149 : decode zb_M_readsCell 149 = .ok (.invokevirtual 132, 3) := by decide +kernel
theorem zd_M_readsCell_152 : decode zb_M_readsCell 152 = .ok (.istore 5, 2) := by decide +kernel
theorem zd_M_readsCell_154 : decode zb_M_readsCell 154 = .ok (.aload_n 0, 1) := by decide +kernel
theorem zd_M_readsCell_155 : decode zb_M_readsCell 155 = .ok (.dup, 1) := by decide +kernel
theorem zd_M_readsCell_156 : decode zb_M_readsCell 156 = .ok (.getfield 122, 3) := by decide +kernel
theorem zd_M_readsCell_159 : decode zb_M_readsCell 159 = .ok (.iload 5, 2) := by decide +kernel
theorem zd_M_readsCell_161 : decode zb_M_readsCell 161 = .ok (.ifCond .eq 7, 3) := by decide +kernel
theorem zd_M_readsCell_164 : decode zb_M_readsCell 164 = .ok (.iconst 1, 1) := by decide +kernel
theorem zd_M_readsCell_165 : decode zb_M_readsCell 165 = .ok (.goto 4, 3) := by decide +kernel
theorem zd_M_readsCell_168 : decode zb_M_readsCell 168 = .ok (.iconst 0, 1) := by decide +kernel
theorem zd_M_readsCell_169 : decode zb_M_readsCell 169 = .ok (.iadd, 1) := by decide +kernel
theorem zd_M_readsCell_170 : decode zb_M_readsCell 170 = .ok (.putfield 122, 3) := by decide +kernel
theorem zd_M_readsCell_173 : decode zb_M_readsCell 173 = .ok (.iload 5, 2) := by decide +kernel
theorem zd_M_readsCell_175 : decode zb_M_readsCell 175 = .ok (.ireturn, 1) := by decide +kernel
def zf_M_readsCell_b20   (m0 : nk_M) : Option (Int32 × nk_M) := nk_zr (0 : Int32) m0
set_option maxHeartbeats 4000000 in
set_option maxRecDepth 100000 in
theorem zs_M_readsCell_b20 {G : nk_V} {X : nk_X}   (C : nk_C "NeedOnceModel" zb_M_readsCell 6 nk_wR G X) (hR : X.2.2.2.1 = nk_rm 3) (hr : X.2.2.2.2.2.2.2.2.1.sig.returnType = (some .boolean))  : ∀  (m0 : nk_M), nk_Sim nk_wR G X 6 nk_oi 20 [nk_r G 0, .null, .null, .null, .null, .null] [] m0 (zf_M_readsCell_b20  m0) := by
  intro m0
  unfold zf_M_readsCell_b20
  refine nk_iconst (v := 0) C zd_M_readsCell_20 (by decide) ?_
  exact nk_zret C hr zd_M_readsCell_21
def zf_M_readsCell_b169  (y5 : Int32) (u1 : Int32) (u2 : Int32) (m0 : nk_M) : Option (Int32 × nk_M) := nk_pf m0 0 7 (u1 + u2) (fun m1 => nk_zr y5 m1)
set_option maxHeartbeats 4000000 in
set_option maxRecDepth 100000 in
theorem zs_M_readsCell_b169 {G : nk_V} {X : nk_X}   (C : nk_C "NeedOnceModel" zb_M_readsCell 6 nk_wR G X) (hR : X.2.2.2.1 = nk_rm 3) (hr : X.2.2.2.2.2.2.2.2.1.sig.returnType = (some .boolean))  : ∀ (y5 : Int32) (u1 : Int32) (u2 : Int32) (m0 : nk_M), nk_Sim nk_wR G X 6 nk_oi 169 [nk_r G 0, .null, .null, .null, .null, .int y5] [.int u2, .int u1, nk_r G 0] m0 (zf_M_readsCell_b169 y5 u1 u2 m0) := by
  intro y5 u1 u2 m0
  unfold zf_M_readsCell_b169
  refine nk_iadd C zd_M_readsCell_169 ?_
  refine nk_putI C zp_M_122 (Nat.le_of_ble_eq_true rfl) rfl rfl zd_M_readsCell_170 (fun m1 => ?_)
  refine nk_iload C zd_M_readsCell_173 rfl ?_
  exact nk_zret C hr zd_M_readsCell_175
def zf_M_readsCell_b134  (y1 : Int32) (y2 : Int32) (y4 : Int32) (u1 : Int32) (u2 : Int32) (m0 : nk_M) : Option (Int32 × nk_M) := nk_ast m0 5 8 u1 u2 (fun m1 => nk_ast m1 6 8 (m1 0 7) y4 (fun m2 => nk_bd (zf_M_readsForm y1 y2 m2) (fun r1 m3 => (if r1 = 0 then (zf_M_readsCell_b169 r1 (m3 0 7) (0 : Int32) m3) else (zf_M_readsCell_b169 r1 (m3 0 7) (1 : Int32) m3)))))
set_option maxHeartbeats 4000000 in
set_option maxRecDepth 100000 in
theorem zs_M_readsCell_b134 {G : nk_V} {X : nk_X}   (C : nk_C "NeedOnceModel" zb_M_readsCell 6 nk_wR G X) (hR : X.2.2.2.1 = nk_rm 3) (hr : X.2.2.2.2.2.2.2.2.1.sig.returnType = (some .boolean))  : ∀ (y1 : Int32) (y2 : Int32) (y4 : Int32) (u1 : Int32) (u2 : Int32) (m0 : nk_M), nk_Sim nk_wR G X 6 nk_oi 134 [nk_r G 0, .int y1, .int y2, .null, .int y4, .null] [.int u2, .int u1, nk_r G 5] m0 (zf_M_readsCell_b134 y1 y2 y4 u1 u2 m0) := by
  intro y1 y2 y4 u1 u2 m0
  unfold zf_M_readsCell_b134
  refine nk_iast C (Nat.le_of_ble_eq_true rfl) rfl zd_M_readsCell_134 (fun m1 => ?_)
  refine nk_aload_n C zd_M_readsCell_135 rfl rfl ?_
  refine nk_getR C (r := 6) za_M_25 (Nat.le_of_ble_eq_true rfl) rfl rfl zd_M_readsCell_136 ?_
  refine nk_aload_n C zd_M_readsCell_139 rfl rfl ?_
  refine nk_getI C za_M_122 (Nat.le_of_ble_eq_true rfl) rfl rfl zd_M_readsCell_140 ?_
  refine nk_iload C zd_M_readsCell_143 rfl ?_
  refine nk_iast C (Nat.le_of_ble_eq_true rfl) rfl zd_M_readsCell_145 (fun m2 => ?_)
  refine nk_aload_n C zd_M_readsCell_146 rfl rfl ?_
  refine nk_iload_n C zd_M_readsCell_147 rfl rfl ?_
  refine nk_iload_n C zd_M_readsCell_148 rfl rfl ?_
  refine nk_callVi C [.int y1, .int y2] zv_M_132 hR (zc_M_readsForm y1 y2 m2) (by omega) (Nat.le_of_ble_eq_true rfl) rfl rfl rfl rfl (Nat.le_of_ble_eq_true rfl) zd_M_readsCell_149 (fun r1 m3 => ?_)
  refine nk_istore C zd_M_readsCell_152 (Nat.le_of_ble_eq_true rfl) rfl ?_
  refine nk_aload_n C zd_M_readsCell_154 rfl rfl ?_
  refine nk_dup C zd_M_readsCell_155 rfl ?_
  refine nk_getI C za_M_122 (Nat.le_of_ble_eq_true rfl) rfl rfl zd_M_readsCell_156 ?_
  refine nk_iload C zd_M_readsCell_159 rfl ?_
  refine nk_if_eq (tgt := 168) C zd_M_readsCell_161 (by decide) ?_ ?_
  · refine nk_iconst (v := 0) C zd_M_readsCell_168 (by decide) ?_
    refine nk_wk [true, false, false, false, false, true] ?_
    exact zs_M_readsCell_b169 C hR hr r1 (m3 0 7) (0 : Int32) m3
  · refine nk_iconst (v := 1) C zd_M_readsCell_164 (by decide) ?_
    refine nk_goto (tgt := 169) C zd_M_readsCell_165 (by decide) ?_
    refine nk_wk [true, false, false, false, false, true] ?_
    exact zs_M_readsCell_b169 C hR hr r1 (m3 0 7) (1 : Int32) m3
def zf_M_readsCell_b59  (y1 : Int32) (y2 : Int32) (y3 : Int32) (m0 : nk_M) : Option (Int32 × nk_M) := nk_pf m0 0 6 ((m0 0 6) + (1 : Int32)) (fun m1 => nk_bd (zf_M_codeAt y1 y2 m1) (fun r1 m2 => nk_nm (r1 - (48 : Int32)) (fun x2 => nk_bd (zf_M_in (x2.toInt64) (1 : Int64) (9 : Int64) m2) (fun r3 m3 => (if r3 = 0 then nk_zr (0 : Int32) m3 else nk_pf m3 0 6 ((m3 0 6) + (1 : Int32)) (fun m4 => (if y3 = (112 : Int32) then (zf_M_readsCell_b134 y1 y2 x2 (m4 0 7) (0 : Int32) m4) else (if y3 = (100 : Int32) then (zf_M_readsCell_b134 y1 y2 x2 (m4 0 7) (1 : Int32) m4) else (zf_M_readsCell_b134 y1 y2 x2 (m4 0 7) (2 : Int32) m4)))))))))
set_option maxHeartbeats 4000000 in
set_option maxRecDepth 100000 in
theorem zs_M_readsCell_b59 {G : nk_V} {X : nk_X}   (C : nk_C "NeedOnceModel" zb_M_readsCell 6 nk_wR G X) (hR : X.2.2.2.1 = nk_rm 3) (hr : X.2.2.2.2.2.2.2.2.1.sig.returnType = (some .boolean))  : ∀ (y1 : Int32) (y2 : Int32) (y3 : Int32) (m0 : nk_M), nk_Sim nk_wR G X 6 nk_oi 59 [nk_r G 0, .int y1, .int y2, .int y3, .null, .null] [] m0 (zf_M_readsCell_b59 y1 y2 y3 m0) := by
  intro y1 y2 y3 m0
  unfold zf_M_readsCell_b59
  refine nk_aload_n C zd_M_readsCell_59 rfl rfl ?_
  refine nk_dup C zd_M_readsCell_60 rfl ?_
  refine nk_getI C za_M_111 (Nat.le_of_ble_eq_true rfl) rfl rfl zd_M_readsCell_61 ?_
  refine nk_iconst (v := 1) C zd_M_readsCell_64 (by decide) ?_
  refine nk_iadd C zd_M_readsCell_65 ?_
  refine nk_putI C zp_M_111 (Nat.le_of_ble_eq_true rfl) rfl rfl zd_M_readsCell_66 (fun m1 => ?_)
  refine nk_aload_n C zd_M_readsCell_69 rfl rfl ?_
  refine nk_iload_n C zd_M_readsCell_70 rfl rfl ?_
  refine nk_iload_n C zd_M_readsCell_71 rfl rfl ?_
  refine nk_callVi C [.int y1, .int y2] zv_M_114 hR (zc_M_codeAt y1 y2 m1) (by omega) (Nat.le_of_ble_eq_true rfl) rfl rfl rfl rfl (Nat.le_of_ble_eq_true rfl) zd_M_readsCell_72 (fun r1 m2 => ?_)
  refine nk_bipush (v := 48) C zd_M_readsCell_75 (by decide) ?_
  refine nk_isub C zd_M_readsCell_77 ?_
  refine nk_named (fun x2 => ?_)
  refine nk_istore C zd_M_readsCell_78 (Nat.le_of_ble_eq_true rfl) rfl ?_
  refine nk_iload C zd_M_readsCell_80 rfl ?_
  refine nk_i2l C zd_M_readsCell_82 ?_
  refine nk_lconst (v := 1) C zd_M_readsCell_83 (by decide) ?_
  refine nk_ldc2 (v := 9) C zw_734 zd_M_readsCell_84 ?_
  refine nk_callSi C [.long (x2.toInt64), .long (1 : Int64), .long (9 : Int64)] zv_M_107 hR (zc_M_in (x2.toInt64) (1 : Int64) (9 : Int64) m2) (by omega) rfl rfl (Nat.le_of_ble_eq_true rfl) zd_M_readsCell_87 (fun r3 m3 => ?_)
  refine nk_if_ne (tgt := 95) C zd_M_readsCell_90 (by decide) ?_ ?_
  · refine nk_aload_n C zd_M_readsCell_95 rfl rfl ?_
    refine nk_dup C zd_M_readsCell_96 rfl ?_
    refine nk_getI C za_M_111 (Nat.le_of_ble_eq_true rfl) rfl rfl zd_M_readsCell_97 ?_
    refine nk_iconst (v := 1) C zd_M_readsCell_100 (by decide) ?_
    refine nk_iadd C zd_M_readsCell_101 ?_
    refine nk_putI C zp_M_111 (Nat.le_of_ble_eq_true rfl) rfl rfl zd_M_readsCell_102 (fun m4 => ?_)
    refine nk_aload_n C zd_M_readsCell_105 rfl rfl ?_
    refine nk_getR C (r := 5) za_M_22 (Nat.le_of_ble_eq_true rfl) rfl rfl zd_M_readsCell_106 ?_
    refine nk_aload_n C zd_M_readsCell_109 rfl rfl ?_
    refine nk_getI C za_M_122 (Nat.le_of_ble_eq_true rfl) rfl rfl zd_M_readsCell_110 ?_
    refine nk_iload_n C zd_M_readsCell_113 rfl rfl ?_
    refine nk_bipush (v := 112) C zd_M_readsCell_114 (by decide) ?_
    refine nk_icmp_ne (tgt := 123) C zd_M_readsCell_116 (by decide) ?_ ?_
    · refine nk_iload_n C zd_M_readsCell_123 rfl rfl ?_
      refine nk_bipush (v := 100) C zd_M_readsCell_124 (by decide) ?_
      refine nk_icmp_ne (tgt := 133) C zd_M_readsCell_126 (by decide) ?_ ?_
      · refine nk_iconst (v := 2) C zd_M_readsCell_133 (by decide) ?_
        refine nk_wk [true, true, true, false, true, false] ?_
        exact zs_M_readsCell_b134 C hR hr y1 y2 x2 (m4 0 7) (2 : Int32) m4
      · refine nk_iconst (v := 1) C zd_M_readsCell_129 (by decide) ?_
        refine nk_goto (tgt := 134) C zd_M_readsCell_130 (by decide) ?_
        refine nk_wk [true, true, true, false, true, false] ?_
        exact zs_M_readsCell_b134 C hR hr y1 y2 x2 (m4 0 7) (1 : Int32) m4
    · refine nk_iconst (v := 0) C zd_M_readsCell_119 (by decide) ?_
      refine nk_goto (tgt := 134) C zd_M_readsCell_120 (by decide) ?_
      refine nk_wk [true, true, true, false, true, false] ?_
      exact zs_M_readsCell_b134 C hR hr y1 y2 x2 (m4 0 7) (0 : Int32) m4
  · refine nk_iconst (v := 0) C zd_M_readsCell_93 (by decide) ?_
    exact nk_zret C hr zd_M_readsCell_94
def zf_M_readsCell  (a1 : Int32) (a2 : Int32) (m0 : nk_M) : Option (Int32 × nk_M) := (if (m0 0 7) = (8 : Int32) then (zf_M_readsCell_b20 m0) else nk_bd (zf_M_codeAt a1 a2 m0) (fun r1 m1 => (if r1 = (59 : Int32) then nk_pf m1 0 6 ((m1 0 6) + (1 : Int32)) (fun m2 => nk_bd (zf_M_codeAt a1 a2 m2) (fun r2 m3 => (if r2 = (112 : Int32) then (zf_M_readsCell_b59 a1 a2 r2 m3) else (if r2 = (100 : Int32) then (zf_M_readsCell_b59 a1 a2 r2 m3) else (if r2 = (119 : Int32) then (zf_M_readsCell_b59 a1 a2 r2 m3) else nk_zr (0 : Int32) m3))))) else (zf_M_readsCell_b20 m1))))
set_option maxHeartbeats 4000000 in
set_option maxRecDepth 100000 in
theorem zc_M_readsCell {l : Launch} {G : nk_V}   (a1 : Int32) (a2 : Int32) (m0 : nk_M) : nk_Ct l nk_wR G 3 zy_M_readsCell zb_M_readsCell 6 (some .boolean) nk_oi [nk_r G 0, .int a1, .int a2] m0 (zf_M_readsCell  a1 a2 m0) := by
  refine nk_ent (own := "NeedOnceModel") (lv := [nk_r G 0, .int a1, .int a2, .null, .null, .null]) 3 rfl (by decide) (Nat.le_of_ble_eq_true rfl) rfl (fun X hl hR C hr => ?_)
  subst hl
  unfold zf_M_readsCell
  refine nk_aload_n C zd_M_readsCell_0 rfl rfl ?_
  refine nk_getI C za_M_122 (Nat.le_of_ble_eq_true rfl) rfl rfl zd_M_readsCell_1 ?_
  refine nk_bipush (v := 8) C zd_M_readsCell_4 (by decide) ?_
  refine nk_icmp_eq (tgt := 20) C zd_M_readsCell_6 (by decide) ?_ ?_
  · refine nk_wk [true, false, false, false, false, false] ?_
    exact zs_M_readsCell_b20 C hR hr m0
  · refine nk_aload_n C zd_M_readsCell_9 rfl rfl ?_
    refine nk_iload_n C zd_M_readsCell_10 rfl rfl ?_
    refine nk_iload_n C zd_M_readsCell_11 rfl rfl ?_
    refine nk_callVi C [.int a1, .int a2] zv_M_114 hR (zc_M_codeAt a1 a2 m0) (by omega) (Nat.le_of_ble_eq_true rfl) rfl rfl rfl rfl (Nat.le_of_ble_eq_true rfl) zd_M_readsCell_12 (fun r1 m1 => ?_)
    refine nk_bipush (v := 59) C zd_M_readsCell_15 (by decide) ?_
    refine nk_icmp_eq (tgt := 22) C zd_M_readsCell_17 (by decide) ?_ ?_
    · refine nk_aload_n C zd_M_readsCell_22 rfl rfl ?_
      refine nk_dup C zd_M_readsCell_23 rfl ?_
      refine nk_getI C za_M_111 (Nat.le_of_ble_eq_true rfl) rfl rfl zd_M_readsCell_24 ?_
      refine nk_iconst (v := 1) C zd_M_readsCell_27 (by decide) ?_
      refine nk_iadd C zd_M_readsCell_28 ?_
      refine nk_putI C zp_M_111 (Nat.le_of_ble_eq_true rfl) rfl rfl zd_M_readsCell_29 (fun m2 => ?_)
      refine nk_aload_n C zd_M_readsCell_32 rfl rfl ?_
      refine nk_iload_n C zd_M_readsCell_33 rfl rfl ?_
      refine nk_iload_n C zd_M_readsCell_34 rfl rfl ?_
      refine nk_callVi C [.int a1, .int a2] zv_M_114 hR (zc_M_codeAt a1 a2 m2) (by omega) (Nat.le_of_ble_eq_true rfl) rfl rfl rfl rfl (Nat.le_of_ble_eq_true rfl) zd_M_readsCell_35 (fun r2 m3 => ?_)
      refine nk_istore_n C zd_M_readsCell_38 rfl (Nat.le_of_ble_eq_true rfl) rfl ?_
      refine nk_iload_n C zd_M_readsCell_39 rfl rfl ?_
      refine nk_bipush (v := 112) C zd_M_readsCell_40 (by decide) ?_
      refine nk_icmp_eq (tgt := 59) C zd_M_readsCell_42 (by decide) ?_ ?_
      · exact zs_M_readsCell_b59 C hR hr a1 a2 r2 m3
      · refine nk_iload_n C zd_M_readsCell_45 rfl rfl ?_
        refine nk_bipush (v := 100) C zd_M_readsCell_46 (by decide) ?_
        refine nk_icmp_eq (tgt := 59) C zd_M_readsCell_48 (by decide) ?_ ?_
        · exact zs_M_readsCell_b59 C hR hr a1 a2 r2 m3
        · refine nk_iload_n C zd_M_readsCell_51 rfl rfl ?_
          refine nk_bipush (v := 119) C zd_M_readsCell_52 (by decide) ?_
          refine nk_icmp_eq (tgt := 59) C zd_M_readsCell_54 (by decide) ?_ ?_
          · exact zs_M_readsCell_b59 C hR hr a1 a2 r2 m3
          · refine nk_iconst (v := 0) C zd_M_readsCell_57 (by decide) ?_
            exact nk_zret C hr zd_M_readsCell_58
    · refine nk_wk [true, false, false, false, false, false] ?_
      exact zs_M_readsCell_b20 C hR hr m1
theorem zd_M_readsCells_0 : decode zb_M_readsCells 0 = .ok (.aload_n 0, 1) := by decide +kernel
theorem zd_M_readsCells_1 : decode zb_M_readsCells 1 = .ok (.iconst 0, 1) := by decide +kernel
theorem zd_M_readsCells_2 : decode zb_M_readsCells 2 = .ok (.putfield 111, 3) := by decide +kernel
theorem zd_M_readsCells_5 : decode zb_M_readsCells 5 = .ok (.aload_n 0, 1) := by decide +kernel
theorem zd_M_readsCells_6 : decode zb_M_readsCells 6 = .ok (.iconst 0, 1) := by decide +kernel
theorem zd_M_readsCells_7 : decode zb_M_readsCells 7 = .ok (.putfield 122, 3) := by decide +kernel
theorem zd_M_readsCells_10 : decode zb_M_readsCells 10 = .ok (.aload_n 0, 1) := by decide +kernel
theorem zd_M_readsCells_11 : decode zb_M_readsCells 11 = .ok (.iload_n 1, 1) := by decide +kernel
theorem zd_M_readsCells_12 : decode zb_M_readsCells 12 = .ok (.iload_n 2, 1) := by decide +kernel
theorem zd_M_readsCells_13 : decode zb_M_readsCells 13 = .ok (.invokevirtual 114, 3) := by decide +kernel
theorem zd_M_readsCells_16 : decode zb_M_readsCells 16 = .ok (.bipush 108, 2) := by decide +kernel
theorem zd_M_readsCells_18 : decode zb_M_readsCells 18 = .ok (.if_icmp .eq 5, 3) := by decide +kernel
theorem zd_M_readsCells_21 : decode zb_M_readsCells 21 = .ok (.iconst 0, 1) := by decide +kernel
theorem zd_M_readsCells_22 : decode zb_M_readsCells 22 = .ok (.ireturn, 1) := by decide +kernel
theorem zd_M_readsCells_23 : decode zb_M_readsCells 23 = .ok (.aload_n 0, 1) := by decide +kernel
theorem zd_M_readsCells_24 : decode zb_M_readsCells 24 = .ok (.dup, 1) := by decide +kernel
theorem zd_M_readsCells_25 : decode zb_M_readsCells 25 = .ok (.getfield 111, 3) := by decide +kernel
theorem zd_M_readsCells_28 : decode zb_M_readsCells 28 = .ok (.iconst 1, 1) := by decide +kernel
theorem zd_M_readsCells_29 : decode zb_M_readsCells 29 = .ok (.iadd, 1) := by decide +kernel
theorem zd_M_readsCells_30 : decode zb_M_readsCells 30 = .ok (.putfield 111, 3) := by decide +kernel
theorem zd_M_readsCells_33 : decode zb_M_readsCells 33 = .ok (.iconst 1, 1) := by decide +kernel
theorem zd_M_readsCells_34 : decode zb_M_readsCells 34 = .ok (.istore_n 3, 1) := by decide +kernel
theorem zd_M_readsCells_35 : decode zb_M_readsCells 35 = .ok (.iload_n 3, 1) := by decide +kernel
theorem zd_M_readsCells_36 : decode zb_M_readsCells 36 = .ok (.ifCond .eq 29, 3) := by decide +kernel
theorem zd_M_readsCells_39 : decode zb_M_readsCells 39 = .ok (.aload_n 0, 1) := by decide +kernel
theorem zd_M_readsCells_40 : decode zb_M_readsCells 40 = .ok (.getfield 122, 3) := by decide +kernel
theorem zd_M_readsCells_43 : decode zb_M_readsCells 43 = .ok (.iconst 1, 1) := by decide +kernel
theorem zd_M_readsCells_44 : decode zb_M_readsCells 44 = .ok (.if_icmp .lt 11, 3) := by decide +kernel
theorem zd_M_readsCells_47 : decode zb_M_readsCells 47 = .ok (.aload_n 0, 1) := by decide +kernel
theorem zd_M_readsCells_48 : decode zb_M_readsCells 48 = .ok (.getfield 111, 3) := by decide +kernel
theorem zd_M_readsCells_51 : decode zb_M_readsCells 51 = .ok (.iload_n 2, 1) := by decide +kernel
theorem zd_M_readsCells_52 : decode zb_M_readsCells 52 = .ok (.if_icmp .ge 13, 3) := by decide +kernel
theorem zd_M_readsCells_55 : decode zb_M_readsCells 55 = .ok (.aload_n 0, 1) := by decide +kernel
theorem zd_M_readsCells_56 : decode zb_M_readsCells 56 = .ok (.iload_n 1, 1) := by decide +kernel
theorem zd_M_readsCells_57 : decode zb_M_readsCells 57 = .ok (.iload_n 2, 1) := by decide +kernel
theorem zd_M_readsCells_58 : decode zb_M_readsCells 58 = .ok (.invokevirtual 136, 3) := by decide +kernel
theorem zd_M_readsCells_61 : decode zb_M_readsCells 61 = .ok (.istore_n 3, 1) := by decide +kernel
theorem zd_M_readsCells_62 : decode zb_M_readsCells 62 = .ok (.goto (-27), 3) := by decide +kernel
theorem zd_M_readsCells_65 : decode zb_M_readsCells 65 = .ok (.iload_n 3, 1) := by decide +kernel
theorem zd_M_readsCells_66 : decode zb_M_readsCells 66 = .ok (.ireturn, 1) := by decide +kernel
def zf_M_readsCells_b65  (y3 : Int32) (m0 : nk_M) : Option (Int32 × nk_M) := nk_zr y3 m0
set_option maxHeartbeats 4000000 in
set_option maxRecDepth 100000 in
theorem zs_M_readsCells_b65 {G : nk_V} {X : nk_X}   (C : nk_C "NeedOnceModel" zb_M_readsCells 4 nk_wR G X) (hR : X.2.2.2.1 = nk_rm 4) (hr : X.2.2.2.2.2.2.2.2.1.sig.returnType = (some .boolean))  : ∀ (y3 : Int32) (m0 : nk_M), nk_Sim nk_wR G X 4 nk_oi 65 [nk_r G 0, .null, .null, .int y3] [] m0 (zf_M_readsCells_b65 y3 m0) := by
  intro y3 m0
  unfold zf_M_readsCells_b65
  refine nk_iload_n C zd_M_readsCells_65 rfl rfl ?_
  exact nk_zret C hr zd_M_readsCells_66
def zf_M_readsCells_b55 (rc35 : Int32 → Int32 → Int32 → nk_M → Option (Int32 × nk_M)) (y1 : Int32) (y2 : Int32) (m0 : nk_M) : Option (Int32 × nk_M) := nk_bd (zf_M_readsCell y1 y2 m0) (fun r1 m1 => (rc35 y1 y2 r1 m1))
set_option maxHeartbeats 4000000 in
set_option maxRecDepth 100000 in
theorem zs_M_readsCells_b55 {G : nk_V} {X : nk_X}   (C : nk_C "NeedOnceModel" zb_M_readsCells 4 nk_wR G X) (hR : X.2.2.2.1 = nk_rm 4) (hr : X.2.2.2.2.2.2.2.2.1.sig.returnType = (some .boolean)) (rc35 : Int32 → Int32 → Int32 → nk_M → Option (Int32 × nk_M)) (hr35 : ∀ (y1 : Int32) (y2 : Int32) (y3 : Int32) (m0 : nk_M), nk_Sim nk_wR G X 4 nk_oi 35 [nk_r G 0, .int y1, .int y2, .int y3] [] m0 (rc35 y1 y2 y3 m0)) : ∀ (y1 : Int32) (y2 : Int32) (m0 : nk_M), nk_Sim nk_wR G X 4 nk_oi 55 [nk_r G 0, .int y1, .int y2, .null] [] m0 (zf_M_readsCells_b55 rc35 y1 y2 m0) := by
  intro y1 y2 m0
  unfold zf_M_readsCells_b55
  refine nk_aload_n C zd_M_readsCells_55 rfl rfl ?_
  refine nk_iload_n C zd_M_readsCells_56 rfl rfl ?_
  refine nk_iload_n C zd_M_readsCells_57 rfl rfl ?_
  refine nk_callVi C [.int y1, .int y2] zv_M_136 hR (zc_M_readsCell y1 y2 m0) (by omega) (Nat.le_of_ble_eq_true rfl) rfl rfl rfl rfl (Nat.le_of_ble_eq_true rfl) zd_M_readsCells_58 (fun r1 m1 => ?_)
  refine nk_istore_n C zd_M_readsCells_61 rfl (Nat.le_of_ble_eq_true rfl) rfl ?_
  refine nk_goto (tgt := 35) C zd_M_readsCells_62 (by decide) ?_
  exact hr35 y1 y2 r1 m1
def zf_M_readsCells_b35  : Nat → Int32 → Int32 → Int32 → nk_M → Option (Int32 × nk_M)
  | 0, _, _, _, _ => none
  | n0 + 1, y1, y2, y3, m0 => (if y3 = 0 then (zf_M_readsCells_b65 y3 m0) else (if (m0 0 7) < (1 : Int32) then (zf_M_readsCells_b55 (zf_M_readsCells_b35 n0) y1 y2 m0) else (if y2 ≤ (m0 0 6) then (zf_M_readsCells_b65 y3 m0) else (zf_M_readsCells_b55 (zf_M_readsCells_b35 n0) y1 y2 m0))))
set_option maxHeartbeats 4000000 in
set_option maxRecDepth 100000 in
theorem zs_M_readsCells_b35 {G : nk_V} {X : nk_X}   (C : nk_C "NeedOnceModel" zb_M_readsCells 4 nk_wR G X) (hR : X.2.2.2.1 = nk_rm 4) (hr : X.2.2.2.2.2.2.2.2.1.sig.returnType = (some .boolean))  : ∀ (n0 : Nat) (y1 : Int32) (y2 : Int32) (y3 : Int32) (m0 : nk_M), nk_Sim nk_wR G X 4 nk_oi 35 [nk_r G 0, .int y1, .int y2, .int y3] [] m0 (zf_M_readsCells_b35 n0 y1 y2 y3 m0) := by
  intro n0
  induction n0 with
  | zero => intros; exact nk_none
  | succ n0 ih =>
    intro y1 y2 y3 m0
    rw [zf_M_readsCells_b35]
    refine nk_iload_n C zd_M_readsCells_35 rfl rfl ?_
    refine nk_if_eq (tgt := 65) C zd_M_readsCells_36 (by decide) ?_ ?_
    · refine nk_wk [true, false, false, true] ?_
      exact zs_M_readsCells_b65 C hR hr y3 m0
    · refine nk_aload_n C zd_M_readsCells_39 rfl rfl ?_
      refine nk_getI C za_M_122 (Nat.le_of_ble_eq_true rfl) rfl rfl zd_M_readsCells_40 ?_
      refine nk_iconst (v := 1) C zd_M_readsCells_43 (by decide) ?_
      refine nk_icmp_lt (tgt := 55) C zd_M_readsCells_44 (by decide) ?_ ?_
      · refine nk_wk [true, true, true, false] ?_
        exact zs_M_readsCells_b55 C hR hr (zf_M_readsCells_b35 n0) ih y1 y2 m0
      · refine nk_aload_n C zd_M_readsCells_47 rfl rfl ?_
        refine nk_getI C za_M_111 (Nat.le_of_ble_eq_true rfl) rfl rfl zd_M_readsCells_48 ?_
        refine nk_iload_n C zd_M_readsCells_51 rfl rfl ?_
        refine nk_icmp_ge (tgt := 65) C zd_M_readsCells_52 (by decide) ?_ ?_
        · refine nk_wk [true, false, false, true] ?_
          exact zs_M_readsCells_b65 C hR hr y3 m0
        · refine nk_wk [true, true, true, false] ?_
          exact zs_M_readsCells_b55 C hR hr (zf_M_readsCells_b35 n0) ih y1 y2 m0
def zf_M_readsCells  (a1 : Int32) (a2 : Int32) (m0 : nk_M) : Option (Int32 × nk_M) := nk_pf m0 0 6 (0 : Int32) (fun m1 => nk_pf m1 0 7 (0 : Int32) (fun m2 => nk_bd (zf_M_codeAt a1 a2 m2) (fun r1 m3 => (if r1 = (108 : Int32) then nk_pf m3 0 6 ((m3 0 6) + (1 : Int32)) (fun m4 => (zf_M_readsCells_b35 nk_fu a1 a2 (1 : Int32) m4)) else nk_zr (0 : Int32) m3))))
set_option maxHeartbeats 4000000 in
set_option maxRecDepth 100000 in
theorem zc_M_readsCells {l : Launch} {G : nk_V}   (a1 : Int32) (a2 : Int32) (m0 : nk_M) : nk_Ct l nk_wR G 4 zy_M_readsCells zb_M_readsCells 4 (some .boolean) nk_oi [nk_r G 0, .int a1, .int a2] m0 (zf_M_readsCells  a1 a2 m0) := by
  refine nk_ent (own := "NeedOnceModel") (lv := [nk_r G 0, .int a1, .int a2, .null]) 1 rfl (by decide) (Nat.le_of_ble_eq_true rfl) rfl (fun X hl hR C hr => ?_)
  subst hl
  unfold zf_M_readsCells
  refine nk_aload_n C zd_M_readsCells_0 rfl rfl ?_
  refine nk_iconst (v := 0) C zd_M_readsCells_1 (by decide) ?_
  refine nk_putI C zp_M_111 (Nat.le_of_ble_eq_true rfl) rfl rfl zd_M_readsCells_2 (fun m1 => ?_)
  refine nk_aload_n C zd_M_readsCells_5 rfl rfl ?_
  refine nk_iconst (v := 0) C zd_M_readsCells_6 (by decide) ?_
  refine nk_putI C zp_M_122 (Nat.le_of_ble_eq_true rfl) rfl rfl zd_M_readsCells_7 (fun m2 => ?_)
  refine nk_aload_n C zd_M_readsCells_10 rfl rfl ?_
  refine nk_iload_n C zd_M_readsCells_11 rfl rfl ?_
  refine nk_iload_n C zd_M_readsCells_12 rfl rfl ?_
  refine nk_callVi C [.int a1, .int a2] zv_M_114 hR (zc_M_codeAt a1 a2 m2) (by omega) (Nat.le_of_ble_eq_true rfl) rfl rfl rfl rfl (Nat.le_of_ble_eq_true rfl) zd_M_readsCells_13 (fun r1 m3 => ?_)
  refine nk_bipush (v := 108) C zd_M_readsCells_16 (by decide) ?_
  refine nk_icmp_eq (tgt := 23) C zd_M_readsCells_18 (by decide) ?_ ?_
  · refine nk_aload_n C zd_M_readsCells_23 rfl rfl ?_
    refine nk_dup C zd_M_readsCells_24 rfl ?_
    refine nk_getI C za_M_111 (Nat.le_of_ble_eq_true rfl) rfl rfl zd_M_readsCells_25 ?_
    refine nk_iconst (v := 1) C zd_M_readsCells_28 (by decide) ?_
    refine nk_iadd C zd_M_readsCells_29 ?_
    refine nk_putI C zp_M_111 (Nat.le_of_ble_eq_true rfl) rfl rfl zd_M_readsCells_30 (fun m4 => ?_)
    refine nk_iconst (v := 1) C zd_M_readsCells_33 (by decide) ?_
    refine nk_istore_n C zd_M_readsCells_34 rfl (Nat.le_of_ble_eq_true rfl) rfl ?_
    exact zs_M_readsCells_b35 C hR hr nk_fu a1 a2 (1 : Int32) m4
  · refine nk_iconst (v := 0) C zd_M_readsCells_21 (by decide) ?_
    exact nk_zret C hr zd_M_readsCells_22
theorem zd_M_looseOne_0 : decode zb_M_looseOne 0 = .ok (.bipush (-9), 2) := by decide +kernel
theorem zd_M_looseOne_2 : decode zb_M_looseOne 2 = .ok (.istore_n 1, 1) := by decide +kernel
theorem zd_M_looseOne_3 : decode zb_M_looseOne 3 = .ok (.aload_n 0, 1) := by decide +kernel
theorem zd_M_looseOne_4 : decode zb_M_looseOne 4 = .ok (.getfield 122, 3) := by decide +kernel
theorem zd_M_looseOne_7 : decode zb_M_looseOne 7 = .ok (.iconst 1, 1) := by decide +kernel
theorem zd_M_looseOne_8 : decode zb_M_looseOne 8 = .ok (.isub, 1) := by decide +kernel
theorem zd_M_looseOne_9 : decode zb_M_looseOne 9 = .ok (.istore_n 2, 1) := by decide +kernel
theorem zd_M_looseOne_10 : decode zb_M_looseOne 10 = .ok (.iload_n 2, 1) := by decide +kernel
theorem zd_M_looseOne_11 : decode zb_M_looseOne 11 = .ok (.ifCond .lt 62, 3) := by decide +kernel
theorem zd_M_looseOne_14 : decode zb_M_looseOne 14 = .ok (.iconst 0, 1) := by decide +kernel
theorem zd_M_looseOne_15 : decode zb_M_looseOne 15 = .ok (.istore_n 3, 1) := by decide +kernel
theorem zd_M_looseOne_16 : decode zb_M_looseOne 16 = .ok (.iload_n 3, 1) := by decide +kernel
theorem zd_M_looseOne_17 : decode zb_M_looseOne 17 = .ok (.aload_n 0, 1) := by decide +kernel
theorem zd_M_looseOne_18 : decode zb_M_looseOne 18 = .ok (.getfield 28, 3) := by decide +kernel
theorem zd_M_looseOne_21 : decode zb_M_looseOne 21 = .ok (.iload_n 2, 1) := by decide +kernel
theorem zd_M_looseOne_22 : decode zb_M_looseOne 22 = .ok (.iaload, 1) := by decide +kernel
theorem zd_M_looseOne_23 : decode zb_M_looseOne 23 = .ok (.invokestatic 125, 3) := by decide +kernel
theorem zd_M_looseOne_26 : decode zb_M_looseOne 26 = .ok (.if_icmp .ge 41, 3) := by decide +kernel
theorem zd_M_looseOne_29 : decode zb_M_looseOne 29 = .ok (.aload_n 0, 1) := by decide +kernel
theorem zd_M_looseOne_30 : decode zb_M_looseOne 30 = .ok (.getfield 28, 3) := by decide +kernel
theorem zd_M_looseOne_33 : decode zb_M_looseOne 33 = .ok (.iload_n 2, 1) := by decide +kernel
theorem zd_M_looseOne_34 : decode zb_M_looseOne 34 = .ok (.iaload, 1) := by decide +kernel
theorem zd_M_looseOne_35 : decode zb_M_looseOne 35 = .ok (.ifCond .le 24, 3) := by decide +kernel
theorem zd_M_looseOne_38 : decode zb_M_looseOne 38 = .ok (.aload_n 0, 1) := by decide +kernel
theorem zd_M_looseOne_39 : decode zb_M_looseOne 39 = .ok (.getfield 31, 3) := by decide +kernel
theorem zd_M_looseOne_42 : decode zb_M_looseOne 42 = .ok (.iconst 3, 1) := by decide +kernel
theorem zd_M_looseOne_43 : decode zb_M_looseOne 43 = .ok (.iload_n 2, 1) := by decide +kernel
theorem zd_M_looseOne_44 : decode zb_M_looseOne 44 = .ok (.imul, 1) := by decide +kernel
theorem zd_M_looseOne_45 : decode zb_M_looseOne 45 = .ok (.iload_n 3, 1) := by decide +kernel
theorem zd_M_looseOne_46 : decode zb_M_looseOne 46 = .ok (.iadd, 1) := by decide +kernel
theorem zd_M_looseOne_47 : decode zb_M_looseOne 47 = .ok (.iaload, 1) := by decide +kernel
theorem zd_M_looseOne_48 : decode zb_M_looseOne 48 = .ok (.aload_n 0, 1) := by decide +kernel
theorem zd_M_looseOne_49 : decode zb_M_looseOne 49 = .ok (.getfield 122, 3) := by decide +kernel
theorem zd_M_looseOne_52 : decode zb_M_looseOne 52 = .ok (.if_icmp .lt 7, 3) := by decide +kernel
theorem zd_M_looseOne_55 : decode zb_M_looseOne 55 = .ok (.iload_n 2, 1) := by decide +kernel
theorem zd_M_looseOne_56 : decode zb_M_looseOne 56 = .ok (.goto 4, 3) := by decide +kernel
theorem zd_M_looseOne_59 : decode zb_M_looseOne 59 = .ok (.iload_n 1, 1) := by decide +kernel
theorem zd_M_looseOne_60 : decode zb_M_looseOne 60 = .ok (.istore_n 1, 1) := by decide +kernel
theorem zd_M_looseOne_61 : decode zb_M_looseOne 61 = .ok (.iinc 3 1, 3) := by decide +kernel
theorem zd_M_looseOne_64 : decode zb_M_looseOne 64 = .ok (.goto (-48), 3) := by decide +kernel
theorem zd_M_looseOne_67 : decode zb_M_looseOne 67 = .ok (.iinc 2 (-1), 3) := by decide +kernel
theorem zd_M_looseOne_70 : decode zb_M_looseOne 70 = .ok (.goto (-60), 3) := by decide +kernel
theorem zd_M_looseOne_73 : decode zb_M_looseOne 73 = .ok (.iload_n 1, 1) := by decide +kernel
theorem zd_M_looseOne_74 : decode zb_M_looseOne 74 = .ok (.ireturn, 1) := by decide +kernel
def zf_M_looseOne_b60 (rc10 : Int32 → Int32 → nk_M → Option (Int32 × nk_M)) (rc16 : Int32 → Int32 → Int32 → nk_M → Option (Int32 × nk_M)) (y2 : Int32) (y3 : Int32) (u0 : Int32) (m0 : nk_M) : Option (Int32 × nk_M) := (rc16 u0 y2 (y3 + 1) m0)
set_option maxHeartbeats 4000000 in
set_option maxRecDepth 100000 in
theorem zs_M_looseOne_b60 {G : nk_V} {X : nk_X}   (C : nk_C "NeedOnceModel" zb_M_looseOne 4 nk_wR G X) (hR : X.2.2.2.1 = nk_rm 2) (hr : X.2.2.2.2.2.2.2.2.1.sig.returnType = (some .int)) (rc10 : Int32 → Int32 → nk_M → Option (Int32 × nk_M)) (rc16 : Int32 → Int32 → Int32 → nk_M → Option (Int32 × nk_M)) (hr10 : ∀ (y1 : Int32) (y2 : Int32) (m0 : nk_M), nk_Sim nk_wR G X 4 nk_oi 10 [nk_r G 0, .int y1, .int y2, .null] [] m0 (rc10 y1 y2 m0)) (hr16 : ∀ (y1 : Int32) (y2 : Int32) (y3 : Int32) (m0 : nk_M), nk_Sim nk_wR G X 4 nk_oi 16 [nk_r G 0, .int y1, .int y2, .int y3] [] m0 (rc16 y1 y2 y3 m0)) : ∀ (y2 : Int32) (y3 : Int32) (u0 : Int32) (m0 : nk_M), nk_Sim nk_wR G X 4 nk_oi 60 [nk_r G 0, .null, .int y2, .int y3] [.int u0] m0 (zf_M_looseOne_b60 rc10 rc16 y2 y3 u0 m0) := by
  intro y2 y3 u0 m0
  unfold zf_M_looseOne_b60
  refine nk_istore_n C zd_M_looseOne_60 rfl (Nat.le_of_ble_eq_true rfl) rfl ?_
  refine nk_iinc (v0 := y3 + 1) C zd_M_looseOne_61 rfl (nk_inc _ (by decide)) (Nat.le_of_ble_eq_true rfl) rfl ?_
  refine nk_goto (tgt := 16) C zd_M_looseOne_64 (by decide) ?_
  exact hr16 u0 y2 (y3 + 1) m0
def zf_M_looseOne_b59 (rc10 : Int32 → Int32 → nk_M → Option (Int32 × nk_M)) (rc16 : Int32 → Int32 → Int32 → nk_M → Option (Int32 × nk_M)) (y1 : Int32) (y2 : Int32) (y3 : Int32) (m0 : nk_M) : Option (Int32 × nk_M) := (zf_M_looseOne_b60 rc10 rc16 y2 y3 y1 m0)
set_option maxHeartbeats 4000000 in
set_option maxRecDepth 100000 in
theorem zs_M_looseOne_b59 {G : nk_V} {X : nk_X}   (C : nk_C "NeedOnceModel" zb_M_looseOne 4 nk_wR G X) (hR : X.2.2.2.1 = nk_rm 2) (hr : X.2.2.2.2.2.2.2.2.1.sig.returnType = (some .int)) (rc10 : Int32 → Int32 → nk_M → Option (Int32 × nk_M)) (rc16 : Int32 → Int32 → Int32 → nk_M → Option (Int32 × nk_M)) (hr10 : ∀ (y1 : Int32) (y2 : Int32) (m0 : nk_M), nk_Sim nk_wR G X 4 nk_oi 10 [nk_r G 0, .int y1, .int y2, .null] [] m0 (rc10 y1 y2 m0)) (hr16 : ∀ (y1 : Int32) (y2 : Int32) (y3 : Int32) (m0 : nk_M), nk_Sim nk_wR G X 4 nk_oi 16 [nk_r G 0, .int y1, .int y2, .int y3] [] m0 (rc16 y1 y2 y3 m0)) : ∀ (y1 : Int32) (y2 : Int32) (y3 : Int32) (m0 : nk_M), nk_Sim nk_wR G X 4 nk_oi 59 [nk_r G 0, .int y1, .int y2, .int y3] [] m0 (zf_M_looseOne_b59 rc10 rc16 y1 y2 y3 m0) := by
  intro y1 y2 y3 m0
  unfold zf_M_looseOne_b59
  refine nk_iload_n C zd_M_looseOne_59 rfl rfl ?_
  refine nk_wk [true, false, true, true] ?_
  exact zs_M_looseOne_b60 C hR hr rc10 rc16 hr10 hr16 y2 y3 y1 m0
def zf_M_looseOne_b16 (rc10 : Int32 → Int32 → nk_M → Option (Int32 × nk_M)) : Nat → Int32 → Int32 → Int32 → nk_M → Option (Int32 × nk_M)
  | 0, _, _, _, _ => none
  | n0 + 1, y1, y2, y3, m0 => nk_ald m0 7 8 y2 (fun x1 => nk_bd (zf_M_partsOf x1 m0) (fun r2 m1 => (if r2 ≤ y3 then (rc10 y1 (y2 + (-1)) m1) else nk_ald m1 7 8 y2 (fun x3 => (if x3 ≤ 0 then (zf_M_looseOne_b59 rc10 (zf_M_looseOne_b16 rc10 n0) y1 y2 y3 m1) else nk_ald m1 8 24 (((3 : Int32) * y2) + y3) (fun x4 => (if x4 < (m1 0 7) then (zf_M_looseOne_b59 rc10 (zf_M_looseOne_b16 rc10 n0) y1 y2 y3 m1) else (zf_M_looseOne_b60 rc10 (zf_M_looseOne_b16 rc10 n0) y2 y3 y2 m1))))))))
set_option maxHeartbeats 4000000 in
set_option maxRecDepth 100000 in
theorem zs_M_looseOne_b16 {G : nk_V} {X : nk_X}   (C : nk_C "NeedOnceModel" zb_M_looseOne 4 nk_wR G X) (hR : X.2.2.2.1 = nk_rm 2) (hr : X.2.2.2.2.2.2.2.2.1.sig.returnType = (some .int)) (rc10 : Int32 → Int32 → nk_M → Option (Int32 × nk_M)) (hr10 : ∀ (y1 : Int32) (y2 : Int32) (m0 : nk_M), nk_Sim nk_wR G X 4 nk_oi 10 [nk_r G 0, .int y1, .int y2, .null] [] m0 (rc10 y1 y2 m0)) : ∀ (n0 : Nat) (y1 : Int32) (y2 : Int32) (y3 : Int32) (m0 : nk_M), nk_Sim nk_wR G X 4 nk_oi 16 [nk_r G 0, .int y1, .int y2, .int y3] [] m0 (zf_M_looseOne_b16 rc10 n0 y1 y2 y3 m0) := by
  intro n0
  induction n0 with
  | zero => intros; exact nk_none
  | succ n0 ih =>
    intro y1 y2 y3 m0
    rw [zf_M_looseOne_b16]
    refine nk_iload_n C zd_M_looseOne_16 rfl rfl ?_
    refine nk_aload_n C zd_M_looseOne_17 rfl rfl ?_
    refine nk_getR C (r := 7) za_M_28 (Nat.le_of_ble_eq_true rfl) rfl rfl zd_M_looseOne_18 ?_
    refine nk_iload_n C zd_M_looseOne_21 rfl rfl ?_
    refine nk_iald C (Nat.le_of_ble_eq_true rfl) rfl zd_M_looseOne_22 (fun x1 => ?_)
    refine nk_callSi C [.int x1] zv_M_125 hR (zc_M_partsOf x1 m0) (by omega) rfl rfl (Nat.le_of_ble_eq_true rfl) zd_M_looseOne_23 (fun r2 m1 => ?_)
    refine nk_icmp_ge (tgt := 67) C zd_M_looseOne_26 (by decide) ?_ ?_
    · refine nk_iinc (v0 := y2 + (-1)) C zd_M_looseOne_67 rfl (nk_inc _ (by decide)) (Nat.le_of_ble_eq_true rfl) rfl ?_
      refine nk_goto (tgt := 10) C zd_M_looseOne_70 (by decide) ?_
      refine nk_wk [true, true, true, false] ?_
      exact hr10 y1 (y2 + (-1)) m1
    · refine nk_aload_n C zd_M_looseOne_29 rfl rfl ?_
      refine nk_getR C (r := 7) za_M_28 (Nat.le_of_ble_eq_true rfl) rfl rfl zd_M_looseOne_30 ?_
      refine nk_iload_n C zd_M_looseOne_33 rfl rfl ?_
      refine nk_iald C (Nat.le_of_ble_eq_true rfl) rfl zd_M_looseOne_34 (fun x3 => ?_)
      refine nk_if_le (tgt := 59) C zd_M_looseOne_35 (by decide) ?_ ?_
      · exact zs_M_looseOne_b59 C hR hr rc10 (zf_M_looseOne_b16 rc10 n0) hr10 ih y1 y2 y3 m1
      · refine nk_aload_n C zd_M_looseOne_38 rfl rfl ?_
        refine nk_getR C (r := 8) za_M_31 (Nat.le_of_ble_eq_true rfl) rfl rfl zd_M_looseOne_39 ?_
        refine nk_iconst (v := 3) C zd_M_looseOne_42 (by decide) ?_
        refine nk_iload_n C zd_M_looseOne_43 rfl rfl ?_
        refine nk_imul C zd_M_looseOne_44 ?_
        refine nk_iload_n C zd_M_looseOne_45 rfl rfl ?_
        refine nk_iadd C zd_M_looseOne_46 ?_
        refine nk_iald C (Nat.le_of_ble_eq_true rfl) rfl zd_M_looseOne_47 (fun x4 => ?_)
        refine nk_aload_n C zd_M_looseOne_48 rfl rfl ?_
        refine nk_getI C za_M_122 (Nat.le_of_ble_eq_true rfl) rfl rfl zd_M_looseOne_49 ?_
        refine nk_icmp_lt (tgt := 59) C zd_M_looseOne_52 (by decide) ?_ ?_
        · exact zs_M_looseOne_b59 C hR hr rc10 (zf_M_looseOne_b16 rc10 n0) hr10 ih y1 y2 y3 m1
        · refine nk_iload_n C zd_M_looseOne_55 rfl rfl ?_
          refine nk_goto (tgt := 60) C zd_M_looseOne_56 (by decide) ?_
          refine nk_wk [true, false, true, true] ?_
          exact zs_M_looseOne_b60 C hR hr rc10 (zf_M_looseOne_b16 rc10 n0) hr10 ih y2 y3 y2 m1
def zf_M_looseOne_b10  : Nat → Int32 → Int32 → nk_M → Option (Int32 × nk_M)
  | 0, _, _, _ => none
  | n0 + 1, y1, y2, m0 => (if y2 < 0 then some (y1, m0) else (zf_M_looseOne_b16 (zf_M_looseOne_b10 n0) nk_fu y1 y2 (0 : Int32) m0))
set_option maxHeartbeats 4000000 in
set_option maxRecDepth 100000 in
theorem zs_M_looseOne_b10 {G : nk_V} {X : nk_X}   (C : nk_C "NeedOnceModel" zb_M_looseOne 4 nk_wR G X) (hR : X.2.2.2.1 = nk_rm 2) (hr : X.2.2.2.2.2.2.2.2.1.sig.returnType = (some .int))  : ∀ (n0 : Nat) (y1 : Int32) (y2 : Int32) (m0 : nk_M), nk_Sim nk_wR G X 4 nk_oi 10 [nk_r G 0, .int y1, .int y2, .null] [] m0 (zf_M_looseOne_b10 n0 y1 y2 m0) := by
  intro n0
  induction n0 with
  | zero => intros; exact nk_none
  | succ n0 ih =>
    intro y1 y2 m0
    rw [zf_M_looseOne_b10]
    refine nk_iload_n C zd_M_looseOne_10 rfl rfl ?_
    refine nk_if_lt (tgt := 73) C zd_M_looseOne_11 (by decide) ?_ ?_
    · refine nk_iload_n C zd_M_looseOne_73 rfl rfl ?_
      exact nk_iret C hr zd_M_looseOne_74
    · refine nk_iconst (v := 0) C zd_M_looseOne_14 (by decide) ?_
      refine nk_istore_n C zd_M_looseOne_15 rfl (Nat.le_of_ble_eq_true rfl) rfl ?_
      exact zs_M_looseOne_b16 C hR hr (zf_M_looseOne_b10 n0) ih nk_fu y1 y2 (0 : Int32) m0
def zf_M_looseOne   (m0 : nk_M) : Option (Int32 × nk_M) := nk_nm ((m0 0 7) - (1 : Int32)) (fun x1 => (zf_M_looseOne_b10 nk_fu (-9 : Int32) x1 m0))
set_option maxHeartbeats 4000000 in
set_option maxRecDepth 100000 in
theorem zc_M_looseOne {l : Launch} {G : nk_V}    (m0 : nk_M) : nk_Ct l nk_wR G 2 zy_M_looseOne zb_M_looseOne 4 (some .int) nk_oi [nk_r G 0] m0 (zf_M_looseOne   m0) := by
  refine nk_ent (own := "NeedOnceModel") (lv := [nk_r G 0, .null, .null, .null]) 3 rfl (by decide) (Nat.le_of_ble_eq_true rfl) rfl (fun X hl hR C hr => ?_)
  subst hl
  unfold zf_M_looseOne
  refine nk_bipush (v := -9) C zd_M_looseOne_0 (by decide) ?_
  refine nk_istore_n C zd_M_looseOne_2 rfl (Nat.le_of_ble_eq_true rfl) rfl ?_
  refine nk_aload_n C zd_M_looseOne_3 rfl rfl ?_
  refine nk_getI C za_M_122 (Nat.le_of_ble_eq_true rfl) rfl rfl zd_M_looseOne_4 ?_
  refine nk_iconst (v := 1) C zd_M_looseOne_7 (by decide) ?_
  refine nk_isub C zd_M_looseOne_8 ?_
  refine nk_named (fun x1 => ?_)
  refine nk_istore_n C zd_M_looseOne_9 rfl (Nat.le_of_ble_eq_true rfl) rfl ?_
  exact zs_M_looseOne_b10 C hR hr nk_fu (-9 : Int32) x1 m0
theorem zd_M_allAsleep_0 : decode zb_M_allAsleep 0 = .ok (.iconst 0, 1) := by decide +kernel
theorem zd_M_allAsleep_1 : decode zb_M_allAsleep 1 = .ok (.istore_n 1, 1) := by decide +kernel
theorem zd_M_allAsleep_2 : decode zb_M_allAsleep 2 = .ok (.iload_n 1, 1) := by decide +kernel
theorem zd_M_allAsleep_3 : decode zb_M_allAsleep 3 = .ok (.bipush 8, 2) := by decide +kernel
theorem zd_M_allAsleep_5 : decode zb_M_allAsleep 5 = .ok (.if_icmp .ge 25, 3) := by decide +kernel
theorem zd_M_allAsleep_8 : decode zb_M_allAsleep 8 = .ok (.aload_n 0, 1) := by decide +kernel
theorem zd_M_allAsleep_9 : decode zb_M_allAsleep 9 = .ok (.getfield 34, 3) := by decide +kernel
theorem zd_M_allAsleep_12 : decode zb_M_allAsleep 12 = .ok (.iload_n 1, 1) := by decide +kernel
theorem zd_M_allAsleep_13 : decode zb_M_allAsleep 13 = .ok (.bipush (-9), 2) := by decide +kernel
theorem zd_M_allAsleep_15 : decode zb_M_allAsleep 15 = .ok (.iastore, 1) := by decide +kernel
theorem zd_M_allAsleep_16 : decode zb_M_allAsleep 16 = .ok (.aload_n 0, 1) := by decide +kernel
theorem zd_M_allAsleep_17 : decode zb_M_allAsleep 17 = .ok (.getfield 43, 3) := by decide +kernel
theorem zd_M_allAsleep_20 : decode zb_M_allAsleep 20 = .ok (.iload_n 1, 1) := by decide +kernel
theorem zd_M_allAsleep_21 : decode zb_M_allAsleep 21 = .ok (.bipush (-9), 2) := by decide +kernel
theorem zd_M_allAsleep_23 : decode zb_M_allAsleep 23 = .ok (.iastore, 1) := by decide +kernel
theorem zd_M_allAsleep_24 : decode zb_M_allAsleep 24 = .ok (.iinc 1 1, 3) := by decide +kernel
theorem zd_M_allAsleep_27 : decode zb_M_allAsleep 27 = .ok (.goto (-25), 3) := by decide +kernel
theorem zd_M_allAsleep_30 : decode zb_M_allAsleep 30 = .ok (.return_, 1) := by decide +kernel
def zf_M_allAsleep_b2  : Nat → Int32 → nk_M → Option (Unit × nk_M)
  | 0, _, _ => none
  | n0 + 1, y1, m0 => (if (8 : Int32) ≤ y1 then some ((), m0) else nk_ast m0 9 8 y1 (-9 : Int32) (fun m1 => nk_ast m1 12 8 y1 (-9 : Int32) (fun m2 => (zf_M_allAsleep_b2 n0 (y1 + 1) m2))))
set_option maxHeartbeats 4000000 in
set_option maxRecDepth 100000 in
theorem zs_M_allAsleep_b2 {G : nk_V} {X : nk_X}   (C : nk_C "NeedOnceModel" zb_M_allAsleep 2 nk_wR G X) (hR : X.2.2.2.1 = nk_rm 1) (hr : X.2.2.2.2.2.2.2.2.1.sig.returnType = none)  : ∀ (n0 : Nat) (y1 : Int32) (m0 : nk_M), nk_Sim nk_wR G X 2 nk_ov 2 [nk_r G 0, .int y1] [] m0 (zf_M_allAsleep_b2 n0 y1 m0) := by
  intro n0
  induction n0 with
  | zero => intros; exact nk_none
  | succ n0 ih =>
    intro y1 m0
    rw [zf_M_allAsleep_b2]
    refine nk_iload_n C zd_M_allAsleep_2 rfl rfl ?_
    refine nk_bipush (v := 8) C zd_M_allAsleep_3 (by decide) ?_
    refine nk_icmp_ge (tgt := 30) C zd_M_allAsleep_5 (by decide) ?_ ?_
    · exact nk_vret C hr zd_M_allAsleep_30
    · refine nk_aload_n C zd_M_allAsleep_8 rfl rfl ?_
      refine nk_getR C (r := 9) za_M_34 (Nat.le_of_ble_eq_true rfl) rfl rfl zd_M_allAsleep_9 ?_
      refine nk_iload_n C zd_M_allAsleep_12 rfl rfl ?_
      refine nk_bipush (v := -9) C zd_M_allAsleep_13 (by decide) ?_
      refine nk_iast C (Nat.le_of_ble_eq_true rfl) rfl zd_M_allAsleep_15 (fun m1 => ?_)
      refine nk_aload_n C zd_M_allAsleep_16 rfl rfl ?_
      refine nk_getR C (r := 12) za_M_43 (Nat.le_of_ble_eq_true rfl) rfl rfl zd_M_allAsleep_17 ?_
      refine nk_iload_n C zd_M_allAsleep_20 rfl rfl ?_
      refine nk_bipush (v := -9) C zd_M_allAsleep_21 (by decide) ?_
      refine nk_iast C (Nat.le_of_ble_eq_true rfl) rfl zd_M_allAsleep_23 (fun m2 => ?_)
      refine nk_iinc (v0 := y1 + 1) C zd_M_allAsleep_24 rfl (nk_inc _ (by decide)) (Nat.le_of_ble_eq_true rfl) rfl ?_
      refine nk_goto (tgt := 2) C zd_M_allAsleep_27 (by decide) ?_
      exact ih (y1 + 1) m2
def zf_M_allAsleep   (m0 : nk_M) : Option (Unit × nk_M) := (zf_M_allAsleep_b2 nk_fu (0 : Int32) m0)
set_option maxHeartbeats 4000000 in
set_option maxRecDepth 100000 in
theorem zc_M_allAsleep {l : Launch} {G : nk_V}    (m0 : nk_M) : nk_Ct l nk_wR G 1 zy_M_allAsleep zb_M_allAsleep 2 none nk_ov [nk_r G 0] m0 (zf_M_allAsleep   m0) := by
  refine nk_ent (own := "NeedOnceModel") (lv := [nk_r G 0, .null]) 1 rfl (by decide) (Nat.le_of_ble_eq_true rfl) rfl (fun X hl hR C hr => ?_)
  subst hl
  unfold zf_M_allAsleep
  refine nk_iconst (v := 0) C zd_M_allAsleep_0 (by decide) ?_
  refine nk_istore_n C zd_M_allAsleep_1 rfl (Nat.le_of_ble_eq_true rfl) rfl ?_
  exact zs_M_allAsleep_b2 C hR hr nk_fu (0 : Int32) m0

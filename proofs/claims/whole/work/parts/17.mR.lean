/-! ===== 17: decode rows, meanings (zf_) and contracts (zc_) of methods (written by program) ===== -/
theorem zd_M_sheet_0 : decode zb_M_sheet 0 = .ok (.iload_n 1, 1) := by decide +kernel
theorem zd_M_sheet_1 : decode zb_M_sheet 1 = .ok (.invokestatic 146, 3) := by decide +kernel
theorem zd_M_sheet_4 : decode zb_M_sheet 4 = .ok (.ifCond .eq 9, 3) := by decide +kernel
theorem zd_M_sheet_7 : decode zb_M_sheet 7 = .ok (.aload_n 0, 1) := by decide +kernel
theorem zd_M_sheet_8 : decode zb_M_sheet 8 = .ok (.iconst (-1), 1) := by decide +kernel
theorem zd_M_sheet_9 : decode zb_M_sheet 9 = .ok (.invokevirtual 150, 3) := by decide +kernel
theorem zd_M_sheet_12 : decode zb_M_sheet 12 = .ok (.ireturn, 1) := by decide +kernel
theorem zd_M_sheet_13 : decode zb_M_sheet 13 = .ok (.iload_n 2, 1) := by decide +kernel
theorem zd_M_sheet_14 : decode zb_M_sheet 14 = .ok (.i2l, 1) := by decide +kernel
theorem zd_M_sheet_15 : decode zb_M_sheet 15 = .ok (.lconst 0, 1) := by decide +kernel
theorem zd_M_sheet_16 : decode zb_M_sheet 16 = .ok (.ldc2_w 153, 3) := by decide +kernel
theorem zd_M_sheet_19 : decode zb_M_sheet 19 = .ok (.invokestatic 107, 3) := by decide +kernel
theorem zd_M_sheet_22 : decode zb_M_sheet 22 = .ok (.ifCond .eq 9, 3) := by decide +kernel
theorem zd_M_sheet_25 : decode zb_M_sheet 25 = .ok (.iload_n 3, 1) := by decide +kernel
theorem zd_M_sheet_26 : decode zb_M_sheet 26 = .ok (.bipush 60, 2) := by decide +kernel
theorem zd_M_sheet_28 : decode zb_M_sheet 28 = .ok (.if_icmp .le 10, 3) := by decide +kernel
theorem zd_M_sheet_31 : decode zb_M_sheet 31 = .ok (.aload_n 0, 1) := by decide +kernel
theorem zd_M_sheet_32 : decode zb_M_sheet 32 = .ok (.bipush (-2), 2) := by decide +kernel
theorem zd_M_sheet_34 : decode zb_M_sheet 34 = .ok (.invokevirtual 150, 3) := by decide +kernel
theorem zd_M_sheet_37 : decode zb_M_sheet 37 = .ok (.ireturn, 1) := by decide +kernel
theorem zd_M_sheet_38 : decode zb_M_sheet 38 = .ok (.iload_n 3, 1) := by decide +kernel
theorem zd_M_sheet_39 : decode zb_M_sheet 39 = .ok (.ifCond .ge 9, 3) := by decide +kernel
theorem zd_M_sheet_42 : decode zb_M_sheet 42 = .ok (.aload_n 0, 1) := by decide +kernel
theorem zd_M_sheet_43 : decode zb_M_sheet 43 = .ok (.iconst 4, 1) := by decide +kernel
theorem zd_M_sheet_44 : decode zb_M_sheet 44 = .ok (.invokevirtual 139, 3) := by decide +kernel
theorem zd_M_sheet_47 : decode zb_M_sheet 47 = .ok (.ireturn, 1) := by decide +kernel
theorem zd_M_sheet_48 : decode zb_M_sheet 48 = .ok (.aload_n 0, 1) := by decide +kernel
theorem zd_M_sheet_49 : decode zb_M_sheet 49 = .ok (.getfield 82, 3) := by decide +kernel
theorem zd_M_sheet_52 : decode zb_M_sheet 52 = .ok (.iload_n 1, 1) := by decide +kernel
theorem zd_M_sheet_53 : decode zb_M_sheet 53 = .ok (.iload_n 3, 1) := by decide +kernel
theorem zd_M_sheet_54 : decode zb_M_sheet 54 = .ok (.iastore, 1) := by decide +kernel
theorem zd_M_sheet_55 : decode zb_M_sheet 55 = .ok (.aload_n 0, 1) := by decide +kernel
theorem zd_M_sheet_56 : decode zb_M_sheet 56 = .ok (.getfield 85, 3) := by decide +kernel
theorem zd_M_sheet_59 : decode zb_M_sheet 59 = .ok (.iload_n 1, 1) := by decide +kernel
theorem zd_M_sheet_60 : decode zb_M_sheet 60 = .ok (.iload_n 2, 1) := by decide +kernel
theorem zd_M_sheet_61 : decode zb_M_sheet 61 = .ok (.iastore, 1) := by decide +kernel
theorem zd_M_sheet_62 : decode zb_M_sheet 62 = .ok (.iconst 0, 1) := by decide +kernel
theorem zd_M_sheet_63 : decode zb_M_sheet 63 = .ok (.istore 4, 2) := by decide +kernel
theorem zd_M_sheet_65 : decode zb_M_sheet 65 = .ok (.iload 4, 2) := by decide +kernel
theorem zd_M_sheet_67 : decode zb_M_sheet 67 = .ok (.iload_n 3, 1) := by decide +kernel
theorem zd_M_sheet_68 : decode zb_M_sheet 68 = .ok (.if_icmp .ge 22, 3) := by decide +kernel
theorem zd_M_sheet_71 : decode zb_M_sheet 71 = .ok (.aload_n 0, 1) := by decide +kernel
theorem zd_M_sheet_72 : decode zb_M_sheet 72 = .ok (.getfield 88, 3) := by decide +kernel
theorem zd_M_sheet_75 : decode zb_M_sheet 75 = .ok (.bipush 60, 2) := by decide +kernel
theorem zd_M_sheet_77 : decode zb_M_sheet 77 = .ok (.iload_n 1, 1) := by decide +kernel
theorem zd_M_sheet_78 : decode zb_M_sheet 78 = .ok (.imul, 1) := by decide +kernel
theorem zd_M_sheet_79 : decode zb_M_sheet 79 = .ok (.iload 4, 2) := by decide +kernel
theorem zd_M_sheet_81 : decode zb_M_sheet 81 = .ok (.iadd, 1) := by decide +kernel
theorem zd_M_sheet_82 : decode zb_M_sheet 82 = .ok (.iconst 0, 1) := by decide +kernel
theorem zd_M_sheet_83 : decode zb_M_sheet 83 = .ok (.iastore, 1) := by decide +kernel
theorem zd_M_sheet_84 : decode zb_M_sheet 84 = .ok (.iinc 4 1, 3) := by decide +kernel
theorem zd_M_sheet_87 : decode zb_M_sheet 87 = .ok (.goto (-22), 3) := by decide +kernel
theorem zd_M_sheet_90 : decode zb_M_sheet 90 = .ok (.aload_n 0, 1) := by decide +kernel
theorem zd_M_sheet_91 : decode zb_M_sheet 91 = .ok (.iconst 1, 1) := by decide +kernel
theorem zd_M_sheet_92 : decode zb_M_sheet 92 = .ok (.invokevirtual 150, 3) := by decide +kernel
theorem zd_M_sheet_95 : decode zb_M_sheet 95 = .ok (.ireturn, 1) := by decide +kernel
def zf_M_sheet_b31   (m0 : nk_M) : Option (Int32 × nk_M) := nk_bd (zf_M_refused (-2 : Int32) m0) (fun r1 m1 => some (r1, m1))
set_option maxHeartbeats 4000000 in
set_option maxRecDepth 100000 in
theorem zs_M_sheet_b31 {G : nk_V} {X : nk_X}   (C : nk_C "NeedOnceModel" zb_M_sheet 5 nk_wR G X) (hR : X.2.2.2.1 = nk_rm 3) (hr : X.2.2.2.2.2.2.2.2.1.sig.returnType = (some .int))  : ∀  (m0 : nk_M), nk_Sim nk_wR G X 5 nk_oi 31 [nk_r G 0, .null, .null, .null, .null] [] m0 (zf_M_sheet_b31  m0) := by
  intro m0
  unfold zf_M_sheet_b31
  refine nk_aload_n C zd_M_sheet_31 rfl rfl ?_
  refine nk_bipush (v := -2) C zd_M_sheet_32 (by decide) ?_
  refine nk_callVi C [.int (-2 : Int32)] zv_M_150 hR (zc_M_refused (-2 : Int32) m0) (by omega) (Nat.le_of_ble_eq_true rfl) rfl rfl rfl rfl (Nat.le_of_ble_eq_true rfl) zd_M_sheet_34 (fun r1 m1 => ?_)
  exact nk_iret C hr zd_M_sheet_37
def zf_M_sheet_b65  : Nat → Int32 → Int32 → Int32 → nk_M → Option (Int32 × nk_M)
  | 0, _, _, _, _ => none
  | n0 + 1, y1, y3, y4, m0 => (if y3 ≤ y4 then nk_bd (zf_M_refused (1 : Int32) m0) (fun r1 m1 => some (r1, m1)) else nk_ast m0 27 240 (((60 : Int32) * y1) + y4) (0 : Int32) (fun m2 => (zf_M_sheet_b65 n0 y1 y3 (y4 + 1) m2)))
set_option maxHeartbeats 4000000 in
set_option maxRecDepth 100000 in
theorem zs_M_sheet_b65 {G : nk_V} {X : nk_X}   (C : nk_C "NeedOnceModel" zb_M_sheet 5 nk_wR G X) (hR : X.2.2.2.1 = nk_rm 3) (hr : X.2.2.2.2.2.2.2.2.1.sig.returnType = (some .int))  : ∀ (n0 : Nat) (y1 : Int32) (y3 : Int32) (y4 : Int32) (m0 : nk_M), nk_Sim nk_wR G X 5 nk_oi 65 [nk_r G 0, .int y1, .null, .int y3, .int y4] [] m0 (zf_M_sheet_b65 n0 y1 y3 y4 m0) := by
  intro n0
  induction n0 with
  | zero => intros; exact nk_none
  | succ n0 ih =>
    intro y1 y3 y4 m0
    rw [zf_M_sheet_b65]
    refine nk_iload C zd_M_sheet_65 rfl ?_
    refine nk_iload_n C zd_M_sheet_67 rfl rfl ?_
    refine nk_icmp_ge (tgt := 90) C zd_M_sheet_68 (by decide) ?_ ?_
    · refine nk_aload_n C zd_M_sheet_90 rfl rfl ?_
      refine nk_iconst (v := 1) C zd_M_sheet_91 (by decide) ?_
      refine nk_callVi C [.int (1 : Int32)] zv_M_150 hR (zc_M_refused (1 : Int32) m0) (by omega) (Nat.le_of_ble_eq_true rfl) rfl rfl rfl rfl (Nat.le_of_ble_eq_true rfl) zd_M_sheet_92 (fun r1 m1 => ?_)
      exact nk_iret C hr zd_M_sheet_95
    · refine nk_aload_n C zd_M_sheet_71 rfl rfl ?_
      refine nk_getR C (r := 27) za_M_88 (Nat.le_of_ble_eq_true rfl) rfl rfl zd_M_sheet_72 ?_
      refine nk_bipush (v := 60) C zd_M_sheet_75 (by decide) ?_
      refine nk_iload_n C zd_M_sheet_77 rfl rfl ?_
      refine nk_imul C zd_M_sheet_78 ?_
      refine nk_iload C zd_M_sheet_79 rfl ?_
      refine nk_iadd C zd_M_sheet_81 ?_
      refine nk_iconst (v := 0) C zd_M_sheet_82 (by decide) ?_
      refine nk_iast C (Nat.le_of_ble_eq_true rfl) rfl zd_M_sheet_83 (fun m2 => ?_)
      refine nk_iinc (v0 := y4 + 1) C zd_M_sheet_84 rfl (nk_inc _ (by decide)) (Nat.le_of_ble_eq_true rfl) rfl ?_
      refine nk_goto (tgt := 65) C zd_M_sheet_87 (by decide) ?_
      exact ih y1 y3 (y4 + 1) m2
def zf_M_sheet  (a1 : Int32) (a2 : Int32) (a3 : Int32) (m0 : nk_M) : Option (Int32 × nk_M) := nk_bd (zf_M_noSheet a1 m0) (fun r1 m1 => (if r1 = 0 then nk_bd (zf_M_in (a2.toInt64) (0 : Int64) (2 : Int64) m1) (fun r2 m2 => (if r2 = 0 then (zf_M_sheet_b31 m2) else (if a3 ≤ (60 : Int32) then (if 0 ≤ a3 then nk_ast m2 25 4 a1 a3 (fun m3 => nk_ast m3 26 4 a1 a2 (fun m4 => (zf_M_sheet_b65 nk_fu a1 a3 (0 : Int32) m4))) else nk_bd (zf_M_failed (4 : Int32) m2) (fun r3 m5 => some (r3, m5))) else (zf_M_sheet_b31 m2)))) else nk_bd (zf_M_refused (-1 : Int32) m1) (fun r4 m6 => some (r4, m6))))
set_option maxHeartbeats 4000000 in
set_option maxRecDepth 100000 in
theorem zc_M_sheet {l : Launch} {G : nk_V}   (a1 : Int32) (a2 : Int32) (a3 : Int32) (m0 : nk_M) : nk_Ct l nk_wR G 3 zy_M_sheet zb_M_sheet 5 (some .int) nk_oi [nk_r G 0, .int a1, .int a2, .int a3] m0 (zf_M_sheet  a1 a2 a3 m0) := by
  refine nk_ent (own := "NeedOnceModel") (lv := [nk_r G 0, .int a1, .int a2, .int a3, .null]) 1 rfl (by decide) (Nat.le_of_ble_eq_true rfl) rfl (fun X hl hR C hr => ?_)
  subst hl
  unfold zf_M_sheet
  refine nk_iload_n C zd_M_sheet_0 rfl rfl ?_
  refine nk_callSi C [.int a1] zv_M_146 hR (zc_M_noSheet a1 m0) (by omega) rfl rfl (Nat.le_of_ble_eq_true rfl) zd_M_sheet_1 (fun r1 m1 => ?_)
  refine nk_if_eq (tgt := 13) C zd_M_sheet_4 (by decide) ?_ ?_
  · refine nk_iload_n C zd_M_sheet_13 rfl rfl ?_
    refine nk_i2l C zd_M_sheet_14 ?_
    refine nk_lconst (v := 0) C zd_M_sheet_15 (by decide) ?_
    refine nk_ldc2 (v := 2) C zw_710 zd_M_sheet_16 ?_
    refine nk_callSi C [.long (a2.toInt64), .long (0 : Int64), .long (2 : Int64)] zv_M_107 hR (zc_M_in (a2.toInt64) (0 : Int64) (2 : Int64) m1) (by omega) rfl rfl (Nat.le_of_ble_eq_true rfl) zd_M_sheet_19 (fun r2 m2 => ?_)
    refine nk_if_eq (tgt := 31) C zd_M_sheet_22 (by decide) ?_ ?_
    · refine nk_wk [true, false, false, false, false] ?_
      exact zs_M_sheet_b31 C hR hr m2
    · refine nk_iload_n C zd_M_sheet_25 rfl rfl ?_
      refine nk_bipush (v := 60) C zd_M_sheet_26 (by decide) ?_
      refine nk_icmp_le (tgt := 38) C zd_M_sheet_28 (by decide) ?_ ?_
      · refine nk_iload_n C zd_M_sheet_38 rfl rfl ?_
        refine nk_if_ge (tgt := 48) C zd_M_sheet_39 (by decide) ?_ ?_
        · refine nk_aload_n C zd_M_sheet_48 rfl rfl ?_
          refine nk_getR C (r := 25) za_M_82 (Nat.le_of_ble_eq_true rfl) rfl rfl zd_M_sheet_49 ?_
          refine nk_iload_n C zd_M_sheet_52 rfl rfl ?_
          refine nk_iload_n C zd_M_sheet_53 rfl rfl ?_
          refine nk_iast C (Nat.le_of_ble_eq_true rfl) rfl zd_M_sheet_54 (fun m3 => ?_)
          refine nk_aload_n C zd_M_sheet_55 rfl rfl ?_
          refine nk_getR C (r := 26) za_M_85 (Nat.le_of_ble_eq_true rfl) rfl rfl zd_M_sheet_56 ?_
          refine nk_iload_n C zd_M_sheet_59 rfl rfl ?_
          refine nk_iload_n C zd_M_sheet_60 rfl rfl ?_
          refine nk_iast C (Nat.le_of_ble_eq_true rfl) rfl zd_M_sheet_61 (fun m4 => ?_)
          refine nk_iconst (v := 0) C zd_M_sheet_62 (by decide) ?_
          refine nk_istore C zd_M_sheet_63 (Nat.le_of_ble_eq_true rfl) rfl ?_
          refine nk_wk [true, true, false, true, true] ?_
          exact zs_M_sheet_b65 C hR hr nk_fu a1 a3 (0 : Int32) m4
        · refine nk_aload_n C zd_M_sheet_42 rfl rfl ?_
          refine nk_iconst (v := 4) C zd_M_sheet_43 (by decide) ?_
          refine nk_callVi C [.int (4 : Int32)] zv_M_139 hR (zc_M_failed (4 : Int32) m2) (by omega) (Nat.le_of_ble_eq_true rfl) rfl rfl rfl rfl (Nat.le_of_ble_eq_true rfl) zd_M_sheet_44 (fun r3 m5 => ?_)
          exact nk_iret C hr zd_M_sheet_47
      · refine nk_wk [true, false, false, false, false] ?_
        exact zs_M_sheet_b31 C hR hr m2
  · refine nk_aload_n C zd_M_sheet_7 rfl rfl ?_
    refine nk_iconst (v := -1) C zd_M_sheet_8 (by decide) ?_
    refine nk_callVi C [.int (-1 : Int32)] zv_M_150 hR (zc_M_refused (-1 : Int32) m1) (by omega) (Nat.le_of_ble_eq_true rfl) rfl rfl rfl rfl (Nat.le_of_ble_eq_true rfl) zd_M_sheet_9 (fun r4 m6 => ?_)
    exact nk_iret C hr zd_M_sheet_12
theorem zd_M_lose_0 : decode zb_M_lose 0 = .ok (.iload_n 1, 1) := by decide +kernel
theorem zd_M_lose_1 : decode zb_M_lose 1 = .ok (.invokestatic 146, 3) := by decide +kernel
theorem zd_M_lose_4 : decode zb_M_lose 4 = .ok (.ifCond .eq 5, 3) := by decide +kernel
theorem zd_M_lose_7 : decode zb_M_lose 7 = .ok (.iconst (-1), 1) := by decide +kernel
theorem zd_M_lose_8 : decode zb_M_lose 8 = .ok (.ireturn, 1) := by decide +kernel
theorem zd_M_lose_9 : decode zb_M_lose 9 = .ok (.aload_n 0, 1) := by decide +kernel
theorem zd_M_lose_10 : decode zb_M_lose 10 = .ok (.getfield 82, 3) := by decide +kernel
theorem zd_M_lose_13 : decode zb_M_lose 13 = .ok (.iload_n 1, 1) := by decide +kernel
theorem zd_M_lose_14 : decode zb_M_lose 14 = .ok (.iaload, 1) := by decide +kernel
theorem zd_M_lose_15 : decode zb_M_lose 15 = .ok (.ifCond .ge 7, 3) := by decide +kernel
theorem zd_M_lose_18 : decode zb_M_lose 18 = .ok (.iconst 0, 1) := by decide +kernel
theorem zd_M_lose_19 : decode zb_M_lose 19 = .ok (.goto 4, 3) := by decide +kernel
theorem zd_M_lose_22 : decode zb_M_lose 22 = .ok (.iconst 1, 1) := by decide +kernel
theorem zd_M_lose_23 : decode zb_M_lose 23 = .ok (.istore_n 2, 1) := by decide +kernel
theorem zd_M_lose_24 : decode zb_M_lose 24 = .ok (.aload_n 0, 1) := by decide +kernel
theorem zd_M_lose_25 : decode zb_M_lose 25 = .ok (.getfield 82, 3) := by decide +kernel
theorem zd_M_lose_28 : decode zb_M_lose 28 = .ok (.iload_n 1, 1) := by decide +kernel
theorem zd_M_lose_29 : decode zb_M_lose 29 = .ok (.iconst (-1), 1) := by decide +kernel
theorem zd_M_lose_30 : decode zb_M_lose 30 = .ok (.iastore, 1) := by decide +kernel
theorem zd_M_lose_31 : decode zb_M_lose 31 = .ok (.iload_n 2, 1) := by decide +kernel
theorem zd_M_lose_32 : decode zb_M_lose 32 = .ok (.ireturn, 1) := by decide +kernel
def zf_M_lose_b23  (y1 : Int32) (u0 : Int32) (m0 : nk_M) : Option (Int32 × nk_M) := nk_ast m0 25 4 y1 (-1 : Int32) (fun m1 => some (u0, m1))
set_option maxHeartbeats 4000000 in
set_option maxRecDepth 100000 in
theorem zs_M_lose_b23 {G : nk_V} {X : nk_X}   (C : nk_C "NeedOnceModel" zb_M_lose 3 nk_wR G X) (hR : X.2.2.2.1 = nk_rm 3) (hr : X.2.2.2.2.2.2.2.2.1.sig.returnType = (some .int))  : ∀ (y1 : Int32) (u0 : Int32) (m0 : nk_M), nk_Sim nk_wR G X 3 nk_oi 23 [nk_r G 0, .int y1, .null] [.int u0] m0 (zf_M_lose_b23 y1 u0 m0) := by
  intro y1 u0 m0
  unfold zf_M_lose_b23
  refine nk_istore_n C zd_M_lose_23 rfl (Nat.le_of_ble_eq_true rfl) rfl ?_
  refine nk_aload_n C zd_M_lose_24 rfl rfl ?_
  refine nk_getR C (r := 25) za_M_82 (Nat.le_of_ble_eq_true rfl) rfl rfl zd_M_lose_25 ?_
  refine nk_iload_n C zd_M_lose_28 rfl rfl ?_
  refine nk_iconst (v := -1) C zd_M_lose_29 (by decide) ?_
  refine nk_iast C (Nat.le_of_ble_eq_true rfl) rfl zd_M_lose_30 (fun m1 => ?_)
  refine nk_iload_n C zd_M_lose_31 rfl rfl ?_
  exact nk_iret C hr zd_M_lose_32
def zf_M_lose  (a1 : Int32) (m0 : nk_M) : Option (Int32 × nk_M) := nk_bd (zf_M_noSheet a1 m0) (fun r1 m1 => (if r1 = 0 then nk_ald m1 25 4 a1 (fun x2 => (if 0 ≤ x2 then (zf_M_lose_b23 a1 (1 : Int32) m1) else (zf_M_lose_b23 a1 (0 : Int32) m1))) else some ((-1 : Int32), m1)))
set_option maxHeartbeats 4000000 in
set_option maxRecDepth 100000 in
theorem zc_M_lose {l : Launch} {G : nk_V}   (a1 : Int32) (m0 : nk_M) : nk_Ct l nk_wR G 3 zy_M_lose zb_M_lose 3 (some .int) nk_oi [nk_r G 0, .int a1] m0 (zf_M_lose  a1 m0) := by
  refine nk_ent (own := "NeedOnceModel") (lv := [nk_r G 0, .int a1, .null]) 1 rfl (by decide) (Nat.le_of_ble_eq_true rfl) rfl (fun X hl hR C hr => ?_)
  subst hl
  unfold zf_M_lose
  refine nk_iload_n C zd_M_lose_0 rfl rfl ?_
  refine nk_callSi C [.int a1] zv_M_146 hR (zc_M_noSheet a1 m0) (by omega) rfl rfl (Nat.le_of_ble_eq_true rfl) zd_M_lose_1 (fun r1 m1 => ?_)
  refine nk_if_eq (tgt := 9) C zd_M_lose_4 (by decide) ?_ ?_
  · refine nk_aload_n C zd_M_lose_9 rfl rfl ?_
    refine nk_getR C (r := 25) za_M_82 (Nat.le_of_ble_eq_true rfl) rfl rfl zd_M_lose_10 ?_
    refine nk_iload_n C zd_M_lose_13 rfl rfl ?_
    refine nk_iald C (Nat.le_of_ble_eq_true rfl) rfl zd_M_lose_14 (fun x2 => ?_)
    refine nk_if_ge (tgt := 22) C zd_M_lose_15 (by decide) ?_ ?_
    · refine nk_iconst (v := 1) C zd_M_lose_22 (by decide) ?_
      exact zs_M_lose_b23 C hR hr a1 (1 : Int32) m1
    · refine nk_iconst (v := 0) C zd_M_lose_18 (by decide) ?_
      refine nk_goto (tgt := 23) C zd_M_lose_19 (by decide) ?_
      exact zs_M_lose_b23 C hR hr a1 (0 : Int32) m1
  · refine nk_iconst (v := -1) C zd_M_lose_7 (by decide) ?_
    exact nk_iret C hr zd_M_lose_8
theorem zd_M_noCell_0 : decode zb_M_noCell 0 = .ok (.aload_n 0, 1) := by decide +kernel
theorem zd_M_noCell_1 : decode zb_M_noCell 1 = .ok (.getfield 82, 3) := by decide +kernel
theorem zd_M_noCell_4 : decode zb_M_noCell 4 = .ok (.iload_n 1, 1) := by decide +kernel
theorem zd_M_noCell_5 : decode zb_M_noCell 5 = .ok (.iaload, 1) := by decide +kernel
theorem zd_M_noCell_6 : decode zb_M_noCell 6 = .ok (.ifCond .ge 7, 3) := by decide +kernel
theorem zd_M_noCell_9 : decode zb_M_noCell 9 = .ok (.iconst 1, 1) := by decide +kernel
theorem zd_M_noCell_10 : decode zb_M_noCell 10 = .ok (.goto 26, 3) := by decide +kernel
theorem zd_M_noCell_13 : decode zb_M_noCell 13 = .ok (.iload_n 2, 1) := by decide +kernel
theorem zd_M_noCell_14 : decode zb_M_noCell 14 = .ok (.i2l, 1) := by decide +kernel
theorem zd_M_noCell_15 : decode zb_M_noCell 15 = .ok (.lconst 0, 1) := by decide +kernel
theorem zd_M_noCell_16 : decode zb_M_noCell 16 = .ok (.aload_n 0, 1) := by decide +kernel
theorem zd_M_noCell_17 : decode zb_M_noCell 17 = .ok (.getfield 82, 3) := by decide +kernel
theorem zd_M_noCell_20 : decode zb_M_noCell 20 = .ok (.iload_n 1, 1) := by decide +kernel
theorem zd_M_noCell_21 : decode zb_M_noCell 21 = .ok (.iaload, 1) := by decide +kernel
theorem zd_M_noCell_22 : decode zb_M_noCell 22 = .ok (.i2l, 1) := by decide +kernel
theorem zd_M_noCell_23 : decode zb_M_noCell 23 = .ok (.lconst 1, 1) := by decide +kernel
theorem zd_M_noCell_24 : decode zb_M_noCell 24 = .ok (.lsub, 1) := by decide +kernel
theorem zd_M_noCell_25 : decode zb_M_noCell 25 = .ok (.invokestatic 107, 3) := by decide +kernel
theorem zd_M_noCell_28 : decode zb_M_noCell 28 = .ok (.ifCond .eq 7, 3) := by decide +kernel
theorem zd_M_noCell_31 : decode zb_M_noCell 31 = .ok (.iconst 0, 1) := by decide +kernel
theorem zd_M_noCell_32 : decode zb_M_noCell 32 = .ok (.goto 4, 3) := by decide +kernel
theorem zd_M_noCell_35 : decode zb_M_noCell 35 = .ok (.iconst 3, 1) := by decide +kernel
theorem zd_M_noCell_36 : decode zb_M_noCell 36 = .ok (.ireturn, 1) := by decide +kernel
def zf_M_noCell_b36  (u0 : Int32) (m0 : nk_M) : Option (Int32 × nk_M) := some (u0, m0)
set_option maxHeartbeats 4000000 in
set_option maxRecDepth 100000 in
theorem zs_M_noCell_b36 {G : nk_V} {X : nk_X}   (C : nk_C "NeedOnceModel" zb_M_noCell 3 nk_wR G X) (hR : X.2.2.2.1 = nk_rm 2) (hr : X.2.2.2.2.2.2.2.2.1.sig.returnType = (some .int))  : ∀ (u0 : Int32) (m0 : nk_M), nk_Sim nk_wR G X 3 nk_oi 36 [nk_r G 0, .null, .null] [.int u0] m0 (zf_M_noCell_b36 u0 m0) := by
  intro u0 m0
  unfold zf_M_noCell_b36
  exact nk_iret C hr zd_M_noCell_36
def zf_M_noCell  (a1 : Int32) (a2 : Int32) (m0 : nk_M) : Option (Int32 × nk_M) := nk_ald m0 25 4 a1 (fun x1 => (if 0 ≤ x1 then nk_ald m0 25 4 a1 (fun x2 => nk_bd (zf_M_in (a2.toInt64) (0 : Int64) ((x2.toInt64) - (1 : Int64)) m0) (fun r3 m1 => (if r3 = 0 then (zf_M_noCell_b36 (3 : Int32) m1) else (zf_M_noCell_b36 (0 : Int32) m1)))) else (zf_M_noCell_b36 (1 : Int32) m0)))
set_option maxHeartbeats 4000000 in
set_option maxRecDepth 100000 in
theorem zc_M_noCell {l : Launch} {G : nk_V}   (a1 : Int32) (a2 : Int32) (m0 : nk_M) : nk_Ct l nk_wR G 2 zy_M_noCell zb_M_noCell 3 (some .int) nk_oi [nk_r G 0, .int a1, .int a2] m0 (zf_M_noCell  a1 a2 m0) := by
  refine nk_ent (own := "NeedOnceModel") (lv := [nk_r G 0, .int a1, .int a2]) 0 rfl (by decide) (Nat.le_of_ble_eq_true rfl) rfl (fun X hl hR C hr => ?_)
  subst hl
  unfold zf_M_noCell
  refine nk_aload_n C zd_M_noCell_0 rfl rfl ?_
  refine nk_getR C (r := 25) za_M_82 (Nat.le_of_ble_eq_true rfl) rfl rfl zd_M_noCell_1 ?_
  refine nk_iload_n C zd_M_noCell_4 rfl rfl ?_
  refine nk_iald C (Nat.le_of_ble_eq_true rfl) rfl zd_M_noCell_5 (fun x1 => ?_)
  refine nk_if_ge (tgt := 13) C zd_M_noCell_6 (by decide) ?_ ?_
  · refine nk_iload_n C zd_M_noCell_13 rfl rfl ?_
    refine nk_i2l C zd_M_noCell_14 ?_
    refine nk_lconst (v := 0) C zd_M_noCell_15 (by decide) ?_
    refine nk_aload_n C zd_M_noCell_16 rfl rfl ?_
    refine nk_getR C (r := 25) za_M_82 (Nat.le_of_ble_eq_true rfl) rfl rfl zd_M_noCell_17 ?_
    refine nk_iload_n C zd_M_noCell_20 rfl rfl ?_
    refine nk_iald C (Nat.le_of_ble_eq_true rfl) rfl zd_M_noCell_21 (fun x2 => ?_)
    refine nk_i2l C zd_M_noCell_22 ?_
    refine nk_lconst (v := 1) C zd_M_noCell_23 (by decide) ?_
    refine nk_lsub C zd_M_noCell_24 ?_
    refine nk_callSi C [.long (a2.toInt64), .long (0 : Int64), .long ((x2.toInt64) - (1 : Int64))] zv_M_107 hR (zc_M_in (a2.toInt64) (0 : Int64) ((x2.toInt64) - (1 : Int64)) m0) (by omega) rfl rfl (Nat.le_of_ble_eq_true rfl) zd_M_noCell_25 (fun r3 m1 => ?_)
    refine nk_if_eq (tgt := 35) C zd_M_noCell_28 (by decide) ?_ ?_
    · refine nk_iconst (v := 3) C zd_M_noCell_35 (by decide) ?_
      refine nk_wk [true, false, false] ?_
      exact zs_M_noCell_b36 C hR hr (3 : Int32) m1
    · refine nk_iconst (v := 0) C zd_M_noCell_31 (by decide) ?_
      refine nk_goto (tgt := 36) C zd_M_noCell_32 (by decide) ?_
      refine nk_wk [true, false, false] ?_
      exact zs_M_noCell_b36 C hR hr (0 : Int32) m1
  · refine nk_iconst (v := 1) C zd_M_noCell_9 (by decide) ?_
    refine nk_goto (tgt := 36) C zd_M_noCell_10 (by decide) ?_
    refine nk_wk [true, false, false] ?_
    exact zs_M_noCell_b36 C hR hr (1 : Int32) m0
theorem zd_M_put_0 : decode zb_M_put 0 = .ok (.iload_n 1, 1) := by decide +kernel
theorem zd_M_put_1 : decode zb_M_put 1 = .ok (.invokestatic 146, 3) := by decide +kernel
theorem zd_M_put_4 : decode zb_M_put 4 = .ok (.ifCond .eq 9, 3) := by decide +kernel
theorem zd_M_put_7 : decode zb_M_put 7 = .ok (.aload_n 0, 1) := by decide +kernel
theorem zd_M_put_8 : decode zb_M_put 8 = .ok (.iconst (-1), 1) := by decide +kernel
theorem zd_M_put_9 : decode zb_M_put 9 = .ok (.invokevirtual 150, 3) := by decide +kernel
theorem zd_M_put_12 : decode zb_M_put 12 = .ok (.ireturn, 1) := by decide +kernel
theorem zd_M_put_13 : decode zb_M_put 13 = .ok (.aload_n 0, 1) := by decide +kernel
theorem zd_M_put_14 : decode zb_M_put 14 = .ok (.iload_n 1, 1) := by decide +kernel
theorem zd_M_put_15 : decode zb_M_put 15 = .ok (.iload_n 2, 1) := by decide +kernel
theorem zd_M_put_16 : decode zb_M_put 16 = .ok (.invokevirtual 323, 3) := by decide +kernel
theorem zd_M_put_19 : decode zb_M_put 19 = .ok (.ifCond .le 14, 3) := by decide +kernel
theorem zd_M_put_22 : decode zb_M_put 22 = .ok (.aload_n 0, 1) := by decide +kernel
theorem zd_M_put_23 : decode zb_M_put 23 = .ok (.aload_n 0, 1) := by decide +kernel
theorem zd_M_put_24 : decode zb_M_put 24 = .ok (.iload_n 1, 1) := by decide +kernel
theorem zd_M_put_25 : decode zb_M_put 25 = .ok (.iload_n 2, 1) := by decide +kernel
theorem zd_M_put_26 : decode zb_M_put 26 = .ok (.invokevirtual 323, 3) := by decide +kernel
theorem zd_M_put_29 : decode zb_M_put 29 = .ok (.invokevirtual 139, 3) := by decide +kernel
theorem zd_M_put_32 : decode zb_M_put 32 = .ok (.ireturn, 1) := by decide +kernel
theorem zd_M_put_33 : decode zb_M_put 33 = .ok (.aload_n 0, 1) := by decide +kernel
theorem zd_M_put_34 : decode zb_M_put 34 = .ok (.getfield 88, 3) := by decide +kernel
theorem zd_M_put_37 : decode zb_M_put 37 = .ok (.bipush 60, 2) := by decide +kernel
theorem zd_M_put_39 : decode zb_M_put 39 = .ok (.iload_n 1, 1) := by decide +kernel
theorem zd_M_put_40 : decode zb_M_put 40 = .ok (.imul, 1) := by decide +kernel
theorem zd_M_put_41 : decode zb_M_put 41 = .ok (.iload_n 2, 1) := by decide +kernel
theorem zd_M_put_42 : decode zb_M_put 42 = .ok (.iadd, 1) := by decide +kernel
theorem zd_M_put_43 : decode zb_M_put 43 = .ok (.aload_n 0, 1) := by decide +kernel
theorem zd_M_put_44 : decode zb_M_put 44 = .ok (.getfield 85, 3) := by decide +kernel
theorem zd_M_put_47 : decode zb_M_put 47 = .ok (.iload_n 1, 1) := by decide +kernel
theorem zd_M_put_48 : decode zb_M_put 48 = .ok (.iaload, 1) := by decide +kernel
theorem zd_M_put_49 : decode zb_M_put 49 = .ok (.ifCond .ne 8, 3) := by decide +kernel
theorem zd_M_put_52 : decode zb_M_put 52 = .ok (.iload_n 3, 1) := by decide +kernel
theorem zd_M_put_53 : decode zb_M_put 53 = .ok (.i2b, 1) := by decide +kernel
theorem zd_M_put_54 : decode zb_M_put 54 = .ok (.goto 19, 3) := by decide +kernel
theorem zd_M_put_57 : decode zb_M_put 57 = .ok (.aload_n 0, 1) := by decide +kernel
theorem zd_M_put_58 : decode zb_M_put 58 = .ok (.getfield 85, 3) := by decide +kernel
theorem zd_M_put_61 : decode zb_M_put 61 = .ok (.iload_n 1, 1) := by decide +kernel
theorem zd_M_put_62 : decode zb_M_put 62 = .ok (.iaload, 1) := by decide +kernel
theorem zd_M_put_63 : decode zb_M_put 63 = .ok (.iconst 1, 1) := by decide +kernel
theorem zd_M_put_64 : decode zb_M_put 64 = .ok (.if_icmp .ne 8, 3) := by decide +kernel
theorem zd_M_put_67 : decode zb_M_put 67 = .ok (.iload_n 3, 1) := by decide +kernel
theorem zd_M_put_68 : decode zb_M_put 68 = .ok (.i2s, 1) := by decide +kernel
theorem zd_M_put_69 : decode zb_M_put 69 = .ok (.goto 4, 3) := by decide +kernel
theorem zd_M_put_72 : decode zb_M_put 72 = .ok (.iload_n 3, 1) := by decide +kernel
theorem zd_M_put_73 : decode zb_M_put 73 = .ok (.iastore, 1) := by decide +kernel
theorem zd_M_put_74 : decode zb_M_put 74 = .ok (.aload_n 0, 1) := by decide +kernel
theorem zd_M_put_75 : decode zb_M_put 75 = .ok (.iconst 1, 1) := by decide +kernel
theorem zd_M_put_76 : decode zb_M_put 76 = .ok (.invokevirtual 150, 3) := by decide +kernel
theorem zd_M_put_79 : decode zb_M_put 79 = .ok (.ireturn, 1) := by decide +kernel
def zf_M_put_b73  (u1 : Int32) (u2 : Int32) (m0 : nk_M) : Option (Int32 × nk_M) := nk_ast m0 27 240 u1 u2 (fun m1 => nk_bd (zf_M_refused (1 : Int32) m1) (fun r1 m2 => some (r1, m2)))
set_option maxHeartbeats 4000000 in
set_option maxRecDepth 100000 in
theorem zs_M_put_b73 {G : nk_V} {X : nk_X}   (C : nk_C "NeedOnceModel" zb_M_put 4 nk_wR G X) (hR : X.2.2.2.1 = nk_rm 3) (hr : X.2.2.2.2.2.2.2.2.1.sig.returnType = (some .int))  : ∀ (u1 : Int32) (u2 : Int32) (m0 : nk_M), nk_Sim nk_wR G X 4 nk_oi 73 [nk_r G 0, .null, .null, .null] [.int u2, .int u1, nk_r G 27] m0 (zf_M_put_b73 u1 u2 m0) := by
  intro u1 u2 m0
  unfold zf_M_put_b73
  refine nk_iast C (Nat.le_of_ble_eq_true rfl) rfl zd_M_put_73 (fun m1 => ?_)
  refine nk_aload_n C zd_M_put_74 rfl rfl ?_
  refine nk_iconst (v := 1) C zd_M_put_75 (by decide) ?_
  refine nk_callVi C [.int (1 : Int32)] zv_M_150 hR (zc_M_refused (1 : Int32) m1) (by omega) (Nat.le_of_ble_eq_true rfl) rfl rfl rfl rfl (Nat.le_of_ble_eq_true rfl) zd_M_put_76 (fun r1 m2 => ?_)
  exact nk_iret C hr zd_M_put_79
def zf_M_put  (a1 : Int32) (a2 : Int32) (a3 : Int32) (m0 : nk_M) : Option (Int32 × nk_M) := nk_bd (zf_M_noSheet a1 m0) (fun r1 m1 => (if r1 = 0 then nk_bd (zf_M_noCell a1 a2 m1) (fun r2 m2 => (if r2 ≤ 0 then nk_ald m2 26 4 a1 (fun x3 => (if x3 = 0 then (zf_M_put_b73 (((60 : Int32) * a1) + a2) (a3.toInt8.toInt32) m2) else nk_ald m2 26 4 a1 (fun x4 => (if x4 = (1 : Int32) then (zf_M_put_b73 (((60 : Int32) * a1) + a2) (a3.toInt16.toInt32) m2) else (zf_M_put_b73 (((60 : Int32) * a1) + a2) a3 m2))))) else nk_bd (zf_M_noCell a1 a2 m2) (fun r5 m3 => nk_bd (zf_M_failed r5 m3) (fun r6 m4 => some (r6, m4))))) else nk_bd (zf_M_refused (-1 : Int32) m1) (fun r7 m5 => some (r7, m5))))
set_option maxHeartbeats 4000000 in
set_option maxRecDepth 100000 in
theorem zc_M_put {l : Launch} {G : nk_V}   (a1 : Int32) (a2 : Int32) (a3 : Int32) (m0 : nk_M) : nk_Ct l nk_wR G 3 zy_M_put zb_M_put 4 (some .int) nk_oi [nk_r G 0, .int a1, .int a2, .int a3] m0 (zf_M_put  a1 a2 a3 m0) := by
  refine nk_ent (own := "NeedOnceModel") (lv := [nk_r G 0, .int a1, .int a2, .int a3]) 0 rfl (by decide) (Nat.le_of_ble_eq_true rfl) rfl (fun X hl hR C hr => ?_)
  subst hl
  unfold zf_M_put
  refine nk_iload_n C zd_M_put_0 rfl rfl ?_
  refine nk_callSi C [.int a1] zv_M_146 hR (zc_M_noSheet a1 m0) (by omega) rfl rfl (Nat.le_of_ble_eq_true rfl) zd_M_put_1 (fun r1 m1 => ?_)
  refine nk_if_eq (tgt := 13) C zd_M_put_4 (by decide) ?_ ?_
  · refine nk_aload_n C zd_M_put_13 rfl rfl ?_
    refine nk_iload_n C zd_M_put_14 rfl rfl ?_
    refine nk_iload_n C zd_M_put_15 rfl rfl ?_
    refine nk_callVi C [.int a1, .int a2] zv_M_323 hR (zc_M_noCell a1 a2 m1) (by omega) (Nat.le_of_ble_eq_true rfl) rfl rfl rfl rfl (Nat.le_of_ble_eq_true rfl) zd_M_put_16 (fun r2 m2 => ?_)
    refine nk_if_le (tgt := 33) C zd_M_put_19 (by decide) ?_ ?_
    · refine nk_aload_n C zd_M_put_33 rfl rfl ?_
      refine nk_getR C (r := 27) za_M_88 (Nat.le_of_ble_eq_true rfl) rfl rfl zd_M_put_34 ?_
      refine nk_bipush (v := 60) C zd_M_put_37 (by decide) ?_
      refine nk_iload_n C zd_M_put_39 rfl rfl ?_
      refine nk_imul C zd_M_put_40 ?_
      refine nk_iload_n C zd_M_put_41 rfl rfl ?_
      refine nk_iadd C zd_M_put_42 ?_
      refine nk_aload_n C zd_M_put_43 rfl rfl ?_
      refine nk_getR C (r := 26) za_M_85 (Nat.le_of_ble_eq_true rfl) rfl rfl zd_M_put_44 ?_
      refine nk_iload_n C zd_M_put_47 rfl rfl ?_
      refine nk_iald C (Nat.le_of_ble_eq_true rfl) rfl zd_M_put_48 (fun x3 => ?_)
      refine nk_if_ne (tgt := 57) C zd_M_put_49 (by decide) ?_ ?_
      · refine nk_aload_n C zd_M_put_57 rfl rfl ?_
        refine nk_getR C (r := 26) za_M_85 (Nat.le_of_ble_eq_true rfl) rfl rfl zd_M_put_58 ?_
        refine nk_iload_n C zd_M_put_61 rfl rfl ?_
        refine nk_iald C (Nat.le_of_ble_eq_true rfl) rfl zd_M_put_62 (fun x4 => ?_)
        refine nk_iconst (v := 1) C zd_M_put_63 (by decide) ?_
        refine nk_icmp_ne (tgt := 72) C zd_M_put_64 (by decide) ?_ ?_
        · refine nk_iload_n C zd_M_put_72 rfl rfl ?_
          refine nk_wk [true, false, false, false] ?_
          exact zs_M_put_b73 C hR hr (((60 : Int32) * a1) + a2) a3 m2
        · refine nk_iload_n C zd_M_put_67 rfl rfl ?_
          refine nk_i2s C zd_M_put_68 ?_
          refine nk_goto (tgt := 73) C zd_M_put_69 (by decide) ?_
          refine nk_wk [true, false, false, false] ?_
          exact zs_M_put_b73 C hR hr (((60 : Int32) * a1) + a2) (a3.toInt16.toInt32) m2
      · refine nk_iload_n C zd_M_put_52 rfl rfl ?_
        refine nk_i2b C zd_M_put_53 ?_
        refine nk_goto (tgt := 73) C zd_M_put_54 (by decide) ?_
        refine nk_wk [true, false, false, false] ?_
        exact zs_M_put_b73 C hR hr (((60 : Int32) * a1) + a2) (a3.toInt8.toInt32) m2
    · refine nk_aload_n C zd_M_put_22 rfl rfl ?_
      refine nk_aload_n C zd_M_put_23 rfl rfl ?_
      refine nk_iload_n C zd_M_put_24 rfl rfl ?_
      refine nk_iload_n C zd_M_put_25 rfl rfl ?_
      refine nk_callVi C [.int a1, .int a2] zv_M_323 hR (zc_M_noCell a1 a2 m2) (by omega) (Nat.le_of_ble_eq_true rfl) rfl rfl rfl rfl (Nat.le_of_ble_eq_true rfl) zd_M_put_26 (fun r5 m3 => ?_)
      refine nk_callVi C [.int r5] zv_M_139 hR (zc_M_failed r5 m3) (by omega) (Nat.le_of_ble_eq_true rfl) rfl rfl rfl rfl (Nat.le_of_ble_eq_true rfl) zd_M_put_29 (fun r6 m4 => ?_)
      exact nk_iret C hr zd_M_put_32
  · refine nk_aload_n C zd_M_put_7 rfl rfl ?_
    refine nk_iconst (v := -1) C zd_M_put_8 (by decide) ?_
    refine nk_callVi C [.int (-1 : Int32)] zv_M_150 hR (zc_M_refused (-1 : Int32) m1) (by omega) (Nat.le_of_ble_eq_true rfl) rfl rfl rfl rfl (Nat.le_of_ble_eq_true rfl) zd_M_put_9 (fun r7 m5 => ?_)
    exact nk_iret C hr zd_M_put_12
theorem zd_M_failedLong_0 : decode zb_M_failedLong 0 = .ok (.aload_n 0, 1) := by decide +kernel
theorem zd_M_failedLong_1 : decode zb_M_failedLong 1 = .ok (.iload_n 1, 1) := by decide +kernel
theorem zd_M_failedLong_2 : decode zb_M_failedLong 2 = .ok (.putfield 96, 3) := by decide +kernel
theorem zd_M_failedLong_5 : decode zb_M_failedLong 5 = .ok (.invokestatic 100, 3) := by decide +kernel
theorem zd_M_failedLong_8 : decode zb_M_failedLong 8 = .ok (.lreturn, 1) := by decide +kernel
def zf_M_failedLong  (a1 : Int32) (m0 : nk_M) : Option (Int64 × nk_M) := nk_pf m0 0 0 a1 (fun m1 => nk_bd (zf_M_lost m1) (fun r1 m2 => some (r1, m2)))
set_option maxHeartbeats 4000000 in
set_option maxRecDepth 100000 in
theorem zc_M_failedLong {l : Launch} {G : nk_V}   (a1 : Int32) (m0 : nk_M) : nk_Ct l nk_wR G 2 zy_M_failedLong zb_M_failedLong 2 (some .long) nk_ol [nk_r G 0, .int a1] m0 (zf_M_failedLong  a1 m0) := by
  refine nk_ent (own := "NeedOnceModel") (lv := [nk_r G 0, .int a1]) 0 rfl (by decide) (Nat.le_of_ble_eq_true rfl) rfl (fun X hl hR C hr => ?_)
  subst hl
  unfold zf_M_failedLong
  refine nk_aload_n C zd_M_failedLong_0 rfl rfl ?_
  refine nk_iload_n C zd_M_failedLong_1 rfl rfl ?_
  refine nk_putI C zp_M_96 (Nat.le_of_ble_eq_true rfl) rfl rfl zd_M_failedLong_2 (fun m1 => ?_)
  refine nk_callSl C [] zv_M_100 hR (zc_M_lost m1) (by omega) rfl rfl (Nat.le_of_ble_eq_true rfl) zd_M_failedLong_5 (fun r1 m2 => ?_)
  exact nk_lret C hr zd_M_failedLong_8
theorem zd_M_cell_0 : decode zb_M_cell 0 = .ok (.aload_n 0, 1) := by decide +kernel
theorem zd_M_cell_1 : decode zb_M_cell 1 = .ok (.iconst 0, 1) := by decide +kernel
theorem zd_M_cell_2 : decode zb_M_cell 2 = .ok (.putfield 96, 3) := by decide +kernel
theorem zd_M_cell_5 : decode zb_M_cell 5 = .ok (.iload_n 1, 1) := by decide +kernel
theorem zd_M_cell_6 : decode zb_M_cell 6 = .ok (.invokestatic 146, 3) := by decide +kernel
theorem zd_M_cell_9 : decode zb_M_cell 9 = .ok (.ifCond .ne 15, 3) := by decide +kernel
theorem zd_M_cell_12 : decode zb_M_cell 12 = .ok (.iload_n 3, 1) := by decide +kernel
theorem zd_M_cell_13 : decode zb_M_cell 13 = .ok (.i2l, 1) := by decide +kernel
theorem zd_M_cell_14 : decode zb_M_cell 14 = .ok (.lconst 0, 1) := by decide +kernel
theorem zd_M_cell_15 : decode zb_M_cell 15 = .ok (.ldc2_w 153, 3) := by decide +kernel
theorem zd_M_cell_18 : decode zb_M_cell 18 = .ok (.invokestatic 107, 3) := by decide +kernel
theorem zd_M_cell_21 : decode zb_M_cell 21 = .ok (.ifCond .ne 7, 3) := by decide +kernel
theorem zd_M_cell_24 : decode zb_M_cell 24 = .ok (.invokestatic 100, 3) := by decide +kernel
theorem zd_M_cell_27 : decode zb_M_cell 27 = .ok (.lreturn, 1) := by decide +kernel
theorem zd_M_cell_28 : decode zb_M_cell 28 = .ok (.aload_n 0, 1) := by decide +kernel
theorem zd_M_cell_29 : decode zb_M_cell 29 = .ok (.getfield 82, 3) := by decide +kernel
theorem zd_M_cell_32 : decode zb_M_cell 32 = .ok (.iload_n 1, 1) := by decide +kernel
theorem zd_M_cell_33 : decode zb_M_cell 33 = .ok (.iaload, 1) := by decide +kernel
theorem zd_M_cell_34 : decode zb_M_cell 34 = .ok (.ifCond .lt 19, 3) := by decide +kernel
theorem zd_M_cell_37 : decode zb_M_cell 37 = .ok (.aload_n 0, 1) := by decide +kernel
theorem zd_M_cell_38 : decode zb_M_cell 38 = .ok (.getfield 85, 3) := by decide +kernel
theorem zd_M_cell_41 : decode zb_M_cell 41 = .ok (.iload_n 1, 1) := by decide +kernel
theorem zd_M_cell_42 : decode zb_M_cell 42 = .ok (.iaload, 1) := by decide +kernel
theorem zd_M_cell_43 : decode zb_M_cell 43 = .ok (.iload_n 3, 1) := by decide +kernel
theorem zd_M_cell_44 : decode zb_M_cell 44 = .ok (.if_icmp .eq 9, 3) := by decide +kernel
theorem zd_M_cell_47 : decode zb_M_cell 47 = .ok (.aload_n 0, 1) := by decide +kernel
theorem zd_M_cell_48 : decode zb_M_cell 48 = .ok (.iconst 2, 1) := by decide +kernel
theorem zd_M_cell_49 : decode zb_M_cell 49 = .ok (.invokevirtual 326, 3) := by decide +kernel
theorem zd_M_cell_52 : decode zb_M_cell 52 = .ok (.lreturn, 1) := by decide +kernel
theorem zd_M_cell_53 : decode zb_M_cell 53 = .ok (.aload_n 0, 1) := by decide +kernel
theorem zd_M_cell_54 : decode zb_M_cell 54 = .ok (.iload_n 1, 1) := by decide +kernel
theorem zd_M_cell_55 : decode zb_M_cell 55 = .ok (.iload_n 2, 1) := by decide +kernel
theorem zd_M_cell_56 : decode zb_M_cell 56 = .ok (.invokevirtual 323, 3) := by decide +kernel
theorem zd_M_cell_59 : decode zb_M_cell 59 = .ok (.ifCond .le 16, 3) := by decide +kernel
theorem zd_M_cell_62 : decode zb_M_cell 62 = .ok (.aload_n 0, 1) := by decide +kernel
theorem zd_M_cell_63 : decode zb_M_cell 63 = .ok (.aload_n 0, 1) := by decide +kernel
theorem zd_M_cell_64 : decode zb_M_cell 64 = .ok (.iload_n 1, 1) := by decide +kernel
theorem zd_M_cell_65 : decode zb_M_cell 65 = .ok (.iload_n 2, 1) := by decide +kernel
theorem zd_M_cell_66 : decode zb_M_cell 66 = .ok (.invokevirtual 323, 3) := by decide +kernel
theorem zd_M_cell_69 : decode zb_M_cell 69 = .ok (.invokevirtual 326, 3) := by decide +kernel
theorem zd_M_cell_72 : decode zb_M_cell 72 = .ok (.goto 15, 3) := by decide +kernel
theorem zd_M_cell_75 : decode zb_M_cell 75 = .ok (.aload_n 0, 1) := by decide +kernel
theorem zd_M_cell_76 : decode zb_M_cell 76 = .ok (.getfield 88, 3) := by decide +kernel
theorem zd_M_cell_79 : decode zb_M_cell 79 = .ok (.bipush 60, 2) := by decide +kernel
theorem zd_M_cell_81 : decode zb_M_cell 81 = .ok (.iload_n 1, 1) := by decide +kernel
theorem zd_M_cell_82 : decode zb_M_cell 82 = .ok (.imul, 1) := by decide +kernel
theorem zd_M_cell_83 : decode zb_M_cell 83 = .ok (.iload_n 2, 1) := by decide +kernel
theorem zd_M_cell_84 : decode zb_M_cell 84 = .ok (.iadd, 1) := by decide +kernel
theorem zd_M_cell_85 : decode zb_M_cell 85 = .ok (.iaload, 1) := by decide +kernel
theorem zd_M_cell_86 : decode zb_M_cell 86 = .ok (.i2l, 1) := by decide +kernel
theorem zd_M_cell_87 : decode zb_M_cell 87 = .ok (.lreturn, 1) := by decide +kernel
def zf_M_cell_b24   (m0 : nk_M) : Option (Int64 × nk_M) := nk_bd (zf_M_lost m0) (fun r1 m1 => some (r1, m1))
set_option maxHeartbeats 4000000 in
set_option maxRecDepth 100000 in
theorem zs_M_cell_b24 {G : nk_V} {X : nk_X}   (C : nk_C "NeedOnceModel" zb_M_cell 4 nk_wR G X) (hR : X.2.2.2.1 = nk_rm 3) (hr : X.2.2.2.2.2.2.2.2.1.sig.returnType = (some .long))  : ∀  (m0 : nk_M), nk_Sim nk_wR G X 4 nk_ol 24 [nk_r G 0, .null, .null, .null] [] m0 (zf_M_cell_b24  m0) := by
  intro m0
  unfold zf_M_cell_b24
  refine nk_callSl C [] zv_M_100 hR (zc_M_lost m0) (by omega) rfl rfl (Nat.le_of_ble_eq_true rfl) zd_M_cell_24 (fun r1 m1 => ?_)
  exact nk_lret C hr zd_M_cell_27
def zf_M_cell_b87  (u0 : Int64) (m0 : nk_M) : Option (Int64 × nk_M) := some (u0, m0)
set_option maxHeartbeats 4000000 in
set_option maxRecDepth 100000 in
theorem zs_M_cell_b87 {G : nk_V} {X : nk_X}   (C : nk_C "NeedOnceModel" zb_M_cell 4 nk_wR G X) (hR : X.2.2.2.1 = nk_rm 3) (hr : X.2.2.2.2.2.2.2.2.1.sig.returnType = (some .long))  : ∀ (u0 : Int64) (m0 : nk_M), nk_Sim nk_wR G X 4 nk_ol 87 [nk_r G 0, .null, .null, .null] [.long u0] m0 (zf_M_cell_b87 u0 m0) := by
  intro u0 m0
  unfold zf_M_cell_b87
  exact nk_lret C hr zd_M_cell_87
def zf_M_cell_b53  (y1 : Int32) (y2 : Int32) (m0 : nk_M) : Option (Int64 × nk_M) := nk_bd (zf_M_noCell y1 y2 m0) (fun r1 m1 => (if r1 ≤ 0 then nk_ald m1 27 240 (((60 : Int32) * y1) + y2) (fun x2 => (zf_M_cell_b87 (x2.toInt64) m1)) else nk_bd (zf_M_noCell y1 y2 m1) (fun r3 m2 => nk_bd (zf_M_failedLong r3 m2) (fun r4 m3 => (zf_M_cell_b87 r4 m3)))))
set_option maxHeartbeats 4000000 in
set_option maxRecDepth 100000 in
theorem zs_M_cell_b53 {G : nk_V} {X : nk_X}   (C : nk_C "NeedOnceModel" zb_M_cell 4 nk_wR G X) (hR : X.2.2.2.1 = nk_rm 3) (hr : X.2.2.2.2.2.2.2.2.1.sig.returnType = (some .long))  : ∀ (y1 : Int32) (y2 : Int32) (m0 : nk_M), nk_Sim nk_wR G X 4 nk_ol 53 [nk_r G 0, .int y1, .int y2, .null] [] m0 (zf_M_cell_b53 y1 y2 m0) := by
  intro y1 y2 m0
  unfold zf_M_cell_b53
  refine nk_aload_n C zd_M_cell_53 rfl rfl ?_
  refine nk_iload_n C zd_M_cell_54 rfl rfl ?_
  refine nk_iload_n C zd_M_cell_55 rfl rfl ?_
  refine nk_callVi C [.int y1, .int y2] zv_M_323 hR (zc_M_noCell y1 y2 m0) (by omega) (Nat.le_of_ble_eq_true rfl) rfl rfl rfl rfl (Nat.le_of_ble_eq_true rfl) zd_M_cell_56 (fun r1 m1 => ?_)
  refine nk_if_le (tgt := 75) C zd_M_cell_59 (by decide) ?_ ?_
  · refine nk_aload_n C zd_M_cell_75 rfl rfl ?_
    refine nk_getR C (r := 27) za_M_88 (Nat.le_of_ble_eq_true rfl) rfl rfl zd_M_cell_76 ?_
    refine nk_bipush (v := 60) C zd_M_cell_79 (by decide) ?_
    refine nk_iload_n C zd_M_cell_81 rfl rfl ?_
    refine nk_imul C zd_M_cell_82 ?_
    refine nk_iload_n C zd_M_cell_83 rfl rfl ?_
    refine nk_iadd C zd_M_cell_84 ?_
    refine nk_iald C (Nat.le_of_ble_eq_true rfl) rfl zd_M_cell_85 (fun x2 => ?_)
    refine nk_i2l C zd_M_cell_86 ?_
    refine nk_wk [true, false, false, false] ?_
    exact zs_M_cell_b87 C hR hr (x2.toInt64) m1
  · refine nk_aload_n C zd_M_cell_62 rfl rfl ?_
    refine nk_aload_n C zd_M_cell_63 rfl rfl ?_
    refine nk_iload_n C zd_M_cell_64 rfl rfl ?_
    refine nk_iload_n C zd_M_cell_65 rfl rfl ?_
    refine nk_callVi C [.int y1, .int y2] zv_M_323 hR (zc_M_noCell y1 y2 m1) (by omega) (Nat.le_of_ble_eq_true rfl) rfl rfl rfl rfl (Nat.le_of_ble_eq_true rfl) zd_M_cell_66 (fun r3 m2 => ?_)
    refine nk_callVl C [.int r3] zv_M_326 hR (zc_M_failedLong r3 m2) (by omega) (Nat.le_of_ble_eq_true rfl) rfl rfl rfl rfl (Nat.le_of_ble_eq_true rfl) zd_M_cell_69 (fun r4 m3 => ?_)
    refine nk_goto (tgt := 87) C zd_M_cell_72 (by decide) ?_
    refine nk_wk [true, false, false, false] ?_
    exact zs_M_cell_b87 C hR hr r4 m3
def zf_M_cell  (a1 : Int32) (a2 : Int32) (a3 : Int32) (m0 : nk_M) : Option (Int64 × nk_M) := nk_pf m0 0 0 (0 : Int32) (fun m1 => nk_bd (zf_M_noSheet a1 m1) (fun r1 m2 => (if r1 = 0 then nk_bd (zf_M_in (a3.toInt64) (0 : Int64) (2 : Int64) m2) (fun r2 m3 => (if r2 = 0 then (zf_M_cell_b24 m3) else nk_ald m3 25 4 a1 (fun x3 => (if x3 < 0 then (zf_M_cell_b53 a1 a2 m3) else nk_ald m3 26 4 a1 (fun x4 => (if x4 = a3 then (zf_M_cell_b53 a1 a2 m3) else nk_bd (zf_M_failedLong (2 : Int32) m3) (fun r5 m4 => some (r5, m4)))))))) else (zf_M_cell_b24 m2))))
set_option maxHeartbeats 4000000 in
set_option maxRecDepth 100000 in
theorem zc_M_cell {l : Launch} {G : nk_V}   (a1 : Int32) (a2 : Int32) (a3 : Int32) (m0 : nk_M) : nk_Ct l nk_wR G 3 zy_M_cell zb_M_cell 4 (some .long) nk_ol [nk_r G 0, .int a1, .int a2, .int a3] m0 (zf_M_cell  a1 a2 a3 m0) := by
  refine nk_ent (own := "NeedOnceModel") (lv := [nk_r G 0, .int a1, .int a2, .int a3]) 0 rfl (by decide) (Nat.le_of_ble_eq_true rfl) rfl (fun X hl hR C hr => ?_)
  subst hl
  unfold zf_M_cell
  refine nk_aload_n C zd_M_cell_0 rfl rfl ?_
  refine nk_iconst (v := 0) C zd_M_cell_1 (by decide) ?_
  refine nk_putI C zp_M_96 (Nat.le_of_ble_eq_true rfl) rfl rfl zd_M_cell_2 (fun m1 => ?_)
  refine nk_iload_n C zd_M_cell_5 rfl rfl ?_
  refine nk_callSi C [.int a1] zv_M_146 hR (zc_M_noSheet a1 m1) (by omega) rfl rfl (Nat.le_of_ble_eq_true rfl) zd_M_cell_6 (fun r1 m2 => ?_)
  refine nk_if_ne (tgt := 24) C zd_M_cell_9 (by decide) ?_ ?_
  · refine nk_wk [true, false, false, false] ?_
    exact zs_M_cell_b24 C hR hr m2
  · refine nk_iload_n C zd_M_cell_12 rfl rfl ?_
    refine nk_i2l C zd_M_cell_13 ?_
    refine nk_lconst (v := 0) C zd_M_cell_14 (by decide) ?_
    refine nk_ldc2 (v := 2) C zw_710 zd_M_cell_15 ?_
    refine nk_callSi C [.long (a3.toInt64), .long (0 : Int64), .long (2 : Int64)] zv_M_107 hR (zc_M_in (a3.toInt64) (0 : Int64) (2 : Int64) m2) (by omega) rfl rfl (Nat.le_of_ble_eq_true rfl) zd_M_cell_18 (fun r2 m3 => ?_)
    refine nk_if_ne (tgt := 28) C zd_M_cell_21 (by decide) ?_ ?_
    · refine nk_aload_n C zd_M_cell_28 rfl rfl ?_
      refine nk_getR C (r := 25) za_M_82 (Nat.le_of_ble_eq_true rfl) rfl rfl zd_M_cell_29 ?_
      refine nk_iload_n C zd_M_cell_32 rfl rfl ?_
      refine nk_iald C (Nat.le_of_ble_eq_true rfl) rfl zd_M_cell_33 (fun x3 => ?_)
      refine nk_if_lt (tgt := 53) C zd_M_cell_34 (by decide) ?_ ?_
      · refine nk_wk [true, true, true, false] ?_
        exact zs_M_cell_b53 C hR hr a1 a2 m3
      · refine nk_aload_n C zd_M_cell_37 rfl rfl ?_
        refine nk_getR C (r := 26) za_M_85 (Nat.le_of_ble_eq_true rfl) rfl rfl zd_M_cell_38 ?_
        refine nk_iload_n C zd_M_cell_41 rfl rfl ?_
        refine nk_iald C (Nat.le_of_ble_eq_true rfl) rfl zd_M_cell_42 (fun x4 => ?_)
        refine nk_iload_n C zd_M_cell_43 rfl rfl ?_
        refine nk_icmp_eq (tgt := 53) C zd_M_cell_44 (by decide) ?_ ?_
        · refine nk_wk [true, true, true, false] ?_
          exact zs_M_cell_b53 C hR hr a1 a2 m3
        · refine nk_aload_n C zd_M_cell_47 rfl rfl ?_
          refine nk_iconst (v := 2) C zd_M_cell_48 (by decide) ?_
          refine nk_callVl C [.int (2 : Int32)] zv_M_326 hR (zc_M_failedLong (2 : Int32) m3) (by omega) (Nat.le_of_ble_eq_true rfl) rfl rfl rfl rfl (Nat.le_of_ble_eq_true rfl) zd_M_cell_49 (fun r5 m4 => ?_)
          exact nk_lret C hr zd_M_cell_52
    · refine nk_wk [true, false, false, false] ?_
      exact zs_M_cell_b24 C hR hr m3
theorem zd_M_copy_0 : decode zb_M_copy 0 = .ok (.iload_n 1, 1) := by decide +kernel
theorem zd_M_copy_1 : decode zb_M_copy 1 = .ok (.invokestatic 146, 3) := by decide +kernel
theorem zd_M_copy_4 : decode zb_M_copy 4 = .ok (.ifCond .ne 10, 3) := by decide +kernel
theorem zd_M_copy_7 : decode zb_M_copy 7 = .ok (.iload_n 3, 1) := by decide +kernel
theorem zd_M_copy_8 : decode zb_M_copy 8 = .ok (.invokestatic 146, 3) := by decide +kernel
theorem zd_M_copy_11 : decode zb_M_copy 11 = .ok (.ifCond .eq 9, 3) := by decide +kernel
theorem zd_M_copy_14 : decode zb_M_copy 14 = .ok (.aload_n 0, 1) := by decide +kernel
theorem zd_M_copy_15 : decode zb_M_copy 15 = .ok (.iconst (-1), 1) := by decide +kernel
theorem zd_M_copy_16 : decode zb_M_copy 16 = .ok (.invokevirtual 150, 3) := by decide +kernel
theorem zd_M_copy_19 : decode zb_M_copy 19 = .ok (.ireturn, 1) := by decide +kernel
theorem zd_M_copy_20 : decode zb_M_copy 20 = .ok (.aload_n 0, 1) := by decide +kernel
theorem zd_M_copy_21 : decode zb_M_copy 21 = .ok (.getfield 82, 3) := by decide +kernel
theorem zd_M_copy_24 : decode zb_M_copy 24 = .ok (.iload_n 1, 1) := by decide +kernel
theorem zd_M_copy_25 : decode zb_M_copy 25 = .ok (.iaload, 1) := by decide +kernel
theorem zd_M_copy_26 : decode zb_M_copy 26 = .ok (.ifCond .lt 12, 3) := by decide +kernel
theorem zd_M_copy_29 : decode zb_M_copy 29 = .ok (.aload_n 0, 1) := by decide +kernel
theorem zd_M_copy_30 : decode zb_M_copy 30 = .ok (.getfield 82, 3) := by decide +kernel
theorem zd_M_copy_33 : decode zb_M_copy 33 = .ok (.iload_n 3, 1) := by decide +kernel
theorem zd_M_copy_34 : decode zb_M_copy 34 = .ok (.iaload, 1) := by decide +kernel
theorem zd_M_copy_35 : decode zb_M_copy 35 = .ok (.ifCond .ge 9, 3) := by decide +kernel
theorem zd_M_copy_38 : decode zb_M_copy 38 = .ok (.aload_n 0, 1) := by decide +kernel
theorem zd_M_copy_39 : decode zb_M_copy 39 = .ok (.iconst 1, 1) := by decide +kernel
theorem zd_M_copy_40 : decode zb_M_copy 40 = .ok (.invokevirtual 139, 3) := by decide +kernel
theorem zd_M_copy_43 : decode zb_M_copy 43 = .ok (.ireturn, 1) := by decide +kernel
theorem zd_M_copy_44 : decode zb_M_copy 44 = .ok (.aload_n 0, 1) := by decide +kernel
theorem zd_M_copy_45 : decode zb_M_copy 45 = .ok (.getfield 85, 3) := by decide +kernel
theorem zd_M_copy_48 : decode zb_M_copy 48 = .ok (.iload_n 1, 1) := by decide +kernel
theorem zd_M_copy_49 : decode zb_M_copy 49 = .ok (.iaload, 1) := by decide +kernel
theorem zd_M_copy_50 : decode zb_M_copy 50 = .ok (.aload_n 0, 1) := by decide +kernel
theorem zd_M_copy_51 : decode zb_M_copy 51 = .ok (.getfield 85, 3) := by decide +kernel
theorem zd_M_copy_54 : decode zb_M_copy 54 = .ok (.iload_n 3, 1) := by decide +kernel
theorem zd_M_copy_55 : decode zb_M_copy 55 = .ok (.iaload, 1) := by decide +kernel
theorem zd_M_copy_56 : decode zb_M_copy 56 = .ok (.if_icmp .eq 9, 3) := by decide +kernel
theorem zd_M_copy_59 : decode zb_M_copy 59 = .ok (.aload_n 0, 1) := by decide +kernel
theorem zd_M_copy_60 : decode zb_M_copy 60 = .ok (.iconst 2, 1) := by decide +kernel
theorem zd_M_copy_61 : decode zb_M_copy 61 = .ok (.invokevirtual 139, 3) := by decide +kernel
theorem zd_M_copy_64 : decode zb_M_copy 64 = .ok (.ireturn, 1) := by decide +kernel
theorem zd_M_copy_65 : decode zb_M_copy 65 = .ok (.iload_n 2, 1) := by decide +kernel
theorem zd_M_copy_66 : decode zb_M_copy 66 = .ok (.iload 5, 2) := by decide +kernel
theorem zd_M_copy_68 : decode zb_M_copy 68 = .ok (.i2l, 1) := by decide +kernel
theorem zd_M_copy_69 : decode zb_M_copy 69 = .ok (.aload_n 0, 1) := by decide +kernel
theorem zd_M_copy_70 : decode zb_M_copy 70 = .ok (.getfield 82, 3) := by decide +kernel
theorem zd_M_copy_73 : decode zb_M_copy 73 = .ok (.iload_n 1, 1) := by decide +kernel
theorem zd_M_copy_74 : decode zb_M_copy 74 = .ok (.iaload, 1) := by decide +kernel
theorem zd_M_copy_75 : decode zb_M_copy 75 = .ok (.invokestatic 142, 3) := by decide +kernel
theorem zd_M_copy_78 : decode zb_M_copy 78 = .ok (.ifCond .ne 20, 3) := by decide +kernel
theorem zd_M_copy_81 : decode zb_M_copy 81 = .ok (.iload 4, 2) := by decide +kernel
theorem zd_M_copy_83 : decode zb_M_copy 83 = .ok (.iload 5, 2) := by decide +kernel
theorem zd_M_copy_85 : decode zb_M_copy 85 = .ok (.i2l, 1) := by decide +kernel
theorem zd_M_copy_86 : decode zb_M_copy 86 = .ok (.aload_n 0, 1) := by decide +kernel
theorem zd_M_copy_87 : decode zb_M_copy 87 = .ok (.getfield 82, 3) := by decide +kernel
theorem zd_M_copy_90 : decode zb_M_copy 90 = .ok (.iload_n 3, 1) := by decide +kernel
theorem zd_M_copy_91 : decode zb_M_copy 91 = .ok (.iaload, 1) := by decide +kernel
theorem zd_M_copy_92 : decode zb_M_copy 92 = .ok (.invokestatic 142, 3) := by decide +kernel
theorem zd_M_copy_95 : decode zb_M_copy 95 = .ok (.ifCond .eq 9, 3) := by decide +kernel
theorem zd_M_copy_98 : decode zb_M_copy 98 = .ok (.aload_n 0, 1) := by decide +kernel
theorem zd_M_copy_99 : decode zb_M_copy 99 = .ok (.iconst 3, 1) := by decide +kernel
theorem zd_M_copy_100 : decode zb_M_copy 100 = .ok (.invokevirtual 139, 3) := by decide +kernel
theorem zd_M_copy_103 : decode zb_M_copy 103 = .ok (.ireturn, 1) := by decide +kernel
theorem zd_M_copy_104 : decode zb_M_copy 104 = .ok (.iconst 0, 1) := by decide +kernel
theorem zd_M_copy_105 : decode zb_M_copy 105 = .ok (.istore 6, 2) := by decide +kernel
theorem zd_M_copy_107 : decode zb_M_copy 107 = .ok (.iload 6, 2) := by decide +kernel
theorem zd_M_copy_109 : decode zb_M_copy 109 = .ok (.iload 5, 2) := by decide +kernel
theorem zd_M_copy_111 : decode zb_M_copy 111 = .ok (.if_icmp .ge 30, 3) := by decide +kernel
theorem zd_M_copy_114 : decode zb_M_copy 114 = .ok (.aload_n 0, 1) := by decide +kernel
theorem zd_M_copy_115 : decode zb_M_copy 115 = .ok (.getfield 91, 3) := by decide +kernel
theorem zd_M_copy_118 : decode zb_M_copy 118 = .ok (.iload 6, 2) := by decide +kernel
theorem zd_M_copy_120 : decode zb_M_copy 120 = .ok (.aload_n 0, 1) := by decide +kernel
theorem zd_M_copy_121 : decode zb_M_copy 121 = .ok (.getfield 88, 3) := by decide +kernel
theorem zd_M_copy_124 : decode zb_M_copy 124 = .ok (.bipush 60, 2) := by decide +kernel
theorem zd_M_copy_126 : decode zb_M_copy 126 = .ok (.iload_n 1, 1) := by decide +kernel
theorem zd_M_copy_127 : decode zb_M_copy 127 = .ok (.imul, 1) := by decide +kernel
theorem zd_M_copy_128 : decode zb_M_copy 128 = .ok (.iload_n 2, 1) := by decide +kernel
theorem zd_M_copy_129 : decode zb_M_copy 129 = .ok (.iadd, 1) := by decide +kernel
theorem zd_M_copy_130 : decode zb_M_copy 130 = .ok (.iload 6, 2) := by decide +kernel
theorem zd_M_copy_132 : decode zb_M_copy 132 = .ok (.iadd, 1) := by decide +kernel
theorem zd_M_copy_133 : decode zb_M_copy 133 = .ok (.iaload, 1) := by decide +kernel
theorem zd_M_copy_134 : decode zb_M_copy 134 = .ok (.iastore, 1) := by decide +kernel
theorem zd_M_copy_135 : decode zb_M_copy 135 = .ok (.iinc 6 1, 3) := by decide +kernel
theorem zd_M_copy_138 : decode zb_M_copy 138 = .ok (.goto (-31), 3) := by decide +kernel
theorem zd_M_copy_141 : decode zb_M_copy 141 = .ok (.iconst 0, 1) := by decide +kernel
theorem zd_M_copy_142 : decode zb_M_copy 142 = .ok (.istore 6, 2) := by decide +kernel
theorem zd_M_copy_144 : decode zb_M_copy 144 = .ok (.iload 6, 2) := by decide +kernel
theorem zd_M_copy_146 : decode zb_M_copy 146 = .ok (.iload 5, 2) := by decide +kernel
theorem zd_M_copy_148 : decode zb_M_copy 148 = .ok (.if_icmp .ge 31, 3) := by decide +kernel
theorem zd_M_copy_151 : decode zb_M_copy 151 = .ok (.aload_n 0, 1) := by decide +kernel
theorem zd_M_copy_152 : decode zb_M_copy 152 = .ok (.getfield 88, 3) := by decide +kernel
theorem zd_M_copy_155 : decode zb_M_copy 155 = .ok (.bipush 60, 2) := by decide +kernel
theorem zd_M_copy_157 : decode zb_M_copy 157 = .ok (.iload_n 3, 1) := by decide +kernel
theorem zd_M_copy_158 : decode zb_M_copy 158 = .ok (.imul, 1) := by decide +kernel
theorem zd_M_copy_159 : decode zb_M_copy 159 = .ok (.iload 4, 2) := by decide +kernel
theorem zd_M_copy_161 : decode zb_M_copy 161 = .ok (.iadd, 1) := by decide +kernel
theorem zd_M_copy_162 : decode zb_M_copy 162 = .ok (.iload 6, 2) := by decide +kernel
theorem zd_M_copy_164 : decode zb_M_copy 164 = .ok (.iadd, 1) := by decide +kernel
theorem zd_M_copy_165 : decode zb_M_copy 165 = .ok (.aload_n 0, 1) := by decide +kernel
theorem zd_M_copy_166 : decode zb_M_copy 166 = .ok (.getfield 91, 3) := by decide +kernel
theorem zd_M_copy_169 : decode zb_M_copy 169 = .ok (.iload 6, 2) := by decide +kernel
theorem zd_M_copy_171 : decode zb_M_copy 171 = .ok (.iaload, 1) := by decide +kernel
theorem zd_M_copy_172 : decode zb_M_copy 172 = .ok (.iastore, 1) := by decide +kernel
theorem zd_M_copy_173 : decode zb_M_copy 173 = .ok (.iinc 6 1, 3) := by decide +kernel
theorem zd_M_copy_176 : decode zb_M_copy 176 = .ok (.goto (-32), 3) := by decide +kernel
theorem zd_M_copy_179 : decode zb_M_copy 179 = .ok (.aload_n 0, 1) := by decide +kernel
theorem zd_M_copy_180 : decode zb_M_copy 180 = .ok (.iload 5, 2) := by decide +kernel
theorem zd_M_copy_182 : decode zb_M_copy 182 = .ok (.invokevirtual 150, 3) := by decide +kernel
theorem zd_M_copy_185 : decode zb_M_copy 185 = .ok (.ireturn, 1) := by decide +kernel
def zf_M_copy_b14   (m0 : nk_M) : Option (Int32 × nk_M) := nk_bd (zf_M_refused (-1 : Int32) m0) (fun r1 m1 => some (r1, m1))
set_option maxHeartbeats 4000000 in
set_option maxRecDepth 100000 in
theorem zs_M_copy_b14 {G : nk_V} {X : nk_X}   (C : nk_C "NeedOnceModel" zb_M_copy 7 nk_wR G X) (hR : X.2.2.2.1 = nk_rm 3) (hr : X.2.2.2.2.2.2.2.2.1.sig.returnType = (some .int))  : ∀  (m0 : nk_M), nk_Sim nk_wR G X 7 nk_oi 14 [nk_r G 0, .null, .null, .null, .null, .null, .null] [] m0 (zf_M_copy_b14  m0) := by
  intro m0
  unfold zf_M_copy_b14
  refine nk_aload_n C zd_M_copy_14 rfl rfl ?_
  refine nk_iconst (v := -1) C zd_M_copy_15 (by decide) ?_
  refine nk_callVi C [.int (-1 : Int32)] zv_M_150 hR (zc_M_refused (-1 : Int32) m0) (by omega) (Nat.le_of_ble_eq_true rfl) rfl rfl rfl rfl (Nat.le_of_ble_eq_true rfl) zd_M_copy_16 (fun r1 m1 => ?_)
  exact nk_iret C hr zd_M_copy_19
def zf_M_copy_b38   (m0 : nk_M) : Option (Int32 × nk_M) := nk_bd (zf_M_failed (1 : Int32) m0) (fun r1 m1 => some (r1, m1))
set_option maxHeartbeats 4000000 in
set_option maxRecDepth 100000 in
theorem zs_M_copy_b38 {G : nk_V} {X : nk_X}   (C : nk_C "NeedOnceModel" zb_M_copy 7 nk_wR G X) (hR : X.2.2.2.1 = nk_rm 3) (hr : X.2.2.2.2.2.2.2.2.1.sig.returnType = (some .int))  : ∀  (m0 : nk_M), nk_Sim nk_wR G X 7 nk_oi 38 [nk_r G 0, .null, .null, .null, .null, .null, .null] [] m0 (zf_M_copy_b38  m0) := by
  intro m0
  unfold zf_M_copy_b38
  refine nk_aload_n C zd_M_copy_38 rfl rfl ?_
  refine nk_iconst (v := 1) C zd_M_copy_39 (by decide) ?_
  refine nk_callVi C [.int (1 : Int32)] zv_M_139 hR (zc_M_failed (1 : Int32) m0) (by omega) (Nat.le_of_ble_eq_true rfl) rfl rfl rfl rfl (Nat.le_of_ble_eq_true rfl) zd_M_copy_40 (fun r1 m1 => ?_)
  exact nk_iret C hr zd_M_copy_43
def zf_M_copy_b98   (m0 : nk_M) : Option (Int32 × nk_M) := nk_bd (zf_M_failed (3 : Int32) m0) (fun r1 m1 => some (r1, m1))
set_option maxHeartbeats 4000000 in
set_option maxRecDepth 100000 in
theorem zs_M_copy_b98 {G : nk_V} {X : nk_X}   (C : nk_C "NeedOnceModel" zb_M_copy 7 nk_wR G X) (hR : X.2.2.2.1 = nk_rm 3) (hr : X.2.2.2.2.2.2.2.2.1.sig.returnType = (some .int))  : ∀  (m0 : nk_M), nk_Sim nk_wR G X 7 nk_oi 98 [nk_r G 0, .null, .null, .null, .null, .null, .null] [] m0 (zf_M_copy_b98  m0) := by
  intro m0
  unfold zf_M_copy_b98
  refine nk_aload_n C zd_M_copy_98 rfl rfl ?_
  refine nk_iconst (v := 3) C zd_M_copy_99 (by decide) ?_
  refine nk_callVi C [.int (3 : Int32)] zv_M_139 hR (zc_M_failed (3 : Int32) m0) (by omega) (Nat.le_of_ble_eq_true rfl) rfl rfl rfl rfl (Nat.le_of_ble_eq_true rfl) zd_M_copy_100 (fun r1 m1 => ?_)
  exact nk_iret C hr zd_M_copy_103
def zf_M_copy_b144  : Nat → Int32 → Int32 → Int32 → Int32 → nk_M → Option (Int32 × nk_M)
  | 0, _, _, _, _, _ => none
  | n0 + 1, y3, y4, y5, y6, m0 => (if y5 ≤ y6 then nk_bd (zf_M_refused y5 m0) (fun r1 m1 => some (r1, m1)) else nk_ald m0 28 60 y6 (fun x2 => nk_ast m0 27 240 ((((60 : Int32) * y3) + y4) + y6) x2 (fun m2 => (zf_M_copy_b144 n0 y3 y4 y5 (y6 + 1) m2))))
set_option maxHeartbeats 4000000 in
set_option maxRecDepth 100000 in
theorem zs_M_copy_b144 {G : nk_V} {X : nk_X}   (C : nk_C "NeedOnceModel" zb_M_copy 7 nk_wR G X) (hR : X.2.2.2.1 = nk_rm 3) (hr : X.2.2.2.2.2.2.2.2.1.sig.returnType = (some .int))  : ∀ (n0 : Nat) (y3 : Int32) (y4 : Int32) (y5 : Int32) (y6 : Int32) (m0 : nk_M), nk_Sim nk_wR G X 7 nk_oi 144 [nk_r G 0, .null, .null, .int y3, .int y4, .int y5, .int y6] [] m0 (zf_M_copy_b144 n0 y3 y4 y5 y6 m0) := by
  intro n0
  induction n0 with
  | zero => intros; exact nk_none
  | succ n0 ih =>
    intro y3 y4 y5 y6 m0
    rw [zf_M_copy_b144]
    refine nk_iload C zd_M_copy_144 rfl ?_
    refine nk_iload C zd_M_copy_146 rfl ?_
    refine nk_icmp_ge (tgt := 179) C zd_M_copy_148 (by decide) ?_ ?_
    · refine nk_aload_n C zd_M_copy_179 rfl rfl ?_
      refine nk_iload C zd_M_copy_180 rfl ?_
      refine nk_callVi C [.int y5] zv_M_150 hR (zc_M_refused y5 m0) (by omega) (Nat.le_of_ble_eq_true rfl) rfl rfl rfl rfl (Nat.le_of_ble_eq_true rfl) zd_M_copy_182 (fun r1 m1 => ?_)
      exact nk_iret C hr zd_M_copy_185
    · refine nk_aload_n C zd_M_copy_151 rfl rfl ?_
      refine nk_getR C (r := 27) za_M_88 (Nat.le_of_ble_eq_true rfl) rfl rfl zd_M_copy_152 ?_
      refine nk_bipush (v := 60) C zd_M_copy_155 (by decide) ?_
      refine nk_iload_n C zd_M_copy_157 rfl rfl ?_
      refine nk_imul C zd_M_copy_158 ?_
      refine nk_iload C zd_M_copy_159 rfl ?_
      refine nk_iadd C zd_M_copy_161 ?_
      refine nk_iload C zd_M_copy_162 rfl ?_
      refine nk_iadd C zd_M_copy_164 ?_
      refine nk_aload_n C zd_M_copy_165 rfl rfl ?_
      refine nk_getR C (r := 28) za_M_91 (Nat.le_of_ble_eq_true rfl) rfl rfl zd_M_copy_166 ?_
      refine nk_iload C zd_M_copy_169 rfl ?_
      refine nk_iald C (Nat.le_of_ble_eq_true rfl) rfl zd_M_copy_171 (fun x2 => ?_)
      refine nk_iast C (Nat.le_of_ble_eq_true rfl) rfl zd_M_copy_172 (fun m2 => ?_)
      refine nk_iinc (v0 := y6 + 1) C zd_M_copy_173 rfl (nk_inc _ (by decide)) (Nat.le_of_ble_eq_true rfl) rfl ?_
      refine nk_goto (tgt := 144) C zd_M_copy_176 (by decide) ?_
      exact ih y3 y4 y5 (y6 + 1) m2
def zf_M_copy_b107  : Nat → Int32 → Int32 → Int32 → Int32 → Int32 → Int32 → nk_M → Option (Int32 × nk_M)
  | 0, _, _, _, _, _, _, _ => none
  | n0 + 1, y1, y2, y3, y4, y5, y6, m0 => (if y5 ≤ y6 then (zf_M_copy_b144 nk_fu y3 y4 y5 (0 : Int32) m0) else nk_ald m0 27 240 ((((60 : Int32) * y1) + y2) + y6) (fun x1 => nk_ast m0 28 60 y6 x1 (fun m1 => (zf_M_copy_b107 n0 y1 y2 y3 y4 y5 (y6 + 1) m1))))
set_option maxHeartbeats 4000000 in
set_option maxRecDepth 100000 in
theorem zs_M_copy_b107 {G : nk_V} {X : nk_X}   (C : nk_C "NeedOnceModel" zb_M_copy 7 nk_wR G X) (hR : X.2.2.2.1 = nk_rm 3) (hr : X.2.2.2.2.2.2.2.2.1.sig.returnType = (some .int))  : ∀ (n0 : Nat) (y1 : Int32) (y2 : Int32) (y3 : Int32) (y4 : Int32) (y5 : Int32) (y6 : Int32) (m0 : nk_M), nk_Sim nk_wR G X 7 nk_oi 107 [nk_r G 0, .int y1, .int y2, .int y3, .int y4, .int y5, .int y6] [] m0 (zf_M_copy_b107 n0 y1 y2 y3 y4 y5 y6 m0) := by
  intro n0
  induction n0 with
  | zero => intros; exact nk_none
  | succ n0 ih =>
    intro y1 y2 y3 y4 y5 y6 m0
    rw [zf_M_copy_b107]
    refine nk_iload C zd_M_copy_107 rfl ?_
    refine nk_iload C zd_M_copy_109 rfl ?_
    refine nk_icmp_ge (tgt := 141) C zd_M_copy_111 (by decide) ?_ ?_
    · refine nk_iconst (v := 0) C zd_M_copy_141 (by decide) ?_
      refine nk_istore C zd_M_copy_142 (Nat.le_of_ble_eq_true rfl) rfl ?_
      refine nk_wk [true, false, false, true, true, true, true] ?_
      exact zs_M_copy_b144 C hR hr nk_fu y3 y4 y5 (0 : Int32) m0
    · refine nk_aload_n C zd_M_copy_114 rfl rfl ?_
      refine nk_getR C (r := 28) za_M_91 (Nat.le_of_ble_eq_true rfl) rfl rfl zd_M_copy_115 ?_
      refine nk_iload C zd_M_copy_118 rfl ?_
      refine nk_aload_n C zd_M_copy_120 rfl rfl ?_
      refine nk_getR C (r := 27) za_M_88 (Nat.le_of_ble_eq_true rfl) rfl rfl zd_M_copy_121 ?_
      refine nk_bipush (v := 60) C zd_M_copy_124 (by decide) ?_
      refine nk_iload_n C zd_M_copy_126 rfl rfl ?_
      refine nk_imul C zd_M_copy_127 ?_
      refine nk_iload_n C zd_M_copy_128 rfl rfl ?_
      refine nk_iadd C zd_M_copy_129 ?_
      refine nk_iload C zd_M_copy_130 rfl ?_
      refine nk_iadd C zd_M_copy_132 ?_
      refine nk_iald C (Nat.le_of_ble_eq_true rfl) rfl zd_M_copy_133 (fun x1 => ?_)
      refine nk_iast C (Nat.le_of_ble_eq_true rfl) rfl zd_M_copy_134 (fun m1 => ?_)
      refine nk_iinc (v0 := y6 + 1) C zd_M_copy_135 rfl (nk_inc _ (by decide)) (Nat.le_of_ble_eq_true rfl) rfl ?_
      refine nk_goto (tgt := 107) C zd_M_copy_138 (by decide) ?_
      exact ih y1 y2 y3 y4 y5 (y6 + 1) m1
def zf_M_copy  (a1 : Int32) (a2 : Int32) (a3 : Int32) (a4 : Int32) (a5 : Int32) (m0 : nk_M) : Option (Int32 × nk_M) := nk_bd (zf_M_noSheet a1 m0) (fun r1 m1 => (if r1 = 0 then nk_bd (zf_M_noSheet a3 m1) (fun r2 m2 => (if r2 = 0 then nk_ald m2 25 4 a1 (fun x3 => (if x3 < 0 then (zf_M_copy_b38 m2) else nk_ald m2 25 4 a3 (fun x4 => (if 0 ≤ x4 then nk_ald m2 26 4 a1 (fun x5 => nk_ald m2 26 4 a3 (fun x6 => (if x5 = x6 then nk_ald m2 25 4 a1 (fun x7 => nk_bd (zf_M_isBeyond a2 (a5.toInt64) x7 m2) (fun r8 m3 => (if r8 = 0 then nk_ald m3 25 4 a3 (fun x9 => nk_bd (zf_M_isBeyond a4 (a5.toInt64) x9 m3) (fun r10 m4 => (if r10 = 0 then (zf_M_copy_b107 nk_fu a1 a2 a3 a4 a5 (0 : Int32) m4) else (zf_M_copy_b98 m4)))) else (zf_M_copy_b98 m3)))) else nk_bd (zf_M_failed (2 : Int32) m2) (fun r11 m5 => some (r11, m5))))) else (zf_M_copy_b38 m2))))) else (zf_M_copy_b14 m2))) else (zf_M_copy_b14 m1)))
set_option maxHeartbeats 4000000 in
set_option maxRecDepth 100000 in
theorem zc_M_copy {l : Launch} {G : nk_V}   (a1 : Int32) (a2 : Int32) (a3 : Int32) (a4 : Int32) (a5 : Int32) (m0 : nk_M) : nk_Ct l nk_wR G 3 zy_M_copy zb_M_copy 7 (some .int) nk_oi [nk_r G 0, .int a1, .int a2, .int a3, .int a4, .int a5] m0 (zf_M_copy  a1 a2 a3 a4 a5 m0) := by
  refine nk_ent (own := "NeedOnceModel") (lv := [nk_r G 0, .int a1, .int a2, .int a3, .int a4, .int a5, .null]) 1 rfl (by decide) (Nat.le_of_ble_eq_true rfl) rfl (fun X hl hR C hr => ?_)
  subst hl
  unfold zf_M_copy
  refine nk_iload_n C zd_M_copy_0 rfl rfl ?_
  refine nk_callSi C [.int a1] zv_M_146 hR (zc_M_noSheet a1 m0) (by omega) rfl rfl (Nat.le_of_ble_eq_true rfl) zd_M_copy_1 (fun r1 m1 => ?_)
  refine nk_if_ne (tgt := 14) C zd_M_copy_4 (by decide) ?_ ?_
  · refine nk_wk [true, false, false, false, false, false, false] ?_
    exact zs_M_copy_b14 C hR hr m1
  · refine nk_iload_n C zd_M_copy_7 rfl rfl ?_
    refine nk_callSi C [.int a3] zv_M_146 hR (zc_M_noSheet a3 m1) (by omega) rfl rfl (Nat.le_of_ble_eq_true rfl) zd_M_copy_8 (fun r2 m2 => ?_)
    refine nk_if_eq (tgt := 20) C zd_M_copy_11 (by decide) ?_ ?_
    · refine nk_aload_n C zd_M_copy_20 rfl rfl ?_
      refine nk_getR C (r := 25) za_M_82 (Nat.le_of_ble_eq_true rfl) rfl rfl zd_M_copy_21 ?_
      refine nk_iload_n C zd_M_copy_24 rfl rfl ?_
      refine nk_iald C (Nat.le_of_ble_eq_true rfl) rfl zd_M_copy_25 (fun x3 => ?_)
      refine nk_if_lt (tgt := 38) C zd_M_copy_26 (by decide) ?_ ?_
      · refine nk_wk [true, false, false, false, false, false, false] ?_
        exact zs_M_copy_b38 C hR hr m2
      · refine nk_aload_n C zd_M_copy_29 rfl rfl ?_
        refine nk_getR C (r := 25) za_M_82 (Nat.le_of_ble_eq_true rfl) rfl rfl zd_M_copy_30 ?_
        refine nk_iload_n C zd_M_copy_33 rfl rfl ?_
        refine nk_iald C (Nat.le_of_ble_eq_true rfl) rfl zd_M_copy_34 (fun x4 => ?_)
        refine nk_if_ge (tgt := 44) C zd_M_copy_35 (by decide) ?_ ?_
        · refine nk_aload_n C zd_M_copy_44 rfl rfl ?_
          refine nk_getR C (r := 26) za_M_85 (Nat.le_of_ble_eq_true rfl) rfl rfl zd_M_copy_45 ?_
          refine nk_iload_n C zd_M_copy_48 rfl rfl ?_
          refine nk_iald C (Nat.le_of_ble_eq_true rfl) rfl zd_M_copy_49 (fun x5 => ?_)
          refine nk_aload_n C zd_M_copy_50 rfl rfl ?_
          refine nk_getR C (r := 26) za_M_85 (Nat.le_of_ble_eq_true rfl) rfl rfl zd_M_copy_51 ?_
          refine nk_iload_n C zd_M_copy_54 rfl rfl ?_
          refine nk_iald C (Nat.le_of_ble_eq_true rfl) rfl zd_M_copy_55 (fun x6 => ?_)
          refine nk_icmp_eq (tgt := 65) C zd_M_copy_56 (by decide) ?_ ?_
          · refine nk_iload_n C zd_M_copy_65 rfl rfl ?_
            refine nk_iload C zd_M_copy_66 rfl ?_
            refine nk_i2l C zd_M_copy_68 ?_
            refine nk_aload_n C zd_M_copy_69 rfl rfl ?_
            refine nk_getR C (r := 25) za_M_82 (Nat.le_of_ble_eq_true rfl) rfl rfl zd_M_copy_70 ?_
            refine nk_iload_n C zd_M_copy_73 rfl rfl ?_
            refine nk_iald C (Nat.le_of_ble_eq_true rfl) rfl zd_M_copy_74 (fun x7 => ?_)
            refine nk_callSi C [.int a2, .long (a5.toInt64), .int x7] zv_M_142 hR (zc_M_isBeyond a2 (a5.toInt64) x7 m2) (by omega) rfl rfl (Nat.le_of_ble_eq_true rfl) zd_M_copy_75 (fun r8 m3 => ?_)
            refine nk_if_ne (tgt := 98) C zd_M_copy_78 (by decide) ?_ ?_
            · refine nk_wk [true, false, false, false, false, false, false] ?_
              exact zs_M_copy_b98 C hR hr m3
            · refine nk_iload C zd_M_copy_81 rfl ?_
              refine nk_iload C zd_M_copy_83 rfl ?_
              refine nk_i2l C zd_M_copy_85 ?_
              refine nk_aload_n C zd_M_copy_86 rfl rfl ?_
              refine nk_getR C (r := 25) za_M_82 (Nat.le_of_ble_eq_true rfl) rfl rfl zd_M_copy_87 ?_
              refine nk_iload_n C zd_M_copy_90 rfl rfl ?_
              refine nk_iald C (Nat.le_of_ble_eq_true rfl) rfl zd_M_copy_91 (fun x9 => ?_)
              refine nk_callSi C [.int a4, .long (a5.toInt64), .int x9] zv_M_142 hR (zc_M_isBeyond a4 (a5.toInt64) x9 m3) (by omega) rfl rfl (Nat.le_of_ble_eq_true rfl) zd_M_copy_92 (fun r10 m4 => ?_)
              refine nk_if_eq (tgt := 104) C zd_M_copy_95 (by decide) ?_ ?_
              · refine nk_iconst (v := 0) C zd_M_copy_104 (by decide) ?_
                refine nk_istore C zd_M_copy_105 (Nat.le_of_ble_eq_true rfl) rfl ?_
                exact zs_M_copy_b107 C hR hr nk_fu a1 a2 a3 a4 a5 (0 : Int32) m4
              · refine nk_wk [true, false, false, false, false, false, false] ?_
                exact zs_M_copy_b98 C hR hr m4
          · refine nk_aload_n C zd_M_copy_59 rfl rfl ?_
            refine nk_iconst (v := 2) C zd_M_copy_60 (by decide) ?_
            refine nk_callVi C [.int (2 : Int32)] zv_M_139 hR (zc_M_failed (2 : Int32) m2) (by omega) (Nat.le_of_ble_eq_true rfl) rfl rfl rfl rfl (Nat.le_of_ble_eq_true rfl) zd_M_copy_61 (fun r11 m5 => ?_)
            exact nk_iret C hr zd_M_copy_64
        · refine nk_wk [true, false, false, false, false, false, false] ?_
          exact zs_M_copy_b38 C hR hr m2
    · refine nk_wk [true, false, false, false, false, false, false] ?_
      exact zs_M_copy_b14 C hR hr m2
theorem zd_M_traced_0 : decode zb_M_traced 0 = .ok (.aload_n 0, 1) := by decide +kernel
theorem zd_M_traced_1 : decode zb_M_traced 1 = .ok (.bipush 31, 2) := by decide +kernel
theorem zd_M_traced_3 : decode zb_M_traced 3 = .ok (.aload_n 0, 1) := by decide +kernel
theorem zd_M_traced_4 : decode zb_M_traced 4 = .ok (.getfield 330, 3) := by decide +kernel
theorem zd_M_traced_7 : decode zb_M_traced 7 = .ok (.imul, 1) := by decide +kernel
theorem zd_M_traced_8 : decode zb_M_traced 8 = .ok (.iload_n 1, 1) := by decide +kernel
theorem zd_M_traced_9 : decode zb_M_traced 9 = .ok (.iadd, 1) := by decide +kernel
theorem zd_M_traced_10 : decode zb_M_traced 10 = .ok (.putfield 330, 3) := by decide +kernel
theorem zd_M_traced_13 : decode zb_M_traced 13 = .ok (.return_, 1) := by decide +kernel
def zf_M_traced  (a1 : Int32) (m0 : nk_M) : Option (Unit × nk_M) := nk_pf m0 0 48 (((31 : Int32) * (m0 0 48)) + a1) (fun m1 => some ((), m1))
set_option maxHeartbeats 4000000 in
set_option maxRecDepth 100000 in
theorem zc_M_traced {l : Launch} {G : nk_V}   (a1 : Int32) (m0 : nk_M) : nk_Ct l nk_wR G 1 zy_M_traced zb_M_traced 2 none nk_ov [nk_r G 0, .int a1] m0 (zf_M_traced  a1 m0) := by
  refine nk_ent (own := "NeedOnceModel") (lv := [nk_r G 0, .int a1]) 0 rfl (by decide) (Nat.le_of_ble_eq_true rfl) rfl (fun X hl hR C hr => ?_)
  subst hl
  unfold zf_M_traced
  refine nk_aload_n C zd_M_traced_0 rfl rfl ?_
  refine nk_bipush (v := 31) C zd_M_traced_1 (by decide) ?_
  refine nk_aload_n C zd_M_traced_3 rfl rfl ?_
  refine nk_getI C za_M_330 (Nat.le_of_ble_eq_true rfl) rfl rfl zd_M_traced_4 ?_
  refine nk_imul C zd_M_traced_7 ?_
  refine nk_iload_n C zd_M_traced_8 rfl rfl ?_
  refine nk_iadd C zd_M_traced_9 ?_
  refine nk_putI C zp_M_330 (Nat.le_of_ble_eq_true rfl) rfl rfl zd_M_traced_10 (fun m1 => ?_)
  exact nk_vret C hr zd_M_traced_13
theorem zd_M_tell_0 : decode zb_M_tell 0 = .ok (.aload_n 0, 1) := by decide +kernel
theorem zd_M_tell_1 : decode zb_M_tell 1 = .ok (.iload_n 1, 1) := by decide +kernel
theorem zd_M_tell_2 : decode zb_M_tell 2 = .ok (.invokevirtual 240, 3) := by decide +kernel
theorem zd_M_tell_5 : decode zb_M_tell 5 = .ok (.ifCond .eq 5, 3) := by decide +kernel
theorem zd_M_tell_8 : decode zb_M_tell 8 = .ok (.iconst (-1), 1) := by decide +kernel
theorem zd_M_tell_9 : decode zb_M_tell 9 = .ok (.ireturn, 1) := by decide +kernel
theorem zd_M_tell_10 : decode zb_M_tell 10 = .ok (.aload_n 0, 1) := by decide +kernel
theorem zd_M_tell_11 : decode zb_M_tell 11 = .ok (.getfield 7, 3) := by decide +kernel
theorem zd_M_tell_14 : decode zb_M_tell 14 = .ok (.iload_n 1, 1) := by decide +kernel
theorem zd_M_tell_15 : decode zb_M_tell 15 = .ok (.iaload, 1) := by decide +kernel
theorem zd_M_tell_16 : decode zb_M_tell 16 = .ok (.istore_n 2, 1) := by decide +kernel
theorem zd_M_tell_17 : decode zb_M_tell 17 = .ok (.iload_n 2, 1) := by decide +kernel
theorem zd_M_tell_18 : decode zb_M_tell 18 = .ok (.iconst 2, 1) := by decide +kernel
theorem zd_M_tell_19 : decode zb_M_tell 19 = .ok (.if_icmp .ne 8, 3) := by decide +kernel
theorem zd_M_tell_22 : decode zb_M_tell 22 = .ok (.aload_n 0, 1) := by decide +kernel
theorem zd_M_tell_23 : decode zb_M_tell 23 = .ok (.iconst 3, 1) := by decide +kernel
theorem zd_M_tell_24 : decode zb_M_tell 24 = .ok (.invokevirtual 333, 3) := by decide +kernel
theorem zd_M_tell_27 : decode zb_M_tell 27 = .ok (.iload_n 2, 1) := by decide +kernel
theorem zd_M_tell_28 : decode zb_M_tell 28 = .ok (.ifCond .le 8, 3) := by decide +kernel
theorem zd_M_tell_31 : decode zb_M_tell 31 = .ok (.aload_n 0, 1) := by decide +kernel
theorem zd_M_tell_32 : decode zb_M_tell 32 = .ok (.iconst 2, 1) := by decide +kernel
theorem zd_M_tell_33 : decode zb_M_tell 33 = .ok (.invokevirtual 333, 3) := by decide +kernel
theorem zd_M_tell_36 : decode zb_M_tell 36 = .ok (.aload_n 0, 1) := by decide +kernel
theorem zd_M_tell_37 : decode zb_M_tell 37 = .ok (.iconst 1, 1) := by decide +kernel
theorem zd_M_tell_38 : decode zb_M_tell 38 = .ok (.invokevirtual 333, 3) := by decide +kernel
theorem zd_M_tell_41 : decode zb_M_tell 41 = .ok (.iload_n 2, 1) := by decide +kernel
theorem zd_M_tell_42 : decode zb_M_tell 42 = .ok (.iconst 2, 1) := by decide +kernel
theorem zd_M_tell_43 : decode zb_M_tell 43 = .ok (.if_icmp .ne 8, 3) := by decide +kernel
theorem zd_M_tell_46 : decode zb_M_tell 46 = .ok (.aload_n 0, 1) := by decide +kernel
theorem zd_M_tell_47 : decode zb_M_tell 47 = .ok (.iconst 1, 1) := by decide +kernel
theorem zd_M_tell_48 : decode zb_M_tell 48 = .ok (.invokevirtual 333, 3) := by decide +kernel
theorem zd_M_tell_51 : decode zb_M_tell 51 = .ok (.aload_n 0, 1) := by decide +kernel
theorem zd_M_tell_52 : decode zb_M_tell 52 = .ok (.getfield 13, 3) := by decide +kernel
theorem zd_M_tell_55 : decode zb_M_tell 55 = .ok (.iload_n 1, 1) := by decide +kernel
theorem zd_M_tell_56 : decode zb_M_tell 56 = .ok (.iaload, 1) := by decide +kernel
theorem zd_M_tell_57 : decode zb_M_tell 57 = .ok (.istore_n 3, 1) := by decide +kernel
theorem zd_M_tell_58 : decode zb_M_tell 58 = .ok (.iload_n 2, 1) := by decide +kernel
theorem zd_M_tell_59 : decode zb_M_tell 59 = .ok (.ifCond .ne 7, 3) := by decide +kernel
theorem zd_M_tell_62 : decode zb_M_tell 62 = .ok (.iload_n 3, 1) := by decide +kernel
theorem zd_M_tell_63 : decode zb_M_tell 63 = .ok (.goto 21, 3) := by decide +kernel
theorem zd_M_tell_66 : decode zb_M_tell 66 = .ok (.iload_n 2, 1) := by decide +kernel
theorem zd_M_tell_67 : decode zb_M_tell 67 = .ok (.iconst 1, 1) := by decide +kernel
theorem zd_M_tell_68 : decode zb_M_tell 68 = .ok (.if_icmp .ne 10, 3) := by decide +kernel
theorem zd_M_tell_71 : decode zb_M_tell 71 = .ok (.iload_n 3, 1) := by decide +kernel
theorem zd_M_tell_72 : decode zb_M_tell 72 = .ok (.bipush 100, 2) := by decide +kernel
theorem zd_M_tell_74 : decode zb_M_tell 74 = .ok (.iadd, 1) := by decide +kernel
theorem zd_M_tell_75 : decode zb_M_tell 75 = .ok (.goto 9, 3) := by decide +kernel
theorem zd_M_tell_78 : decode zb_M_tell 78 = .ok (.iconst 2, 1) := by decide +kernel
theorem zd_M_tell_79 : decode zb_M_tell 79 = .ok (.iload_n 3, 1) := by decide +kernel
theorem zd_M_tell_80 : decode zb_M_tell 80 = .ok (.imul, 1) := by decide +kernel
theorem zd_M_tell_81 : decode zb_M_tell 81 = .ok (.bipush 100, 2) := by decide +kernel
theorem zd_M_tell_83 : decode zb_M_tell 83 = .ok (.iadd, 1) := by decide +kernel
theorem zd_M_tell_84 : decode zb_M_tell 84 = .ok (.ireturn, 1) := by decide +kernel
def zf_M_tell_b84  (u0 : Int32) (m0 : nk_M) : Option (Int32 × nk_M) := some (u0, m0)
set_option maxHeartbeats 4000000 in
set_option maxRecDepth 100000 in
theorem zs_M_tell_b84 {G : nk_V} {X : nk_X}   (C : nk_C "NeedOnceModel" zb_M_tell 4 nk_wR G X) (hR : X.2.2.2.1 = nk_rm 3) (hr : X.2.2.2.2.2.2.2.2.1.sig.returnType = (some .int))  : ∀ (u0 : Int32) (m0 : nk_M), nk_Sim nk_wR G X 4 nk_oi 84 [nk_r G 0, .null, .null, .null] [.int u0] m0 (zf_M_tell_b84 u0 m0) := by
  intro u0 m0
  unfold zf_M_tell_b84
  exact nk_iret C hr zd_M_tell_84
def zf_M_tell_b51  (y1 : Int32) (y2 : Int32) (m0 : nk_M) : Option (Int32 × nk_M) := nk_ald m0 2 8 y1 (fun x1 => (if y2 = 0 then (zf_M_tell_b84 x1 m0) else (if y2 = (1 : Int32) then (zf_M_tell_b84 (x1 + (100 : Int32)) m0) else (zf_M_tell_b84 (((2 : Int32) * x1) + (100 : Int32)) m0))))
set_option maxHeartbeats 4000000 in
set_option maxRecDepth 100000 in
theorem zs_M_tell_b51 {G : nk_V} {X : nk_X}   (C : nk_C "NeedOnceModel" zb_M_tell 4 nk_wR G X) (hR : X.2.2.2.1 = nk_rm 3) (hr : X.2.2.2.2.2.2.2.2.1.sig.returnType = (some .int))  : ∀ (y1 : Int32) (y2 : Int32) (m0 : nk_M), nk_Sim nk_wR G X 4 nk_oi 51 [nk_r G 0, .int y1, .int y2, .null] [] m0 (zf_M_tell_b51 y1 y2 m0) := by
  intro y1 y2 m0
  unfold zf_M_tell_b51
  refine nk_aload_n C zd_M_tell_51 rfl rfl ?_
  refine nk_getR C (r := 2) za_M_13 (Nat.le_of_ble_eq_true rfl) rfl rfl zd_M_tell_52 ?_
  refine nk_iload_n C zd_M_tell_55 rfl rfl ?_
  refine nk_iald C (Nat.le_of_ble_eq_true rfl) rfl zd_M_tell_56 (fun x1 => ?_)
  refine nk_istore_n C zd_M_tell_57 rfl (Nat.le_of_ble_eq_true rfl) rfl ?_
  refine nk_iload_n C zd_M_tell_58 rfl rfl ?_
  refine nk_if_ne (tgt := 66) C zd_M_tell_59 (by decide) ?_ ?_
  · refine nk_iload_n C zd_M_tell_66 rfl rfl ?_
    refine nk_iconst (v := 1) C zd_M_tell_67 (by decide) ?_
    refine nk_icmp_ne (tgt := 78) C zd_M_tell_68 (by decide) ?_ ?_
    · refine nk_iconst (v := 2) C zd_M_tell_78 (by decide) ?_
      refine nk_iload_n C zd_M_tell_79 rfl rfl ?_
      refine nk_imul C zd_M_tell_80 ?_
      refine nk_bipush (v := 100) C zd_M_tell_81 (by decide) ?_
      refine nk_iadd C zd_M_tell_83 ?_
      refine nk_wk [true, false, false, false] ?_
      exact zs_M_tell_b84 C hR hr (((2 : Int32) * x1) + (100 : Int32)) m0
    · refine nk_iload_n C zd_M_tell_71 rfl rfl ?_
      refine nk_bipush (v := 100) C zd_M_tell_72 (by decide) ?_
      refine nk_iadd C zd_M_tell_74 ?_
      refine nk_goto (tgt := 84) C zd_M_tell_75 (by decide) ?_
      refine nk_wk [true, false, false, false] ?_
      exact zs_M_tell_b84 C hR hr (x1 + (100 : Int32)) m0
  · refine nk_iload_n C zd_M_tell_62 rfl rfl ?_
    refine nk_goto (tgt := 84) C zd_M_tell_63 (by decide) ?_
    refine nk_wk [true, false, false, false] ?_
    exact zs_M_tell_b84 C hR hr x1 m0
def zf_M_tell_b36  (y1 : Int32) (y2 : Int32) (m0 : nk_M) : Option (Int32 × nk_M) := nk_bd (zf_M_traced (1 : Int32) m0) (fun _ m1 => (if y2 = (2 : Int32) then nk_bd (zf_M_traced (1 : Int32) m1) (fun _ m2 => (zf_M_tell_b51 y1 y2 m2)) else (zf_M_tell_b51 y1 y2 m1)))
set_option maxHeartbeats 4000000 in
set_option maxRecDepth 100000 in
theorem zs_M_tell_b36 {G : nk_V} {X : nk_X}   (C : nk_C "NeedOnceModel" zb_M_tell 4 nk_wR G X) (hR : X.2.2.2.1 = nk_rm 3) (hr : X.2.2.2.2.2.2.2.2.1.sig.returnType = (some .int))  : ∀ (y1 : Int32) (y2 : Int32) (m0 : nk_M), nk_Sim nk_wR G X 4 nk_oi 36 [nk_r G 0, .int y1, .int y2, .null] [] m0 (zf_M_tell_b36 y1 y2 m0) := by
  intro y1 y2 m0
  unfold zf_M_tell_b36
  refine nk_aload_n C zd_M_tell_36 rfl rfl ?_
  refine nk_iconst (v := 1) C zd_M_tell_37 (by decide) ?_
  refine nk_callVv C [.int (1 : Int32)] zv_M_333 hR (zc_M_traced (1 : Int32) m0) (by omega) (Nat.le_of_ble_eq_true rfl) rfl rfl rfl rfl (Nat.le_of_ble_eq_true rfl) zd_M_tell_38 (fun m1 => ?_)
  refine nk_iload_n C zd_M_tell_41 rfl rfl ?_
  refine nk_iconst (v := 2) C zd_M_tell_42 (by decide) ?_
  refine nk_icmp_ne (tgt := 51) C zd_M_tell_43 (by decide) ?_ ?_
  · exact zs_M_tell_b51 C hR hr y1 y2 m1
  · refine nk_aload_n C zd_M_tell_46 rfl rfl ?_
    refine nk_iconst (v := 1) C zd_M_tell_47 (by decide) ?_
    refine nk_callVv C [.int (1 : Int32)] zv_M_333 hR (zc_M_traced (1 : Int32) m1) (by omega) (Nat.le_of_ble_eq_true rfl) rfl rfl rfl rfl (Nat.le_of_ble_eq_true rfl) zd_M_tell_48 (fun m2 => ?_)
    exact zs_M_tell_b51 C hR hr y1 y2 m2
def zf_M_tell_b27  (y1 : Int32) (y2 : Int32) (m0 : nk_M) : Option (Int32 × nk_M) := (if y2 ≤ 0 then (zf_M_tell_b36 y1 y2 m0) else nk_bd (zf_M_traced (2 : Int32) m0) (fun _ m1 => (zf_M_tell_b36 y1 y2 m1)))
set_option maxHeartbeats 4000000 in
set_option maxRecDepth 100000 in
theorem zs_M_tell_b27 {G : nk_V} {X : nk_X}   (C : nk_C "NeedOnceModel" zb_M_tell 4 nk_wR G X) (hR : X.2.2.2.1 = nk_rm 3) (hr : X.2.2.2.2.2.2.2.2.1.sig.returnType = (some .int))  : ∀ (y1 : Int32) (y2 : Int32) (m0 : nk_M), nk_Sim nk_wR G X 4 nk_oi 27 [nk_r G 0, .int y1, .int y2, .null] [] m0 (zf_M_tell_b27 y1 y2 m0) := by
  intro y1 y2 m0
  unfold zf_M_tell_b27
  refine nk_iload_n C zd_M_tell_27 rfl rfl ?_
  refine nk_if_le (tgt := 36) C zd_M_tell_28 (by decide) ?_ ?_
  · exact zs_M_tell_b36 C hR hr y1 y2 m0
  · refine nk_aload_n C zd_M_tell_31 rfl rfl ?_
    refine nk_iconst (v := 2) C zd_M_tell_32 (by decide) ?_
    refine nk_callVv C [.int (2 : Int32)] zv_M_333 hR (zc_M_traced (2 : Int32) m0) (by omega) (Nat.le_of_ble_eq_true rfl) rfl rfl rfl rfl (Nat.le_of_ble_eq_true rfl) zd_M_tell_33 (fun m1 => ?_)
    exact zs_M_tell_b36 C hR hr y1 y2 m1
def zf_M_tell  (a1 : Int32) (m0 : nk_M) : Option (Int32 × nk_M) := nk_bd (zf_M_noOne a1 m0) (fun r1 m1 => (if r1 = 0 then nk_ald m1 1 8 a1 (fun x2 => (if x2 = (2 : Int32) then nk_bd (zf_M_traced (3 : Int32) m1) (fun _ m2 => (zf_M_tell_b27 a1 x2 m2)) else (zf_M_tell_b27 a1 x2 m1))) else some ((-1 : Int32), m1)))
set_option maxHeartbeats 4000000 in
set_option maxRecDepth 100000 in
theorem zc_M_tell {l : Launch} {G : nk_V}   (a1 : Int32) (m0 : nk_M) : nk_Ct l nk_wR G 3 zy_M_tell zb_M_tell 4 (some .int) nk_oi [nk_r G 0, .int a1] m0 (zf_M_tell  a1 m0) := by
  refine nk_ent (own := "NeedOnceModel") (lv := [nk_r G 0, .int a1, .null, .null]) 2 rfl (by decide) (Nat.le_of_ble_eq_true rfl) rfl (fun X hl hR C hr => ?_)
  subst hl
  unfold zf_M_tell
  refine nk_aload_n C zd_M_tell_0 rfl rfl ?_
  refine nk_iload_n C zd_M_tell_1 rfl rfl ?_
  refine nk_callVi C [.int a1] zv_M_240 hR (zc_M_noOne a1 m0) (by omega) (Nat.le_of_ble_eq_true rfl) rfl rfl rfl rfl (Nat.le_of_ble_eq_true rfl) zd_M_tell_2 (fun r1 m1 => ?_)
  refine nk_if_eq (tgt := 10) C zd_M_tell_5 (by decide) ?_ ?_
  · refine nk_aload_n C zd_M_tell_10 rfl rfl ?_
    refine nk_getR C (r := 1) za_M_7 (Nat.le_of_ble_eq_true rfl) rfl rfl zd_M_tell_11 ?_
    refine nk_iload_n C zd_M_tell_14 rfl rfl ?_
    refine nk_iald C (Nat.le_of_ble_eq_true rfl) rfl zd_M_tell_15 (fun x2 => ?_)
    refine nk_istore_n C zd_M_tell_16 rfl (Nat.le_of_ble_eq_true rfl) rfl ?_
    refine nk_iload_n C zd_M_tell_17 rfl rfl ?_
    refine nk_iconst (v := 2) C zd_M_tell_18 (by decide) ?_
    refine nk_icmp_ne (tgt := 27) C zd_M_tell_19 (by decide) ?_ ?_
    · exact zs_M_tell_b27 C hR hr a1 x2 m1
    · refine nk_aload_n C zd_M_tell_22 rfl rfl ?_
      refine nk_iconst (v := 3) C zd_M_tell_23 (by decide) ?_
      refine nk_callVv C [.int (3 : Int32)] zv_M_333 hR (zc_M_traced (3 : Int32) m1) (by omega) (Nat.le_of_ble_eq_true rfl) rfl rfl rfl rfl (Nat.le_of_ble_eq_true rfl) zd_M_tell_24 (fun m2 => ?_)
      exact zs_M_tell_b27 C hR hr a1 x2 m2
  · refine nk_iconst (v := -1) C zd_M_tell_8 (by decide) ?_
    exact nk_iret C hr zd_M_tell_9
theorem zd_M_point_0 : decode zb_M_point 0 = .ok (.aload_n 0, 1) := by decide +kernel
theorem zd_M_point_1 : decode zb_M_point 1 = .ok (.iload_n 1, 1) := by decide +kernel
theorem zd_M_point_2 : decode zb_M_point 2 = .ok (.invokevirtual 240, 3) := by decide +kernel
theorem zd_M_point_5 : decode zb_M_point 5 = .ok (.ifCond .eq 5, 3) := by decide +kernel
theorem zd_M_point_8 : decode zb_M_point 8 = .ok (.iconst (-1), 1) := by decide +kernel
theorem zd_M_point_9 : decode zb_M_point 9 = .ok (.ireturn, 1) := by decide +kernel
theorem zd_M_point_10 : decode zb_M_point 10 = .ok (.aload_n 0, 1) := by decide +kernel
theorem zd_M_point_11 : decode zb_M_point 11 = .ok (.aload_n 0, 1) := by decide +kernel
theorem zd_M_point_12 : decode zb_M_point 12 = .ok (.getfield 7, 3) := by decide +kernel
theorem zd_M_point_15 : decode zb_M_point 15 = .ok (.iload_n 1, 1) := by decide +kernel
theorem zd_M_point_16 : decode zb_M_point 16 = .ok (.iaload, 1) := by decide +kernel
theorem zd_M_point_17 : decode zb_M_point 17 = .ok (.iconst 2, 1) := by decide +kernel
theorem zd_M_point_18 : decode zb_M_point 18 = .ok (.if_icmp .ne 7, 3) := by decide +kernel
theorem zd_M_point_21 : decode zb_M_point 21 = .ok (.iconst 5, 1) := by decide +kernel
theorem zd_M_point_22 : decode zb_M_point 22 = .ok (.goto 4, 3) := by decide +kernel
theorem zd_M_point_25 : decode zb_M_point 25 = .ok (.iconst 4, 1) := by decide +kernel
theorem zd_M_point_26 : decode zb_M_point 26 = .ok (.invokevirtual 333, 3) := by decide +kernel
theorem zd_M_point_29 : decode zb_M_point 29 = .ok (.aload_n 0, 1) := by decide +kernel
theorem zd_M_point_30 : decode zb_M_point 30 = .ok (.getfield 7, 3) := by decide +kernel
theorem zd_M_point_33 : decode zb_M_point 33 = .ok (.iload_n 1, 1) := by decide +kernel
theorem zd_M_point_34 : decode zb_M_point 34 = .ok (.iaload, 1) := by decide +kernel
theorem zd_M_point_35 : decode zb_M_point 35 = .ok (.iconst 2, 1) := by decide +kernel
theorem zd_M_point_36 : decode zb_M_point 36 = .ok (.if_icmp .ne 8, 3) := by decide +kernel
theorem zd_M_point_39 : decode zb_M_point 39 = .ok (.bipush 40, 2) := by decide +kernel
theorem zd_M_point_41 : decode zb_M_point 41 = .ok (.goto 4, 3) := by decide +kernel
theorem zd_M_point_44 : decode zb_M_point 44 = .ok (.iload_n 1, 1) := by decide +kernel
theorem zd_M_point_45 : decode zb_M_point 45 = .ok (.ireturn, 1) := by decide +kernel
def zf_M_point_b45  (u0 : Int32) (m0 : nk_M) : Option (Int32 × nk_M) := some (u0, m0)
set_option maxHeartbeats 4000000 in
set_option maxRecDepth 100000 in
theorem zs_M_point_b45 {G : nk_V} {X : nk_X}   (C : nk_C "NeedOnceModel" zb_M_point 2 nk_wR G X) (hR : X.2.2.2.1 = nk_rm 3) (hr : X.2.2.2.2.2.2.2.2.1.sig.returnType = (some .int))  : ∀ (u0 : Int32) (m0 : nk_M), nk_Sim nk_wR G X 2 nk_oi 45 [nk_r G 0, .null] [.int u0] m0 (zf_M_point_b45 u0 m0) := by
  intro u0 m0
  unfold zf_M_point_b45
  exact nk_iret C hr zd_M_point_45
def zf_M_point_b26  (y1 : Int32) (u1 : Int32) (m0 : nk_M) : Option (Int32 × nk_M) := nk_bd (zf_M_traced u1 m0) (fun _ m1 => nk_ald m1 1 8 y1 (fun x2 => (if x2 = (2 : Int32) then (zf_M_point_b45 (40 : Int32) m1) else (zf_M_point_b45 y1 m1))))
set_option maxHeartbeats 4000000 in
set_option maxRecDepth 100000 in
theorem zs_M_point_b26 {G : nk_V} {X : nk_X}   (C : nk_C "NeedOnceModel" zb_M_point 2 nk_wR G X) (hR : X.2.2.2.1 = nk_rm 3) (hr : X.2.2.2.2.2.2.2.2.1.sig.returnType = (some .int))  : ∀ (y1 : Int32) (u1 : Int32) (m0 : nk_M), nk_Sim nk_wR G X 2 nk_oi 26 [nk_r G 0, .int y1] [.int u1, nk_r G 0] m0 (zf_M_point_b26 y1 u1 m0) := by
  intro y1 u1 m0
  unfold zf_M_point_b26
  refine nk_callVv C [.int u1] zv_M_333 hR (zc_M_traced u1 m0) (by omega) (Nat.le_of_ble_eq_true rfl) rfl rfl rfl rfl (Nat.le_of_ble_eq_true rfl) zd_M_point_26 (fun m1 => ?_)
  refine nk_aload_n C zd_M_point_29 rfl rfl ?_
  refine nk_getR C (r := 1) za_M_7 (Nat.le_of_ble_eq_true rfl) rfl rfl zd_M_point_30 ?_
  refine nk_iload_n C zd_M_point_33 rfl rfl ?_
  refine nk_iald C (Nat.le_of_ble_eq_true rfl) rfl zd_M_point_34 (fun x2 => ?_)
  refine nk_iconst (v := 2) C zd_M_point_35 (by decide) ?_
  refine nk_icmp_ne (tgt := 44) C zd_M_point_36 (by decide) ?_ ?_
  · refine nk_iload_n C zd_M_point_44 rfl rfl ?_
    refine nk_wk [true, false] ?_
    exact zs_M_point_b45 C hR hr y1 m1
  · refine nk_bipush (v := 40) C zd_M_point_39 (by decide) ?_
    refine nk_goto (tgt := 45) C zd_M_point_41 (by decide) ?_
    refine nk_wk [true, false] ?_
    exact zs_M_point_b45 C hR hr (40 : Int32) m1
def zf_M_point  (a1 : Int32) (m0 : nk_M) : Option (Int32 × nk_M) := nk_bd (zf_M_noOne a1 m0) (fun r1 m1 => (if r1 = 0 then nk_ald m1 1 8 a1 (fun x2 => (if x2 = (2 : Int32) then (zf_M_point_b26 a1 (5 : Int32) m1) else (zf_M_point_b26 a1 (4 : Int32) m1))) else some ((-1 : Int32), m1)))
set_option maxHeartbeats 4000000 in
set_option maxRecDepth 100000 in
theorem zc_M_point {l : Launch} {G : nk_V}   (a1 : Int32) (m0 : nk_M) : nk_Ct l nk_wR G 3 zy_M_point zb_M_point 2 (some .int) nk_oi [nk_r G 0, .int a1] m0 (zf_M_point  a1 m0) := by
  refine nk_ent (own := "NeedOnceModel") (lv := [nk_r G 0, .int a1]) 0 rfl (by decide) (Nat.le_of_ble_eq_true rfl) rfl (fun X hl hR C hr => ?_)
  subst hl
  unfold zf_M_point
  refine nk_aload_n C zd_M_point_0 rfl rfl ?_
  refine nk_iload_n C zd_M_point_1 rfl rfl ?_
  refine nk_callVi C [.int a1] zv_M_240 hR (zc_M_noOne a1 m0) (by omega) (Nat.le_of_ble_eq_true rfl) rfl rfl rfl rfl (Nat.le_of_ble_eq_true rfl) zd_M_point_2 (fun r1 m1 => ?_)
  refine nk_if_eq (tgt := 10) C zd_M_point_5 (by decide) ?_ ?_
  · refine nk_aload_n C zd_M_point_10 rfl rfl ?_
    refine nk_aload_n C zd_M_point_11 rfl rfl ?_
    refine nk_getR C (r := 1) za_M_7 (Nat.le_of_ble_eq_true rfl) rfl rfl zd_M_point_12 ?_
    refine nk_iload_n C zd_M_point_15 rfl rfl ?_
    refine nk_iald C (Nat.le_of_ble_eq_true rfl) rfl zd_M_point_16 (fun x2 => ?_)
    refine nk_iconst (v := 2) C zd_M_point_17 (by decide) ?_
    refine nk_icmp_ne (tgt := 25) C zd_M_point_18 (by decide) ?_ ?_
    · refine nk_iconst (v := 4) C zd_M_point_25 (by decide) ?_
      exact zs_M_point_b26 C hR hr a1 (4 : Int32) m1
    · refine nk_iconst (v := 5) C zd_M_point_21 (by decide) ?_
      refine nk_goto (tgt := 26) C zd_M_point_22 (by decide) ?_
      exact zs_M_point_b26 C hR hr a1 (5 : Int32) m1
  · refine nk_iconst (v := -1) C zd_M_point_8 (by decide) ?_
    exact nk_iret C hr zd_M_point_9
theorem zd_M_as_0 : decode zb_M_as 0 = .ok (.aload_n 0, 1) := by decide +kernel
theorem zd_M_as_1 : decode zb_M_as 1 = .ok (.iload_n 1, 1) := by decide +kernel
theorem zd_M_as_2 : decode zb_M_as 2 = .ok (.invokevirtual 240, 3) := by decide +kernel
theorem zd_M_as_5 : decode zb_M_as 5 = .ok (.ifCond .eq 9, 3) := by decide +kernel
theorem zd_M_as_8 : decode zb_M_as 8 = .ok (.aload_n 0, 1) := by decide +kernel
theorem zd_M_as_9 : decode zb_M_as 9 = .ok (.iconst (-1), 1) := by decide +kernel
theorem zd_M_as_10 : decode zb_M_as 10 = .ok (.invokevirtual 150, 3) := by decide +kernel
theorem zd_M_as_13 : decode zb_M_as 13 = .ok (.ireturn, 1) := by decide +kernel
theorem zd_M_as_14 : decode zb_M_as 14 = .ok (.iload_n 2, 1) := by decide +kernel
theorem zd_M_as_15 : decode zb_M_as 15 = .ok (.i2l, 1) := by decide +kernel
theorem zd_M_as_16 : decode zb_M_as 16 = .ok (.lconst 0, 1) := by decide +kernel
theorem zd_M_as_17 : decode zb_M_as 17 = .ok (.ldc2_w 153, 3) := by decide +kernel
theorem zd_M_as_20 : decode zb_M_as 20 = .ok (.invokestatic 107, 3) := by decide +kernel
theorem zd_M_as_23 : decode zb_M_as 23 = .ok (.ifCond .ne 10, 3) := by decide +kernel
theorem zd_M_as_26 : decode zb_M_as 26 = .ok (.aload_n 0, 1) := by decide +kernel
theorem zd_M_as_27 : decode zb_M_as 27 = .ok (.bipush (-2), 2) := by decide +kernel
theorem zd_M_as_29 : decode zb_M_as 29 = .ok (.invokevirtual 150, 3) := by decide +kernel
theorem zd_M_as_32 : decode zb_M_as 32 = .ok (.ireturn, 1) := by decide +kernel
theorem zd_M_as_33 : decode zb_M_as 33 = .ok (.aload_n 0, 1) := by decide +kernel
theorem zd_M_as_34 : decode zb_M_as 34 = .ok (.getfield 7, 3) := by decide +kernel
theorem zd_M_as_37 : decode zb_M_as 37 = .ok (.iload_n 1, 1) := by decide +kernel
theorem zd_M_as_38 : decode zb_M_as 38 = .ok (.iaload, 1) := by decide +kernel
theorem zd_M_as_39 : decode zb_M_as 39 = .ok (.iload_n 2, 1) := by decide +kernel
theorem zd_M_as_40 : decode zb_M_as 40 = .ok (.if_icmp .lt 11, 3) := by decide +kernel
theorem zd_M_as_43 : decode zb_M_as 43 = .ok (.aload_n 0, 1) := by decide +kernel
theorem zd_M_as_44 : decode zb_M_as 44 = .ok (.iconst 1, 1) := by decide +kernel
theorem zd_M_as_45 : decode zb_M_as 45 = .ok (.invokevirtual 150, 3) := by decide +kernel
theorem zd_M_as_48 : decode zb_M_as 48 = .ok (.goto 8, 3) := by decide +kernel
theorem zd_M_as_51 : decode zb_M_as 51 = .ok (.aload_n 0, 1) := by decide +kernel
theorem zd_M_as_52 : decode zb_M_as 52 = .ok (.iconst 2, 1) := by decide +kernel
theorem zd_M_as_53 : decode zb_M_as 53 = .ok (.invokevirtual 139, 3) := by decide +kernel
theorem zd_M_as_56 : decode zb_M_as 56 = .ok (.ireturn, 1) := by decide +kernel
def zf_M_as_b56  (u0 : Int32) (m0 : nk_M) : Option (Int32 × nk_M) := some (u0, m0)
set_option maxHeartbeats 4000000 in
set_option maxRecDepth 100000 in
theorem zs_M_as_b56 {G : nk_V} {X : nk_X}   (C : nk_C "NeedOnceModel" zb_M_as 3 nk_wR G X) (hR : X.2.2.2.1 = nk_rm 3) (hr : X.2.2.2.2.2.2.2.2.1.sig.returnType = (some .int))  : ∀ (u0 : Int32) (m0 : nk_M), nk_Sim nk_wR G X 3 nk_oi 56 [nk_r G 0, .null, .null] [.int u0] m0 (zf_M_as_b56 u0 m0) := by
  intro u0 m0
  unfold zf_M_as_b56
  exact nk_iret C hr zd_M_as_56
def zf_M_as  (a1 : Int32) (a2 : Int32) (m0 : nk_M) : Option (Int32 × nk_M) := nk_bd (zf_M_noOne a1 m0) (fun r1 m1 => (if r1 = 0 then nk_bd (zf_M_in (a2.toInt64) (0 : Int64) (2 : Int64) m1) (fun r2 m2 => (if r2 = 0 then nk_bd (zf_M_refused (-2 : Int32) m2) (fun r6 m5 => some (r6, m5)) else nk_ald m2 1 8 a1 (fun x3 => (if x3 < a2 then nk_bd (zf_M_failed (2 : Int32) m2) (fun r4 m3 => (zf_M_as_b56 r4 m3)) else nk_bd (zf_M_refused (1 : Int32) m2) (fun r5 m4 => (zf_M_as_b56 r5 m4)))))) else nk_bd (zf_M_refused (-1 : Int32) m1) (fun r7 m6 => some (r7, m6))))
set_option maxHeartbeats 4000000 in
set_option maxRecDepth 100000 in
theorem zc_M_as {l : Launch} {G : nk_V}   (a1 : Int32) (a2 : Int32) (m0 : nk_M) : nk_Ct l nk_wR G 3 zy_M_as zb_M_as 3 (some .int) nk_oi [nk_r G 0, .int a1, .int a2] m0 (zf_M_as  a1 a2 m0) := by
  refine nk_ent (own := "NeedOnceModel") (lv := [nk_r G 0, .int a1, .int a2]) 0 rfl (by decide) (Nat.le_of_ble_eq_true rfl) rfl (fun X hl hR C hr => ?_)
  subst hl
  unfold zf_M_as
  refine nk_aload_n C zd_M_as_0 rfl rfl ?_
  refine nk_iload_n C zd_M_as_1 rfl rfl ?_
  refine nk_callVi C [.int a1] zv_M_240 hR (zc_M_noOne a1 m0) (by omega) (Nat.le_of_ble_eq_true rfl) rfl rfl rfl rfl (Nat.le_of_ble_eq_true rfl) zd_M_as_2 (fun r1 m1 => ?_)
  refine nk_if_eq (tgt := 14) C zd_M_as_5 (by decide) ?_ ?_
  · refine nk_iload_n C zd_M_as_14 rfl rfl ?_
    refine nk_i2l C zd_M_as_15 ?_
    refine nk_lconst (v := 0) C zd_M_as_16 (by decide) ?_
    refine nk_ldc2 (v := 2) C zw_710 zd_M_as_17 ?_
    refine nk_callSi C [.long (a2.toInt64), .long (0 : Int64), .long (2 : Int64)] zv_M_107 hR (zc_M_in (a2.toInt64) (0 : Int64) (2 : Int64) m1) (by omega) rfl rfl (Nat.le_of_ble_eq_true rfl) zd_M_as_20 (fun r2 m2 => ?_)
    refine nk_if_ne (tgt := 33) C zd_M_as_23 (by decide) ?_ ?_
    · refine nk_aload_n C zd_M_as_33 rfl rfl ?_
      refine nk_getR C (r := 1) za_M_7 (Nat.le_of_ble_eq_true rfl) rfl rfl zd_M_as_34 ?_
      refine nk_iload_n C zd_M_as_37 rfl rfl ?_
      refine nk_iald C (Nat.le_of_ble_eq_true rfl) rfl zd_M_as_38 (fun x3 => ?_)
      refine nk_iload_n C zd_M_as_39 rfl rfl ?_
      refine nk_icmp_lt (tgt := 51) C zd_M_as_40 (by decide) ?_ ?_
      · refine nk_aload_n C zd_M_as_51 rfl rfl ?_
        refine nk_iconst (v := 2) C zd_M_as_52 (by decide) ?_
        refine nk_callVi C [.int (2 : Int32)] zv_M_139 hR (zc_M_failed (2 : Int32) m2) (by omega) (Nat.le_of_ble_eq_true rfl) rfl rfl rfl rfl (Nat.le_of_ble_eq_true rfl) zd_M_as_53 (fun r4 m3 => ?_)
        refine nk_wk [true, false, false] ?_
        exact zs_M_as_b56 C hR hr r4 m3
      · refine nk_aload_n C zd_M_as_43 rfl rfl ?_
        refine nk_iconst (v := 1) C zd_M_as_44 (by decide) ?_
        refine nk_callVi C [.int (1 : Int32)] zv_M_150 hR (zc_M_refused (1 : Int32) m2) (by omega) (Nat.le_of_ble_eq_true rfl) rfl rfl rfl rfl (Nat.le_of_ble_eq_true rfl) zd_M_as_45 (fun r5 m4 => ?_)
        refine nk_goto (tgt := 56) C zd_M_as_48 (by decide) ?_
        refine nk_wk [true, false, false] ?_
        exact zs_M_as_b56 C hR hr r5 m4
    · refine nk_aload_n C zd_M_as_26 rfl rfl ?_
      refine nk_bipush (v := -2) C zd_M_as_27 (by decide) ?_
      refine nk_callVi C [.int (-2 : Int32)] zv_M_150 hR (zc_M_refused (-2 : Int32) m2) (by omega) (Nat.le_of_ble_eq_true rfl) rfl rfl rfl rfl (Nat.le_of_ble_eq_true rfl) zd_M_as_29 (fun r6 m5 => ?_)
      exact nk_iret C hr zd_M_as_32
  · refine nk_aload_n C zd_M_as_8 rfl rfl ?_
    refine nk_iconst (v := -1) C zd_M_as_9 (by decide) ?_
    refine nk_callVi C [.int (-1 : Int32)] zv_M_150 hR (zc_M_refused (-1 : Int32) m1) (by omega) (Nat.le_of_ble_eq_true rfl) rfl rfl rfl rfl (Nat.le_of_ble_eq_true rfl) zd_M_as_10 (fun r7 m6 => ?_)
    exact nk_iret C hr zd_M_as_13

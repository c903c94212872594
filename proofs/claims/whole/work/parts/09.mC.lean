/-! ===== 09: decode rows, meanings (zf_) and contracts (zc_) of methods (written by program) ===== -/
theorem zd_N_canDo_0 : decode zb_N_canDo 0 = .ok (.iload_n 2, 1) := by decide +kernel
theorem zd_N_canDo_1 : decode zb_N_canDo 1 = .ok (.bipush 20, 2) := by decide +kernel
theorem zd_N_canDo_3 : decode zb_N_canDo 3 = .ok (.if_icmp .ne 13, 3) := by decide +kernel
theorem zd_N_canDo_6 : decode zb_N_canDo 6 = .ok (.aload_n 0, 1) := by decide +kernel
theorem zd_N_canDo_7 : decode zb_N_canDo 7 = .ok (.getfield 18, 3) := by decide +kernel
theorem zd_N_canDo_10 : decode zb_N_canDo 10 = .ok (.invokevirtual 134, 3) := by decide +kernel
theorem zd_N_canDo_13 : decode zb_N_canDo 13 = .ok (.pop, 1) := by decide +kernel
theorem zd_N_canDo_14 : decode zb_N_canDo 14 = .ok (.iconst 1, 1) := by decide +kernel
theorem zd_N_canDo_15 : decode zb_N_canDo 15 = .ok (.ireturn, 1) := by decide +kernel
theorem zd_N_canDo_16 : decode zb_N_canDo 16 = .ok (.iload_n 2, 1) := by decide +kernel
theorem zd_N_canDo_17 : decode zb_N_canDo 17 = .ok (.bipush 21, 2) := by decide +kernel
theorem zd_N_canDo_19 : decode zb_N_canDo 19 = .ok (.if_icmp .ne 12, 3) := by decide +kernel
theorem zd_N_canDo_22 : decode zb_N_canDo 22 = .ok (.aload_n 0, 1) := by decide +kernel
theorem zd_N_canDo_23 : decode zb_N_canDo 23 = .ok (.getfield 18, 3) := by decide +kernel
theorem zd_N_canDo_26 : decode zb_N_canDo 26 = .ok (.invokevirtual 131, 3) := by decide +kernel
theorem zd_N_canDo_29 : decode zb_N_canDo 29 = .ok (.iconst 1, 1) := by decide +kernel
theorem zd_N_canDo_30 : decode zb_N_canDo 30 = .ok (.ireturn, 1) := by decide +kernel
theorem zd_N_canDo_31 : decode zb_N_canDo 31 = .ok (.iload_n 2, 1) := by decide +kernel
theorem zd_N_canDo_32 : decode zb_N_canDo 32 = .ok (.bipush 10, 2) := by decide +kernel
theorem zd_N_canDo_34 : decode zb_N_canDo 34 = .ok (.if_icmp .lt 7, 3) := by decide +kernel
theorem zd_N_canDo_37 : decode zb_N_canDo 37 = .ok (.iconst 1, 1) := by decide +kernel
theorem zd_N_canDo_38 : decode zb_N_canDo 38 = .ok (.goto 4, 3) := by decide +kernel
theorem zd_N_canDo_41 : decode zb_N_canDo 41 = .ok (.iconst 0, 1) := by decide +kernel
theorem zd_N_canDo_42 : decode zb_N_canDo 42 = .ok (.istore_n 3, 1) := by decide +kernel
theorem zd_N_canDo_43 : decode zb_N_canDo 43 = .ok (.iload_n 3, 1) := by decide +kernel
theorem zd_N_canDo_44 : decode zb_N_canDo 44 = .ok (.ifCond .eq 10, 3) := by decide +kernel
theorem zd_N_canDo_47 : decode zb_N_canDo 47 = .ok (.iload_n 2, 1) := by decide +kernel
theorem zd_N_canDo_48 : decode zb_N_canDo 48 = .ok (.bipush 10, 2) := by decide +kernel
theorem zd_N_canDo_50 : decode zb_N_canDo 50 = .ok (.isub, 1) := by decide +kernel
theorem zd_N_canDo_51 : decode zb_N_canDo 51 = .ok (.goto 4, 3) := by decide +kernel
theorem zd_N_canDo_54 : decode zb_N_canDo 54 = .ok (.iload_n 2, 1) := by decide +kernel
theorem zd_N_canDo_55 : decode zb_N_canDo 55 = .ok (.istore 4, 2) := by decide +kernel
theorem zd_N_canDo_57 : decode zb_N_canDo 57 = .ok (.aload_n 0, 1) := by decide +kernel
theorem zd_N_canDo_58 : decode zb_N_canDo 58 = .ok (.getfield 18, 3) := by decide +kernel
theorem zd_N_canDo_61 : decode zb_N_canDo 61 = .ok (.iload 4, 2) := by decide +kernel
theorem zd_N_canDo_63 : decode zb_N_canDo 63 = .ok (.invokevirtual 80, 3) := by decide +kernel
theorem zd_N_canDo_66 : decode zb_N_canDo 66 = .ok (.ifCond .ne 5, 3) := by decide +kernel
theorem zd_N_canDo_69 : decode zb_N_canDo 69 = .ok (.iconst 0, 1) := by decide +kernel
theorem zd_N_canDo_70 : decode zb_N_canDo 70 = .ok (.ireturn, 1) := by decide +kernel
theorem zd_N_canDo_71 : decode zb_N_canDo 71 = .ok (.iload_n 3, 1) := by decide +kernel
theorem zd_N_canDo_72 : decode zb_N_canDo 72 = .ok (.ifCond .ne 23, 3) := by decide +kernel
theorem zd_N_canDo_75 : decode zb_N_canDo 75 = .ok (.aload_n 0, 1) := by decide +kernel
theorem zd_N_canDo_76 : decode zb_N_canDo 76 = .ok (.getfield 18, 3) := by decide +kernel
theorem zd_N_canDo_79 : decode zb_N_canDo 79 = .ok (.iload 4, 2) := by decide +kernel
theorem zd_N_canDo_81 : decode zb_N_canDo 81 = .ok (.invokevirtual 107, 3) := by decide +kernel
theorem zd_N_canDo_84 : decode zb_N_canDo 84 = .ok (.bipush 100, 2) := by decide +kernel
theorem zd_N_canDo_86 : decode zb_N_canDo 86 = .ok (.if_icmp .gt 7, 3) := by decide +kernel
theorem zd_N_canDo_89 : decode zb_N_canDo 89 = .ok (.iconst 1, 1) := by decide +kernel
theorem zd_N_canDo_90 : decode zb_N_canDo 90 = .ok (.goto 4, 3) := by decide +kernel
theorem zd_N_canDo_93 : decode zb_N_canDo 93 = .ok (.iconst 0, 1) := by decide +kernel
theorem zd_N_canDo_94 : decode zb_N_canDo 94 = .ok (.ireturn, 1) := by decide +kernel
theorem zd_N_canDo_95 : decode zb_N_canDo 95 = .ok (.aload_n 0, 1) := by decide +kernel
theorem zd_N_canDo_96 : decode zb_N_canDo 96 = .ok (.getfield 18, 3) := by decide +kernel
theorem zd_N_canDo_99 : decode zb_N_canDo 99 = .ok (.getfield 85, 3) := by decide +kernel
theorem zd_N_canDo_102 : decode zb_N_canDo 102 = .ok (.iload 4, 2) := by decide +kernel
theorem zd_N_canDo_104 : decode zb_N_canDo 104 = .ok (.iload_n 1, 1) := by decide +kernel
theorem zd_N_canDo_105 : decode zb_N_canDo 105 = .ok (.iastore, 1) := by decide +kernel
theorem zd_N_canDo_106 : decode zb_N_canDo 106 = .ok (.iconst 1, 1) := by decide +kernel
theorem zd_N_canDo_107 : decode zb_N_canDo 107 = .ok (.ireturn, 1) := by decide +kernel
def zf_N_canDo_b94  (u0 : Int32) (m0 : nk_M) : Option (Int32 × nk_M) := nk_zr u0 m0
set_option maxHeartbeats 4000000 in
set_option maxRecDepth 100000 in
theorem zs_N_canDo_b94 {G : nk_V} {X : nk_X}   (C : nk_C "NeedOnce" zb_N_canDo 5 nk_wC G X) (hR : X.2.2.2.1 = nk_rm 46) (hr : X.2.2.2.2.2.2.2.2.1.sig.returnType = (some .boolean))  : ∀ (u0 : Int32) (m0 : nk_M), nk_Sim nk_wC G X 5 nk_oi 94 [nk_r G 0, .null, .null, .null, .null] [.int u0] m0 (zf_N_canDo_b94 u0 m0) := by
  intro u0 m0
  unfold zf_N_canDo_b94
  exact nk_zret C hr zd_N_canDo_94
def zf_N_canDo_b55  (y1 : Int32) (y3 : Int32) (u0 : Int32) (m0 : nk_M) : Option (Int32 × nk_M) := nk_bd (zf_C_has 2 15 u0 m0) (fun r1 m1 => (if r1 = 0 then nk_zr (0 : Int32) m1 else (if y3 = 0 then nk_bd (zf_C_needAnew 2 15 u0 m1) (fun r2 m3 => (if (100 : Int32) < r2 then (zf_N_canDo_b94 (0 : Int32) m3) else (zf_N_canDo_b94 (1 : Int32) m3))) else nk_ast m1 16 8 u0 y1 (fun m2 => nk_zr (1 : Int32) m2))))
set_option maxHeartbeats 4000000 in
set_option maxRecDepth 100000 in
theorem zs_N_canDo_b55 {G : nk_V} {X : nk_X}   (C : nk_C "NeedOnce" zb_N_canDo 5 nk_wC G X) (hR : X.2.2.2.1 = nk_rm 46) (hr : X.2.2.2.2.2.2.2.2.1.sig.returnType = (some .boolean))  : ∀ (y1 : Int32) (y3 : Int32) (u0 : Int32) (m0 : nk_M), nk_Sim nk_wC G X 5 nk_oi 55 [nk_r G 0, .int y1, .null, .int y3, .null] [.int u0] m0 (zf_N_canDo_b55 y1 y3 u0 m0) := by
  intro y1 y3 u0 m0
  unfold zf_N_canDo_b55
  refine nk_istore C zd_N_canDo_55 (Nat.le_of_ble_eq_true rfl) rfl ?_
  refine nk_aload_n C zd_N_canDo_57 rfl rfl ?_
  refine nk_getR C (r := 2) za_N_18 (Nat.le_of_ble_eq_true rfl) rfl rfl zd_N_canDo_58 ?_
  refine nk_iload C zd_N_canDo_61 rfl ?_
  refine nk_callVi C [.int u0] zv_N_80 hR (zc_C_has 2 15 (Or.inr ⟨rfl, rfl⟩) u0 m0) (by omega) (Nat.le_of_ble_eq_true rfl) rfl rfl rfl rfl (Nat.le_of_ble_eq_true rfl) zd_N_canDo_63 (fun r1 m1 => ?_)
  refine nk_if_ne (tgt := 71) C zd_N_canDo_66 (by decide) ?_ ?_
  · refine nk_iload_n C zd_N_canDo_71 rfl rfl ?_
    refine nk_if_ne (tgt := 95) C zd_N_canDo_72 (by decide) ?_ ?_
    · refine nk_aload_n C zd_N_canDo_95 rfl rfl ?_
      refine nk_getR C (r := 2) za_N_18 (Nat.le_of_ble_eq_true rfl) rfl rfl zd_N_canDo_96 ?_
      refine nk_getR C (r := 16) za_N_85 (Nat.le_of_ble_eq_true rfl) rfl rfl zd_N_canDo_99 ?_
      refine nk_iload C zd_N_canDo_102 rfl ?_
      refine nk_iload_n C zd_N_canDo_104 rfl rfl ?_
      refine nk_iast C (Nat.le_of_ble_eq_true rfl) rfl zd_N_canDo_105 (fun m2 => ?_)
      refine nk_iconst (v := 1) C zd_N_canDo_106 (by decide) ?_
      exact nk_zret C hr zd_N_canDo_107
    · refine nk_aload_n C zd_N_canDo_75 rfl rfl ?_
      refine nk_getR C (r := 2) za_N_18 (Nat.le_of_ble_eq_true rfl) rfl rfl zd_N_canDo_76 ?_
      refine nk_iload C zd_N_canDo_79 rfl ?_
      refine nk_callVi C [.int u0] zv_N_107 hR (zc_C_needAnew 2 15 (Or.inr ⟨rfl, rfl⟩) u0 m1) (by omega) (Nat.le_of_ble_eq_true rfl) rfl rfl rfl rfl (Nat.le_of_ble_eq_true rfl) zd_N_canDo_81 (fun r2 m3 => ?_)
      refine nk_bipush (v := 100) C zd_N_canDo_84 (by decide) ?_
      refine nk_icmp_gt (tgt := 93) C zd_N_canDo_86 (by decide) ?_ ?_
      · refine nk_iconst (v := 0) C zd_N_canDo_93 (by decide) ?_
        refine nk_wk [true, false, false, false, false] ?_
        exact zs_N_canDo_b94 C hR hr (0 : Int32) m3
      · refine nk_iconst (v := 1) C zd_N_canDo_89 (by decide) ?_
        refine nk_goto (tgt := 94) C zd_N_canDo_90 (by decide) ?_
        refine nk_wk [true, false, false, false, false] ?_
        exact zs_N_canDo_b94 C hR hr (1 : Int32) m3
  · refine nk_iconst (v := 0) C zd_N_canDo_69 (by decide) ?_
    exact nk_zret C hr zd_N_canDo_70
def zf_N_canDo_b42  (y1 : Int32) (y2 : Int32) (u0 : Int32) (m0 : nk_M) : Option (Int32 × nk_M) := (if u0 = 0 then (zf_N_canDo_b55 y1 u0 y2 m0) else (zf_N_canDo_b55 y1 u0 (y2 - (10 : Int32)) m0))
set_option maxHeartbeats 4000000 in
set_option maxRecDepth 100000 in
theorem zs_N_canDo_b42 {G : nk_V} {X : nk_X}   (C : nk_C "NeedOnce" zb_N_canDo 5 nk_wC G X) (hR : X.2.2.2.1 = nk_rm 46) (hr : X.2.2.2.2.2.2.2.2.1.sig.returnType = (some .boolean))  : ∀ (y1 : Int32) (y2 : Int32) (u0 : Int32) (m0 : nk_M), nk_Sim nk_wC G X 5 nk_oi 42 [nk_r G 0, .int y1, .int y2, .null, .null] [.int u0] m0 (zf_N_canDo_b42 y1 y2 u0 m0) := by
  intro y1 y2 u0 m0
  unfold zf_N_canDo_b42
  refine nk_istore_n C zd_N_canDo_42 rfl (Nat.le_of_ble_eq_true rfl) rfl ?_
  refine nk_iload_n C zd_N_canDo_43 rfl rfl ?_
  refine nk_if_eq (tgt := 54) C zd_N_canDo_44 (by decide) ?_ ?_
  · refine nk_iload_n C zd_N_canDo_54 rfl rfl ?_
    refine nk_wk [true, true, false, true, false] ?_
    exact zs_N_canDo_b55 C hR hr y1 u0 y2 m0
  · refine nk_iload_n C zd_N_canDo_47 rfl rfl ?_
    refine nk_bipush (v := 10) C zd_N_canDo_48 (by decide) ?_
    refine nk_isub C zd_N_canDo_50 ?_
    refine nk_goto (tgt := 55) C zd_N_canDo_51 (by decide) ?_
    refine nk_wk [true, true, false, true, false] ?_
    exact zs_N_canDo_b55 C hR hr y1 u0 (y2 - (10 : Int32)) m0
def zf_N_canDo  (a1 : Int32) (a2 : Int32) (m0 : nk_M) : Option (Int32 × nk_M) := (if a2 = (20 : Int32) then nk_bd (zf_C_makeLinks 2 15 m0) (fun r2 m2 => nk_zr (1 : Int32) m2) else (if a2 = (21 : Int32) then nk_bd (zf_C_putToSleep 2 15 m0) (fun _ m1 => nk_zr (1 : Int32) m1) else (if a2 < (10 : Int32) then (zf_N_canDo_b42 a1 a2 (0 : Int32) m0) else (zf_N_canDo_b42 a1 a2 (1 : Int32) m0))))
set_option maxHeartbeats 4000000 in
set_option maxRecDepth 100000 in
theorem zc_N_canDo {l : Launch} {G : nk_V}   (a1 : Int32) (a2 : Int32) (m0 : nk_M) : nk_Ct l nk_wC G 46 zy_N_canDo zb_N_canDo 5 (some .boolean) nk_oi [nk_r G 0, .int a1, .int a2] m0 (zf_N_canDo  a1 a2 m0) := by
  refine nk_ent (own := "NeedOnce") (lv := [nk_r G 0, .int a1, .int a2, .null, .null]) 2 rfl (by decide) (Nat.le_of_ble_eq_true rfl) rfl (fun X hl hR C hr => ?_)
  subst hl
  unfold zf_N_canDo
  refine nk_iload_n C zd_N_canDo_0 rfl rfl ?_
  refine nk_bipush (v := 20) C zd_N_canDo_1 (by decide) ?_
  refine nk_icmp_ne (tgt := 16) C zd_N_canDo_3 (by decide) ?_ ?_
  · refine nk_iload_n C zd_N_canDo_16 rfl rfl ?_
    refine nk_bipush (v := 21) C zd_N_canDo_17 (by decide) ?_
    refine nk_icmp_ne (tgt := 31) C zd_N_canDo_19 (by decide) ?_ ?_
    · refine nk_iload_n C zd_N_canDo_31 rfl rfl ?_
      refine nk_bipush (v := 10) C zd_N_canDo_32 (by decide) ?_
      refine nk_icmp_lt (tgt := 41) C zd_N_canDo_34 (by decide) ?_ ?_
      · refine nk_iconst (v := 0) C zd_N_canDo_41 (by decide) ?_
        exact zs_N_canDo_b42 C hR hr a1 a2 (0 : Int32) m0
      · refine nk_iconst (v := 1) C zd_N_canDo_37 (by decide) ?_
        refine nk_goto (tgt := 42) C zd_N_canDo_38 (by decide) ?_
        exact zs_N_canDo_b42 C hR hr a1 a2 (1 : Int32) m0
    · refine nk_aload_n C zd_N_canDo_22 rfl rfl ?_
      refine nk_getR C (r := 2) za_N_18 (Nat.le_of_ble_eq_true rfl) rfl rfl zd_N_canDo_23 ?_
      refine nk_callVv C [] zv_N_131 hR (zc_C_putToSleep 2 15 (Or.inr ⟨rfl, rfl⟩) m0) (by omega) (Nat.le_of_ble_eq_true rfl) rfl rfl rfl rfl (Nat.le_of_ble_eq_true rfl) zd_N_canDo_26 (fun m1 => ?_)
      refine nk_iconst (v := 1) C zd_N_canDo_29 (by decide) ?_
      exact nk_zret C hr zd_N_canDo_30
  · refine nk_aload_n C zd_N_canDo_6 rfl rfl ?_
    refine nk_getR C (r := 2) za_N_18 (Nat.le_of_ble_eq_true rfl) rfl rfl zd_N_canDo_7 ?_
    refine nk_callVi C [] zv_N_134 hR (zc_C_makeLinks 2 15 (Or.inr ⟨rfl, rfl⟩) m0) (by omega) (Nat.le_of_ble_eq_true rfl) rfl rfl rfl rfl (Nat.le_of_ble_eq_true rfl) zd_N_canDo_10 (fun r2 m2 => ?_)
    refine nk_pop C zd_N_canDo_13 rfl ?_
    refine nk_iconst (v := 1) C zd_N_canDo_14 (by decide) ?_
    exact nk_zret C hr zd_N_canDo_15
theorem zd_N_doActs_0 : decode zb_N_doActs 0 = .ok (.iconst 0, 1) := by decide +kernel
theorem zd_N_doActs_1 : decode zb_N_doActs 1 = .ok (.istore 4, 2) := by decide +kernel
theorem zd_N_doActs_3 : decode zb_N_doActs 3 = .ok (.iload 4, 2) := by decide +kernel
theorem zd_N_doActs_5 : decode zb_N_doActs 5 = .ok (.iload_n 3, 1) := by decide +kernel
theorem zd_N_doActs_6 : decode zb_N_doActs 6 = .ok (.if_icmp .ge 49, 3) := by decide +kernel
theorem zd_N_doActs_9 : decode zb_N_doActs 9 = .ok (.iload_n 2, 1) := by decide +kernel
theorem zd_N_doActs_10 : decode zb_N_doActs 10 = .ok (.iconst 2, 1) := by decide +kernel
theorem zd_N_doActs_11 : decode zb_N_doActs 11 = .ok (.iload 4, 2) := by decide +kernel
theorem zd_N_doActs_13 : decode zb_N_doActs 13 = .ok (.imul, 1) := by decide +kernel
theorem zd_N_doActs_14 : decode zb_N_doActs 14 = .ok (.iadd, 1) := by decide +kernel
theorem zd_N_doActs_15 : decode zb_N_doActs 15 = .ok (.istore 5, 2) := by decide +kernel
theorem zd_N_doActs_17 : decode zb_N_doActs 17 = .ok (.aload_n 0, 1) := by decide +kernel
theorem zd_N_doActs_18 : decode zb_N_doActs 18 = .ok (.aload_n 0, 1) := by decide +kernel
theorem zd_N_doActs_19 : decode zb_N_doActs 19 = .ok (.getfield 38, 3) := by decide +kernel
theorem zd_N_doActs_22 : decode zb_N_doActs 22 = .ok (.iload_n 1, 1) := by decide +kernel
theorem zd_N_doActs_23 : decode zb_N_doActs 23 = .ok (.iload 5, 2) := by decide +kernel
theorem zd_N_doActs_25 : decode zb_N_doActs 25 = .ok (.invokevirtual 157, 3) := by decide +kernel
theorem zd_N_doActs_28 : decode zb_N_doActs 28 = .ok (.aload_n 0, 1) := by decide +kernel
theorem zd_N_doActs_29 : decode zb_N_doActs 29 = .ok (.getfield 38, 3) := by decide +kernel
theorem zd_N_doActs_32 : decode zb_N_doActs 32 = .ok (.iload_n 1, 1) := by decide +kernel
theorem zd_N_doActs_33 : decode zb_N_doActs 33 = .ok (.iload 5, 2) := by decide +kernel
theorem zd_N_doActs_35 : decode zb_N_doActs 35 = .ok (.iconst 1, 1) := by decide +kernel
theorem zd_N_doActs_36 : decode zb_N_doActs 36 = .ok (.iadd, 1) := by decide +kernel
theorem zd_N_doActs_37 : decode zb_N_doActs 37 = .ok (.invokevirtual 157, 3) := by decide +kernel
theorem zd_N_doActs_40 : decode zb_N_doActs 40 = .ok (.invokevirtual 164, 3) := by decide +kernel
theorem zd_N_doActs_43 : decode zb_N_doActs 43 = .ok (.ifCond .ne 6, 3) := by decide +kernel
theorem zd_N_doActs_46 : decode zb_N_doActs 46 = .ok (.iload 4, 2) := by decide +kernel
theorem zd_N_doActs_48 : decode zb_N_doActs 48 = .ok (.ireturn, 1) := by decide +kernel
theorem zd_N_doActs_49 : decode zb_N_doActs 49 = .ok (.iinc 4 1, 3) := by decide +kernel
theorem zd_N_doActs_52 : decode zb_N_doActs 52 = .ok (.goto (-49), 3) := by decide +kernel
theorem zd_N_doActs_55 : decode zb_N_doActs 55 = .ok (.bipush (-9), 2) := by decide +kernel
theorem zd_N_doActs_57 : decode zb_N_doActs 57 = .ok (.ireturn, 1) := by decide +kernel
def zf_N_doActs_b3  : Nat → Int32 → Int32 → Int32 → Int32 → nk_M → Option (Int32 × nk_M)
  | 0, _, _, _, _, _ => none
  | n0 + 1, y1, y2, y3, y4, m0 => (if y3 ≤ y4 then some ((-9 : Int32), m0) else nk_nm (y2 + ((2 : Int32) * y4)) (fun x1 => nk_bd (zf_S_at y1 x1 m0) (fun r2 m1 => nk_bd (zf_S_at y1 (x1 + (1 : Int32)) m1) (fun r3 m2 => nk_bd (zf_N_canDo r2 r3 m2) (fun r4 m3 => (if r4 = 0 then some (y4, m3) else (zf_N_doActs_b3 n0 y1 y2 y3 (y4 + 1) m3)))))))
set_option maxHeartbeats 4000000 in
set_option maxRecDepth 100000 in
theorem zs_N_doActs_b3 {G : nk_V} {X : nk_X}   (C : nk_C "NeedOnce" zb_N_doActs 6 nk_wC G X) (hR : X.2.2.2.1 = nk_rm 47) (hr : X.2.2.2.2.2.2.2.2.1.sig.returnType = (some .int))  : ∀ (n0 : Nat) (y1 : Int32) (y2 : Int32) (y3 : Int32) (y4 : Int32) (m0 : nk_M), nk_Sim nk_wC G X 6 nk_oi 3 [nk_r G 0, .int y1, .int y2, .int y3, .int y4, .null] [] m0 (zf_N_doActs_b3 n0 y1 y2 y3 y4 m0) := by
  intro n0
  induction n0 with
  | zero => intros; exact nk_none
  | succ n0 ih =>
    intro y1 y2 y3 y4 m0
    rw [zf_N_doActs_b3]
    refine nk_iload C zd_N_doActs_3 rfl ?_
    refine nk_iload_n C zd_N_doActs_5 rfl rfl ?_
    refine nk_icmp_ge (tgt := 55) C zd_N_doActs_6 (by decide) ?_ ?_
    · refine nk_bipush (v := -9) C zd_N_doActs_55 (by decide) ?_
      exact nk_iret C hr zd_N_doActs_57
    · refine nk_iload_n C zd_N_doActs_9 rfl rfl ?_
      refine nk_iconst (v := 2) C zd_N_doActs_10 (by decide) ?_
      refine nk_iload C zd_N_doActs_11 rfl ?_
      refine nk_imul C zd_N_doActs_13 ?_
      refine nk_iadd C zd_N_doActs_14 ?_
      refine nk_named (fun x1 => ?_)
      refine nk_istore C zd_N_doActs_15 (Nat.le_of_ble_eq_true rfl) rfl ?_
      refine nk_aload_n C zd_N_doActs_17 rfl rfl ?_
      refine nk_aload_n C zd_N_doActs_18 rfl rfl ?_
      refine nk_getR C (r := 5) za_N_38 (Nat.le_of_ble_eq_true rfl) rfl rfl zd_N_doActs_19 ?_
      refine nk_iload_n C zd_N_doActs_22 rfl rfl ?_
      refine nk_iload C zd_N_doActs_23 rfl ?_
      refine nk_callVi C [.int y1, .int x1] zv_N_157 hR (zc_S_at y1 x1 m0) (by omega) (Nat.le_of_ble_eq_true rfl) rfl rfl rfl rfl (Nat.le_of_ble_eq_true rfl) zd_N_doActs_25 (fun r2 m1 => ?_)
      refine nk_aload_n C zd_N_doActs_28 rfl rfl ?_
      refine nk_getR C (r := 5) za_N_38 (Nat.le_of_ble_eq_true rfl) rfl rfl zd_N_doActs_29 ?_
      refine nk_iload_n C zd_N_doActs_32 rfl rfl ?_
      refine nk_iload C zd_N_doActs_33 rfl ?_
      refine nk_iconst (v := 1) C zd_N_doActs_35 (by decide) ?_
      refine nk_iadd C zd_N_doActs_36 ?_
      refine nk_callVi C [.int y1, .int (x1 + (1 : Int32))] zv_N_157 hR (zc_S_at y1 (x1 + (1 : Int32)) m1) (by omega) (Nat.le_of_ble_eq_true rfl) rfl rfl rfl rfl (Nat.le_of_ble_eq_true rfl) zd_N_doActs_37 (fun r3 m2 => ?_)
      refine nk_callVi C [.int r2, .int r3] zv_N_164 hR (zc_N_canDo r2 r3 m2) (by omega) (Nat.le_of_ble_eq_true rfl) rfl rfl rfl rfl (Nat.le_of_ble_eq_true rfl) zd_N_doActs_40 (fun r4 m3 => ?_)
      refine nk_if_ne (tgt := 49) C zd_N_doActs_43 (by decide) ?_ ?_
      · refine nk_iinc (v0 := y4 + 1) C zd_N_doActs_49 rfl (nk_inc _ (by decide)) (Nat.le_of_ble_eq_true rfl) rfl ?_
        refine nk_goto (tgt := 3) C zd_N_doActs_52 (by decide) ?_
        refine nk_wk [true, true, true, true, true, false] ?_
        exact ih y1 y2 y3 (y4 + 1) m3
      · refine nk_iload C zd_N_doActs_46 rfl ?_
        exact nk_iret C hr zd_N_doActs_48
def zf_N_doActs  (a1 : Int32) (a2 : Int32) (a3 : Int32) (m0 : nk_M) : Option (Int32 × nk_M) := (zf_N_doActs_b3 nk_fu a1 a2 a3 (0 : Int32) m0)
set_option maxHeartbeats 4000000 in
set_option maxRecDepth 100000 in
theorem zc_N_doActs {l : Launch} {G : nk_V}   (a1 : Int32) (a2 : Int32) (a3 : Int32) (m0 : nk_M) : nk_Ct l nk_wC G 47 zy_N_doActs zb_N_doActs 6 (some .int) nk_oi [nk_r G 0, .int a1, .int a2, .int a3] m0 (zf_N_doActs  a1 a2 a3 m0) := by
  refine nk_ent (own := "NeedOnce") (lv := [nk_r G 0, .int a1, .int a2, .int a3, .null, .null]) 2 rfl (by decide) (Nat.le_of_ble_eq_true rfl) rfl (fun X hl hR C hr => ?_)
  subst hl
  unfold zf_N_doActs
  refine nk_iconst (v := 0) C zd_N_doActs_0 (by decide) ?_
  refine nk_istore C zd_N_doActs_1 (Nat.le_of_ble_eq_true rfl) rfl ?_
  exact zs_N_doActs_b3 C hR hr nk_fu a1 a2 a3 (0 : Int32) m0
theorem zd_C_howManyLinks_0 : decode zb_C_howManyLinks 0 = .ok (.iconst 0, 1) := by decide +kernel
theorem zd_C_howManyLinks_1 : decode zb_C_howManyLinks 1 = .ok (.istore_n 1, 1) := by decide +kernel
theorem zd_C_howManyLinks_2 : decode zb_C_howManyLinks 2 = .ok (.iconst 0, 1) := by decide +kernel
theorem zd_C_howManyLinks_3 : decode zb_C_howManyLinks 3 = .ok (.istore_n 2, 1) := by decide +kernel
theorem zd_C_howManyLinks_4 : decode zb_C_howManyLinks 4 = .ok (.iload_n 2, 1) := by decide +kernel
theorem zd_C_howManyLinks_5 : decode zb_C_howManyLinks 5 = .ok (.aload_n 0, 1) := by decide +kernel
theorem zd_C_howManyLinks_6 : decode zb_C_howManyLinks 6 = .ok (.getfield 47, 3) := by decide +kernel
theorem zd_C_howManyLinks_9 : decode zb_C_howManyLinks 9 = .ok (.if_icmp .ge 23, 3) := by decide +kernel
theorem zd_C_howManyLinks_12 : decode zb_C_howManyLinks 12 = .ok (.aload_n 0, 1) := by decide +kernel
theorem zd_C_howManyLinks_13 : decode zb_C_howManyLinks 13 = .ok (.getfield 30, 3) := by decide +kernel
theorem zd_C_howManyLinks_16 : decode zb_C_howManyLinks 16 = .ok (.iload_n 2, 1) := by decide +kernel
theorem zd_C_howManyLinks_17 : decode zb_C_howManyLinks 17 = .ok (.iaload, 1) := by decide +kernel
theorem zd_C_howManyLinks_18 : decode zb_C_howManyLinks 18 = .ok (.bipush (-9), 2) := by decide +kernel
theorem zd_C_howManyLinks_20 : decode zb_C_howManyLinks 20 = .ok (.if_icmp .eq 6, 3) := by decide +kernel
theorem zd_C_howManyLinks_23 : decode zb_C_howManyLinks 23 = .ok (.iinc 1 1, 3) := by decide +kernel
theorem zd_C_howManyLinks_26 : decode zb_C_howManyLinks 26 = .ok (.iinc 2 1, 3) := by decide +kernel
theorem zd_C_howManyLinks_29 : decode zb_C_howManyLinks 29 = .ok (.goto (-25), 3) := by decide +kernel
theorem zd_C_howManyLinks_32 : decode zb_C_howManyLinks 32 = .ok (.iload_n 1, 1) := by decide +kernel
theorem zd_C_howManyLinks_33 : decode zb_C_howManyLinks 33 = .ok (.ireturn, 1) := by decide +kernel
def zf_C_howManyLinks_b26 (o B : Nat) (rc4 : Int32 → Int32 → nk_M → Option (Int32 × nk_M)) (y1 : Int32) (y2 : Int32) (m0 : nk_M) : Option (Int32 × nk_M) := (rc4 y1 (y2 + 1) m0)
set_option maxHeartbeats 4000000 in
set_option maxRecDepth 100000 in
theorem zs_C_howManyLinks_b26 {G : nk_V} {X : nk_X} (o B : Nat) (hc : nk_isC o B) (C : nk_C "NeedOnce$Cells" zb_C_howManyLinks 3 nk_wC G X) (hR : X.2.2.2.1 = nk_rm 1) (hr : X.2.2.2.2.2.2.2.2.1.sig.returnType = (some .int)) (rc4 : Int32 → Int32 → nk_M → Option (Int32 × nk_M)) (hr4 : ∀ (y1 : Int32) (y2 : Int32) (m0 : nk_M), nk_Sim nk_wC G X 3 nk_oi 4 [nk_r G o, .int y1, .int y2] [] m0 (rc4 y1 y2 m0)) : ∀ (y1 : Int32) (y2 : Int32) (m0 : nk_M), nk_Sim nk_wC G X 3 nk_oi 26 [nk_r G o, .int y1, .int y2] [] m0 (zf_C_howManyLinks_b26 o B rc4 y1 y2 m0) := by
  intro y1 y2 m0
  unfold zf_C_howManyLinks_b26
  refine nk_iinc (v0 := y2 + 1) C zd_C_howManyLinks_26 rfl (nk_inc _ (by decide)) (Nat.le_of_ble_eq_true rfl) rfl ?_
  refine nk_goto (tgt := 4) C zd_C_howManyLinks_29 (by decide) ?_
  exact hr4 y1 (y2 + 1) m0
def zf_C_howManyLinks_b4 (o B : Nat) : Nat → Int32 → Int32 → nk_M → Option (Int32 × nk_M)
  | 0, _, _, _ => none
  | n0 + 1, y1, y2, m0 => (if (m0 o 0) ≤ y2 then some (y1, m0) else nk_ald m0 (B + 6) 8 y2 (fun x1 => (if x1 = (-9 : Int32) then (zf_C_howManyLinks_b26 o B (zf_C_howManyLinks_b4 o B n0) y1 y2 m0) else (zf_C_howManyLinks_b26 o B (zf_C_howManyLinks_b4 o B n0) (y1 + 1) y2 m0))))
set_option maxHeartbeats 4000000 in
set_option maxRecDepth 100000 in
theorem zs_C_howManyLinks_b4 {G : nk_V} {X : nk_X} (o B : Nat) (hc : nk_isC o B) (C : nk_C "NeedOnce$Cells" zb_C_howManyLinks 3 nk_wC G X) (hR : X.2.2.2.1 = nk_rm 1) (hr : X.2.2.2.2.2.2.2.2.1.sig.returnType = (some .int))  : ∀ (n0 : Nat) (y1 : Int32) (y2 : Int32) (m0 : nk_M), nk_Sim nk_wC G X 3 nk_oi 4 [nk_r G o, .int y1, .int y2] [] m0 (zf_C_howManyLinks_b4 o B n0 y1 y2 m0) := by
  intro n0
  induction n0 with
  | zero => intros; exact nk_none
  | succ n0 ih =>
    intro y1 y2 m0
    rw [zf_C_howManyLinks_b4]
    refine nk_iload_n C zd_C_howManyLinks_4 rfl rfl ?_
    refine nk_aload_n C zd_C_howManyLinks_5 rfl rfl ?_
    refine nk_getI C za_C_47 (nkc_ok hc) (nkc_os hc) rfl zd_C_howManyLinks_6 ?_
    refine nk_icmp_ge (tgt := 32) C zd_C_howManyLinks_9 (by decide) ?_ ?_
    · refine nk_iload_n C zd_C_howManyLinks_32 rfl rfl ?_
      exact nk_iret C hr zd_C_howManyLinks_33
    · refine nk_aload_n C zd_C_howManyLinks_12 rfl rfl ?_
      refine nk_getR C (r := (B + 6)) za_C_30 (nkc_ok hc) (nkc_os hc) rfl zd_C_howManyLinks_13 ?_
      refine nk_iload_n C zd_C_howManyLinks_16 rfl rfl ?_
      refine nk_iald C (nkc_bk6 hc) (nkc_bs6 hc) zd_C_howManyLinks_17 (fun x1 => ?_)
      refine nk_bipush (v := -9) C zd_C_howManyLinks_18 (by decide) ?_
      refine nk_icmp_eq (tgt := 26) C zd_C_howManyLinks_20 (by decide) ?_ ?_
      · exact zs_C_howManyLinks_b26 o B hc C hR hr (zf_C_howManyLinks_b4 o B n0) ih y1 y2 m0
      · refine nk_iinc (v0 := y1 + 1) C zd_C_howManyLinks_23 rfl (nk_inc _ (by decide)) (Nat.le_of_ble_eq_true rfl) rfl ?_
        exact zs_C_howManyLinks_b26 o B hc C hR hr (zf_C_howManyLinks_b4 o B n0) ih (y1 + 1) y2 m0
def zf_C_howManyLinks (o B : Nat)  (m0 : nk_M) : Option (Int32 × nk_M) := (zf_C_howManyLinks_b4 o B nk_fu (0 : Int32) (0 : Int32) m0)
set_option maxHeartbeats 4000000 in
set_option maxRecDepth 100000 in
theorem zc_C_howManyLinks {l : Launch} {G : nk_V} (o B : Nat) (hc : nk_isC o B)  (m0 : nk_M) : nk_Ct l nk_wC G 1 zy_C_howManyLinks zb_C_howManyLinks 3 (some .int) nk_oi [nk_r G o] m0 (zf_C_howManyLinks o B  m0) := by
  refine nk_ent (own := "NeedOnce$Cells") (lv := [nk_r G o, .null, .null]) 2 rfl (by decide) (Nat.le_of_ble_eq_true rfl) rfl (fun X hl hR C hr => ?_)
  subst hl
  unfold zf_C_howManyLinks
  refine nk_iconst (v := 0) C zd_C_howManyLinks_0 (by decide) ?_
  refine nk_istore_n C zd_C_howManyLinks_1 rfl (Nat.le_of_ble_eq_true rfl) rfl ?_
  refine nk_iconst (v := 0) C zd_C_howManyLinks_2 (by decide) ?_
  refine nk_istore_n C zd_C_howManyLinks_3 rfl (Nat.le_of_ble_eq_true rfl) rfl ?_
  exact zs_C_howManyLinks_b4 o B hc C hR hr nk_fu (0 : Int32) (0 : Int32) m0
theorem zd_N_afterDay_0 : decode zb_N_afterDay 0 = .ok (.iload_n 1, 1) := by decide +kernel
theorem zd_N_afterDay_1 : decode zb_N_afterDay 1 = .ok (.tableswitch 78 0 4 #[35, 78, 43, 51, 59], 35) := by decide +kernel
theorem zd_N_afterDay_36 : decode zb_N_afterDay 36 = .ok (.aload_n 0, 1) := by decide +kernel
theorem zd_N_afterDay_37 : decode zb_N_afterDay 37 = .ok (.getfield 18, 3) := by decide +kernel
theorem zd_N_afterDay_40 : decode zb_N_afterDay 40 = .ok (.getfield 125, 3) := by decide +kernel
theorem zd_N_afterDay_43 : decode zb_N_afterDay 43 = .ok (.ireturn, 1) := by decide +kernel
theorem zd_N_afterDay_44 : decode zb_N_afterDay 44 = .ok (.aload_n 0, 1) := by decide +kernel
theorem zd_N_afterDay_45 : decode zb_N_afterDay 45 = .ok (.getfield 18, 3) := by decide +kernel
theorem zd_N_afterDay_48 : decode zb_N_afterDay 48 = .ok (.invokevirtual 128, 3) := by decide +kernel
theorem zd_N_afterDay_51 : decode zb_N_afterDay 51 = .ok (.ireturn, 1) := by decide +kernel
theorem zd_N_afterDay_52 : decode zb_N_afterDay 52 = .ok (.aload_n 0, 1) := by decide +kernel
theorem zd_N_afterDay_53 : decode zb_N_afterDay 53 = .ok (.getfield 18, 3) := by decide +kernel
theorem zd_N_afterDay_56 : decode zb_N_afterDay 56 = .ok (.invokevirtual 167, 3) := by decide +kernel
theorem zd_N_afterDay_59 : decode zb_N_afterDay 59 = .ok (.ireturn, 1) := by decide +kernel
theorem zd_N_afterDay_60 : decode zb_N_afterDay 60 = .ok (.aload_n 0, 1) := by decide +kernel
theorem zd_N_afterDay_61 : decode zb_N_afterDay 61 = .ok (.getfield 18, 3) := by decide +kernel
theorem zd_N_afterDay_64 : decode zb_N_afterDay 64 = .ok (.iconst 1, 1) := by decide +kernel
theorem zd_N_afterDay_65 : decode zb_N_afterDay 65 = .ok (.aload_n 0, 1) := by decide +kernel
theorem zd_N_afterDay_66 : decode zb_N_afterDay 66 = .ok (.getfield 18, 3) := by decide +kernel
theorem zd_N_afterDay_69 : decode zb_N_afterDay 69 = .ok (.getfield 79, 3) := by decide +kernel
theorem zd_N_afterDay_72 : decode zb_N_afterDay 72 = .ok (.iconst 1, 1) := by decide +kernel
theorem zd_N_afterDay_73 : decode zb_N_afterDay 73 = .ok (.isub, 1) := by decide +kernel
theorem zd_N_afterDay_74 : decode zb_N_afterDay 74 = .ok (.ishl, 1) := by decide +kernel
theorem zd_N_afterDay_75 : decode zb_N_afterDay 75 = .ok (.invokevirtual 137, 3) := by decide +kernel
theorem zd_N_afterDay_78 : decode zb_N_afterDay 78 = .ok (.ireturn, 1) := by decide +kernel
theorem zd_N_afterDay_79 : decode zb_N_afterDay 79 = .ok (.aload_n 0, 1) := by decide +kernel
theorem zd_N_afterDay_80 : decode zb_N_afterDay 80 = .ok (.getfield 18, 3) := by decide +kernel
theorem zd_N_afterDay_83 : decode zb_N_afterDay 83 = .ok (.iload_n 1, 1) := by decide +kernel
theorem zd_N_afterDay_84 : decode zb_N_afterDay 84 = .ok (.bipush 10, 2) := by decide +kernel
theorem zd_N_afterDay_86 : decode zb_N_afterDay 86 = .ok (.isub, 1) := by decide +kernel
theorem zd_N_afterDay_87 : decode zb_N_afterDay 87 = .ok (.invokevirtual 80, 3) := by decide +kernel
theorem zd_N_afterDay_90 : decode zb_N_afterDay 90 = .ok (.ifCond .eq 18, 3) := by decide +kernel
theorem zd_N_afterDay_93 : decode zb_N_afterDay 93 = .ok (.aload_n 0, 1) := by decide +kernel
theorem zd_N_afterDay_94 : decode zb_N_afterDay 94 = .ok (.getfield 18, 3) := by decide +kernel
theorem zd_N_afterDay_97 : decode zb_N_afterDay 97 = .ok (.getfield 97, 3) := by decide +kernel
theorem zd_N_afterDay_100 : decode zb_N_afterDay 100 = .ok (.iload_n 1, 1) := by decide +kernel
theorem zd_N_afterDay_101 : decode zb_N_afterDay 101 = .ok (.bipush 10, 2) := by decide +kernel
theorem zd_N_afterDay_103 : decode zb_N_afterDay 103 = .ok (.isub, 1) := by decide +kernel
theorem zd_N_afterDay_104 : decode zb_N_afterDay 104 = .ok (.iaload, 1) := by decide +kernel
theorem zd_N_afterDay_105 : decode zb_N_afterDay 105 = .ok (.goto 5, 3) := by decide +kernel
theorem zd_N_afterDay_108 : decode zb_N_afterDay 108 = .ok (.bipush (-9), 2) := by decide +kernel
theorem zd_N_afterDay_110 : decode zb_N_afterDay 110 = .ok (.ireturn, 1) := by decide +kernel
def zf_N_afterDay_b110  (u0 : Int32) (m0 : nk_M) : Option (Int32 × nk_M) := some (u0, m0)
set_option maxHeartbeats 4000000 in
set_option maxRecDepth 100000 in
theorem zs_N_afterDay_b110 {G : nk_V} {X : nk_X}   (C : nk_C "NeedOnce" zb_N_afterDay 2 nk_wC G X) (hR : X.2.2.2.1 = nk_rm 5) (hr : X.2.2.2.2.2.2.2.2.1.sig.returnType = (some .int))  : ∀ (u0 : Int32) (m0 : nk_M), nk_Sim nk_wC G X 2 nk_oi 110 [nk_r G 0, .null] [.int u0] m0 (zf_N_afterDay_b110 u0 m0) := by
  intro u0 m0
  unfold zf_N_afterDay_b110
  exact nk_iret C hr zd_N_afterDay_110
def zf_N_afterDay  (a1 : Int32) (m0 : nk_M) : Option (Int32 × nk_M) := (if a1 = (0 : Int32) then some ((m0 2 10), m0) else if a1 = (2 : Int32) then nk_bd (zf_C_howManyAwake 2 15 m0) (fun r1 m1 => some (r1, m1)) else if a1 = (3 : Int32) then nk_bd (zf_C_howManyLinks 2 15 m0) (fun r2 m2 => some (r2, m2)) else if a1 = (4 : Int32) then nk_bd (zf_C_heldBy 2 15 ((1 : Int32) <<< (((m0 2 0) - (1 : Int32)) &&& 31)) m0) (fun r3 m3 => some (r3, m3)) else nk_bd (zf_C_has 2 15 (a1 - (10 : Int32)) m0) (fun r4 m4 => (if r4 = 0 then (zf_N_afterDay_b110 (-9 : Int32) m4) else nk_ald m4 19 8 (a1 - (10 : Int32)) (fun x5 => (zf_N_afterDay_b110 x5 m4)))))
set_option maxHeartbeats 4000000 in
set_option maxRecDepth 100000 in
theorem zc_N_afterDay {l : Launch} {G : nk_V}   (a1 : Int32) (m0 : nk_M) : nk_Ct l nk_wC G 5 zy_N_afterDay zb_N_afterDay 2 (some .int) nk_oi [nk_r G 0, .int a1] m0 (zf_N_afterDay  a1 m0) := by
  refine nk_ent (own := "NeedOnce") (lv := [nk_r G 0, .int a1]) 0 rfl (by decide) (Nat.le_of_ble_eq_true rfl) rfl (fun X hl hR C hr => ?_)
  subst hl
  unfold zf_N_afterDay
  refine nk_iload_n C zd_N_afterDay_0 rfl rfl ?_
  refine nk_tbl C (0 : Int32) (off := 35) (tgt := 36) zd_N_afterDay_1 ⟨by decide, by decide, by decide, by decide⟩ ?_ (fun h0 => ?_)
  · refine nk_aload_n C zd_N_afterDay_36 rfl rfl ?_
    refine nk_getR C (r := 2) za_N_18 (Nat.le_of_ble_eq_true rfl) rfl rfl zd_N_afterDay_37 ?_
    refine nk_getI C za_N_125 (Nat.le_of_ble_eq_true rfl) rfl rfl zd_N_afterDay_40 ?_
    exact nk_iret C hr zd_N_afterDay_43
  refine nk_tbl C (2 : Int32) (off := 43) (tgt := 44) zd_N_afterDay_1 ⟨by decide, by decide, by decide, by decide⟩ ?_ (fun h2 => ?_)
  · refine nk_aload_n C zd_N_afterDay_44 rfl rfl ?_
    refine nk_getR C (r := 2) za_N_18 (Nat.le_of_ble_eq_true rfl) rfl rfl zd_N_afterDay_45 ?_
    refine nk_callVi C [] zv_N_128 hR (zc_C_howManyAwake 2 15 (Or.inr ⟨rfl, rfl⟩) m0) (by omega) (Nat.le_of_ble_eq_true rfl) rfl rfl rfl rfl (Nat.le_of_ble_eq_true rfl) zd_N_afterDay_48 (fun r1 m1 => ?_)
    exact nk_iret C hr zd_N_afterDay_51
  refine nk_tbl C (3 : Int32) (off := 51) (tgt := 52) zd_N_afterDay_1 ⟨by decide, by decide, by decide, by decide⟩ ?_ (fun h3 => ?_)
  · refine nk_aload_n C zd_N_afterDay_52 rfl rfl ?_
    refine nk_getR C (r := 2) za_N_18 (Nat.le_of_ble_eq_true rfl) rfl rfl zd_N_afterDay_53 ?_
    refine nk_callVi C [] zv_N_167 hR (zc_C_howManyLinks 2 15 (Or.inr ⟨rfl, rfl⟩) m0) (by omega) (Nat.le_of_ble_eq_true rfl) rfl rfl rfl rfl (Nat.le_of_ble_eq_true rfl) zd_N_afterDay_56 (fun r2 m2 => ?_)
    exact nk_iret C hr zd_N_afterDay_59
  refine nk_tbl C (4 : Int32) (off := 59) (tgt := 60) zd_N_afterDay_1 ⟨by decide, by decide, by decide, by decide⟩ ?_ (fun h4 => ?_)
  · refine nk_aload_n C zd_N_afterDay_60 rfl rfl ?_
    refine nk_getR C (r := 2) za_N_18 (Nat.le_of_ble_eq_true rfl) rfl rfl zd_N_afterDay_61 ?_
    refine nk_iconst (v := 1) C zd_N_afterDay_64 (by decide) ?_
    refine nk_aload_n C zd_N_afterDay_65 rfl rfl ?_
    refine nk_getR C (r := 2) za_N_18 (Nat.le_of_ble_eq_true rfl) rfl rfl zd_N_afterDay_66 ?_
    refine nk_getI C za_N_79 (Nat.le_of_ble_eq_true rfl) rfl rfl zd_N_afterDay_69 ?_
    refine nk_iconst (v := 1) C zd_N_afterDay_72 (by decide) ?_
    refine nk_isub C zd_N_afterDay_73 ?_
    refine nk_ishl C zd_N_afterDay_74 ?_
    refine nk_callVi C [.int ((1 : Int32) <<< (((m0 2 0) - (1 : Int32)) &&& 31))] zv_N_137 hR (zc_C_heldBy 2 15 (Or.inr ⟨rfl, rfl⟩) ((1 : Int32) <<< (((m0 2 0) - (1 : Int32)) &&& 31)) m0) (by omega) (Nat.le_of_ble_eq_true rfl) rfl rfl rfl rfl (Nat.le_of_ble_eq_true rfl) zd_N_afterDay_75 (fun r3 m3 => ?_)
    exact nk_iret C hr zd_N_afterDay_78
  refine nk_tblD C (tgt := 79) zd_N_afterDay_1 (by
      have g0 := nk_neK (i := 0) (by decide) h0; have g2 := nk_neK (i := 2) (by decide) h2; have g3 := nk_neK (i := 3) (by decide) h3; have g4 := nk_neK (i := 4) (by decide) h4
      by_cases a0 : Int32.toInt a1 < 0
      · exact Or.inl a0
      by_cases b0 : 4 < Int32.toInt a1
      · exact Or.inr (Or.inl b0)
      have q : Int32.toInt a1 = 1 := by omega
      refine Or.inr (Or.inr ?_)
      rcases q with q <;> rw [q] <;> rfl) (by decide) ?_
  refine nk_aload_n C zd_N_afterDay_79 rfl rfl ?_
  refine nk_getR C (r := 2) za_N_18 (Nat.le_of_ble_eq_true rfl) rfl rfl zd_N_afterDay_80 ?_
  refine nk_iload_n C zd_N_afterDay_83 rfl rfl ?_
  refine nk_bipush (v := 10) C zd_N_afterDay_84 (by decide) ?_
  refine nk_isub C zd_N_afterDay_86 ?_
  refine nk_callVi C [.int (a1 - (10 : Int32))] zv_N_80 hR (zc_C_has 2 15 (Or.inr ⟨rfl, rfl⟩) (a1 - (10 : Int32)) m0) (by omega) (Nat.le_of_ble_eq_true rfl) rfl rfl rfl rfl (Nat.le_of_ble_eq_true rfl) zd_N_afterDay_87 (fun r4 m4 => ?_)
  refine nk_if_eq (tgt := 108) C zd_N_afterDay_90 (by decide) ?_ ?_
  · refine nk_bipush (v := -9) C zd_N_afterDay_108 (by decide) ?_
    refine nk_wk [true, false] ?_
    exact zs_N_afterDay_b110 C hR hr (-9 : Int32) m4
  · refine nk_aload_n C zd_N_afterDay_93 rfl rfl ?_
    refine nk_getR C (r := 2) za_N_18 (Nat.le_of_ble_eq_true rfl) rfl rfl zd_N_afterDay_94 ?_
    refine nk_getR C (r := 19) za_N_97 (Nat.le_of_ble_eq_true rfl) rfl rfl zd_N_afterDay_97 ?_
    refine nk_iload_n C zd_N_afterDay_100 rfl rfl ?_
    refine nk_bipush (v := 10) C zd_N_afterDay_101 (by decide) ?_
    refine nk_isub C zd_N_afterDay_103 ?_
    refine nk_iald C (Nat.le_of_ble_eq_true rfl) rfl zd_N_afterDay_104 (fun x5 => ?_)
    refine nk_goto (tgt := 110) C zd_N_afterDay_105 (by decide) ?_
    refine nk_wk [true, false] ?_
    exact zs_N_afterDay_b110 C hR hr x5 m4
theorem zd_N_day_0 : decode zb_N_day 0 = .ok (.aload_n 0, 1) := by decide +kernel
theorem zd_N_day_1 : decode zb_N_day 1 = .ok (.iconst 0, 1) := by decide +kernel
theorem zd_N_day_2 : decode zb_N_day 2 = .ok (.putfield 42, 3) := by decide +kernel
theorem zd_N_day_5 : decode zb_N_day 5 = .ok (.aload_n 0, 1) := by decide +kernel
theorem zd_N_day_6 : decode zb_N_day 6 = .ok (.getfield 38, 3) := by decide +kernel
theorem zd_N_day_9 : decode zb_N_day 9 = .ok (.iload_n 1, 1) := by decide +kernel
theorem zd_N_day_10 : decode zb_N_day 10 = .ok (.invokevirtual 46, 3) := by decide +kernel
theorem zd_N_day_13 : decode zb_N_day 13 = .ok (.ifCond .ne 5, 3) := by decide +kernel
theorem zd_N_day_16 : decode zb_N_day 16 = .ok (.iconst (-1), 1) := by decide +kernel
theorem zd_N_day_17 : decode zb_N_day 17 = .ok (.ireturn, 1) := by decide +kernel
theorem zd_N_day_18 : decode zb_N_day 18 = .ok (.iload_n 2, 1) := by decide +kernel
theorem zd_N_day_19 : decode zb_N_day 19 = .ok (.invokestatic 50, 3) := by decide +kernel
theorem zd_N_day_22 : decode zb_N_day 22 = .ok (.ifCond .eq 23, 3) := by decide +kernel
theorem zd_N_day_25 : decode zb_N_day 25 = .ok (.iload 4, 2) := by decide +kernel
theorem zd_N_day_27 : decode zb_N_day 27 = .ok (.ifCond .lt 18, 3) := by decide +kernel
theorem zd_N_day_30 : decode zb_N_day 30 = .ok (.iload 4, 2) := by decide +kernel
theorem zd_N_day_32 : decode zb_N_day 32 = .ok (.bipush 20, 2) := by decide +kernel
theorem zd_N_day_34 : decode zb_N_day 34 = .ok (.if_icmp .gt 11, 3) := by decide +kernel
theorem zd_N_day_37 : decode zb_N_day 37 = .ok (.iload 5, 2) := by decide +kernel
theorem zd_N_day_39 : decode zb_N_day 39 = .ok (.invokestatic 143, 3) := by decide +kernel
theorem zd_N_day_42 : decode zb_N_day 42 = .ok (.ifCond .ne 6, 3) := by decide +kernel
theorem zd_N_day_45 : decode zb_N_day 45 = .ok (.bipush (-2), 2) := by decide +kernel
theorem zd_N_day_47 : decode zb_N_day 47 = .ok (.ireturn, 1) := by decide +kernel
theorem zd_N_day_48 : decode zb_N_day 48 = .ok (.aload_n 0, 1) := by decide +kernel
theorem zd_N_day_49 : decode zb_N_day 49 = .ok (.getfield 12, 3) := by decide +kernel
theorem zd_N_day_52 : decode zb_N_day 52 = .ok (.getfield 79, 3) := by decide +kernel
theorem zd_N_day_55 : decode zb_N_day 55 = .ok (.ifCond .ne 6, 3) := by decide +kernel
theorem zd_N_day_58 : decode zb_N_day 58 = .ok (.bipush (-3), 2) := by decide +kernel
theorem zd_N_day_60 : decode zb_N_day 60 = .ok (.ireturn, 1) := by decide +kernel
theorem zd_N_day_61 : decode zb_N_day 61 = .ok (.aload_n 0, 1) := by decide +kernel
theorem zd_N_day_62 : decode zb_N_day 62 = .ok (.getfield 38, 3) := by decide +kernel
theorem zd_N_day_65 : decode zb_N_day 65 = .ok (.iload_n 1, 1) := by decide +kernel
theorem zd_N_day_66 : decode zb_N_day 66 = .ok (.iload_n 2, 1) := by decide +kernel
theorem zd_N_day_67 : decode zb_N_day 67 = .ok (.iload_n 3, 1) := by decide +kernel
theorem zd_N_day_68 : decode zb_N_day 68 = .ok (.iconst 2, 1) := by decide +kernel
theorem zd_N_day_69 : decode zb_N_day 69 = .ok (.iload 4, 2) := by decide +kernel
theorem zd_N_day_71 : decode zb_N_day 71 = .ok (.imul, 1) := by decide +kernel
theorem zd_N_day_72 : decode zb_N_day 72 = .ok (.invokevirtual 53, 3) := by decide +kernel
theorem zd_N_day_75 : decode zb_N_day 75 = .ok (.istore 6, 2) := by decide +kernel
theorem zd_N_day_77 : decode zb_N_day 77 = .ok (.iload 6, 2) := by decide +kernel
theorem zd_N_day_79 : decode zb_N_day 79 = .ok (.ifCond .eq 10, 3) := by decide +kernel
theorem zd_N_day_82 : decode zb_N_day 82 = .ok (.aload_n 0, 1) := by decide +kernel
theorem zd_N_day_83 : decode zb_N_day 83 = .ok (.iload 6, 2) := by decide +kernel
theorem zd_N_day_85 : decode zb_N_day 85 = .ok (.invokevirtual 57, 3) := by decide +kernel
theorem zd_N_day_88 : decode zb_N_day 88 = .ok (.ireturn, 1) := by decide +kernel
theorem zd_N_day_89 : decode zb_N_day 89 = .ok (.aload_n 0, 1) := by decide +kernel
theorem zd_N_day_90 : decode zb_N_day 90 = .ok (.iload_n 1, 1) := by decide +kernel
theorem zd_N_day_91 : decode zb_N_day 91 = .ok (.iload_n 3, 1) := by decide +kernel
theorem zd_N_day_92 : decode zb_N_day 92 = .ok (.iload 4, 2) := by decide +kernel
theorem zd_N_day_94 : decode zb_N_day 94 = .ok (.invokevirtual 146, 3) := by decide +kernel
theorem zd_N_day_97 : decode zb_N_day 97 = .ok (.ifCond .ne 6, 3) := by decide +kernel
theorem zd_N_day_100 : decode zb_N_day 100 = .ok (.bipush (-2), 2) := by decide +kernel
theorem zd_N_day_102 : decode zb_N_day 102 = .ok (.ireturn, 1) := by decide +kernel
theorem zd_N_day_103 : decode zb_N_day 103 = .ok (.aload_n 0, 1) := by decide +kernel
theorem zd_N_day_104 : decode zb_N_day 104 = .ok (.getfield 18, 3) := by decide +kernel
theorem zd_N_day_107 : decode zb_N_day 107 = .ok (.aload_n 0, 1) := by decide +kernel
theorem zd_N_day_108 : decode zb_N_day 108 = .ok (.getfield 12, 3) := by decide +kernel
theorem zd_N_day_111 : decode zb_N_day 111 = .ok (.invokevirtual 69, 3) := by decide +kernel
theorem zd_N_day_114 : decode zb_N_day 114 = .ok (.aload_n 0, 1) := by decide +kernel
theorem zd_N_day_115 : decode zb_N_day 115 = .ok (.iload_n 1, 1) := by decide +kernel
theorem zd_N_day_116 : decode zb_N_day 116 = .ok (.iload_n 3, 1) := by decide +kernel
theorem zd_N_day_117 : decode zb_N_day 117 = .ok (.iload 4, 2) := by decide +kernel
theorem zd_N_day_119 : decode zb_N_day 119 = .ok (.invokevirtual 150, 3) := by decide +kernel
theorem zd_N_day_122 : decode zb_N_day 122 = .ok (.istore 7, 2) := by decide +kernel
theorem zd_N_day_124 : decode zb_N_day 124 = .ok (.iload 5, 2) := by decide +kernel
theorem zd_N_day_126 : decode zb_N_day 126 = .ok (.iconst 1, 1) := by decide +kernel
theorem zd_N_day_127 : decode zb_N_day 127 = .ok (.if_icmp .ne 6, 3) := by decide +kernel
theorem zd_N_day_130 : decode zb_N_day 130 = .ok (.iload 7, 2) := by decide +kernel
theorem zd_N_day_132 : decode zb_N_day 132 = .ok (.ireturn, 1) := by decide +kernel
theorem zd_N_day_133 : decode zb_N_day 133 = .ok (.iload 7, 2) := by decide +kernel
theorem zd_N_day_135 : decode zb_N_day 135 = .ok (.bipush (-9), 2) := by decide +kernel
theorem zd_N_day_137 : decode zb_N_day 137 = .ok (.if_icmp .eq 9, 3) := by decide +kernel
theorem zd_N_day_140 : decode zb_N_day 140 = .ok (.bipush (-100), 2) := by decide +kernel
theorem zd_N_day_142 : decode zb_N_day 142 = .ok (.iload 7, 2) := by decide +kernel
theorem zd_N_day_144 : decode zb_N_day 144 = .ok (.isub, 1) := by decide +kernel
theorem zd_N_day_145 : decode zb_N_day 145 = .ok (.ireturn, 1) := by decide +kernel
theorem zd_N_day_146 : decode zb_N_day 146 = .ok (.aload_n 0, 1) := by decide +kernel
theorem zd_N_day_147 : decode zb_N_day 147 = .ok (.iload 5, 2) := by decide +kernel
theorem zd_N_day_149 : decode zb_N_day 149 = .ok (.invokevirtual 154, 3) := by decide +kernel
theorem zd_N_day_152 : decode zb_N_day 152 = .ok (.ireturn, 1) := by decide +kernel
def zf_N_day_b45   (m0 : nk_M) : Option (Int32 × nk_M) := some ((-2 : Int32), m0)
set_option maxHeartbeats 4000000 in
set_option maxRecDepth 100000 in
theorem zs_N_day_b45 {G : nk_V} {X : nk_X}   (C : nk_C "NeedOnce" zb_N_day 8 nk_wC G X) (hR : X.2.2.2.1 = nk_rm 48) (hr : X.2.2.2.2.2.2.2.2.1.sig.returnType = (some .int))  : ∀  (m0 : nk_M), nk_Sim nk_wC G X 8 nk_oi 45 [nk_r G 0, .null, .null, .null, .null, .null, .null, .null] [] m0 (zf_N_day_b45  m0) := by
  intro m0
  unfold zf_N_day_b45
  refine nk_bipush (v := -2) C zd_N_day_45 (by decide) ?_
  exact nk_iret C hr zd_N_day_47
def zf_N_day  (a1 : Int32) (a2 : Int32) (a3 : Int32) (a4 : Int32) (a5 : Int32) (m0 : nk_M) : Option (Int32 × nk_M) := nk_pf m0 0 6 (0 : Int32) (fun m1 => nk_bd (zf_S_has a1 m1) (fun r1 m2 => (if r1 = 0 then some ((-1 : Int32), m2) else nk_bd (zf_N_isLane a2 m2) (fun r2 m3 => (if r2 = 0 then (zf_N_day_b45 m3) else (if a4 < 0 then (zf_N_day_b45 m3) else (if (20 : Int32) < a4 then (zf_N_day_b45 m3) else nk_bd (zf_N_isOfDay a5 m3) (fun r3 m4 => (if r3 = 0 then (zf_N_day_b45 m4) else (if (m4 1 0) = 0 then some ((-3 : Int32), m4) else nk_bd (zf_S_rangeFault a1 a2 a3 ((2 : Int32) * a4) m4) (fun r4 m5 => (if r4 = 0 then nk_bd (zf_N_areActs a1 a3 a4 m5) (fun r5 m6 => (if r5 = 0 then some ((-2 : Int32), m6) else nk_bd (zf_C_becomeLike 2 15 1 6 m6) (fun _ m7 => nk_bd (zf_N_doActs a1 a3 a4 m7) (fun r7 m8 => (if a5 = (1 : Int32) then some (r7, m8) else (if r7 = (-9 : Int32) then nk_bd (zf_N_afterDay a5 m8) (fun r8 m9 => some (r8, m9)) else some ((-100 : Int32) - r7, m8))))))) else nk_bd (zf_N_faulted r4 m5) (fun r9 m10 => some (r9, m10))))))))))))))
set_option maxHeartbeats 4000000 in
set_option maxRecDepth 100000 in
theorem zc_N_day {l : Launch} {G : nk_V}   (a1 : Int32) (a2 : Int32) (a3 : Int32) (a4 : Int32) (a5 : Int32) (m0 : nk_M) : nk_Ct l nk_wC G 48 zy_N_day zb_N_day 8 (some .int) nk_oi [nk_r G 0, .int a1, .int a2, .int a3, .int a4, .int a5] m0 (zf_N_day  a1 a2 a3 a4 a5 m0) := by
  refine nk_ent (own := "NeedOnce") (lv := [nk_r G 0, .int a1, .int a2, .int a3, .int a4, .int a5, .null, .null]) 2 rfl (by decide) (Nat.le_of_ble_eq_true rfl) rfl (fun X hl hR C hr => ?_)
  subst hl
  unfold zf_N_day
  refine nk_aload_n C zd_N_day_0 rfl rfl ?_
  refine nk_iconst (v := 0) C zd_N_day_1 (by decide) ?_
  refine nk_putI C zp_N_42 (Nat.le_of_ble_eq_true rfl) rfl rfl zd_N_day_2 (fun m1 => ?_)
  refine nk_aload_n C zd_N_day_5 rfl rfl ?_
  refine nk_getR C (r := 5) za_N_38 (Nat.le_of_ble_eq_true rfl) rfl rfl zd_N_day_6 ?_
  refine nk_iload_n C zd_N_day_9 rfl rfl ?_
  refine nk_callVi C [.int a1] zv_N_46 hR (zc_S_has a1 m1) (by omega) (Nat.le_of_ble_eq_true rfl) rfl rfl rfl rfl (Nat.le_of_ble_eq_true rfl) zd_N_day_10 (fun r1 m2 => ?_)
  refine nk_if_ne (tgt := 18) C zd_N_day_13 (by decide) ?_ ?_
  · refine nk_iload_n C zd_N_day_18 rfl rfl ?_
    refine nk_callSi C [.int a2] zv_N_50 hR (zc_N_isLane a2 m2) (by omega) rfl rfl (Nat.le_of_ble_eq_true rfl) zd_N_day_19 (fun r2 m3 => ?_)
    refine nk_if_eq (tgt := 45) C zd_N_day_22 (by decide) ?_ ?_
    · refine nk_wk [true, false, false, false, false, false, false, false] ?_
      exact zs_N_day_b45 C hR hr m3
    · refine nk_iload C zd_N_day_25 rfl ?_
      refine nk_if_lt (tgt := 45) C zd_N_day_27 (by decide) ?_ ?_
      · refine nk_wk [true, false, false, false, false, false, false, false] ?_
        exact zs_N_day_b45 C hR hr m3
      · refine nk_iload C zd_N_day_30 rfl ?_
        refine nk_bipush (v := 20) C zd_N_day_32 (by decide) ?_
        refine nk_icmp_gt (tgt := 45) C zd_N_day_34 (by decide) ?_ ?_
        · refine nk_wk [true, false, false, false, false, false, false, false] ?_
          exact zs_N_day_b45 C hR hr m3
        · refine nk_iload C zd_N_day_37 rfl ?_
          refine nk_callSi C [.int a5] zv_N_143 hR (zc_N_isOfDay a5 m3) (by omega) rfl rfl (Nat.le_of_ble_eq_true rfl) zd_N_day_39 (fun r3 m4 => ?_)
          refine nk_if_ne (tgt := 48) C zd_N_day_42 (by decide) ?_ ?_
          · refine nk_aload_n C zd_N_day_48 rfl rfl ?_
            refine nk_getR C (r := 1) za_N_12 (Nat.le_of_ble_eq_true rfl) rfl rfl zd_N_day_49 ?_
            refine nk_getI C za_N_79 (Nat.le_of_ble_eq_true rfl) rfl rfl zd_N_day_52 ?_
            refine nk_if_ne (tgt := 61) C zd_N_day_55 (by decide) ?_ ?_
            · refine nk_aload_n C zd_N_day_61 rfl rfl ?_
              refine nk_getR C (r := 5) za_N_38 (Nat.le_of_ble_eq_true rfl) rfl rfl zd_N_day_62 ?_
              refine nk_iload_n C zd_N_day_65 rfl rfl ?_
              refine nk_iload_n C zd_N_day_66 rfl rfl ?_
              refine nk_iload_n C zd_N_day_67 rfl rfl ?_
              refine nk_iconst (v := 2) C zd_N_day_68 (by decide) ?_
              refine nk_iload C zd_N_day_69 rfl ?_
              refine nk_imul C zd_N_day_71 ?_
              refine nk_callVi C [.int a1, .int a2, .int a3, .int ((2 : Int32) * a4)] zv_N_53 hR (zc_S_rangeFault a1 a2 a3 ((2 : Int32) * a4) m4) (by omega) (Nat.le_of_ble_eq_true rfl) rfl rfl rfl rfl (Nat.le_of_ble_eq_true rfl) zd_N_day_72 (fun r4 m5 => ?_)
              refine nk_istore C zd_N_day_75 (Nat.le_of_ble_eq_true rfl) rfl ?_
              refine nk_iload C zd_N_day_77 rfl ?_
              refine nk_if_eq (tgt := 89) C zd_N_day_79 (by decide) ?_ ?_
              · refine nk_aload_n C zd_N_day_89 rfl rfl ?_
                refine nk_iload_n C zd_N_day_90 rfl rfl ?_
                refine nk_iload_n C zd_N_day_91 rfl rfl ?_
                refine nk_iload C zd_N_day_92 rfl ?_
                refine nk_callVi C [.int a1, .int a3, .int a4] zv_N_146 hR (zc_N_areActs a1 a3 a4 m5) (by omega) (Nat.le_of_ble_eq_true rfl) rfl rfl rfl rfl (Nat.le_of_ble_eq_true rfl) zd_N_day_94 (fun r5 m6 => ?_)
                refine nk_if_ne (tgt := 103) C zd_N_day_97 (by decide) ?_ ?_
                · refine nk_aload_n C zd_N_day_103 rfl rfl ?_
                  refine nk_getR C (r := 2) za_N_18 (Nat.le_of_ble_eq_true rfl) rfl rfl zd_N_day_104 ?_
                  refine nk_aload_n C zd_N_day_107 rfl rfl ?_
                  refine nk_getR C (r := 1) za_N_12 (Nat.le_of_ble_eq_true rfl) rfl rfl zd_N_day_108 ?_
                  refine nk_callVv C [nk_r G 1] zv_N_69 hR (zc_C_becomeLike 2 15 1 6 (Or.inr ⟨rfl, rfl⟩) (Or.inl ⟨rfl, rfl⟩) m6) (by omega) (Nat.le_of_ble_eq_true rfl) rfl rfl rfl rfl (Nat.le_of_ble_eq_true rfl) zd_N_day_111 (fun m7 => ?_)
                  refine nk_aload_n C zd_N_day_114 rfl rfl ?_
                  refine nk_iload_n C zd_N_day_115 rfl rfl ?_
                  refine nk_iload_n C zd_N_day_116 rfl rfl ?_
                  refine nk_iload C zd_N_day_117 rfl ?_
                  refine nk_callVi C [.int a1, .int a3, .int a4] zv_N_150 hR (zc_N_doActs a1 a3 a4 m7) (by omega) (Nat.le_of_ble_eq_true rfl) rfl rfl rfl rfl (Nat.le_of_ble_eq_true rfl) zd_N_day_119 (fun r7 m8 => ?_)
                  refine nk_istore C zd_N_day_122 (Nat.le_of_ble_eq_true rfl) rfl ?_
                  refine nk_iload C zd_N_day_124 rfl ?_
                  refine nk_iconst (v := 1) C zd_N_day_126 (by decide) ?_
                  refine nk_icmp_ne (tgt := 133) C zd_N_day_127 (by decide) ?_ ?_
                  · refine nk_iload C zd_N_day_133 rfl ?_
                    refine nk_bipush (v := -9) C zd_N_day_135 (by decide) ?_
                    refine nk_icmp_eq (tgt := 146) C zd_N_day_137 (by decide) ?_ ?_
                    · refine nk_aload_n C zd_N_day_146 rfl rfl ?_
                      refine nk_iload C zd_N_day_147 rfl ?_
                      refine nk_callVi C [.int a5] zv_N_154 hR (zc_N_afterDay a5 m8) (by omega) (Nat.le_of_ble_eq_true rfl) rfl rfl rfl rfl (Nat.le_of_ble_eq_true rfl) zd_N_day_149 (fun r8 m9 => ?_)
                      exact nk_iret C hr zd_N_day_152
                    · refine nk_bipush (v := -100) C zd_N_day_140 (by decide) ?_
                      refine nk_iload C zd_N_day_142 rfl ?_
                      refine nk_isub C zd_N_day_144 ?_
                      exact nk_iret C hr zd_N_day_145
                  · refine nk_iload C zd_N_day_130 rfl ?_
                    exact nk_iret C hr zd_N_day_132
                · refine nk_bipush (v := -2) C zd_N_day_100 (by decide) ?_
                  exact nk_iret C hr zd_N_day_102
              · refine nk_aload_n C zd_N_day_82 rfl rfl ?_
                refine nk_iload C zd_N_day_83 rfl ?_
                refine nk_callVi C [.int r4] zv_N_57 hR (zc_N_faulted r4 m5) (by omega) (Nat.le_of_ble_eq_true rfl) rfl rfl rfl rfl (Nat.le_of_ble_eq_true rfl) zd_N_day_85 (fun r9 m10 => ?_)
                exact nk_iret C hr zd_N_day_88
            · refine nk_bipush (v := -3) C zd_N_day_58 (by decide) ?_
              exact nk_iret C hr zd_N_day_60
          · refine nk_wk [true, false, false, false, false, false, false, false] ?_
            exact zs_N_day_b45 C hR hr m4
  · refine nk_iconst (v := -1) C zd_N_day_16 (by decide) ?_
    exact nk_iret C hr zd_N_day_17
theorem zd_R_add_0 : decode zb_R_add 0 = .ok (.aload_n 0, 1) := by decide +kernel
theorem zd_R_add_1 : decode zb_R_add 1 = .ok (.getfield 18, 3) := by decide +kernel
theorem zd_R_add_4 : decode zb_R_add 4 = .ok (.bipush 8, 2) := by decide +kernel
theorem zd_R_add_6 : decode zb_R_add 6 = .ok (.if_icmp .lt 6, 3) := by decide +kernel
theorem zd_R_add_9 : decode zb_R_add 9 = .ok (.bipush (-4), 2) := by decide +kernel
theorem zd_R_add_11 : decode zb_R_add 11 = .ok (.ireturn, 1) := by decide +kernel
theorem zd_R_add_12 : decode zb_R_add 12 = .ok (.aload_n 0, 1) := by decide +kernel
theorem zd_R_add_13 : decode zb_R_add 13 = .ok (.getfield 9, 3) := by decide +kernel
theorem zd_R_add_16 : decode zb_R_add 16 = .ok (.aload_n 0, 1) := by decide +kernel
theorem zd_R_add_17 : decode zb_R_add 17 = .ok (.getfield 18, 3) := by decide +kernel
theorem zd_R_add_20 : decode zb_R_add 20 = .ok (.iload_n 1, 1) := by decide +kernel
theorem zd_R_add_21 : decode zb_R_add 21 = .ok (.iastore, 1) := by decide +kernel
theorem zd_R_add_22 : decode zb_R_add 22 = .ok (.aload_n 0, 1) := by decide +kernel
theorem zd_R_add_23 : decode zb_R_add 23 = .ok (.getfield 15, 3) := by decide +kernel
theorem zd_R_add_26 : decode zb_R_add 26 = .ok (.aload_n 0, 1) := by decide +kernel
theorem zd_R_add_27 : decode zb_R_add 27 = .ok (.getfield 18, 3) := by decide +kernel
theorem zd_R_add_30 : decode zb_R_add 30 = .ok (.iload_n 2, 1) := by decide +kernel
theorem zd_R_add_31 : decode zb_R_add 31 = .ok (.iastore, 1) := by decide +kernel
theorem zd_R_add_32 : decode zb_R_add 32 = .ok (.aload_n 0, 1) := by decide +kernel
theorem zd_R_add_33 : decode zb_R_add 33 = .ok (.dup, 1) := by decide +kernel
theorem zd_R_add_34 : decode zb_R_add 34 = .ok (.getfield 18, 3) := by decide +kernel
theorem zd_R_add_37 : decode zb_R_add 37 = .ok (.iconst 1, 1) := by decide +kernel
theorem zd_R_add_38 : decode zb_R_add 38 = .ok (.iadd, 1) := by decide +kernel
theorem zd_R_add_39 : decode zb_R_add 39 = .ok (.putfield 18, 3) := by decide +kernel
theorem zd_R_add_42 : decode zb_R_add 42 = .ok (.aload_n 0, 1) := by decide +kernel
theorem zd_R_add_43 : decode zb_R_add 43 = .ok (.getfield 18, 3) := by decide +kernel
theorem zd_R_add_46 : decode zb_R_add 46 = .ok (.iconst 1, 1) := by decide +kernel
theorem zd_R_add_47 : decode zb_R_add 47 = .ok (.isub, 1) := by decide +kernel
theorem zd_R_add_48 : decode zb_R_add 48 = .ok (.ireturn, 1) := by decide +kernel
def zf_R_add  (a1 : Int32) (a2 : Int32) (m0 : nk_M) : Option (Int32 × nk_M) := (if (m0 4 0) < (8 : Int32) then nk_ast m0 24 8 (m0 4 0) a1 (fun m1 => nk_ast m1 25 8 (m1 4 0) a2 (fun m2 => nk_pf m2 4 0 ((m2 4 0) + (1 : Int32)) (fun m3 => some ((m3 4 0) - (1 : Int32), m3)))) else some ((-4 : Int32), m0))
set_option maxHeartbeats 4000000 in
set_option maxRecDepth 100000 in
theorem zc_R_add {l : Launch} {G : nk_V}   (a1 : Int32) (a2 : Int32) (m0 : nk_M) : nk_Ct l nk_wC G 1 zy_R_add zb_R_add 3 (some .int) nk_oi [nk_r G 4, .int a1, .int a2] m0 (zf_R_add  a1 a2 m0) := by
  refine nk_ent (own := "NeedOnce$Readings") (lv := [nk_r G 4, .int a1, .int a2]) 0 rfl (by decide) (Nat.le_of_ble_eq_true rfl) rfl (fun X hl hR C hr => ?_)
  subst hl
  unfold zf_R_add
  refine nk_aload_n C zd_R_add_0 rfl rfl ?_
  refine nk_getI C za_R_18 (Nat.le_of_ble_eq_true rfl) rfl rfl zd_R_add_1 ?_
  refine nk_bipush (v := 8) C zd_R_add_4 (by decide) ?_
  refine nk_icmp_lt (tgt := 12) C zd_R_add_6 (by decide) ?_ ?_
  · refine nk_aload_n C zd_R_add_12 rfl rfl ?_
    refine nk_getR C (r := 24) za_R_9 (Nat.le_of_ble_eq_true rfl) rfl rfl zd_R_add_13 ?_
    refine nk_aload_n C zd_R_add_16 rfl rfl ?_
    refine nk_getI C za_R_18 (Nat.le_of_ble_eq_true rfl) rfl rfl zd_R_add_17 ?_
    refine nk_iload_n C zd_R_add_20 rfl rfl ?_
    refine nk_iast C (Nat.le_of_ble_eq_true rfl) rfl zd_R_add_21 (fun m1 => ?_)
    refine nk_aload_n C zd_R_add_22 rfl rfl ?_
    refine nk_getR C (r := 25) za_R_15 (Nat.le_of_ble_eq_true rfl) rfl rfl zd_R_add_23 ?_
    refine nk_aload_n C zd_R_add_26 rfl rfl ?_
    refine nk_getI C za_R_18 (Nat.le_of_ble_eq_true rfl) rfl rfl zd_R_add_27 ?_
    refine nk_iload_n C zd_R_add_30 rfl rfl ?_
    refine nk_iast C (Nat.le_of_ble_eq_true rfl) rfl zd_R_add_31 (fun m2 => ?_)
    refine nk_aload_n C zd_R_add_32 rfl rfl ?_
    refine nk_dup C zd_R_add_33 rfl ?_
    refine nk_getI C za_R_18 (Nat.le_of_ble_eq_true rfl) rfl rfl zd_R_add_34 ?_
    refine nk_iconst (v := 1) C zd_R_add_37 (by decide) ?_
    refine nk_iadd C zd_R_add_38 ?_
    refine nk_putI C zp_R_18 (Nat.le_of_ble_eq_true rfl) rfl rfl zd_R_add_39 (fun m3 => ?_)
    refine nk_aload_n C zd_R_add_42 rfl rfl ?_
    refine nk_getI C za_R_18 (Nat.le_of_ble_eq_true rfl) rfl rfl zd_R_add_43 ?_
    refine nk_iconst (v := 1) C zd_R_add_46 (by decide) ?_
    refine nk_isub C zd_R_add_47 ?_
    exact nk_iret C hr zd_R_add_48
  · refine nk_bipush (v := -4) C zd_R_add_9 (by decide) ?_
    exact nk_iret C hr zd_R_add_11
theorem zd_N_reading_0 : decode zb_N_reading 0 = .ok (.aload_n 0, 1) := by decide +kernel
theorem zd_N_reading_1 : decode zb_N_reading 1 = .ok (.getfield 12, 3) := by decide +kernel
theorem zd_N_reading_4 : decode zb_N_reading 4 = .ok (.iload_n 1, 1) := by decide +kernel
theorem zd_N_reading_5 : decode zb_N_reading 5 = .ok (.invokevirtual 80, 3) := by decide +kernel
theorem zd_N_reading_8 : decode zb_N_reading 8 = .ok (.ifCond .ne 5, 3) := by decide +kernel
theorem zd_N_reading_11 : decode zb_N_reading 11 = .ok (.iconst (-1), 1) := by decide +kernel
theorem zd_N_reading_12 : decode zb_N_reading 12 = .ok (.ireturn, 1) := by decide +kernel
theorem zd_N_reading_13 : decode zb_N_reading 13 = .ok (.iload_n 2, 1) := by decide +kernel
theorem zd_N_reading_14 : decode zb_N_reading 14 = .ok (.ifCond .lt 10, 3) := by decide +kernel
theorem zd_N_reading_17 : decode zb_N_reading 17 = .ok (.iload_n 2, 1) := by decide +kernel
theorem zd_N_reading_18 : decode zb_N_reading 18 = .ok (.sipush 200, 3) := by decide +kernel
theorem zd_N_reading_21 : decode zb_N_reading 21 = .ok (.if_icmp .le 6, 3) := by decide +kernel
theorem zd_N_reading_24 : decode zb_N_reading 24 = .ok (.bipush (-2), 2) := by decide +kernel
theorem zd_N_reading_26 : decode zb_N_reading 26 = .ok (.ireturn, 1) := by decide +kernel
theorem zd_N_reading_27 : decode zb_N_reading 27 = .ok (.aload_n 0, 1) := by decide +kernel
theorem zd_N_reading_28 : decode zb_N_reading 28 = .ok (.getfield 31, 3) := by decide +kernel
theorem zd_N_reading_31 : decode zb_N_reading 31 = .ok (.iload_n 1, 1) := by decide +kernel
theorem zd_N_reading_32 : decode zb_N_reading 32 = .ok (.iload_n 2, 1) := by decide +kernel
theorem zd_N_reading_33 : decode zb_N_reading 33 = .ok (.invokevirtual 170, 3) := by decide +kernel
theorem zd_N_reading_36 : decode zb_N_reading 36 = .ok (.ireturn, 1) := by decide +kernel
def zf_N_reading_b24   (m0 : nk_M) : Option (Int32 × nk_M) := some ((-2 : Int32), m0)
set_option maxHeartbeats 4000000 in
set_option maxRecDepth 100000 in
theorem zs_N_reading_b24 {G : nk_V} {X : nk_X}   (C : nk_C "NeedOnce" zb_N_reading 3 nk_wC G X) (hR : X.2.2.2.1 = nk_rm 2) (hr : X.2.2.2.2.2.2.2.2.1.sig.returnType = (some .int))  : ∀  (m0 : nk_M), nk_Sim nk_wC G X 3 nk_oi 24 [nk_r G 0, .null, .null] [] m0 (zf_N_reading_b24  m0) := by
  intro m0
  unfold zf_N_reading_b24
  refine nk_bipush (v := -2) C zd_N_reading_24 (by decide) ?_
  exact nk_iret C hr zd_N_reading_26
def zf_N_reading  (a1 : Int32) (a2 : Int32) (m0 : nk_M) : Option (Int32 × nk_M) := nk_bd (zf_C_has 1 6 a1 m0) (fun r1 m1 => (if r1 = 0 then some ((-1 : Int32), m1) else (if a2 < 0 then (zf_N_reading_b24 m1) else (if a2 ≤ (200 : Int32) then nk_bd (zf_R_add a1 a2 m1) (fun r2 m2 => some (r2, m2)) else (zf_N_reading_b24 m1)))))
set_option maxHeartbeats 4000000 in
set_option maxRecDepth 100000 in
theorem zc_N_reading {l : Launch} {G : nk_V}   (a1 : Int32) (a2 : Int32) (m0 : nk_M) : nk_Ct l nk_wC G 2 zy_N_reading zb_N_reading 3 (some .int) nk_oi [nk_r G 0, .int a1, .int a2] m0 (zf_N_reading  a1 a2 m0) := by
  refine nk_ent (own := "NeedOnce") (lv := [nk_r G 0, .int a1, .int a2]) 0 rfl (by decide) (Nat.le_of_ble_eq_true rfl) rfl (fun X hl hR C hr => ?_)
  subst hl
  unfold zf_N_reading
  refine nk_aload_n C zd_N_reading_0 rfl rfl ?_
  refine nk_getR C (r := 1) za_N_12 (Nat.le_of_ble_eq_true rfl) rfl rfl zd_N_reading_1 ?_
  refine nk_iload_n C zd_N_reading_4 rfl rfl ?_
  refine nk_callVi C [.int a1] zv_N_80 hR (zc_C_has 1 6 (Or.inl ⟨rfl, rfl⟩) a1 m0) (by omega) (Nat.le_of_ble_eq_true rfl) rfl rfl rfl rfl (Nat.le_of_ble_eq_true rfl) zd_N_reading_5 (fun r1 m1 => ?_)
  refine nk_if_ne (tgt := 13) C zd_N_reading_8 (by decide) ?_ ?_
  · refine nk_iload_n C zd_N_reading_13 rfl rfl ?_
    refine nk_if_lt (tgt := 24) C zd_N_reading_14 (by decide) ?_ ?_
    · refine nk_wk [true, false, false] ?_
      exact zs_N_reading_b24 C hR hr m1
    · refine nk_iload_n C zd_N_reading_17 rfl rfl ?_
      refine nk_sipush (v := 200) C zd_N_reading_18 (by decide) ?_
      refine nk_icmp_le (tgt := 27) C zd_N_reading_21 (by decide) ?_ ?_
      · refine nk_aload_n C zd_N_reading_27 rfl rfl ?_
        refine nk_getR C (r := 4) za_N_31 (Nat.le_of_ble_eq_true rfl) rfl rfl zd_N_reading_28 ?_
        refine nk_iload_n C zd_N_reading_31 rfl rfl ?_
        refine nk_iload_n C zd_N_reading_32 rfl rfl ?_
        refine nk_callVi C [.int a1, .int a2] zv_N_170 hR (zc_R_add a1 a2 m1) (by omega) (Nat.le_of_ble_eq_true rfl) rfl rfl rfl rfl (Nat.le_of_ble_eq_true rfl) zd_N_reading_33 (fun r2 m2 => ?_)
        exact nk_iret C hr zd_N_reading_36
      · refine nk_wk [true, false, false] ?_
        exact zs_N_reading_b24 C hR hr m1
  · refine nk_iconst (v := -1) C zd_N_reading_11 (by decide) ?_
    exact nk_iret C hr zd_N_reading_12
theorem zd_N_back_0 : decode zb_N_back 0 = .ok (.iload_n 1, 1) := by decide +kernel
theorem zd_N_back_1 : decode zb_N_back 1 = .ok (.ifCond .lt 14, 3) := by decide +kernel
theorem zd_N_back_4 : decode zb_N_back 4 = .ok (.iload_n 1, 1) := by decide +kernel
theorem zd_N_back_5 : decode zb_N_back 5 = .ok (.aload_n 0, 1) := by decide +kernel
theorem zd_N_back_6 : decode zb_N_back 6 = .ok (.getfield 31, 3) := by decide +kernel
theorem zd_N_back_9 : decode zb_N_back 9 = .ok (.getfield 76, 3) := by decide +kernel
theorem zd_N_back_12 : decode zb_N_back 12 = .ok (.if_icmp .le 6, 3) := by decide +kernel
theorem zd_N_back_15 : decode zb_N_back 15 = .ok (.bipush (-2), 2) := by decide +kernel
theorem zd_N_back_17 : decode zb_N_back 17 = .ok (.ireturn, 1) := by decide +kernel
theorem zd_N_back_18 : decode zb_N_back 18 = .ok (.aload_n 0, 1) := by decide +kernel
theorem zd_N_back_19 : decode zb_N_back 19 = .ok (.getfield 31, 3) := by decide +kernel
theorem zd_N_back_22 : decode zb_N_back 22 = .ok (.dup, 1) := by decide +kernel
theorem zd_N_back_23 : decode zb_N_back 23 = .ok (.getfield 76, 3) := by decide +kernel
theorem zd_N_back_26 : decode zb_N_back 26 = .ok (.iload_n 1, 1) := by decide +kernel
theorem zd_N_back_27 : decode zb_N_back 27 = .ok (.isub, 1) := by decide +kernel
theorem zd_N_back_28 : decode zb_N_back 28 = .ok (.putfield 76, 3) := by decide +kernel
theorem zd_N_back_31 : decode zb_N_back 31 = .ok (.aload_n 0, 1) := by decide +kernel
theorem zd_N_back_32 : decode zb_N_back 32 = .ok (.getfield 31, 3) := by decide +kernel
theorem zd_N_back_35 : decode zb_N_back 35 = .ok (.getfield 76, 3) := by decide +kernel
theorem zd_N_back_38 : decode zb_N_back 38 = .ok (.ireturn, 1) := by decide +kernel
def zf_N_back_b15   (m0 : nk_M) : Option (Int32 × nk_M) := some ((-2 : Int32), m0)
set_option maxHeartbeats 4000000 in
set_option maxRecDepth 100000 in
theorem zs_N_back_b15 {G : nk_V} {X : nk_X}   (C : nk_C "NeedOnce" zb_N_back 2 nk_wC G X) (hR : X.2.2.2.1 = nk_rm 1) (hr : X.2.2.2.2.2.2.2.2.1.sig.returnType = (some .int))  : ∀  (m0 : nk_M), nk_Sim nk_wC G X 2 nk_oi 15 [nk_r G 0, .null] [] m0 (zf_N_back_b15  m0) := by
  intro m0
  unfold zf_N_back_b15
  refine nk_bipush (v := -2) C zd_N_back_15 (by decide) ?_
  exact nk_iret C hr zd_N_back_17
def zf_N_back  (a1 : Int32) (m0 : nk_M) : Option (Int32 × nk_M) := (if a1 < 0 then (zf_N_back_b15 m0) else (if a1 ≤ (m0 4 0) then nk_pf m0 4 0 ((m0 4 0) - a1) (fun m1 => some ((m1 4 0), m1)) else (zf_N_back_b15 m0)))
set_option maxHeartbeats 4000000 in
set_option maxRecDepth 100000 in
theorem zc_N_back {l : Launch} {G : nk_V}   (a1 : Int32) (m0 : nk_M) : nk_Ct l nk_wC G 1 zy_N_back zb_N_back 2 (some .int) nk_oi [nk_r G 0, .int a1] m0 (zf_N_back  a1 m0) := by
  refine nk_ent (own := "NeedOnce") (lv := [nk_r G 0, .int a1]) 0 rfl (by decide) (Nat.le_of_ble_eq_true rfl) rfl (fun X hl hR C hr => ?_)
  subst hl
  unfold zf_N_back
  refine nk_iload_n C zd_N_back_0 rfl rfl ?_
  refine nk_if_lt (tgt := 15) C zd_N_back_1 (by decide) ?_ ?_
  · refine nk_wk [true, false] ?_
    exact zs_N_back_b15 C hR hr m0
  · refine nk_iload_n C zd_N_back_4 rfl rfl ?_
    refine nk_aload_n C zd_N_back_5 rfl rfl ?_
    refine nk_getR C (r := 4) za_N_31 (Nat.le_of_ble_eq_true rfl) rfl rfl zd_N_back_6 ?_
    refine nk_getI C za_N_76 (Nat.le_of_ble_eq_true rfl) rfl rfl zd_N_back_9 ?_
    refine nk_icmp_le (tgt := 18) C zd_N_back_12 (by decide) ?_ ?_
    · refine nk_aload_n C zd_N_back_18 rfl rfl ?_
      refine nk_getR C (r := 4) za_N_31 (Nat.le_of_ble_eq_true rfl) rfl rfl zd_N_back_19 ?_
      refine nk_dup C zd_N_back_22 rfl ?_
      refine nk_getI C za_N_76 (Nat.le_of_ble_eq_true rfl) rfl rfl zd_N_back_23 ?_
      refine nk_iload_n C zd_N_back_26 rfl rfl ?_
      refine nk_isub C zd_N_back_27 ?_
      refine nk_putI C zp_N_76 (Nat.le_of_ble_eq_true rfl) rfl rfl zd_N_back_28 (fun m1 => ?_)
      refine nk_aload_n C zd_N_back_31 rfl rfl ?_
      refine nk_getR C (r := 4) za_N_31 (Nat.le_of_ble_eq_true rfl) rfl rfl zd_N_back_32 ?_
      refine nk_getI C za_N_76 (Nat.le_of_ble_eq_true rfl) rfl rfl zd_N_back_35 ?_
      exact nk_iret C hr zd_N_back_38
    · refine nk_wk [true, false] ?_
      exact zs_N_back_b15 C hR hr m0
theorem zd_C_costFromAsleep_0 : decode zb_C_costFromAsleep 0 = .ok (.aload_n 0, 1) := by decide +kernel
theorem zd_C_costFromAsleep_1 : decode zb_C_costFromAsleep 1 = .ok (.invokevirtual 44, 3) := by decide +kernel
theorem zd_C_costFromAsleep_4 : decode zb_C_costFromAsleep 4 = .ok (.aload_n 0, 1) := by decide +kernel
theorem zd_C_costFromAsleep_5 : decode zb_C_costFromAsleep 5 = .ok (.iload_n 1, 1) := by decide +kernel
theorem zd_C_costFromAsleep_6 : decode zb_C_costFromAsleep 6 = .ok (.invokevirtual 146, 3) := by decide +kernel
theorem zd_C_costFromAsleep_9 : decode zb_C_costFromAsleep 9 = .ok (.pop, 1) := by decide +kernel
theorem zd_C_costFromAsleep_10 : decode zb_C_costFromAsleep 10 = .ok (.aload_n 0, 1) := by decide +kernel
theorem zd_C_costFromAsleep_11 : decode zb_C_costFromAsleep 11 = .ok (.getfield 87, 3) := by decide +kernel
theorem zd_C_costFromAsleep_14 : decode zb_C_costFromAsleep 14 = .ok (.ireturn, 1) := by decide +kernel
def zf_C_costFromAsleep (o B : Nat) (a1 : Int32) (m0 : nk_M) : Option (Int32 × nk_M) := nk_bd (zf_C_putToSleep o B m0) (fun _ m1 => nk_bd (zf_C_needAnew o B a1 m1) (fun r2 m2 => some ((m2 o 13), m2)))
set_option maxHeartbeats 4000000 in
set_option maxRecDepth 100000 in
theorem zc_C_costFromAsleep {l : Launch} {G : nk_V} (o B : Nat) (hc : nk_isC o B) (a1 : Int32) (m0 : nk_M) : nk_Ct l nk_wC G 46 zy_C_costFromAsleep zb_C_costFromAsleep 2 (some .int) nk_oi [nk_r G o, .int a1] m0 (zf_C_costFromAsleep o B a1 m0) := by
  refine nk_ent (own := "NeedOnce$Cells") (lv := [nk_r G o, .int a1]) 0 rfl (by decide) (Nat.le_of_ble_eq_true rfl) rfl (fun X hl hR C hr => ?_)
  subst hl
  unfold zf_C_costFromAsleep
  refine nk_aload_n C zd_C_costFromAsleep_0 rfl rfl ?_
  refine nk_callVv C [] zv_C_44 hR (zc_C_putToSleep o B hc m0) (by omega) (nkc_ok hc) (nkc_os hc) rfl rfl rfl (Nat.le_of_ble_eq_true rfl) zd_C_costFromAsleep_1 (fun m1 => ?_)
  refine nk_aload_n C zd_C_costFromAsleep_4 rfl rfl ?_
  refine nk_iload_n C zd_C_costFromAsleep_5 rfl rfl ?_
  refine nk_callVi C [.int a1] zv_C_146 hR (zc_C_needAnew o B hc a1 m1) (by omega) (nkc_ok hc) (nkc_os hc) rfl rfl rfl (Nat.le_of_ble_eq_true rfl) zd_C_costFromAsleep_6 (fun r2 m2 => ?_)
  refine nk_pop C zd_C_costFromAsleep_9 rfl ?_
  refine nk_aload_n C zd_C_costFromAsleep_10 rfl rfl ?_
  refine nk_getI C za_C_87 (nkc_ok hc) (nkc_os hc) rfl zd_C_costFromAsleep_11 ?_
  exact nk_iret C hr zd_C_costFromAsleep_14
theorem zd_R_areSo_0 : decode zb_R_areSo 0 = .ok (.iconst 0, 1) := by decide +kernel
theorem zd_R_areSo_1 : decode zb_R_areSo 1 = .ok (.istore_n 2, 1) := by decide +kernel
theorem zd_R_areSo_2 : decode zb_R_areSo 2 = .ok (.iload_n 2, 1) := by decide +kernel
theorem zd_R_areSo_3 : decode zb_R_areSo 3 = .ok (.aload_n 0, 1) := by decide +kernel
theorem zd_R_areSo_4 : decode zb_R_areSo 4 = .ok (.getfield 18, 3) := by decide +kernel
theorem zd_R_areSo_7 : decode zb_R_areSo 7 = .ok (.if_icmp .ge 30, 3) := by decide +kernel
theorem zd_R_areSo_10 : decode zb_R_areSo 10 = .ok (.aload_n 1, 1) := by decide +kernel
theorem zd_R_areSo_11 : decode zb_R_areSo 11 = .ok (.aload_n 0, 1) := by decide +kernel
theorem zd_R_areSo_12 : decode zb_R_areSo 12 = .ok (.getfield 9, 3) := by decide +kernel
theorem zd_R_areSo_15 : decode zb_R_areSo 15 = .ok (.iload_n 2, 1) := by decide +kernel
theorem zd_R_areSo_16 : decode zb_R_areSo 16 = .ok (.iaload, 1) := by decide +kernel
theorem zd_R_areSo_17 : decode zb_R_areSo 17 = .ok (.invokevirtual 22, 3) := by decide +kernel
theorem zd_R_areSo_20 : decode zb_R_areSo 20 = .ok (.aload_n 0, 1) := by decide +kernel
theorem zd_R_areSo_21 : decode zb_R_areSo 21 = .ok (.getfield 15, 3) := by decide +kernel
theorem zd_R_areSo_24 : decode zb_R_areSo 24 = .ok (.iload_n 2, 1) := by decide +kernel
theorem zd_R_areSo_25 : decode zb_R_areSo 25 = .ok (.iaload, 1) := by decide +kernel
theorem zd_R_areSo_26 : decode zb_R_areSo 26 = .ok (.if_icmp .eq 5, 3) := by decide +kernel
theorem zd_R_areSo_29 : decode zb_R_areSo 29 = .ok (.iconst 0, 1) := by decide +kernel
theorem zd_R_areSo_30 : decode zb_R_areSo 30 = .ok (.ireturn, 1) := by decide +kernel
theorem zd_R_areSo_31 : decode zb_R_areSo 31 = .ok (.iinc 2 1, 3) := by decide +kernel
theorem zd_R_areSo_34 : decode zb_R_areSo 34 = .ok (.goto (-32), 3) := by decide +kernel
theorem zd_R_areSo_37 : decode zb_R_areSo 37 = .ok (.iconst 1, 1) := by decide +kernel
theorem zd_R_areSo_38 : decode zb_R_areSo 38 = .ok (.ireturn, 1) := by decide +kernel
def zf_R_areSo_b2 (p P : Nat) : Nat → Int32 → nk_M → Option (Int32 × nk_M)
  | 0, _, _ => none
  | n0 + 1, y2, m0 => (if (m0 4 0) ≤ y2 then nk_zr (1 : Int32) m0 else nk_ald m0 24 8 y2 (fun x1 => nk_bd (zf_C_costFromAsleep p P x1 m0) (fun r2 m1 => nk_ald m1 25 8 y2 (fun x3 => (if r2 = x3 then (zf_R_areSo_b2 p P n0 (y2 + 1) m1) else nk_zr (0 : Int32) m1)))))
set_option maxHeartbeats 4000000 in
set_option maxRecDepth 100000 in
theorem zs_R_areSo_b2 {G : nk_V} {X : nk_X} (p P : Nat) (hp : nk_isC p P) (C : nk_C "NeedOnce$Readings" zb_R_areSo 3 nk_wC G X) (hR : X.2.2.2.1 = nk_rm 47) (hr : X.2.2.2.2.2.2.2.2.1.sig.returnType = (some .boolean))  : ∀ (n0 : Nat) (y2 : Int32) (m0 : nk_M), nk_Sim nk_wC G X 3 nk_oi 2 [nk_r G 4, nk_r G p, .int y2] [] m0 (zf_R_areSo_b2 p P n0 y2 m0) := by
  intro n0
  induction n0 with
  | zero => intros; exact nk_none
  | succ n0 ih =>
    intro y2 m0
    rw [zf_R_areSo_b2]
    refine nk_iload_n C zd_R_areSo_2 rfl rfl ?_
    refine nk_aload_n C zd_R_areSo_3 rfl rfl ?_
    refine nk_getI C za_R_18 (Nat.le_of_ble_eq_true rfl) rfl rfl zd_R_areSo_4 ?_
    refine nk_icmp_ge (tgt := 37) C zd_R_areSo_7 (by decide) ?_ ?_
    · refine nk_iconst (v := 1) C zd_R_areSo_37 (by decide) ?_
      exact nk_zret C hr zd_R_areSo_38
    · refine nk_aload_n C zd_R_areSo_10 rfl rfl ?_
      refine nk_aload_n C zd_R_areSo_11 rfl rfl ?_
      refine nk_getR C (r := 24) za_R_9 (Nat.le_of_ble_eq_true rfl) rfl rfl zd_R_areSo_12 ?_
      refine nk_iload_n C zd_R_areSo_15 rfl rfl ?_
      refine nk_iald C (Nat.le_of_ble_eq_true rfl) rfl zd_R_areSo_16 (fun x1 => ?_)
      refine nk_callVi C [.int x1] zv_R_22 hR (zc_C_costFromAsleep p P hp x1 m0) (by omega) (nkc_ok hp) (nkc_os hp) rfl rfl rfl (Nat.le_of_ble_eq_true rfl) zd_R_areSo_17 (fun r2 m1 => ?_)
      refine nk_aload_n C zd_R_areSo_20 rfl rfl ?_
      refine nk_getR C (r := 25) za_R_15 (Nat.le_of_ble_eq_true rfl) rfl rfl zd_R_areSo_21 ?_
      refine nk_iload_n C zd_R_areSo_24 rfl rfl ?_
      refine nk_iald C (Nat.le_of_ble_eq_true rfl) rfl zd_R_areSo_25 (fun x3 => ?_)
      refine nk_icmp_eq (tgt := 31) C zd_R_areSo_26 (by decide) ?_ ?_
      · refine nk_iinc (v0 := y2 + 1) C zd_R_areSo_31 rfl (nk_inc _ (by decide)) (Nat.le_of_ble_eq_true rfl) rfl ?_
        refine nk_goto (tgt := 2) C zd_R_areSo_34 (by decide) ?_
        exact ih (y2 + 1) m1
      · refine nk_iconst (v := 0) C zd_R_areSo_29 (by decide) ?_
        exact nk_zret C hr zd_R_areSo_30
def zf_R_areSo (p P : Nat)  (m0 : nk_M) : Option (Int32 × nk_M) := (zf_R_areSo_b2 p P nk_fu (0 : Int32) m0)
set_option maxHeartbeats 4000000 in
set_option maxRecDepth 100000 in
theorem zc_R_areSo {l : Launch} {G : nk_V} (p P : Nat) (hp : nk_isC p P)  (m0 : nk_M) : nk_Ct l nk_wC G 47 zy_R_areSo zb_R_areSo 3 (some .boolean) nk_oi [nk_r G 4, nk_r G p] m0 (zf_R_areSo p P  m0) := by
  refine nk_ent (own := "NeedOnce$Readings") (lv := [nk_r G 4, nk_r G p, .null]) 1 rfl (by decide) (Nat.le_of_ble_eq_true rfl) rfl (fun X hl hR C hr => ?_)
  subst hl
  unfold zf_R_areSo
  refine nk_iconst (v := 0) C zd_R_areSo_0 (by decide) ?_
  refine nk_istore_n C zd_R_areSo_1 rfl (Nat.le_of_ble_eq_true rfl) rfl ?_
  exact zs_R_areSo_b2 p P hp C hR hr nk_fu (0 : Int32) m0
theorem zd_N_kinds_0 : decode zb_N_kinds 0 = .ok (.aload_n 0, 1) := by decide +kernel
theorem zd_N_kinds_1 : decode zb_N_kinds 1 = .ok (.getfield 12, 3) := by decide +kernel
theorem zd_N_kinds_4 : decode zb_N_kinds 4 = .ok (.iload_n 1, 1) := by decide +kernel
theorem zd_N_kinds_5 : decode zb_N_kinds 5 = .ok (.invokevirtual 80, 3) := by decide +kernel
theorem zd_N_kinds_8 : decode zb_N_kinds 8 = .ok (.ifCond .ne 5, 3) := by decide +kernel
theorem zd_N_kinds_11 : decode zb_N_kinds 11 = .ok (.iconst (-1), 1) := by decide +kernel
theorem zd_N_kinds_12 : decode zb_N_kinds 12 = .ok (.ireturn, 1) := by decide +kernel
theorem zd_N_kinds_13 : decode zb_N_kinds 13 = .ok (.aload_n 0, 1) := by decide +kernel
theorem zd_N_kinds_14 : decode zb_N_kinds 14 = .ok (.getfield 18, 3) := by decide +kernel
theorem zd_N_kinds_17 : decode zb_N_kinds 17 = .ok (.aload_n 0, 1) := by decide +kernel
theorem zd_N_kinds_18 : decode zb_N_kinds 18 = .ok (.getfield 12, 3) := by decide +kernel
theorem zd_N_kinds_21 : decode zb_N_kinds 21 = .ok (.invokevirtual 69, 3) := by decide +kernel
theorem zd_N_kinds_24 : decode zb_N_kinds 24 = .ok (.iconst 0, 1) := by decide +kernel
theorem zd_N_kinds_25 : decode zb_N_kinds 25 = .ok (.istore_n 2, 1) := by decide +kernel
theorem zd_N_kinds_26 : decode zb_N_kinds 26 = .ok (.iconst 0, 1) := by decide +kernel
theorem zd_N_kinds_27 : decode zb_N_kinds 27 = .ok (.istore_n 3, 1) := by decide +kernel
theorem zd_N_kinds_28 : decode zb_N_kinds 28 = .ok (.iload_n 3, 1) := by decide +kernel
theorem zd_N_kinds_29 : decode zb_N_kinds 29 = .ok (.iconst 3, 1) := by decide +kernel
theorem zd_N_kinds_30 : decode zb_N_kinds 30 = .ok (.if_icmp .ge 39, 3) := by decide +kernel
theorem zd_N_kinds_33 : decode zb_N_kinds 33 = .ok (.aload_n 0, 1) := by decide +kernel
theorem zd_N_kinds_34 : decode zb_N_kinds 34 = .ok (.getfield 18, 3) := by decide +kernel
theorem zd_N_kinds_37 : decode zb_N_kinds 37 = .ok (.getfield 81, 3) := by decide +kernel
theorem zd_N_kinds_40 : decode zb_N_kinds 40 = .ok (.iload_n 1, 1) := by decide +kernel
theorem zd_N_kinds_41 : decode zb_N_kinds 41 = .ok (.iload_n 3, 1) := by decide +kernel
theorem zd_N_kinds_42 : decode zb_N_kinds 42 = .ok (.iastore, 1) := by decide +kernel
theorem zd_N_kinds_43 : decode zb_N_kinds 43 = .ok (.aload_n 0, 1) := by decide +kernel
theorem zd_N_kinds_44 : decode zb_N_kinds 44 = .ok (.getfield 31, 3) := by decide +kernel
theorem zd_N_kinds_47 : decode zb_N_kinds 47 = .ok (.aload_n 0, 1) := by decide +kernel
theorem zd_N_kinds_48 : decode zb_N_kinds 48 = .ok (.getfield 18, 3) := by decide +kernel
theorem zd_N_kinds_51 : decode zb_N_kinds 51 = .ok (.invokevirtual 173, 3) := by decide +kernel
theorem zd_N_kinds_54 : decode zb_N_kinds 54 = .ok (.ifCond .eq 9, 3) := by decide +kernel
theorem zd_N_kinds_57 : decode zb_N_kinds 57 = .ok (.iload_n 2, 1) := by decide +kernel
theorem zd_N_kinds_58 : decode zb_N_kinds 58 = .ok (.iconst 1, 1) := by decide +kernel
theorem zd_N_kinds_59 : decode zb_N_kinds 59 = .ok (.iload_n 3, 1) := by decide +kernel
theorem zd_N_kinds_60 : decode zb_N_kinds 60 = .ok (.ishl, 1) := by decide +kernel
theorem zd_N_kinds_61 : decode zb_N_kinds 61 = .ok (.ior, 1) := by decide +kernel
theorem zd_N_kinds_62 : decode zb_N_kinds 62 = .ok (.istore_n 2, 1) := by decide +kernel
theorem zd_N_kinds_63 : decode zb_N_kinds 63 = .ok (.iinc 3 1, 3) := by decide +kernel
theorem zd_N_kinds_66 : decode zb_N_kinds 66 = .ok (.goto (-38), 3) := by decide +kernel
theorem zd_N_kinds_69 : decode zb_N_kinds 69 = .ok (.iload_n 2, 1) := by decide +kernel
theorem zd_N_kinds_70 : decode zb_N_kinds 70 = .ok (.ireturn, 1) := by decide +kernel
def zf_N_kinds_b63 (rc28 : Int32 → Int32 → Int32 → nk_M → Option (Int32 × nk_M)) (y1 : Int32) (y2 : Int32) (y3 : Int32) (m0 : nk_M) : Option (Int32 × nk_M) := (rc28 y1 y2 (y3 + 1) m0)
set_option maxHeartbeats 4000000 in
set_option maxRecDepth 100000 in
theorem zs_N_kinds_b63 {G : nk_V} {X : nk_X}   (C : nk_C "NeedOnce" zb_N_kinds 4 nk_wC G X) (hR : X.2.2.2.1 = nk_rm 48) (hr : X.2.2.2.2.2.2.2.2.1.sig.returnType = (some .int)) (rc28 : Int32 → Int32 → Int32 → nk_M → Option (Int32 × nk_M)) (hr28 : ∀ (y1 : Int32) (y2 : Int32) (y3 : Int32) (m0 : nk_M), nk_Sim nk_wC G X 4 nk_oi 28 [nk_r G 0, .int y1, .int y2, .int y3] [] m0 (rc28 y1 y2 y3 m0)) : ∀ (y1 : Int32) (y2 : Int32) (y3 : Int32) (m0 : nk_M), nk_Sim nk_wC G X 4 nk_oi 63 [nk_r G 0, .int y1, .int y2, .int y3] [] m0 (zf_N_kinds_b63 rc28 y1 y2 y3 m0) := by
  intro y1 y2 y3 m0
  unfold zf_N_kinds_b63
  refine nk_iinc (v0 := y3 + 1) C zd_N_kinds_63 rfl (nk_inc _ (by decide)) (Nat.le_of_ble_eq_true rfl) rfl ?_
  refine nk_goto (tgt := 28) C zd_N_kinds_66 (by decide) ?_
  exact hr28 y1 y2 (y3 + 1) m0
def zf_N_kinds_b28  : Nat → Int32 → Int32 → Int32 → nk_M → Option (Int32 × nk_M)
  | 0, _, _, _, _ => none
  | n0 + 1, y1, y2, y3, m0 => (if (3 : Int32) ≤ y3 then some (y2, m0) else nk_ast m0 15 8 y1 y3 (fun m1 => nk_bd (zf_R_areSo 2 15 m1) (fun r1 m2 => (if r1 = 0 then (zf_N_kinds_b63 (zf_N_kinds_b28 n0) y1 y2 y3 m2) else nk_nm (y2 ||| ((1 : Int32) <<< (y3 &&& 31))) (fun x2 => (zf_N_kinds_b63 (zf_N_kinds_b28 n0) y1 x2 y3 m2))))))
set_option maxHeartbeats 4000000 in
set_option maxRecDepth 100000 in
theorem zs_N_kinds_b28 {G : nk_V} {X : nk_X}   (C : nk_C "NeedOnce" zb_N_kinds 4 nk_wC G X) (hR : X.2.2.2.1 = nk_rm 48) (hr : X.2.2.2.2.2.2.2.2.1.sig.returnType = (some .int))  : ∀ (n0 : Nat) (y1 : Int32) (y2 : Int32) (y3 : Int32) (m0 : nk_M), nk_Sim nk_wC G X 4 nk_oi 28 [nk_r G 0, .int y1, .int y2, .int y3] [] m0 (zf_N_kinds_b28 n0 y1 y2 y3 m0) := by
  intro n0
  induction n0 with
  | zero => intros; exact nk_none
  | succ n0 ih =>
    intro y1 y2 y3 m0
    rw [zf_N_kinds_b28]
    refine nk_iload_n C zd_N_kinds_28 rfl rfl ?_
    refine nk_iconst (v := 3) C zd_N_kinds_29 (by decide) ?_
    refine nk_icmp_ge (tgt := 69) C zd_N_kinds_30 (by decide) ?_ ?_
    · refine nk_iload_n C zd_N_kinds_69 rfl rfl ?_
      exact nk_iret C hr zd_N_kinds_70
    · refine nk_aload_n C zd_N_kinds_33 rfl rfl ?_
      refine nk_getR C (r := 2) za_N_18 (Nat.le_of_ble_eq_true rfl) rfl rfl zd_N_kinds_34 ?_
      refine nk_getR C (r := 15) za_N_81 (Nat.le_of_ble_eq_true rfl) rfl rfl zd_N_kinds_37 ?_
      refine nk_iload_n C zd_N_kinds_40 rfl rfl ?_
      refine nk_iload_n C zd_N_kinds_41 rfl rfl ?_
      refine nk_iast C (Nat.le_of_ble_eq_true rfl) rfl zd_N_kinds_42 (fun m1 => ?_)
      refine nk_aload_n C zd_N_kinds_43 rfl rfl ?_
      refine nk_getR C (r := 4) za_N_31 (Nat.le_of_ble_eq_true rfl) rfl rfl zd_N_kinds_44 ?_
      refine nk_aload_n C zd_N_kinds_47 rfl rfl ?_
      refine nk_getR C (r := 2) za_N_18 (Nat.le_of_ble_eq_true rfl) rfl rfl zd_N_kinds_48 ?_
      refine nk_callVi C [nk_r G 2] zv_N_173 hR (zc_R_areSo 2 15 (Or.inr ⟨rfl, rfl⟩) m1) (by omega) (Nat.le_of_ble_eq_true rfl) rfl rfl rfl rfl (Nat.le_of_ble_eq_true rfl) zd_N_kinds_51 (fun r1 m2 => ?_)
      refine nk_if_eq (tgt := 63) C zd_N_kinds_54 (by decide) ?_ ?_
      · exact zs_N_kinds_b63 C hR hr (zf_N_kinds_b28 n0) ih y1 y2 y3 m2
      · refine nk_iload_n C zd_N_kinds_57 rfl rfl ?_
        refine nk_iconst (v := 1) C zd_N_kinds_58 (by decide) ?_
        refine nk_iload_n C zd_N_kinds_59 rfl rfl ?_
        refine nk_ishl C zd_N_kinds_60 ?_
        refine nk_ior C zd_N_kinds_61 ?_
        refine nk_named (fun x2 => ?_)
        refine nk_istore_n C zd_N_kinds_62 rfl (Nat.le_of_ble_eq_true rfl) rfl ?_
        exact zs_N_kinds_b63 C hR hr (zf_N_kinds_b28 n0) ih y1 x2 y3 m2
def zf_N_kinds  (a1 : Int32) (m0 : nk_M) : Option (Int32 × nk_M) := nk_bd (zf_C_has 1 6 a1 m0) (fun r1 m1 => (if r1 = 0 then some ((-1 : Int32), m1) else nk_bd (zf_C_becomeLike 2 15 1 6 m1) (fun _ m2 => (zf_N_kinds_b28 nk_fu a1 (0 : Int32) (0 : Int32) m2))))
set_option maxHeartbeats 4000000 in
set_option maxRecDepth 100000 in
theorem zc_N_kinds {l : Launch} {G : nk_V}   (a1 : Int32) (m0 : nk_M) : nk_Ct l nk_wC G 48 zy_N_kinds zb_N_kinds 4 (some .int) nk_oi [nk_r G 0, .int a1] m0 (zf_N_kinds  a1 m0) := by
  refine nk_ent (own := "NeedOnce") (lv := [nk_r G 0, .int a1, .null, .null]) 2 rfl (by decide) (Nat.le_of_ble_eq_true rfl) rfl (fun X hl hR C hr => ?_)
  subst hl
  unfold zf_N_kinds
  refine nk_aload_n C zd_N_kinds_0 rfl rfl ?_
  refine nk_getR C (r := 1) za_N_12 (Nat.le_of_ble_eq_true rfl) rfl rfl zd_N_kinds_1 ?_
  refine nk_iload_n C zd_N_kinds_4 rfl rfl ?_
  refine nk_callVi C [.int a1] zv_N_80 hR (zc_C_has 1 6 (Or.inl ⟨rfl, rfl⟩) a1 m0) (by omega) (Nat.le_of_ble_eq_true rfl) rfl rfl rfl rfl (Nat.le_of_ble_eq_true rfl) zd_N_kinds_5 (fun r1 m1 => ?_)
  refine nk_if_ne (tgt := 13) C zd_N_kinds_8 (by decide) ?_ ?_
  · refine nk_aload_n C zd_N_kinds_13 rfl rfl ?_
    refine nk_getR C (r := 2) za_N_18 (Nat.le_of_ble_eq_true rfl) rfl rfl zd_N_kinds_14 ?_
    refine nk_aload_n C zd_N_kinds_17 rfl rfl ?_
    refine nk_getR C (r := 1) za_N_12 (Nat.le_of_ble_eq_true rfl) rfl rfl zd_N_kinds_18 ?_
    refine nk_callVv C [nk_r G 1] zv_N_69 hR (zc_C_becomeLike 2 15 1 6 (Or.inr ⟨rfl, rfl⟩) (Or.inl ⟨rfl, rfl⟩) m1) (by omega) (Nat.le_of_ble_eq_true rfl) rfl rfl rfl rfl (Nat.le_of_ble_eq_true rfl) zd_N_kinds_21 (fun m2 => ?_)
    refine nk_iconst (v := 0) C zd_N_kinds_24 (by decide) ?_
    refine nk_istore_n C zd_N_kinds_25 rfl (Nat.le_of_ble_eq_true rfl) rfl ?_
    refine nk_iconst (v := 0) C zd_N_kinds_26 (by decide) ?_
    refine nk_istore_n C zd_N_kinds_27 rfl (Nat.le_of_ble_eq_true rfl) rfl ?_
    exact zs_N_kinds_b28 C hR hr nk_fu a1 (0 : Int32) (0 : Int32) m2
  · refine nk_iconst (v := -1) C zd_N_kinds_11 (by decide) ?_
    exact nk_iret C hr zd_N_kinds_12
theorem zd_N_prices_0 : decode zb_N_prices 0 = .ok (.aload_n 0, 1) := by decide +kernel
theorem zd_N_prices_1 : decode zb_N_prices 1 = .ok (.getfield 12, 3) := by decide +kernel
theorem zd_N_prices_4 : decode zb_N_prices 4 = .ok (.iload_n 1, 1) := by decide +kernel
theorem zd_N_prices_5 : decode zb_N_prices 5 = .ok (.invokevirtual 80, 3) := by decide +kernel
theorem zd_N_prices_8 : decode zb_N_prices 8 = .ok (.ifCond .ne 5, 3) := by decide +kernel
theorem zd_N_prices_11 : decode zb_N_prices 11 = .ok (.iconst (-1), 1) := by decide +kernel
theorem zd_N_prices_12 : decode zb_N_prices 12 = .ok (.ireturn, 1) := by decide +kernel
theorem zd_N_prices_13 : decode zb_N_prices 13 = .ok (.aload_n 0, 1) := by decide +kernel
theorem zd_N_prices_14 : decode zb_N_prices 14 = .ok (.getfield 18, 3) := by decide +kernel
theorem zd_N_prices_17 : decode zb_N_prices 17 = .ok (.aload_n 0, 1) := by decide +kernel
theorem zd_N_prices_18 : decode zb_N_prices 18 = .ok (.getfield 12, 3) := by decide +kernel
theorem zd_N_prices_21 : decode zb_N_prices 21 = .ok (.invokevirtual 69, 3) := by decide +kernel
theorem zd_N_prices_24 : decode zb_N_prices 24 = .ok (.iconst 0, 1) := by decide +kernel
theorem zd_N_prices_25 : decode zb_N_prices 25 = .ok (.istore_n 2, 1) := by decide +kernel
theorem zd_N_prices_26 : decode zb_N_prices 26 = .ok (.iconst 1, 1) := by decide +kernel
theorem zd_N_prices_27 : decode zb_N_prices 27 = .ok (.istore_n 3, 1) := by decide +kernel
theorem zd_N_prices_28 : decode zb_N_prices 28 = .ok (.iload_n 3, 1) := by decide +kernel
theorem zd_N_prices_29 : decode zb_N_prices 29 = .ok (.bipush 9, 2) := by decide +kernel
theorem zd_N_prices_31 : decode zb_N_prices 31 = .ok (.if_icmp .gt 39, 3) := by decide +kernel
theorem zd_N_prices_34 : decode zb_N_prices 34 = .ok (.aload_n 0, 1) := by decide +kernel
theorem zd_N_prices_35 : decode zb_N_prices 35 = .ok (.getfield 18, 3) := by decide +kernel
theorem zd_N_prices_38 : decode zb_N_prices 38 = .ok (.getfield 85, 3) := by decide +kernel
theorem zd_N_prices_41 : decode zb_N_prices 41 = .ok (.iload_n 1, 1) := by decide +kernel
theorem zd_N_prices_42 : decode zb_N_prices 42 = .ok (.iload_n 3, 1) := by decide +kernel
theorem zd_N_prices_43 : decode zb_N_prices 43 = .ok (.iastore, 1) := by decide +kernel
theorem zd_N_prices_44 : decode zb_N_prices 44 = .ok (.aload_n 0, 1) := by decide +kernel
theorem zd_N_prices_45 : decode zb_N_prices 45 = .ok (.getfield 31, 3) := by decide +kernel
theorem zd_N_prices_48 : decode zb_N_prices 48 = .ok (.aload_n 0, 1) := by decide +kernel
theorem zd_N_prices_49 : decode zb_N_prices 49 = .ok (.getfield 18, 3) := by decide +kernel
theorem zd_N_prices_52 : decode zb_N_prices 52 = .ok (.invokevirtual 173, 3) := by decide +kernel
theorem zd_N_prices_55 : decode zb_N_prices 55 = .ok (.ifCond .eq 9, 3) := by decide +kernel
theorem zd_N_prices_58 : decode zb_N_prices 58 = .ok (.iload_n 2, 1) := by decide +kernel
theorem zd_N_prices_59 : decode zb_N_prices 59 = .ok (.iconst 1, 1) := by decide +kernel
theorem zd_N_prices_60 : decode zb_N_prices 60 = .ok (.iload_n 3, 1) := by decide +kernel
theorem zd_N_prices_61 : decode zb_N_prices 61 = .ok (.ishl, 1) := by decide +kernel
theorem zd_N_prices_62 : decode zb_N_prices 62 = .ok (.ior, 1) := by decide +kernel
theorem zd_N_prices_63 : decode zb_N_prices 63 = .ok (.istore_n 2, 1) := by decide +kernel
theorem zd_N_prices_64 : decode zb_N_prices 64 = .ok (.iinc 3 1, 3) := by decide +kernel
theorem zd_N_prices_67 : decode zb_N_prices 67 = .ok (.goto (-39), 3) := by decide +kernel
theorem zd_N_prices_70 : decode zb_N_prices 70 = .ok (.iload_n 2, 1) := by decide +kernel
theorem zd_N_prices_71 : decode zb_N_prices 71 = .ok (.ireturn, 1) := by decide +kernel
def zf_N_prices_b64 (rc28 : Int32 → Int32 → Int32 → nk_M → Option (Int32 × nk_M)) (y1 : Int32) (y2 : Int32) (y3 : Int32) (m0 : nk_M) : Option (Int32 × nk_M) := (rc28 y1 y2 (y3 + 1) m0)
set_option maxHeartbeats 4000000 in
set_option maxRecDepth 100000 in
theorem zs_N_prices_b64 {G : nk_V} {X : nk_X}   (C : nk_C "NeedOnce" zb_N_prices 4 nk_wC G X) (hR : X.2.2.2.1 = nk_rm 48) (hr : X.2.2.2.2.2.2.2.2.1.sig.returnType = (some .int)) (rc28 : Int32 → Int32 → Int32 → nk_M → Option (Int32 × nk_M)) (hr28 : ∀ (y1 : Int32) (y2 : Int32) (y3 : Int32) (m0 : nk_M), nk_Sim nk_wC G X 4 nk_oi 28 [nk_r G 0, .int y1, .int y2, .int y3] [] m0 (rc28 y1 y2 y3 m0)) : ∀ (y1 : Int32) (y2 : Int32) (y3 : Int32) (m0 : nk_M), nk_Sim nk_wC G X 4 nk_oi 64 [nk_r G 0, .int y1, .int y2, .int y3] [] m0 (zf_N_prices_b64 rc28 y1 y2 y3 m0) := by
  intro y1 y2 y3 m0
  unfold zf_N_prices_b64
  refine nk_iinc (v0 := y3 + 1) C zd_N_prices_64 rfl (nk_inc _ (by decide)) (Nat.le_of_ble_eq_true rfl) rfl ?_
  refine nk_goto (tgt := 28) C zd_N_prices_67 (by decide) ?_
  exact hr28 y1 y2 (y3 + 1) m0
def zf_N_prices_b28  : Nat → Int32 → Int32 → Int32 → nk_M → Option (Int32 × nk_M)
  | 0, _, _, _, _ => none
  | n0 + 1, y1, y2, y3, m0 => (if (9 : Int32) < y3 then some (y2, m0) else nk_ast m0 16 8 y1 y3 (fun m1 => nk_bd (zf_R_areSo 2 15 m1) (fun r1 m2 => (if r1 = 0 then (zf_N_prices_b64 (zf_N_prices_b28 n0) y1 y2 y3 m2) else nk_nm (y2 ||| ((1 : Int32) <<< (y3 &&& 31))) (fun x2 => (zf_N_prices_b64 (zf_N_prices_b28 n0) y1 x2 y3 m2))))))
set_option maxHeartbeats 4000000 in
set_option maxRecDepth 100000 in
theorem zs_N_prices_b28 {G : nk_V} {X : nk_X}   (C : nk_C "NeedOnce" zb_N_prices 4 nk_wC G X) (hR : X.2.2.2.1 = nk_rm 48) (hr : X.2.2.2.2.2.2.2.2.1.sig.returnType = (some .int))  : ∀ (n0 : Nat) (y1 : Int32) (y2 : Int32) (y3 : Int32) (m0 : nk_M), nk_Sim nk_wC G X 4 nk_oi 28 [nk_r G 0, .int y1, .int y2, .int y3] [] m0 (zf_N_prices_b28 n0 y1 y2 y3 m0) := by
  intro n0
  induction n0 with
  | zero => intros; exact nk_none
  | succ n0 ih =>
    intro y1 y2 y3 m0
    rw [zf_N_prices_b28]
    refine nk_iload_n C zd_N_prices_28 rfl rfl ?_
    refine nk_bipush (v := 9) C zd_N_prices_29 (by decide) ?_
    refine nk_icmp_gt (tgt := 70) C zd_N_prices_31 (by decide) ?_ ?_
    · refine nk_iload_n C zd_N_prices_70 rfl rfl ?_
      exact nk_iret C hr zd_N_prices_71
    · refine nk_aload_n C zd_N_prices_34 rfl rfl ?_
      refine nk_getR C (r := 2) za_N_18 (Nat.le_of_ble_eq_true rfl) rfl rfl zd_N_prices_35 ?_
      refine nk_getR C (r := 16) za_N_85 (Nat.le_of_ble_eq_true rfl) rfl rfl zd_N_prices_38 ?_
      refine nk_iload_n C zd_N_prices_41 rfl rfl ?_
      refine nk_iload_n C zd_N_prices_42 rfl rfl ?_
      refine nk_iast C (Nat.le_of_ble_eq_true rfl) rfl zd_N_prices_43 (fun m1 => ?_)
      refine nk_aload_n C zd_N_prices_44 rfl rfl ?_
      refine nk_getR C (r := 4) za_N_31 (Nat.le_of_ble_eq_true rfl) rfl rfl zd_N_prices_45 ?_
      refine nk_aload_n C zd_N_prices_48 rfl rfl ?_
      refine nk_getR C (r := 2) za_N_18 (Nat.le_of_ble_eq_true rfl) rfl rfl zd_N_prices_49 ?_
      refine nk_callVi C [nk_r G 2] zv_N_173 hR (zc_R_areSo 2 15 (Or.inr ⟨rfl, rfl⟩) m1) (by omega) (Nat.le_of_ble_eq_true rfl) rfl rfl rfl rfl (Nat.le_of_ble_eq_true rfl) zd_N_prices_52 (fun r1 m2 => ?_)
      refine nk_if_eq (tgt := 64) C zd_N_prices_55 (by decide) ?_ ?_
      · exact zs_N_prices_b64 C hR hr (zf_N_prices_b28 n0) ih y1 y2 y3 m2
      · refine nk_iload_n C zd_N_prices_58 rfl rfl ?_
        refine nk_iconst (v := 1) C zd_N_prices_59 (by decide) ?_
        refine nk_iload_n C zd_N_prices_60 rfl rfl ?_
        refine nk_ishl C zd_N_prices_61 ?_
        refine nk_ior C zd_N_prices_62 ?_
        refine nk_named (fun x2 => ?_)
        refine nk_istore_n C zd_N_prices_63 rfl (Nat.le_of_ble_eq_true rfl) rfl ?_
        exact zs_N_prices_b64 C hR hr (zf_N_prices_b28 n0) ih y1 x2 y3 m2
def zf_N_prices  (a1 : Int32) (m0 : nk_M) : Option (Int32 × nk_M) := nk_bd (zf_C_has 1 6 a1 m0) (fun r1 m1 => (if r1 = 0 then some ((-1 : Int32), m1) else nk_bd (zf_C_becomeLike 2 15 1 6 m1) (fun _ m2 => (zf_N_prices_b28 nk_fu a1 (0 : Int32) (1 : Int32) m2))))
set_option maxHeartbeats 4000000 in
set_option maxRecDepth 100000 in
theorem zc_N_prices {l : Launch} {G : nk_V}   (a1 : Int32) (m0 : nk_M) : nk_Ct l nk_wC G 48 zy_N_prices zb_N_prices 4 (some .int) nk_oi [nk_r G 0, .int a1] m0 (zf_N_prices  a1 m0) := by
  refine nk_ent (own := "NeedOnce") (lv := [nk_r G 0, .int a1, .null, .null]) 2 rfl (by decide) (Nat.le_of_ble_eq_true rfl) rfl (fun X hl hR C hr => ?_)
  subst hl
  unfold zf_N_prices
  refine nk_aload_n C zd_N_prices_0 rfl rfl ?_
  refine nk_getR C (r := 1) za_N_12 (Nat.le_of_ble_eq_true rfl) rfl rfl zd_N_prices_1 ?_
  refine nk_iload_n C zd_N_prices_4 rfl rfl ?_
  refine nk_callVi C [.int a1] zv_N_80 hR (zc_C_has 1 6 (Or.inl ⟨rfl, rfl⟩) a1 m0) (by omega) (Nat.le_of_ble_eq_true rfl) rfl rfl rfl rfl (Nat.le_of_ble_eq_true rfl) zd_N_prices_5 (fun r1 m1 => ?_)
  refine nk_if_ne (tgt := 13) C zd_N_prices_8 (by decide) ?_ ?_
  · refine nk_aload_n C zd_N_prices_13 rfl rfl ?_
    refine nk_getR C (r := 2) za_N_18 (Nat.le_of_ble_eq_true rfl) rfl rfl zd_N_prices_14 ?_
    refine nk_aload_n C zd_N_prices_17 rfl rfl ?_
    refine nk_getR C (r := 1) za_N_12 (Nat.le_of_ble_eq_true rfl) rfl rfl zd_N_prices_18 ?_
    refine nk_callVv C [nk_r G 1] zv_N_69 hR (zc_C_becomeLike 2 15 1 6 (Or.inr ⟨rfl, rfl⟩) (Or.inl ⟨rfl, rfl⟩) m1) (by omega) (Nat.le_of_ble_eq_true rfl) rfl rfl rfl rfl (Nat.le_of_ble_eq_true rfl) zd_N_prices_21 (fun m2 => ?_)
    refine nk_iconst (v := 0) C zd_N_prices_24 (by decide) ?_
    refine nk_istore_n C zd_N_prices_25 rfl (Nat.le_of_ble_eq_true rfl) rfl ?_
    refine nk_iconst (v := 1) C zd_N_prices_26 (by decide) ?_
    refine nk_istore_n C zd_N_prices_27 rfl (Nat.le_of_ble_eq_true rfl) rfl ?_
    exact zs_N_prices_b28 C hR hr nk_fu a1 (0 : Int32) (1 : Int32) m2
  · refine nk_iconst (v := -1) C zd_N_prices_11 (by decide) ?_
    exact nk_iret C hr zd_N_prices_12
theorem zd_N_timesItComesTo_0 : decode zb_N_timesItComesTo 0 = .ok (.aload_n 0, 1) := by decide +kernel
theorem zd_N_timesItComesTo_1 : decode zb_N_timesItComesTo 1 = .ok (.getfield 18, 3) := by decide +kernel
theorem zd_N_timesItComesTo_4 : decode zb_N_timesItComesTo 4 = .ok (.aload_n 0, 1) := by decide +kernel
theorem zd_N_timesItComesTo_5 : decode zb_N_timesItComesTo 5 = .ok (.getfield 12, 3) := by decide +kernel
theorem zd_N_timesItComesTo_8 : decode zb_N_timesItComesTo 8 = .ok (.invokevirtual 69, 3) := by decide +kernel
theorem zd_N_timesItComesTo_11 : decode zb_N_timesItComesTo 11 = .ok (.iconst 0, 1) := by decide +kernel
theorem zd_N_timesItComesTo_12 : decode zb_N_timesItComesTo 12 = .ok (.istore 4, 2) := by decide +kernel
theorem zd_N_timesItComesTo_14 : decode zb_N_timesItComesTo 14 = .ok (.iconst 0, 1) := by decide +kernel
theorem zd_N_timesItComesTo_15 : decode zb_N_timesItComesTo 15 = .ok (.istore 5, 2) := by decide +kernel
theorem zd_N_timesItComesTo_17 : decode zb_N_timesItComesTo 17 = .ok (.iload 5, 2) := by decide +kernel
theorem zd_N_timesItComesTo_19 : decode zb_N_timesItComesTo 19 = .ok (.bipush 9, 2) := by decide +kernel
theorem zd_N_timesItComesTo_21 : decode zb_N_timesItComesTo 21 = .ok (.if_icmp .gt 42, 3) := by decide +kernel
theorem zd_N_timesItComesTo_24 : decode zb_N_timesItComesTo 24 = .ok (.aload_n 0, 1) := by decide +kernel
theorem zd_N_timesItComesTo_25 : decode zb_N_timesItComesTo 25 = .ok (.getfield 18, 3) := by decide +kernel
theorem zd_N_timesItComesTo_28 : decode zb_N_timesItComesTo 28 = .ok (.invokevirtual 131, 3) := by decide +kernel
theorem zd_N_timesItComesTo_31 : decode zb_N_timesItComesTo 31 = .ok (.aload_n 0, 1) := by decide +kernel
theorem zd_N_timesItComesTo_32 : decode zb_N_timesItComesTo 32 = .ok (.getfield 18, 3) := by decide +kernel
theorem zd_N_timesItComesTo_35 : decode zb_N_timesItComesTo 35 = .ok (.iload_n 2, 1) := by decide +kernel
theorem zd_N_timesItComesTo_36 : decode zb_N_timesItComesTo 36 = .ok (.iconst 0, 1) := by decide +kernel
theorem zd_N_timesItComesTo_37 : decode zb_N_timesItComesTo 37 = .ok (.iload 5, 2) := by decide +kernel
theorem zd_N_timesItComesTo_39 : decode zb_N_timesItComesTo 39 = .ok (.invokevirtual 188, 3) := by decide +kernel
theorem zd_N_timesItComesTo_42 : decode zb_N_timesItComesTo 42 = .ok (.aload_n 0, 1) := by decide +kernel
theorem zd_N_timesItComesTo_43 : decode zb_N_timesItComesTo 43 = .ok (.getfield 18, 3) := by decide +kernel
theorem zd_N_timesItComesTo_46 : decode zb_N_timesItComesTo 46 = .ok (.iload_n 1, 1) := by decide +kernel
theorem zd_N_timesItComesTo_47 : decode zb_N_timesItComesTo 47 = .ok (.invokevirtual 107, 3) := by decide +kernel
theorem zd_N_timesItComesTo_50 : decode zb_N_timesItComesTo 50 = .ok (.iload_n 3, 1) := by decide +kernel
theorem zd_N_timesItComesTo_51 : decode zb_N_timesItComesTo 51 = .ok (.if_icmp .ne 6, 3) := by decide +kernel
theorem zd_N_timesItComesTo_54 : decode zb_N_timesItComesTo 54 = .ok (.iinc 4 1, 3) := by decide +kernel
theorem zd_N_timesItComesTo_57 : decode zb_N_timesItComesTo 57 = .ok (.iinc 5 1, 3) := by decide +kernel
theorem zd_N_timesItComesTo_60 : decode zb_N_timesItComesTo 60 = .ok (.goto (-43), 3) := by decide +kernel
theorem zd_N_timesItComesTo_63 : decode zb_N_timesItComesTo 63 = .ok (.iload 4, 2) := by decide +kernel
theorem zd_N_timesItComesTo_65 : decode zb_N_timesItComesTo 65 = .ok (.ireturn, 1) := by decide +kernel
def zf_N_timesItComesTo_b57 (rc17 : Int32 → Int32 → Int32 → Int32 → Int32 → nk_M → Option (Int32 × nk_M)) (y1 : Int32) (y2 : Int32) (y3 : Int32) (y4 : Int32) (y5 : Int32) (m0 : nk_M) : Option (Int32 × nk_M) := (rc17 y1 y2 y3 y4 (y5 + 1) m0)
set_option maxHeartbeats 4000000 in
set_option maxRecDepth 100000 in
theorem zs_N_timesItComesTo_b57 {G : nk_V} {X : nk_X}   (C : nk_C "NeedOnce" zb_N_timesItComesTo 6 nk_wC G X) (hR : X.2.2.2.1 = nk_rm 46) (hr : X.2.2.2.2.2.2.2.2.1.sig.returnType = (some .int)) (rc17 : Int32 → Int32 → Int32 → Int32 → Int32 → nk_M → Option (Int32 × nk_M)) (hr17 : ∀ (y1 : Int32) (y2 : Int32) (y3 : Int32) (y4 : Int32) (y5 : Int32) (m0 : nk_M), nk_Sim nk_wC G X 6 nk_oi 17 [nk_r G 0, .int y1, .int y2, .int y3, .int y4, .int y5] [] m0 (rc17 y1 y2 y3 y4 y5 m0)) : ∀ (y1 : Int32) (y2 : Int32) (y3 : Int32) (y4 : Int32) (y5 : Int32) (m0 : nk_M), nk_Sim nk_wC G X 6 nk_oi 57 [nk_r G 0, .int y1, .int y2, .int y3, .int y4, .int y5] [] m0 (zf_N_timesItComesTo_b57 rc17 y1 y2 y3 y4 y5 m0) := by
  intro y1 y2 y3 y4 y5 m0
  unfold zf_N_timesItComesTo_b57
  refine nk_iinc (v0 := y5 + 1) C zd_N_timesItComesTo_57 rfl (nk_inc _ (by decide)) (Nat.le_of_ble_eq_true rfl) rfl ?_
  refine nk_goto (tgt := 17) C zd_N_timesItComesTo_60 (by decide) ?_
  exact hr17 y1 y2 y3 y4 (y5 + 1) m0
def zf_N_timesItComesTo_b17  : Nat → Int32 → Int32 → Int32 → Int32 → Int32 → nk_M → Option (Int32 × nk_M)
  | 0, _, _, _, _, _, _ => none
  | n0 + 1, y1, y2, y3, y4, y5, m0 => (if (9 : Int32) < y5 then some (y4, m0) else nk_bd (zf_C_putToSleep 2 15 m0) (fun _ m1 => nk_bd (zf_C_tellPart 2 15 y2 (0 : Int32) y5 m1) (fun _ m2 => nk_bd (zf_C_needAnew 2 15 y1 m2) (fun r3 m3 => (if r3 = y3 then (zf_N_timesItComesTo_b57 (zf_N_timesItComesTo_b17 n0) y1 y2 y3 (y4 + 1) y5 m3) else (zf_N_timesItComesTo_b57 (zf_N_timesItComesTo_b17 n0) y1 y2 y3 y4 y5 m3))))))
set_option maxHeartbeats 4000000 in
set_option maxRecDepth 100000 in
theorem zs_N_timesItComesTo_b17 {G : nk_V} {X : nk_X}   (C : nk_C "NeedOnce" zb_N_timesItComesTo 6 nk_wC G X) (hR : X.2.2.2.1 = nk_rm 46) (hr : X.2.2.2.2.2.2.2.2.1.sig.returnType = (some .int))  : ∀ (n0 : Nat) (y1 : Int32) (y2 : Int32) (y3 : Int32) (y4 : Int32) (y5 : Int32) (m0 : nk_M), nk_Sim nk_wC G X 6 nk_oi 17 [nk_r G 0, .int y1, .int y2, .int y3, .int y4, .int y5] [] m0 (zf_N_timesItComesTo_b17 n0 y1 y2 y3 y4 y5 m0) := by
  intro n0
  induction n0 with
  | zero => intros; exact nk_none
  | succ n0 ih =>
    intro y1 y2 y3 y4 y5 m0
    rw [zf_N_timesItComesTo_b17]
    refine nk_iload C zd_N_timesItComesTo_17 rfl ?_
    refine nk_bipush (v := 9) C zd_N_timesItComesTo_19 (by decide) ?_
    refine nk_icmp_gt (tgt := 63) C zd_N_timesItComesTo_21 (by decide) ?_ ?_
    · refine nk_iload C zd_N_timesItComesTo_63 rfl ?_
      exact nk_iret C hr zd_N_timesItComesTo_65
    · refine nk_aload_n C zd_N_timesItComesTo_24 rfl rfl ?_
      refine nk_getR C (r := 2) za_N_18 (Nat.le_of_ble_eq_true rfl) rfl rfl zd_N_timesItComesTo_25 ?_
      refine nk_callVv C [] zv_N_131 hR (zc_C_putToSleep 2 15 (Or.inr ⟨rfl, rfl⟩) m0) (by omega) (Nat.le_of_ble_eq_true rfl) rfl rfl rfl rfl (Nat.le_of_ble_eq_true rfl) zd_N_timesItComesTo_28 (fun m1 => ?_)
      refine nk_aload_n C zd_N_timesItComesTo_31 rfl rfl ?_
      refine nk_getR C (r := 2) za_N_18 (Nat.le_of_ble_eq_true rfl) rfl rfl zd_N_timesItComesTo_32 ?_
      refine nk_iload_n C zd_N_timesItComesTo_35 rfl rfl ?_
      refine nk_iconst (v := 0) C zd_N_timesItComesTo_36 (by decide) ?_
      refine nk_iload C zd_N_timesItComesTo_37 rfl ?_
      refine nk_callVv C [.int y2, .int (0 : Int32), .int y5] zv_N_188 hR (zc_C_tellPart 2 15 (Or.inr ⟨rfl, rfl⟩) y2 (0 : Int32) y5 m1) (by omega) (Nat.le_of_ble_eq_true rfl) rfl rfl rfl rfl (Nat.le_of_ble_eq_true rfl) zd_N_timesItComesTo_39 (fun m2 => ?_)
      refine nk_aload_n C zd_N_timesItComesTo_42 rfl rfl ?_
      refine nk_getR C (r := 2) za_N_18 (Nat.le_of_ble_eq_true rfl) rfl rfl zd_N_timesItComesTo_43 ?_
      refine nk_iload_n C zd_N_timesItComesTo_46 rfl rfl ?_
      refine nk_callVi C [.int y1] zv_N_107 hR (zc_C_needAnew 2 15 (Or.inr ⟨rfl, rfl⟩) y1 m2) (by omega) (Nat.le_of_ble_eq_true rfl) rfl rfl rfl rfl (Nat.le_of_ble_eq_true rfl) zd_N_timesItComesTo_47 (fun r3 m3 => ?_)
      refine nk_iload_n C zd_N_timesItComesTo_50 rfl rfl ?_
      refine nk_icmp_ne (tgt := 57) C zd_N_timesItComesTo_51 (by decide) ?_ ?_
      · exact zs_N_timesItComesTo_b57 C hR hr (zf_N_timesItComesTo_b17 n0) ih y1 y2 y3 y4 y5 m3
      · refine nk_iinc (v0 := y4 + 1) C zd_N_timesItComesTo_54 rfl (nk_inc _ (by decide)) (Nat.le_of_ble_eq_true rfl) rfl ?_
        exact zs_N_timesItComesTo_b57 C hR hr (zf_N_timesItComesTo_b17 n0) ih y1 y2 y3 (y4 + 1) y5 m3
def zf_N_timesItComesTo  (a1 : Int32) (a2 : Int32) (a3 : Int32) (m0 : nk_M) : Option (Int32 × nk_M) := nk_bd (zf_C_becomeLike 2 15 1 6 m0) (fun _ m1 => (zf_N_timesItComesTo_b17 nk_fu a1 a2 a3 (0 : Int32) (0 : Int32) m1))
set_option maxHeartbeats 4000000 in
set_option maxRecDepth 100000 in
theorem zc_N_timesItComesTo {l : Launch} {G : nk_V}   (a1 : Int32) (a2 : Int32) (a3 : Int32) (m0 : nk_M) : nk_Ct l nk_wC G 46 zy_N_timesItComesTo zb_N_timesItComesTo 6 (some .int) nk_oi [nk_r G 0, .int a1, .int a2, .int a3] m0 (zf_N_timesItComesTo  a1 a2 a3 m0) := by
  refine nk_ent (own := "NeedOnce") (lv := [nk_r G 0, .int a1, .int a2, .int a3, .null, .null]) 2 rfl (by decide) (Nat.le_of_ble_eq_true rfl) rfl (fun X hl hR C hr => ?_)
  subst hl
  unfold zf_N_timesItComesTo
  refine nk_aload_n C zd_N_timesItComesTo_0 rfl rfl ?_
  refine nk_getR C (r := 2) za_N_18 (Nat.le_of_ble_eq_true rfl) rfl rfl zd_N_timesItComesTo_1 ?_
  refine nk_aload_n C zd_N_timesItComesTo_4 rfl rfl ?_
  refine nk_getR C (r := 1) za_N_12 (Nat.le_of_ble_eq_true rfl) rfl rfl zd_N_timesItComesTo_5 ?_
  refine nk_callVv C [nk_r G 1] zv_N_69 hR (zc_C_becomeLike 2 15 1 6 (Or.inr ⟨rfl, rfl⟩) (Or.inl ⟨rfl, rfl⟩) m0) (by omega) (Nat.le_of_ble_eq_true rfl) rfl rfl rfl rfl (Nat.le_of_ble_eq_true rfl) zd_N_timesItComesTo_8 (fun m1 => ?_)
  refine nk_iconst (v := 0) C zd_N_timesItComesTo_11 (by decide) ?_
  refine nk_istore C zd_N_timesItComesTo_12 (Nat.le_of_ble_eq_true rfl) rfl ?_
  refine nk_iconst (v := 0) C zd_N_timesItComesTo_14 (by decide) ?_
  refine nk_istore C zd_N_timesItComesTo_15 (Nat.le_of_ble_eq_true rfl) rfl ?_
  exact zs_N_timesItComesTo_b17 C hR hr nk_fu a1 a2 a3 (0 : Int32) (0 : Int32) m1

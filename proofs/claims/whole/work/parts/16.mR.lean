/-! ===== 16: decode rows, meanings (zf_) and contracts (zc_) of methods (written by program) ===== -/
theorem zd_M_bringsBack_0 : decode zb_M_bringsBack 0 = .ok (.iconst 0, 1) := by decide +kernel
theorem zd_M_bringsBack_1 : decode zb_M_bringsBack 1 = .ok (.istore_n 1, 1) := by decide +kernel
theorem zd_M_bringsBack_2 : decode zb_M_bringsBack 2 = .ok (.iload_n 1, 1) := by decide +kernel
theorem zd_M_bringsBack_3 : decode zb_M_bringsBack 3 = .ok (.bipush 8, 2) := by decide +kernel
theorem zd_M_bringsBack_5 : decode zb_M_bringsBack 5 = .ok (.if_icmp .ge 69, 3) := by decide +kernel
theorem zd_M_bringsBack_8 : decode zb_M_bringsBack 8 = .ok (.aload_n 0, 1) := by decide +kernel
theorem zd_M_bringsBack_9 : decode zb_M_bringsBack 9 = .ok (.getfield 34, 3) := by decide +kernel
theorem zd_M_bringsBack_12 : decode zb_M_bringsBack 12 = .ok (.iload_n 1, 1) := by decide +kernel
theorem zd_M_bringsBack_13 : decode zb_M_bringsBack 13 = .ok (.aload_n 0, 1) := by decide +kernel
theorem zd_M_bringsBack_14 : decode zb_M_bringsBack 14 = .ok (.getfield 61, 3) := by decide +kernel
theorem zd_M_bringsBack_17 : decode zb_M_bringsBack 17 = .ok (.iload_n 1, 1) := by decide +kernel
theorem zd_M_bringsBack_18 : decode zb_M_bringsBack 18 = .ok (.iaload, 1) := by decide +kernel
theorem zd_M_bringsBack_19 : decode zb_M_bringsBack 19 = .ok (.iastore, 1) := by decide +kernel
theorem zd_M_bringsBack_20 : decode zb_M_bringsBack 20 = .ok (.aload_n 0, 1) := by decide +kernel
theorem zd_M_bringsBack_21 : decode zb_M_bringsBack 21 = .ok (.getfield 37, 3) := by decide +kernel
theorem zd_M_bringsBack_24 : decode zb_M_bringsBack 24 = .ok (.iload_n 1, 1) := by decide +kernel
theorem zd_M_bringsBack_25 : decode zb_M_bringsBack 25 = .ok (.aload_n 0, 1) := by decide +kernel
theorem zd_M_bringsBack_26 : decode zb_M_bringsBack 26 = .ok (.getfield 64, 3) := by decide +kernel
theorem zd_M_bringsBack_29 : decode zb_M_bringsBack 29 = .ok (.iload_n 1, 1) := by decide +kernel
theorem zd_M_bringsBack_30 : decode zb_M_bringsBack 30 = .ok (.iaload, 1) := by decide +kernel
theorem zd_M_bringsBack_31 : decode zb_M_bringsBack 31 = .ok (.iastore, 1) := by decide +kernel
theorem zd_M_bringsBack_32 : decode zb_M_bringsBack 32 = .ok (.aload_n 0, 1) := by decide +kernel
theorem zd_M_bringsBack_33 : decode zb_M_bringsBack 33 = .ok (.getfield 40, 3) := by decide +kernel
theorem zd_M_bringsBack_36 : decode zb_M_bringsBack 36 = .ok (.iload_n 1, 1) := by decide +kernel
theorem zd_M_bringsBack_37 : decode zb_M_bringsBack 37 = .ok (.aload_n 0, 1) := by decide +kernel
theorem zd_M_bringsBack_38 : decode zb_M_bringsBack 38 = .ok (.getfield 67, 3) := by decide +kernel
theorem zd_M_bringsBack_41 : decode zb_M_bringsBack 41 = .ok (.iload_n 1, 1) := by decide +kernel
theorem zd_M_bringsBack_42 : decode zb_M_bringsBack 42 = .ok (.iaload, 1) := by decide +kernel
theorem zd_M_bringsBack_43 : decode zb_M_bringsBack 43 = .ok (.iastore, 1) := by decide +kernel
theorem zd_M_bringsBack_44 : decode zb_M_bringsBack 44 = .ok (.aload_n 0, 1) := by decide +kernel
theorem zd_M_bringsBack_45 : decode zb_M_bringsBack 45 = .ok (.getfield 43, 3) := by decide +kernel
theorem zd_M_bringsBack_48 : decode zb_M_bringsBack 48 = .ok (.iload_n 1, 1) := by decide +kernel
theorem zd_M_bringsBack_49 : decode zb_M_bringsBack 49 = .ok (.aload_n 0, 1) := by decide +kernel
theorem zd_M_bringsBack_50 : decode zb_M_bringsBack 50 = .ok (.getfield 70, 3) := by decide +kernel
theorem zd_M_bringsBack_53 : decode zb_M_bringsBack 53 = .ok (.iload_n 1, 1) := by decide +kernel
theorem zd_M_bringsBack_54 : decode zb_M_bringsBack 54 = .ok (.iaload, 1) := by decide +kernel
theorem zd_M_bringsBack_55 : decode zb_M_bringsBack 55 = .ok (.iastore, 1) := by decide +kernel
theorem zd_M_bringsBack_56 : decode zb_M_bringsBack 56 = .ok (.aload_n 0, 1) := by decide +kernel
theorem zd_M_bringsBack_57 : decode zb_M_bringsBack 57 = .ok (.getfield 13, 3) := by decide +kernel
theorem zd_M_bringsBack_60 : decode zb_M_bringsBack 60 = .ok (.iload_n 1, 1) := by decide +kernel
theorem zd_M_bringsBack_61 : decode zb_M_bringsBack 61 = .ok (.aload_n 0, 1) := by decide +kernel
theorem zd_M_bringsBack_62 : decode zb_M_bringsBack 62 = .ok (.getfield 73, 3) := by decide +kernel
theorem zd_M_bringsBack_65 : decode zb_M_bringsBack 65 = .ok (.iload_n 1, 1) := by decide +kernel
theorem zd_M_bringsBack_66 : decode zb_M_bringsBack 66 = .ok (.iaload, 1) := by decide +kernel
theorem zd_M_bringsBack_67 : decode zb_M_bringsBack 67 = .ok (.iastore, 1) := by decide +kernel
theorem zd_M_bringsBack_68 : decode zb_M_bringsBack 68 = .ok (.iinc 1 1, 3) := by decide +kernel
theorem zd_M_bringsBack_71 : decode zb_M_bringsBack 71 = .ok (.goto (-69), 3) := by decide +kernel
theorem zd_M_bringsBack_74 : decode zb_M_bringsBack 74 = .ok (.return_, 1) := by decide +kernel
def zf_M_bringsBack_b2  : Nat → Int32 → nk_M → Option (Unit × nk_M)
  | 0, _, _ => none
  | n0 + 1, y1, m0 => (if (8 : Int32) ≤ y1 then some ((), m0) else nk_ald m0 18 8 y1 (fun x1 => nk_ast m0 9 8 y1 x1 (fun m1 => nk_ald m1 19 8 y1 (fun x2 => nk_ast m1 10 8 y1 x2 (fun m2 => nk_ald m2 20 8 y1 (fun x3 => nk_ast m2 11 8 y1 x3 (fun m3 => nk_ald m3 21 8 y1 (fun x4 => nk_ast m3 12 8 y1 x4 (fun m4 => nk_ald m4 22 8 y1 (fun x5 => nk_ast m4 2 8 y1 x5 (fun m5 => (zf_M_bringsBack_b2 n0 (y1 + 1) m5))))))))))))
set_option maxHeartbeats 4000000 in
set_option maxRecDepth 100000 in
theorem zs_M_bringsBack_b2 {G : nk_V} {X : nk_X}   (C : nk_C "NeedOnceModel" zb_M_bringsBack 2 nk_wR G X) (hR : X.2.2.2.1 = nk_rm 1) (hr : X.2.2.2.2.2.2.2.2.1.sig.returnType = none)  : ∀ (n0 : Nat) (y1 : Int32) (m0 : nk_M), nk_Sim nk_wR G X 2 nk_ov 2 [nk_r G 0, .int y1] [] m0 (zf_M_bringsBack_b2 n0 y1 m0) := by
  intro n0
  induction n0 with
  | zero => intros; exact nk_none
  | succ n0 ih =>
    intro y1 m0
    rw [zf_M_bringsBack_b2]
    refine nk_iload_n C zd_M_bringsBack_2 rfl rfl ?_
    refine nk_bipush (v := 8) C zd_M_bringsBack_3 (by decide) ?_
    refine nk_icmp_ge (tgt := 74) C zd_M_bringsBack_5 (by decide) ?_ ?_
    · exact nk_vret C hr zd_M_bringsBack_74
    · refine nk_aload_n C zd_M_bringsBack_8 rfl rfl ?_
      refine nk_getR C (r := 9) za_M_34 (Nat.le_of_ble_eq_true rfl) rfl rfl zd_M_bringsBack_9 ?_
      refine nk_iload_n C zd_M_bringsBack_12 rfl rfl ?_
      refine nk_aload_n C zd_M_bringsBack_13 rfl rfl ?_
      refine nk_getR C (r := 18) za_M_61 (Nat.le_of_ble_eq_true rfl) rfl rfl zd_M_bringsBack_14 ?_
      refine nk_iload_n C zd_M_bringsBack_17 rfl rfl ?_
      refine nk_iald C (Nat.le_of_ble_eq_true rfl) rfl zd_M_bringsBack_18 (fun x1 => ?_)
      refine nk_iast C (Nat.le_of_ble_eq_true rfl) rfl zd_M_bringsBack_19 (fun m1 => ?_)
      refine nk_aload_n C zd_M_bringsBack_20 rfl rfl ?_
      refine nk_getR C (r := 10) za_M_37 (Nat.le_of_ble_eq_true rfl) rfl rfl zd_M_bringsBack_21 ?_
      refine nk_iload_n C zd_M_bringsBack_24 rfl rfl ?_
      refine nk_aload_n C zd_M_bringsBack_25 rfl rfl ?_
      refine nk_getR C (r := 19) za_M_64 (Nat.le_of_ble_eq_true rfl) rfl rfl zd_M_bringsBack_26 ?_
      refine nk_iload_n C zd_M_bringsBack_29 rfl rfl ?_
      refine nk_iald C (Nat.le_of_ble_eq_true rfl) rfl zd_M_bringsBack_30 (fun x2 => ?_)
      refine nk_iast C (Nat.le_of_ble_eq_true rfl) rfl zd_M_bringsBack_31 (fun m2 => ?_)
      refine nk_aload_n C zd_M_bringsBack_32 rfl rfl ?_
      refine nk_getR C (r := 11) za_M_40 (Nat.le_of_ble_eq_true rfl) rfl rfl zd_M_bringsBack_33 ?_
      refine nk_iload_n C zd_M_bringsBack_36 rfl rfl ?_
      refine nk_aload_n C zd_M_bringsBack_37 rfl rfl ?_
      refine nk_getR C (r := 20) za_M_67 (Nat.le_of_ble_eq_true rfl) rfl rfl zd_M_bringsBack_38 ?_
      refine nk_iload_n C zd_M_bringsBack_41 rfl rfl ?_
      refine nk_iald C (Nat.le_of_ble_eq_true rfl) rfl zd_M_bringsBack_42 (fun x3 => ?_)
      refine nk_iast C (Nat.le_of_ble_eq_true rfl) rfl zd_M_bringsBack_43 (fun m3 => ?_)
      refine nk_aload_n C zd_M_bringsBack_44 rfl rfl ?_
      refine nk_getR C (r := 12) za_M_43 (Nat.le_of_ble_eq_true rfl) rfl rfl zd_M_bringsBack_45 ?_
      refine nk_iload_n C zd_M_bringsBack_48 rfl rfl ?_
      refine nk_aload_n C zd_M_bringsBack_49 rfl rfl ?_
      refine nk_getR C (r := 21) za_M_70 (Nat.le_of_ble_eq_true rfl) rfl rfl zd_M_bringsBack_50 ?_
      refine nk_iload_n C zd_M_bringsBack_53 rfl rfl ?_
      refine nk_iald C (Nat.le_of_ble_eq_true rfl) rfl zd_M_bringsBack_54 (fun x4 => ?_)
      refine nk_iast C (Nat.le_of_ble_eq_true rfl) rfl zd_M_bringsBack_55 (fun m4 => ?_)
      refine nk_aload_n C zd_M_bringsBack_56 rfl rfl ?_
      refine nk_getR C (r := 2) za_M_13 (Nat.le_of_ble_eq_true rfl) rfl rfl zd_M_bringsBack_57 ?_
      refine nk_iload_n C zd_M_bringsBack_60 rfl rfl ?_
      refine nk_aload_n C zd_M_bringsBack_61 rfl rfl ?_
      refine nk_getR C (r := 22) za_M_73 (Nat.le_of_ble_eq_true rfl) rfl rfl zd_M_bringsBack_62 ?_
      refine nk_iload_n C zd_M_bringsBack_65 rfl rfl ?_
      refine nk_iald C (Nat.le_of_ble_eq_true rfl) rfl zd_M_bringsBack_66 (fun x5 => ?_)
      refine nk_iast C (Nat.le_of_ble_eq_true rfl) rfl zd_M_bringsBack_67 (fun m5 => ?_)
      refine nk_iinc (v0 := y1 + 1) C zd_M_bringsBack_68 rfl (nk_inc _ (by decide)) (Nat.le_of_ble_eq_true rfl) rfl ?_
      refine nk_goto (tgt := 2) C zd_M_bringsBack_71 (by decide) ?_
      exact ih (y1 + 1) m5
def zf_M_bringsBack   (m0 : nk_M) : Option (Unit × nk_M) := (zf_M_bringsBack_b2 nk_fu (0 : Int32) m0)
set_option maxHeartbeats 4000000 in
set_option maxRecDepth 100000 in
theorem zc_M_bringsBack {l : Launch} {G : nk_V}    (m0 : nk_M) : nk_Ct l nk_wR G 1 zy_M_bringsBack zb_M_bringsBack 2 none nk_ov [nk_r G 0] m0 (zf_M_bringsBack   m0) := by
  refine nk_ent (own := "NeedOnceModel") (lv := [nk_r G 0, .null]) 1 rfl (by decide) (Nat.le_of_ble_eq_true rfl) rfl (fun X hl hR C hr => ?_)
  subst hl
  unfold zf_M_bringsBack
  refine nk_iconst (v := 0) C zd_M_bringsBack_0 (by decide) ?_
  refine nk_istore_n C zd_M_bringsBack_1 rfl (Nat.le_of_ble_eq_true rfl) rfl ?_
  exact zs_M_bringsBack_b2 C hR hr nk_fu (0 : Int32) m0
theorem zd_M_day_0 : decode zb_M_day 0 = .ok (.iload_n 1, 1) := by decide +kernel
theorem zd_M_day_1 : decode zb_M_day 1 = .ok (.invokestatic 146, 3) := by decide +kernel
theorem zd_M_day_4 : decode zb_M_day 4 = .ok (.ifCond .eq 9, 3) := by decide +kernel
theorem zd_M_day_7 : decode zb_M_day 7 = .ok (.aload_n 0, 1) := by decide +kernel
theorem zd_M_day_8 : decode zb_M_day 8 = .ok (.iconst (-1), 1) := by decide +kernel
theorem zd_M_day_9 : decode zb_M_day 9 = .ok (.invokevirtual 150, 3) := by decide +kernel
theorem zd_M_day_12 : decode zb_M_day 12 = .ok (.ireturn, 1) := by decide +kernel
theorem zd_M_day_13 : decode zb_M_day 13 = .ok (.iload_n 2, 1) := by decide +kernel
theorem zd_M_day_14 : decode zb_M_day 14 = .ok (.i2l, 1) := by decide +kernel
theorem zd_M_day_15 : decode zb_M_day 15 = .ok (.lconst 0, 1) := by decide +kernel
theorem zd_M_day_16 : decode zb_M_day 16 = .ok (.ldc2_w 153, 3) := by decide +kernel
theorem zd_M_day_19 : decode zb_M_day 19 = .ok (.invokestatic 107, 3) := by decide +kernel
theorem zd_M_day_22 : decode zb_M_day 22 = .ok (.ifCond .eq 44, 3) := by decide +kernel
theorem zd_M_day_25 : decode zb_M_day 25 = .ok (.iload 4, 2) := by decide +kernel
theorem zd_M_day_27 : decode zb_M_day 27 = .ok (.i2l, 1) := by decide +kernel
theorem zd_M_day_28 : decode zb_M_day 28 = .ok (.lconst 0, 1) := by decide +kernel
theorem zd_M_day_29 : decode zb_M_day 29 = .ok (.ldc2_w 269, 3) := by decide +kernel
theorem zd_M_day_32 : decode zb_M_day 32 = .ok (.invokestatic 107, 3) := by decide +kernel
theorem zd_M_day_35 : decode zb_M_day 35 = .ok (.ifCond .eq 31, 3) := by decide +kernel
theorem zd_M_day_38 : decode zb_M_day 38 = .ok (.iload 5, 2) := by decide +kernel
theorem zd_M_day_40 : decode zb_M_day 40 = .ok (.i2l, 1) := by decide +kernel
theorem zd_M_day_41 : decode zb_M_day 41 = .ok (.lconst 0, 1) := by decide +kernel
theorem zd_M_day_42 : decode zb_M_day 42 = .ok (.ldc2_w 294, 3) := by decide +kernel
theorem zd_M_day_45 : decode zb_M_day 45 = .ok (.invokestatic 107, 3) := by decide +kernel
theorem zd_M_day_48 : decode zb_M_day 48 = .ok (.ifCond .ne 25, 3) := by decide +kernel
theorem zd_M_day_51 : decode zb_M_day 51 = .ok (.iload 5, 2) := by decide +kernel
theorem zd_M_day_53 : decode zb_M_day 53 = .ok (.i2l, 1) := by decide +kernel
theorem zd_M_day_54 : decode zb_M_day 54 = .ok (.ldc2_w 243, 3) := by decide +kernel
theorem zd_M_day_57 : decode zb_M_day 57 = .ok (.ldc2_w 253, 3) := by decide +kernel
theorem zd_M_day_60 : decode zb_M_day 60 = .ok (.invokestatic 107, 3) := by decide +kernel
theorem zd_M_day_63 : decode zb_M_day 63 = .ok (.ifCond .ne 10, 3) := by decide +kernel
theorem zd_M_day_66 : decode zb_M_day 66 = .ok (.aload_n 0, 1) := by decide +kernel
theorem zd_M_day_67 : decode zb_M_day 67 = .ok (.bipush (-2), 2) := by decide +kernel
theorem zd_M_day_69 : decode zb_M_day 69 = .ok (.invokevirtual 150, 3) := by decide +kernel
theorem zd_M_day_72 : decode zb_M_day 72 = .ok (.ireturn, 1) := by decide +kernel
theorem zd_M_day_73 : decode zb_M_day 73 = .ok (.aload_n 0, 1) := by decide +kernel
theorem zd_M_day_74 : decode zb_M_day 74 = .ok (.getfield 104, 3) := by decide +kernel
theorem zd_M_day_77 : decode zb_M_day 77 = .ok (.ifCond .ne 10, 3) := by decide +kernel
theorem zd_M_day_80 : decode zb_M_day 80 = .ok (.aload_n 0, 1) := by decide +kernel
theorem zd_M_day_81 : decode zb_M_day 81 = .ok (.bipush (-3), 2) := by decide +kernel
theorem zd_M_day_83 : decode zb_M_day 83 = .ok (.invokevirtual 150, 3) := by decide +kernel
theorem zd_M_day_86 : decode zb_M_day 86 = .ok (.ireturn, 1) := by decide +kernel
theorem zd_M_day_87 : decode zb_M_day 87 = .ok (.aload_n 0, 1) := by decide +kernel
theorem zd_M_day_88 : decode zb_M_day 88 = .ok (.iload_n 1, 1) := by decide +kernel
theorem zd_M_day_89 : decode zb_M_day 89 = .ok (.iload_n 2, 1) := by decide +kernel
theorem zd_M_day_90 : decode zb_M_day 90 = .ok (.iload_n 3, 1) := by decide +kernel
theorem zd_M_day_91 : decode zb_M_day 91 = .ok (.ldc2_w 153, 3) := by decide +kernel
theorem zd_M_day_94 : decode zb_M_day 94 = .ok (.iload 4, 2) := by decide +kernel
theorem zd_M_day_96 : decode zb_M_day 96 = .ok (.i2l, 1) := by decide +kernel
theorem zd_M_day_97 : decode zb_M_day 97 = .ok (.lmul, 1) := by decide +kernel
theorem zd_M_day_98 : decode zb_M_day 98 = .ok (.invokevirtual 155, 3) := by decide +kernel
theorem zd_M_day_101 : decode zb_M_day 101 = .ok (.istore 6, 2) := by decide +kernel
theorem zd_M_day_103 : decode zb_M_day 103 = .ok (.iload 6, 2) := by decide +kernel
theorem zd_M_day_105 : decode zb_M_day 105 = .ok (.ifCond .ge 6, 3) := by decide +kernel
theorem zd_M_day_108 : decode zb_M_day 108 = .ok (.iload 6, 2) := by decide +kernel
theorem zd_M_day_110 : decode zb_M_day 110 = .ok (.ireturn, 1) := by decide +kernel
theorem zd_M_day_111 : decode zb_M_day 111 = .ok (.bipush 60, 2) := by decide +kernel
theorem zd_M_day_113 : decode zb_M_day 113 = .ok (.iload_n 1, 1) := by decide +kernel
theorem zd_M_day_114 : decode zb_M_day 114 = .ok (.imul, 1) := by decide +kernel
theorem zd_M_day_115 : decode zb_M_day 115 = .ok (.iload_n 3, 1) := by decide +kernel
theorem zd_M_day_116 : decode zb_M_day 116 = .ok (.iadd, 1) := by decide +kernel
theorem zd_M_day_117 : decode zb_M_day 117 = .ok (.istore 7, 2) := by decide +kernel
theorem zd_M_day_119 : decode zb_M_day 119 = .ok (.iconst 0, 1) := by decide +kernel
theorem zd_M_day_120 : decode zb_M_day 120 = .ok (.istore 8, 2) := by decide +kernel
theorem zd_M_day_122 : decode zb_M_day 122 = .ok (.iload 8, 2) := by decide +kernel
theorem zd_M_day_124 : decode zb_M_day 124 = .ok (.iload 4, 2) := by decide +kernel
theorem zd_M_day_126 : decode zb_M_day 126 = .ok (.if_icmp .ge 48, 3) := by decide +kernel
theorem zd_M_day_129 : decode zb_M_day 129 = .ok (.aload_n 0, 1) := by decide +kernel
theorem zd_M_day_130 : decode zb_M_day 130 = .ok (.getfield 88, 3) := by decide +kernel
theorem zd_M_day_133 : decode zb_M_day 133 = .ok (.iload 7, 2) := by decide +kernel
theorem zd_M_day_135 : decode zb_M_day 135 = .ok (.iconst 2, 1) := by decide +kernel
theorem zd_M_day_136 : decode zb_M_day 136 = .ok (.iload 8, 2) := by decide +kernel
theorem zd_M_day_138 : decode zb_M_day 138 = .ok (.imul, 1) := by decide +kernel
theorem zd_M_day_139 : decode zb_M_day 139 = .ok (.iadd, 1) := by decide +kernel
theorem zd_M_day_140 : decode zb_M_day 140 = .ok (.iaload, 1) := by decide +kernel
theorem zd_M_day_141 : decode zb_M_day 141 = .ok (.aload_n 0, 1) := by decide +kernel
theorem zd_M_day_142 : decode zb_M_day 142 = .ok (.getfield 88, 3) := by decide +kernel
theorem zd_M_day_145 : decode zb_M_day 145 = .ok (.iload 7, 2) := by decide +kernel
theorem zd_M_day_147 : decode zb_M_day 147 = .ok (.iconst 2, 1) := by decide +kernel
theorem zd_M_day_148 : decode zb_M_day 148 = .ok (.iload 8, 2) := by decide +kernel
theorem zd_M_day_150 : decode zb_M_day 150 = .ok (.imul, 1) := by decide +kernel
theorem zd_M_day_151 : decode zb_M_day 151 = .ok (.iadd, 1) := by decide +kernel
theorem zd_M_day_152 : decode zb_M_day 152 = .ok (.iconst 1, 1) := by decide +kernel
theorem zd_M_day_153 : decode zb_M_day 153 = .ok (.iadd, 1) := by decide +kernel
theorem zd_M_day_154 : decode zb_M_day 154 = .ok (.iaload, 1) := by decide +kernel
theorem zd_M_day_155 : decode zb_M_day 155 = .ok (.invokestatic 296, 3) := by decide +kernel
theorem zd_M_day_158 : decode zb_M_day 158 = .ok (.ifCond .ne 10, 3) := by decide +kernel
theorem zd_M_day_161 : decode zb_M_day 161 = .ok (.aload_n 0, 1) := by decide +kernel
theorem zd_M_day_162 : decode zb_M_day 162 = .ok (.bipush (-2), 2) := by decide +kernel
theorem zd_M_day_164 : decode zb_M_day 164 = .ok (.invokevirtual 150, 3) := by decide +kernel
theorem zd_M_day_167 : decode zb_M_day 167 = .ok (.ireturn, 1) := by decide +kernel
theorem zd_M_day_168 : decode zb_M_day 168 = .ok (.iinc 8 1, 3) := by decide +kernel
theorem zd_M_day_171 : decode zb_M_day 171 = .ok (.goto (-49), 3) := by decide +kernel
theorem zd_M_day_174 : decode zb_M_day 174 = .ok (.aload_n 0, 1) := by decide +kernel
theorem zd_M_day_175 : decode zb_M_day 175 = .ok (.invokevirtual 299, 3) := by decide +kernel
theorem zd_M_day_178 : decode zb_M_day 178 = .ok (.aload_n 0, 1) := by decide +kernel
theorem zd_M_day_179 : decode zb_M_day 179 = .ok (.iload 7, 2) := by decide +kernel
theorem zd_M_day_181 : decode zb_M_day 181 = .ok (.iload 4, 2) := by decide +kernel
theorem zd_M_day_183 : decode zb_M_day 183 = .ok (.iload 5, 2) := by decide +kernel
theorem zd_M_day_185 : decode zb_M_day 185 = .ok (.invokevirtual 302, 3) := by decide +kernel
theorem zd_M_day_188 : decode zb_M_day 188 = .ok (.istore 8, 2) := by decide +kernel
theorem zd_M_day_190 : decode zb_M_day 190 = .ok (.aload_n 0, 1) := by decide +kernel
theorem zd_M_day_191 : decode zb_M_day 191 = .ok (.invokevirtual 306, 3) := by decide +kernel
theorem zd_M_day_194 : decode zb_M_day 194 = .ok (.aload_n 0, 1) := by decide +kernel
theorem zd_M_day_195 : decode zb_M_day 195 = .ok (.iload 8, 2) := by decide +kernel
theorem zd_M_day_197 : decode zb_M_day 197 = .ok (.invokevirtual 150, 3) := by decide +kernel
theorem zd_M_day_200 : decode zb_M_day 200 = .ok (.ireturn, 1) := by decide +kernel
def zf_M_day_b66   (m0 : nk_M) : Option (Int32 × nk_M) := nk_bd (zf_M_refused (-2 : Int32) m0) (fun r1 m1 => some (r1, m1))
set_option maxHeartbeats 4000000 in
set_option maxRecDepth 100000 in
theorem zs_M_day_b66 {G : nk_V} {X : nk_X}   (C : nk_C "NeedOnceModel" zb_M_day 9 nk_wR G X) (hR : X.2.2.2.1 = nk_rm 9) (hr : X.2.2.2.2.2.2.2.2.1.sig.returnType = (some .int))  : ∀  (m0 : nk_M), nk_Sim nk_wR G X 9 nk_oi 66 [nk_r G 0, .null, .null, .null, .null, .null, .null, .null, .null] [] m0 (zf_M_day_b66  m0) := by
  intro m0
  unfold zf_M_day_b66
  refine nk_aload_n C zd_M_day_66 rfl rfl ?_
  refine nk_bipush (v := -2) C zd_M_day_67 (by decide) ?_
  refine nk_callVi C [.int (-2 : Int32)] zv_M_150 hR (zc_M_refused (-2 : Int32) m0) (by omega) (Nat.le_of_ble_eq_true rfl) rfl rfl rfl rfl (Nat.le_of_ble_eq_true rfl) zd_M_day_69 (fun r1 m1 => ?_)
  exact nk_iret C hr zd_M_day_72
def zf_M_day_b122  : Nat → Int32 → Int32 → Int32 → Int32 → nk_M → Option (Int32 × nk_M)
  | 0, _, _, _, _, _ => none
  | n0 + 1, y4, y5, y7, y8, m0 => (if y4 ≤ y8 then nk_bd (zf_M_keeps m0) (fun _ m1 => nk_bd (zf_M_dayOf y7 y4 y5 m1) (fun r2 m2 => nk_bd (zf_M_bringsBack m2) (fun _ m3 => nk_bd (zf_M_refused r2 m3) (fun r4 m4 => some (r4, m4))))) else nk_ald m0 27 240 (y7 + ((2 : Int32) * y8)) (fun x5 => nk_ald m0 27 240 ((y7 + ((2 : Int32) * y8)) + (1 : Int32)) (fun x6 => nk_bd (zf_M_isAsTold x5 x6 m0) (fun r7 m5 => (if r7 = 0 then nk_bd (zf_M_refused (-2 : Int32) m5) (fun r8 m6 => some (r8, m6)) else (zf_M_day_b122 n0 y4 y5 y7 (y8 + 1) m5))))))
set_option maxHeartbeats 4000000 in
set_option maxRecDepth 100000 in
theorem zs_M_day_b122 {G : nk_V} {X : nk_X}   (C : nk_C "NeedOnceModel" zb_M_day 9 nk_wR G X) (hR : X.2.2.2.1 = nk_rm 9) (hr : X.2.2.2.2.2.2.2.2.1.sig.returnType = (some .int))  : ∀ (n0 : Nat) (y4 : Int32) (y5 : Int32) (y7 : Int32) (y8 : Int32) (m0 : nk_M), nk_Sim nk_wR G X 9 nk_oi 122 [nk_r G 0, .null, .null, .null, .int y4, .int y5, .null, .int y7, .int y8] [] m0 (zf_M_day_b122 n0 y4 y5 y7 y8 m0) := by
  intro n0
  induction n0 with
  | zero => intros; exact nk_none
  | succ n0 ih =>
    intro y4 y5 y7 y8 m0
    rw [zf_M_day_b122]
    refine nk_iload C zd_M_day_122 rfl ?_
    refine nk_iload C zd_M_day_124 rfl ?_
    refine nk_icmp_ge (tgt := 174) C zd_M_day_126 (by decide) ?_ ?_
    · refine nk_aload_n C zd_M_day_174 rfl rfl ?_
      refine nk_callVv C [] zv_M_299 hR (zc_M_keeps m0) (by omega) (Nat.le_of_ble_eq_true rfl) rfl rfl rfl rfl (Nat.le_of_ble_eq_true rfl) zd_M_day_175 (fun m1 => ?_)
      refine nk_aload_n C zd_M_day_178 rfl rfl ?_
      refine nk_iload C zd_M_day_179 rfl ?_
      refine nk_iload C zd_M_day_181 rfl ?_
      refine nk_iload C zd_M_day_183 rfl ?_
      refine nk_callVi C [.int y7, .int y4, .int y5] zv_M_302 hR (zc_M_dayOf y7 y4 y5 m1) (by omega) (Nat.le_of_ble_eq_true rfl) rfl rfl rfl rfl (Nat.le_of_ble_eq_true rfl) zd_M_day_185 (fun r2 m2 => ?_)
      refine nk_istore C zd_M_day_188 (Nat.le_of_ble_eq_true rfl) rfl ?_
      refine nk_aload_n C zd_M_day_190 rfl rfl ?_
      refine nk_callVv C [] zv_M_306 hR (zc_M_bringsBack m2) (by omega) (Nat.le_of_ble_eq_true rfl) rfl rfl rfl rfl (Nat.le_of_ble_eq_true rfl) zd_M_day_191 (fun m3 => ?_)
      refine nk_aload_n C zd_M_day_194 rfl rfl ?_
      refine nk_iload C zd_M_day_195 rfl ?_
      refine nk_callVi C [.int r2] zv_M_150 hR (zc_M_refused r2 m3) (by omega) (Nat.le_of_ble_eq_true rfl) rfl rfl rfl rfl (Nat.le_of_ble_eq_true rfl) zd_M_day_197 (fun r4 m4 => ?_)
      exact nk_iret C hr zd_M_day_200
    · refine nk_aload_n C zd_M_day_129 rfl rfl ?_
      refine nk_getR C (r := 27) za_M_88 (Nat.le_of_ble_eq_true rfl) rfl rfl zd_M_day_130 ?_
      refine nk_iload C zd_M_day_133 rfl ?_
      refine nk_iconst (v := 2) C zd_M_day_135 (by decide) ?_
      refine nk_iload C zd_M_day_136 rfl ?_
      refine nk_imul C zd_M_day_138 ?_
      refine nk_iadd C zd_M_day_139 ?_
      refine nk_iald C (Nat.le_of_ble_eq_true rfl) rfl zd_M_day_140 (fun x5 => ?_)
      refine nk_aload_n C zd_M_day_141 rfl rfl ?_
      refine nk_getR C (r := 27) za_M_88 (Nat.le_of_ble_eq_true rfl) rfl rfl zd_M_day_142 ?_
      refine nk_iload C zd_M_day_145 rfl ?_
      refine nk_iconst (v := 2) C zd_M_day_147 (by decide) ?_
      refine nk_iload C zd_M_day_148 rfl ?_
      refine nk_imul C zd_M_day_150 ?_
      refine nk_iadd C zd_M_day_151 ?_
      refine nk_iconst (v := 1) C zd_M_day_152 (by decide) ?_
      refine nk_iadd C zd_M_day_153 ?_
      refine nk_iald C (Nat.le_of_ble_eq_true rfl) rfl zd_M_day_154 (fun x6 => ?_)
      refine nk_callSi C [.int x5, .int x6] zv_M_296 hR (zc_M_isAsTold x5 x6 m0) (by omega) rfl rfl (Nat.le_of_ble_eq_true rfl) zd_M_day_155 (fun r7 m5 => ?_)
      refine nk_if_ne (tgt := 168) C zd_M_day_158 (by decide) ?_ ?_
      · refine nk_iinc (v0 := y8 + 1) C zd_M_day_168 rfl (nk_inc _ (by decide)) (Nat.le_of_ble_eq_true rfl) rfl ?_
        refine nk_goto (tgt := 122) C zd_M_day_171 (by decide) ?_
        exact ih y4 y5 y7 (y8 + 1) m5
      · refine nk_aload_n C zd_M_day_161 rfl rfl ?_
        refine nk_bipush (v := -2) C zd_M_day_162 (by decide) ?_
        refine nk_callVi C [.int (-2 : Int32)] zv_M_150 hR (zc_M_refused (-2 : Int32) m5) (by omega) (Nat.le_of_ble_eq_true rfl) rfl rfl rfl rfl (Nat.le_of_ble_eq_true rfl) zd_M_day_164 (fun r8 m6 => ?_)
        exact nk_iret C hr zd_M_day_167
def zf_M_day_b73  (y1 : Int32) (y2 : Int32) (y3 : Int32) (y4 : Int32) (y5 : Int32) (m0 : nk_M) : Option (Int32 × nk_M) := (if (m0 0 1) = 0 then nk_bd (zf_M_refused (-3 : Int32) m0) (fun r3 m2 => some (r3, m2)) else nk_bd (zf_M_cellsBarred y1 y2 y3 ((2 : Int64) * (y4.toInt64)) m0) (fun r1 m1 => (if 0 ≤ r1 then nk_nm (((60 : Int32) * y1) + y3) (fun x2 => (zf_M_day_b122 nk_fu y4 y5 x2 (0 : Int32) m1)) else some (r1, m1))))
set_option maxHeartbeats 4000000 in
set_option maxRecDepth 100000 in
theorem zs_M_day_b73 {G : nk_V} {X : nk_X}   (C : nk_C "NeedOnceModel" zb_M_day 9 nk_wR G X) (hR : X.2.2.2.1 = nk_rm 9) (hr : X.2.2.2.2.2.2.2.2.1.sig.returnType = (some .int))  : ∀ (y1 : Int32) (y2 : Int32) (y3 : Int32) (y4 : Int32) (y5 : Int32) (m0 : nk_M), nk_Sim nk_wR G X 9 nk_oi 73 [nk_r G 0, .int y1, .int y2, .int y3, .int y4, .int y5, .null, .null, .null] [] m0 (zf_M_day_b73 y1 y2 y3 y4 y5 m0) := by
  intro y1 y2 y3 y4 y5 m0
  unfold zf_M_day_b73
  refine nk_aload_n C zd_M_day_73 rfl rfl ?_
  refine nk_getI C za_M_104 (Nat.le_of_ble_eq_true rfl) rfl rfl zd_M_day_74 ?_
  refine nk_if_ne (tgt := 87) C zd_M_day_77 (by decide) ?_ ?_
  · refine nk_aload_n C zd_M_day_87 rfl rfl ?_
    refine nk_iload_n C zd_M_day_88 rfl rfl ?_
    refine nk_iload_n C zd_M_day_89 rfl rfl ?_
    refine nk_iload_n C zd_M_day_90 rfl rfl ?_
    refine nk_ldc2 (v := 2) C zw_710 zd_M_day_91 ?_
    refine nk_iload C zd_M_day_94 rfl ?_
    refine nk_i2l C zd_M_day_96 ?_
    refine nk_lmul C zd_M_day_97 ?_
    refine nk_callVi C [.int y1, .int y2, .int y3, .long ((2 : Int64) * (y4.toInt64))] zv_M_155 hR (zc_M_cellsBarred y1 y2 y3 ((2 : Int64) * (y4.toInt64)) m0) (by omega) (Nat.le_of_ble_eq_true rfl) rfl rfl rfl rfl (Nat.le_of_ble_eq_true rfl) zd_M_day_98 (fun r1 m1 => ?_)
    refine nk_istore C zd_M_day_101 (Nat.le_of_ble_eq_true rfl) rfl ?_
    refine nk_iload C zd_M_day_103 rfl ?_
    refine nk_if_ge (tgt := 111) C zd_M_day_105 (by decide) ?_ ?_
    · refine nk_bipush (v := 60) C zd_M_day_111 (by decide) ?_
      refine nk_iload_n C zd_M_day_113 rfl rfl ?_
      refine nk_imul C zd_M_day_114 ?_
      refine nk_iload_n C zd_M_day_115 rfl rfl ?_
      refine nk_iadd C zd_M_day_116 ?_
      refine nk_named (fun x2 => ?_)
      refine nk_istore C zd_M_day_117 (Nat.le_of_ble_eq_true rfl) rfl ?_
      refine nk_iconst (v := 0) C zd_M_day_119 (by decide) ?_
      refine nk_istore C zd_M_day_120 (Nat.le_of_ble_eq_true rfl) rfl ?_
      refine nk_wk [true, false, false, false, true, true, false, true, true] ?_
      exact zs_M_day_b122 C hR hr nk_fu y4 y5 x2 (0 : Int32) m1
    · refine nk_iload C zd_M_day_108 rfl ?_
      exact nk_iret C hr zd_M_day_110
  · refine nk_aload_n C zd_M_day_80 rfl rfl ?_
    refine nk_bipush (v := -3) C zd_M_day_81 (by decide) ?_
    refine nk_callVi C [.int (-3 : Int32)] zv_M_150 hR (zc_M_refused (-3 : Int32) m0) (by omega) (Nat.le_of_ble_eq_true rfl) rfl rfl rfl rfl (Nat.le_of_ble_eq_true rfl) zd_M_day_83 (fun r3 m2 => ?_)
    exact nk_iret C hr zd_M_day_86
def zf_M_day  (a1 : Int32) (a2 : Int32) (a3 : Int32) (a4 : Int32) (a5 : Int32) (m0 : nk_M) : Option (Int32 × nk_M) := nk_bd (zf_M_noSheet a1 m0) (fun r1 m1 => (if r1 = 0 then nk_bd (zf_M_in (a2.toInt64) (0 : Int64) (2 : Int64) m1) (fun r2 m2 => (if r2 = 0 then (zf_M_day_b66 m2) else nk_bd (zf_M_in (a4.toInt64) (0 : Int64) (20 : Int64) m2) (fun r3 m3 => (if r3 = 0 then (zf_M_day_b66 m3) else nk_bd (zf_M_in (a5.toInt64) (0 : Int64) (4 : Int64) m3) (fun r4 m4 => (if r4 = 0 then nk_bd (zf_M_in (a5.toInt64) (10 : Int64) (17 : Int64) m4) (fun r5 m5 => (if r5 = 0 then (zf_M_day_b66 m5) else (zf_M_day_b73 a1 a2 a3 a4 a5 m5))) else (zf_M_day_b73 a1 a2 a3 a4 a5 m4))))))) else nk_bd (zf_M_refused (-1 : Int32) m1) (fun r6 m6 => some (r6, m6))))
set_option maxHeartbeats 4000000 in
set_option maxRecDepth 100000 in
theorem zc_M_day {l : Launch} {G : nk_V}   (a1 : Int32) (a2 : Int32) (a3 : Int32) (a4 : Int32) (a5 : Int32) (m0 : nk_M) : nk_Ct l nk_wR G 9 zy_M_day zb_M_day 9 (some .int) nk_oi [nk_r G 0, .int a1, .int a2, .int a3, .int a4, .int a5] m0 (zf_M_day  a1 a2 a3 a4 a5 m0) := by
  refine nk_ent (own := "NeedOnceModel") (lv := [nk_r G 0, .int a1, .int a2, .int a3, .int a4, .int a5, .null, .null, .null]) 3 rfl (by decide) (Nat.le_of_ble_eq_true rfl) rfl (fun X hl hR C hr => ?_)
  subst hl
  unfold zf_M_day
  refine nk_iload_n C zd_M_day_0 rfl rfl ?_
  refine nk_callSi C [.int a1] zv_M_146 hR (zc_M_noSheet a1 m0) (by omega) rfl rfl (Nat.le_of_ble_eq_true rfl) zd_M_day_1 (fun r1 m1 => ?_)
  refine nk_if_eq (tgt := 13) C zd_M_day_4 (by decide) ?_ ?_
  · refine nk_iload_n C zd_M_day_13 rfl rfl ?_
    refine nk_i2l C zd_M_day_14 ?_
    refine nk_lconst (v := 0) C zd_M_day_15 (by decide) ?_
    refine nk_ldc2 (v := 2) C zw_710 zd_M_day_16 ?_
    refine nk_callSi C [.long (a2.toInt64), .long (0 : Int64), .long (2 : Int64)] zv_M_107 hR (zc_M_in (a2.toInt64) (0 : Int64) (2 : Int64) m1) (by omega) rfl rfl (Nat.le_of_ble_eq_true rfl) zd_M_day_19 (fun r2 m2 => ?_)
    refine nk_if_eq (tgt := 66) C zd_M_day_22 (by decide) ?_ ?_
    · refine nk_wk [true, false, false, false, false, false, false, false, false] ?_
      exact zs_M_day_b66 C hR hr m2
    · refine nk_iload C zd_M_day_25 rfl ?_
      refine nk_i2l C zd_M_day_27 ?_
      refine nk_lconst (v := 0) C zd_M_day_28 (by decide) ?_
      refine nk_ldc2 (v := 20) C zw_857 zd_M_day_29 ?_
      refine nk_callSi C [.long (a4.toInt64), .long (0 : Int64), .long (20 : Int64)] zv_M_107 hR (zc_M_in (a4.toInt64) (0 : Int64) (20 : Int64) m2) (by omega) rfl rfl (Nat.le_of_ble_eq_true rfl) zd_M_day_32 (fun r3 m3 => ?_)
      refine nk_if_eq (tgt := 66) C zd_M_day_35 (by decide) ?_ ?_
      · refine nk_wk [true, false, false, false, false, false, false, false, false] ?_
        exact zs_M_day_b66 C hR hr m3
      · refine nk_iload C zd_M_day_38 rfl ?_
        refine nk_i2l C zd_M_day_40 ?_
        refine nk_lconst (v := 0) C zd_M_day_41 (by decide) ?_
        refine nk_ldc2 (v := 4) C zw_858 zd_M_day_42 ?_
        refine nk_callSi C [.long (a5.toInt64), .long (0 : Int64), .long (4 : Int64)] zv_M_107 hR (zc_M_in (a5.toInt64) (0 : Int64) (4 : Int64) m3) (by omega) rfl rfl (Nat.le_of_ble_eq_true rfl) zd_M_day_45 (fun r4 m4 => ?_)
        refine nk_if_ne (tgt := 73) C zd_M_day_48 (by decide) ?_ ?_
        · exact zs_M_day_b73 C hR hr a1 a2 a3 a4 a5 m4
        · refine nk_iload C zd_M_day_51 rfl ?_
          refine nk_i2l C zd_M_day_53 ?_
          refine nk_ldc2 (v := 10) C zw_762 zd_M_day_54 ?_
          refine nk_ldc2 (v := 17) C zw_815 zd_M_day_57 ?_
          refine nk_callSi C [.long (a5.toInt64), .long (10 : Int64), .long (17 : Int64)] zv_M_107 hR (zc_M_in (a5.toInt64) (10 : Int64) (17 : Int64) m4) (by omega) rfl rfl (Nat.le_of_ble_eq_true rfl) zd_M_day_60 (fun r5 m5 => ?_)
          refine nk_if_ne (tgt := 73) C zd_M_day_63 (by decide) ?_ ?_
          · exact zs_M_day_b73 C hR hr a1 a2 a3 a4 a5 m5
          · refine nk_wk [true, false, false, false, false, false, false, false, false] ?_
            exact zs_M_day_b66 C hR hr m5
  · refine nk_aload_n C zd_M_day_7 rfl rfl ?_
    refine nk_iconst (v := -1) C zd_M_day_8 (by decide) ?_
    refine nk_callVi C [.int (-1 : Int32)] zv_M_150 hR (zc_M_refused (-1 : Int32) m1) (by omega) (Nat.le_of_ble_eq_true rfl) rfl rfl rfl rfl (Nat.le_of_ble_eq_true rfl) zd_M_day_9 (fun r6 m6 => ?_)
    exact nk_iret C hr zd_M_day_12
theorem zd_M_reading_0 : decode zb_M_reading 0 = .ok (.aload_n 0, 1) := by decide +kernel
theorem zd_M_reading_1 : decode zb_M_reading 1 = .ok (.iload_n 1, 1) := by decide +kernel
theorem zd_M_reading_2 : decode zb_M_reading 2 = .ok (.invokevirtual 240, 3) := by decide +kernel
theorem zd_M_reading_5 : decode zb_M_reading 5 = .ok (.ifCond .eq 5, 3) := by decide +kernel
theorem zd_M_reading_8 : decode zb_M_reading 8 = .ok (.iconst (-1), 1) := by decide +kernel
theorem zd_M_reading_9 : decode zb_M_reading 9 = .ok (.ireturn, 1) := by decide +kernel
theorem zd_M_reading_10 : decode zb_M_reading 10 = .ok (.iload_n 2, 1) := by decide +kernel
theorem zd_M_reading_11 : decode zb_M_reading 11 = .ok (.i2l, 1) := by decide +kernel
theorem zd_M_reading_12 : decode zb_M_reading 12 = .ok (.lconst 0, 1) := by decide +kernel
theorem zd_M_reading_13 : decode zb_M_reading 13 = .ok (.ldc2_w 309, 3) := by decide +kernel
theorem zd_M_reading_16 : decode zb_M_reading 16 = .ok (.invokestatic 107, 3) := by decide +kernel
theorem zd_M_reading_19 : decode zb_M_reading 19 = .ok (.ifCond .ne 6, 3) := by decide +kernel
theorem zd_M_reading_22 : decode zb_M_reading 22 = .ok (.bipush (-2), 2) := by decide +kernel
theorem zd_M_reading_24 : decode zb_M_reading 24 = .ok (.ireturn, 1) := by decide +kernel
theorem zd_M_reading_25 : decode zb_M_reading 25 = .ok (.aload_n 0, 1) := by decide +kernel
theorem zd_M_reading_26 : decode zb_M_reading 26 = .ok (.getfield 166, 3) := by decide +kernel
theorem zd_M_reading_29 : decode zb_M_reading 29 = .ok (.bipush 8, 2) := by decide +kernel
theorem zd_M_reading_31 : decode zb_M_reading 31 = .ok (.if_icmp .ne 6, 3) := by decide +kernel
theorem zd_M_reading_34 : decode zb_M_reading 34 = .ok (.bipush (-4), 2) := by decide +kernel
theorem zd_M_reading_36 : decode zb_M_reading 36 = .ok (.ireturn, 1) := by decide +kernel
theorem zd_M_reading_37 : decode zb_M_reading 37 = .ok (.aload_n 0, 1) := by decide +kernel
theorem zd_M_reading_38 : decode zb_M_reading 38 = .ok (.getfield 76, 3) := by decide +kernel
theorem zd_M_reading_41 : decode zb_M_reading 41 = .ok (.aload_n 0, 1) := by decide +kernel
theorem zd_M_reading_42 : decode zb_M_reading 42 = .ok (.getfield 166, 3) := by decide +kernel
theorem zd_M_reading_45 : decode zb_M_reading 45 = .ok (.iload_n 1, 1) := by decide +kernel
theorem zd_M_reading_46 : decode zb_M_reading 46 = .ok (.iastore, 1) := by decide +kernel
theorem zd_M_reading_47 : decode zb_M_reading 47 = .ok (.aload_n 0, 1) := by decide +kernel
theorem zd_M_reading_48 : decode zb_M_reading 48 = .ok (.getfield 79, 3) := by decide +kernel
theorem zd_M_reading_51 : decode zb_M_reading 51 = .ok (.aload_n 0, 1) := by decide +kernel
theorem zd_M_reading_52 : decode zb_M_reading 52 = .ok (.getfield 166, 3) := by decide +kernel
theorem zd_M_reading_55 : decode zb_M_reading 55 = .ok (.iload_n 2, 1) := by decide +kernel
theorem zd_M_reading_56 : decode zb_M_reading 56 = .ok (.iastore, 1) := by decide +kernel
theorem zd_M_reading_57 : decode zb_M_reading 57 = .ok (.aload_n 0, 1) := by decide +kernel
theorem zd_M_reading_58 : decode zb_M_reading 58 = .ok (.dup, 1) := by decide +kernel
theorem zd_M_reading_59 : decode zb_M_reading 59 = .ok (.getfield 166, 3) := by decide +kernel
theorem zd_M_reading_62 : decode zb_M_reading 62 = .ok (.iconst 1, 1) := by decide +kernel
theorem zd_M_reading_63 : decode zb_M_reading 63 = .ok (.iadd, 1) := by decide +kernel
theorem zd_M_reading_64 : decode zb_M_reading 64 = .ok (.putfield 166, 3) := by decide +kernel
theorem zd_M_reading_67 : decode zb_M_reading 67 = .ok (.aload_n 0, 1) := by decide +kernel
theorem zd_M_reading_68 : decode zb_M_reading 68 = .ok (.getfield 166, 3) := by decide +kernel
theorem zd_M_reading_71 : decode zb_M_reading 71 = .ok (.iconst 1, 1) := by decide +kernel
theorem zd_M_reading_72 : decode zb_M_reading 72 = .ok (.isub, 1) := by decide +kernel
theorem zd_M_reading_73 : decode zb_M_reading 73 = .ok (.ireturn, 1) := by decide +kernel
def zf_M_reading  (a1 : Int32) (a2 : Int32) (m0 : nk_M) : Option (Int32 × nk_M) := nk_bd (zf_M_noOne a1 m0) (fun r1 m1 => (if r1 = 0 then nk_bd (zf_M_in (a2.toInt64) (0 : Int64) (200 : Int64) m1) (fun r2 m2 => (if r2 = 0 then some ((-2 : Int32), m2) else (if (m2 0 41) = (8 : Int32) then some ((-4 : Int32), m2) else nk_ast m2 23 8 (m2 0 41) a1 (fun m3 => nk_ast m3 24 8 (m3 0 41) a2 (fun m4 => nk_pf m4 0 41 ((m4 0 41) + (1 : Int32)) (fun m5 => some ((m5 0 41) - (1 : Int32), m5))))))) else some ((-1 : Int32), m1)))
set_option maxHeartbeats 4000000 in
set_option maxRecDepth 100000 in
theorem zc_M_reading {l : Launch} {G : nk_V}   (a1 : Int32) (a2 : Int32) (m0 : nk_M) : nk_Ct l nk_wR G 3 zy_M_reading zb_M_reading 3 (some .int) nk_oi [nk_r G 0, .int a1, .int a2] m0 (zf_M_reading  a1 a2 m0) := by
  refine nk_ent (own := "NeedOnceModel") (lv := [nk_r G 0, .int a1, .int a2]) 0 rfl (by decide) (Nat.le_of_ble_eq_true rfl) rfl (fun X hl hR C hr => ?_)
  subst hl
  unfold zf_M_reading
  refine nk_aload_n C zd_M_reading_0 rfl rfl ?_
  refine nk_iload_n C zd_M_reading_1 rfl rfl ?_
  refine nk_callVi C [.int a1] zv_M_240 hR (zc_M_noOne a1 m0) (by omega) (Nat.le_of_ble_eq_true rfl) rfl rfl rfl rfl (Nat.le_of_ble_eq_true rfl) zd_M_reading_2 (fun r1 m1 => ?_)
  refine nk_if_eq (tgt := 10) C zd_M_reading_5 (by decide) ?_ ?_
  · refine nk_iload_n C zd_M_reading_10 rfl rfl ?_
    refine nk_i2l C zd_M_reading_11 ?_
    refine nk_lconst (v := 0) C zd_M_reading_12 (by decide) ?_
    refine nk_ldc2 (v := 200) C zw_894 zd_M_reading_13 ?_
    refine nk_callSi C [.long (a2.toInt64), .long (0 : Int64), .long (200 : Int64)] zv_M_107 hR (zc_M_in (a2.toInt64) (0 : Int64) (200 : Int64) m1) (by omega) rfl rfl (Nat.le_of_ble_eq_true rfl) zd_M_reading_16 (fun r2 m2 => ?_)
    refine nk_if_ne (tgt := 25) C zd_M_reading_19 (by decide) ?_ ?_
    · refine nk_aload_n C zd_M_reading_25 rfl rfl ?_
      refine nk_getI C za_M_166 (Nat.le_of_ble_eq_true rfl) rfl rfl zd_M_reading_26 ?_
      refine nk_bipush (v := 8) C zd_M_reading_29 (by decide) ?_
      refine nk_icmp_ne (tgt := 37) C zd_M_reading_31 (by decide) ?_ ?_
      · refine nk_aload_n C zd_M_reading_37 rfl rfl ?_
        refine nk_getR C (r := 23) za_M_76 (Nat.le_of_ble_eq_true rfl) rfl rfl zd_M_reading_38 ?_
        refine nk_aload_n C zd_M_reading_41 rfl rfl ?_
        refine nk_getI C za_M_166 (Nat.le_of_ble_eq_true rfl) rfl rfl zd_M_reading_42 ?_
        refine nk_iload_n C zd_M_reading_45 rfl rfl ?_
        refine nk_iast C (Nat.le_of_ble_eq_true rfl) rfl zd_M_reading_46 (fun m3 => ?_)
        refine nk_aload_n C zd_M_reading_47 rfl rfl ?_
        refine nk_getR C (r := 24) za_M_79 (Nat.le_of_ble_eq_true rfl) rfl rfl zd_M_reading_48 ?_
        refine nk_aload_n C zd_M_reading_51 rfl rfl ?_
        refine nk_getI C za_M_166 (Nat.le_of_ble_eq_true rfl) rfl rfl zd_M_reading_52 ?_
        refine nk_iload_n C zd_M_reading_55 rfl rfl ?_
        refine nk_iast C (Nat.le_of_ble_eq_true rfl) rfl zd_M_reading_56 (fun m4 => ?_)
        refine nk_aload_n C zd_M_reading_57 rfl rfl ?_
        refine nk_dup C zd_M_reading_58 rfl ?_
        refine nk_getI C za_M_166 (Nat.le_of_ble_eq_true rfl) rfl rfl zd_M_reading_59 ?_
        refine nk_iconst (v := 1) C zd_M_reading_62 (by decide) ?_
        refine nk_iadd C zd_M_reading_63 ?_
        refine nk_putI C zp_M_166 (Nat.le_of_ble_eq_true rfl) rfl rfl zd_M_reading_64 (fun m5 => ?_)
        refine nk_aload_n C zd_M_reading_67 rfl rfl ?_
        refine nk_getI C za_M_166 (Nat.le_of_ble_eq_true rfl) rfl rfl zd_M_reading_68 ?_
        refine nk_iconst (v := 1) C zd_M_reading_71 (by decide) ?_
        refine nk_isub C zd_M_reading_72 ?_
        exact nk_iret C hr zd_M_reading_73
      · refine nk_bipush (v := -4) C zd_M_reading_34 (by decide) ?_
        exact nk_iret C hr zd_M_reading_36
    · refine nk_bipush (v := -2) C zd_M_reading_22 (by decide) ?_
      exact nk_iret C hr zd_M_reading_24
  · refine nk_iconst (v := -1) C zd_M_reading_8 (by decide) ?_
    exact nk_iret C hr zd_M_reading_9
theorem zd_M_back_0 : decode zb_M_back 0 = .ok (.iload_n 1, 1) := by decide +kernel
theorem zd_M_back_1 : decode zb_M_back 1 = .ok (.i2l, 1) := by decide +kernel
theorem zd_M_back_2 : decode zb_M_back 2 = .ok (.lconst 0, 1) := by decide +kernel
theorem zd_M_back_3 : decode zb_M_back 3 = .ok (.aload_n 0, 1) := by decide +kernel
theorem zd_M_back_4 : decode zb_M_back 4 = .ok (.getfield 166, 3) := by decide +kernel
theorem zd_M_back_7 : decode zb_M_back 7 = .ok (.i2l, 1) := by decide +kernel
theorem zd_M_back_8 : decode zb_M_back 8 = .ok (.invokestatic 107, 3) := by decide +kernel
theorem zd_M_back_11 : decode zb_M_back 11 = .ok (.ifCond .ne 6, 3) := by decide +kernel
theorem zd_M_back_14 : decode zb_M_back 14 = .ok (.bipush (-2), 2) := by decide +kernel
theorem zd_M_back_16 : decode zb_M_back 16 = .ok (.ireturn, 1) := by decide +kernel
theorem zd_M_back_17 : decode zb_M_back 17 = .ok (.aload_n 0, 1) := by decide +kernel
theorem zd_M_back_18 : decode zb_M_back 18 = .ok (.dup, 1) := by decide +kernel
theorem zd_M_back_19 : decode zb_M_back 19 = .ok (.getfield 166, 3) := by decide +kernel
theorem zd_M_back_22 : decode zb_M_back 22 = .ok (.iload_n 1, 1) := by decide +kernel
theorem zd_M_back_23 : decode zb_M_back 23 = .ok (.isub, 1) := by decide +kernel
theorem zd_M_back_24 : decode zb_M_back 24 = .ok (.putfield 166, 3) := by decide +kernel
theorem zd_M_back_27 : decode zb_M_back 27 = .ok (.aload_n 0, 1) := by decide +kernel
theorem zd_M_back_28 : decode zb_M_back 28 = .ok (.getfield 166, 3) := by decide +kernel
theorem zd_M_back_31 : decode zb_M_back 31 = .ok (.ireturn, 1) := by decide +kernel
def zf_M_back  (a1 : Int32) (m0 : nk_M) : Option (Int32 × nk_M) := nk_bd (zf_M_in (a1.toInt64) (0 : Int64) ((m0 0 41).toInt64) m0) (fun r1 m1 => (if r1 = 0 then some ((-2 : Int32), m1) else nk_pf m1 0 41 ((m1 0 41) - a1) (fun m2 => some ((m2 0 41), m2))))
set_option maxHeartbeats 4000000 in
set_option maxRecDepth 100000 in
theorem zc_M_back {l : Launch} {G : nk_V}   (a1 : Int32) (m0 : nk_M) : nk_Ct l nk_wR G 2 zy_M_back zb_M_back 2 (some .int) nk_oi [nk_r G 0, .int a1] m0 (zf_M_back  a1 m0) := by
  refine nk_ent (own := "NeedOnceModel") (lv := [nk_r G 0, .int a1]) 0 rfl (by decide) (Nat.le_of_ble_eq_true rfl) rfl (fun X hl hR C hr => ?_)
  subst hl
  unfold zf_M_back
  refine nk_iload_n C zd_M_back_0 rfl rfl ?_
  refine nk_i2l C zd_M_back_1 ?_
  refine nk_lconst (v := 0) C zd_M_back_2 (by decide) ?_
  refine nk_aload_n C zd_M_back_3 rfl rfl ?_
  refine nk_getI C za_M_166 (Nat.le_of_ble_eq_true rfl) rfl rfl zd_M_back_4 ?_
  refine nk_i2l C zd_M_back_7 ?_
  refine nk_callSi C [.long (a1.toInt64), .long (0 : Int64), .long ((m0 0 41).toInt64)] zv_M_107 hR (zc_M_in (a1.toInt64) (0 : Int64) ((m0 0 41).toInt64) m0) (by omega) rfl rfl (Nat.le_of_ble_eq_true rfl) zd_M_back_8 (fun r1 m1 => ?_)
  refine nk_if_ne (tgt := 17) C zd_M_back_11 (by decide) ?_ ?_
  · refine nk_aload_n C zd_M_back_17 rfl rfl ?_
    refine nk_dup C zd_M_back_18 rfl ?_
    refine nk_getI C za_M_166 (Nat.le_of_ble_eq_true rfl) rfl rfl zd_M_back_19 ?_
    refine nk_iload_n C zd_M_back_22 rfl rfl ?_
    refine nk_isub C zd_M_back_23 ?_
    refine nk_putI C zp_M_166 (Nat.le_of_ble_eq_true rfl) rfl rfl zd_M_back_24 (fun m2 => ?_)
    refine nk_aload_n C zd_M_back_27 rfl rfl ?_
    refine nk_getI C za_M_166 (Nat.le_of_ble_eq_true rfl) rfl rfl zd_M_back_28 ?_
    exact nk_iret C hr zd_M_back_31
  · refine nk_bipush (v := -2) C zd_M_back_14 (by decide) ?_
    exact nk_iret C hr zd_M_back_16
theorem zd_M_areSo_0 : decode zb_M_areSo 0 = .ok (.iconst 1, 1) := by decide +kernel
theorem zd_M_areSo_1 : decode zb_M_areSo 1 = .ok (.istore_n 1, 1) := by decide +kernel
theorem zd_M_areSo_2 : decode zb_M_areSo 2 = .ok (.iconst 0, 1) := by decide +kernel
theorem zd_M_areSo_3 : decode zb_M_areSo 3 = .ok (.istore_n 2, 1) := by decide +kernel
theorem zd_M_areSo_4 : decode zb_M_areSo 4 = .ok (.iload_n 2, 1) := by decide +kernel
theorem zd_M_areSo_5 : decode zb_M_areSo 5 = .ok (.aload_n 0, 1) := by decide +kernel
theorem zd_M_areSo_6 : decode zb_M_areSo 6 = .ok (.getfield 166, 3) := by decide +kernel
theorem zd_M_areSo_9 : decode zb_M_areSo 9 = .ok (.if_icmp .ge 47, 3) := by decide +kernel
theorem zd_M_areSo_12 : decode zb_M_areSo 12 = .ok (.aload_n 0, 1) := by decide +kernel
theorem zd_M_areSo_13 : decode zb_M_areSo 13 = .ok (.invokevirtual 181, 3) := by decide +kernel
theorem zd_M_areSo_16 : decode zb_M_areSo 16 = .ok (.aload_n 0, 1) := by decide +kernel
theorem zd_M_areSo_17 : decode zb_M_areSo 17 = .ok (.aload_n 0, 1) := by decide +kernel
theorem zd_M_areSo_18 : decode zb_M_areSo 18 = .ok (.getfield 76, 3) := by decide +kernel
theorem zd_M_areSo_21 : decode zb_M_areSo 21 = .ok (.iload_n 2, 1) := by decide +kernel
theorem zd_M_areSo_22 : decode zb_M_areSo 22 = .ok (.iaload, 1) := by decide +kernel
theorem zd_M_areSo_23 : decode zb_M_areSo 23 = .ok (.invokevirtual 250, 3) := by decide +kernel
theorem zd_M_areSo_26 : decode zb_M_areSo 26 = .ok (.istore_n 3, 1) := by decide +kernel
theorem zd_M_areSo_27 : decode zb_M_areSo 27 = .ok (.iload_n 1, 1) := by decide +kernel
theorem zd_M_areSo_28 : decode zb_M_areSo 28 = .ok (.ifCond .eq 20, 3) := by decide +kernel
theorem zd_M_areSo_31 : decode zb_M_areSo 31 = .ok (.aload_n 0, 1) := by decide +kernel
theorem zd_M_areSo_32 : decode zb_M_areSo 32 = .ok (.getfield 212, 3) := by decide +kernel
theorem zd_M_areSo_35 : decode zb_M_areSo 35 = .ok (.aload_n 0, 1) := by decide +kernel
theorem zd_M_areSo_36 : decode zb_M_areSo 36 = .ok (.getfield 79, 3) := by decide +kernel
theorem zd_M_areSo_39 : decode zb_M_areSo 39 = .ok (.iload_n 2, 1) := by decide +kernel
theorem zd_M_areSo_40 : decode zb_M_areSo 40 = .ok (.iaload, 1) := by decide +kernel
theorem zd_M_areSo_41 : decode zb_M_areSo 41 = .ok (.if_icmp .ne 7, 3) := by decide +kernel
theorem zd_M_areSo_44 : decode zb_M_areSo 44 = .ok (.iconst 1, 1) := by decide +kernel
theorem zd_M_areSo_45 : decode zb_M_areSo 45 = .ok (.goto 4, 3) := by decide +kernel
theorem zd_M_areSo_48 : decode zb_M_areSo 48 = .ok (.iconst 0, 1) := by decide +kernel
theorem zd_M_areSo_49 : decode zb_M_areSo 49 = .ok (.istore_n 1, 1) := by decide +kernel
theorem zd_M_areSo_50 : decode zb_M_areSo 50 = .ok (.iinc 2 1, 3) := by decide +kernel
theorem zd_M_areSo_53 : decode zb_M_areSo 53 = .ok (.goto (-49), 3) := by decide +kernel
theorem zd_M_areSo_56 : decode zb_M_areSo 56 = .ok (.iload_n 1, 1) := by decide +kernel
theorem zd_M_areSo_57 : decode zb_M_areSo 57 = .ok (.ireturn, 1) := by decide +kernel
def zf_M_areSo_b49 (rc4 : Int32 → Int32 → nk_M → Option (Int32 × nk_M)) (y2 : Int32) (u0 : Int32) (m0 : nk_M) : Option (Int32 × nk_M) := (rc4 u0 (y2 + 1) m0)
set_option maxHeartbeats 4000000 in
set_option maxRecDepth 100000 in
theorem zs_M_areSo_b49 {G : nk_V} {X : nk_X}   (C : nk_C "NeedOnceModel" zb_M_areSo 4 nk_wR G X) (hR : X.2.2.2.1 = nk_rm 6) (hr : X.2.2.2.2.2.2.2.2.1.sig.returnType = (some .boolean)) (rc4 : Int32 → Int32 → nk_M → Option (Int32 × nk_M)) (hr4 : ∀ (y1 : Int32) (y2 : Int32) (m0 : nk_M), nk_Sim nk_wR G X 4 nk_oi 4 [nk_r G 0, .int y1, .int y2, .null] [] m0 (rc4 y1 y2 m0)) : ∀ (y2 : Int32) (u0 : Int32) (m0 : nk_M), nk_Sim nk_wR G X 4 nk_oi 49 [nk_r G 0, .null, .int y2, .null] [.int u0] m0 (zf_M_areSo_b49 rc4 y2 u0 m0) := by
  intro y2 u0 m0
  unfold zf_M_areSo_b49
  refine nk_istore_n C zd_M_areSo_49 rfl (Nat.le_of_ble_eq_true rfl) rfl ?_
  refine nk_iinc (v0 := y2 + 1) C zd_M_areSo_50 rfl (nk_inc _ (by decide)) (Nat.le_of_ble_eq_true rfl) rfl ?_
  refine nk_goto (tgt := 4) C zd_M_areSo_53 (by decide) ?_
  exact hr4 u0 (y2 + 1) m0
def zf_M_areSo_b48 (rc4 : Int32 → Int32 → nk_M → Option (Int32 × nk_M)) (y2 : Int32) (m0 : nk_M) : Option (Int32 × nk_M) := (zf_M_areSo_b49 rc4 y2 (0 : Int32) m0)
set_option maxHeartbeats 4000000 in
set_option maxRecDepth 100000 in
theorem zs_M_areSo_b48 {G : nk_V} {X : nk_X}   (C : nk_C "NeedOnceModel" zb_M_areSo 4 nk_wR G X) (hR : X.2.2.2.1 = nk_rm 6) (hr : X.2.2.2.2.2.2.2.2.1.sig.returnType = (some .boolean)) (rc4 : Int32 → Int32 → nk_M → Option (Int32 × nk_M)) (hr4 : ∀ (y1 : Int32) (y2 : Int32) (m0 : nk_M), nk_Sim nk_wR G X 4 nk_oi 4 [nk_r G 0, .int y1, .int y2, .null] [] m0 (rc4 y1 y2 m0)) : ∀ (y2 : Int32) (m0 : nk_M), nk_Sim nk_wR G X 4 nk_oi 48 [nk_r G 0, .null, .int y2, .null] [] m0 (zf_M_areSo_b48 rc4 y2 m0) := by
  intro y2 m0
  unfold zf_M_areSo_b48
  refine nk_iconst (v := 0) C zd_M_areSo_48 (by decide) ?_
  exact zs_M_areSo_b49 C hR hr rc4 hr4 y2 (0 : Int32) m0
def zf_M_areSo_b4  : Nat → Int32 → Int32 → nk_M → Option (Int32 × nk_M)
  | 0, _, _, _ => none
  | n0 + 1, y1, y2, m0 => (if (m0 0 41) ≤ y2 then nk_zr y1 m0 else nk_bd (zf_M_allAsleep m0) (fun _ m1 => nk_ald m1 23 8 y2 (fun x2 => nk_bd (zf_M_needs x2 m1) (fun r3 m2 => (if y1 = 0 then (zf_M_areSo_b48 (zf_M_areSo_b4 n0) y2 m2) else nk_ald m2 24 8 y2 (fun x4 => (if (m2 0 26) = x4 then (zf_M_areSo_b49 (zf_M_areSo_b4 n0) y2 (1 : Int32) m2) else (zf_M_areSo_b48 (zf_M_areSo_b4 n0) y2 m2))))))))
set_option maxHeartbeats 4000000 in
set_option maxRecDepth 100000 in
theorem zs_M_areSo_b4 {G : nk_V} {X : nk_X}   (C : nk_C "NeedOnceModel" zb_M_areSo 4 nk_wR G X) (hR : X.2.2.2.1 = nk_rm 6) (hr : X.2.2.2.2.2.2.2.2.1.sig.returnType = (some .boolean))  : ∀ (n0 : Nat) (y1 : Int32) (y2 : Int32) (m0 : nk_M), nk_Sim nk_wR G X 4 nk_oi 4 [nk_r G 0, .int y1, .int y2, .null] [] m0 (zf_M_areSo_b4 n0 y1 y2 m0) := by
  intro n0
  induction n0 with
  | zero => intros; exact nk_none
  | succ n0 ih =>
    intro y1 y2 m0
    rw [zf_M_areSo_b4]
    refine nk_iload_n C zd_M_areSo_4 rfl rfl ?_
    refine nk_aload_n C zd_M_areSo_5 rfl rfl ?_
    refine nk_getI C za_M_166 (Nat.le_of_ble_eq_true rfl) rfl rfl zd_M_areSo_6 ?_
    refine nk_icmp_ge (tgt := 56) C zd_M_areSo_9 (by decide) ?_ ?_
    · refine nk_iload_n C zd_M_areSo_56 rfl rfl ?_
      exact nk_zret C hr zd_M_areSo_57
    · refine nk_aload_n C zd_M_areSo_12 rfl rfl ?_
      refine nk_callVv C [] zv_M_181 hR (zc_M_allAsleep m0) (by omega) (Nat.le_of_ble_eq_true rfl) rfl rfl rfl rfl (Nat.le_of_ble_eq_true rfl) zd_M_areSo_13 (fun m1 => ?_)
      refine nk_aload_n C zd_M_areSo_16 rfl rfl ?_
      refine nk_aload_n C zd_M_areSo_17 rfl rfl ?_
      refine nk_getR C (r := 23) za_M_76 (Nat.le_of_ble_eq_true rfl) rfl rfl zd_M_areSo_18 ?_
      refine nk_iload_n C zd_M_areSo_21 rfl rfl ?_
      refine nk_iald C (Nat.le_of_ble_eq_true rfl) rfl zd_M_areSo_22 (fun x2 => ?_)
      refine nk_callVi C [.int x2] zv_M_250 hR (zc_M_needs x2 m1) (by omega) (Nat.le_of_ble_eq_true rfl) rfl rfl rfl rfl (Nat.le_of_ble_eq_true rfl) zd_M_areSo_23 (fun r3 m2 => ?_)
      refine nk_istore_n C zd_M_areSo_26 rfl (Nat.le_of_ble_eq_true rfl) rfl ?_
      refine nk_iload_n C zd_M_areSo_27 rfl rfl ?_
      refine nk_if_eq (tgt := 48) C zd_M_areSo_28 (by decide) ?_ ?_
      · refine nk_wk [true, false, true, false] ?_
        exact zs_M_areSo_b48 C hR hr (zf_M_areSo_b4 n0) ih y2 m2
      · refine nk_aload_n C zd_M_areSo_31 rfl rfl ?_
        refine nk_getI C za_M_212 (Nat.le_of_ble_eq_true rfl) rfl rfl zd_M_areSo_32 ?_
        refine nk_aload_n C zd_M_areSo_35 rfl rfl ?_
        refine nk_getR C (r := 24) za_M_79 (Nat.le_of_ble_eq_true rfl) rfl rfl zd_M_areSo_36 ?_
        refine nk_iload_n C zd_M_areSo_39 rfl rfl ?_
        refine nk_iald C (Nat.le_of_ble_eq_true rfl) rfl zd_M_areSo_40 (fun x4 => ?_)
        refine nk_icmp_ne (tgt := 48) C zd_M_areSo_41 (by decide) ?_ ?_
        · refine nk_wk [true, false, true, false] ?_
          exact zs_M_areSo_b48 C hR hr (zf_M_areSo_b4 n0) ih y2 m2
        · refine nk_iconst (v := 1) C zd_M_areSo_44 (by decide) ?_
          refine nk_goto (tgt := 49) C zd_M_areSo_45 (by decide) ?_
          refine nk_wk [true, false, true, false] ?_
          exact zs_M_areSo_b49 C hR hr (zf_M_areSo_b4 n0) ih y2 (1 : Int32) m2
def zf_M_areSo   (m0 : nk_M) : Option (Int32 × nk_M) := (zf_M_areSo_b4 nk_fu (1 : Int32) (0 : Int32) m0)
set_option maxHeartbeats 4000000 in
set_option maxRecDepth 100000 in
theorem zc_M_areSo {l : Launch} {G : nk_V}    (m0 : nk_M) : nk_Ct l nk_wR G 6 zy_M_areSo zb_M_areSo 4 (some .boolean) nk_oi [nk_r G 0] m0 (zf_M_areSo   m0) := by
  refine nk_ent (own := "NeedOnceModel") (lv := [nk_r G 0, .null, .null, .null]) 3 rfl (by decide) (Nat.le_of_ble_eq_true rfl) rfl (fun X hl hR C hr => ?_)
  subst hl
  unfold zf_M_areSo
  refine nk_iconst (v := 1) C zd_M_areSo_0 (by decide) ?_
  refine nk_istore_n C zd_M_areSo_1 rfl (Nat.le_of_ble_eq_true rfl) rfl ?_
  refine nk_iconst (v := 0) C zd_M_areSo_2 (by decide) ?_
  refine nk_istore_n C zd_M_areSo_3 rfl (Nat.le_of_ble_eq_true rfl) rfl ?_
  exact zs_M_areSo_b4 C hR hr nk_fu (1 : Int32) (0 : Int32) m0
theorem zd_M_kinds_0 : decode zb_M_kinds 0 = .ok (.aload_n 0, 1) := by decide +kernel
theorem zd_M_kinds_1 : decode zb_M_kinds 1 = .ok (.iload_n 1, 1) := by decide +kernel
theorem zd_M_kinds_2 : decode zb_M_kinds 2 = .ok (.invokevirtual 240, 3) := by decide +kernel
theorem zd_M_kinds_5 : decode zb_M_kinds 5 = .ok (.ifCond .eq 5, 3) := by decide +kernel
theorem zd_M_kinds_8 : decode zb_M_kinds 8 = .ok (.iconst (-1), 1) := by decide +kernel
theorem zd_M_kinds_9 : decode zb_M_kinds 9 = .ok (.ireturn, 1) := by decide +kernel
theorem zd_M_kinds_10 : decode zb_M_kinds 10 = .ok (.aload_n 0, 1) := by decide +kernel
theorem zd_M_kinds_11 : decode zb_M_kinds 11 = .ok (.invokevirtual 299, 3) := by decide +kernel
theorem zd_M_kinds_14 : decode zb_M_kinds 14 = .ok (.aload_n 0, 1) := by decide +kernel
theorem zd_M_kinds_15 : decode zb_M_kinds 15 = .ok (.getfield 7, 3) := by decide +kernel
theorem zd_M_kinds_18 : decode zb_M_kinds 18 = .ok (.iload_n 1, 1) := by decide +kernel
theorem zd_M_kinds_19 : decode zb_M_kinds 19 = .ok (.iaload, 1) := by decide +kernel
theorem zd_M_kinds_20 : decode zb_M_kinds 20 = .ok (.istore_n 2, 1) := by decide +kernel
theorem zd_M_kinds_21 : decode zb_M_kinds 21 = .ok (.iconst 0, 1) := by decide +kernel
theorem zd_M_kinds_22 : decode zb_M_kinds 22 = .ok (.istore_n 3, 1) := by decide +kernel
theorem zd_M_kinds_23 : decode zb_M_kinds 23 = .ok (.iconst 0, 1) := by decide +kernel
theorem zd_M_kinds_24 : decode zb_M_kinds 24 = .ok (.istore 4, 2) := by decide +kernel
theorem zd_M_kinds_26 : decode zb_M_kinds 26 = .ok (.iload 4, 2) := by decide +kernel
theorem zd_M_kinds_28 : decode zb_M_kinds 28 = .ok (.iconst 3, 1) := by decide +kernel
theorem zd_M_kinds_29 : decode zb_M_kinds 29 = .ok (.if_icmp .ge 35, 3) := by decide +kernel
theorem zd_M_kinds_32 : decode zb_M_kinds 32 = .ok (.aload_n 0, 1) := by decide +kernel
theorem zd_M_kinds_33 : decode zb_M_kinds 33 = .ok (.getfield 7, 3) := by decide +kernel
theorem zd_M_kinds_36 : decode zb_M_kinds 36 = .ok (.iload_n 1, 1) := by decide +kernel
theorem zd_M_kinds_37 : decode zb_M_kinds 37 = .ok (.iload 4, 2) := by decide +kernel
theorem zd_M_kinds_39 : decode zb_M_kinds 39 = .ok (.iastore, 1) := by decide +kernel
theorem zd_M_kinds_40 : decode zb_M_kinds 40 = .ok (.iload_n 3, 1) := by decide +kernel
theorem zd_M_kinds_41 : decode zb_M_kinds 41 = .ok (.aload_n 0, 1) := by decide +kernel
theorem zd_M_kinds_42 : decode zb_M_kinds 42 = .ok (.invokevirtual 311, 3) := by decide +kernel
theorem zd_M_kinds_45 : decode zb_M_kinds 45 = .ok (.ifCond .eq 10, 3) := by decide +kernel
theorem zd_M_kinds_48 : decode zb_M_kinds 48 = .ok (.iconst 1, 1) := by decide +kernel
theorem zd_M_kinds_49 : decode zb_M_kinds 49 = .ok (.iload 4, 2) := by decide +kernel
theorem zd_M_kinds_51 : decode zb_M_kinds 51 = .ok (.ishl, 1) := by decide +kernel
theorem zd_M_kinds_52 : decode zb_M_kinds 52 = .ok (.goto 4, 3) := by decide +kernel
theorem zd_M_kinds_55 : decode zb_M_kinds 55 = .ok (.iconst 0, 1) := by decide +kernel
theorem zd_M_kinds_56 : decode zb_M_kinds 56 = .ok (.ior, 1) := by decide +kernel
theorem zd_M_kinds_57 : decode zb_M_kinds 57 = .ok (.istore_n 3, 1) := by decide +kernel
theorem zd_M_kinds_58 : decode zb_M_kinds 58 = .ok (.iinc 4 1, 3) := by decide +kernel
theorem zd_M_kinds_61 : decode zb_M_kinds 61 = .ok (.goto (-35), 3) := by decide +kernel
theorem zd_M_kinds_64 : decode zb_M_kinds 64 = .ok (.aload_n 0, 1) := by decide +kernel
theorem zd_M_kinds_65 : decode zb_M_kinds 65 = .ok (.getfield 7, 3) := by decide +kernel
theorem zd_M_kinds_68 : decode zb_M_kinds 68 = .ok (.iload_n 1, 1) := by decide +kernel
theorem zd_M_kinds_69 : decode zb_M_kinds 69 = .ok (.iload_n 2, 1) := by decide +kernel
theorem zd_M_kinds_70 : decode zb_M_kinds 70 = .ok (.iastore, 1) := by decide +kernel
theorem zd_M_kinds_71 : decode zb_M_kinds 71 = .ok (.aload_n 0, 1) := by decide +kernel
theorem zd_M_kinds_72 : decode zb_M_kinds 72 = .ok (.invokevirtual 306, 3) := by decide +kernel
theorem zd_M_kinds_75 : decode zb_M_kinds 75 = .ok (.iload_n 3, 1) := by decide +kernel
theorem zd_M_kinds_76 : decode zb_M_kinds 76 = .ok (.ireturn, 1) := by decide +kernel
def zf_M_kinds_b56 (rc26 : Int32 → Int32 → Int32 → Int32 → nk_M → Option (Int32 × nk_M)) (y1 : Int32) (y2 : Int32) (y4 : Int32) (u0 : Int32) (u1 : Int32) (m0 : nk_M) : Option (Int32 × nk_M) := nk_nm (u0 ||| u1) (fun x1 => (rc26 y1 y2 x1 (y4 + 1) m0))
set_option maxHeartbeats 4000000 in
set_option maxRecDepth 100000 in
theorem zs_M_kinds_b56 {G : nk_V} {X : nk_X}   (C : nk_C "NeedOnceModel" zb_M_kinds 5 nk_wR G X) (hR : X.2.2.2.1 = nk_rm 7) (hr : X.2.2.2.2.2.2.2.2.1.sig.returnType = (some .int)) (rc26 : Int32 → Int32 → Int32 → Int32 → nk_M → Option (Int32 × nk_M)) (hr26 : ∀ (y1 : Int32) (y2 : Int32) (y3 : Int32) (y4 : Int32) (m0 : nk_M), nk_Sim nk_wR G X 5 nk_oi 26 [nk_r G 0, .int y1, .int y2, .int y3, .int y4] [] m0 (rc26 y1 y2 y3 y4 m0)) : ∀ (y1 : Int32) (y2 : Int32) (y4 : Int32) (u0 : Int32) (u1 : Int32) (m0 : nk_M), nk_Sim nk_wR G X 5 nk_oi 56 [nk_r G 0, .int y1, .int y2, .null, .int y4] [.int u1, .int u0] m0 (zf_M_kinds_b56 rc26 y1 y2 y4 u0 u1 m0) := by
  intro y1 y2 y4 u0 u1 m0
  unfold zf_M_kinds_b56
  refine nk_ior C zd_M_kinds_56 ?_
  refine nk_named (fun x1 => ?_)
  refine nk_istore_n C zd_M_kinds_57 rfl (Nat.le_of_ble_eq_true rfl) rfl ?_
  refine nk_iinc (v0 := y4 + 1) C zd_M_kinds_58 rfl (nk_inc _ (by decide)) (Nat.le_of_ble_eq_true rfl) rfl ?_
  refine nk_goto (tgt := 26) C zd_M_kinds_61 (by decide) ?_
  exact hr26 y1 y2 x1 (y4 + 1) m0
def zf_M_kinds_b26  : Nat → Int32 → Int32 → Int32 → Int32 → nk_M → Option (Int32 × nk_M)
  | 0, _, _, _, _, _ => none
  | n0 + 1, y1, y2, y3, y4, m0 => (if (3 : Int32) ≤ y4 then nk_ast m0 1 8 y1 y2 (fun m1 => nk_bd (zf_M_bringsBack m1) (fun _ m2 => some (y3, m2))) else nk_ast m0 1 8 y1 y4 (fun m3 => nk_bd (zf_M_areSo m3) (fun r2 m4 => (if r2 = 0 then (zf_M_kinds_b56 (zf_M_kinds_b26 n0) y1 y2 y4 y3 (0 : Int32) m4) else (zf_M_kinds_b56 (zf_M_kinds_b26 n0) y1 y2 y4 y3 ((1 : Int32) <<< (y4 &&& 31)) m4)))))
set_option maxHeartbeats 4000000 in
set_option maxRecDepth 100000 in
theorem zs_M_kinds_b26 {G : nk_V} {X : nk_X}   (C : nk_C "NeedOnceModel" zb_M_kinds 5 nk_wR G X) (hR : X.2.2.2.1 = nk_rm 7) (hr : X.2.2.2.2.2.2.2.2.1.sig.returnType = (some .int))  : ∀ (n0 : Nat) (y1 : Int32) (y2 : Int32) (y3 : Int32) (y4 : Int32) (m0 : nk_M), nk_Sim nk_wR G X 5 nk_oi 26 [nk_r G 0, .int y1, .int y2, .int y3, .int y4] [] m0 (zf_M_kinds_b26 n0 y1 y2 y3 y4 m0) := by
  intro n0
  induction n0 with
  | zero => intros; exact nk_none
  | succ n0 ih =>
    intro y1 y2 y3 y4 m0
    rw [zf_M_kinds_b26]
    refine nk_iload C zd_M_kinds_26 rfl ?_
    refine nk_iconst (v := 3) C zd_M_kinds_28 (by decide) ?_
    refine nk_icmp_ge (tgt := 64) C zd_M_kinds_29 (by decide) ?_ ?_
    · refine nk_aload_n C zd_M_kinds_64 rfl rfl ?_
      refine nk_getR C (r := 1) za_M_7 (Nat.le_of_ble_eq_true rfl) rfl rfl zd_M_kinds_65 ?_
      refine nk_iload_n C zd_M_kinds_68 rfl rfl ?_
      refine nk_iload_n C zd_M_kinds_69 rfl rfl ?_
      refine nk_iast C (Nat.le_of_ble_eq_true rfl) rfl zd_M_kinds_70 (fun m1 => ?_)
      refine nk_aload_n C zd_M_kinds_71 rfl rfl ?_
      refine nk_callVv C [] zv_M_306 hR (zc_M_bringsBack m1) (by omega) (Nat.le_of_ble_eq_true rfl) rfl rfl rfl rfl (Nat.le_of_ble_eq_true rfl) zd_M_kinds_72 (fun m2 => ?_)
      refine nk_iload_n C zd_M_kinds_75 rfl rfl ?_
      exact nk_iret C hr zd_M_kinds_76
    · refine nk_aload_n C zd_M_kinds_32 rfl rfl ?_
      refine nk_getR C (r := 1) za_M_7 (Nat.le_of_ble_eq_true rfl) rfl rfl zd_M_kinds_33 ?_
      refine nk_iload_n C zd_M_kinds_36 rfl rfl ?_
      refine nk_iload C zd_M_kinds_37 rfl ?_
      refine nk_iast C (Nat.le_of_ble_eq_true rfl) rfl zd_M_kinds_39 (fun m3 => ?_)
      refine nk_iload_n C zd_M_kinds_40 rfl rfl ?_
      refine nk_aload_n C zd_M_kinds_41 rfl rfl ?_
      refine nk_callVi C [] zv_M_311 hR (zc_M_areSo m3) (by omega) (Nat.le_of_ble_eq_true rfl) rfl rfl rfl rfl (Nat.le_of_ble_eq_true rfl) zd_M_kinds_42 (fun r2 m4 => ?_)
      refine nk_if_eq (tgt := 55) C zd_M_kinds_45 (by decide) ?_ ?_
      · refine nk_iconst (v := 0) C zd_M_kinds_55 (by decide) ?_
        refine nk_wk [true, true, true, false, true] ?_
        exact zs_M_kinds_b56 C hR hr (zf_M_kinds_b26 n0) ih y1 y2 y4 y3 (0 : Int32) m4
      · refine nk_iconst (v := 1) C zd_M_kinds_48 (by decide) ?_
        refine nk_iload C zd_M_kinds_49 rfl ?_
        refine nk_ishl C zd_M_kinds_51 ?_
        refine nk_goto (tgt := 56) C zd_M_kinds_52 (by decide) ?_
        refine nk_wk [true, true, true, false, true] ?_
        exact zs_M_kinds_b56 C hR hr (zf_M_kinds_b26 n0) ih y1 y2 y4 y3 ((1 : Int32) <<< (y4 &&& 31)) m4
def zf_M_kinds  (a1 : Int32) (m0 : nk_M) : Option (Int32 × nk_M) := nk_bd (zf_M_noOne a1 m0) (fun r1 m1 => (if r1 = 0 then nk_bd (zf_M_keeps m1) (fun _ m2 => nk_ald m2 1 8 a1 (fun x3 => (zf_M_kinds_b26 nk_fu a1 x3 (0 : Int32) (0 : Int32) m2))) else some ((-1 : Int32), m1)))
set_option maxHeartbeats 4000000 in
set_option maxRecDepth 100000 in
theorem zc_M_kinds {l : Launch} {G : nk_V}   (a1 : Int32) (m0 : nk_M) : nk_Ct l nk_wR G 7 zy_M_kinds zb_M_kinds 5 (some .int) nk_oi [nk_r G 0, .int a1] m0 (zf_M_kinds  a1 m0) := by
  refine nk_ent (own := "NeedOnceModel") (lv := [nk_r G 0, .int a1, .null, .null, .null]) 3 rfl (by decide) (Nat.le_of_ble_eq_true rfl) rfl (fun X hl hR C hr => ?_)
  subst hl
  unfold zf_M_kinds
  refine nk_aload_n C zd_M_kinds_0 rfl rfl ?_
  refine nk_iload_n C zd_M_kinds_1 rfl rfl ?_
  refine nk_callVi C [.int a1] zv_M_240 hR (zc_M_noOne a1 m0) (by omega) (Nat.le_of_ble_eq_true rfl) rfl rfl rfl rfl (Nat.le_of_ble_eq_true rfl) zd_M_kinds_2 (fun r1 m1 => ?_)
  refine nk_if_eq (tgt := 10) C zd_M_kinds_5 (by decide) ?_ ?_
  · refine nk_aload_n C zd_M_kinds_10 rfl rfl ?_
    refine nk_callVv C [] zv_M_299 hR (zc_M_keeps m1) (by omega) (Nat.le_of_ble_eq_true rfl) rfl rfl rfl rfl (Nat.le_of_ble_eq_true rfl) zd_M_kinds_11 (fun m2 => ?_)
    refine nk_aload_n C zd_M_kinds_14 rfl rfl ?_
    refine nk_getR C (r := 1) za_M_7 (Nat.le_of_ble_eq_true rfl) rfl rfl zd_M_kinds_15 ?_
    refine nk_iload_n C zd_M_kinds_18 rfl rfl ?_
    refine nk_iald C (Nat.le_of_ble_eq_true rfl) rfl zd_M_kinds_19 (fun x3 => ?_)
    refine nk_istore_n C zd_M_kinds_20 rfl (Nat.le_of_ble_eq_true rfl) rfl ?_
    refine nk_iconst (v := 0) C zd_M_kinds_21 (by decide) ?_
    refine nk_istore_n C zd_M_kinds_22 rfl (Nat.le_of_ble_eq_true rfl) rfl ?_
    refine nk_iconst (v := 0) C zd_M_kinds_23 (by decide) ?_
    refine nk_istore C zd_M_kinds_24 (Nat.le_of_ble_eq_true rfl) rfl ?_
    exact zs_M_kinds_b26 C hR hr nk_fu a1 x3 (0 : Int32) (0 : Int32) m2
  · refine nk_iconst (v := -1) C zd_M_kinds_8 (by decide) ?_
    exact nk_iret C hr zd_M_kinds_9
theorem zd_M_prices_0 : decode zb_M_prices 0 = .ok (.aload_n 0, 1) := by decide +kernel
theorem zd_M_prices_1 : decode zb_M_prices 1 = .ok (.iload_n 1, 1) := by decide +kernel
theorem zd_M_prices_2 : decode zb_M_prices 2 = .ok (.invokevirtual 240, 3) := by decide +kernel
theorem zd_M_prices_5 : decode zb_M_prices 5 = .ok (.ifCond .eq 5, 3) := by decide +kernel
theorem zd_M_prices_8 : decode zb_M_prices 8 = .ok (.iconst (-1), 1) := by decide +kernel
theorem zd_M_prices_9 : decode zb_M_prices 9 = .ok (.ireturn, 1) := by decide +kernel
theorem zd_M_prices_10 : decode zb_M_prices 10 = .ok (.aload_n 0, 1) := by decide +kernel
theorem zd_M_prices_11 : decode zb_M_prices 11 = .ok (.invokevirtual 299, 3) := by decide +kernel
theorem zd_M_prices_14 : decode zb_M_prices 14 = .ok (.iconst 0, 1) := by decide +kernel
theorem zd_M_prices_15 : decode zb_M_prices 15 = .ok (.istore_n 2, 1) := by decide +kernel
theorem zd_M_prices_16 : decode zb_M_prices 16 = .ok (.iconst 1, 1) := by decide +kernel
theorem zd_M_prices_17 : decode zb_M_prices 17 = .ok (.istore_n 3, 1) := by decide +kernel
theorem zd_M_prices_18 : decode zb_M_prices 18 = .ok (.iload_n 3, 1) := by decide +kernel
theorem zd_M_prices_19 : decode zb_M_prices 19 = .ok (.bipush 9, 2) := by decide +kernel
theorem zd_M_prices_21 : decode zb_M_prices 21 = .ok (.if_icmp .gt 33, 3) := by decide +kernel
theorem zd_M_prices_24 : decode zb_M_prices 24 = .ok (.aload_n 0, 1) := by decide +kernel
theorem zd_M_prices_25 : decode zb_M_prices 25 = .ok (.getfield 13, 3) := by decide +kernel
theorem zd_M_prices_28 : decode zb_M_prices 28 = .ok (.iload_n 1, 1) := by decide +kernel
theorem zd_M_prices_29 : decode zb_M_prices 29 = .ok (.iload_n 3, 1) := by decide +kernel
theorem zd_M_prices_30 : decode zb_M_prices 30 = .ok (.iastore, 1) := by decide +kernel
theorem zd_M_prices_31 : decode zb_M_prices 31 = .ok (.iload_n 2, 1) := by decide +kernel
theorem zd_M_prices_32 : decode zb_M_prices 32 = .ok (.aload_n 0, 1) := by decide +kernel
theorem zd_M_prices_33 : decode zb_M_prices 33 = .ok (.invokevirtual 311, 3) := by decide +kernel
theorem zd_M_prices_36 : decode zb_M_prices 36 = .ok (.ifCond .eq 9, 3) := by decide +kernel
theorem zd_M_prices_39 : decode zb_M_prices 39 = .ok (.iconst 1, 1) := by decide +kernel
theorem zd_M_prices_40 : decode zb_M_prices 40 = .ok (.iload_n 3, 1) := by decide +kernel
theorem zd_M_prices_41 : decode zb_M_prices 41 = .ok (.ishl, 1) := by decide +kernel
theorem zd_M_prices_42 : decode zb_M_prices 42 = .ok (.goto 4, 3) := by decide +kernel
theorem zd_M_prices_45 : decode zb_M_prices 45 = .ok (.iconst 0, 1) := by decide +kernel
theorem zd_M_prices_46 : decode zb_M_prices 46 = .ok (.ior, 1) := by decide +kernel
theorem zd_M_prices_47 : decode zb_M_prices 47 = .ok (.istore_n 2, 1) := by decide +kernel
theorem zd_M_prices_48 : decode zb_M_prices 48 = .ok (.iinc 3 1, 3) := by decide +kernel
theorem zd_M_prices_51 : decode zb_M_prices 51 = .ok (.goto (-33), 3) := by decide +kernel
theorem zd_M_prices_54 : decode zb_M_prices 54 = .ok (.aload_n 0, 1) := by decide +kernel
theorem zd_M_prices_55 : decode zb_M_prices 55 = .ok (.invokevirtual 306, 3) := by decide +kernel
theorem zd_M_prices_58 : decode zb_M_prices 58 = .ok (.iload_n 2, 1) := by decide +kernel
theorem zd_M_prices_59 : decode zb_M_prices 59 = .ok (.ireturn, 1) := by decide +kernel
def zf_M_prices_b46 (rc18 : Int32 → Int32 → Int32 → nk_M → Option (Int32 × nk_M)) (y1 : Int32) (y3 : Int32) (u0 : Int32) (u1 : Int32) (m0 : nk_M) : Option (Int32 × nk_M) := nk_nm (u0 ||| u1) (fun x1 => (rc18 y1 x1 (y3 + 1) m0))
set_option maxHeartbeats 4000000 in
set_option maxRecDepth 100000 in
theorem zs_M_prices_b46 {G : nk_V} {X : nk_X}   (C : nk_C "NeedOnceModel" zb_M_prices 4 nk_wR G X) (hR : X.2.2.2.1 = nk_rm 7) (hr : X.2.2.2.2.2.2.2.2.1.sig.returnType = (some .int)) (rc18 : Int32 → Int32 → Int32 → nk_M → Option (Int32 × nk_M)) (hr18 : ∀ (y1 : Int32) (y2 : Int32) (y3 : Int32) (m0 : nk_M), nk_Sim nk_wR G X 4 nk_oi 18 [nk_r G 0, .int y1, .int y2, .int y3] [] m0 (rc18 y1 y2 y3 m0)) : ∀ (y1 : Int32) (y3 : Int32) (u0 : Int32) (u1 : Int32) (m0 : nk_M), nk_Sim nk_wR G X 4 nk_oi 46 [nk_r G 0, .int y1, .null, .int y3] [.int u1, .int u0] m0 (zf_M_prices_b46 rc18 y1 y3 u0 u1 m0) := by
  intro y1 y3 u0 u1 m0
  unfold zf_M_prices_b46
  refine nk_ior C zd_M_prices_46 ?_
  refine nk_named (fun x1 => ?_)
  refine nk_istore_n C zd_M_prices_47 rfl (Nat.le_of_ble_eq_true rfl) rfl ?_
  refine nk_iinc (v0 := y3 + 1) C zd_M_prices_48 rfl (nk_inc _ (by decide)) (Nat.le_of_ble_eq_true rfl) rfl ?_
  refine nk_goto (tgt := 18) C zd_M_prices_51 (by decide) ?_
  exact hr18 y1 x1 (y3 + 1) m0
def zf_M_prices_b18  : Nat → Int32 → Int32 → Int32 → nk_M → Option (Int32 × nk_M)
  | 0, _, _, _, _ => none
  | n0 + 1, y1, y2, y3, m0 => (if (9 : Int32) < y3 then nk_bd (zf_M_bringsBack m0) (fun _ m1 => some (y2, m1)) else nk_ast m0 2 8 y1 y3 (fun m2 => nk_bd (zf_M_areSo m2) (fun r2 m3 => (if r2 = 0 then (zf_M_prices_b46 (zf_M_prices_b18 n0) y1 y3 y2 (0 : Int32) m3) else (zf_M_prices_b46 (zf_M_prices_b18 n0) y1 y3 y2 ((1 : Int32) <<< (y3 &&& 31)) m3)))))
set_option maxHeartbeats 4000000 in
set_option maxRecDepth 100000 in
theorem zs_M_prices_b18 {G : nk_V} {X : nk_X}   (C : nk_C "NeedOnceModel" zb_M_prices 4 nk_wR G X) (hR : X.2.2.2.1 = nk_rm 7) (hr : X.2.2.2.2.2.2.2.2.1.sig.returnType = (some .int))  : ∀ (n0 : Nat) (y1 : Int32) (y2 : Int32) (y3 : Int32) (m0 : nk_M), nk_Sim nk_wR G X 4 nk_oi 18 [nk_r G 0, .int y1, .int y2, .int y3] [] m0 (zf_M_prices_b18 n0 y1 y2 y3 m0) := by
  intro n0
  induction n0 with
  | zero => intros; exact nk_none
  | succ n0 ih =>
    intro y1 y2 y3 m0
    rw [zf_M_prices_b18]
    refine nk_iload_n C zd_M_prices_18 rfl rfl ?_
    refine nk_bipush (v := 9) C zd_M_prices_19 (by decide) ?_
    refine nk_icmp_gt (tgt := 54) C zd_M_prices_21 (by decide) ?_ ?_
    · refine nk_aload_n C zd_M_prices_54 rfl rfl ?_
      refine nk_callVv C [] zv_M_306 hR (zc_M_bringsBack m0) (by omega) (Nat.le_of_ble_eq_true rfl) rfl rfl rfl rfl (Nat.le_of_ble_eq_true rfl) zd_M_prices_55 (fun m1 => ?_)
      refine nk_iload_n C zd_M_prices_58 rfl rfl ?_
      exact nk_iret C hr zd_M_prices_59
    · refine nk_aload_n C zd_M_prices_24 rfl rfl ?_
      refine nk_getR C (r := 2) za_M_13 (Nat.le_of_ble_eq_true rfl) rfl rfl zd_M_prices_25 ?_
      refine nk_iload_n C zd_M_prices_28 rfl rfl ?_
      refine nk_iload_n C zd_M_prices_29 rfl rfl ?_
      refine nk_iast C (Nat.le_of_ble_eq_true rfl) rfl zd_M_prices_30 (fun m2 => ?_)
      refine nk_iload_n C zd_M_prices_31 rfl rfl ?_
      refine nk_aload_n C zd_M_prices_32 rfl rfl ?_
      refine nk_callVi C [] zv_M_311 hR (zc_M_areSo m2) (by omega) (Nat.le_of_ble_eq_true rfl) rfl rfl rfl rfl (Nat.le_of_ble_eq_true rfl) zd_M_prices_33 (fun r2 m3 => ?_)
      refine nk_if_eq (tgt := 45) C zd_M_prices_36 (by decide) ?_ ?_
      · refine nk_iconst (v := 0) C zd_M_prices_45 (by decide) ?_
        refine nk_wk [true, true, false, true] ?_
        exact zs_M_prices_b46 C hR hr (zf_M_prices_b18 n0) ih y1 y3 y2 (0 : Int32) m3
      · refine nk_iconst (v := 1) C zd_M_prices_39 (by decide) ?_
        refine nk_iload_n C zd_M_prices_40 rfl rfl ?_
        refine nk_ishl C zd_M_prices_41 ?_
        refine nk_goto (tgt := 46) C zd_M_prices_42 (by decide) ?_
        refine nk_wk [true, true, false, true] ?_
        exact zs_M_prices_b46 C hR hr (zf_M_prices_b18 n0) ih y1 y3 y2 ((1 : Int32) <<< (y3 &&& 31)) m3
def zf_M_prices  (a1 : Int32) (m0 : nk_M) : Option (Int32 × nk_M) := nk_bd (zf_M_noOne a1 m0) (fun r1 m1 => (if r1 = 0 then nk_bd (zf_M_keeps m1) (fun _ m2 => (zf_M_prices_b18 nk_fu a1 (0 : Int32) (1 : Int32) m2)) else some ((-1 : Int32), m1)))
set_option maxHeartbeats 4000000 in
set_option maxRecDepth 100000 in
theorem zc_M_prices {l : Launch} {G : nk_V}   (a1 : Int32) (m0 : nk_M) : nk_Ct l nk_wR G 7 zy_M_prices zb_M_prices 4 (some .int) nk_oi [nk_r G 0, .int a1] m0 (zf_M_prices  a1 m0) := by
  refine nk_ent (own := "NeedOnceModel") (lv := [nk_r G 0, .int a1, .null, .null]) 2 rfl (by decide) (Nat.le_of_ble_eq_true rfl) rfl (fun X hl hR C hr => ?_)
  subst hl
  unfold zf_M_prices
  refine nk_aload_n C zd_M_prices_0 rfl rfl ?_
  refine nk_iload_n C zd_M_prices_1 rfl rfl ?_
  refine nk_callVi C [.int a1] zv_M_240 hR (zc_M_noOne a1 m0) (by omega) (Nat.le_of_ble_eq_true rfl) rfl rfl rfl rfl (Nat.le_of_ble_eq_true rfl) zd_M_prices_2 (fun r1 m1 => ?_)
  refine nk_if_eq (tgt := 10) C zd_M_prices_5 (by decide) ?_ ?_
  · refine nk_aload_n C zd_M_prices_10 rfl rfl ?_
    refine nk_callVv C [] zv_M_299 hR (zc_M_keeps m1) (by omega) (Nat.le_of_ble_eq_true rfl) rfl rfl rfl rfl (Nat.le_of_ble_eq_true rfl) zd_M_prices_11 (fun m2 => ?_)
    refine nk_iconst (v := 0) C zd_M_prices_14 (by decide) ?_
    refine nk_istore_n C zd_M_prices_15 rfl (Nat.le_of_ble_eq_true rfl) rfl ?_
    refine nk_iconst (v := 1) C zd_M_prices_16 (by decide) ?_
    refine nk_istore_n C zd_M_prices_17 rfl (Nat.le_of_ble_eq_true rfl) rfl ?_
    exact zs_M_prices_b18 C hR hr nk_fu a1 (0 : Int32) (1 : Int32) m2
  · refine nk_iconst (v := -1) C zd_M_prices_8 (by decide) ?_
    exact nk_iret C hr zd_M_prices_9
theorem zd_M_lost_0 : decode zb_M_lost 0 = .ok (.ldc2_w 94, 3) := by decide +kernel
theorem zd_M_lost_3 : decode zb_M_lost 3 = .ok (.lreturn, 1) := by decide +kernel
def zf_M_lost   (m0 : nk_M) : Option (Int64 × nk_M) := some ((-9223372036854775808 : Int64), m0)
set_option maxHeartbeats 4000000 in
set_option maxRecDepth 100000 in
theorem zc_M_lost {l : Launch} {G : nk_V}    (m0 : nk_M) : nk_Ct l nk_wR G 1 zy_M_lost zb_M_lost 0 (some .long) nk_ol [] m0 (zf_M_lost   m0) := by
  refine nk_ent (own := "NeedOnceModel") (lv := []) 0 rfl (by decide) (Nat.le_of_ble_eq_true rfl) rfl (fun X hl hR C hr => ?_)
  subst hl
  unfold zf_M_lost
  refine nk_ldc2 (v := -9223372036854775808) C zw_919 zd_M_lost_0 ?_
  exact nk_lret C hr zd_M_lost_3
theorem zd_M_share_0 : decode zb_M_share 0 = .ok (.lload_n 0, 1) := by decide +kernel
theorem zd_M_share_1 : decode zb_M_share 1 = .ok (.lstore 5, 2) := by decide +kernel
theorem zd_M_share_3 : decode zb_M_share 3 = .ok (.lload_n 2, 1) := by decide +kernel
theorem zd_M_share_4 : decode zb_M_share 4 = .ok (.lstore 7, 2) := by decide +kernel
theorem zd_M_share_6 : decode zb_M_share 6 = .ok (.lload 7, 2) := by decide +kernel
theorem zd_M_share_8 : decode zb_M_share 8 = .ok (.lconst 0, 1) := by decide +kernel
theorem zd_M_share_9 : decode zb_M_share 9 = .ok (.lcmp, 1) := by decide +kernel
theorem zd_M_share_10 : decode zb_M_share 10 = .ok (.ifCond .eq 21, 3) := by decide +kernel
theorem zd_M_share_13 : decode zb_M_share 13 = .ok (.lload 5, 2) := by decide +kernel
theorem zd_M_share_15 : decode zb_M_share 15 = .ok (.lload 7, 2) := by decide +kernel
theorem zd_M_share_17 : decode zb_M_share 17 = .ok (.lrem, 1) := by decide +kernel
theorem zd_M_share_18 : decode zb_M_share 18 = .ok (.lstore 9, 2) := by decide +kernel
theorem zd_M_share_20 : decode zb_M_share 20 = .ok (.lload 7, 2) := by decide +kernel
theorem zd_M_share_22 : decode zb_M_share 22 = .ok (.lstore 5, 2) := by decide +kernel
theorem zd_M_share_24 : decode zb_M_share 24 = .ok (.lload 9, 2) := by decide +kernel
theorem zd_M_share_26 : decode zb_M_share 26 = .ok (.lstore 7, 2) := by decide +kernel
theorem zd_M_share_28 : decode zb_M_share 28 = .ok (.goto (-22), 3) := by decide +kernel
theorem zd_M_share_31 : decode zb_M_share 31 = .ok (.iload 4, 2) := by decide +kernel
theorem zd_M_share_33 : decode zb_M_share 33 = .ok (.ifCond .ne 7, 3) := by decide +kernel
theorem zd_M_share_36 : decode zb_M_share 36 = .ok (.lload_n 0, 1) := by decide +kernel
theorem zd_M_share_37 : decode zb_M_share 37 = .ok (.goto 4, 3) := by decide +kernel
theorem zd_M_share_40 : decode zb_M_share 40 = .ok (.lload_n 2, 1) := by decide +kernel
theorem zd_M_share_41 : decode zb_M_share 41 = .ok (.lload 5, 2) := by decide +kernel
theorem zd_M_share_43 : decode zb_M_share 43 = .ok (.ldiv, 1) := by decide +kernel
theorem zd_M_share_44 : decode zb_M_share 44 = .ok (.lreturn, 1) := by decide +kernel
def zf_M_share_b41  (y5 : Int64) (u0 : Int64) (m0 : nk_M) : Option (Int64 × nk_M) := nk_Dldiv u0 y5 (fun x1 => some (x1, m0))
set_option maxHeartbeats 4000000 in
set_option maxRecDepth 100000 in
theorem zs_M_share_b41 {G : nk_V} {X : nk_X}   (C : nk_C "NeedOnceModel" zb_M_share 11 nk_wR G X) (hR : X.2.2.2.1 = nk_rm 1) (hr : X.2.2.2.2.2.2.2.2.1.sig.returnType = (some .long))  : ∀ (y5 : Int64) (u0 : Int64) (m0 : nk_M), nk_Sim nk_wR G X 11 nk_ol 41 [.null, .null, .null, .null, .null, .long y5, .null, .null, .null, .null, .null] [.long u0] m0 (zf_M_share_b41 y5 u0 m0) := by
  intro y5 u0 m0
  unfold zf_M_share_b41
  refine nk_lload C zd_M_share_41 rfl ?_
  refine nk_ldiv C zd_M_share_43 (fun x1 => ?_)
  exact nk_lret C hr zd_M_share_44
def zf_M_share_b6  : Nat → Int64 → Int64 → Int32 → Int64 → Int64 → nk_M → Option (Int64 × nk_M)
  | 0, _, _, _, _, _, _ => none
  | n0 + 1, y0, y2, y4, y5, y7, m0 => (if (lg_cmp y7 (0 : Int64)) = 0 then (if y4 = 0 then (zf_M_share_b41 y5 y0 m0) else (zf_M_share_b41 y5 y2 m0)) else nk_Dlrem y5 y7 (fun x1 => (zf_M_share_b6 n0 y0 y2 y4 y7 x1 m0)))
set_option maxHeartbeats 4000000 in
set_option maxRecDepth 100000 in
theorem zs_M_share_b6 {G : nk_V} {X : nk_X}   (C : nk_C "NeedOnceModel" zb_M_share 11 nk_wR G X) (hR : X.2.2.2.1 = nk_rm 1) (hr : X.2.2.2.2.2.2.2.2.1.sig.returnType = (some .long))  : ∀ (n0 : Nat) (y0 : Int64) (y2 : Int64) (y4 : Int32) (y5 : Int64) (y7 : Int64) (m0 : nk_M), nk_Sim nk_wR G X 11 nk_ol 6 [.long y0, .null, .long y2, .null, .int y4, .long y5, .null, .long y7, .null, .null, .null] [] m0 (zf_M_share_b6 n0 y0 y2 y4 y5 y7 m0) := by
  intro n0
  induction n0 with
  | zero => intros; exact nk_none
  | succ n0 ih =>
    intro y0 y2 y4 y5 y7 m0
    rw [zf_M_share_b6]
    refine nk_lload C zd_M_share_6 rfl ?_
    refine nk_lconst (v := 0) C zd_M_share_8 (by decide) ?_
    refine nk_lcmp C zd_M_share_9 ?_
    refine nk_if_eq (tgt := 31) C zd_M_share_10 (by decide) ?_ ?_
    · refine nk_iload C zd_M_share_31 rfl ?_
      refine nk_if_ne (tgt := 40) C zd_M_share_33 (by decide) ?_ ?_
      · refine nk_lload_n C zd_M_share_40 rfl rfl ?_
        refine nk_wk [false, false, false, false, false, true, false, false, false, false, false] ?_
        exact zs_M_share_b41 C hR hr y5 y2 m0
      · refine nk_lload_n C zd_M_share_36 rfl rfl ?_
        refine nk_goto (tgt := 41) C zd_M_share_37 (by decide) ?_
        refine nk_wk [false, false, false, false, false, true, false, false, false, false, false] ?_
        exact zs_M_share_b41 C hR hr y5 y0 m0
    · refine nk_lload C zd_M_share_13 rfl ?_
      refine nk_lload C zd_M_share_15 rfl ?_
      refine nk_lrem C zd_M_share_17 (fun x1 => ?_)
      refine nk_lstore C zd_M_share_18 (Nat.le_of_ble_eq_true rfl) rfl ?_
      refine nk_lload C zd_M_share_20 rfl ?_
      refine nk_lstore C zd_M_share_22 (Nat.le_of_ble_eq_true rfl) rfl ?_
      refine nk_lload C zd_M_share_24 rfl ?_
      refine nk_lstore C zd_M_share_26 (Nat.le_of_ble_eq_true rfl) rfl ?_
      refine nk_goto (tgt := 6) C zd_M_share_28 (by decide) ?_
      refine nk_wk [true, false, true, false, true, true, false, true, false, false, false] ?_
      exact ih y0 y2 y4 y7 x1 m0
def zf_M_share  (a1 : Int64) (a2 : Int64) (a3 : Int32) (m0 : nk_M) : Option (Int64 × nk_M) := (zf_M_share_b6 nk_fu a1 a2 a3 a1 a2 m0)
set_option maxHeartbeats 4000000 in
set_option maxRecDepth 100000 in
theorem zc_M_share {l : Launch} {G : nk_V}   (a1 : Int64) (a2 : Int64) (a3 : Int32) (m0 : nk_M) : nk_Ct l nk_wR G 1 zy_M_share zb_M_share 11 (some .long) nk_ol [.long a1, .long a2, .int a3] m0 (zf_M_share  a1 a2 a3 m0) := by
  refine nk_ent (own := "NeedOnceModel") (lv := [.long a1, .null, .long a2, .null, .int a3, .null, .null, .null, .null, .null, .null]) 6 rfl (by decide) (Nat.le_of_ble_eq_true rfl) rfl (fun X hl hR C hr => ?_)
  subst hl
  unfold zf_M_share
  refine nk_lload_n C zd_M_share_0 rfl rfl ?_
  refine nk_lstore C zd_M_share_1 (Nat.le_of_ble_eq_true rfl) rfl ?_
  refine nk_lload_n C zd_M_share_3 rfl rfl ?_
  refine nk_lstore C zd_M_share_4 (Nat.le_of_ble_eq_true rfl) rfl ?_
  exact zs_M_share_b6 C hR hr nk_fu a1 a2 a3 a1 a2 m0
theorem zd_M_odds_0 : decode zb_M_odds 0 = .ok (.aload_n 0, 1) := by decide +kernel
theorem zd_M_odds_1 : decode zb_M_odds 1 = .ok (.iload_n 1, 1) := by decide +kernel
theorem zd_M_odds_2 : decode zb_M_odds 2 = .ok (.invokevirtual 240, 3) := by decide +kernel
theorem zd_M_odds_5 : decode zb_M_odds 5 = .ok (.ifCond .ne 43, 3) := by decide +kernel
theorem zd_M_odds_8 : decode zb_M_odds 8 = .ok (.aload_n 0, 1) := by decide +kernel
theorem zd_M_odds_9 : decode zb_M_odds 9 = .ok (.iload_n 2, 1) := by decide +kernel
theorem zd_M_odds_10 : decode zb_M_odds 10 = .ok (.invokevirtual 240, 3) := by decide +kernel
theorem zd_M_odds_13 : decode zb_M_odds 13 = .ok (.ifCond .ne 35, 3) := by decide +kernel
theorem zd_M_odds_16 : decode zb_M_odds 16 = .ok (.aload_n 0, 1) := by decide +kernel
theorem zd_M_odds_17 : decode zb_M_odds 17 = .ok (.getfield 16, 3) := by decide +kernel
theorem zd_M_odds_20 : decode zb_M_odds 20 = .ok (.iload_n 2, 1) := by decide +kernel
theorem zd_M_odds_21 : decode zb_M_odds 21 = .ok (.iaload, 1) := by decide +kernel
theorem zd_M_odds_22 : decode zb_M_odds 22 = .ok (.ifCond .ne 26, 3) := by decide +kernel
theorem zd_M_odds_25 : decode zb_M_odds 25 = .ok (.iload_n 3, 1) := by decide +kernel
theorem zd_M_odds_26 : decode zb_M_odds 26 = .ok (.i2l, 1) := by decide +kernel
theorem zd_M_odds_27 : decode zb_M_odds 27 = .ok (.lconst 0, 1) := by decide +kernel
theorem zd_M_odds_28 : decode zb_M_odds 28 = .ok (.ldc2_w 315, 3) := by decide +kernel
theorem zd_M_odds_31 : decode zb_M_odds 31 = .ok (.invokestatic 107, 3) := by decide +kernel
theorem zd_M_odds_34 : decode zb_M_odds 34 = .ok (.ifCond .eq 14, 3) := by decide +kernel
theorem zd_M_odds_37 : decode zb_M_odds 37 = .ok (.iload 4, 2) := by decide +kernel
theorem zd_M_odds_39 : decode zb_M_odds 39 = .ok (.i2l, 1) := by decide +kernel
theorem zd_M_odds_40 : decode zb_M_odds 40 = .ok (.lconst 0, 1) := by decide +kernel
theorem zd_M_odds_41 : decode zb_M_odds 41 = .ok (.lconst 1, 1) := by decide +kernel
theorem zd_M_odds_42 : decode zb_M_odds 42 = .ok (.invokestatic 107, 3) := by decide +kernel
theorem zd_M_odds_45 : decode zb_M_odds 45 = .ok (.ifCond .ne 7, 3) := by decide +kernel
theorem zd_M_odds_48 : decode zb_M_odds 48 = .ok (.invokestatic 100, 3) := by decide +kernel
theorem zd_M_odds_51 : decode zb_M_odds 51 = .ok (.lreturn, 1) := by decide +kernel
theorem zd_M_odds_52 : decode zb_M_odds 52 = .ok (.aload_n 0, 1) := by decide +kernel
theorem zd_M_odds_53 : decode zb_M_odds 53 = .ok (.invokevirtual 299, 3) := by decide +kernel
theorem zd_M_odds_56 : decode zb_M_odds 56 = .ok (.aload_n 0, 1) := by decide +kernel
theorem zd_M_odds_57 : decode zb_M_odds 57 = .ok (.getfield 19, 3) := by decide +kernel
theorem zd_M_odds_60 : decode zb_M_odds 60 = .ok (.iconst 3, 1) := by decide +kernel
theorem zd_M_odds_61 : decode zb_M_odds 61 = .ok (.iload_n 2, 1) := by decide +kernel
theorem zd_M_odds_62 : decode zb_M_odds 62 = .ok (.imul, 1) := by decide +kernel
theorem zd_M_odds_63 : decode zb_M_odds 63 = .ok (.iaload, 1) := by decide +kernel
theorem zd_M_odds_64 : decode zb_M_odds 64 = .ok (.istore 5, 2) := by decide +kernel
theorem zd_M_odds_66 : decode zb_M_odds 66 = .ok (.iconst 0, 1) := by decide +kernel
theorem zd_M_odds_67 : decode zb_M_odds 67 = .ok (.istore 6, 2) := by decide +kernel
theorem zd_M_odds_69 : decode zb_M_odds 69 = .ok (.iconst 0, 1) := by decide +kernel
theorem zd_M_odds_70 : decode zb_M_odds 70 = .ok (.istore 7, 2) := by decide +kernel
theorem zd_M_odds_72 : decode zb_M_odds 72 = .ok (.iload 7, 2) := by decide +kernel
theorem zd_M_odds_74 : decode zb_M_odds 74 = .ok (.bipush 9, 2) := by decide +kernel
theorem zd_M_odds_76 : decode zb_M_odds 76 = .ok (.if_icmp .gt 42, 3) := by decide +kernel
theorem zd_M_odds_79 : decode zb_M_odds 79 = .ok (.aload_n 0, 1) := by decide +kernel
theorem zd_M_odds_80 : decode zb_M_odds 80 = .ok (.getfield 19, 3) := by decide +kernel
theorem zd_M_odds_83 : decode zb_M_odds 83 = .ok (.iconst 3, 1) := by decide +kernel
theorem zd_M_odds_84 : decode zb_M_odds 84 = .ok (.iload_n 2, 1) := by decide +kernel
theorem zd_M_odds_85 : decode zb_M_odds 85 = .ok (.imul, 1) := by decide +kernel
theorem zd_M_odds_86 : decode zb_M_odds 86 = .ok (.iload 7, 2) := by decide +kernel
theorem zd_M_odds_88 : decode zb_M_odds 88 = .ok (.iastore, 1) := by decide +kernel
theorem zd_M_odds_89 : decode zb_M_odds 89 = .ok (.aload_n 0, 1) := by decide +kernel
theorem zd_M_odds_90 : decode zb_M_odds 90 = .ok (.invokevirtual 181, 3) := by decide +kernel
theorem zd_M_odds_93 : decode zb_M_odds 93 = .ok (.iload 6, 2) := by decide +kernel
theorem zd_M_odds_95 : decode zb_M_odds 95 = .ok (.aload_n 0, 1) := by decide +kernel
theorem zd_M_odds_96 : decode zb_M_odds 96 = .ok (.iload_n 1, 1) := by decide +kernel
theorem zd_M_odds_97 : decode zb_M_odds 97 = .ok (.invokevirtual 250, 3) := by decide +kernel
theorem zd_M_odds_100 : decode zb_M_odds 100 = .ok (.iload_n 3, 1) := by decide +kernel
theorem zd_M_odds_101 : decode zb_M_odds 101 = .ok (.if_icmp .ne 7, 3) := by decide +kernel
theorem zd_M_odds_104 : decode zb_M_odds 104 = .ok (.iconst 1, 1) := by decide +kernel
theorem zd_M_odds_105 : decode zb_M_odds 105 = .ok (.goto 4, 3) := by decide +kernel
theorem zd_M_odds_108 : decode zb_M_odds 108 = .ok (.iconst 0, 1) := by decide +kernel
theorem zd_M_odds_109 : decode zb_M_odds 109 = .ok (.iadd, 1) := by decide +kernel
theorem zd_M_odds_110 : decode zb_M_odds 110 = .ok (.istore 6, 2) := by decide +kernel
theorem zd_M_odds_112 : decode zb_M_odds 112 = .ok (.iinc 7 1, 3) := by decide +kernel
theorem zd_M_odds_115 : decode zb_M_odds 115 = .ok (.goto (-43), 3) := by decide +kernel
theorem zd_M_odds_118 : decode zb_M_odds 118 = .ok (.aload_n 0, 1) := by decide +kernel
theorem zd_M_odds_119 : decode zb_M_odds 119 = .ok (.getfield 19, 3) := by decide +kernel
theorem zd_M_odds_122 : decode zb_M_odds 122 = .ok (.iconst 3, 1) := by decide +kernel
theorem zd_M_odds_123 : decode zb_M_odds 123 = .ok (.iload_n 2, 1) := by decide +kernel
theorem zd_M_odds_124 : decode zb_M_odds 124 = .ok (.imul, 1) := by decide +kernel
theorem zd_M_odds_125 : decode zb_M_odds 125 = .ok (.iload 5, 2) := by decide +kernel
theorem zd_M_odds_127 : decode zb_M_odds 127 = .ok (.iastore, 1) := by decide +kernel
theorem zd_M_odds_128 : decode zb_M_odds 128 = .ok (.aload_n 0, 1) := by decide +kernel
theorem zd_M_odds_129 : decode zb_M_odds 129 = .ok (.invokevirtual 306, 3) := by decide +kernel
theorem zd_M_odds_132 : decode zb_M_odds 132 = .ok (.iload 6, 2) := by decide +kernel
theorem zd_M_odds_134 : decode zb_M_odds 134 = .ok (.i2l, 1) := by decide +kernel
theorem zd_M_odds_135 : decode zb_M_odds 135 = .ok (.ldc2_w 243, 3) := by decide +kernel
theorem zd_M_odds_138 : decode zb_M_odds 138 = .ok (.iload 4, 2) := by decide +kernel
theorem zd_M_odds_140 : decode zb_M_odds 140 = .ok (.invokestatic 317, 3) := by decide +kernel
theorem zd_M_odds_143 : decode zb_M_odds 143 = .ok (.lreturn, 1) := by decide +kernel
def zf_M_odds_b48   (m0 : nk_M) : Option (Int64 × nk_M) := nk_bd (zf_M_lost m0) (fun r1 m1 => some (r1, m1))
set_option maxHeartbeats 4000000 in
set_option maxRecDepth 100000 in
theorem zs_M_odds_b48 {G : nk_V} {X : nk_X}   (C : nk_C "NeedOnceModel" zb_M_odds 8 nk_wR G X) (hR : X.2.2.2.1 = nk_rm 6) (hr : X.2.2.2.2.2.2.2.2.1.sig.returnType = (some .long))  : ∀  (m0 : nk_M), nk_Sim nk_wR G X 8 nk_ol 48 [nk_r G 0, .null, .null, .null, .null, .null, .null, .null] [] m0 (zf_M_odds_b48  m0) := by
  intro m0
  unfold zf_M_odds_b48
  refine nk_callSl C [] zv_M_100 hR (zc_M_lost m0) (by omega) rfl rfl (Nat.le_of_ble_eq_true rfl) zd_M_odds_48 (fun r1 m1 => ?_)
  exact nk_lret C hr zd_M_odds_51
def zf_M_odds_b109 (rc72 : Int32 → Int32 → Int32 → Int32 → Int32 → Int32 → Int32 → nk_M → Option (Int64 × nk_M)) (y1 : Int32) (y2 : Int32) (y3 : Int32) (y4 : Int32) (y5 : Int32) (y7 : Int32) (u0 : Int32) (u1 : Int32) (m0 : nk_M) : Option (Int64 × nk_M) := nk_nm (u0 + u1) (fun x1 => (rc72 y1 y2 y3 y4 y5 x1 (y7 + 1) m0))
set_option maxHeartbeats 4000000 in
set_option maxRecDepth 100000 in
theorem zs_M_odds_b109 {G : nk_V} {X : nk_X}   (C : nk_C "NeedOnceModel" zb_M_odds 8 nk_wR G X) (hR : X.2.2.2.1 = nk_rm 6) (hr : X.2.2.2.2.2.2.2.2.1.sig.returnType = (some .long)) (rc72 : Int32 → Int32 → Int32 → Int32 → Int32 → Int32 → Int32 → nk_M → Option (Int64 × nk_M)) (hr72 : ∀ (y1 : Int32) (y2 : Int32) (y3 : Int32) (y4 : Int32) (y5 : Int32) (y6 : Int32) (y7 : Int32) (m0 : nk_M), nk_Sim nk_wR G X 8 nk_ol 72 [nk_r G 0, .int y1, .int y2, .int y3, .int y4, .int y5, .int y6, .int y7] [] m0 (rc72 y1 y2 y3 y4 y5 y6 y7 m0)) : ∀ (y1 : Int32) (y2 : Int32) (y3 : Int32) (y4 : Int32) (y5 : Int32) (y7 : Int32) (u0 : Int32) (u1 : Int32) (m0 : nk_M), nk_Sim nk_wR G X 8 nk_ol 109 [nk_r G 0, .int y1, .int y2, .int y3, .int y4, .int y5, .null, .int y7] [.int u1, .int u0] m0 (zf_M_odds_b109 rc72 y1 y2 y3 y4 y5 y7 u0 u1 m0) := by
  intro y1 y2 y3 y4 y5 y7 u0 u1 m0
  unfold zf_M_odds_b109
  refine nk_iadd C zd_M_odds_109 ?_
  refine nk_named (fun x1 => ?_)
  refine nk_istore C zd_M_odds_110 (Nat.le_of_ble_eq_true rfl) rfl ?_
  refine nk_iinc (v0 := y7 + 1) C zd_M_odds_112 rfl (nk_inc _ (by decide)) (Nat.le_of_ble_eq_true rfl) rfl ?_
  refine nk_goto (tgt := 72) C zd_M_odds_115 (by decide) ?_
  exact hr72 y1 y2 y3 y4 y5 x1 (y7 + 1) m0
def zf_M_odds_b72  : Nat → Int32 → Int32 → Int32 → Int32 → Int32 → Int32 → Int32 → nk_M → Option (Int64 × nk_M)
  | 0, _, _, _, _, _, _, _, _ => none
  | n0 + 1, y1, y2, y3, y4, y5, y6, y7, m0 => (if (9 : Int32) < y7 then nk_ast m0 4 24 ((3 : Int32) * y2) y5 (fun m1 => nk_bd (zf_M_bringsBack m1) (fun _ m2 => nk_bd (zf_M_share (y6.toInt64) (10 : Int64) y4 m2) (fun r2 m3 => some (r2, m3)))) else nk_ast m0 4 24 ((3 : Int32) * y2) y7 (fun m4 => nk_bd (zf_M_allAsleep m4) (fun _ m5 => nk_bd (zf_M_needs y1 m5) (fun r4 m6 => (if r4 = y3 then (zf_M_odds_b109 (zf_M_odds_b72 n0) y1 y2 y3 y4 y5 y7 y6 (1 : Int32) m6) else (zf_M_odds_b109 (zf_M_odds_b72 n0) y1 y2 y3 y4 y5 y7 y6 (0 : Int32) m6))))))
set_option maxHeartbeats 4000000 in
set_option maxRecDepth 100000 in
theorem zs_M_odds_b72 {G : nk_V} {X : nk_X}   (C : nk_C "NeedOnceModel" zb_M_odds 8 nk_wR G X) (hR : X.2.2.2.1 = nk_rm 6) (hr : X.2.2.2.2.2.2.2.2.1.sig.returnType = (some .long))  : ∀ (n0 : Nat) (y1 : Int32) (y2 : Int32) (y3 : Int32) (y4 : Int32) (y5 : Int32) (y6 : Int32) (y7 : Int32) (m0 : nk_M), nk_Sim nk_wR G X 8 nk_ol 72 [nk_r G 0, .int y1, .int y2, .int y3, .int y4, .int y5, .int y6, .int y7] [] m0 (zf_M_odds_b72 n0 y1 y2 y3 y4 y5 y6 y7 m0) := by
  intro n0
  induction n0 with
  | zero => intros; exact nk_none
  | succ n0 ih =>
    intro y1 y2 y3 y4 y5 y6 y7 m0
    rw [zf_M_odds_b72]
    refine nk_iload C zd_M_odds_72 rfl ?_
    refine nk_bipush (v := 9) C zd_M_odds_74 (by decide) ?_
    refine nk_icmp_gt (tgt := 118) C zd_M_odds_76 (by decide) ?_ ?_
    · refine nk_aload_n C zd_M_odds_118 rfl rfl ?_
      refine nk_getR C (r := 4) za_M_19 (Nat.le_of_ble_eq_true rfl) rfl rfl zd_M_odds_119 ?_
      refine nk_iconst (v := 3) C zd_M_odds_122 (by decide) ?_
      refine nk_iload_n C zd_M_odds_123 rfl rfl ?_
      refine nk_imul C zd_M_odds_124 ?_
      refine nk_iload C zd_M_odds_125 rfl ?_
      refine nk_iast C (Nat.le_of_ble_eq_true rfl) rfl zd_M_odds_127 (fun m1 => ?_)
      refine nk_aload_n C zd_M_odds_128 rfl rfl ?_
      refine nk_callVv C [] zv_M_306 hR (zc_M_bringsBack m1) (by omega) (Nat.le_of_ble_eq_true rfl) rfl rfl rfl rfl (Nat.le_of_ble_eq_true rfl) zd_M_odds_129 (fun m2 => ?_)
      refine nk_iload C zd_M_odds_132 rfl ?_
      refine nk_i2l C zd_M_odds_134 ?_
      refine nk_ldc2 (v := 10) C zw_762 zd_M_odds_135 ?_
      refine nk_iload C zd_M_odds_138 rfl ?_
      refine nk_callSl C [.long (y6.toInt64), .long (10 : Int64), .int y4] zv_M_317 hR (zc_M_share (y6.toInt64) (10 : Int64) y4 m2) (by omega) rfl rfl (Nat.le_of_ble_eq_true rfl) zd_M_odds_140 (fun r2 m3 => ?_)
      exact nk_lret C hr zd_M_odds_143
    · refine nk_aload_n C zd_M_odds_79 rfl rfl ?_
      refine nk_getR C (r := 4) za_M_19 (Nat.le_of_ble_eq_true rfl) rfl rfl zd_M_odds_80 ?_
      refine nk_iconst (v := 3) C zd_M_odds_83 (by decide) ?_
      refine nk_iload_n C zd_M_odds_84 rfl rfl ?_
      refine nk_imul C zd_M_odds_85 ?_
      refine nk_iload C zd_M_odds_86 rfl ?_
      refine nk_iast C (Nat.le_of_ble_eq_true rfl) rfl zd_M_odds_88 (fun m4 => ?_)
      refine nk_aload_n C zd_M_odds_89 rfl rfl ?_
      refine nk_callVv C [] zv_M_181 hR (zc_M_allAsleep m4) (by omega) (Nat.le_of_ble_eq_true rfl) rfl rfl rfl rfl (Nat.le_of_ble_eq_true rfl) zd_M_odds_90 (fun m5 => ?_)
      refine nk_iload C zd_M_odds_93 rfl ?_
      refine nk_aload_n C zd_M_odds_95 rfl rfl ?_
      refine nk_iload_n C zd_M_odds_96 rfl rfl ?_
      refine nk_callVi C [.int y1] zv_M_250 hR (zc_M_needs y1 m5) (by omega) (Nat.le_of_ble_eq_true rfl) rfl rfl rfl rfl (Nat.le_of_ble_eq_true rfl) zd_M_odds_97 (fun r4 m6 => ?_)
      refine nk_iload_n C zd_M_odds_100 rfl rfl ?_
      refine nk_icmp_ne (tgt := 108) C zd_M_odds_101 (by decide) ?_ ?_
      · refine nk_iconst (v := 0) C zd_M_odds_108 (by decide) ?_
        refine nk_wk [true, true, true, true, true, true, false, true] ?_
        exact zs_M_odds_b109 C hR hr (zf_M_odds_b72 n0) ih y1 y2 y3 y4 y5 y7 y6 (0 : Int32) m6
      · refine nk_iconst (v := 1) C zd_M_odds_104 (by decide) ?_
        refine nk_goto (tgt := 109) C zd_M_odds_105 (by decide) ?_
        refine nk_wk [true, true, true, true, true, true, false, true] ?_
        exact zs_M_odds_b109 C hR hr (zf_M_odds_b72 n0) ih y1 y2 y3 y4 y5 y7 y6 (1 : Int32) m6
def zf_M_odds  (a1 : Int32) (a2 : Int32) (a3 : Int32) (a4 : Int32) (m0 : nk_M) : Option (Int64 × nk_M) := nk_bd (zf_M_noOne a1 m0) (fun r1 m1 => (if r1 = 0 then nk_bd (zf_M_noOne a2 m1) (fun r2 m2 => (if r2 = 0 then nk_ald m2 3 8 a2 (fun x3 => (if x3 = 0 then nk_bd (zf_M_in (a3.toInt64) (0 : Int64) (102 : Int64) m2) (fun r4 m3 => (if r4 = 0 then (zf_M_odds_b48 m3) else nk_bd (zf_M_in (a4.toInt64) (0 : Int64) (1 : Int64) m3) (fun r5 m4 => (if r5 = 0 then (zf_M_odds_b48 m4) else nk_bd (zf_M_keeps m4) (fun _ m5 => nk_ald m5 4 24 ((3 : Int32) * a2) (fun x7 => (zf_M_odds_b72 nk_fu a1 a2 a3 a4 x7 (0 : Int32) (0 : Int32) m5))))))) else (zf_M_odds_b48 m2))) else (zf_M_odds_b48 m2))) else (zf_M_odds_b48 m1)))
set_option maxHeartbeats 4000000 in
set_option maxRecDepth 100000 in
theorem zc_M_odds {l : Launch} {G : nk_V}   (a1 : Int32) (a2 : Int32) (a3 : Int32) (a4 : Int32) (m0 : nk_M) : nk_Ct l nk_wR G 6 zy_M_odds zb_M_odds 8 (some .long) nk_ol [nk_r G 0, .int a1, .int a2, .int a3, .int a4] m0 (zf_M_odds  a1 a2 a3 a4 m0) := by
  refine nk_ent (own := "NeedOnceModel") (lv := [nk_r G 0, .int a1, .int a2, .int a3, .int a4, .null, .null, .null]) 3 rfl (by decide) (Nat.le_of_ble_eq_true rfl) rfl (fun X hl hR C hr => ?_)
  subst hl
  unfold zf_M_odds
  refine nk_aload_n C zd_M_odds_0 rfl rfl ?_
  refine nk_iload_n C zd_M_odds_1 rfl rfl ?_
  refine nk_callVi C [.int a1] zv_M_240 hR (zc_M_noOne a1 m0) (by omega) (Nat.le_of_ble_eq_true rfl) rfl rfl rfl rfl (Nat.le_of_ble_eq_true rfl) zd_M_odds_2 (fun r1 m1 => ?_)
  refine nk_if_ne (tgt := 48) C zd_M_odds_5 (by decide) ?_ ?_
  · refine nk_wk [true, false, false, false, false, false, false, false] ?_
    exact zs_M_odds_b48 C hR hr m1
  · refine nk_aload_n C zd_M_odds_8 rfl rfl ?_
    refine nk_iload_n C zd_M_odds_9 rfl rfl ?_
    refine nk_callVi C [.int a2] zv_M_240 hR (zc_M_noOne a2 m1) (by omega) (Nat.le_of_ble_eq_true rfl) rfl rfl rfl rfl (Nat.le_of_ble_eq_true rfl) zd_M_odds_10 (fun r2 m2 => ?_)
    refine nk_if_ne (tgt := 48) C zd_M_odds_13 (by decide) ?_ ?_
    · refine nk_wk [true, false, false, false, false, false, false, false] ?_
      exact zs_M_odds_b48 C hR hr m2
    · refine nk_aload_n C zd_M_odds_16 rfl rfl ?_
      refine nk_getR C (r := 3) za_M_16 (Nat.le_of_ble_eq_true rfl) rfl rfl zd_M_odds_17 ?_
      refine nk_iload_n C zd_M_odds_20 rfl rfl ?_
      refine nk_iald C (Nat.le_of_ble_eq_true rfl) rfl zd_M_odds_21 (fun x3 => ?_)
      refine nk_if_ne (tgt := 48) C zd_M_odds_22 (by decide) ?_ ?_
      · refine nk_wk [true, false, false, false, false, false, false, false] ?_
        exact zs_M_odds_b48 C hR hr m2
      · refine nk_iload_n C zd_M_odds_25 rfl rfl ?_
        refine nk_i2l C zd_M_odds_26 ?_
        refine nk_lconst (v := 0) C zd_M_odds_27 (by decide) ?_
        refine nk_ldc2 (v := 102) C zw_915 zd_M_odds_28 ?_
        refine nk_callSi C [.long (a3.toInt64), .long (0 : Int64), .long (102 : Int64)] zv_M_107 hR (zc_M_in (a3.toInt64) (0 : Int64) (102 : Int64) m2) (by omega) rfl rfl (Nat.le_of_ble_eq_true rfl) zd_M_odds_31 (fun r4 m3 => ?_)
        refine nk_if_eq (tgt := 48) C zd_M_odds_34 (by decide) ?_ ?_
        · refine nk_wk [true, false, false, false, false, false, false, false] ?_
          exact zs_M_odds_b48 C hR hr m3
        · refine nk_iload C zd_M_odds_37 rfl ?_
          refine nk_i2l C zd_M_odds_39 ?_
          refine nk_lconst (v := 0) C zd_M_odds_40 (by decide) ?_
          refine nk_lconst (v := 1) C zd_M_odds_41 (by decide) ?_
          refine nk_callSi C [.long (a4.toInt64), .long (0 : Int64), .long (1 : Int64)] zv_M_107 hR (zc_M_in (a4.toInt64) (0 : Int64) (1 : Int64) m3) (by omega) rfl rfl (Nat.le_of_ble_eq_true rfl) zd_M_odds_42 (fun r5 m4 => ?_)
          refine nk_if_ne (tgt := 52) C zd_M_odds_45 (by decide) ?_ ?_
          · refine nk_aload_n C zd_M_odds_52 rfl rfl ?_
            refine nk_callVv C [] zv_M_299 hR (zc_M_keeps m4) (by omega) (Nat.le_of_ble_eq_true rfl) rfl rfl rfl rfl (Nat.le_of_ble_eq_true rfl) zd_M_odds_53 (fun m5 => ?_)
            refine nk_aload_n C zd_M_odds_56 rfl rfl ?_
            refine nk_getR C (r := 4) za_M_19 (Nat.le_of_ble_eq_true rfl) rfl rfl zd_M_odds_57 ?_
            refine nk_iconst (v := 3) C zd_M_odds_60 (by decide) ?_
            refine nk_iload_n C zd_M_odds_61 rfl rfl ?_
            refine nk_imul C zd_M_odds_62 ?_
            refine nk_iald C (Nat.le_of_ble_eq_true rfl) rfl zd_M_odds_63 (fun x7 => ?_)
            refine nk_istore C zd_M_odds_64 (Nat.le_of_ble_eq_true rfl) rfl ?_
            refine nk_iconst (v := 0) C zd_M_odds_66 (by decide) ?_
            refine nk_istore C zd_M_odds_67 (Nat.le_of_ble_eq_true rfl) rfl ?_
            refine nk_iconst (v := 0) C zd_M_odds_69 (by decide) ?_
            refine nk_istore C zd_M_odds_70 (Nat.le_of_ble_eq_true rfl) rfl ?_
            exact zs_M_odds_b72 C hR hr nk_fu a1 a2 a3 a4 x7 (0 : Int32) (0 : Int32) m5
          · refine nk_wk [true, false, false, false, false, false, false, false] ?_
            exact zs_M_odds_b48 C hR hr m4

/-! ===== 14: decode rows, meanings (zf_) and contracts (zc_) of methods (written by program) ===== -/
theorem zd_M_begins_0 : decode zb_M_begins 0 = .ok (.aload_n 0, 1) := by decide +kernel
theorem zd_M_begins_1 : decode zb_M_begins 1 = .ok (.getfield 16, 3) := by decide +kernel
theorem zd_M_begins_4 : decode zb_M_begins 4 = .ok (.iload_n 1, 1) := by decide +kernel
theorem zd_M_begins_5 : decode zb_M_begins 5 = .ok (.iaload, 1) := by decide +kernel
theorem zd_M_begins_6 : decode zb_M_begins 6 = .ok (.istore_n 2, 1) := by decide +kernel
theorem zd_M_begins_7 : decode zb_M_begins 7 = .ok (.aload_n 0, 1) := by decide +kernel
theorem zd_M_begins_8 : decode zb_M_begins 8 = .ok (.getfield 49, 3) := by decide +kernel
theorem zd_M_begins_11 : decode zb_M_begins 11 = .ok (.aload_n 0, 1) := by decide +kernel
theorem zd_M_begins_12 : decode zb_M_begins 12 = .ok (.getfield 184, 3) := by decide +kernel
theorem zd_M_begins_15 : decode zb_M_begins 15 = .ok (.iconst 1, 1) := by decide +kernel
theorem zd_M_begins_16 : decode zb_M_begins 16 = .ok (.isub, 1) := by decide +kernel
theorem zd_M_begins_17 : decode zb_M_begins 17 = .ok (.iconst 1, 1) := by decide +kernel
theorem zd_M_begins_18 : decode zb_M_begins 18 = .ok (.iastore, 1) := by decide +kernel
theorem zd_M_begins_19 : decode zb_M_begins 19 = .ok (.aload_n 0, 1) := by decide +kernel
theorem zd_M_begins_20 : decode zb_M_begins 20 = .ok (.getfield 187, 3) := by decide +kernel
theorem zd_M_begins_23 : decode zb_M_begins 23 = .ok (.ifCond .ne 25, 3) := by decide +kernel
theorem zd_M_begins_26 : decode zb_M_begins 26 = .ok (.aload_n 0, 1) := by decide +kernel
theorem zd_M_begins_27 : decode zb_M_begins 27 = .ok (.getfield 43, 3) := by decide +kernel
theorem zd_M_begins_30 : decode zb_M_begins 30 = .ok (.iload_n 1, 1) := by decide +kernel
theorem zd_M_begins_31 : decode zb_M_begins 31 = .ok (.iaload, 1) := by decide +kernel
theorem zd_M_begins_32 : decode zb_M_begins 32 = .ok (.ifCond .lt 16, 3) := by decide +kernel
theorem zd_M_begins_35 : decode zb_M_begins 35 = .ok (.aload_n 0, 1) := by decide +kernel
theorem zd_M_begins_36 : decode zb_M_begins 36 = .ok (.aload_n 0, 1) := by decide +kernel
theorem zd_M_begins_37 : decode zb_M_begins 37 = .ok (.getfield 43, 3) := by decide +kernel
theorem zd_M_begins_40 : decode zb_M_begins 40 = .ok (.iload_n 1, 1) := by decide +kernel
theorem zd_M_begins_41 : decode zb_M_begins 41 = .ok (.iaload, 1) := by decide +kernel
theorem zd_M_begins_42 : decode zb_M_begins 42 = .ok (.invokevirtual 221, 3) := by decide +kernel
theorem zd_M_begins_45 : decode zb_M_begins 45 = .ok (.goto 74, 3) := by decide +kernel
theorem zd_M_begins_48 : decode zb_M_begins 48 = .ok (.iload_n 2, 1) := by decide +kernel
theorem zd_M_begins_49 : decode zb_M_begins 49 = .ok (.ifCond .ne 18, 3) := by decide +kernel
theorem zd_M_begins_52 : decode zb_M_begins 52 = .ok (.aload_n 0, 1) := by decide +kernel
theorem zd_M_begins_53 : decode zb_M_begins 53 = .ok (.aload_n 0, 1) := by decide +kernel
theorem zd_M_begins_54 : decode zb_M_begins 54 = .ok (.getfield 19, 3) := by decide +kernel
theorem zd_M_begins_57 : decode zb_M_begins 57 = .ok (.iconst 3, 1) := by decide +kernel
theorem zd_M_begins_58 : decode zb_M_begins 58 = .ok (.iload_n 1, 1) := by decide +kernel
theorem zd_M_begins_59 : decode zb_M_begins 59 = .ok (.imul, 1) := by decide +kernel
theorem zd_M_begins_60 : decode zb_M_begins 60 = .ok (.iaload, 1) := by decide +kernel
theorem zd_M_begins_61 : decode zb_M_begins 61 = .ok (.invokevirtual 225, 3) := by decide +kernel
theorem zd_M_begins_64 : decode zb_M_begins 64 = .ok (.goto 55, 3) := by decide +kernel
theorem zd_M_begins_67 : decode zb_M_begins 67 = .ok (.iload_n 2, 1) := by decide +kernel
theorem zd_M_begins_68 : decode zb_M_begins 68 = .ok (.iconst 4, 1) := by decide +kernel
theorem zd_M_begins_69 : decode zb_M_begins 69 = .ok (.if_icmp .ne 38, 3) := by decide +kernel
theorem zd_M_begins_72 : decode zb_M_begins 72 = .ok (.aload_n 0, 1) := by decide +kernel
theorem zd_M_begins_73 : decode zb_M_begins 73 = .ok (.aload_n 0, 1) := by decide +kernel
theorem zd_M_begins_74 : decode zb_M_begins 74 = .ok (.getfield 19, 3) := by decide +kernel
theorem zd_M_begins_77 : decode zb_M_begins 77 = .ok (.iconst 3, 1) := by decide +kernel
theorem zd_M_begins_78 : decode zb_M_begins 78 = .ok (.iload_n 1, 1) := by decide +kernel
theorem zd_M_begins_79 : decode zb_M_begins 79 = .ok (.imul, 1) := by decide +kernel
theorem zd_M_begins_80 : decode zb_M_begins 80 = .ok (.iaload, 1) := by decide +kernel
theorem zd_M_begins_81 : decode zb_M_begins 81 = .ok (.putfield 194, 3) := by decide +kernel
theorem zd_M_begins_84 : decode zb_M_begins 84 = .ok (.aload_n 0, 1) := by decide +kernel
theorem zd_M_begins_85 : decode zb_M_begins 85 = .ok (.aload_n 0, 1) := by decide +kernel
theorem zd_M_begins_86 : decode zb_M_begins 86 = .ok (.getfield 19, 3) := by decide +kernel
theorem zd_M_begins_89 : decode zb_M_begins 89 = .ok (.iconst 3, 1) := by decide +kernel
theorem zd_M_begins_90 : decode zb_M_begins 90 = .ok (.iload_n 1, 1) := by decide +kernel
theorem zd_M_begins_91 : decode zb_M_begins 91 = .ok (.imul, 1) := by decide +kernel
theorem zd_M_begins_92 : decode zb_M_begins 92 = .ok (.iconst 1, 1) := by decide +kernel
theorem zd_M_begins_93 : decode zb_M_begins 93 = .ok (.iadd, 1) := by decide +kernel
theorem zd_M_begins_94 : decode zb_M_begins 94 = .ok (.iaload, 1) := by decide +kernel
theorem zd_M_begins_95 : decode zb_M_begins 95 = .ok (.putfield 197, 3) := by decide +kernel
theorem zd_M_begins_98 : decode zb_M_begins 98 = .ok (.aload_n 0, 1) := by decide +kernel
theorem zd_M_begins_99 : decode zb_M_begins 99 = .ok (.bipush 100, 2) := by decide +kernel
theorem zd_M_begins_101 : decode zb_M_begins 101 = .ok (.invokevirtual 225, 3) := by decide +kernel
theorem zd_M_begins_104 : decode zb_M_begins 104 = .ok (.goto 15, 3) := by decide +kernel
theorem zd_M_begins_107 : decode zb_M_begins 107 = .ok (.aload_n 0, 1) := by decide +kernel
theorem zd_M_begins_108 : decode zb_M_begins 108 = .ok (.aload_n 0, 1) := by decide +kernel
theorem zd_M_begins_109 : decode zb_M_begins 109 = .ok (.getfield 19, 3) := by decide +kernel
theorem zd_M_begins_112 : decode zb_M_begins 112 = .ok (.iconst 3, 1) := by decide +kernel
theorem zd_M_begins_113 : decode zb_M_begins 113 = .ok (.iload_n 1, 1) := by decide +kernel
theorem zd_M_begins_114 : decode zb_M_begins 114 = .ok (.imul, 1) := by decide +kernel
theorem zd_M_begins_115 : decode zb_M_begins 115 = .ok (.iaload, 1) := by decide +kernel
theorem zd_M_begins_116 : decode zb_M_begins 116 = .ok (.invokevirtual 221, 3) := by decide +kernel
theorem zd_M_begins_119 : decode zb_M_begins 119 = .ok (.return_, 1) := by decide +kernel
def zf_M_begins_b119   (m0 : nk_M) : Option (Unit × nk_M) := some ((), m0)
set_option maxHeartbeats 4000000 in
set_option maxRecDepth 100000 in
theorem zs_M_begins_b119 {G : nk_V} {X : nk_X}   (C : nk_C "NeedOnceModel" zb_M_begins 3 nk_wR G X) (hR : X.2.2.2.1 = nk_rm 3) (hr : X.2.2.2.2.2.2.2.2.1.sig.returnType = none)  : ∀  (m0 : nk_M), nk_Sim nk_wR G X 3 nk_ov 119 [nk_r G 0, .null, .null] [] m0 (zf_M_begins_b119  m0) := by
  intro m0
  unfold zf_M_begins_b119
  exact nk_vret C hr zd_M_begins_119
def zf_M_begins_b48  (y1 : Int32) (y2 : Int32) (m0 : nk_M) : Option (Unit × nk_M) := (if y2 = 0 then nk_ald m0 4 24 ((3 : Int32) * y1) (fun x6 => nk_bd (zf_M_isDone x6 m0) (fun _ m5 => (zf_M_begins_b119 m5))) else (if y2 = (4 : Int32) then nk_ald m0 4 24 ((3 : Int32) * y1) (fun x3 => nk_pf m0 0 22 x3 (fun m2 => nk_ald m2 4 24 (((3 : Int32) * y1) + (1 : Int32)) (fun x4 => nk_pf m2 0 23 x4 (fun m3 => nk_bd (zf_M_isDone (100 : Int32) m3) (fun _ m4 => (zf_M_begins_b119 m4)))))) else nk_ald m0 4 24 ((3 : Int32) * y1) (fun x1 => nk_bd (zf_M_wants x1 m0) (fun _ m1 => (zf_M_begins_b119 m1)))))
set_option maxHeartbeats 4000000 in
set_option maxRecDepth 100000 in
theorem zs_M_begins_b48 {G : nk_V} {X : nk_X}   (C : nk_C "NeedOnceModel" zb_M_begins 3 nk_wR G X) (hR : X.2.2.2.1 = nk_rm 3) (hr : X.2.2.2.2.2.2.2.2.1.sig.returnType = none)  : ∀ (y1 : Int32) (y2 : Int32) (m0 : nk_M), nk_Sim nk_wR G X 3 nk_ov 48 [nk_r G 0, .int y1, .int y2] [] m0 (zf_M_begins_b48 y1 y2 m0) := by
  intro y1 y2 m0
  unfold zf_M_begins_b48
  refine nk_iload_n C zd_M_begins_48 rfl rfl ?_
  refine nk_if_ne (tgt := 67) C zd_M_begins_49 (by decide) ?_ ?_
  · refine nk_iload_n C zd_M_begins_67 rfl rfl ?_
    refine nk_iconst (v := 4) C zd_M_begins_68 (by decide) ?_
    refine nk_icmp_ne (tgt := 107) C zd_M_begins_69 (by decide) ?_ ?_
    · refine nk_aload_n C zd_M_begins_107 rfl rfl ?_
      refine nk_aload_n C zd_M_begins_108 rfl rfl ?_
      refine nk_getR C (r := 4) za_M_19 (Nat.le_of_ble_eq_true rfl) rfl rfl zd_M_begins_109 ?_
      refine nk_iconst (v := 3) C zd_M_begins_112 (by decide) ?_
      refine nk_iload_n C zd_M_begins_113 rfl rfl ?_
      refine nk_imul C zd_M_begins_114 ?_
      refine nk_iald C (Nat.le_of_ble_eq_true rfl) rfl zd_M_begins_115 (fun x1 => ?_)
      refine nk_callVv C [.int x1] zv_M_221 hR (zc_M_wants x1 m0) (by omega) (Nat.le_of_ble_eq_true rfl) rfl rfl rfl rfl (Nat.le_of_ble_eq_true rfl) zd_M_begins_116 (fun m1 => ?_)
      refine nk_wk [true, false, false] ?_
      exact zs_M_begins_b119 C hR hr m1
    · refine nk_aload_n C zd_M_begins_72 rfl rfl ?_
      refine nk_aload_n C zd_M_begins_73 rfl rfl ?_
      refine nk_getR C (r := 4) za_M_19 (Nat.le_of_ble_eq_true rfl) rfl rfl zd_M_begins_74 ?_
      refine nk_iconst (v := 3) C zd_M_begins_77 (by decide) ?_
      refine nk_iload_n C zd_M_begins_78 rfl rfl ?_
      refine nk_imul C zd_M_begins_79 ?_
      refine nk_iald C (Nat.le_of_ble_eq_true rfl) rfl zd_M_begins_80 (fun x3 => ?_)
      refine nk_putI C zp_M_194 (Nat.le_of_ble_eq_true rfl) rfl rfl zd_M_begins_81 (fun m2 => ?_)
      refine nk_aload_n C zd_M_begins_84 rfl rfl ?_
      refine nk_aload_n C zd_M_begins_85 rfl rfl ?_
      refine nk_getR C (r := 4) za_M_19 (Nat.le_of_ble_eq_true rfl) rfl rfl zd_M_begins_86 ?_
      refine nk_iconst (v := 3) C zd_M_begins_89 (by decide) ?_
      refine nk_iload_n C zd_M_begins_90 rfl rfl ?_
      refine nk_imul C zd_M_begins_91 ?_
      refine nk_iconst (v := 1) C zd_M_begins_92 (by decide) ?_
      refine nk_iadd C zd_M_begins_93 ?_
      refine nk_iald C (Nat.le_of_ble_eq_true rfl) rfl zd_M_begins_94 (fun x4 => ?_)
      refine nk_putI C zp_M_197 (Nat.le_of_ble_eq_true rfl) rfl rfl zd_M_begins_95 (fun m3 => ?_)
      refine nk_aload_n C zd_M_begins_98 rfl rfl ?_
      refine nk_bipush (v := 100) C zd_M_begins_99 (by decide) ?_
      refine nk_callVv C [.int (100 : Int32)] zv_M_225 hR (zc_M_isDone (100 : Int32) m3) (by omega) (Nat.le_of_ble_eq_true rfl) rfl rfl rfl rfl (Nat.le_of_ble_eq_true rfl) zd_M_begins_101 (fun m4 => ?_)
      refine nk_goto (tgt := 119) C zd_M_begins_104 (by decide) ?_
      refine nk_wk [true, false, false] ?_
      exact zs_M_begins_b119 C hR hr m4
  · refine nk_aload_n C zd_M_begins_52 rfl rfl ?_
    refine nk_aload_n C zd_M_begins_53 rfl rfl ?_
    refine nk_getR C (r := 4) za_M_19 (Nat.le_of_ble_eq_true rfl) rfl rfl zd_M_begins_54 ?_
    refine nk_iconst (v := 3) C zd_M_begins_57 (by decide) ?_
    refine nk_iload_n C zd_M_begins_58 rfl rfl ?_
    refine nk_imul C zd_M_begins_59 ?_
    refine nk_iald C (Nat.le_of_ble_eq_true rfl) rfl zd_M_begins_60 (fun x6 => ?_)
    refine nk_callVv C [.int x6] zv_M_225 hR (zc_M_isDone x6 m0) (by omega) (Nat.le_of_ble_eq_true rfl) rfl rfl rfl rfl (Nat.le_of_ble_eq_true rfl) zd_M_begins_61 (fun m5 => ?_)
    refine nk_goto (tgt := 119) C zd_M_begins_64 (by decide) ?_
    refine nk_wk [true, false, false] ?_
    exact zs_M_begins_b119 C hR hr m5
def zf_M_begins  (a1 : Int32) (m0 : nk_M) : Option (Unit × nk_M) := nk_ald m0 3 8 a1 (fun x1 => nk_ast m0 14 8 ((m0 0 17) - (1 : Int32)) (1 : Int32) (fun m1 => (if (m1 0 29) = 0 then nk_ald m1 12 8 a1 (fun x2 => (if x2 < 0 then (zf_M_begins_b48 a1 x1 m1) else nk_ald m1 12 8 a1 (fun x3 => nk_bd (zf_M_wants x3 m1) (fun _ m2 => (zf_M_begins_b119 m2))))) else (zf_M_begins_b48 a1 x1 m1))))
set_option maxHeartbeats 4000000 in
set_option maxRecDepth 100000 in
theorem zc_M_begins {l : Launch} {G : nk_V}   (a1 : Int32) (m0 : nk_M) : nk_Ct l nk_wR G 3 zy_M_begins zb_M_begins 3 none nk_ov [nk_r G 0, .int a1] m0 (zf_M_begins  a1 m0) := by
  refine nk_ent (own := "NeedOnceModel") (lv := [nk_r G 0, .int a1, .null]) 1 rfl (by decide) (Nat.le_of_ble_eq_true rfl) rfl (fun X hl hR C hr => ?_)
  subst hl
  unfold zf_M_begins
  refine nk_aload_n C zd_M_begins_0 rfl rfl ?_
  refine nk_getR C (r := 3) za_M_16 (Nat.le_of_ble_eq_true rfl) rfl rfl zd_M_begins_1 ?_
  refine nk_iload_n C zd_M_begins_4 rfl rfl ?_
  refine nk_iald C (Nat.le_of_ble_eq_true rfl) rfl zd_M_begins_5 (fun x1 => ?_)
  refine nk_istore_n C zd_M_begins_6 rfl (Nat.le_of_ble_eq_true rfl) rfl ?_
  refine nk_aload_n C zd_M_begins_7 rfl rfl ?_
  refine nk_getR C (r := 14) za_M_49 (Nat.le_of_ble_eq_true rfl) rfl rfl zd_M_begins_8 ?_
  refine nk_aload_n C zd_M_begins_11 rfl rfl ?_
  refine nk_getI C za_M_184 (Nat.le_of_ble_eq_true rfl) rfl rfl zd_M_begins_12 ?_
  refine nk_iconst (v := 1) C zd_M_begins_15 (by decide) ?_
  refine nk_isub C zd_M_begins_16 ?_
  refine nk_iconst (v := 1) C zd_M_begins_17 (by decide) ?_
  refine nk_iast C (Nat.le_of_ble_eq_true rfl) rfl zd_M_begins_18 (fun m1 => ?_)
  refine nk_aload_n C zd_M_begins_19 rfl rfl ?_
  refine nk_getI C za_M_187 (Nat.le_of_ble_eq_true rfl) rfl rfl zd_M_begins_20 ?_
  refine nk_if_ne (tgt := 48) C zd_M_begins_23 (by decide) ?_ ?_
  · exact zs_M_begins_b48 C hR hr a1 x1 m1
  · refine nk_aload_n C zd_M_begins_26 rfl rfl ?_
    refine nk_getR C (r := 12) za_M_43 (Nat.le_of_ble_eq_true rfl) rfl rfl zd_M_begins_27 ?_
    refine nk_iload_n C zd_M_begins_30 rfl rfl ?_
    refine nk_iald C (Nat.le_of_ble_eq_true rfl) rfl zd_M_begins_31 (fun x2 => ?_)
    refine nk_if_lt (tgt := 48) C zd_M_begins_32 (by decide) ?_ ?_
    · exact zs_M_begins_b48 C hR hr a1 x1 m1
    · refine nk_aload_n C zd_M_begins_35 rfl rfl ?_
      refine nk_aload_n C zd_M_begins_36 rfl rfl ?_
      refine nk_getR C (r := 12) za_M_43 (Nat.le_of_ble_eq_true rfl) rfl rfl zd_M_begins_37 ?_
      refine nk_iload_n C zd_M_begins_40 rfl rfl ?_
      refine nk_iald C (Nat.le_of_ble_eq_true rfl) rfl zd_M_begins_41 (fun x3 => ?_)
      refine nk_callVv C [.int x3] zv_M_221 hR (zc_M_wants x3 m1) (by omega) (Nat.le_of_ble_eq_true rfl) rfl rfl rfl rfl (Nat.le_of_ble_eq_true rfl) zd_M_begins_42 (fun m2 => ?_)
      refine nk_goto (tgt := 119) C zd_M_begins_45 (by decide) ?_
      refine nk_wk [true, false, false] ?_
      exact zs_M_begins_b119 C hR hr m2
theorem zd_M_hasFirst_0 : decode zb_M_hasFirst 0 = .ok (.aload_n 0, 1) := by decide +kernel
theorem zd_M_hasFirst_1 : decode zb_M_hasFirst 1 = .ok (.getfield 16, 3) := by decide +kernel
theorem zd_M_hasFirst_4 : decode zb_M_hasFirst 4 = .ok (.iload_n 1, 1) := by decide +kernel
theorem zd_M_hasFirst_5 : decode zb_M_hasFirst 5 = .ok (.iaload, 1) := by decide +kernel
theorem zd_M_hasFirst_6 : decode zb_M_hasFirst 6 = .ok (.istore_n 2, 1) := by decide +kernel
theorem zd_M_hasFirst_7 : decode zb_M_hasFirst 7 = .ok (.aload_n 0, 1) := by decide +kernel
theorem zd_M_hasFirst_8 : decode zb_M_hasFirst 8 = .ok (.getfield 191, 3) := by decide +kernel
theorem zd_M_hasFirst_11 : decode zb_M_hasFirst 11 = .ok (.bipush 101, 2) := by decide +kernel
theorem zd_M_hasFirst_13 : decode zb_M_hasFirst 13 = .ok (.if_icmp .eq 28, 3) := by decide +kernel
theorem zd_M_hasFirst_16 : decode zb_M_hasFirst 16 = .ok (.aload_n 0, 1) := by decide +kernel
theorem zd_M_hasFirst_17 : decode zb_M_hasFirst 17 = .ok (.getfield 191, 3) := by decide +kernel
theorem zd_M_hasFirst_20 : decode zb_M_hasFirst 20 = .ok (.bipush 102, 2) := by decide +kernel
theorem zd_M_hasFirst_22 : decode zb_M_hasFirst 22 = .ok (.if_icmp .eq 19, 3) := by decide +kernel
theorem zd_M_hasFirst_25 : decode zb_M_hasFirst 25 = .ok (.aload_n 0, 1) := by decide +kernel
theorem zd_M_hasFirst_26 : decode zb_M_hasFirst 26 = .ok (.getfield 187, 3) := by decide +kernel
theorem zd_M_hasFirst_29 : decode zb_M_hasFirst 29 = .ok (.ifCond .ne 23, 3) := by decide +kernel
theorem zd_M_hasFirst_32 : decode zb_M_hasFirst 32 = .ok (.aload_n 0, 1) := by decide +kernel
theorem zd_M_hasFirst_33 : decode zb_M_hasFirst 33 = .ok (.getfield 43, 3) := by decide +kernel
theorem zd_M_hasFirst_36 : decode zb_M_hasFirst 36 = .ok (.iload_n 1, 1) := by decide +kernel
theorem zd_M_hasFirst_37 : decode zb_M_hasFirst 37 = .ok (.iaload, 1) := by decide +kernel
theorem zd_M_hasFirst_38 : decode zb_M_hasFirst 38 = .ok (.ifCond .lt 14, 3) := by decide +kernel
theorem zd_M_hasFirst_41 : decode zb_M_hasFirst 41 = .ok (.aload_n 0, 1) := by decide +kernel
theorem zd_M_hasFirst_42 : decode zb_M_hasFirst 42 = .ok (.aload_n 0, 1) := by decide +kernel
theorem zd_M_hasFirst_43 : decode zb_M_hasFirst 43 = .ok (.getfield 191, 3) := by decide +kernel
theorem zd_M_hasFirst_46 : decode zb_M_hasFirst 46 = .ok (.invokevirtual 225, 3) := by decide +kernel
theorem zd_M_hasFirst_49 : decode zb_M_hasFirst 49 = .ok (.goto 159, 3) := by decide +kernel
theorem zd_M_hasFirst_52 : decode zb_M_hasFirst 52 = .ok (.aload_n 0, 1) := by decide +kernel
theorem zd_M_hasFirst_53 : decode zb_M_hasFirst 53 = .ok (.getfield 191, 3) := by decide +kernel
theorem zd_M_hasFirst_56 : decode zb_M_hasFirst 56 = .ok (.bipush 100, 2) := by decide +kernel
theorem zd_M_hasFirst_58 : decode zb_M_hasFirst 58 = .ok (.if_icmp .ne 7, 3) := by decide +kernel
theorem zd_M_hasFirst_61 : decode zb_M_hasFirst 61 = .ok (.iconst 1, 1) := by decide +kernel
theorem zd_M_hasFirst_62 : decode zb_M_hasFirst 62 = .ok (.goto 4, 3) := by decide +kernel
theorem zd_M_hasFirst_65 : decode zb_M_hasFirst 65 = .ok (.iconst 0, 1) := by decide +kernel
theorem zd_M_hasFirst_66 : decode zb_M_hasFirst 66 = .ok (.iload_n 2, 1) := by decide +kernel
theorem zd_M_hasFirst_67 : decode zb_M_hasFirst 67 = .ok (.iconst 4, 1) := by decide +kernel
theorem zd_M_hasFirst_68 : decode zb_M_hasFirst 68 = .ok (.if_icmp .le 7, 3) := by decide +kernel
theorem zd_M_hasFirst_71 : decode zb_M_hasFirst 71 = .ok (.iconst 1, 1) := by decide +kernel
theorem zd_M_hasFirst_72 : decode zb_M_hasFirst 72 = .ok (.goto 4, 3) := by decide +kernel
theorem zd_M_hasFirst_75 : decode zb_M_hasFirst 75 = .ok (.iconst 0, 1) := by decide +kernel
theorem zd_M_hasFirst_76 : decode zb_M_hasFirst 76 = .ok (.if_icmp .eq 12, 3) := by decide +kernel
theorem zd_M_hasFirst_79 : decode zb_M_hasFirst 79 = .ok (.aload_n 0, 1) := by decide +kernel
theorem zd_M_hasFirst_80 : decode zb_M_hasFirst 80 = .ok (.bipush 102, 2) := by decide +kernel
theorem zd_M_hasFirst_82 : decode zb_M_hasFirst 82 = .ok (.invokevirtual 225, 3) := by decide +kernel
theorem zd_M_hasFirst_85 : decode zb_M_hasFirst 85 = .ok (.goto 123, 3) := by decide +kernel
theorem zd_M_hasFirst_88 : decode zb_M_hasFirst 88 = .ok (.iload_n 2, 1) := by decide +kernel
theorem zd_M_hasFirst_89 : decode zb_M_hasFirst 89 = .ok (.iconst 3, 1) := by decide +kernel
theorem zd_M_hasFirst_90 : decode zb_M_hasFirst 90 = .ok (.if_icmp .ge 47, 3) := by decide +kernel
theorem zd_M_hasFirst_93 : decode zb_M_hasFirst 93 = .ok (.aload_n 0, 1) := by decide +kernel
theorem zd_M_hasFirst_94 : decode zb_M_hasFirst 94 = .ok (.getfield 52, 3) := by decide +kernel
theorem zd_M_hasFirst_97 : decode zb_M_hasFirst 97 = .ok (.aload_n 0, 1) := by decide +kernel
theorem zd_M_hasFirst_98 : decode zb_M_hasFirst 98 = .ok (.getfield 184, 3) := by decide +kernel
theorem zd_M_hasFirst_101 : decode zb_M_hasFirst 101 = .ok (.iconst 1, 1) := by decide +kernel
theorem zd_M_hasFirst_102 : decode zb_M_hasFirst 102 = .ok (.isub, 1) := by decide +kernel
theorem zd_M_hasFirst_103 : decode zb_M_hasFirst 103 = .ok (.aload_n 0, 1) := by decide +kernel
theorem zd_M_hasFirst_104 : decode zb_M_hasFirst 104 = .ok (.getfield 191, 3) := by decide +kernel
theorem zd_M_hasFirst_107 : decode zb_M_hasFirst 107 = .ok (.iastore, 1) := by decide +kernel
theorem zd_M_hasFirst_108 : decode zb_M_hasFirst 108 = .ok (.aload_n 0, 1) := by decide +kernel
theorem zd_M_hasFirst_109 : decode zb_M_hasFirst 109 = .ok (.getfield 49, 3) := by decide +kernel
theorem zd_M_hasFirst_112 : decode zb_M_hasFirst 112 = .ok (.aload_n 0, 1) := by decide +kernel
theorem zd_M_hasFirst_113 : decode zb_M_hasFirst 113 = .ok (.getfield 184, 3) := by decide +kernel
theorem zd_M_hasFirst_116 : decode zb_M_hasFirst 116 = .ok (.iconst 1, 1) := by decide +kernel
theorem zd_M_hasFirst_117 : decode zb_M_hasFirst 117 = .ok (.isub, 1) := by decide +kernel
theorem zd_M_hasFirst_118 : decode zb_M_hasFirst 118 = .ok (.iconst 2, 1) := by decide +kernel
theorem zd_M_hasFirst_119 : decode zb_M_hasFirst 119 = .ok (.iastore, 1) := by decide +kernel
theorem zd_M_hasFirst_120 : decode zb_M_hasFirst 120 = .ok (.aload_n 0, 1) := by decide +kernel
theorem zd_M_hasFirst_121 : decode zb_M_hasFirst 121 = .ok (.aload_n 0, 1) := by decide +kernel
theorem zd_M_hasFirst_122 : decode zb_M_hasFirst 122 = .ok (.getfield 19, 3) := by decide +kernel
theorem zd_M_hasFirst_125 : decode zb_M_hasFirst 125 = .ok (.iconst 3, 1) := by decide +kernel
theorem zd_M_hasFirst_126 : decode zb_M_hasFirst 126 = .ok (.iload_n 1, 1) := by decide +kernel
theorem zd_M_hasFirst_127 : decode zb_M_hasFirst 127 = .ok (.imul, 1) := by decide +kernel
theorem zd_M_hasFirst_128 : decode zb_M_hasFirst 128 = .ok (.iconst 1, 1) := by decide +kernel
theorem zd_M_hasFirst_129 : decode zb_M_hasFirst 129 = .ok (.iadd, 1) := by decide +kernel
theorem zd_M_hasFirst_130 : decode zb_M_hasFirst 130 = .ok (.iaload, 1) := by decide +kernel
theorem zd_M_hasFirst_131 : decode zb_M_hasFirst 131 = .ok (.invokevirtual 221, 3) := by decide +kernel
theorem zd_M_hasFirst_134 : decode zb_M_hasFirst 134 = .ok (.goto 74, 3) := by decide +kernel
theorem zd_M_hasFirst_137 : decode zb_M_hasFirst 137 = .ok (.aload_n 0, 1) := by decide +kernel
theorem zd_M_hasFirst_138 : decode zb_M_hasFirst 138 = .ok (.getfield 49, 3) := by decide +kernel
theorem zd_M_hasFirst_141 : decode zb_M_hasFirst 141 = .ok (.aload_n 0, 1) := by decide +kernel
theorem zd_M_hasFirst_142 : decode zb_M_hasFirst 142 = .ok (.getfield 184, 3) := by decide +kernel
theorem zd_M_hasFirst_145 : decode zb_M_hasFirst 145 = .ok (.iconst 1, 1) := by decide +kernel
theorem zd_M_hasFirst_146 : decode zb_M_hasFirst 146 = .ok (.isub, 1) := by decide +kernel
theorem zd_M_hasFirst_147 : decode zb_M_hasFirst 147 = .ok (.iconst 3, 1) := by decide +kernel
theorem zd_M_hasFirst_148 : decode zb_M_hasFirst 148 = .ok (.iastore, 1) := by decide +kernel
theorem zd_M_hasFirst_149 : decode zb_M_hasFirst 149 = .ok (.aload_n 0, 1) := by decide +kernel
theorem zd_M_hasFirst_150 : decode zb_M_hasFirst 150 = .ok (.iload_n 2, 1) := by decide +kernel
theorem zd_M_hasFirst_151 : decode zb_M_hasFirst 151 = .ok (.iconst 5, 1) := by decide +kernel
theorem zd_M_hasFirst_152 : decode zb_M_hasFirst 152 = .ok (.if_icmp .ne 10, 3) := by decide +kernel
theorem zd_M_hasFirst_155 : decode zb_M_hasFirst 155 = .ok (.aload_n 0, 1) := by decide +kernel
theorem zd_M_hasFirst_156 : decode zb_M_hasFirst 156 = .ok (.getfield 194, 3) := by decide +kernel
theorem zd_M_hasFirst_159 : decode zb_M_hasFirst 159 = .ok (.goto 46, 3) := by decide +kernel
theorem zd_M_hasFirst_162 : decode zb_M_hasFirst 162 = .ok (.iload_n 2, 1) := by decide +kernel
theorem zd_M_hasFirst_163 : decode zb_M_hasFirst 163 = .ok (.bipush 6, 2) := by decide +kernel
theorem zd_M_hasFirst_165 : decode zb_M_hasFirst 165 = .ok (.if_icmp .ne 10, 3) := by decide +kernel
theorem zd_M_hasFirst_168 : decode zb_M_hasFirst 168 = .ok (.aload_n 0, 1) := by decide +kernel
theorem zd_M_hasFirst_169 : decode zb_M_hasFirst 169 = .ok (.getfield 197, 3) := by decide +kernel
theorem zd_M_hasFirst_172 : decode zb_M_hasFirst 172 = .ok (.goto 33, 3) := by decide +kernel
theorem zd_M_hasFirst_175 : decode zb_M_hasFirst 175 = .ok (.aload_n 0, 1) := by decide +kernel
theorem zd_M_hasFirst_176 : decode zb_M_hasFirst 176 = .ok (.getfield 191, 3) := by decide +kernel
theorem zd_M_hasFirst_179 : decode zb_M_hasFirst 179 = .ok (.ifCond .eq 16, 3) := by decide +kernel
theorem zd_M_hasFirst_182 : decode zb_M_hasFirst 182 = .ok (.aload_n 0, 1) := by decide +kernel
theorem zd_M_hasFirst_183 : decode zb_M_hasFirst 183 = .ok (.getfield 19, 3) := by decide +kernel
theorem zd_M_hasFirst_186 : decode zb_M_hasFirst 186 = .ok (.iconst 3, 1) := by decide +kernel
theorem zd_M_hasFirst_187 : decode zb_M_hasFirst 187 = .ok (.iload_n 1, 1) := by decide +kernel
theorem zd_M_hasFirst_188 : decode zb_M_hasFirst 188 = .ok (.imul, 1) := by decide +kernel
theorem zd_M_hasFirst_189 : decode zb_M_hasFirst 189 = .ok (.iconst 1, 1) := by decide +kernel
theorem zd_M_hasFirst_190 : decode zb_M_hasFirst 190 = .ok (.iadd, 1) := by decide +kernel
theorem zd_M_hasFirst_191 : decode zb_M_hasFirst 191 = .ok (.iaload, 1) := by decide +kernel
theorem zd_M_hasFirst_192 : decode zb_M_hasFirst 192 = .ok (.goto 13, 3) := by decide +kernel
theorem zd_M_hasFirst_195 : decode zb_M_hasFirst 195 = .ok (.aload_n 0, 1) := by decide +kernel
theorem zd_M_hasFirst_196 : decode zb_M_hasFirst 196 = .ok (.getfield 19, 3) := by decide +kernel
theorem zd_M_hasFirst_199 : decode zb_M_hasFirst 199 = .ok (.iconst 3, 1) := by decide +kernel
theorem zd_M_hasFirst_200 : decode zb_M_hasFirst 200 = .ok (.iload_n 1, 1) := by decide +kernel
theorem zd_M_hasFirst_201 : decode zb_M_hasFirst 201 = .ok (.imul, 1) := by decide +kernel
theorem zd_M_hasFirst_202 : decode zb_M_hasFirst 202 = .ok (.iconst 2, 1) := by decide +kernel
theorem zd_M_hasFirst_203 : decode zb_M_hasFirst 203 = .ok (.iadd, 1) := by decide +kernel
theorem zd_M_hasFirst_204 : decode zb_M_hasFirst 204 = .ok (.iaload, 1) := by decide +kernel
theorem zd_M_hasFirst_205 : decode zb_M_hasFirst 205 = .ok (.invokevirtual 221, 3) := by decide +kernel
theorem zd_M_hasFirst_208 : decode zb_M_hasFirst 208 = .ok (.return_, 1) := by decide +kernel
def zf_M_hasFirst_b208   (m0 : nk_M) : Option (Unit × nk_M) := some ((), m0)
set_option maxHeartbeats 4000000 in
set_option maxRecDepth 100000 in
theorem zs_M_hasFirst_b208 {G : nk_V} {X : nk_X}   (C : nk_C "NeedOnceModel" zb_M_hasFirst 3 nk_wR G X) (hR : X.2.2.2.1 = nk_rm 3) (hr : X.2.2.2.2.2.2.2.2.1.sig.returnType = none)  : ∀  (m0 : nk_M), nk_Sim nk_wR G X 3 nk_ov 208 [nk_r G 0, .null, .null] [] m0 (zf_M_hasFirst_b208  m0) := by
  intro m0
  unfold zf_M_hasFirst_b208
  exact nk_vret C hr zd_M_hasFirst_208
def zf_M_hasFirst_b41   (m0 : nk_M) : Option (Unit × nk_M) := nk_bd (zf_M_isDone (m0 0 21) m0) (fun _ m1 => (zf_M_hasFirst_b208 m1))
set_option maxHeartbeats 4000000 in
set_option maxRecDepth 100000 in
theorem zs_M_hasFirst_b41 {G : nk_V} {X : nk_X}   (C : nk_C "NeedOnceModel" zb_M_hasFirst 3 nk_wR G X) (hR : X.2.2.2.1 = nk_rm 3) (hr : X.2.2.2.2.2.2.2.2.1.sig.returnType = none)  : ∀  (m0 : nk_M), nk_Sim nk_wR G X 3 nk_ov 41 [nk_r G 0, .null, .null] [] m0 (zf_M_hasFirst_b41  m0) := by
  intro m0
  unfold zf_M_hasFirst_b41
  refine nk_aload_n C zd_M_hasFirst_41 rfl rfl ?_
  refine nk_aload_n C zd_M_hasFirst_42 rfl rfl ?_
  refine nk_getI C za_M_191 (Nat.le_of_ble_eq_true rfl) rfl rfl zd_M_hasFirst_43 ?_
  refine nk_callVv C [.int (m0 0 21)] zv_M_225 hR (zc_M_isDone (m0 0 21) m0) (by omega) (Nat.le_of_ble_eq_true rfl) rfl rfl rfl rfl (Nat.le_of_ble_eq_true rfl) zd_M_hasFirst_46 (fun m1 => ?_)
  refine nk_goto (tgt := 208) C zd_M_hasFirst_49 (by decide) ?_
  exact zs_M_hasFirst_b208 C hR hr m1
def zf_M_hasFirst_b205  (u1 : Int32) (m0 : nk_M) : Option (Unit × nk_M) := nk_bd (zf_M_wants u1 m0) (fun _ m1 => (zf_M_hasFirst_b208 m1))
set_option maxHeartbeats 4000000 in
set_option maxRecDepth 100000 in
theorem zs_M_hasFirst_b205 {G : nk_V} {X : nk_X}   (C : nk_C "NeedOnceModel" zb_M_hasFirst 3 nk_wR G X) (hR : X.2.2.2.1 = nk_rm 3) (hr : X.2.2.2.2.2.2.2.2.1.sig.returnType = none)  : ∀ (u1 : Int32) (m0 : nk_M), nk_Sim nk_wR G X 3 nk_ov 205 [nk_r G 0, .null, .null] [.int u1, nk_r G 0] m0 (zf_M_hasFirst_b205 u1 m0) := by
  intro u1 m0
  unfold zf_M_hasFirst_b205
  refine nk_callVv C [.int u1] zv_M_221 hR (zc_M_wants u1 m0) (by omega) (Nat.le_of_ble_eq_true rfl) rfl rfl rfl rfl (Nat.le_of_ble_eq_true rfl) zd_M_hasFirst_205 (fun m1 => ?_)
  exact zs_M_hasFirst_b208 C hR hr m1
def zf_M_hasFirst_b76  (y1 : Int32) (y2 : Int32) (u0 : Int32) (u1 : Int32) (m0 : nk_M) : Option (Unit × nk_M) := (if u0 = u1 then (if (3 : Int32) ≤ y2 then nk_ast m0 14 8 ((m0 0 17) - (1 : Int32)) (3 : Int32) (fun m1 => (if y2 = (5 : Int32) then (zf_M_hasFirst_b205 (m1 0 22) m1) else (if y2 = (6 : Int32) then (zf_M_hasFirst_b205 (m1 0 23) m1) else (if (m1 0 21) = 0 then nk_ald m1 4 24 (((3 : Int32) * y1) + (2 : Int32)) (fun x1 => (zf_M_hasFirst_b205 x1 m1)) else nk_ald m1 4 24 (((3 : Int32) * y1) + (1 : Int32)) (fun x2 => (zf_M_hasFirst_b205 x2 m1)))))) else nk_ast m0 15 8 ((m0 0 17) - (1 : Int32)) (m0 0 21) (fun m2 => nk_ast m2 14 8 ((m2 0 17) - (1 : Int32)) (2 : Int32) (fun m3 => nk_ald m3 4 24 (((3 : Int32) * y1) + (1 : Int32)) (fun x3 => nk_bd (zf_M_wants x3 m3) (fun _ m4 => (zf_M_hasFirst_b208 m4)))))) else nk_bd (zf_M_isDone (102 : Int32) m0) (fun _ m5 => (zf_M_hasFirst_b208 m5)))
set_option maxHeartbeats 4000000 in
set_option maxRecDepth 100000 in
theorem zs_M_hasFirst_b76 {G : nk_V} {X : nk_X}   (C : nk_C "NeedOnceModel" zb_M_hasFirst 3 nk_wR G X) (hR : X.2.2.2.1 = nk_rm 3) (hr : X.2.2.2.2.2.2.2.2.1.sig.returnType = none)  : ∀ (y1 : Int32) (y2 : Int32) (u0 : Int32) (u1 : Int32) (m0 : nk_M), nk_Sim nk_wR G X 3 nk_ov 76 [nk_r G 0, .int y1, .int y2] [.int u1, .int u0] m0 (zf_M_hasFirst_b76 y1 y2 u0 u1 m0) := by
  intro y1 y2 u0 u1 m0
  unfold zf_M_hasFirst_b76
  refine nk_icmp_eq (tgt := 88) C zd_M_hasFirst_76 (by decide) ?_ ?_
  · refine nk_iload_n C zd_M_hasFirst_88 rfl rfl ?_
    refine nk_iconst (v := 3) C zd_M_hasFirst_89 (by decide) ?_
    refine nk_icmp_ge (tgt := 137) C zd_M_hasFirst_90 (by decide) ?_ ?_
    · refine nk_aload_n C zd_M_hasFirst_137 rfl rfl ?_
      refine nk_getR C (r := 14) za_M_49 (Nat.le_of_ble_eq_true rfl) rfl rfl zd_M_hasFirst_138 ?_
      refine nk_aload_n C zd_M_hasFirst_141 rfl rfl ?_
      refine nk_getI C za_M_184 (Nat.le_of_ble_eq_true rfl) rfl rfl zd_M_hasFirst_142 ?_
      refine nk_iconst (v := 1) C zd_M_hasFirst_145 (by decide) ?_
      refine nk_isub C zd_M_hasFirst_146 ?_
      refine nk_iconst (v := 3) C zd_M_hasFirst_147 (by decide) ?_
      refine nk_iast C (Nat.le_of_ble_eq_true rfl) rfl zd_M_hasFirst_148 (fun m1 => ?_)
      refine nk_aload_n C zd_M_hasFirst_149 rfl rfl ?_
      refine nk_iload_n C zd_M_hasFirst_150 rfl rfl ?_
      refine nk_iconst (v := 5) C zd_M_hasFirst_151 (by decide) ?_
      refine nk_icmp_ne (tgt := 162) C zd_M_hasFirst_152 (by decide) ?_ ?_
      · refine nk_iload_n C zd_M_hasFirst_162 rfl rfl ?_
        refine nk_bipush (v := 6) C zd_M_hasFirst_163 (by decide) ?_
        refine nk_icmp_ne (tgt := 175) C zd_M_hasFirst_165 (by decide) ?_ ?_
        · refine nk_aload_n C zd_M_hasFirst_175 rfl rfl ?_
          refine nk_getI C za_M_191 (Nat.le_of_ble_eq_true rfl) rfl rfl zd_M_hasFirst_176 ?_
          refine nk_if_eq (tgt := 195) C zd_M_hasFirst_179 (by decide) ?_ ?_
          · refine nk_aload_n C zd_M_hasFirst_195 rfl rfl ?_
            refine nk_getR C (r := 4) za_M_19 (Nat.le_of_ble_eq_true rfl) rfl rfl zd_M_hasFirst_196 ?_
            refine nk_iconst (v := 3) C zd_M_hasFirst_199 (by decide) ?_
            refine nk_iload_n C zd_M_hasFirst_200 rfl rfl ?_
            refine nk_imul C zd_M_hasFirst_201 ?_
            refine nk_iconst (v := 2) C zd_M_hasFirst_202 (by decide) ?_
            refine nk_iadd C zd_M_hasFirst_203 ?_
            refine nk_iald C (Nat.le_of_ble_eq_true rfl) rfl zd_M_hasFirst_204 (fun x1 => ?_)
            refine nk_wk [true, false, false] ?_
            exact zs_M_hasFirst_b205 C hR hr x1 m1
          · refine nk_aload_n C zd_M_hasFirst_182 rfl rfl ?_
            refine nk_getR C (r := 4) za_M_19 (Nat.le_of_ble_eq_true rfl) rfl rfl zd_M_hasFirst_183 ?_
            refine nk_iconst (v := 3) C zd_M_hasFirst_186 (by decide) ?_
            refine nk_iload_n C zd_M_hasFirst_187 rfl rfl ?_
            refine nk_imul C zd_M_hasFirst_188 ?_
            refine nk_iconst (v := 1) C zd_M_hasFirst_189 (by decide) ?_
            refine nk_iadd C zd_M_hasFirst_190 ?_
            refine nk_iald C (Nat.le_of_ble_eq_true rfl) rfl zd_M_hasFirst_191 (fun x2 => ?_)
            refine nk_goto (tgt := 205) C zd_M_hasFirst_192 (by decide) ?_
            refine nk_wk [true, false, false] ?_
            exact zs_M_hasFirst_b205 C hR hr x2 m1
        · refine nk_aload_n C zd_M_hasFirst_168 rfl rfl ?_
          refine nk_getI C za_M_197 (Nat.le_of_ble_eq_true rfl) rfl rfl zd_M_hasFirst_169 ?_
          refine nk_goto (tgt := 205) C zd_M_hasFirst_172 (by decide) ?_
          refine nk_wk [true, false, false] ?_
          exact zs_M_hasFirst_b205 C hR hr (m1 0 23) m1
      · refine nk_aload_n C zd_M_hasFirst_155 rfl rfl ?_
        refine nk_getI C za_M_194 (Nat.le_of_ble_eq_true rfl) rfl rfl zd_M_hasFirst_156 ?_
        refine nk_goto (tgt := 205) C zd_M_hasFirst_159 (by decide) ?_
        refine nk_wk [true, false, false] ?_
        exact zs_M_hasFirst_b205 C hR hr (m1 0 22) m1
    · refine nk_aload_n C zd_M_hasFirst_93 rfl rfl ?_
      refine nk_getR C (r := 15) za_M_52 (Nat.le_of_ble_eq_true rfl) rfl rfl zd_M_hasFirst_94 ?_
      refine nk_aload_n C zd_M_hasFirst_97 rfl rfl ?_
      refine nk_getI C za_M_184 (Nat.le_of_ble_eq_true rfl) rfl rfl zd_M_hasFirst_98 ?_
      refine nk_iconst (v := 1) C zd_M_hasFirst_101 (by decide) ?_
      refine nk_isub C zd_M_hasFirst_102 ?_
      refine nk_aload_n C zd_M_hasFirst_103 rfl rfl ?_
      refine nk_getI C za_M_191 (Nat.le_of_ble_eq_true rfl) rfl rfl zd_M_hasFirst_104 ?_
      refine nk_iast C (Nat.le_of_ble_eq_true rfl) rfl zd_M_hasFirst_107 (fun m2 => ?_)
      refine nk_aload_n C zd_M_hasFirst_108 rfl rfl ?_
      refine nk_getR C (r := 14) za_M_49 (Nat.le_of_ble_eq_true rfl) rfl rfl zd_M_hasFirst_109 ?_
      refine nk_aload_n C zd_M_hasFirst_112 rfl rfl ?_
      refine nk_getI C za_M_184 (Nat.le_of_ble_eq_true rfl) rfl rfl zd_M_hasFirst_113 ?_
      refine nk_iconst (v := 1) C zd_M_hasFirst_116 (by decide) ?_
      refine nk_isub C zd_M_hasFirst_117 ?_
      refine nk_iconst (v := 2) C zd_M_hasFirst_118 (by decide) ?_
      refine nk_iast C (Nat.le_of_ble_eq_true rfl) rfl zd_M_hasFirst_119 (fun m3 => ?_)
      refine nk_aload_n C zd_M_hasFirst_120 rfl rfl ?_
      refine nk_aload_n C zd_M_hasFirst_121 rfl rfl ?_
      refine nk_getR C (r := 4) za_M_19 (Nat.le_of_ble_eq_true rfl) rfl rfl zd_M_hasFirst_122 ?_
      refine nk_iconst (v := 3) C zd_M_hasFirst_125 (by decide) ?_
      refine nk_iload_n C zd_M_hasFirst_126 rfl rfl ?_
      refine nk_imul C zd_M_hasFirst_127 ?_
      refine nk_iconst (v := 1) C zd_M_hasFirst_128 (by decide) ?_
      refine nk_iadd C zd_M_hasFirst_129 ?_
      refine nk_iald C (Nat.le_of_ble_eq_true rfl) rfl zd_M_hasFirst_130 (fun x3 => ?_)
      refine nk_callVv C [.int x3] zv_M_221 hR (zc_M_wants x3 m3) (by omega) (Nat.le_of_ble_eq_true rfl) rfl rfl rfl rfl (Nat.le_of_ble_eq_true rfl) zd_M_hasFirst_131 (fun m4 => ?_)
      refine nk_goto (tgt := 208) C zd_M_hasFirst_134 (by decide) ?_
      refine nk_wk [true, false, false] ?_
      exact zs_M_hasFirst_b208 C hR hr m4
  · refine nk_aload_n C zd_M_hasFirst_79 rfl rfl ?_
    refine nk_bipush (v := 102) C zd_M_hasFirst_80 (by decide) ?_
    refine nk_callVv C [.int (102 : Int32)] zv_M_225 hR (zc_M_isDone (102 : Int32) m0) (by omega) (Nat.le_of_ble_eq_true rfl) rfl rfl rfl rfl (Nat.le_of_ble_eq_true rfl) zd_M_hasFirst_82 (fun m5 => ?_)
    refine nk_goto (tgt := 208) C zd_M_hasFirst_85 (by decide) ?_
    refine nk_wk [true, false, false] ?_
    exact zs_M_hasFirst_b208 C hR hr m5
def zf_M_hasFirst_b66  (y1 : Int32) (y2 : Int32) (u0 : Int32) (m0 : nk_M) : Option (Unit × nk_M) := (if y2 ≤ (4 : Int32) then (zf_M_hasFirst_b76 y1 y2 u0 (0 : Int32) m0) else (zf_M_hasFirst_b76 y1 y2 u0 (1 : Int32) m0))
set_option maxHeartbeats 4000000 in
set_option maxRecDepth 100000 in
theorem zs_M_hasFirst_b66 {G : nk_V} {X : nk_X}   (C : nk_C "NeedOnceModel" zb_M_hasFirst 3 nk_wR G X) (hR : X.2.2.2.1 = nk_rm 3) (hr : X.2.2.2.2.2.2.2.2.1.sig.returnType = none)  : ∀ (y1 : Int32) (y2 : Int32) (u0 : Int32) (m0 : nk_M), nk_Sim nk_wR G X 3 nk_ov 66 [nk_r G 0, .int y1, .int y2] [.int u0] m0 (zf_M_hasFirst_b66 y1 y2 u0 m0) := by
  intro y1 y2 u0 m0
  unfold zf_M_hasFirst_b66
  refine nk_iload_n C zd_M_hasFirst_66 rfl rfl ?_
  refine nk_iconst (v := 4) C zd_M_hasFirst_67 (by decide) ?_
  refine nk_icmp_le (tgt := 75) C zd_M_hasFirst_68 (by decide) ?_ ?_
  · refine nk_iconst (v := 0) C zd_M_hasFirst_75 (by decide) ?_
    exact zs_M_hasFirst_b76 C hR hr y1 y2 u0 (0 : Int32) m0
  · refine nk_iconst (v := 1) C zd_M_hasFirst_71 (by decide) ?_
    refine nk_goto (tgt := 76) C zd_M_hasFirst_72 (by decide) ?_
    exact zs_M_hasFirst_b76 C hR hr y1 y2 u0 (1 : Int32) m0
def zf_M_hasFirst_b52  (y1 : Int32) (y2 : Int32) (m0 : nk_M) : Option (Unit × nk_M) := (if (m0 0 21) = (100 : Int32) then (zf_M_hasFirst_b66 y1 y2 (1 : Int32) m0) else (zf_M_hasFirst_b66 y1 y2 (0 : Int32) m0))
set_option maxHeartbeats 4000000 in
set_option maxRecDepth 100000 in
theorem zs_M_hasFirst_b52 {G : nk_V} {X : nk_X}   (C : nk_C "NeedOnceModel" zb_M_hasFirst 3 nk_wR G X) (hR : X.2.2.2.1 = nk_rm 3) (hr : X.2.2.2.2.2.2.2.2.1.sig.returnType = none)  : ∀ (y1 : Int32) (y2 : Int32) (m0 : nk_M), nk_Sim nk_wR G X 3 nk_ov 52 [nk_r G 0, .int y1, .int y2] [] m0 (zf_M_hasFirst_b52 y1 y2 m0) := by
  intro y1 y2 m0
  unfold zf_M_hasFirst_b52
  refine nk_aload_n C zd_M_hasFirst_52 rfl rfl ?_
  refine nk_getI C za_M_191 (Nat.le_of_ble_eq_true rfl) rfl rfl zd_M_hasFirst_53 ?_
  refine nk_bipush (v := 100) C zd_M_hasFirst_56 (by decide) ?_
  refine nk_icmp_ne (tgt := 65) C zd_M_hasFirst_58 (by decide) ?_ ?_
  · refine nk_iconst (v := 0) C zd_M_hasFirst_65 (by decide) ?_
    exact zs_M_hasFirst_b66 C hR hr y1 y2 (0 : Int32) m0
  · refine nk_iconst (v := 1) C zd_M_hasFirst_61 (by decide) ?_
    refine nk_goto (tgt := 66) C zd_M_hasFirst_62 (by decide) ?_
    exact zs_M_hasFirst_b66 C hR hr y1 y2 (1 : Int32) m0
def zf_M_hasFirst  (a1 : Int32) (m0 : nk_M) : Option (Unit × nk_M) := nk_ald m0 3 8 a1 (fun x1 => (if (m0 0 21) = (101 : Int32) then (zf_M_hasFirst_b41 m0) else (if (m0 0 21) = (102 : Int32) then (zf_M_hasFirst_b41 m0) else (if (m0 0 29) = 0 then nk_ald m0 12 8 a1 (fun x2 => (if x2 < 0 then (zf_M_hasFirst_b52 a1 x1 m0) else (zf_M_hasFirst_b41 m0))) else (zf_M_hasFirst_b52 a1 x1 m0)))))
set_option maxHeartbeats 4000000 in
set_option maxRecDepth 100000 in
theorem zc_M_hasFirst {l : Launch} {G : nk_V}   (a1 : Int32) (m0 : nk_M) : nk_Ct l nk_wR G 3 zy_M_hasFirst zb_M_hasFirst 3 none nk_ov [nk_r G 0, .int a1] m0 (zf_M_hasFirst  a1 m0) := by
  refine nk_ent (own := "NeedOnceModel") (lv := [nk_r G 0, .int a1, .null]) 1 rfl (by decide) (Nat.le_of_ble_eq_true rfl) rfl (fun X hl hR C hr => ?_)
  subst hl
  unfold zf_M_hasFirst
  refine nk_aload_n C zd_M_hasFirst_0 rfl rfl ?_
  refine nk_getR C (r := 3) za_M_16 (Nat.le_of_ble_eq_true rfl) rfl rfl zd_M_hasFirst_1 ?_
  refine nk_iload_n C zd_M_hasFirst_4 rfl rfl ?_
  refine nk_iald C (Nat.le_of_ble_eq_true rfl) rfl zd_M_hasFirst_5 (fun x1 => ?_)
  refine nk_istore_n C zd_M_hasFirst_6 rfl (Nat.le_of_ble_eq_true rfl) rfl ?_
  refine nk_aload_n C zd_M_hasFirst_7 rfl rfl ?_
  refine nk_getI C za_M_191 (Nat.le_of_ble_eq_true rfl) rfl rfl zd_M_hasFirst_8 ?_
  refine nk_bipush (v := 101) C zd_M_hasFirst_11 (by decide) ?_
  refine nk_icmp_eq (tgt := 41) C zd_M_hasFirst_13 (by decide) ?_ ?_
  · refine nk_wk [true, false, false] ?_
    exact zs_M_hasFirst_b41 C hR hr m0
  · refine nk_aload_n C zd_M_hasFirst_16 rfl rfl ?_
    refine nk_getI C za_M_191 (Nat.le_of_ble_eq_true rfl) rfl rfl zd_M_hasFirst_17 ?_
    refine nk_bipush (v := 102) C zd_M_hasFirst_20 (by decide) ?_
    refine nk_icmp_eq (tgt := 41) C zd_M_hasFirst_22 (by decide) ?_ ?_
    · refine nk_wk [true, false, false] ?_
      exact zs_M_hasFirst_b41 C hR hr m0
    · refine nk_aload_n C zd_M_hasFirst_25 rfl rfl ?_
      refine nk_getI C za_M_187 (Nat.le_of_ble_eq_true rfl) rfl rfl zd_M_hasFirst_26 ?_
      refine nk_if_ne (tgt := 52) C zd_M_hasFirst_29 (by decide) ?_ ?_
      · exact zs_M_hasFirst_b52 C hR hr a1 x1 m0
      · refine nk_aload_n C zd_M_hasFirst_32 rfl rfl ?_
        refine nk_getR C (r := 12) za_M_43 (Nat.le_of_ble_eq_true rfl) rfl rfl zd_M_hasFirst_33 ?_
        refine nk_iload_n C zd_M_hasFirst_36 rfl rfl ?_
        refine nk_iald C (Nat.le_of_ble_eq_true rfl) rfl zd_M_hasFirst_37 (fun x2 => ?_)
        refine nk_if_lt (tgt := 52) C zd_M_hasFirst_38 (by decide) ?_ ?_
        · exact zs_M_hasFirst_b52 C hR hr a1 x1 m0
        · refine nk_wk [true, false, false] ?_
          exact zs_M_hasFirst_b41 C hR hr m0
theorem zd_M_hasSecond_0 : decode zb_M_hasSecond 0 = .ok (.aload_n 0, 1) := by decide +kernel
theorem zd_M_hasSecond_1 : decode zb_M_hasSecond 1 = .ok (.getfield 191, 3) := by decide +kernel
theorem zd_M_hasSecond_4 : decode zb_M_hasSecond 4 = .ok (.bipush 100, 2) := by decide +kernel
theorem zd_M_hasSecond_6 : decode zb_M_hasSecond 6 = .ok (.if_icmp .lt 28, 3) := by decide +kernel
theorem zd_M_hasSecond_9 : decode zb_M_hasSecond 9 = .ok (.aload_n 0, 1) := by decide +kernel
theorem zd_M_hasSecond_10 : decode zb_M_hasSecond 10 = .ok (.aload_n 0, 1) := by decide +kernel
theorem zd_M_hasSecond_11 : decode zb_M_hasSecond 11 = .ok (.getfield 191, 3) := by decide +kernel
theorem zd_M_hasSecond_14 : decode zb_M_hasSecond 14 = .ok (.bipush 100, 2) := by decide +kernel
theorem zd_M_hasSecond_16 : decode zb_M_hasSecond 16 = .ok (.if_icmp .ne 8, 3) := by decide +kernel
theorem zd_M_hasSecond_19 : decode zb_M_hasSecond 19 = .ok (.bipush 102, 2) := by decide +kernel
theorem zd_M_hasSecond_21 : decode zb_M_hasSecond 21 = .ok (.goto 7, 3) := by decide +kernel
theorem zd_M_hasSecond_24 : decode zb_M_hasSecond 24 = .ok (.aload_n 0, 1) := by decide +kernel
theorem zd_M_hasSecond_25 : decode zb_M_hasSecond 25 = .ok (.getfield 191, 3) := by decide +kernel
theorem zd_M_hasSecond_28 : decode zb_M_hasSecond 28 = .ok (.invokevirtual 225, 3) := by decide +kernel
theorem zd_M_hasSecond_31 : decode zb_M_hasSecond 31 = .ok (.goto 50, 3) := by decide +kernel
theorem zd_M_hasSecond_34 : decode zb_M_hasSecond 34 = .ok (.aload_n 0, 1) := by decide +kernel
theorem zd_M_hasSecond_35 : decode zb_M_hasSecond 35 = .ok (.getfield 52, 3) := by decide +kernel
theorem zd_M_hasSecond_38 : decode zb_M_hasSecond 38 = .ok (.aload_n 0, 1) := by decide +kernel
theorem zd_M_hasSecond_39 : decode zb_M_hasSecond 39 = .ok (.getfield 184, 3) := by decide +kernel
theorem zd_M_hasSecond_42 : decode zb_M_hasSecond 42 = .ok (.iconst 1, 1) := by decide +kernel
theorem zd_M_hasSecond_43 : decode zb_M_hasSecond 43 = .ok (.isub, 1) := by decide +kernel
theorem zd_M_hasSecond_44 : decode zb_M_hasSecond 44 = .ok (.iaload, 1) := by decide +kernel
theorem zd_M_hasSecond_45 : decode zb_M_hasSecond 45 = .ok (.istore_n 2, 1) := by decide +kernel
theorem zd_M_hasSecond_46 : decode zb_M_hasSecond 46 = .ok (.aload_n 0, 1) := by decide +kernel
theorem zd_M_hasSecond_47 : decode zb_M_hasSecond 47 = .ok (.aload_n 0, 1) := by decide +kernel
theorem zd_M_hasSecond_48 : decode zb_M_hasSecond 48 = .ok (.getfield 16, 3) := by decide +kernel
theorem zd_M_hasSecond_51 : decode zb_M_hasSecond 51 = .ok (.iload_n 1, 1) := by decide +kernel
theorem zd_M_hasSecond_52 : decode zb_M_hasSecond 52 = .ok (.iaload, 1) := by decide +kernel
theorem zd_M_hasSecond_53 : decode zb_M_hasSecond 53 = .ok (.iconst 1, 1) := by decide +kernel
theorem zd_M_hasSecond_54 : decode zb_M_hasSecond 54 = .ok (.if_icmp .ne 15, 3) := by decide +kernel
theorem zd_M_hasSecond_57 : decode zb_M_hasSecond 57 = .ok (.iload_n 2, 1) := by decide +kernel
theorem zd_M_hasSecond_58 : decode zb_M_hasSecond 58 = .ok (.aload_n 0, 1) := by decide +kernel
theorem zd_M_hasSecond_59 : decode zb_M_hasSecond 59 = .ok (.getfield 191, 3) := by decide +kernel
theorem zd_M_hasSecond_62 : decode zb_M_hasSecond 62 = .ok (.iadd, 1) := by decide +kernel
theorem zd_M_hasSecond_63 : decode zb_M_hasSecond 63 = .ok (.bipush 100, 2) := by decide +kernel
theorem zd_M_hasSecond_65 : decode zb_M_hasSecond 65 = .ok (.irem, 1) := by decide +kernel
theorem zd_M_hasSecond_66 : decode zb_M_hasSecond 66 = .ok (.goto 12, 3) := by decide +kernel
theorem zd_M_hasSecond_69 : decode zb_M_hasSecond 69 = .ok (.iload_n 2, 1) := by decide +kernel
theorem zd_M_hasSecond_70 : decode zb_M_hasSecond 70 = .ok (.aload_n 0, 1) := by decide +kernel
theorem zd_M_hasSecond_71 : decode zb_M_hasSecond 71 = .ok (.getfield 191, 3) := by decide +kernel
theorem zd_M_hasSecond_74 : decode zb_M_hasSecond 74 = .ok (.imul, 1) := by decide +kernel
theorem zd_M_hasSecond_75 : decode zb_M_hasSecond 75 = .ok (.bipush 100, 2) := by decide +kernel
theorem zd_M_hasSecond_77 : decode zb_M_hasSecond 77 = .ok (.irem, 1) := by decide +kernel
theorem zd_M_hasSecond_78 : decode zb_M_hasSecond 78 = .ok (.invokevirtual 225, 3) := by decide +kernel
theorem zd_M_hasSecond_81 : decode zb_M_hasSecond 81 = .ok (.return_, 1) := by decide +kernel
def zf_M_hasSecond_b81   (m0 : nk_M) : Option (Unit × nk_M) := some ((), m0)
set_option maxHeartbeats 4000000 in
set_option maxRecDepth 100000 in
theorem zs_M_hasSecond_b81 {G : nk_V} {X : nk_X}   (C : nk_C "NeedOnceModel" zb_M_hasSecond 3 nk_wR G X) (hR : X.2.2.2.1 = nk_rm 2) (hr : X.2.2.2.2.2.2.2.2.1.sig.returnType = none)  : ∀  (m0 : nk_M), nk_Sim nk_wR G X 3 nk_ov 81 [nk_r G 0, .null, .null] [] m0 (zf_M_hasSecond_b81  m0) := by
  intro m0
  unfold zf_M_hasSecond_b81
  exact nk_vret C hr zd_M_hasSecond_81
def zf_M_hasSecond_b78  (u1 : Int32) (m0 : nk_M) : Option (Unit × nk_M) := nk_bd (zf_M_isDone u1 m0) (fun _ m1 => (zf_M_hasSecond_b81 m1))
set_option maxHeartbeats 4000000 in
set_option maxRecDepth 100000 in
theorem zs_M_hasSecond_b78 {G : nk_V} {X : nk_X}   (C : nk_C "NeedOnceModel" zb_M_hasSecond 3 nk_wR G X) (hR : X.2.2.2.1 = nk_rm 2) (hr : X.2.2.2.2.2.2.2.2.1.sig.returnType = none)  : ∀ (u1 : Int32) (m0 : nk_M), nk_Sim nk_wR G X 3 nk_ov 78 [nk_r G 0, .null, .null] [.int u1, nk_r G 0] m0 (zf_M_hasSecond_b78 u1 m0) := by
  intro u1 m0
  unfold zf_M_hasSecond_b78
  refine nk_callVv C [.int u1] zv_M_225 hR (zc_M_isDone u1 m0) (by omega) (Nat.le_of_ble_eq_true rfl) rfl rfl rfl rfl (Nat.le_of_ble_eq_true rfl) zd_M_hasSecond_78 (fun m1 => ?_)
  exact zs_M_hasSecond_b81 C hR hr m1
def zf_M_hasSecond_b28  (u1 : Int32) (m0 : nk_M) : Option (Unit × nk_M) := nk_bd (zf_M_isDone u1 m0) (fun _ m1 => (zf_M_hasSecond_b81 m1))
set_option maxHeartbeats 4000000 in
set_option maxRecDepth 100000 in
theorem zs_M_hasSecond_b28 {G : nk_V} {X : nk_X}   (C : nk_C "NeedOnceModel" zb_M_hasSecond 3 nk_wR G X) (hR : X.2.2.2.1 = nk_rm 2) (hr : X.2.2.2.2.2.2.2.2.1.sig.returnType = none)  : ∀ (u1 : Int32) (m0 : nk_M), nk_Sim nk_wR G X 3 nk_ov 28 [nk_r G 0, .null, .null] [.int u1, nk_r G 0] m0 (zf_M_hasSecond_b28 u1 m0) := by
  intro u1 m0
  unfold zf_M_hasSecond_b28
  refine nk_callVv C [.int u1] zv_M_225 hR (zc_M_isDone u1 m0) (by omega) (Nat.le_of_ble_eq_true rfl) rfl rfl rfl rfl (Nat.le_of_ble_eq_true rfl) zd_M_hasSecond_28 (fun m1 => ?_)
  refine nk_goto (tgt := 81) C zd_M_hasSecond_31 (by decide) ?_
  exact zs_M_hasSecond_b81 C hR hr m1
def zf_M_hasSecond  (a1 : Int32) (m0 : nk_M) : Option (Unit × nk_M) := (if (m0 0 21) < (100 : Int32) then nk_ald m0 15 8 ((m0 0 17) - (1 : Int32)) (fun x1 => nk_ald m0 3 8 a1 (fun x2 => (if x2 = (1 : Int32) then nk_Direm (x1 + (m0 0 21)) (100 : Int32) (fun x4 => (zf_M_hasSecond_b78 x4 m0)) else nk_Direm (x1 * (m0 0 21)) (100 : Int32) (fun x3 => (zf_M_hasSecond_b78 x3 m0))))) else (if (m0 0 21) = (100 : Int32) then (zf_M_hasSecond_b28 (102 : Int32) m0) else (zf_M_hasSecond_b28 (m0 0 21) m0)))
set_option maxHeartbeats 4000000 in
set_option maxRecDepth 100000 in
theorem zc_M_hasSecond {l : Launch} {G : nk_V}   (a1 : Int32) (m0 : nk_M) : nk_Ct l nk_wR G 2 zy_M_hasSecond zb_M_hasSecond 3 none nk_ov [nk_r G 0, .int a1] m0 (zf_M_hasSecond  a1 m0) := by
  refine nk_ent (own := "NeedOnceModel") (lv := [nk_r G 0, .int a1, .null]) 1 rfl (by decide) (Nat.le_of_ble_eq_true rfl) rfl (fun X hl hR C hr => ?_)
  subst hl
  unfold zf_M_hasSecond
  refine nk_aload_n C zd_M_hasSecond_0 rfl rfl ?_
  refine nk_getI C za_M_191 (Nat.le_of_ble_eq_true rfl) rfl rfl zd_M_hasSecond_1 ?_
  refine nk_bipush (v := 100) C zd_M_hasSecond_4 (by decide) ?_
  refine nk_icmp_lt (tgt := 34) C zd_M_hasSecond_6 (by decide) ?_ ?_
  · refine nk_aload_n C zd_M_hasSecond_34 rfl rfl ?_
    refine nk_getR C (r := 15) za_M_52 (Nat.le_of_ble_eq_true rfl) rfl rfl zd_M_hasSecond_35 ?_
    refine nk_aload_n C zd_M_hasSecond_38 rfl rfl ?_
    refine nk_getI C za_M_184 (Nat.le_of_ble_eq_true rfl) rfl rfl zd_M_hasSecond_39 ?_
    refine nk_iconst (v := 1) C zd_M_hasSecond_42 (by decide) ?_
    refine nk_isub C zd_M_hasSecond_43 ?_
    refine nk_iald C (Nat.le_of_ble_eq_true rfl) rfl zd_M_hasSecond_44 (fun x1 => ?_)
    refine nk_istore_n C zd_M_hasSecond_45 rfl (Nat.le_of_ble_eq_true rfl) rfl ?_
    refine nk_aload_n C zd_M_hasSecond_46 rfl rfl ?_
    refine nk_aload_n C zd_M_hasSecond_47 rfl rfl ?_
    refine nk_getR C (r := 3) za_M_16 (Nat.le_of_ble_eq_true rfl) rfl rfl zd_M_hasSecond_48 ?_
    refine nk_iload_n C zd_M_hasSecond_51 rfl rfl ?_
    refine nk_iald C (Nat.le_of_ble_eq_true rfl) rfl zd_M_hasSecond_52 (fun x2 => ?_)
    refine nk_iconst (v := 1) C zd_M_hasSecond_53 (by decide) ?_
    refine nk_icmp_ne (tgt := 69) C zd_M_hasSecond_54 (by decide) ?_ ?_
    · refine nk_iload_n C zd_M_hasSecond_69 rfl rfl ?_
      refine nk_aload_n C zd_M_hasSecond_70 rfl rfl ?_
      refine nk_getI C za_M_191 (Nat.le_of_ble_eq_true rfl) rfl rfl zd_M_hasSecond_71 ?_
      refine nk_imul C zd_M_hasSecond_74 ?_
      refine nk_bipush (v := 100) C zd_M_hasSecond_75 (by decide) ?_
      refine nk_irem C zd_M_hasSecond_77 (fun x3 => ?_)
      refine nk_wk [true, false, false] ?_
      exact zs_M_hasSecond_b78 C hR hr x3 m0
    · refine nk_iload_n C zd_M_hasSecond_57 rfl rfl ?_
      refine nk_aload_n C zd_M_hasSecond_58 rfl rfl ?_
      refine nk_getI C za_M_191 (Nat.le_of_ble_eq_true rfl) rfl rfl zd_M_hasSecond_59 ?_
      refine nk_iadd C zd_M_hasSecond_62 ?_
      refine nk_bipush (v := 100) C zd_M_hasSecond_63 (by decide) ?_
      refine nk_irem C zd_M_hasSecond_65 (fun x4 => ?_)
      refine nk_goto (tgt := 78) C zd_M_hasSecond_66 (by decide) ?_
      refine nk_wk [true, false, false] ?_
      exact zs_M_hasSecond_b78 C hR hr x4 m0
  · refine nk_aload_n C zd_M_hasSecond_9 rfl rfl ?_
    refine nk_aload_n C zd_M_hasSecond_10 rfl rfl ?_
    refine nk_getI C za_M_191 (Nat.le_of_ble_eq_true rfl) rfl rfl zd_M_hasSecond_11 ?_
    refine nk_bipush (v := 100) C zd_M_hasSecond_14 (by decide) ?_
    refine nk_icmp_ne (tgt := 24) C zd_M_hasSecond_16 (by decide) ?_ ?_
    · refine nk_aload_n C zd_M_hasSecond_24 rfl rfl ?_
      refine nk_getI C za_M_191 (Nat.le_of_ble_eq_true rfl) rfl rfl zd_M_hasSecond_25 ?_
      refine nk_wk [true, false, false] ?_
      exact zs_M_hasSecond_b28 C hR hr (m0 0 21) m0
    · refine nk_bipush (v := 102) C zd_M_hasSecond_19 (by decide) ?_
      refine nk_goto (tgt := 28) C zd_M_hasSecond_21 (by decide) ?_
      refine nk_wk [true, false, false] ?_
      exact zs_M_hasSecond_b28 C hR hr (102 : Int32) m0
theorem zd_M_goesOn_0 : decode zb_M_goesOn 0 = .ok (.aload_n 0, 1) := by decide +kernel
theorem zd_M_goesOn_1 : decode zb_M_goesOn 1 = .ok (.getfield 46, 3) := by decide +kernel
theorem zd_M_goesOn_4 : decode zb_M_goesOn 4 = .ok (.aload_n 0, 1) := by decide +kernel
theorem zd_M_goesOn_5 : decode zb_M_goesOn 5 = .ok (.getfield 184, 3) := by decide +kernel
theorem zd_M_goesOn_8 : decode zb_M_goesOn 8 = .ok (.iconst 1, 1) := by decide +kernel
theorem zd_M_goesOn_9 : decode zb_M_goesOn 9 = .ok (.isub, 1) := by decide +kernel
theorem zd_M_goesOn_10 : decode zb_M_goesOn 10 = .ok (.iaload, 1) := by decide +kernel
theorem zd_M_goesOn_11 : decode zb_M_goesOn 11 = .ok (.istore_n 1, 1) := by decide +kernel
theorem zd_M_goesOn_12 : decode zb_M_goesOn 12 = .ok (.aload_n 0, 1) := by decide +kernel
theorem zd_M_goesOn_13 : decode zb_M_goesOn 13 = .ok (.getfield 49, 3) := by decide +kernel
theorem zd_M_goesOn_16 : decode zb_M_goesOn 16 = .ok (.aload_n 0, 1) := by decide +kernel
theorem zd_M_goesOn_17 : decode zb_M_goesOn 17 = .ok (.getfield 184, 3) := by decide +kernel
theorem zd_M_goesOn_20 : decode zb_M_goesOn 20 = .ok (.iconst 1, 1) := by decide +kernel
theorem zd_M_goesOn_21 : decode zb_M_goesOn 21 = .ok (.isub, 1) := by decide +kernel
theorem zd_M_goesOn_22 : decode zb_M_goesOn 22 = .ok (.iaload, 1) := by decide +kernel
theorem zd_M_goesOn_23 : decode zb_M_goesOn 23 = .ok (.istore_n 2, 1) := by decide +kernel
theorem zd_M_goesOn_24 : decode zb_M_goesOn 24 = .ok (.iload_n 2, 1) := by decide +kernel
theorem zd_M_goesOn_25 : decode zb_M_goesOn 25 = .ok (.ifCond .ne 11, 3) := by decide +kernel
theorem zd_M_goesOn_28 : decode zb_M_goesOn 28 = .ok (.aload_n 0, 1) := by decide +kernel
theorem zd_M_goesOn_29 : decode zb_M_goesOn 29 = .ok (.iload_n 1, 1) := by decide +kernel
theorem zd_M_goesOn_30 : decode zb_M_goesOn 30 = .ok (.invokevirtual 228, 3) := by decide +kernel
theorem zd_M_goesOn_33 : decode zb_M_goesOn 33 = .ok (.goto 37, 3) := by decide +kernel
theorem zd_M_goesOn_36 : decode zb_M_goesOn 36 = .ok (.iload_n 2, 1) := by decide +kernel
theorem zd_M_goesOn_37 : decode zb_M_goesOn 37 = .ok (.iconst 1, 1) := by decide +kernel
theorem zd_M_goesOn_38 : decode zb_M_goesOn 38 = .ok (.if_icmp .ne 11, 3) := by decide +kernel
theorem zd_M_goesOn_41 : decode zb_M_goesOn 41 = .ok (.aload_n 0, 1) := by decide +kernel
theorem zd_M_goesOn_42 : decode zb_M_goesOn 42 = .ok (.iload_n 1, 1) := by decide +kernel
theorem zd_M_goesOn_43 : decode zb_M_goesOn 43 = .ok (.invokevirtual 231, 3) := by decide +kernel
theorem zd_M_goesOn_46 : decode zb_M_goesOn 46 = .ok (.goto 24, 3) := by decide +kernel
theorem zd_M_goesOn_49 : decode zb_M_goesOn 49 = .ok (.iload_n 2, 1) := by decide +kernel
theorem zd_M_goesOn_50 : decode zb_M_goesOn 50 = .ok (.iconst 2, 1) := by decide +kernel
theorem zd_M_goesOn_51 : decode zb_M_goesOn 51 = .ok (.if_icmp .ne 11, 3) := by decide +kernel
theorem zd_M_goesOn_54 : decode zb_M_goesOn 54 = .ok (.aload_n 0, 1) := by decide +kernel
theorem zd_M_goesOn_55 : decode zb_M_goesOn 55 = .ok (.iload_n 1, 1) := by decide +kernel
theorem zd_M_goesOn_56 : decode zb_M_goesOn 56 = .ok (.invokevirtual 234, 3) := by decide +kernel
theorem zd_M_goesOn_59 : decode zb_M_goesOn 59 = .ok (.goto 11, 3) := by decide +kernel
theorem zd_M_goesOn_62 : decode zb_M_goesOn 62 = .ok (.aload_n 0, 1) := by decide +kernel
theorem zd_M_goesOn_63 : decode zb_M_goesOn 63 = .ok (.aload_n 0, 1) := by decide +kernel
theorem zd_M_goesOn_64 : decode zb_M_goesOn 64 = .ok (.getfield 191, 3) := by decide +kernel
theorem zd_M_goesOn_67 : decode zb_M_goesOn 67 = .ok (.invokevirtual 225, 3) := by decide +kernel
theorem zd_M_goesOn_70 : decode zb_M_goesOn 70 = .ok (.return_, 1) := by decide +kernel
def zf_M_goesOn_b70   (m0 : nk_M) : Option (Unit × nk_M) := some ((), m0)
set_option maxHeartbeats 4000000 in
set_option maxRecDepth 100000 in
theorem zs_M_goesOn_b70 {G : nk_V} {X : nk_X}   (C : nk_C "NeedOnceModel" zb_M_goesOn 3 nk_wR G X) (hR : X.2.2.2.1 = nk_rm 4) (hr : X.2.2.2.2.2.2.2.2.1.sig.returnType = none)  : ∀  (m0 : nk_M), nk_Sim nk_wR G X 3 nk_ov 70 [nk_r G 0, .null, .null] [] m0 (zf_M_goesOn_b70  m0) := by
  intro m0
  unfold zf_M_goesOn_b70
  exact nk_vret C hr zd_M_goesOn_70
def zf_M_goesOn   (m0 : nk_M) : Option (Unit × nk_M) := nk_ald m0 13 8 ((m0 0 17) - (1 : Int32)) (fun x1 => nk_ald m0 14 8 ((m0 0 17) - (1 : Int32)) (fun x2 => (if x2 = 0 then nk_bd (zf_M_begins x1 m0) (fun _ m4 => (zf_M_goesOn_b70 m4)) else (if x2 = (1 : Int32) then nk_bd (zf_M_hasFirst x1 m0) (fun _ m3 => (zf_M_goesOn_b70 m3)) else (if x2 = (2 : Int32) then nk_bd (zf_M_hasSecond x1 m0) (fun _ m2 => (zf_M_goesOn_b70 m2)) else nk_bd (zf_M_isDone (m0 0 21) m0) (fun _ m1 => (zf_M_goesOn_b70 m1)))))))
set_option maxHeartbeats 4000000 in
set_option maxRecDepth 100000 in
theorem zc_M_goesOn {l : Launch} {G : nk_V}    (m0 : nk_M) : nk_Ct l nk_wR G 4 zy_M_goesOn zb_M_goesOn 3 none nk_ov [nk_r G 0] m0 (zf_M_goesOn   m0) := by
  refine nk_ent (own := "NeedOnceModel") (lv := [nk_r G 0, .null, .null]) 2 rfl (by decide) (Nat.le_of_ble_eq_true rfl) rfl (fun X hl hR C hr => ?_)
  subst hl
  unfold zf_M_goesOn
  refine nk_aload_n C zd_M_goesOn_0 rfl rfl ?_
  refine nk_getR C (r := 13) za_M_46 (Nat.le_of_ble_eq_true rfl) rfl rfl zd_M_goesOn_1 ?_
  refine nk_aload_n C zd_M_goesOn_4 rfl rfl ?_
  refine nk_getI C za_M_184 (Nat.le_of_ble_eq_true rfl) rfl rfl zd_M_goesOn_5 ?_
  refine nk_iconst (v := 1) C zd_M_goesOn_8 (by decide) ?_
  refine nk_isub C zd_M_goesOn_9 ?_
  refine nk_iald C (Nat.le_of_ble_eq_true rfl) rfl zd_M_goesOn_10 (fun x1 => ?_)
  refine nk_istore_n C zd_M_goesOn_11 rfl (Nat.le_of_ble_eq_true rfl) rfl ?_
  refine nk_aload_n C zd_M_goesOn_12 rfl rfl ?_
  refine nk_getR C (r := 14) za_M_49 (Nat.le_of_ble_eq_true rfl) rfl rfl zd_M_goesOn_13 ?_
  refine nk_aload_n C zd_M_goesOn_16 rfl rfl ?_
  refine nk_getI C za_M_184 (Nat.le_of_ble_eq_true rfl) rfl rfl zd_M_goesOn_17 ?_
  refine nk_iconst (v := 1) C zd_M_goesOn_20 (by decide) ?_
  refine nk_isub C zd_M_goesOn_21 ?_
  refine nk_iald C (Nat.le_of_ble_eq_true rfl) rfl zd_M_goesOn_22 (fun x2 => ?_)
  refine nk_istore_n C zd_M_goesOn_23 rfl (Nat.le_of_ble_eq_true rfl) rfl ?_
  refine nk_iload_n C zd_M_goesOn_24 rfl rfl ?_
  refine nk_if_ne (tgt := 36) C zd_M_goesOn_25 (by decide) ?_ ?_
  · refine nk_iload_n C zd_M_goesOn_36 rfl rfl ?_
    refine nk_iconst (v := 1) C zd_M_goesOn_37 (by decide) ?_
    refine nk_icmp_ne (tgt := 49) C zd_M_goesOn_38 (by decide) ?_ ?_
    · refine nk_iload_n C zd_M_goesOn_49 rfl rfl ?_
      refine nk_iconst (v := 2) C zd_M_goesOn_50 (by decide) ?_
      refine nk_icmp_ne (tgt := 62) C zd_M_goesOn_51 (by decide) ?_ ?_
      · refine nk_aload_n C zd_M_goesOn_62 rfl rfl ?_
        refine nk_aload_n C zd_M_goesOn_63 rfl rfl ?_
        refine nk_getI C za_M_191 (Nat.le_of_ble_eq_true rfl) rfl rfl zd_M_goesOn_64 ?_
        refine nk_callVv C [.int (m0 0 21)] zv_M_225 hR (zc_M_isDone (m0 0 21) m0) (by omega) (Nat.le_of_ble_eq_true rfl) rfl rfl rfl rfl (Nat.le_of_ble_eq_true rfl) zd_M_goesOn_67 (fun m1 => ?_)
        refine nk_wk [true, false, false] ?_
        exact zs_M_goesOn_b70 C hR hr m1
      · refine nk_aload_n C zd_M_goesOn_54 rfl rfl ?_
        refine nk_iload_n C zd_M_goesOn_55 rfl rfl ?_
        refine nk_callVv C [.int x1] zv_M_234 hR (zc_M_hasSecond x1 m0) (by omega) (Nat.le_of_ble_eq_true rfl) rfl rfl rfl rfl (Nat.le_of_ble_eq_true rfl) zd_M_goesOn_56 (fun m2 => ?_)
        refine nk_goto (tgt := 70) C zd_M_goesOn_59 (by decide) ?_
        refine nk_wk [true, false, false] ?_
        exact zs_M_goesOn_b70 C hR hr m2
    · refine nk_aload_n C zd_M_goesOn_41 rfl rfl ?_
      refine nk_iload_n C zd_M_goesOn_42 rfl rfl ?_
      refine nk_callVv C [.int x1] zv_M_231 hR (zc_M_hasFirst x1 m0) (by omega) (Nat.le_of_ble_eq_true rfl) rfl rfl rfl rfl (Nat.le_of_ble_eq_true rfl) zd_M_goesOn_43 (fun m3 => ?_)
      refine nk_goto (tgt := 70) C zd_M_goesOn_46 (by decide) ?_
      refine nk_wk [true, false, false] ?_
      exact zs_M_goesOn_b70 C hR hr m3
  · refine nk_aload_n C zd_M_goesOn_28 rfl rfl ?_
    refine nk_iload_n C zd_M_goesOn_29 rfl rfl ?_
    refine nk_callVv C [.int x1] zv_M_228 hR (zc_M_begins x1 m0) (by omega) (Nat.le_of_ble_eq_true rfl) rfl rfl rfl rfl (Nat.le_of_ble_eq_true rfl) zd_M_goesOn_30 (fun m4 => ?_)
    refine nk_goto (tgt := 70) C zd_M_goesOn_33 (by decide) ?_
    refine nk_wk [true, false, false] ?_
    exact zs_M_goesOn_b70 C hR hr m4
theorem zd_M_needs_0 : decode zb_M_needs 0 = .ok (.aload_n 0, 1) := by decide +kernel
theorem zd_M_needs_1 : decode zb_M_needs 1 = .ok (.iconst 0, 1) := by decide +kernel
theorem zd_M_needs_2 : decode zb_M_needs 2 = .ok (.putfield 184, 3) := by decide +kernel
theorem zd_M_needs_5 : decode zb_M_needs 5 = .ok (.aload_n 0, 1) := by decide +kernel
theorem zd_M_needs_6 : decode zb_M_needs 6 = .ok (.iconst 0, 1) := by decide +kernel
theorem zd_M_needs_7 : decode zb_M_needs 7 = .ok (.putfield 206, 3) := by decide +kernel
theorem zd_M_needs_10 : decode zb_M_needs 10 = .ok (.aload_n 0, 1) := by decide +kernel
theorem zd_M_needs_11 : decode zb_M_needs 11 = .ok (.iconst 0, 1) := by decide +kernel
theorem zd_M_needs_12 : decode zb_M_needs 12 = .ok (.putfield 209, 3) := by decide +kernel
theorem zd_M_needs_15 : decode zb_M_needs 15 = .ok (.aload_n 0, 1) := by decide +kernel
theorem zd_M_needs_16 : decode zb_M_needs 16 = .ok (.iconst 0, 1) := by decide +kernel
theorem zd_M_needs_17 : decode zb_M_needs 17 = .ok (.putfield 212, 3) := by decide +kernel
theorem zd_M_needs_20 : decode zb_M_needs 20 = .ok (.aload_n 0, 1) := by decide +kernel
theorem zd_M_needs_21 : decode zb_M_needs 21 = .ok (.iconst 0, 1) := by decide +kernel
theorem zd_M_needs_22 : decode zb_M_needs 22 = .ok (.putfield 218, 3) := by decide +kernel
theorem zd_M_needs_25 : decode zb_M_needs 25 = .ok (.aload_n 0, 1) := by decide +kernel
theorem zd_M_needs_26 : decode zb_M_needs 26 = .ok (.iconst 0, 1) := by decide +kernel
theorem zd_M_needs_27 : decode zb_M_needs 27 = .ok (.putfield 203, 3) := by decide +kernel
theorem zd_M_needs_30 : decode zb_M_needs 30 = .ok (.aload_n 0, 1) := by decide +kernel
theorem zd_M_needs_31 : decode zb_M_needs 31 = .ok (.iload_n 1, 1) := by decide +kernel
theorem zd_M_needs_32 : decode zb_M_needs 32 = .ok (.invokevirtual 221, 3) := by decide +kernel
theorem zd_M_needs_35 : decode zb_M_needs 35 = .ok (.aload_n 0, 1) := by decide +kernel
theorem zd_M_needs_36 : decode zb_M_needs 36 = .ok (.getfield 184, 3) := by decide +kernel
theorem zd_M_needs_39 : decode zb_M_needs 39 = .ok (.ifCond .le 34, 3) := by decide +kernel
theorem zd_M_needs_42 : decode zb_M_needs 42 = .ok (.aload_n 0, 1) := by decide +kernel
theorem zd_M_needs_43 : decode zb_M_needs 43 = .ok (.getfield 187, 3) := by decide +kernel
theorem zd_M_needs_46 : decode zb_M_needs 46 = .ok (.ifCond .eq 20, 3) := by decide +kernel
theorem zd_M_needs_49 : decode zb_M_needs 49 = .ok (.aload_n 0, 1) := by decide +kernel
theorem zd_M_needs_50 : decode zb_M_needs 50 = .ok (.getfield 203, 3) := by decide +kernel
theorem zd_M_needs_53 : decode zb_M_needs 53 = .ok (.ifCond .ne 20, 3) := by decide +kernel
theorem zd_M_needs_56 : decode zb_M_needs 56 = .ok (.aload_n 0, 1) := by decide +kernel
theorem zd_M_needs_57 : decode zb_M_needs 57 = .ok (.getfield 206, 3) := by decide +kernel
theorem zd_M_needs_60 : decode zb_M_needs 60 = .ok (.sipush 999, 3) := by decide +kernel
theorem zd_M_needs_63 : decode zb_M_needs 63 = .ok (.if_icmp .gt 10, 3) := by decide +kernel
theorem zd_M_needs_66 : decode zb_M_needs 66 = .ok (.aload_n 0, 1) := by decide +kernel
theorem zd_M_needs_67 : decode zb_M_needs 67 = .ok (.invokevirtual 237, 3) := by decide +kernel
theorem zd_M_needs_70 : decode zb_M_needs 70 = .ok (.goto (-35), 3) := by decide +kernel
theorem zd_M_needs_73 : decode zb_M_needs 73 = .ok (.aload_n 0, 1) := by decide +kernel
theorem zd_M_needs_74 : decode zb_M_needs 74 = .ok (.getfield 191, 3) := by decide +kernel
theorem zd_M_needs_77 : decode zb_M_needs 77 = .ok (.ireturn, 1) := by decide +kernel
def zf_M_needs_b73   (m0 : nk_M) : Option (Int32 × nk_M) := some ((m0 0 21), m0)
set_option maxHeartbeats 4000000 in
set_option maxRecDepth 100000 in
theorem zs_M_needs_b73 {G : nk_V} {X : nk_X}   (C : nk_C "NeedOnceModel" zb_M_needs 2 nk_wR G X) (hR : X.2.2.2.1 = nk_rm 5) (hr : X.2.2.2.2.2.2.2.2.1.sig.returnType = (some .int))  : ∀  (m0 : nk_M), nk_Sim nk_wR G X 2 nk_oi 73 [nk_r G 0, .null] [] m0 (zf_M_needs_b73  m0) := by
  intro m0
  unfold zf_M_needs_b73
  refine nk_aload_n C zd_M_needs_73 rfl rfl ?_
  refine nk_getI C za_M_191 (Nat.le_of_ble_eq_true rfl) rfl rfl zd_M_needs_74 ?_
  exact nk_iret C hr zd_M_needs_77
def zf_M_needs_b66 (rc35 : nk_M → Option (Int32 × nk_M))  (m0 : nk_M) : Option (Int32 × nk_M) := nk_bd (zf_M_goesOn m0) (fun _ m1 => (rc35 m1))
set_option maxHeartbeats 4000000 in
set_option maxRecDepth 100000 in
theorem zs_M_needs_b66 {G : nk_V} {X : nk_X}   (C : nk_C "NeedOnceModel" zb_M_needs 2 nk_wR G X) (hR : X.2.2.2.1 = nk_rm 5) (hr : X.2.2.2.2.2.2.2.2.1.sig.returnType = (some .int)) (rc35 : nk_M → Option (Int32 × nk_M)) (hr35 : ∀  (m0 : nk_M), nk_Sim nk_wR G X 2 nk_oi 35 [nk_r G 0, .null] [] m0 (rc35  m0)) : ∀  (m0 : nk_M), nk_Sim nk_wR G X 2 nk_oi 66 [nk_r G 0, .null] [] m0 (zf_M_needs_b66 rc35  m0) := by
  intro m0
  unfold zf_M_needs_b66
  refine nk_aload_n C zd_M_needs_66 rfl rfl ?_
  refine nk_callVv C [] zv_M_237 hR (zc_M_goesOn m0) (by omega) (Nat.le_of_ble_eq_true rfl) rfl rfl rfl rfl (Nat.le_of_ble_eq_true rfl) zd_M_needs_67 (fun m1 => ?_)
  refine nk_goto (tgt := 35) C zd_M_needs_70 (by decide) ?_
  exact hr35 m1
def zf_M_needs_b35  : Nat → nk_M → Option (Int32 × nk_M)
  | 0, _ => none
  | n0 + 1, m0 => (if (m0 0 17) ≤ 0 then (zf_M_needs_b73 m0) else (if (m0 0 29) = 0 then (zf_M_needs_b66 (zf_M_needs_b35 n0) m0) else (if (m0 0 30) = 0 then (if (999 : Int32) < (m0 0 24) then (zf_M_needs_b73 m0) else (zf_M_needs_b66 (zf_M_needs_b35 n0) m0)) else (zf_M_needs_b73 m0))))
set_option maxHeartbeats 4000000 in
set_option maxRecDepth 100000 in
theorem zs_M_needs_b35 {G : nk_V} {X : nk_X}   (C : nk_C "NeedOnceModel" zb_M_needs 2 nk_wR G X) (hR : X.2.2.2.1 = nk_rm 5) (hr : X.2.2.2.2.2.2.2.2.1.sig.returnType = (some .int))  : ∀ (n0 : Nat)  (m0 : nk_M), nk_Sim nk_wR G X 2 nk_oi 35 [nk_r G 0, .null] [] m0 (zf_M_needs_b35 n0  m0) := by
  intro n0
  induction n0 with
  | zero => intros; exact nk_none
  | succ n0 ih =>
    intro m0
    rw [zf_M_needs_b35]
    refine nk_aload_n C zd_M_needs_35 rfl rfl ?_
    refine nk_getI C za_M_184 (Nat.le_of_ble_eq_true rfl) rfl rfl zd_M_needs_36 ?_
    refine nk_if_le (tgt := 73) C zd_M_needs_39 (by decide) ?_ ?_
    · exact zs_M_needs_b73 C hR hr m0
    · refine nk_aload_n C zd_M_needs_42 rfl rfl ?_
      refine nk_getI C za_M_187 (Nat.le_of_ble_eq_true rfl) rfl rfl zd_M_needs_43 ?_
      refine nk_if_eq (tgt := 66) C zd_M_needs_46 (by decide) ?_ ?_
      · exact zs_M_needs_b66 C hR hr (zf_M_needs_b35 n0) ih m0
      · refine nk_aload_n C zd_M_needs_49 rfl rfl ?_
        refine nk_getI C za_M_203 (Nat.le_of_ble_eq_true rfl) rfl rfl zd_M_needs_50 ?_
        refine nk_if_ne (tgt := 73) C zd_M_needs_53 (by decide) ?_ ?_
        · exact zs_M_needs_b73 C hR hr m0
        · refine nk_aload_n C zd_M_needs_56 rfl rfl ?_
          refine nk_getI C za_M_206 (Nat.le_of_ble_eq_true rfl) rfl rfl zd_M_needs_57 ?_
          refine nk_sipush (v := 999) C zd_M_needs_60 (by decide) ?_
          refine nk_icmp_gt (tgt := 73) C zd_M_needs_63 (by decide) ?_ ?_
          · exact zs_M_needs_b73 C hR hr m0
          · exact zs_M_needs_b66 C hR hr (zf_M_needs_b35 n0) ih m0
def zf_M_needs  (a1 : Int32) (m0 : nk_M) : Option (Int32 × nk_M) := nk_pf m0 0 17 (0 : Int32) (fun m1 => nk_pf m1 0 24 (0 : Int32) (fun m2 => nk_pf m2 0 25 (0 : Int32) (fun m3 => nk_pf m3 0 26 (0 : Int32) (fun m4 => nk_pf m4 0 27 (0 : Int32) (fun m5 => nk_pf m5 0 30 (0 : Int32) (fun m6 => nk_bd (zf_M_wants a1 m6) (fun _ m7 => (zf_M_needs_b35 nk_fu m7))))))))
set_option maxHeartbeats 4000000 in
set_option maxRecDepth 100000 in
theorem zc_M_needs {l : Launch} {G : nk_V}   (a1 : Int32) (m0 : nk_M) : nk_Ct l nk_wR G 5 zy_M_needs zb_M_needs 2 (some .int) nk_oi [nk_r G 0, .int a1] m0 (zf_M_needs  a1 m0) := by
  refine nk_ent (own := "NeedOnceModel") (lv := [nk_r G 0, .int a1]) 0 rfl (by decide) (Nat.le_of_ble_eq_true rfl) rfl (fun X hl hR C hr => ?_)
  subst hl
  unfold zf_M_needs
  refine nk_aload_n C zd_M_needs_0 rfl rfl ?_
  refine nk_iconst (v := 0) C zd_M_needs_1 (by decide) ?_
  refine nk_putI C zp_M_184 (Nat.le_of_ble_eq_true rfl) rfl rfl zd_M_needs_2 (fun m1 => ?_)
  refine nk_aload_n C zd_M_needs_5 rfl rfl ?_
  refine nk_iconst (v := 0) C zd_M_needs_6 (by decide) ?_
  refine nk_putI C zp_M_206 (Nat.le_of_ble_eq_true rfl) rfl rfl zd_M_needs_7 (fun m2 => ?_)
  refine nk_aload_n C zd_M_needs_10 rfl rfl ?_
  refine nk_iconst (v := 0) C zd_M_needs_11 (by decide) ?_
  refine nk_putI C zp_M_209 (Nat.le_of_ble_eq_true rfl) rfl rfl zd_M_needs_12 (fun m3 => ?_)
  refine nk_aload_n C zd_M_needs_15 rfl rfl ?_
  refine nk_iconst (v := 0) C zd_M_needs_16 (by decide) ?_
  refine nk_putI C zp_M_212 (Nat.le_of_ble_eq_true rfl) rfl rfl zd_M_needs_17 (fun m4 => ?_)
  refine nk_aload_n C zd_M_needs_20 rfl rfl ?_
  refine nk_iconst (v := 0) C zd_M_needs_21 (by decide) ?_
  refine nk_putI C zp_M_218 (Nat.le_of_ble_eq_true rfl) rfl rfl zd_M_needs_22 (fun m5 => ?_)
  refine nk_aload_n C zd_M_needs_25 rfl rfl ?_
  refine nk_iconst (v := 0) C zd_M_needs_26 (by decide) ?_
  refine nk_put C zp_M_203 (Nat.le_of_ble_eq_true rfl) rfl rfl (by decide) (by decide) zd_M_needs_27 (fun m6 => ?_)
  refine nk_aload_n C zd_M_needs_30 rfl rfl ?_
  refine nk_iload_n C zd_M_needs_31 rfl rfl ?_
  refine nk_callVv C [.int a1] zv_M_221 hR (zc_M_wants a1 m6) (by omega) (Nat.le_of_ble_eq_true rfl) rfl rfl rfl rfl (Nat.le_of_ble_eq_true rfl) zd_M_needs_32 (fun m7 => ?_)
  refine nk_wk [true, false] ?_
  exact zs_M_needs_b35 C hR hr nk_fu m7
theorem zd_M_need_0 : decode zb_M_need 0 = .ok (.aload_n 0, 1) := by decide +kernel
theorem zd_M_need_1 : decode zb_M_need 1 = .ok (.iload_n 1, 1) := by decide +kernel
theorem zd_M_need_2 : decode zb_M_need 2 = .ok (.invokevirtual 240, 3) := by decide +kernel
theorem zd_M_need_5 : decode zb_M_need 5 = .ok (.ifCond .eq 5, 3) := by decide +kernel
theorem zd_M_need_8 : decode zb_M_need 8 = .ok (.iconst (-1), 1) := by decide +kernel
theorem zd_M_need_9 : decode zb_M_need 9 = .ok (.ireturn, 1) := by decide +kernel
theorem zd_M_need_10 : decode zb_M_need 10 = .ok (.aload_n 0, 1) := by decide +kernel
theorem zd_M_need_11 : decode zb_M_need 11 = .ok (.iload_n 1, 1) := by decide +kernel
theorem zd_M_need_12 : decode zb_M_need 12 = .ok (.invokevirtual 250, 3) := by decide +kernel
theorem zd_M_need_15 : decode zb_M_need 15 = .ok (.istore_n 2, 1) := by decide +kernel
theorem zd_M_need_16 : decode zb_M_need 16 = .ok (.aload_n 0, 1) := by decide +kernel
theorem zd_M_need_17 : decode zb_M_need 17 = .ok (.dup, 1) := by decide +kernel
theorem zd_M_need_18 : decode zb_M_need 18 = .ok (.getfield 169, 3) := by decide +kernel
theorem zd_M_need_21 : decode zb_M_need 21 = .ok (.aload_n 0, 1) := by decide +kernel
theorem zd_M_need_22 : decode zb_M_need 22 = .ok (.getfield 212, 3) := by decide +kernel
theorem zd_M_need_25 : decode zb_M_need 25 = .ok (.iadd, 1) := by decide +kernel
theorem zd_M_need_26 : decode zb_M_need 26 = .ok (.putfield 169, 3) := by decide +kernel
theorem zd_M_need_29 : decode zb_M_need 29 = .ok (.aload_n 0, 1) := by decide +kernel
theorem zd_M_need_30 : decode zb_M_need 30 = .ok (.aload_n 0, 1) := by decide +kernel
theorem zd_M_need_31 : decode zb_M_need 31 = .ok (.getfield 206, 3) := by decide +kernel
theorem zd_M_need_34 : decode zb_M_need 34 = .ok (.putfield 172, 3) := by decide +kernel
theorem zd_M_need_37 : decode zb_M_need 37 = .ok (.aload_n 0, 1) := by decide +kernel
theorem zd_M_need_38 : decode zb_M_need 38 = .ok (.aload_n 0, 1) := by decide +kernel
theorem zd_M_need_39 : decode zb_M_need 39 = .ok (.getfield 209, 3) := by decide +kernel
theorem zd_M_need_42 : decode zb_M_need 42 = .ok (.putfield 175, 3) := by decide +kernel
theorem zd_M_need_45 : decode zb_M_need 45 = .ok (.aload_n 0, 1) := by decide +kernel
theorem zd_M_need_46 : decode zb_M_need 46 = .ok (.aload_n 0, 1) := by decide +kernel
theorem zd_M_need_47 : decode zb_M_need 47 = .ok (.getfield 212, 3) := by decide +kernel
theorem zd_M_need_50 : decode zb_M_need 50 = .ok (.putfield 178, 3) := by decide +kernel
theorem zd_M_need_53 : decode zb_M_need 53 = .ok (.iconst 0, 1) := by decide +kernel
theorem zd_M_need_54 : decode zb_M_need 54 = .ok (.istore_n 3, 1) := by decide +kernel
theorem zd_M_need_55 : decode zb_M_need 55 = .ok (.iload_n 3, 1) := by decide +kernel
theorem zd_M_need_56 : decode zb_M_need 56 = .ok (.aload_n 0, 1) := by decide +kernel
theorem zd_M_need_57 : decode zb_M_need 57 = .ok (.getfield 218, 3) := by decide +kernel
theorem zd_M_need_60 : decode zb_M_need 60 = .ok (.if_icmp .ge 21, 3) := by decide +kernel
theorem zd_M_need_63 : decode zb_M_need 63 = .ok (.aload_n 0, 1) := by decide +kernel
theorem zd_M_need_64 : decode zb_M_need 64 = .ok (.getfield 58, 3) := by decide +kernel
theorem zd_M_need_67 : decode zb_M_need 67 = .ok (.iload_n 3, 1) := by decide +kernel
theorem zd_M_need_68 : decode zb_M_need 68 = .ok (.aload_n 0, 1) := by decide +kernel
theorem zd_M_need_69 : decode zb_M_need 69 = .ok (.getfield 55, 3) := by decide +kernel
theorem zd_M_need_72 : decode zb_M_need 72 = .ok (.iload_n 3, 1) := by decide +kernel
theorem zd_M_need_73 : decode zb_M_need 73 = .ok (.iaload, 1) := by decide +kernel
theorem zd_M_need_74 : decode zb_M_need 74 = .ok (.iastore, 1) := by decide +kernel
theorem zd_M_need_75 : decode zb_M_need 75 = .ok (.iinc 3 1, 3) := by decide +kernel
theorem zd_M_need_78 : decode zb_M_need 78 = .ok (.goto (-23), 3) := by decide +kernel
theorem zd_M_need_81 : decode zb_M_need 81 = .ok (.iload_n 2, 1) := by decide +kernel
theorem zd_M_need_82 : decode zb_M_need 82 = .ok (.ireturn, 1) := by decide +kernel
def zf_M_need_b55  : Nat → Int32 → Int32 → nk_M → Option (Int32 × nk_M)
  | 0, _, _, _ => none
  | n0 + 1, y2, y3, m0 => (if (m0 0 27) ≤ y3 then some (y2, m0) else nk_ald m0 16 8 y3 (fun x1 => nk_ast m0 17 8 y3 x1 (fun m1 => (zf_M_need_b55 n0 y2 (y3 + 1) m1))))
set_option maxHeartbeats 4000000 in
set_option maxRecDepth 100000 in
theorem zs_M_need_b55 {G : nk_V} {X : nk_X}   (C : nk_C "NeedOnceModel" zb_M_need 4 nk_wR G X) (hR : X.2.2.2.1 = nk_rm 6) (hr : X.2.2.2.2.2.2.2.2.1.sig.returnType = (some .int))  : ∀ (n0 : Nat) (y2 : Int32) (y3 : Int32) (m0 : nk_M), nk_Sim nk_wR G X 4 nk_oi 55 [nk_r G 0, .null, .int y2, .int y3] [] m0 (zf_M_need_b55 n0 y2 y3 m0) := by
  intro n0
  induction n0 with
  | zero => intros; exact nk_none
  | succ n0 ih =>
    intro y2 y3 m0
    rw [zf_M_need_b55]
    refine nk_iload_n C zd_M_need_55 rfl rfl ?_
    refine nk_aload_n C zd_M_need_56 rfl rfl ?_
    refine nk_getI C za_M_218 (Nat.le_of_ble_eq_true rfl) rfl rfl zd_M_need_57 ?_
    refine nk_icmp_ge (tgt := 81) C zd_M_need_60 (by decide) ?_ ?_
    · refine nk_iload_n C zd_M_need_81 rfl rfl ?_
      exact nk_iret C hr zd_M_need_82
    · refine nk_aload_n C zd_M_need_63 rfl rfl ?_
      refine nk_getR C (r := 17) za_M_58 (Nat.le_of_ble_eq_true rfl) rfl rfl zd_M_need_64 ?_
      refine nk_iload_n C zd_M_need_67 rfl rfl ?_
      refine nk_aload_n C zd_M_need_68 rfl rfl ?_
      refine nk_getR C (r := 16) za_M_55 (Nat.le_of_ble_eq_true rfl) rfl rfl zd_M_need_69 ?_
      refine nk_iload_n C zd_M_need_72 rfl rfl ?_
      refine nk_iald C (Nat.le_of_ble_eq_true rfl) rfl zd_M_need_73 (fun x1 => ?_)
      refine nk_iast C (Nat.le_of_ble_eq_true rfl) rfl zd_M_need_74 (fun m1 => ?_)
      refine nk_iinc (v0 := y3 + 1) C zd_M_need_75 rfl (nk_inc _ (by decide)) (Nat.le_of_ble_eq_true rfl) rfl ?_
      refine nk_goto (tgt := 55) C zd_M_need_78 (by decide) ?_
      exact ih y2 (y3 + 1) m1
def zf_M_need  (a1 : Int32) (m0 : nk_M) : Option (Int32 × nk_M) := nk_bd (zf_M_noOne a1 m0) (fun r1 m1 => (if r1 = 0 then nk_bd (zf_M_needs a1 m1) (fun r2 m2 => nk_pf m2 0 16 ((m2 0 16) + (m2 0 26)) (fun m3 => nk_pf m3 0 31 (m3 0 24) (fun m4 => nk_pf m4 0 32 (m4 0 25) (fun m5 => nk_pf m5 0 33 (m5 0 26) (fun m6 => (zf_M_need_b55 nk_fu r2 (0 : Int32) m6)))))) else some ((-1 : Int32), m1)))
set_option maxHeartbeats 4000000 in
set_option maxRecDepth 100000 in
theorem zc_M_need {l : Launch} {G : nk_V}   (a1 : Int32) (m0 : nk_M) : nk_Ct l nk_wR G 6 zy_M_need zb_M_need 4 (some .int) nk_oi [nk_r G 0, .int a1] m0 (zf_M_need  a1 m0) := by
  refine nk_ent (own := "NeedOnceModel") (lv := [nk_r G 0, .int a1, .null, .null]) 2 rfl (by decide) (Nat.le_of_ble_eq_true rfl) rfl (fun X hl hR C hr => ?_)
  subst hl
  unfold zf_M_need
  refine nk_aload_n C zd_M_need_0 rfl rfl ?_
  refine nk_iload_n C zd_M_need_1 rfl rfl ?_
  refine nk_callVi C [.int a1] zv_M_240 hR (zc_M_noOne a1 m0) (by omega) (Nat.le_of_ble_eq_true rfl) rfl rfl rfl rfl (Nat.le_of_ble_eq_true rfl) zd_M_need_2 (fun r1 m1 => ?_)
  refine nk_if_eq (tgt := 10) C zd_M_need_5 (by decide) ?_ ?_
  · refine nk_aload_n C zd_M_need_10 rfl rfl ?_
    refine nk_iload_n C zd_M_need_11 rfl rfl ?_
    refine nk_callVi C [.int a1] zv_M_250 hR (zc_M_needs a1 m1) (by omega) (Nat.le_of_ble_eq_true rfl) rfl rfl rfl rfl (Nat.le_of_ble_eq_true rfl) zd_M_need_12 (fun r2 m2 => ?_)
    refine nk_istore_n C zd_M_need_15 rfl (Nat.le_of_ble_eq_true rfl) rfl ?_
    refine nk_aload_n C zd_M_need_16 rfl rfl ?_
    refine nk_dup C zd_M_need_17 rfl ?_
    refine nk_getI C za_M_169 (Nat.le_of_ble_eq_true rfl) rfl rfl zd_M_need_18 ?_
    refine nk_aload_n C zd_M_need_21 rfl rfl ?_
    refine nk_getI C za_M_212 (Nat.le_of_ble_eq_true rfl) rfl rfl zd_M_need_22 ?_
    refine nk_iadd C zd_M_need_25 ?_
    refine nk_putI C zp_M_169 (Nat.le_of_ble_eq_true rfl) rfl rfl zd_M_need_26 (fun m3 => ?_)
    refine nk_aload_n C zd_M_need_29 rfl rfl ?_
    refine nk_aload_n C zd_M_need_30 rfl rfl ?_
    refine nk_getI C za_M_206 (Nat.le_of_ble_eq_true rfl) rfl rfl zd_M_need_31 ?_
    refine nk_putI C zp_M_172 (Nat.le_of_ble_eq_true rfl) rfl rfl zd_M_need_34 (fun m4 => ?_)
    refine nk_aload_n C zd_M_need_37 rfl rfl ?_
    refine nk_aload_n C zd_M_need_38 rfl rfl ?_
    refine nk_getI C za_M_209 (Nat.le_of_ble_eq_true rfl) rfl rfl zd_M_need_39 ?_
    refine nk_putI C zp_M_175 (Nat.le_of_ble_eq_true rfl) rfl rfl zd_M_need_42 (fun m5 => ?_)
    refine nk_aload_n C zd_M_need_45 rfl rfl ?_
    refine nk_aload_n C zd_M_need_46 rfl rfl ?_
    refine nk_getI C za_M_212 (Nat.le_of_ble_eq_true rfl) rfl rfl zd_M_need_47 ?_
    refine nk_putI C zp_M_178 (Nat.le_of_ble_eq_true rfl) rfl rfl zd_M_need_50 (fun m6 => ?_)
    refine nk_iconst (v := 0) C zd_M_need_53 (by decide) ?_
    refine nk_istore_n C zd_M_need_54 rfl (Nat.le_of_ble_eq_true rfl) rfl ?_
    refine nk_wk [true, false, true, true] ?_
    exact zs_M_need_b55 C hR hr nk_fu r2 (0 : Int32) m6
  · refine nk_iconst (v := -1) C zd_M_need_8 (by decide) ?_
    exact nk_iret C hr zd_M_need_9
theorem zd_M_latest_0 : decode zb_M_latest 0 = .ok (.iload_n 1, 1) := by decide +kernel
theorem zd_M_latest_1 : decode zb_M_latest 1 = .ok (.i2l, 1) := by decide +kernel
theorem zd_M_latest_2 : decode zb_M_latest 2 = .ok (.ldc2_w 243, 3) := by decide +kernel
theorem zd_M_latest_5 : decode zb_M_latest 5 = .ok (.ldc2_w 253, 3) := by decide +kernel
theorem zd_M_latest_8 : decode zb_M_latest 8 = .ok (.invokestatic 107, 3) := by decide +kernel
theorem zd_M_latest_11 : decode zb_M_latest 11 = .ok (.ifCond .eq 29, 3) := by decide +kernel
theorem zd_M_latest_14 : decode zb_M_latest 14 = .ok (.iload_n 1, 1) := by decide +kernel
theorem zd_M_latest_15 : decode zb_M_latest 15 = .ok (.bipush 10, 2) := by decide +kernel
theorem zd_M_latest_17 : decode zb_M_latest 17 = .ok (.isub, 1) := by decide +kernel
theorem zd_M_latest_18 : decode zb_M_latest 18 = .ok (.aload_n 0, 1) := by decide +kernel
theorem zd_M_latest_19 : decode zb_M_latest 19 = .ok (.getfield 172, 3) := by decide +kernel
theorem zd_M_latest_22 : decode zb_M_latest 22 = .ok (.if_icmp .ge 15, 3) := by decide +kernel
theorem zd_M_latest_25 : decode zb_M_latest 25 = .ok (.aload_n 0, 1) := by decide +kernel
theorem zd_M_latest_26 : decode zb_M_latest 26 = .ok (.getfield 58, 3) := by decide +kernel
theorem zd_M_latest_29 : decode zb_M_latest 29 = .ok (.iload_n 1, 1) := by decide +kernel
theorem zd_M_latest_30 : decode zb_M_latest 30 = .ok (.bipush 10, 2) := by decide +kernel
theorem zd_M_latest_32 : decode zb_M_latest 32 = .ok (.isub, 1) := by decide +kernel
theorem zd_M_latest_33 : decode zb_M_latest 33 = .ok (.iaload, 1) := by decide +kernel
theorem zd_M_latest_34 : decode zb_M_latest 34 = .ok (.goto 5, 3) := by decide +kernel
theorem zd_M_latest_37 : decode zb_M_latest 37 = .ok (.bipush (-9), 2) := by decide +kernel
theorem zd_M_latest_39 : decode zb_M_latest 39 = .ok (.ireturn, 1) := by decide +kernel
theorem zd_M_latest_40 : decode zb_M_latest 40 = .ok (.iload_n 1, 1) := by decide +kernel
theorem zd_M_latest_41 : decode zb_M_latest 41 = .ok (.ifCond .ne 10, 3) := by decide +kernel
theorem zd_M_latest_44 : decode zb_M_latest 44 = .ok (.aload_n 0, 1) := by decide +kernel
theorem zd_M_latest_45 : decode zb_M_latest 45 = .ok (.getfield 172, 3) := by decide +kernel
theorem zd_M_latest_48 : decode zb_M_latest 48 = .ok (.goto 29, 3) := by decide +kernel
theorem zd_M_latest_51 : decode zb_M_latest 51 = .ok (.iload_n 1, 1) := by decide +kernel
theorem zd_M_latest_52 : decode zb_M_latest 52 = .ok (.iconst 1, 1) := by decide +kernel
theorem zd_M_latest_53 : decode zb_M_latest 53 = .ok (.if_icmp .ne 10, 3) := by decide +kernel
theorem zd_M_latest_56 : decode zb_M_latest 56 = .ok (.aload_n 0, 1) := by decide +kernel
theorem zd_M_latest_57 : decode zb_M_latest 57 = .ok (.getfield 175, 3) := by decide +kernel
theorem zd_M_latest_60 : decode zb_M_latest 60 = .ok (.goto 17, 3) := by decide +kernel
theorem zd_M_latest_63 : decode zb_M_latest 63 = .ok (.iload_n 1, 1) := by decide +kernel
theorem zd_M_latest_64 : decode zb_M_latest 64 = .ok (.iconst 2, 1) := by decide +kernel
theorem zd_M_latest_65 : decode zb_M_latest 65 = .ok (.if_icmp .ne 10, 3) := by decide +kernel
theorem zd_M_latest_68 : decode zb_M_latest 68 = .ok (.aload_n 0, 1) := by decide +kernel
theorem zd_M_latest_69 : decode zb_M_latest 69 = .ok (.getfield 178, 3) := by decide +kernel
theorem zd_M_latest_72 : decode zb_M_latest 72 = .ok (.goto 5, 3) := by decide +kernel
theorem zd_M_latest_75 : decode zb_M_latest 75 = .ok (.bipush (-2), 2) := by decide +kernel
theorem zd_M_latest_77 : decode zb_M_latest 77 = .ok (.ireturn, 1) := by decide +kernel
def zf_M_latest_b77  (u0 : Int32) (m0 : nk_M) : Option (Int32 × nk_M) := some (u0, m0)
set_option maxHeartbeats 4000000 in
set_option maxRecDepth 100000 in
theorem zs_M_latest_b77 {G : nk_V} {X : nk_X}   (C : nk_C "NeedOnceModel" zb_M_latest 2 nk_wR G X) (hR : X.2.2.2.1 = nk_rm 2) (hr : X.2.2.2.2.2.2.2.2.1.sig.returnType = (some .int))  : ∀ (u0 : Int32) (m0 : nk_M), nk_Sim nk_wR G X 2 nk_oi 77 [nk_r G 0, .null] [.int u0] m0 (zf_M_latest_b77 u0 m0) := by
  intro u0 m0
  unfold zf_M_latest_b77
  exact nk_iret C hr zd_M_latest_77
def zf_M_latest_b39  (u0 : Int32) (m0 : nk_M) : Option (Int32 × nk_M) := some (u0, m0)
set_option maxHeartbeats 4000000 in
set_option maxRecDepth 100000 in
theorem zs_M_latest_b39 {G : nk_V} {X : nk_X}   (C : nk_C "NeedOnceModel" zb_M_latest 2 nk_wR G X) (hR : X.2.2.2.1 = nk_rm 2) (hr : X.2.2.2.2.2.2.2.2.1.sig.returnType = (some .int))  : ∀ (u0 : Int32) (m0 : nk_M), nk_Sim nk_wR G X 2 nk_oi 39 [nk_r G 0, .null] [.int u0] m0 (zf_M_latest_b39 u0 m0) := by
  intro u0 m0
  unfold zf_M_latest_b39
  exact nk_iret C hr zd_M_latest_39
def zf_M_latest  (a1 : Int32) (m0 : nk_M) : Option (Int32 × nk_M) := nk_bd (zf_M_in (a1.toInt64) (10 : Int64) (17 : Int64) m0) (fun r1 m1 => (if r1 = 0 then (if a1 = 0 then (zf_M_latest_b77 (m1 0 31) m1) else (if a1 = (1 : Int32) then (zf_M_latest_b77 (m1 0 32) m1) else (if a1 = (2 : Int32) then (zf_M_latest_b77 (m1 0 33) m1) else (zf_M_latest_b77 (-2 : Int32) m1)))) else (if (m1 0 31) ≤ (a1 - (10 : Int32)) then (zf_M_latest_b39 (-9 : Int32) m1) else nk_ald m1 17 8 (a1 - (10 : Int32)) (fun x2 => (zf_M_latest_b39 x2 m1)))))
set_option maxHeartbeats 4000000 in
set_option maxRecDepth 100000 in
theorem zc_M_latest {l : Launch} {G : nk_V}   (a1 : Int32) (m0 : nk_M) : nk_Ct l nk_wR G 2 zy_M_latest zb_M_latest 2 (some .int) nk_oi [nk_r G 0, .int a1] m0 (zf_M_latest  a1 m0) := by
  refine nk_ent (own := "NeedOnceModel") (lv := [nk_r G 0, .int a1]) 0 rfl (by decide) (Nat.le_of_ble_eq_true rfl) rfl (fun X hl hR C hr => ?_)
  subst hl
  unfold zf_M_latest
  refine nk_iload_n C zd_M_latest_0 rfl rfl ?_
  refine nk_i2l C zd_M_latest_1 ?_
  refine nk_ldc2 (v := 10) C zw_762 zd_M_latest_2 ?_
  refine nk_ldc2 (v := 17) C zw_815 zd_M_latest_5 ?_
  refine nk_callSi C [.long (a1.toInt64), .long (10 : Int64), .long (17 : Int64)] zv_M_107 hR (zc_M_in (a1.toInt64) (10 : Int64) (17 : Int64) m0) (by omega) rfl rfl (Nat.le_of_ble_eq_true rfl) zd_M_latest_8 (fun r1 m1 => ?_)
  refine nk_if_eq (tgt := 40) C zd_M_latest_11 (by decide) ?_ ?_
  · refine nk_iload_n C zd_M_latest_40 rfl rfl ?_
    refine nk_if_ne (tgt := 51) C zd_M_latest_41 (by decide) ?_ ?_
    · refine nk_iload_n C zd_M_latest_51 rfl rfl ?_
      refine nk_iconst (v := 1) C zd_M_latest_52 (by decide) ?_
      refine nk_icmp_ne (tgt := 63) C zd_M_latest_53 (by decide) ?_ ?_
      · refine nk_iload_n C zd_M_latest_63 rfl rfl ?_
        refine nk_iconst (v := 2) C zd_M_latest_64 (by decide) ?_
        refine nk_icmp_ne (tgt := 75) C zd_M_latest_65 (by decide) ?_ ?_
        · refine nk_bipush (v := -2) C zd_M_latest_75 (by decide) ?_
          refine nk_wk [true, false] ?_
          exact zs_M_latest_b77 C hR hr (-2 : Int32) m1
        · refine nk_aload_n C zd_M_latest_68 rfl rfl ?_
          refine nk_getI C za_M_178 (Nat.le_of_ble_eq_true rfl) rfl rfl zd_M_latest_69 ?_
          refine nk_goto (tgt := 77) C zd_M_latest_72 (by decide) ?_
          refine nk_wk [true, false] ?_
          exact zs_M_latest_b77 C hR hr (m1 0 33) m1
      · refine nk_aload_n C zd_M_latest_56 rfl rfl ?_
        refine nk_getI C za_M_175 (Nat.le_of_ble_eq_true rfl) rfl rfl zd_M_latest_57 ?_
        refine nk_goto (tgt := 77) C zd_M_latest_60 (by decide) ?_
        refine nk_wk [true, false] ?_
        exact zs_M_latest_b77 C hR hr (m1 0 32) m1
    · refine nk_aload_n C zd_M_latest_44 rfl rfl ?_
      refine nk_getI C za_M_172 (Nat.le_of_ble_eq_true rfl) rfl rfl zd_M_latest_45 ?_
      refine nk_goto (tgt := 77) C zd_M_latest_48 (by decide) ?_
      refine nk_wk [true, false] ?_
      exact zs_M_latest_b77 C hR hr (m1 0 31) m1
  · refine nk_iload_n C zd_M_latest_14 rfl rfl ?_
    refine nk_bipush (v := 10) C zd_M_latest_15 (by decide) ?_
    refine nk_isub C zd_M_latest_17 ?_
    refine nk_aload_n C zd_M_latest_18 rfl rfl ?_
    refine nk_getI C za_M_172 (Nat.le_of_ble_eq_true rfl) rfl rfl zd_M_latest_19 ?_
    refine nk_icmp_ge (tgt := 37) C zd_M_latest_22 (by decide) ?_ ?_
    · refine nk_bipush (v := -9) C zd_M_latest_37 (by decide) ?_
      refine nk_wk [true, false] ?_
      exact zs_M_latest_b39 C hR hr (-9 : Int32) m1
    · refine nk_aload_n C zd_M_latest_25 rfl rfl ?_
      refine nk_getR C (r := 17) za_M_58 (Nat.le_of_ble_eq_true rfl) rfl rfl zd_M_latest_26 ?_
      refine nk_iload_n C zd_M_latest_29 rfl rfl ?_
      refine nk_bipush (v := 10) C zd_M_latest_30 (by decide) ?_
      refine nk_isub C zd_M_latest_32 ?_
      refine nk_iald C (Nat.le_of_ble_eq_true rfl) rfl zd_M_latest_33 (fun x2 => ?_)
      refine nk_goto (tgt := 39) C zd_M_latest_34 (by decide) ?_
      refine nk_wk [true, false] ?_
      exact zs_M_latest_b39 C hR hr x2 m1
theorem zd_M_spent_0 : decode zb_M_spent 0 = .ok (.aload_n 0, 1) := by decide +kernel
theorem zd_M_spent_1 : decode zb_M_spent 1 = .ok (.getfield 169, 3) := by decide +kernel
theorem zd_M_spent_4 : decode zb_M_spent 4 = .ok (.ireturn, 1) := by decide +kernel
def zf_M_spent   (m0 : nk_M) : Option (Int32 × nk_M) := some ((m0 0 16), m0)
set_option maxHeartbeats 4000000 in
set_option maxRecDepth 100000 in
theorem zc_M_spent {l : Launch} {G : nk_V}    (m0 : nk_M) : nk_Ct l nk_wR G 1 zy_M_spent zb_M_spent 1 (some .int) nk_oi [nk_r G 0] m0 (zf_M_spent   m0) := by
  refine nk_ent (own := "NeedOnceModel") (lv := [nk_r G 0]) 0 rfl (by decide) (Nat.le_of_ble_eq_true rfl) rfl (fun X hl hR C hr => ?_)
  subst hl
  unfold zf_M_spent
  refine nk_aload_n C zd_M_spent_0 rfl rfl ?_
  refine nk_getI C za_M_169 (Nat.le_of_ble_eq_true rfl) rfl rfl zd_M_spent_1 ?_
  exact nk_iret C hr zd_M_spent_4
theorem zd_M_awakeOnes_0 : decode zb_M_awakeOnes 0 = .ok (.iconst 0, 1) := by decide +kernel
theorem zd_M_awakeOnes_1 : decode zb_M_awakeOnes 1 = .ok (.istore_n 1, 1) := by decide +kernel
theorem zd_M_awakeOnes_2 : decode zb_M_awakeOnes 2 = .ok (.iconst 0, 1) := by decide +kernel
theorem zd_M_awakeOnes_3 : decode zb_M_awakeOnes 3 = .ok (.istore_n 2, 1) := by decide +kernel
theorem zd_M_awakeOnes_4 : decode zb_M_awakeOnes 4 = .ok (.iload_n 2, 1) := by decide +kernel
theorem zd_M_awakeOnes_5 : decode zb_M_awakeOnes 5 = .ok (.aload_n 0, 1) := by decide +kernel
theorem zd_M_awakeOnes_6 : decode zb_M_awakeOnes 6 = .ok (.getfield 104, 3) := by decide +kernel
theorem zd_M_awakeOnes_9 : decode zb_M_awakeOnes 9 = .ok (.if_icmp .ge 26, 3) := by decide +kernel
theorem zd_M_awakeOnes_12 : decode zb_M_awakeOnes 12 = .ok (.iload_n 1, 1) := by decide +kernel
theorem zd_M_awakeOnes_13 : decode zb_M_awakeOnes 13 = .ok (.aload_n 0, 1) := by decide +kernel
theorem zd_M_awakeOnes_14 : decode zb_M_awakeOnes 14 = .ok (.getfield 34, 3) := by decide +kernel
theorem zd_M_awakeOnes_17 : decode zb_M_awakeOnes 17 = .ok (.iload_n 2, 1) := by decide +kernel
theorem zd_M_awakeOnes_18 : decode zb_M_awakeOnes 18 = .ok (.iaload, 1) := by decide +kernel
theorem zd_M_awakeOnes_19 : decode zb_M_awakeOnes 19 = .ok (.ifCond .lt 7, 3) := by decide +kernel
theorem zd_M_awakeOnes_22 : decode zb_M_awakeOnes 22 = .ok (.iconst 1, 1) := by decide +kernel
theorem zd_M_awakeOnes_23 : decode zb_M_awakeOnes 23 = .ok (.goto 4, 3) := by decide +kernel
theorem zd_M_awakeOnes_26 : decode zb_M_awakeOnes 26 = .ok (.iconst 0, 1) := by decide +kernel
theorem zd_M_awakeOnes_27 : decode zb_M_awakeOnes 27 = .ok (.iadd, 1) := by decide +kernel
theorem zd_M_awakeOnes_28 : decode zb_M_awakeOnes 28 = .ok (.istore_n 1, 1) := by decide +kernel
theorem zd_M_awakeOnes_29 : decode zb_M_awakeOnes 29 = .ok (.iinc 2 1, 3) := by decide +kernel
theorem zd_M_awakeOnes_32 : decode zb_M_awakeOnes 32 = .ok (.goto (-28), 3) := by decide +kernel
theorem zd_M_awakeOnes_35 : decode zb_M_awakeOnes 35 = .ok (.iload_n 1, 1) := by decide +kernel
theorem zd_M_awakeOnes_36 : decode zb_M_awakeOnes 36 = .ok (.ireturn, 1) := by decide +kernel
def zf_M_awakeOnes_b27 (rc4 : Int32 → Int32 → nk_M → Option (Int32 × nk_M)) (y2 : Int32) (u0 : Int32) (u1 : Int32) (m0 : nk_M) : Option (Int32 × nk_M) := nk_nm (u0 + u1) (fun x1 => (rc4 x1 (y2 + 1) m0))
set_option maxHeartbeats 4000000 in
set_option maxRecDepth 100000 in
theorem zs_M_awakeOnes_b27 {G : nk_V} {X : nk_X}   (C : nk_C "NeedOnceModel" zb_M_awakeOnes 3 nk_wR G X) (hR : X.2.2.2.1 = nk_rm 1) (hr : X.2.2.2.2.2.2.2.2.1.sig.returnType = (some .int)) (rc4 : Int32 → Int32 → nk_M → Option (Int32 × nk_M)) (hr4 : ∀ (y1 : Int32) (y2 : Int32) (m0 : nk_M), nk_Sim nk_wR G X 3 nk_oi 4 [nk_r G 0, .int y1, .int y2] [] m0 (rc4 y1 y2 m0)) : ∀ (y2 : Int32) (u0 : Int32) (u1 : Int32) (m0 : nk_M), nk_Sim nk_wR G X 3 nk_oi 27 [nk_r G 0, .null, .int y2] [.int u1, .int u0] m0 (zf_M_awakeOnes_b27 rc4 y2 u0 u1 m0) := by
  intro y2 u0 u1 m0
  unfold zf_M_awakeOnes_b27
  refine nk_iadd C zd_M_awakeOnes_27 ?_
  refine nk_named (fun x1 => ?_)
  refine nk_istore_n C zd_M_awakeOnes_28 rfl (Nat.le_of_ble_eq_true rfl) rfl ?_
  refine nk_iinc (v0 := y2 + 1) C zd_M_awakeOnes_29 rfl (nk_inc _ (by decide)) (Nat.le_of_ble_eq_true rfl) rfl ?_
  refine nk_goto (tgt := 4) C zd_M_awakeOnes_32 (by decide) ?_
  exact hr4 x1 (y2 + 1) m0
def zf_M_awakeOnes_b4  : Nat → Int32 → Int32 → nk_M → Option (Int32 × nk_M)
  | 0, _, _, _ => none
  | n0 + 1, y1, y2, m0 => (if (m0 0 1) ≤ y2 then some (y1, m0) else nk_ald m0 9 8 y2 (fun x1 => (if x1 < 0 then (zf_M_awakeOnes_b27 (zf_M_awakeOnes_b4 n0) y2 y1 (0 : Int32) m0) else (zf_M_awakeOnes_b27 (zf_M_awakeOnes_b4 n0) y2 y1 (1 : Int32) m0))))
set_option maxHeartbeats 4000000 in
set_option maxRecDepth 100000 in
theorem zs_M_awakeOnes_b4 {G : nk_V} {X : nk_X}   (C : nk_C "NeedOnceModel" zb_M_awakeOnes 3 nk_wR G X) (hR : X.2.2.2.1 = nk_rm 1) (hr : X.2.2.2.2.2.2.2.2.1.sig.returnType = (some .int))  : ∀ (n0 : Nat) (y1 : Int32) (y2 : Int32) (m0 : nk_M), nk_Sim nk_wR G X 3 nk_oi 4 [nk_r G 0, .int y1, .int y2] [] m0 (zf_M_awakeOnes_b4 n0 y1 y2 m0) := by
  intro n0
  induction n0 with
  | zero => intros; exact nk_none
  | succ n0 ih =>
    intro y1 y2 m0
    rw [zf_M_awakeOnes_b4]
    refine nk_iload_n C zd_M_awakeOnes_4 rfl rfl ?_
    refine nk_aload_n C zd_M_awakeOnes_5 rfl rfl ?_
    refine nk_getI C za_M_104 (Nat.le_of_ble_eq_true rfl) rfl rfl zd_M_awakeOnes_6 ?_
    refine nk_icmp_ge (tgt := 35) C zd_M_awakeOnes_9 (by decide) ?_ ?_
    · refine nk_iload_n C zd_M_awakeOnes_35 rfl rfl ?_
      exact nk_iret C hr zd_M_awakeOnes_36
    · refine nk_iload_n C zd_M_awakeOnes_12 rfl rfl ?_
      refine nk_aload_n C zd_M_awakeOnes_13 rfl rfl ?_
      refine nk_getR C (r := 9) za_M_34 (Nat.le_of_ble_eq_true rfl) rfl rfl zd_M_awakeOnes_14 ?_
      refine nk_iload_n C zd_M_awakeOnes_17 rfl rfl ?_
      refine nk_iald C (Nat.le_of_ble_eq_true rfl) rfl zd_M_awakeOnes_18 (fun x1 => ?_)
      refine nk_if_lt (tgt := 26) C zd_M_awakeOnes_19 (by decide) ?_ ?_
      · refine nk_iconst (v := 0) C zd_M_awakeOnes_26 (by decide) ?_
        refine nk_wk [true, false, true] ?_
        exact zs_M_awakeOnes_b27 C hR hr (zf_M_awakeOnes_b4 n0) ih y2 y1 (0 : Int32) m0
      · refine nk_iconst (v := 1) C zd_M_awakeOnes_22 (by decide) ?_
        refine nk_goto (tgt := 27) C zd_M_awakeOnes_23 (by decide) ?_
        refine nk_wk [true, false, true] ?_
        exact zs_M_awakeOnes_b27 C hR hr (zf_M_awakeOnes_b4 n0) ih y2 y1 (1 : Int32) m0
def zf_M_awakeOnes   (m0 : nk_M) : Option (Int32 × nk_M) := (zf_M_awakeOnes_b4 nk_fu (0 : Int32) (0 : Int32) m0)
set_option maxHeartbeats 4000000 in
set_option maxRecDepth 100000 in
theorem zc_M_awakeOnes {l : Launch} {G : nk_V}    (m0 : nk_M) : nk_Ct l nk_wR G 1 zy_M_awakeOnes zb_M_awakeOnes 3 (some .int) nk_oi [nk_r G 0] m0 (zf_M_awakeOnes   m0) := by
  refine nk_ent (own := "NeedOnceModel") (lv := [nk_r G 0, .null, .null]) 2 rfl (by decide) (Nat.le_of_ble_eq_true rfl) rfl (fun X hl hR C hr => ?_)
  subst hl
  unfold zf_M_awakeOnes
  refine nk_iconst (v := 0) C zd_M_awakeOnes_0 (by decide) ?_
  refine nk_istore_n C zd_M_awakeOnes_1 rfl (Nat.le_of_ble_eq_true rfl) rfl ?_
  refine nk_iconst (v := 0) C zd_M_awakeOnes_2 (by decide) ?_
  refine nk_istore_n C zd_M_awakeOnes_3 rfl (Nat.le_of_ble_eq_true rfl) rfl ?_
  exact zs_M_awakeOnes_b4 C hR hr nk_fu (0 : Int32) (0 : Int32) m0

/-! ===== 08: decode rows, meanings (zf_) and contracts (zc_) of methods (written by program) ===== -/
theorem zd_C_keep_0 : decode zb_C_keep 0 = .ok (.aload_n 0, 1) := by decide +kernel
theorem zd_C_keep_1 : decode zb_C_keep 1 = .ok (.getfield 24, 3) := by decide +kernel
theorem zd_C_keep_4 : decode zb_C_keep 4 = .ok (.iload_n 1, 1) := by decide +kernel
theorem zd_C_keep_5 : decode zb_C_keep 5 = .ok (.iload_n 2, 1) := by decide +kernel
theorem zd_C_keep_6 : decode zb_C_keep 6 = .ok (.iastore, 1) := by decide +kernel
theorem zd_C_keep_7 : decode zb_C_keep 7 = .ok (.aload_n 0, 1) := by decide +kernel
theorem zd_C_keep_8 : decode zb_C_keep 8 = .ok (.getfield 90, 3) := by decide +kernel
theorem zd_C_keep_11 : decode zb_C_keep 11 = .ok (.bipush 8, 2) := by decide +kernel
theorem zd_C_keep_13 : decode zb_C_keep 13 = .ok (.if_icmp .lt 4, 3) := by decide +kernel
theorem zd_C_keep_16 : decode zb_C_keep 16 = .ok (.return_, 1) := by decide +kernel
theorem zd_C_keep_17 : decode zb_C_keep 17 = .ok (.aload_n 0, 1) := by decide +kernel
theorem zd_C_keep_18 : decode zb_C_keep 18 = .ok (.getfield 41, 3) := by decide +kernel
theorem zd_C_keep_21 : decode zb_C_keep 21 = .ok (.aload_n 0, 1) := by decide +kernel
theorem zd_C_keep_22 : decode zb_C_keep 22 = .ok (.getfield 90, 3) := by decide +kernel
theorem zd_C_keep_25 : decode zb_C_keep 25 = .ok (.iload_n 1, 1) := by decide +kernel
theorem zd_C_keep_26 : decode zb_C_keep 26 = .ok (.iastore, 1) := by decide +kernel
theorem zd_C_keep_27 : decode zb_C_keep 27 = .ok (.aload_n 0, 1) := by decide +kernel
theorem zd_C_keep_28 : decode zb_C_keep 28 = .ok (.dup, 1) := by decide +kernel
theorem zd_C_keep_29 : decode zb_C_keep 29 = .ok (.getfield 90, 3) := by decide +kernel
theorem zd_C_keep_32 : decode zb_C_keep 32 = .ok (.iconst 1, 1) := by decide +kernel
theorem zd_C_keep_33 : decode zb_C_keep 33 = .ok (.iadd, 1) := by decide +kernel
theorem zd_C_keep_34 : decode zb_C_keep 34 = .ok (.putfield 90, 3) := by decide +kernel
theorem zd_C_keep_37 : decode zb_C_keep 37 = .ok (.return_, 1) := by decide +kernel
def zf_C_keep (o B : Nat) (a1 : Int32) (a2 : Int32) (m0 : nk_M) : Option (Unit × nk_M) := nk_ast m0 (B + 4) 8 a1 a2 (fun m1 => (if (m1 o 14) < (8 : Int32) then nk_ast m1 (B + 8) 8 (m1 o 14) a1 (fun m2 => nk_pf m2 o 14 ((m2 o 14) + (1 : Int32)) (fun m3 => some ((), m3))) else some ((), m1)))
set_option maxHeartbeats 4000000 in
set_option maxRecDepth 100000 in
theorem zc_C_keep {l : Launch} {G : nk_V} (o B : Nat) (hc : nk_isC o B) (a1 : Int32) (a2 : Int32) (m0 : nk_M) : nk_Ct l nk_wC G 1 zy_C_keep zb_C_keep 3 none nk_ov [nk_r G o, .int a1, .int a2] m0 (zf_C_keep o B a1 a2 m0) := by
  refine nk_ent (own := "NeedOnce$Cells") (lv := [nk_r G o, .int a1, .int a2]) 0 rfl (by decide) (Nat.le_of_ble_eq_true rfl) rfl (fun X hl hR C hr => ?_)
  subst hl
  unfold zf_C_keep
  refine nk_aload_n C zd_C_keep_0 rfl rfl ?_
  refine nk_getR C (r := (B + 4)) za_C_24 (nkc_ok hc) (nkc_os hc) rfl zd_C_keep_1 ?_
  refine nk_iload_n C zd_C_keep_4 rfl rfl ?_
  refine nk_iload_n C zd_C_keep_5 rfl rfl ?_
  refine nk_iast C (nkc_bk4 hc) (nkc_bs4 hc) zd_C_keep_6 (fun m1 => ?_)
  refine nk_aload_n C zd_C_keep_7 rfl rfl ?_
  refine nk_getI C za_C_90 (nkc_ok hc) (nkc_os hc) rfl zd_C_keep_8 ?_
  refine nk_bipush (v := 8) C zd_C_keep_11 (by decide) ?_
  refine nk_icmp_lt (tgt := 17) C zd_C_keep_13 (by decide) ?_ ?_
  · refine nk_aload_n C zd_C_keep_17 rfl rfl ?_
    refine nk_getR C (r := (B + 8)) za_C_41 (nkc_ok hc) (nkc_os hc) rfl zd_C_keep_18 ?_
    refine nk_aload_n C zd_C_keep_21 rfl rfl ?_
    refine nk_getI C za_C_90 (nkc_ok hc) (nkc_os hc) rfl zd_C_keep_22 ?_
    refine nk_iload_n C zd_C_keep_25 rfl rfl ?_
    refine nk_iast C (nkc_bk8 hc) (nkc_bs8 hc) zd_C_keep_26 (fun m2 => ?_)
    refine nk_aload_n C zd_C_keep_27 rfl rfl ?_
    refine nk_dup C zd_C_keep_28 rfl ?_
    refine nk_getI C za_C_90 (nkc_ok hc) (nkc_os hc) rfl zd_C_keep_29 ?_
    refine nk_iconst (v := 1) C zd_C_keep_32 (by decide) ?_
    refine nk_iadd C zd_C_keep_33 ?_
    refine nk_putI C zp_C_90 (nkc_ok hc) (nkc_os hc) rfl zd_C_keep_34 (fun m3 => ?_)
    exact nk_vret C hr zd_C_keep_37
  · exact nk_vret C hr zd_C_keep_16
theorem zd_C_comeTo_0 : decode zb_C_comeTo 0 = .ok (.aload_n 0, 1) := by decide +kernel
theorem zd_C_comeTo_1 : decode zb_C_comeTo 1 = .ok (.iload_n 1, 1) := by decide +kernel
theorem zd_C_comeTo_2 : decode zb_C_comeTo 2 = .ok (.invokevirtual 77, 3) := by decide +kernel
theorem zd_C_comeTo_5 : decode zb_C_comeTo 5 = .ok (.ifCond .eq 10, 3) := by decide +kernel
theorem zd_C_comeTo_8 : decode zb_C_comeTo 8 = .ok (.aload_n 0, 1) := by decide +kernel
theorem zd_C_comeTo_9 : decode zb_C_comeTo 9 = .ok (.getfield 24, 3) := by decide +kernel
theorem zd_C_comeTo_12 : decode zb_C_comeTo 12 = .ok (.iload_n 1, 1) := by decide +kernel
theorem zd_C_comeTo_13 : decode zb_C_comeTo 13 = .ok (.iaload, 1) := by decide +kernel
theorem zd_C_comeTo_14 : decode zb_C_comeTo 14 = .ok (.ireturn, 1) := by decide +kernel
theorem zd_C_comeTo_15 : decode zb_C_comeTo 15 = .ok (.aload_n 0, 1) := by decide +kernel
theorem zd_C_comeTo_16 : decode zb_C_comeTo 16 = .ok (.getfield 33, 3) := by decide +kernel
theorem zd_C_comeTo_19 : decode zb_C_comeTo 19 = .ok (.iload_n 1, 1) := by decide +kernel
theorem zd_C_comeTo_20 : decode zb_C_comeTo 20 = .ok (.baload, 1) := by decide +kernel
theorem zd_C_comeTo_21 : decode zb_C_comeTo 21 = .ok (.ifCond .ne 9, 3) := by decide +kernel
theorem zd_C_comeTo_24 : decode zb_C_comeTo 24 = .ok (.iload_n 2, 1) := by decide +kernel
theorem zd_C_comeTo_25 : decode zb_C_comeTo 25 = .ok (.bipush 8, 2) := by decide +kernel
theorem zd_C_comeTo_27 : decode zb_C_comeTo 27 = .ok (.if_icmp .le 6, 3) := by decide +kernel
theorem zd_C_comeTo_30 : decode zb_C_comeTo 30 = .ok (.bipush 101, 2) := by decide +kernel
theorem zd_C_comeTo_32 : decode zb_C_comeTo 32 = .ok (.ireturn, 1) := by decide +kernel
theorem zd_C_comeTo_33 : decode zb_C_comeTo 33 = .ok (.aload_n 0, 1) := by decide +kernel
theorem zd_C_comeTo_34 : decode zb_C_comeTo 34 = .ok (.getfield 33, 3) := by decide +kernel
theorem zd_C_comeTo_37 : decode zb_C_comeTo 37 = .ok (.iload_n 1, 1) := by decide +kernel
theorem zd_C_comeTo_38 : decode zb_C_comeTo 38 = .ok (.iconst 1, 1) := by decide +kernel
theorem zd_C_comeTo_39 : decode zb_C_comeTo 39 = .ok (.bastore, 1) := by decide +kernel
theorem zd_C_comeTo_40 : decode zb_C_comeTo 40 = .ok (.aload_n 0, 1) := by decide +kernel
theorem zd_C_comeTo_41 : decode zb_C_comeTo 41 = .ok (.dup, 1) := by decide +kernel
theorem zd_C_comeTo_42 : decode zb_C_comeTo 42 = .ok (.getfield 81, 3) := by decide +kernel
theorem zd_C_comeTo_45 : decode zb_C_comeTo 45 = .ok (.iconst 1, 1) := by decide +kernel
theorem zd_C_comeTo_46 : decode zb_C_comeTo 46 = .ok (.iadd, 1) := by decide +kernel
theorem zd_C_comeTo_47 : decode zb_C_comeTo 47 = .ok (.putfield 81, 3) := by decide +kernel
theorem zd_C_comeTo_50 : decode zb_C_comeTo 50 = .ok (.aload_n 0, 1) := by decide +kernel
theorem zd_C_comeTo_51 : decode zb_C_comeTo 51 = .ok (.aload_n 0, 1) := by decide +kernel
theorem zd_C_comeTo_52 : decode zb_C_comeTo 52 = .ok (.getfield 84, 3) := by decide +kernel
theorem zd_C_comeTo_55 : decode zb_C_comeTo 55 = .ok (.iload_n 2, 1) := by decide +kernel
theorem zd_C_comeTo_56 : decode zb_C_comeTo 56 = .ok (.invokestatic 99, 3) := by decide +kernel
theorem zd_C_comeTo_59 : decode zb_C_comeTo 59 = .ok (.putfield 84, 3) := by decide +kernel
theorem zd_C_comeTo_62 : decode zb_C_comeTo 62 = .ok (.aload_n 0, 1) := by decide +kernel
theorem zd_C_comeTo_63 : decode zb_C_comeTo 63 = .ok (.iload_n 1, 1) := by decide +kernel
theorem zd_C_comeTo_64 : decode zb_C_comeTo 64 = .ok (.invokevirtual 104, 3) := by decide +kernel
theorem zd_C_comeTo_67 : decode zb_C_comeTo 67 = .ok (.aload_n 0, 1) := by decide +kernel
theorem zd_C_comeTo_68 : decode zb_C_comeTo 68 = .ok (.iload_n 1, 1) := by decide +kernel
theorem zd_C_comeTo_69 : decode zb_C_comeTo 69 = .ok (.iload_n 2, 1) := by decide +kernel
theorem zd_C_comeTo_70 : decode zb_C_comeTo 70 = .ok (.invokevirtual 108, 3) := by decide +kernel
theorem zd_C_comeTo_73 : decode zb_C_comeTo 73 = .ok (.istore_n 3, 1) := by decide +kernel
theorem zd_C_comeTo_74 : decode zb_C_comeTo 74 = .ok (.aload_n 0, 1) := by decide +kernel
theorem zd_C_comeTo_75 : decode zb_C_comeTo 75 = .ok (.getfield 33, 3) := by decide +kernel
theorem zd_C_comeTo_78 : decode zb_C_comeTo 78 = .ok (.iload_n 1, 1) := by decide +kernel
theorem zd_C_comeTo_79 : decode zb_C_comeTo 79 = .ok (.iconst 0, 1) := by decide +kernel
theorem zd_C_comeTo_80 : decode zb_C_comeTo 80 = .ok (.bastore, 1) := by decide +kernel
theorem zd_C_comeTo_81 : decode zb_C_comeTo 81 = .ok (.aload_n 0, 1) := by decide +kernel
theorem zd_C_comeTo_82 : decode zb_C_comeTo 82 = .ok (.getfield 37, 3) := by decide +kernel
theorem zd_C_comeTo_85 : decode zb_C_comeTo 85 = .ok (.ifCond .eq 9, 3) := by decide +kernel
theorem zd_C_comeTo_88 : decode zb_C_comeTo 88 = .ok (.aload_n 0, 1) := by decide +kernel
theorem zd_C_comeTo_89 : decode zb_C_comeTo 89 = .ok (.iload_n 1, 1) := by decide +kernel
theorem zd_C_comeTo_90 : decode zb_C_comeTo 90 = .ok (.iload_n 3, 1) := by decide +kernel
theorem zd_C_comeTo_91 : decode zb_C_comeTo 91 = .ok (.invokevirtual 111, 3) := by decide +kernel
theorem zd_C_comeTo_94 : decode zb_C_comeTo 94 = .ok (.iload_n 3, 1) := by decide +kernel
theorem zd_C_comeTo_95 : decode zb_C_comeTo 95 = .ok (.ireturn, 1) := by decide +kernel
def zf_C_comeTo_b30 (o B : Nat) (rc : Int32 → Int32 → nk_M → Option (Int32 × nk_M))  (m0 : nk_M) : Option (Int32 × nk_M) := some ((101 : Int32), m0)
set_option maxHeartbeats 4000000 in
set_option maxRecDepth 100000 in
theorem zs_C_comeTo_b30 {G : nk_V} {X : nk_X} (o B : Nat) (rc : Int32 → Int32 → nk_M → Option (Int32 × nk_M)) (hc : nk_isC o B) {hh : Nat} (hrc : ∀ (c d : Int32) (μ : nk_M), nk_Ct X.2.1 nk_wC G hh zy_C_comeTo zb_C_comeTo 4 (some .int) nk_oi [nk_r G o, .int c, .int d] μ (rc c d μ)) (C : nk_C "NeedOnce$Cells" zb_C_comeTo 4 nk_wC G X) (hR : X.2.2.2.1 = nk_rm (hh + 4)) (hr : X.2.2.2.2.2.2.2.2.1.sig.returnType = (some .int))  : ∀  (m0 : nk_M), nk_Sim nk_wC G X 4 nk_oi 30 [nk_r G o, .null, .null, .null] [] m0 (zf_C_comeTo_b30 o B rc  m0) := by
  intro m0
  unfold zf_C_comeTo_b30
  refine nk_bipush (v := 101) C zd_C_comeTo_30 (by decide) ?_
  exact nk_iret C hr zd_C_comeTo_32
def zf_C_comeTo_b94 (o B : Nat) (rc : Int32 → Int32 → nk_M → Option (Int32 × nk_M)) (y3 : Int32) (m0 : nk_M) : Option (Int32 × nk_M) := some (y3, m0)
set_option maxHeartbeats 4000000 in
set_option maxRecDepth 100000 in
theorem zs_C_comeTo_b94 {G : nk_V} {X : nk_X} (o B : Nat) (rc : Int32 → Int32 → nk_M → Option (Int32 × nk_M)) (hc : nk_isC o B) {hh : Nat} (hrc : ∀ (c d : Int32) (μ : nk_M), nk_Ct X.2.1 nk_wC G hh zy_C_comeTo zb_C_comeTo 4 (some .int) nk_oi [nk_r G o, .int c, .int d] μ (rc c d μ)) (C : nk_C "NeedOnce$Cells" zb_C_comeTo 4 nk_wC G X) (hR : X.2.2.2.1 = nk_rm (hh + 4)) (hr : X.2.2.2.2.2.2.2.2.1.sig.returnType = (some .int))  : ∀ (y3 : Int32) (m0 : nk_M), nk_Sim nk_wC G X 4 nk_oi 94 [nk_r G o, .null, .null, .int y3] [] m0 (zf_C_comeTo_b94 o B rc y3 m0) := by
  intro y3 m0
  unfold zf_C_comeTo_b94
  refine nk_iload_n C zd_C_comeTo_94 rfl rfl ?_
  exact nk_iret C hr zd_C_comeTo_95
def zf_C_comeTo (o B : Nat) (rc : Int32 → Int32 → nk_M → Option (Int32 × nk_M)) (a1 : Int32) (a2 : Int32) (m0 : nk_M) : Option (Int32 × nk_M) := nk_bd (zf_C_isAwake o B a1 m0) (fun r1 m1 => (if r1 = 0 then nk_ald m1 (B + 7) 8 a1 (fun x2 => (if x2 = 0 then (if a2 ≤ (8 : Int32) then nk_ast m1 (B + 7) 8 a1 (1 : Int32) (fun m2 => nk_pf m2 o 11 ((m2 o 11) + (1 : Int32)) (fun m3 => nk_pf m3 o 12 (if (m3 o 12) < a2 then a2 else (m3 o 12)) (fun m4 => nk_bd (zf_C_payFor o B a1 m4) (fun _ m5 => nk_bd (zf_C_workOut o B rc a1 a2 m5) (fun r4 m6 => nk_ast m6 (B + 7) 8 a1 (0 : Int32) (fun m7 => (if (m7 o 9) = 0 then (zf_C_comeTo_b94 o B rc r4 m7) else nk_bd (zf_C_keep o B a1 r4 m7) (fun _ m8 => (zf_C_comeTo_b94 o B rc r4 m8))))))))) else (zf_C_comeTo_b30 o B rc m1)) else (zf_C_comeTo_b30 o B rc m1))) else nk_ald m1 (B + 4) 8 a1 (fun x6 => some (x6, m1))))
set_option maxHeartbeats 4000000 in
set_option maxRecDepth 100000 in
theorem zc_C_comeTo {l : Launch} {G : nk_V} (o B : Nat) (rc : Int32 → Int32 → nk_M → Option (Int32 × nk_M)) (hc : nk_isC o B) {hh : Nat} (hrc : ∀ (c d : Int32) (μ : nk_M), nk_Ct l nk_wC G hh zy_C_comeTo zb_C_comeTo 4 (some .int) nk_oi [nk_r G o, .int c, .int d] μ (rc c d μ)) (a1 : Int32) (a2 : Int32) (m0 : nk_M) : nk_Ct l nk_wC G (hh + 4) zy_C_comeTo zb_C_comeTo 4 (some .int) nk_oi [nk_r G o, .int a1, .int a2] m0 (zf_C_comeTo o B rc a1 a2 m0) := by
  refine nk_ent (own := "NeedOnce$Cells") (lv := [nk_r G o, .int a1, .int a2, .null]) 1 rfl (by decide) (Nat.le_of_ble_eq_true rfl) rfl (fun X hl hR C hr => ?_)
  subst hl
  unfold zf_C_comeTo
  refine nk_aload_n C zd_C_comeTo_0 rfl rfl ?_
  refine nk_iload_n C zd_C_comeTo_1 rfl rfl ?_
  refine nk_callVi C [.int a1] zv_C_77 hR (zc_C_isAwake o B hc a1 m0) (by omega) (nkc_ok hc) (nkc_os hc) rfl rfl rfl (Nat.le_of_ble_eq_true rfl) zd_C_comeTo_2 (fun r1 m1 => ?_)
  refine nk_if_eq (tgt := 15) C zd_C_comeTo_5 (by decide) ?_ ?_
  · refine nk_aload_n C zd_C_comeTo_15 rfl rfl ?_
    refine nk_getR C (r := (B + 7)) za_C_33 (nkc_ok hc) (nkc_os hc) rfl zd_C_comeTo_16 ?_
    refine nk_iload_n C zd_C_comeTo_19 rfl rfl ?_
    refine nk_zald C (nkc_bk7 hc) (nkc_bs7 hc) zd_C_comeTo_20 (fun x2 => ?_)
    refine nk_if_ne (tgt := 30) C zd_C_comeTo_21 (by decide) ?_ ?_
    · refine nk_wk [true, false, false, false] ?_
      exact zs_C_comeTo_b30 o B rc hc hrc C hR hr m1
    · refine nk_iload_n C zd_C_comeTo_24 rfl rfl ?_
      refine nk_bipush (v := 8) C zd_C_comeTo_25 (by decide) ?_
      refine nk_icmp_le (tgt := 33) C zd_C_comeTo_27 (by decide) ?_ ?_
      · refine nk_aload_n C zd_C_comeTo_33 rfl rfl ?_
        refine nk_getR C (r := (B + 7)) za_C_33 (nkc_ok hc) (nkc_os hc) rfl zd_C_comeTo_34 ?_
        refine nk_iload_n C zd_C_comeTo_37 rfl rfl ?_
        refine nk_iconst (v := 1) C zd_C_comeTo_38 (by decide) ?_
        refine nk_zast C (nkc_bk7 hc) (nkc_bs7 hc) (by decide) zd_C_comeTo_39 (fun m2 => ?_)
        refine nk_aload_n C zd_C_comeTo_40 rfl rfl ?_
        refine nk_dup C zd_C_comeTo_41 rfl ?_
        refine nk_getI C za_C_81 (nkc_ok hc) (nkc_os hc) rfl zd_C_comeTo_42 ?_
        refine nk_iconst (v := 1) C zd_C_comeTo_45 (by decide) ?_
        refine nk_iadd C zd_C_comeTo_46 ?_
        refine nk_putI C zp_C_81 (nkc_ok hc) (nkc_os hc) rfl zd_C_comeTo_47 (fun m3 => ?_)
        refine nk_aload_n C zd_C_comeTo_50 rfl rfl ?_
        refine nk_aload_n C zd_C_comeTo_51 rfl rfl ?_
        refine nk_getI C za_C_84 (nkc_ok hc) (nkc_os hc) rfl zd_C_comeTo_52 ?_
        refine nk_iload_n C zd_C_comeTo_55 rfl rfl ?_
        refine nk_mmax C hR zw_300 zw_301 zw_9 zw_302 (Nat.le_of_ble_eq_true rfl) zd_C_comeTo_56 ?_
        refine nk_putI C zp_C_84 (nkc_ok hc) (nkc_os hc) rfl zd_C_comeTo_59 (fun m4 => ?_)
        refine nk_aload_n C zd_C_comeTo_62 rfl rfl ?_
        refine nk_iload_n C zd_C_comeTo_63 rfl rfl ?_
        refine nk_callVv C [.int a1] zv_C_104 hR (zc_C_payFor o B hc a1 m4) (by omega) (nkc_ok hc) (nkc_os hc) rfl rfl rfl (Nat.le_of_ble_eq_true rfl) zd_C_comeTo_64 (fun m5 => ?_)
        refine nk_aload_n C zd_C_comeTo_67 rfl rfl ?_
        refine nk_iload_n C zd_C_comeTo_68 rfl rfl ?_
        refine nk_iload_n C zd_C_comeTo_69 rfl rfl ?_
        refine nk_callVi C [.int a1, .int a2] zv_C_108 hR (zc_C_workOut o B rc hc hrc a1 a2 m5) (by omega) (nkc_ok hc) (nkc_os hc) rfl rfl rfl (Nat.le_of_ble_eq_true rfl) zd_C_comeTo_70 (fun r4 m6 => ?_)
        refine nk_istore_n C zd_C_comeTo_73 rfl (Nat.le_of_ble_eq_true rfl) rfl ?_
        refine nk_aload_n C zd_C_comeTo_74 rfl rfl ?_
        refine nk_getR C (r := (B + 7)) za_C_33 (nkc_ok hc) (nkc_os hc) rfl zd_C_comeTo_75 ?_
        refine nk_iload_n C zd_C_comeTo_78 rfl rfl ?_
        refine nk_iconst (v := 0) C zd_C_comeTo_79 (by decide) ?_
        refine nk_zast C (nkc_bk7 hc) (nkc_bs7 hc) (by decide) zd_C_comeTo_80 (fun m7 => ?_)
        refine nk_aload_n C zd_C_comeTo_81 rfl rfl ?_
        refine nk_getI C za_C_37 (nkc_ok hc) (nkc_os hc) rfl zd_C_comeTo_82 ?_
        refine nk_if_eq (tgt := 94) C zd_C_comeTo_85 (by decide) ?_ ?_
        · refine nk_wk [true, false, false, true] ?_
          exact zs_C_comeTo_b94 o B rc hc hrc C hR hr r4 m7
        · refine nk_aload_n C zd_C_comeTo_88 rfl rfl ?_
          refine nk_iload_n C zd_C_comeTo_89 rfl rfl ?_
          refine nk_iload_n C zd_C_comeTo_90 rfl rfl ?_
          refine nk_callVv C [.int a1, .int r4] zv_C_111 hR (zc_C_keep o B hc a1 r4 m7) (by omega) (nkc_ok hc) (nkc_os hc) rfl rfl rfl (Nat.le_of_ble_eq_true rfl) zd_C_comeTo_91 (fun m8 => ?_)
          refine nk_wk [true, false, false, true] ?_
          exact zs_C_comeTo_b94 o B rc hc hrc C hR hr r4 m8
      · refine nk_wk [true, false, false, false] ?_
        exact zs_C_comeTo_b30 o B rc hc hrc C hR hr m1
  · refine nk_aload_n C zd_C_comeTo_8 rfl rfl ?_
    refine nk_getR C (r := (B + 4)) za_C_24 (nkc_ok hc) (nkc_os hc) rfl zd_C_comeTo_9 ?_
    refine nk_iload_n C zd_C_comeTo_12 rfl rfl ?_
    refine nk_iald C (nkc_bk4 hc) (nkc_bs4 hc) zd_C_comeTo_13 (fun x6 => ?_)
    exact nk_iret C hr zd_C_comeTo_14
def zf_C_comeToN (o B : Nat) : Nat → Int32 → Int32 → nk_M → Option (Int32 × nk_M)
  | 0, _, _, _ => none
  | n + 1, c, d, m => zf_C_comeTo o B (zf_C_comeToN o B n) c d m
theorem zc_C_comeToN {l : Launch} {G : nk_V} (o B : Nat) (hc : nk_isC o B) : ∀ (n : Nat) (c d : Int32) (m : nk_M), nk_Ct l nk_wC G (4 * n + 4) zy_C_comeTo zb_C_comeTo 4 (some .int) nk_oi [nk_r G o, .int c, .int d] m (zf_C_comeToN o B n c d m) := by
  intro n
  induction n with
  | zero => intro c d m v μ' e; cases e
  | succ n ih =>
    intro c d m
    rw [zf_C_comeToN]
    exact zc_C_comeTo o B _ hc ih c d m
theorem zd_C_needAnew_0 : decode zb_C_needAnew 0 = .ok (.aload_n 0, 1) := by decide +kernel
theorem zd_C_needAnew_1 : decode zb_C_needAnew 1 = .ok (.invokevirtual 93, 3) := by decide +kernel
theorem zd_C_needAnew_4 : decode zb_C_needAnew 4 = .ok (.aload_n 0, 1) := by decide +kernel
theorem zd_C_needAnew_5 : decode zb_C_needAnew 5 = .ok (.iload_n 1, 1) := by decide +kernel
theorem zd_C_needAnew_6 : decode zb_C_needAnew 6 = .ok (.iconst 1, 1) := by decide +kernel
theorem zd_C_needAnew_7 : decode zb_C_needAnew 7 = .ok (.invokevirtual 96, 3) := by decide +kernel
theorem zd_C_needAnew_10 : decode zb_C_needAnew 10 = .ok (.ireturn, 1) := by decide +kernel
def zf_C_needAnew (o B : Nat) (a1 : Int32) (m0 : nk_M) : Option (Int32 × nk_M) := nk_bd (zf_C_startLatest o B m0) (fun _ m1 => nk_bd (zf_C_comeToN o B 10 a1 (1 : Int32) m1) (fun r2 m2 => some (r2, m2)))
set_option maxHeartbeats 4000000 in
set_option maxRecDepth 100000 in
theorem zc_C_needAnew {l : Launch} {G : nk_V} (o B : Nat) (hc : nk_isC o B) (a1 : Int32) (m0 : nk_M) : nk_Ct l nk_wC G 45 zy_C_needAnew zb_C_needAnew 2 (some .int) nk_oi [nk_r G o, .int a1] m0 (zf_C_needAnew o B a1 m0) := by
  refine nk_ent (own := "NeedOnce$Cells") (lv := [nk_r G o, .int a1]) 0 rfl (by decide) (Nat.le_of_ble_eq_true rfl) rfl (fun X hl hR C hr => ?_)
  subst hl
  unfold zf_C_needAnew
  refine nk_aload_n C zd_C_needAnew_0 rfl rfl ?_
  refine nk_callVv C [] zv_C_93 hR (zc_C_startLatest o B hc m0) (by omega) (nkc_ok hc) (nkc_os hc) rfl rfl rfl (Nat.le_of_ble_eq_true rfl) zd_C_needAnew_1 (fun m1 => ?_)
  refine nk_aload_n C zd_C_needAnew_4 rfl rfl ?_
  refine nk_iload_n C zd_C_needAnew_5 rfl rfl ?_
  refine nk_iconst (v := 1) C zd_C_needAnew_6 (by decide) ?_
  refine nk_callVi C [.int a1, .int (1 : Int32)] zv_C_96 hR (zc_C_comeToN o B hc 10 a1 (1 : Int32) m1) (by omega) (nkc_ok hc) (nkc_os hc) rfl rfl rfl (Nat.le_of_ble_eq_true rfl) zd_C_needAnew_7 (fun r2 m2 => ?_)
  exact nk_iret C hr zd_C_needAnew_10
theorem zd_N_need_0 : decode zb_N_need 0 = .ok (.aload_n 0, 1) := by decide +kernel
theorem zd_N_need_1 : decode zb_N_need 1 = .ok (.getfield 12, 3) := by decide +kernel
theorem zd_N_need_4 : decode zb_N_need 4 = .ok (.iload_n 1, 1) := by decide +kernel
theorem zd_N_need_5 : decode zb_N_need 5 = .ok (.invokevirtual 80, 3) := by decide +kernel
theorem zd_N_need_8 : decode zb_N_need 8 = .ok (.ifCond .eq 14, 3) := by decide +kernel
theorem zd_N_need_11 : decode zb_N_need 11 = .ok (.aload_n 0, 1) := by decide +kernel
theorem zd_N_need_12 : decode zb_N_need 12 = .ok (.getfield 12, 3) := by decide +kernel
theorem zd_N_need_15 : decode zb_N_need 15 = .ok (.iload_n 1, 1) := by decide +kernel
theorem zd_N_need_16 : decode zb_N_need 16 = .ok (.invokevirtual 107, 3) := by decide +kernel
theorem zd_N_need_19 : decode zb_N_need 19 = .ok (.goto 4, 3) := by decide +kernel
theorem zd_N_need_22 : decode zb_N_need 22 = .ok (.iconst (-1), 1) := by decide +kernel
theorem zd_N_need_23 : decode zb_N_need 23 = .ok (.ireturn, 1) := by decide +kernel
def zf_N_need_b23  (u0 : Int32) (m0 : nk_M) : Option (Int32 × nk_M) := some (u0, m0)
set_option maxHeartbeats 4000000 in
set_option maxRecDepth 100000 in
theorem zs_N_need_b23 {G : nk_V} {X : nk_X}   (C : nk_C "NeedOnce" zb_N_need 2 nk_wC G X) (hR : X.2.2.2.1 = nk_rm 46) (hr : X.2.2.2.2.2.2.2.2.1.sig.returnType = (some .int))  : ∀ (u0 : Int32) (m0 : nk_M), nk_Sim nk_wC G X 2 nk_oi 23 [nk_r G 0, .null] [.int u0] m0 (zf_N_need_b23 u0 m0) := by
  intro u0 m0
  unfold zf_N_need_b23
  exact nk_iret C hr zd_N_need_23
def zf_N_need  (a1 : Int32) (m0 : nk_M) : Option (Int32 × nk_M) := nk_bd (zf_C_has 1 6 a1 m0) (fun r1 m1 => (if r1 = 0 then (zf_N_need_b23 (-1 : Int32) m1) else nk_bd (zf_C_needAnew 1 6 a1 m1) (fun r2 m2 => (zf_N_need_b23 r2 m2))))
set_option maxHeartbeats 4000000 in
set_option maxRecDepth 100000 in
theorem zc_N_need {l : Launch} {G : nk_V}   (a1 : Int32) (m0 : nk_M) : nk_Ct l nk_wC G 46 zy_N_need zb_N_need 2 (some .int) nk_oi [nk_r G 0, .int a1] m0 (zf_N_need  a1 m0) := by
  refine nk_ent (own := "NeedOnce") (lv := [nk_r G 0, .int a1]) 0 rfl (by decide) (Nat.le_of_ble_eq_true rfl) rfl (fun X hl hR C hr => ?_)
  subst hl
  unfold zf_N_need
  refine nk_aload_n C zd_N_need_0 rfl rfl ?_
  refine nk_getR C (r := 1) za_N_12 (Nat.le_of_ble_eq_true rfl) rfl rfl zd_N_need_1 ?_
  refine nk_iload_n C zd_N_need_4 rfl rfl ?_
  refine nk_callVi C [.int a1] zv_N_80 hR (zc_C_has 1 6 (Or.inl ⟨rfl, rfl⟩) a1 m0) (by omega) (Nat.le_of_ble_eq_true rfl) rfl rfl rfl rfl (Nat.le_of_ble_eq_true rfl) zd_N_need_5 (fun r1 m1 => ?_)
  refine nk_if_eq (tgt := 22) C zd_N_need_8 (by decide) ?_ ?_
  · refine nk_iconst (v := -1) C zd_N_need_22 (by decide) ?_
    refine nk_wk [true, false] ?_
    exact zs_N_need_b23 C hR hr (-1 : Int32) m1
  · refine nk_aload_n C zd_N_need_11 rfl rfl ?_
    refine nk_getR C (r := 1) za_N_12 (Nat.le_of_ble_eq_true rfl) rfl rfl zd_N_need_12 ?_
    refine nk_iload_n C zd_N_need_15 rfl rfl ?_
    refine nk_callVi C [.int a1] zv_N_107 hR (zc_C_needAnew 1 6 (Or.inl ⟨rfl, rfl⟩) a1 m1) (by omega) (Nat.le_of_ble_eq_true rfl) rfl rfl rfl rfl (Nat.le_of_ble_eq_true rfl) zd_N_need_16 (fun r2 m2 => ?_)
    refine nk_goto (tgt := 23) C zd_N_need_19 (by decide) ?_
    refine nk_wk [true, false] ?_
    exact zs_N_need_b23 C hR hr r2 m2
theorem zd_N_latest_0 : decode zb_N_latest 0 = .ok (.iload_n 1, 1) := by decide +kernel
theorem zd_N_latest_1 : decode zb_N_latest 1 = .ok (.tableswitch 51 0 2 #[27, 35, 43], 27) := by decide +kernel
theorem zd_N_latest_28 : decode zb_N_latest 28 = .ok (.aload_n 0, 1) := by decide +kernel
theorem zd_N_latest_29 : decode zb_N_latest 29 = .ok (.getfield 12, 3) := by decide +kernel
theorem zd_N_latest_32 : decode zb_N_latest 32 = .ok (.getfield 110, 3) := by decide +kernel
theorem zd_N_latest_35 : decode zb_N_latest 35 = .ok (.ireturn, 1) := by decide +kernel
theorem zd_N_latest_36 : decode zb_N_latest 36 = .ok (.aload_n 0, 1) := by decide +kernel
theorem zd_N_latest_37 : decode zb_N_latest 37 = .ok (.getfield 12, 3) := by decide +kernel
theorem zd_N_latest_40 : decode zb_N_latest 40 = .ok (.getfield 113, 3) := by decide +kernel
theorem zd_N_latest_43 : decode zb_N_latest 43 = .ok (.ireturn, 1) := by decide +kernel
theorem zd_N_latest_44 : decode zb_N_latest 44 = .ok (.aload_n 0, 1) := by decide +kernel
theorem zd_N_latest_45 : decode zb_N_latest 45 = .ok (.getfield 12, 3) := by decide +kernel
theorem zd_N_latest_48 : decode zb_N_latest 48 = .ok (.getfield 116, 3) := by decide +kernel
theorem zd_N_latest_51 : decode zb_N_latest 51 = .ok (.ireturn, 1) := by decide +kernel
theorem zd_N_latest_52 : decode zb_N_latest 52 = .ok (.iload_n 1, 1) := by decide +kernel
theorem zd_N_latest_53 : decode zb_N_latest 53 = .ok (.bipush 10, 2) := by decide +kernel
theorem zd_N_latest_55 : decode zb_N_latest 55 = .ok (.isub, 1) := by decide +kernel
theorem zd_N_latest_56 : decode zb_N_latest 56 = .ok (.istore_n 2, 1) := by decide +kernel
theorem zd_N_latest_57 : decode zb_N_latest 57 = .ok (.iload_n 1, 1) := by decide +kernel
theorem zd_N_latest_58 : decode zb_N_latest 58 = .ok (.bipush 10, 2) := by decide +kernel
theorem zd_N_latest_60 : decode zb_N_latest 60 = .ok (.if_icmp .lt 9, 3) := by decide +kernel
theorem zd_N_latest_63 : decode zb_N_latest 63 = .ok (.iload_n 2, 1) := by decide +kernel
theorem zd_N_latest_64 : decode zb_N_latest 64 = .ok (.bipush 8, 2) := by decide +kernel
theorem zd_N_latest_66 : decode zb_N_latest 66 = .ok (.if_icmp .lt 6, 3) := by decide +kernel
theorem zd_N_latest_69 : decode zb_N_latest 69 = .ok (.bipush (-2), 2) := by decide +kernel
theorem zd_N_latest_71 : decode zb_N_latest 71 = .ok (.ireturn, 1) := by decide +kernel
theorem zd_N_latest_72 : decode zb_N_latest 72 = .ok (.iload_n 2, 1) := by decide +kernel
theorem zd_N_latest_73 : decode zb_N_latest 73 = .ok (.aload_n 0, 1) := by decide +kernel
theorem zd_N_latest_74 : decode zb_N_latest 74 = .ok (.getfield 12, 3) := by decide +kernel
theorem zd_N_latest_77 : decode zb_N_latest 77 = .ok (.getfield 119, 3) := by decide +kernel
theorem zd_N_latest_80 : decode zb_N_latest 80 = .ok (.if_icmp .ge 15, 3) := by decide +kernel
theorem zd_N_latest_83 : decode zb_N_latest 83 = .ok (.aload_n 0, 1) := by decide +kernel
theorem zd_N_latest_84 : decode zb_N_latest 84 = .ok (.getfield 12, 3) := by decide +kernel
theorem zd_N_latest_87 : decode zb_N_latest 87 = .ok (.getfield 122, 3) := by decide +kernel
theorem zd_N_latest_90 : decode zb_N_latest 90 = .ok (.iload_n 2, 1) := by decide +kernel
theorem zd_N_latest_91 : decode zb_N_latest 91 = .ok (.iaload, 1) := by decide +kernel
theorem zd_N_latest_92 : decode zb_N_latest 92 = .ok (.goto 5, 3) := by decide +kernel
theorem zd_N_latest_95 : decode zb_N_latest 95 = .ok (.bipush (-9), 2) := by decide +kernel
theorem zd_N_latest_97 : decode zb_N_latest 97 = .ok (.ireturn, 1) := by decide +kernel
def zf_N_latest_b69   (m0 : nk_M) : Option (Int32 × nk_M) := some ((-2 : Int32), m0)
set_option maxHeartbeats 4000000 in
set_option maxRecDepth 100000 in
theorem zs_N_latest_b69 {G : nk_V} {X : nk_X}   (C : nk_C "NeedOnce" zb_N_latest 3 nk_wC G X) (hR : X.2.2.2.1 = nk_rm 1) (hr : X.2.2.2.2.2.2.2.2.1.sig.returnType = (some .int))  : ∀  (m0 : nk_M), nk_Sim nk_wC G X 3 nk_oi 69 [nk_r G 0, .null, .null] [] m0 (zf_N_latest_b69  m0) := by
  intro m0
  unfold zf_N_latest_b69
  refine nk_bipush (v := -2) C zd_N_latest_69 (by decide) ?_
  exact nk_iret C hr zd_N_latest_71
def zf_N_latest_b97  (u0 : Int32) (m0 : nk_M) : Option (Int32 × nk_M) := some (u0, m0)
set_option maxHeartbeats 4000000 in
set_option maxRecDepth 100000 in
theorem zs_N_latest_b97 {G : nk_V} {X : nk_X}   (C : nk_C "NeedOnce" zb_N_latest 3 nk_wC G X) (hR : X.2.2.2.1 = nk_rm 1) (hr : X.2.2.2.2.2.2.2.2.1.sig.returnType = (some .int))  : ∀ (u0 : Int32) (m0 : nk_M), nk_Sim nk_wC G X 3 nk_oi 97 [nk_r G 0, .null, .null] [.int u0] m0 (zf_N_latest_b97 u0 m0) := by
  intro u0 m0
  unfold zf_N_latest_b97
  exact nk_iret C hr zd_N_latest_97
def zf_N_latest  (a1 : Int32) (m0 : nk_M) : Option (Int32 × nk_M) := (if a1 = (0 : Int32) then some ((m0 1 11), m0) else if a1 = (1 : Int32) then some ((m0 1 12), m0) else if a1 = (2 : Int32) then some ((m0 1 13), m0) else nk_nm (a1 - (10 : Int32)) (fun x1 => (if a1 < (10 : Int32) then (zf_N_latest_b69 m0) else (if x1 < (8 : Int32) then (if (m0 1 14) ≤ x1 then (zf_N_latest_b97 (-9 : Int32) m0) else nk_ald m0 14 8 x1 (fun x2 => (zf_N_latest_b97 x2 m0))) else (zf_N_latest_b69 m0)))))
set_option maxHeartbeats 4000000 in
set_option maxRecDepth 100000 in
theorem zc_N_latest {l : Launch} {G : nk_V}   (a1 : Int32) (m0 : nk_M) : nk_Ct l nk_wC G 1 zy_N_latest zb_N_latest 3 (some .int) nk_oi [nk_r G 0, .int a1] m0 (zf_N_latest  a1 m0) := by
  refine nk_ent (own := "NeedOnce") (lv := [nk_r G 0, .int a1, .null]) 1 rfl (by decide) (Nat.le_of_ble_eq_true rfl) rfl (fun X hl hR C hr => ?_)
  subst hl
  unfold zf_N_latest
  refine nk_iload_n C zd_N_latest_0 rfl rfl ?_
  refine nk_tbl C (0 : Int32) (off := 27) (tgt := 28) zd_N_latest_1 ⟨by decide, by decide, by decide, by decide⟩ ?_ (fun h0 => ?_)
  · refine nk_aload_n C zd_N_latest_28 rfl rfl ?_
    refine nk_getR C (r := 1) za_N_12 (Nat.le_of_ble_eq_true rfl) rfl rfl zd_N_latest_29 ?_
    refine nk_getI C za_N_110 (Nat.le_of_ble_eq_true rfl) rfl rfl zd_N_latest_32 ?_
    exact nk_iret C hr zd_N_latest_35
  refine nk_tbl C (1 : Int32) (off := 35) (tgt := 36) zd_N_latest_1 ⟨by decide, by decide, by decide, by decide⟩ ?_ (fun h1 => ?_)
  · refine nk_aload_n C zd_N_latest_36 rfl rfl ?_
    refine nk_getR C (r := 1) za_N_12 (Nat.le_of_ble_eq_true rfl) rfl rfl zd_N_latest_37 ?_
    refine nk_getI C za_N_113 (Nat.le_of_ble_eq_true rfl) rfl rfl zd_N_latest_40 ?_
    exact nk_iret C hr zd_N_latest_43
  refine nk_tbl C (2 : Int32) (off := 43) (tgt := 44) zd_N_latest_1 ⟨by decide, by decide, by decide, by decide⟩ ?_ (fun h2 => ?_)
  · refine nk_aload_n C zd_N_latest_44 rfl rfl ?_
    refine nk_getR C (r := 1) za_N_12 (Nat.le_of_ble_eq_true rfl) rfl rfl zd_N_latest_45 ?_
    refine nk_getI C za_N_116 (Nat.le_of_ble_eq_true rfl) rfl rfl zd_N_latest_48 ?_
    exact nk_iret C hr zd_N_latest_51
  refine nk_tblD C (tgt := 52) zd_N_latest_1 (by
      have g0 := nk_neK (i := 0) (by decide) h0; have g1 := nk_neK (i := 1) (by decide) h1; have g2 := nk_neK (i := 2) (by decide) h2
      by_cases a0 : Int32.toInt a1 < 0
      · exact Or.inl a0
      by_cases b0 : 2 < Int32.toInt a1
      · exact Or.inr (Or.inl b0)
      exfalso; omega) (by decide) ?_
  refine nk_iload_n C zd_N_latest_52 rfl rfl ?_
  refine nk_bipush (v := 10) C zd_N_latest_53 (by decide) ?_
  refine nk_isub C zd_N_latest_55 ?_
  refine nk_named (fun x1 => ?_)
  refine nk_istore_n C zd_N_latest_56 rfl (Nat.le_of_ble_eq_true rfl) rfl ?_
  refine nk_iload_n C zd_N_latest_57 rfl rfl ?_
  refine nk_bipush (v := 10) C zd_N_latest_58 (by decide) ?_
  refine nk_icmp_lt (tgt := 69) C zd_N_latest_60 (by decide) ?_ ?_
  · refine nk_wk [true, false, false] ?_
    exact zs_N_latest_b69 C hR hr m0
  · refine nk_iload_n C zd_N_latest_63 rfl rfl ?_
    refine nk_bipush (v := 8) C zd_N_latest_64 (by decide) ?_
    refine nk_icmp_lt (tgt := 72) C zd_N_latest_66 (by decide) ?_ ?_
    · refine nk_iload_n C zd_N_latest_72 rfl rfl ?_
      refine nk_aload_n C zd_N_latest_73 rfl rfl ?_
      refine nk_getR C (r := 1) za_N_12 (Nat.le_of_ble_eq_true rfl) rfl rfl zd_N_latest_74 ?_
      refine nk_getI C za_N_119 (Nat.le_of_ble_eq_true rfl) rfl rfl zd_N_latest_77 ?_
      refine nk_icmp_ge (tgt := 95) C zd_N_latest_80 (by decide) ?_ ?_
      · refine nk_bipush (v := -9) C zd_N_latest_95 (by decide) ?_
        refine nk_wk [true, false, false] ?_
        exact zs_N_latest_b97 C hR hr (-9 : Int32) m0
      · refine nk_aload_n C zd_N_latest_83 rfl rfl ?_
        refine nk_getR C (r := 1) za_N_12 (Nat.le_of_ble_eq_true rfl) rfl rfl zd_N_latest_84 ?_
        refine nk_getR C (r := 14) za_N_122 (Nat.le_of_ble_eq_true rfl) rfl rfl zd_N_latest_87 ?_
        refine nk_iload_n C zd_N_latest_90 rfl rfl ?_
        refine nk_iald C (Nat.le_of_ble_eq_true rfl) rfl zd_N_latest_91 (fun x2 => ?_)
        refine nk_goto (tgt := 97) C zd_N_latest_92 (by decide) ?_
        refine nk_wk [true, false, false] ?_
        exact zs_N_latest_b97 C hR hr x2 m0
    · refine nk_wk [true, false, false] ?_
      exact zs_N_latest_b69 C hR hr m0
theorem zd_N_spent_0 : decode zb_N_spent 0 = .ok (.aload_n 0, 1) := by decide +kernel
theorem zd_N_spent_1 : decode zb_N_spent 1 = .ok (.getfield 12, 3) := by decide +kernel
theorem zd_N_spent_4 : decode zb_N_spent 4 = .ok (.getfield 125, 3) := by decide +kernel
theorem zd_N_spent_7 : decode zb_N_spent 7 = .ok (.ireturn, 1) := by decide +kernel
def zf_N_spent   (m0 : nk_M) : Option (Int32 × nk_M) := some ((m0 1 10), m0)
set_option maxHeartbeats 4000000 in
set_option maxRecDepth 100000 in
theorem zc_N_spent {l : Launch} {G : nk_V}    (m0 : nk_M) : nk_Ct l nk_wC G 1 zy_N_spent zb_N_spent 1 (some .int) nk_oi [nk_r G 0] m0 (zf_N_spent   m0) := by
  refine nk_ent (own := "NeedOnce") (lv := [nk_r G 0]) 0 rfl (by decide) (Nat.le_of_ble_eq_true rfl) rfl (fun X hl hR C hr => ?_)
  subst hl
  unfold zf_N_spent
  refine nk_aload_n C zd_N_spent_0 rfl rfl ?_
  refine nk_getR C (r := 1) za_N_12 (Nat.le_of_ble_eq_true rfl) rfl rfl zd_N_spent_1 ?_
  refine nk_getI C za_N_125 (Nat.le_of_ble_eq_true rfl) rfl rfl zd_N_spent_4 ?_
  exact nk_iret C hr zd_N_spent_7
theorem zd_C_howManyAwake_0 : decode zb_C_howManyAwake 0 = .ok (.iconst 0, 1) := by decide +kernel
theorem zd_C_howManyAwake_1 : decode zb_C_howManyAwake 1 = .ok (.istore_n 1, 1) := by decide +kernel
theorem zd_C_howManyAwake_2 : decode zb_C_howManyAwake 2 = .ok (.iconst 0, 1) := by decide +kernel
theorem zd_C_howManyAwake_3 : decode zb_C_howManyAwake 3 = .ok (.istore_n 2, 1) := by decide +kernel
theorem zd_C_howManyAwake_4 : decode zb_C_howManyAwake 4 = .ok (.iload_n 2, 1) := by decide +kernel
theorem zd_C_howManyAwake_5 : decode zb_C_howManyAwake 5 = .ok (.aload_n 0, 1) := by decide +kernel
theorem zd_C_howManyAwake_6 : decode zb_C_howManyAwake 6 = .ok (.getfield 47, 3) := by decide +kernel
theorem zd_C_howManyAwake_9 : decode zb_C_howManyAwake 9 = .ok (.if_icmp .ge 20, 3) := by decide +kernel
theorem zd_C_howManyAwake_12 : decode zb_C_howManyAwake 12 = .ok (.aload_n 0, 1) := by decide +kernel
theorem zd_C_howManyAwake_13 : decode zb_C_howManyAwake 13 = .ok (.iload_n 2, 1) := by decide +kernel
theorem zd_C_howManyAwake_14 : decode zb_C_howManyAwake 14 = .ok (.invokevirtual 77, 3) := by decide +kernel
theorem zd_C_howManyAwake_17 : decode zb_C_howManyAwake 17 = .ok (.ifCond .eq 6, 3) := by decide +kernel
theorem zd_C_howManyAwake_20 : decode zb_C_howManyAwake 20 = .ok (.iinc 1 1, 3) := by decide +kernel
theorem zd_C_howManyAwake_23 : decode zb_C_howManyAwake 23 = .ok (.iinc 2 1, 3) := by decide +kernel
theorem zd_C_howManyAwake_26 : decode zb_C_howManyAwake 26 = .ok (.goto (-22), 3) := by decide +kernel
theorem zd_C_howManyAwake_29 : decode zb_C_howManyAwake 29 = .ok (.iload_n 1, 1) := by decide +kernel
theorem zd_C_howManyAwake_30 : decode zb_C_howManyAwake 30 = .ok (.ireturn, 1) := by decide +kernel
def zf_C_howManyAwake_b23 (o B : Nat) (rc4 : Int32 → Int32 → nk_M → Option (Int32 × nk_M)) (y1 : Int32) (y2 : Int32) (m0 : nk_M) : Option (Int32 × nk_M) := (rc4 y1 (y2 + 1) m0)
set_option maxHeartbeats 4000000 in
set_option maxRecDepth 100000 in
theorem zs_C_howManyAwake_b23 {G : nk_V} {X : nk_X} (o B : Nat) (hc : nk_isC o B) (C : nk_C "NeedOnce$Cells" zb_C_howManyAwake 3 nk_wC G X) (hR : X.2.2.2.1 = nk_rm 2) (hr : X.2.2.2.2.2.2.2.2.1.sig.returnType = (some .int)) (rc4 : Int32 → Int32 → nk_M → Option (Int32 × nk_M)) (hr4 : ∀ (y1 : Int32) (y2 : Int32) (m0 : nk_M), nk_Sim nk_wC G X 3 nk_oi 4 [nk_r G o, .int y1, .int y2] [] m0 (rc4 y1 y2 m0)) : ∀ (y1 : Int32) (y2 : Int32) (m0 : nk_M), nk_Sim nk_wC G X 3 nk_oi 23 [nk_r G o, .int y1, .int y2] [] m0 (zf_C_howManyAwake_b23 o B rc4 y1 y2 m0) := by
  intro y1 y2 m0
  unfold zf_C_howManyAwake_b23
  refine nk_iinc (v0 := y2 + 1) C zd_C_howManyAwake_23 rfl (nk_inc _ (by decide)) (Nat.le_of_ble_eq_true rfl) rfl ?_
  refine nk_goto (tgt := 4) C zd_C_howManyAwake_26 (by decide) ?_
  exact hr4 y1 (y2 + 1) m0
def zf_C_howManyAwake_b4 (o B : Nat) : Nat → Int32 → Int32 → nk_M → Option (Int32 × nk_M)
  | 0, _, _, _ => none
  | n0 + 1, y1, y2, m0 => (if (m0 o 0) ≤ y2 then some (y1, m0) else nk_bd (zf_C_isAwake o B y2 m0) (fun r1 m1 => (if r1 = 0 then (zf_C_howManyAwake_b23 o B (zf_C_howManyAwake_b4 o B n0) y1 y2 m1) else (zf_C_howManyAwake_b23 o B (zf_C_howManyAwake_b4 o B n0) (y1 + 1) y2 m1))))
set_option maxHeartbeats 4000000 in
set_option maxRecDepth 100000 in
theorem zs_C_howManyAwake_b4 {G : nk_V} {X : nk_X} (o B : Nat) (hc : nk_isC o B) (C : nk_C "NeedOnce$Cells" zb_C_howManyAwake 3 nk_wC G X) (hR : X.2.2.2.1 = nk_rm 2) (hr : X.2.2.2.2.2.2.2.2.1.sig.returnType = (some .int))  : ∀ (n0 : Nat) (y1 : Int32) (y2 : Int32) (m0 : nk_M), nk_Sim nk_wC G X 3 nk_oi 4 [nk_r G o, .int y1, .int y2] [] m0 (zf_C_howManyAwake_b4 o B n0 y1 y2 m0) := by
  intro n0
  induction n0 with
  | zero => intros; exact nk_none
  | succ n0 ih =>
    intro y1 y2 m0
    rw [zf_C_howManyAwake_b4]
    refine nk_iload_n C zd_C_howManyAwake_4 rfl rfl ?_
    refine nk_aload_n C zd_C_howManyAwake_5 rfl rfl ?_
    refine nk_getI C za_C_47 (nkc_ok hc) (nkc_os hc) rfl zd_C_howManyAwake_6 ?_
    refine nk_icmp_ge (tgt := 29) C zd_C_howManyAwake_9 (by decide) ?_ ?_
    · refine nk_iload_n C zd_C_howManyAwake_29 rfl rfl ?_
      exact nk_iret C hr zd_C_howManyAwake_30
    · refine nk_aload_n C zd_C_howManyAwake_12 rfl rfl ?_
      refine nk_iload_n C zd_C_howManyAwake_13 rfl rfl ?_
      refine nk_callVi C [.int y2] zv_C_77 hR (zc_C_isAwake o B hc y2 m0) (by omega) (nkc_ok hc) (nkc_os hc) rfl rfl rfl (Nat.le_of_ble_eq_true rfl) zd_C_howManyAwake_14 (fun r1 m1 => ?_)
      refine nk_if_eq (tgt := 23) C zd_C_howManyAwake_17 (by decide) ?_ ?_
      · exact zs_C_howManyAwake_b23 o B hc C hR hr (zf_C_howManyAwake_b4 o B n0) ih y1 y2 m1
      · refine nk_iinc (v0 := y1 + 1) C zd_C_howManyAwake_20 rfl (nk_inc _ (by decide)) (Nat.le_of_ble_eq_true rfl) rfl ?_
        exact zs_C_howManyAwake_b23 o B hc C hR hr (zf_C_howManyAwake_b4 o B n0) ih (y1 + 1) y2 m1
def zf_C_howManyAwake (o B : Nat)  (m0 : nk_M) : Option (Int32 × nk_M) := (zf_C_howManyAwake_b4 o B nk_fu (0 : Int32) (0 : Int32) m0)
set_option maxHeartbeats 4000000 in
set_option maxRecDepth 100000 in
theorem zc_C_howManyAwake {l : Launch} {G : nk_V} (o B : Nat) (hc : nk_isC o B)  (m0 : nk_M) : nk_Ct l nk_wC G 2 zy_C_howManyAwake zb_C_howManyAwake 3 (some .int) nk_oi [nk_r G o] m0 (zf_C_howManyAwake o B  m0) := by
  refine nk_ent (own := "NeedOnce$Cells") (lv := [nk_r G o, .null, .null]) 2 rfl (by decide) (Nat.le_of_ble_eq_true rfl) rfl (fun X hl hR C hr => ?_)
  subst hl
  unfold zf_C_howManyAwake
  refine nk_iconst (v := 0) C zd_C_howManyAwake_0 (by decide) ?_
  refine nk_istore_n C zd_C_howManyAwake_1 rfl (Nat.le_of_ble_eq_true rfl) rfl ?_
  refine nk_iconst (v := 0) C zd_C_howManyAwake_2 (by decide) ?_
  refine nk_istore_n C zd_C_howManyAwake_3 rfl (Nat.le_of_ble_eq_true rfl) rfl ?_
  exact zs_C_howManyAwake_b4 o B hc C hR hr nk_fu (0 : Int32) (0 : Int32) m0
theorem zd_N_sleep_0 : decode zb_N_sleep 0 = .ok (.aload_n 0, 1) := by decide +kernel
theorem zd_N_sleep_1 : decode zb_N_sleep 1 = .ok (.getfield 12, 3) := by decide +kernel
theorem zd_N_sleep_4 : decode zb_N_sleep 4 = .ok (.invokevirtual 128, 3) := by decide +kernel
theorem zd_N_sleep_7 : decode zb_N_sleep 7 = .ok (.istore_n 1, 1) := by decide +kernel
theorem zd_N_sleep_8 : decode zb_N_sleep 8 = .ok (.aload_n 0, 1) := by decide +kernel
theorem zd_N_sleep_9 : decode zb_N_sleep 9 = .ok (.getfield 12, 3) := by decide +kernel
theorem zd_N_sleep_12 : decode zb_N_sleep 12 = .ok (.invokevirtual 131, 3) := by decide +kernel
theorem zd_N_sleep_15 : decode zb_N_sleep 15 = .ok (.iload_n 1, 1) := by decide +kernel
theorem zd_N_sleep_16 : decode zb_N_sleep 16 = .ok (.ireturn, 1) := by decide +kernel
def zf_N_sleep   (m0 : nk_M) : Option (Int32 × nk_M) := nk_bd (zf_C_howManyAwake 1 6 m0) (fun r1 m1 => nk_bd (zf_C_putToSleep 1 6 m1) (fun _ m2 => some (r1, m2)))
set_option maxHeartbeats 4000000 in
set_option maxRecDepth 100000 in
theorem zc_N_sleep {l : Launch} {G : nk_V}    (m0 : nk_M) : nk_Ct l nk_wC G 3 zy_N_sleep zb_N_sleep 2 (some .int) nk_oi [nk_r G 0] m0 (zf_N_sleep   m0) := by
  refine nk_ent (own := "NeedOnce") (lv := [nk_r G 0, .null]) 1 rfl (by decide) (Nat.le_of_ble_eq_true rfl) rfl (fun X hl hR C hr => ?_)
  subst hl
  unfold zf_N_sleep
  refine nk_aload_n C zd_N_sleep_0 rfl rfl ?_
  refine nk_getR C (r := 1) za_N_12 (Nat.le_of_ble_eq_true rfl) rfl rfl zd_N_sleep_1 ?_
  refine nk_callVi C [] zv_N_128 hR (zc_C_howManyAwake 1 6 (Or.inl ⟨rfl, rfl⟩) m0) (by omega) (Nat.le_of_ble_eq_true rfl) rfl rfl rfl rfl (Nat.le_of_ble_eq_true rfl) zd_N_sleep_4 (fun r1 m1 => ?_)
  refine nk_istore_n C zd_N_sleep_7 rfl (Nat.le_of_ble_eq_true rfl) rfl ?_
  refine nk_aload_n C zd_N_sleep_8 rfl rfl ?_
  refine nk_getR C (r := 1) za_N_12 (Nat.le_of_ble_eq_true rfl) rfl rfl zd_N_sleep_9 ?_
  refine nk_callVv C [] zv_N_131 hR (zc_C_putToSleep 1 6 (Or.inl ⟨rfl, rfl⟩) m1) (by omega) (Nat.le_of_ble_eq_true rfl) rfl rfl rfl rfl (Nat.le_of_ble_eq_true rfl) zd_N_sleep_12 (fun m2 => ?_)
  refine nk_iload_n C zd_N_sleep_15 rfl rfl ?_
  exact nk_iret C hr zd_N_sleep_16
theorem zd_C_canBeLink_0 : decode zb_C_canBeLink 0 = .ok (.aload_n 0, 1) := by decide +kernel
theorem zd_C_canBeLink_1 : decode zb_C_canBeLink 1 = .ok (.iload_n 1, 1) := by decide +kernel
theorem zd_C_canBeLink_2 : decode zb_C_canBeLink 2 = .ok (.invokevirtual 118, 3) := by decide +kernel
theorem zd_C_canBeLink_5 : decode zb_C_canBeLink 5 = .ok (.istore_n 2, 1) := by decide +kernel
theorem zd_C_canBeLink_6 : decode zb_C_canBeLink 6 = .ok (.aload_n 0, 1) := by decide +kernel
theorem zd_C_canBeLink_7 : decode zb_C_canBeLink 7 = .ok (.iload_n 1, 1) := by decide +kernel
theorem zd_C_canBeLink_8 : decode zb_C_canBeLink 8 = .ok (.invokevirtual 77, 3) := by decide +kernel
theorem zd_C_canBeLink_11 : decode zb_C_canBeLink 11 = .ok (.ifCond .ne 14, 3) := by decide +kernel
theorem zd_C_canBeLink_14 : decode zb_C_canBeLink 14 = .ok (.iload_n 2, 1) := by decide +kernel
theorem zd_C_canBeLink_15 : decode zb_C_canBeLink 15 = .ok (.iconst 5, 1) := by decide +kernel
theorem zd_C_canBeLink_16 : decode zb_C_canBeLink 16 = .ok (.if_icmp .eq 11, 3) := by decide +kernel
theorem zd_C_canBeLink_19 : decode zb_C_canBeLink 19 = .ok (.iload_n 2, 1) := by decide +kernel
theorem zd_C_canBeLink_20 : decode zb_C_canBeLink 20 = .ok (.bipush 6, 2) := by decide +kernel
theorem zd_C_canBeLink_22 : decode zb_C_canBeLink 22 = .ok (.if_icmp .eq 5, 3) := by decide +kernel
theorem zd_C_canBeLink_25 : decode zb_C_canBeLink 25 = .ok (.iconst 0, 1) := by decide +kernel
theorem zd_C_canBeLink_26 : decode zb_C_canBeLink 26 = .ok (.ireturn, 1) := by decide +kernel
theorem zd_C_canBeLink_27 : decode zb_C_canBeLink 27 = .ok (.aload_n 0, 1) := by decide +kernel
theorem zd_C_canBeLink_28 : decode zb_C_canBeLink 28 = .ok (.getfield 24, 3) := by decide +kernel
theorem zd_C_canBeLink_31 : decode zb_C_canBeLink 31 = .ok (.aload_n 0, 1) := by decide +kernel
theorem zd_C_canBeLink_32 : decode zb_C_canBeLink 32 = .ok (.iload_n 1, 1) := by decide +kernel
theorem zd_C_canBeLink_33 : decode zb_C_canBeLink 33 = .ok (.iconst 0, 1) := by decide +kernel
theorem zd_C_canBeLink_34 : decode zb_C_canBeLink 34 = .ok (.invokevirtual 67, 3) := by decide +kernel
theorem zd_C_canBeLink_37 : decode zb_C_canBeLink 37 = .ok (.iaload, 1) := by decide +kernel
theorem zd_C_canBeLink_38 : decode zb_C_canBeLink 38 = .ok (.bipush 100, 2) := by decide +kernel
theorem zd_C_canBeLink_40 : decode zb_C_canBeLink 40 = .ok (.if_icmp .ne 7, 3) := by decide +kernel
theorem zd_C_canBeLink_43 : decode zb_C_canBeLink 43 = .ok (.iconst 1, 1) := by decide +kernel
theorem zd_C_canBeLink_44 : decode zb_C_canBeLink 44 = .ok (.goto 4, 3) := by decide +kernel
theorem zd_C_canBeLink_47 : decode zb_C_canBeLink 47 = .ok (.iconst 0, 1) := by decide +kernel
theorem zd_C_canBeLink_48 : decode zb_C_canBeLink 48 = .ok (.ireturn, 1) := by decide +kernel
def zf_C_canBeLink_b25 (o B : Nat)  (m0 : nk_M) : Option (Int32 × nk_M) := nk_zr (0 : Int32) m0
set_option maxHeartbeats 4000000 in
set_option maxRecDepth 100000 in
theorem zs_C_canBeLink_b25 {G : nk_V} {X : nk_X} (o B : Nat) (hc : nk_isC o B) (C : nk_C "NeedOnce$Cells" zb_C_canBeLink 3 nk_wC G X) (hR : X.2.2.2.1 = nk_rm 2) (hr : X.2.2.2.2.2.2.2.2.1.sig.returnType = (some .boolean))  : ∀  (m0 : nk_M), nk_Sim nk_wC G X 3 nk_oi 25 [nk_r G o, .null, .null] [] m0 (zf_C_canBeLink_b25 o B  m0) := by
  intro m0
  unfold zf_C_canBeLink_b25
  refine nk_iconst (v := 0) C zd_C_canBeLink_25 (by decide) ?_
  exact nk_zret C hr zd_C_canBeLink_26
def zf_C_canBeLink_b48 (o B : Nat) (u0 : Int32) (m0 : nk_M) : Option (Int32 × nk_M) := nk_zr u0 m0
set_option maxHeartbeats 4000000 in
set_option maxRecDepth 100000 in
theorem zs_C_canBeLink_b48 {G : nk_V} {X : nk_X} (o B : Nat) (hc : nk_isC o B) (C : nk_C "NeedOnce$Cells" zb_C_canBeLink 3 nk_wC G X) (hR : X.2.2.2.1 = nk_rm 2) (hr : X.2.2.2.2.2.2.2.2.1.sig.returnType = (some .boolean))  : ∀ (u0 : Int32) (m0 : nk_M), nk_Sim nk_wC G X 3 nk_oi 48 [nk_r G o, .null, .null] [.int u0] m0 (zf_C_canBeLink_b48 o B u0 m0) := by
  intro u0 m0
  unfold zf_C_canBeLink_b48
  exact nk_zret C hr zd_C_canBeLink_48
def zf_C_canBeLink_b27 (o B : Nat) (y1 : Int32) (m0 : nk_M) : Option (Int32 × nk_M) := nk_bd (zf_C_partAsTold o B y1 (0 : Int32) m0) (fun r1 m1 => nk_ald m1 (B + 4) 8 r1 (fun x2 => (if x2 = (100 : Int32) then (zf_C_canBeLink_b48 o B (1 : Int32) m1) else (zf_C_canBeLink_b48 o B (0 : Int32) m1))))
set_option maxHeartbeats 4000000 in
set_option maxRecDepth 100000 in
theorem zs_C_canBeLink_b27 {G : nk_V} {X : nk_X} (o B : Nat) (hc : nk_isC o B) (C : nk_C "NeedOnce$Cells" zb_C_canBeLink 3 nk_wC G X) (hR : X.2.2.2.1 = nk_rm 2) (hr : X.2.2.2.2.2.2.2.2.1.sig.returnType = (some .boolean))  : ∀ (y1 : Int32) (m0 : nk_M), nk_Sim nk_wC G X 3 nk_oi 27 [nk_r G o, .int y1, .null] [] m0 (zf_C_canBeLink_b27 o B y1 m0) := by
  intro y1 m0
  unfold zf_C_canBeLink_b27
  refine nk_aload_n C zd_C_canBeLink_27 rfl rfl ?_
  refine nk_getR C (r := (B + 4)) za_C_24 (nkc_ok hc) (nkc_os hc) rfl zd_C_canBeLink_28 ?_
  refine nk_aload_n C zd_C_canBeLink_31 rfl rfl ?_
  refine nk_iload_n C zd_C_canBeLink_32 rfl rfl ?_
  refine nk_iconst (v := 0) C zd_C_canBeLink_33 (by decide) ?_
  refine nk_callVi C [.int y1, .int (0 : Int32)] zv_C_67 hR (zc_C_partAsTold o B hc y1 (0 : Int32) m0) (by omega) (nkc_ok hc) (nkc_os hc) rfl rfl rfl (Nat.le_of_ble_eq_true rfl) zd_C_canBeLink_34 (fun r1 m1 => ?_)
  refine nk_iald C (nkc_bk4 hc) (nkc_bs4 hc) zd_C_canBeLink_37 (fun x2 => ?_)
  refine nk_bipush (v := 100) C zd_C_canBeLink_38 (by decide) ?_
  refine nk_icmp_ne (tgt := 47) C zd_C_canBeLink_40 (by decide) ?_ ?_
  · refine nk_iconst (v := 0) C zd_C_canBeLink_47 (by decide) ?_
    refine nk_wk [true, false, false] ?_
    exact zs_C_canBeLink_b48 o B hc C hR hr (0 : Int32) m1
  · refine nk_iconst (v := 1) C zd_C_canBeLink_43 (by decide) ?_
    refine nk_goto (tgt := 48) C zd_C_canBeLink_44 (by decide) ?_
    refine nk_wk [true, false, false] ?_
    exact zs_C_canBeLink_b48 o B hc C hR hr (1 : Int32) m1
def zf_C_canBeLink (o B : Nat) (a1 : Int32) (m0 : nk_M) : Option (Int32 × nk_M) := nk_bd (zf_C_formNow o B a1 m0) (fun r1 m1 => nk_bd (zf_C_isAwake o B a1 m1) (fun r2 m2 => (if r2 = 0 then (if r1 = (5 : Int32) then (zf_C_canBeLink_b27 o B a1 m2) else (if r1 = (6 : Int32) then (zf_C_canBeLink_b27 o B a1 m2) else (zf_C_canBeLink_b25 o B m2))) else (zf_C_canBeLink_b25 o B m2))))
set_option maxHeartbeats 4000000 in
set_option maxRecDepth 100000 in
theorem zc_C_canBeLink {l : Launch} {G : nk_V} (o B : Nat) (hc : nk_isC o B) (a1 : Int32) (m0 : nk_M) : nk_Ct l nk_wC G 2 zy_C_canBeLink zb_C_canBeLink 3 (some .boolean) nk_oi [nk_r G o, .int a1] m0 (zf_C_canBeLink o B a1 m0) := by
  refine nk_ent (own := "NeedOnce$Cells") (lv := [nk_r G o, .int a1, .null]) 1 rfl (by decide) (Nat.le_of_ble_eq_true rfl) rfl (fun X hl hR C hr => ?_)
  subst hl
  unfold zf_C_canBeLink
  refine nk_aload_n C zd_C_canBeLink_0 rfl rfl ?_
  refine nk_iload_n C zd_C_canBeLink_1 rfl rfl ?_
  refine nk_callVi C [.int a1] zv_C_118 hR (zc_C_formNow o B hc a1 m0) (by omega) (nkc_ok hc) (nkc_os hc) rfl rfl rfl (Nat.le_of_ble_eq_true rfl) zd_C_canBeLink_2 (fun r1 m1 => ?_)
  refine nk_istore_n C zd_C_canBeLink_5 rfl (Nat.le_of_ble_eq_true rfl) rfl ?_
  refine nk_aload_n C zd_C_canBeLink_6 rfl rfl ?_
  refine nk_iload_n C zd_C_canBeLink_7 rfl rfl ?_
  refine nk_callVi C [.int a1] zv_C_77 hR (zc_C_isAwake o B hc a1 m1) (by omega) (nkc_ok hc) (nkc_os hc) rfl rfl rfl (Nat.le_of_ble_eq_true rfl) zd_C_canBeLink_8 (fun r2 m2 => ?_)
  refine nk_if_ne (tgt := 25) C zd_C_canBeLink_11 (by decide) ?_ ?_
  · refine nk_wk [true, false, false] ?_
    exact zs_C_canBeLink_b25 o B hc C hR hr m2
  · refine nk_iload_n C zd_C_canBeLink_14 rfl rfl ?_
    refine nk_iconst (v := 5) C zd_C_canBeLink_15 (by decide) ?_
    refine nk_icmp_eq (tgt := 27) C zd_C_canBeLink_16 (by decide) ?_ ?_
    · refine nk_wk [true, true, false] ?_
      exact zs_C_canBeLink_b27 o B hc C hR hr a1 m2
    · refine nk_iload_n C zd_C_canBeLink_19 rfl rfl ?_
      refine nk_bipush (v := 6) C zd_C_canBeLink_20 (by decide) ?_
      refine nk_icmp_eq (tgt := 27) C zd_C_canBeLink_22 (by decide) ?_ ?_
      · refine nk_wk [true, true, false] ?_
        exact zs_C_canBeLink_b27 o B hc C hR hr a1 m2
      · refine nk_wk [true, false, false] ?_
        exact zs_C_canBeLink_b25 o B hc C hR hr m2
theorem zd_C_makeLinks_0 : decode zb_C_makeLinks 0 = .ok (.iconst 0, 1) := by decide +kernel
theorem zd_C_makeLinks_1 : decode zb_C_makeLinks 1 = .ok (.istore_n 1, 1) := by decide +kernel
theorem zd_C_makeLinks_2 : decode zb_C_makeLinks 2 = .ok (.iconst 0, 1) := by decide +kernel
theorem zd_C_makeLinks_3 : decode zb_C_makeLinks 3 = .ok (.istore_n 2, 1) := by decide +kernel
theorem zd_C_makeLinks_4 : decode zb_C_makeLinks 4 = .ok (.iload_n 2, 1) := by decide +kernel
theorem zd_C_makeLinks_5 : decode zb_C_makeLinks 5 = .ok (.aload_n 0, 1) := by decide +kernel
theorem zd_C_makeLinks_6 : decode zb_C_makeLinks 6 = .ok (.getfield 47, 3) := by decide +kernel
theorem zd_C_makeLinks_9 : decode zb_C_makeLinks 9 = .ok (.if_icmp .ge 40, 3) := by decide +kernel
theorem zd_C_makeLinks_12 : decode zb_C_makeLinks 12 = .ok (.aload_n 0, 1) := by decide +kernel
theorem zd_C_makeLinks_13 : decode zb_C_makeLinks 13 = .ok (.iload_n 2, 1) := by decide +kernel
theorem zd_C_makeLinks_14 : decode zb_C_makeLinks 14 = .ok (.invokevirtual 140, 3) := by decide +kernel
theorem zd_C_makeLinks_17 : decode zb_C_makeLinks 17 = .ok (.ifCond .ne 6, 3) := by decide +kernel
theorem zd_C_makeLinks_20 : decode zb_C_makeLinks 20 = .ok (.goto 23, 3) := by decide +kernel
theorem zd_C_makeLinks_23 : decode zb_C_makeLinks 23 = .ok (.aload_n 0, 1) := by decide +kernel
theorem zd_C_makeLinks_24 : decode zb_C_makeLinks 24 = .ok (.getfield 30, 3) := by decide +kernel
theorem zd_C_makeLinks_27 : decode zb_C_makeLinks 27 = .ok (.iload_n 2, 1) := by decide +kernel
theorem zd_C_makeLinks_28 : decode zb_C_makeLinks 28 = .ok (.aload_n 0, 1) := by decide +kernel
theorem zd_C_makeLinks_29 : decode zb_C_makeLinks 29 = .ok (.iload_n 2, 1) := by decide +kernel
theorem zd_C_makeLinks_30 : decode zb_C_makeLinks 30 = .ok (.aload_n 0, 1) := by decide +kernel
theorem zd_C_makeLinks_31 : decode zb_C_makeLinks 31 = .ok (.iload_n 2, 1) := by decide +kernel
theorem zd_C_makeLinks_32 : decode zb_C_makeLinks 32 = .ok (.iconst 0, 1) := by decide +kernel
theorem zd_C_makeLinks_33 : decode zb_C_makeLinks 33 = .ok (.invokevirtual 67, 3) := by decide +kernel
theorem zd_C_makeLinks_36 : decode zb_C_makeLinks 36 = .ok (.invokevirtual 137, 3) := by decide +kernel
theorem zd_C_makeLinks_39 : decode zb_C_makeLinks 39 = .ok (.iastore, 1) := by decide +kernel
theorem zd_C_makeLinks_40 : decode zb_C_makeLinks 40 = .ok (.iinc 1 1, 3) := by decide +kernel
theorem zd_C_makeLinks_43 : decode zb_C_makeLinks 43 = .ok (.iinc 2 1, 3) := by decide +kernel
theorem zd_C_makeLinks_46 : decode zb_C_makeLinks 46 = .ok (.goto (-42), 3) := by decide +kernel
theorem zd_C_makeLinks_49 : decode zb_C_makeLinks 49 = .ok (.iload_n 1, 1) := by decide +kernel
theorem zd_C_makeLinks_50 : decode zb_C_makeLinks 50 = .ok (.ireturn, 1) := by decide +kernel
def zf_C_makeLinks_b43 (o B : Nat) (rc4 : Int32 → Int32 → nk_M → Option (Int32 × nk_M)) (y1 : Int32) (y2 : Int32) (m0 : nk_M) : Option (Int32 × nk_M) := (rc4 y1 (y2 + 1) m0)
set_option maxHeartbeats 4000000 in
set_option maxRecDepth 100000 in
theorem zs_C_makeLinks_b43 {G : nk_V} {X : nk_X} (o B : Nat) (hc : nk_isC o B) (C : nk_C "NeedOnce$Cells" zb_C_makeLinks 3 nk_wC G X) (hR : X.2.2.2.1 = nk_rm 3) (hr : X.2.2.2.2.2.2.2.2.1.sig.returnType = (some .int)) (rc4 : Int32 → Int32 → nk_M → Option (Int32 × nk_M)) (hr4 : ∀ (y1 : Int32) (y2 : Int32) (m0 : nk_M), nk_Sim nk_wC G X 3 nk_oi 4 [nk_r G o, .int y1, .int y2] [] m0 (rc4 y1 y2 m0)) : ∀ (y1 : Int32) (y2 : Int32) (m0 : nk_M), nk_Sim nk_wC G X 3 nk_oi 43 [nk_r G o, .int y1, .int y2] [] m0 (zf_C_makeLinks_b43 o B rc4 y1 y2 m0) := by
  intro y1 y2 m0
  unfold zf_C_makeLinks_b43
  refine nk_iinc (v0 := y2 + 1) C zd_C_makeLinks_43 rfl (nk_inc _ (by decide)) (Nat.le_of_ble_eq_true rfl) rfl ?_
  refine nk_goto (tgt := 4) C zd_C_makeLinks_46 (by decide) ?_
  exact hr4 y1 (y2 + 1) m0
def zf_C_makeLinks_b4 (o B : Nat) : Nat → Int32 → Int32 → nk_M → Option (Int32 × nk_M)
  | 0, _, _, _ => none
  | n0 + 1, y1, y2, m0 => (if (m0 o 0) ≤ y2 then some (y1, m0) else nk_bd (zf_C_canBeLink o B y2 m0) (fun r1 m1 => (if r1 = 0 then (zf_C_makeLinks_b43 o B (zf_C_makeLinks_b4 o B n0) y1 y2 m1) else nk_bd (zf_C_partAsTold o B y2 (0 : Int32) m1) (fun r2 m2 => nk_bd (zf_C_partOfPair o B y2 r2 m2) (fun r3 m3 => nk_ast m3 (B + 6) 8 y2 r3 (fun m4 => (zf_C_makeLinks_b43 o B (zf_C_makeLinks_b4 o B n0) (y1 + 1) y2 m4)))))))
set_option maxHeartbeats 4000000 in
set_option maxRecDepth 100000 in
theorem zs_C_makeLinks_b4 {G : nk_V} {X : nk_X} (o B : Nat) (hc : nk_isC o B) (C : nk_C "NeedOnce$Cells" zb_C_makeLinks 3 nk_wC G X) (hR : X.2.2.2.1 = nk_rm 3) (hr : X.2.2.2.2.2.2.2.2.1.sig.returnType = (some .int))  : ∀ (n0 : Nat) (y1 : Int32) (y2 : Int32) (m0 : nk_M), nk_Sim nk_wC G X 3 nk_oi 4 [nk_r G o, .int y1, .int y2] [] m0 (zf_C_makeLinks_b4 o B n0 y1 y2 m0) := by
  intro n0
  induction n0 with
  | zero => intros; exact nk_none
  | succ n0 ih =>
    intro y1 y2 m0
    rw [zf_C_makeLinks_b4]
    refine nk_iload_n C zd_C_makeLinks_4 rfl rfl ?_
    refine nk_aload_n C zd_C_makeLinks_5 rfl rfl ?_
    refine nk_getI C za_C_47 (nkc_ok hc) (nkc_os hc) rfl zd_C_makeLinks_6 ?_
    refine nk_icmp_ge (tgt := 49) C zd_C_makeLinks_9 (by decide) ?_ ?_
    · refine nk_iload_n C zd_C_makeLinks_49 rfl rfl ?_
      exact nk_iret C hr zd_C_makeLinks_50
    · refine nk_aload_n C zd_C_makeLinks_12 rfl rfl ?_
      refine nk_iload_n C zd_C_makeLinks_13 rfl rfl ?_
      refine nk_callVi C [.int y2] zv_C_140 hR (zc_C_canBeLink o B hc y2 m0) (by omega) (nkc_ok hc) (nkc_os hc) rfl rfl rfl (Nat.le_of_ble_eq_true rfl) zd_C_makeLinks_14 (fun r1 m1 => ?_)
      refine nk_if_ne (tgt := 23) C zd_C_makeLinks_17 (by decide) ?_ ?_
      · refine nk_aload_n C zd_C_makeLinks_23 rfl rfl ?_
        refine nk_getR C (r := (B + 6)) za_C_30 (nkc_ok hc) (nkc_os hc) rfl zd_C_makeLinks_24 ?_
        refine nk_iload_n C zd_C_makeLinks_27 rfl rfl ?_
        refine nk_aload_n C zd_C_makeLinks_28 rfl rfl ?_
        refine nk_iload_n C zd_C_makeLinks_29 rfl rfl ?_
        refine nk_aload_n C zd_C_makeLinks_30 rfl rfl ?_
        refine nk_iload_n C zd_C_makeLinks_31 rfl rfl ?_
        refine nk_iconst (v := 0) C zd_C_makeLinks_32 (by decide) ?_
        refine nk_callVi C [.int y2, .int (0 : Int32)] zv_C_67 hR (zc_C_partAsTold o B hc y2 (0 : Int32) m1) (by omega) (nkc_ok hc) (nkc_os hc) rfl rfl rfl (Nat.le_of_ble_eq_true rfl) zd_C_makeLinks_33 (fun r2 m2 => ?_)
        refine nk_callVi C [.int y2, .int r2] zv_C_137 hR (zc_C_partOfPair o B hc y2 r2 m2) (by omega) (nkc_ok hc) (nkc_os hc) rfl rfl rfl (Nat.le_of_ble_eq_true rfl) zd_C_makeLinks_36 (fun r3 m3 => ?_)
        refine nk_iast C (nkc_bk6 hc) (nkc_bs6 hc) zd_C_makeLinks_39 (fun m4 => ?_)
        refine nk_iinc (v0 := y1 + 1) C zd_C_makeLinks_40 rfl (nk_inc _ (by decide)) (Nat.le_of_ble_eq_true rfl) rfl ?_
        exact zs_C_makeLinks_b43 o B hc C hR hr (zf_C_makeLinks_b4 o B n0) ih (y1 + 1) y2 m4
      · refine nk_goto (tgt := 43) C zd_C_makeLinks_20 (by decide) ?_
        exact zs_C_makeLinks_b43 o B hc C hR hr (zf_C_makeLinks_b4 o B n0) ih y1 y2 m1
def zf_C_makeLinks (o B : Nat)  (m0 : nk_M) : Option (Int32 × nk_M) := (zf_C_makeLinks_b4 o B nk_fu (0 : Int32) (0 : Int32) m0)
set_option maxHeartbeats 4000000 in
set_option maxRecDepth 100000 in
theorem zc_C_makeLinks {l : Launch} {G : nk_V} (o B : Nat) (hc : nk_isC o B)  (m0 : nk_M) : nk_Ct l nk_wC G 3 zy_C_makeLinks zb_C_makeLinks 3 (some .int) nk_oi [nk_r G o] m0 (zf_C_makeLinks o B  m0) := by
  refine nk_ent (own := "NeedOnce$Cells") (lv := [nk_r G o, .null, .null]) 2 rfl (by decide) (Nat.le_of_ble_eq_true rfl) rfl (fun X hl hR C hr => ?_)
  subst hl
  unfold zf_C_makeLinks
  refine nk_iconst (v := 0) C zd_C_makeLinks_0 (by decide) ?_
  refine nk_istore_n C zd_C_makeLinks_1 rfl (Nat.le_of_ble_eq_true rfl) rfl ?_
  refine nk_iconst (v := 0) C zd_C_makeLinks_2 (by decide) ?_
  refine nk_istore_n C zd_C_makeLinks_3 rfl (Nat.le_of_ble_eq_true rfl) rfl ?_
  exact zs_C_makeLinks_b4 o B hc C hR hr nk_fu (0 : Int32) (0 : Int32) m0
theorem zd_N_shorten_0 : decode zb_N_shorten 0 = .ok (.aload_n 0, 1) := by decide +kernel
theorem zd_N_shorten_1 : decode zb_N_shorten 1 = .ok (.getfield 12, 3) := by decide +kernel
theorem zd_N_shorten_4 : decode zb_N_shorten 4 = .ok (.invokevirtual 134, 3) := by decide +kernel
theorem zd_N_shorten_7 : decode zb_N_shorten 7 = .ok (.ireturn, 1) := by decide +kernel
def zf_N_shorten   (m0 : nk_M) : Option (Int32 × nk_M) := nk_bd (zf_C_makeLinks 1 6 m0) (fun r1 m1 => some (r1, m1))
set_option maxHeartbeats 4000000 in
set_option maxRecDepth 100000 in
theorem zc_N_shorten {l : Launch} {G : nk_V}    (m0 : nk_M) : nk_Ct l nk_wC G 4 zy_N_shorten zb_N_shorten 1 (some .int) nk_oi [nk_r G 0] m0 (zf_N_shorten   m0) := by
  refine nk_ent (own := "NeedOnce") (lv := [nk_r G 0]) 0 rfl (by decide) (Nat.le_of_ble_eq_true rfl) rfl (fun X hl hR C hr => ?_)
  subst hl
  unfold zf_N_shorten
  refine nk_aload_n C zd_N_shorten_0 rfl rfl ?_
  refine nk_getR C (r := 1) za_N_12 (Nat.le_of_ble_eq_true rfl) rfl rfl zd_N_shorten_1 ?_
  refine nk_callVi C [] zv_N_134 hR (zc_C_makeLinks 1 6 (Or.inl ⟨rfl, rfl⟩) m0) (by omega) (Nat.le_of_ble_eq_true rfl) rfl rfl rfl rfl (Nat.le_of_ble_eq_true rfl) zd_N_shorten_4 (fun r1 m1 => ?_)
  exact nk_iret C hr zd_N_shorten_7
theorem zd_C_heldDirectly_0 : decode zb_C_heldDirectly 0 = .ok (.aload_n 0, 1) := by decide +kernel
theorem zd_C_heldDirectly_1 : decode zb_C_heldDirectly 1 = .ok (.iload_n 1, 1) := by decide +kernel
theorem zd_C_heldDirectly_2 : decode zb_C_heldDirectly 2 = .ok (.invokevirtual 77, 3) := by decide +kernel
theorem zd_C_heldDirectly_5 : decode zb_C_heldDirectly 5 = .ok (.ifCond .ne 31, 3) := by decide +kernel
theorem zd_C_heldDirectly_8 : decode zb_C_heldDirectly 8 = .ok (.aload_n 0, 1) := by decide +kernel
theorem zd_C_heldDirectly_9 : decode zb_C_heldDirectly 9 = .ok (.getfield 30, 3) := by decide +kernel
theorem zd_C_heldDirectly_12 : decode zb_C_heldDirectly 12 = .ok (.iload_n 1, 1) := by decide +kernel
theorem zd_C_heldDirectly_13 : decode zb_C_heldDirectly 13 = .ok (.iaload, 1) := by decide +kernel
theorem zd_C_heldDirectly_14 : decode zb_C_heldDirectly 14 = .ok (.bipush (-9), 2) := by decide +kernel
theorem zd_C_heldDirectly_16 : decode zb_C_heldDirectly 16 = .ok (.if_icmp .ne 11, 3) := by decide +kernel
theorem zd_C_heldDirectly_19 : decode zb_C_heldDirectly 19 = .ok (.aload_n 0, 1) := by decide +kernel
theorem zd_C_heldDirectly_20 : decode zb_C_heldDirectly 20 = .ok (.iload_n 1, 1) := by decide +kernel
theorem zd_C_heldDirectly_21 : decode zb_C_heldDirectly 21 = .ok (.invokevirtual 63, 3) := by decide +kernel
theorem zd_C_heldDirectly_24 : decode zb_C_heldDirectly 24 = .ok (.goto 11, 3) := by decide +kernel
theorem zd_C_heldDirectly_27 : decode zb_C_heldDirectly 27 = .ok (.iconst 1, 1) := by decide +kernel
theorem zd_C_heldDirectly_28 : decode zb_C_heldDirectly 28 = .ok (.aload_n 0, 1) := by decide +kernel
theorem zd_C_heldDirectly_29 : decode zb_C_heldDirectly 29 = .ok (.getfield 30, 3) := by decide +kernel
theorem zd_C_heldDirectly_32 : decode zb_C_heldDirectly 32 = .ok (.iload_n 1, 1) := by decide +kernel
theorem zd_C_heldDirectly_33 : decode zb_C_heldDirectly 33 = .ok (.iaload, 1) := by decide +kernel
theorem zd_C_heldDirectly_34 : decode zb_C_heldDirectly 34 = .ok (.ishl, 1) := by decide +kernel
theorem zd_C_heldDirectly_35 : decode zb_C_heldDirectly 35 = .ok (.ireturn, 1) := by decide +kernel
theorem zd_C_heldDirectly_36 : decode zb_C_heldDirectly 36 = .ok (.aload_n 0, 1) := by decide +kernel
theorem zd_C_heldDirectly_37 : decode zb_C_heldDirectly 37 = .ok (.getfield 24, 3) := by decide +kernel
theorem zd_C_heldDirectly_40 : decode zb_C_heldDirectly 40 = .ok (.iload_n 1, 1) := by decide +kernel
theorem zd_C_heldDirectly_41 : decode zb_C_heldDirectly 41 = .ok (.iaload, 1) := by decide +kernel
theorem zd_C_heldDirectly_42 : decode zb_C_heldDirectly 42 = .ok (.bipush 100, 2) := by decide +kernel
theorem zd_C_heldDirectly_44 : decode zb_C_heldDirectly 44 = .ok (.if_icmp .ne 16, 3) := by decide +kernel
theorem zd_C_heldDirectly_47 : decode zb_C_heldDirectly 47 = .ok (.aload_n 0, 1) := by decide +kernel
theorem zd_C_heldDirectly_48 : decode zb_C_heldDirectly 48 = .ok (.aload_n 0, 1) := by decide +kernel
theorem zd_C_heldDirectly_49 : decode zb_C_heldDirectly 49 = .ok (.getfield 27, 3) := by decide +kernel
theorem zd_C_heldDirectly_52 : decode zb_C_heldDirectly 52 = .ok (.iload_n 1, 1) := by decide +kernel
theorem zd_C_heldDirectly_53 : decode zb_C_heldDirectly 53 = .ok (.iaload, 1) := by decide +kernel
theorem zd_C_heldDirectly_54 : decode zb_C_heldDirectly 54 = .ok (.invokevirtual 63, 3) := by decide +kernel
theorem zd_C_heldDirectly_57 : decode zb_C_heldDirectly 57 = .ok (.goto 4, 3) := by decide +kernel
theorem zd_C_heldDirectly_60 : decode zb_C_heldDirectly 60 = .ok (.iconst 0, 1) := by decide +kernel
theorem zd_C_heldDirectly_61 : decode zb_C_heldDirectly 61 = .ok (.ireturn, 1) := by decide +kernel
def zf_C_heldDirectly_b61 (o B : Nat) (u0 : Int32) (m0 : nk_M) : Option (Int32 × nk_M) := some (u0, m0)
set_option maxHeartbeats 4000000 in
set_option maxRecDepth 100000 in
theorem zs_C_heldDirectly_b61 {G : nk_V} {X : nk_X} (o B : Nat) (hc : nk_isC o B) (C : nk_C "NeedOnce$Cells" zb_C_heldDirectly 2 nk_wC G X) (hR : X.2.2.2.1 = nk_rm 3) (hr : X.2.2.2.2.2.2.2.2.1.sig.returnType = (some .int))  : ∀ (u0 : Int32) (m0 : nk_M), nk_Sim nk_wC G X 2 nk_oi 61 [nk_r G o, .null] [.int u0] m0 (zf_C_heldDirectly_b61 o B u0 m0) := by
  intro u0 m0
  unfold zf_C_heldDirectly_b61
  exact nk_iret C hr zd_C_heldDirectly_61
def zf_C_heldDirectly_b35 (o B : Nat) (u0 : Int32) (m0 : nk_M) : Option (Int32 × nk_M) := some (u0, m0)
set_option maxHeartbeats 4000000 in
set_option maxRecDepth 100000 in
theorem zs_C_heldDirectly_b35 {G : nk_V} {X : nk_X} (o B : Nat) (hc : nk_isC o B) (C : nk_C "NeedOnce$Cells" zb_C_heldDirectly 2 nk_wC G X) (hR : X.2.2.2.1 = nk_rm 3) (hr : X.2.2.2.2.2.2.2.2.1.sig.returnType = (some .int))  : ∀ (u0 : Int32) (m0 : nk_M), nk_Sim nk_wC G X 2 nk_oi 35 [nk_r G o, .null] [.int u0] m0 (zf_C_heldDirectly_b35 o B u0 m0) := by
  intro u0 m0
  unfold zf_C_heldDirectly_b35
  exact nk_iret C hr zd_C_heldDirectly_35
def zf_C_heldDirectly (o B : Nat) (a1 : Int32) (m0 : nk_M) : Option (Int32 × nk_M) := nk_bd (zf_C_isAwake o B a1 m0) (fun r1 m1 => (if r1 = 0 then nk_ald m1 (B + 6) 8 a1 (fun x5 => (if x5 = (-9 : Int32) then nk_bd (zf_C_partSet o B a1 m1) (fun r7 m3 => (zf_C_heldDirectly_b35 o B r7 m3)) else nk_ald m1 (B + 6) 8 a1 (fun x6 => (zf_C_heldDirectly_b35 o B ((1 : Int32) <<< (x6 &&& 31)) m1)))) else nk_ald m1 (B + 4) 8 a1 (fun x2 => (if x2 = (100 : Int32) then nk_ald m1 (B + 5) 8 a1 (fun x3 => nk_bd (zf_C_partSet o B x3 m1) (fun r4 m2 => (zf_C_heldDirectly_b61 o B r4 m2))) else (zf_C_heldDirectly_b61 o B (0 : Int32) m1)))))
set_option maxHeartbeats 4000000 in
set_option maxRecDepth 100000 in
theorem zc_C_heldDirectly {l : Launch} {G : nk_V} (o B : Nat) (hc : nk_isC o B) (a1 : Int32) (m0 : nk_M) : nk_Ct l nk_wC G 3 zy_C_heldDirectly zb_C_heldDirectly 2 (some .int) nk_oi [nk_r G o, .int a1] m0 (zf_C_heldDirectly o B a1 m0) := by
  refine nk_ent (own := "NeedOnce$Cells") (lv := [nk_r G o, .int a1]) 0 rfl (by decide) (Nat.le_of_ble_eq_true rfl) rfl (fun X hl hR C hr => ?_)
  subst hl
  unfold zf_C_heldDirectly
  refine nk_aload_n C zd_C_heldDirectly_0 rfl rfl ?_
  refine nk_iload_n C zd_C_heldDirectly_1 rfl rfl ?_
  refine nk_callVi C [.int a1] zv_C_77 hR (zc_C_isAwake o B hc a1 m0) (by omega) (nkc_ok hc) (nkc_os hc) rfl rfl rfl (Nat.le_of_ble_eq_true rfl) zd_C_heldDirectly_2 (fun r1 m1 => ?_)
  refine nk_if_ne (tgt := 36) C zd_C_heldDirectly_5 (by decide) ?_ ?_
  · refine nk_aload_n C zd_C_heldDirectly_36 rfl rfl ?_
    refine nk_getR C (r := (B + 4)) za_C_24 (nkc_ok hc) (nkc_os hc) rfl zd_C_heldDirectly_37 ?_
    refine nk_iload_n C zd_C_heldDirectly_40 rfl rfl ?_
    refine nk_iald C (nkc_bk4 hc) (nkc_bs4 hc) zd_C_heldDirectly_41 (fun x2 => ?_)
    refine nk_bipush (v := 100) C zd_C_heldDirectly_42 (by decide) ?_
    refine nk_icmp_ne (tgt := 60) C zd_C_heldDirectly_44 (by decide) ?_ ?_
    · refine nk_iconst (v := 0) C zd_C_heldDirectly_60 (by decide) ?_
      refine nk_wk [true, false] ?_
      exact zs_C_heldDirectly_b61 o B hc C hR hr (0 : Int32) m1
    · refine nk_aload_n C zd_C_heldDirectly_47 rfl rfl ?_
      refine nk_aload_n C zd_C_heldDirectly_48 rfl rfl ?_
      refine nk_getR C (r := (B + 5)) za_C_27 (nkc_ok hc) (nkc_os hc) rfl zd_C_heldDirectly_49 ?_
      refine nk_iload_n C zd_C_heldDirectly_52 rfl rfl ?_
      refine nk_iald C (nkc_bk5 hc) (nkc_bs5 hc) zd_C_heldDirectly_53 (fun x3 => ?_)
      refine nk_callVi C [.int x3] zv_C_63 hR (zc_C_partSet o B hc x3 m1) (by omega) (nkc_ok hc) (nkc_os hc) rfl rfl rfl (Nat.le_of_ble_eq_true rfl) zd_C_heldDirectly_54 (fun r4 m2 => ?_)
      refine nk_goto (tgt := 61) C zd_C_heldDirectly_57 (by decide) ?_
      refine nk_wk [true, false] ?_
      exact zs_C_heldDirectly_b61 o B hc C hR hr r4 m2
  · refine nk_aload_n C zd_C_heldDirectly_8 rfl rfl ?_
    refine nk_getR C (r := (B + 6)) za_C_30 (nkc_ok hc) (nkc_os hc) rfl zd_C_heldDirectly_9 ?_
    refine nk_iload_n C zd_C_heldDirectly_12 rfl rfl ?_
    refine nk_iald C (nkc_bk6 hc) (nkc_bs6 hc) zd_C_heldDirectly_13 (fun x5 => ?_)
    refine nk_bipush (v := -9) C zd_C_heldDirectly_14 (by decide) ?_
    refine nk_icmp_ne (tgt := 27) C zd_C_heldDirectly_16 (by decide) ?_ ?_
    · refine nk_iconst (v := 1) C zd_C_heldDirectly_27 (by decide) ?_
      refine nk_aload_n C zd_C_heldDirectly_28 rfl rfl ?_
      refine nk_getR C (r := (B + 6)) za_C_30 (nkc_ok hc) (nkc_os hc) rfl zd_C_heldDirectly_29 ?_
      refine nk_iload_n C zd_C_heldDirectly_32 rfl rfl ?_
      refine nk_iald C (nkc_bk6 hc) (nkc_bs6 hc) zd_C_heldDirectly_33 (fun x6 => ?_)
      refine nk_ishl C zd_C_heldDirectly_34 ?_
      refine nk_wk [true, false] ?_
      exact zs_C_heldDirectly_b35 o B hc C hR hr ((1 : Int32) <<< (x6 &&& 31)) m1
    · refine nk_aload_n C zd_C_heldDirectly_19 rfl rfl ?_
      refine nk_iload_n C zd_C_heldDirectly_20 rfl rfl ?_
      refine nk_callVi C [.int a1] zv_C_63 hR (zc_C_partSet o B hc a1 m1) (by omega) (nkc_ok hc) (nkc_os hc) rfl rfl rfl (Nat.le_of_ble_eq_true rfl) zd_C_heldDirectly_21 (fun r7 m3 => ?_)
      refine nk_goto (tgt := 35) C zd_C_heldDirectly_24 (by decide) ?_
      refine nk_wk [true, false] ?_
      exact zs_C_heldDirectly_b35 o B hc C hR hr r7 m3
theorem zd_C_heldBy_0 : decode zb_C_heldBy 0 = .ok (.iload_n 1, 1) := by decide +kernel
theorem zd_C_heldBy_1 : decode zb_C_heldBy 1 = .ok (.iconst 1, 1) := by decide +kernel
theorem zd_C_heldBy_2 : decode zb_C_heldBy 2 = .ok (.aload_n 0, 1) := by decide +kernel
theorem zd_C_heldBy_3 : decode zb_C_heldBy 3 = .ok (.getfield 47, 3) := by decide +kernel
theorem zd_C_heldBy_6 : decode zb_C_heldBy 6 = .ok (.ishl, 1) := by decide +kernel
theorem zd_C_heldBy_7 : decode zb_C_heldBy 7 = .ok (.iconst 1, 1) := by decide +kernel
theorem zd_C_heldBy_8 : decode zb_C_heldBy 8 = .ok (.isub, 1) := by decide +kernel
theorem zd_C_heldBy_9 : decode zb_C_heldBy 9 = .ok (.iand, 1) := by decide +kernel
theorem zd_C_heldBy_10 : decode zb_C_heldBy 10 = .ok (.istore_n 2, 1) := by decide +kernel
theorem zd_C_heldBy_11 : decode zb_C_heldBy 11 = .ok (.iconst 0, 1) := by decide +kernel
theorem zd_C_heldBy_12 : decode zb_C_heldBy 12 = .ok (.istore_n 3, 1) := by decide +kernel
theorem zd_C_heldBy_13 : decode zb_C_heldBy 13 = .ok (.iload_n 3, 1) := by decide +kernel
theorem zd_C_heldBy_14 : decode zb_C_heldBy 14 = .ok (.bipush 8, 2) := by decide +kernel
theorem zd_C_heldBy_16 : decode zb_C_heldBy 16 = .ok (.if_icmp .gt 58, 3) := by decide +kernel
theorem zd_C_heldBy_19 : decode zb_C_heldBy 19 = .ok (.iload_n 2, 1) := by decide +kernel
theorem zd_C_heldBy_20 : decode zb_C_heldBy 20 = .ok (.istore 4, 2) := by decide +kernel
theorem zd_C_heldBy_22 : decode zb_C_heldBy 22 = .ok (.iconst 0, 1) := by decide +kernel
theorem zd_C_heldBy_23 : decode zb_C_heldBy 23 = .ok (.istore 5, 2) := by decide +kernel
theorem zd_C_heldBy_25 : decode zb_C_heldBy 25 = .ok (.iload 5, 2) := by decide +kernel
theorem zd_C_heldBy_27 : decode zb_C_heldBy 27 = .ok (.aload_n 0, 1) := by decide +kernel
theorem zd_C_heldBy_28 : decode zb_C_heldBy 28 = .ok (.getfield 47, 3) := by decide +kernel
theorem zd_C_heldBy_31 : decode zb_C_heldBy 31 = .ok (.if_icmp .ge 28, 3) := by decide +kernel
theorem zd_C_heldBy_34 : decode zb_C_heldBy 34 = .ok (.iload_n 2, 1) := by decide +kernel
theorem zd_C_heldBy_35 : decode zb_C_heldBy 35 = .ok (.iload 5, 2) := by decide +kernel
theorem zd_C_heldBy_37 : decode zb_C_heldBy 37 = .ok (.ishr, 1) := by decide +kernel
theorem zd_C_heldBy_38 : decode zb_C_heldBy 38 = .ok (.iconst 1, 1) := by decide +kernel
theorem zd_C_heldBy_39 : decode zb_C_heldBy 39 = .ok (.iand, 1) := by decide +kernel
theorem zd_C_heldBy_40 : decode zb_C_heldBy 40 = .ok (.iconst 1, 1) := by decide +kernel
theorem zd_C_heldBy_41 : decode zb_C_heldBy 41 = .ok (.if_icmp .ne 12, 3) := by decide +kernel
theorem zd_C_heldBy_44 : decode zb_C_heldBy 44 = .ok (.iload_n 2, 1) := by decide +kernel
theorem zd_C_heldBy_45 : decode zb_C_heldBy 45 = .ok (.aload_n 0, 1) := by decide +kernel
theorem zd_C_heldBy_46 : decode zb_C_heldBy 46 = .ok (.iload 5, 2) := by decide +kernel
theorem zd_C_heldBy_48 : decode zb_C_heldBy 48 = .ok (.invokevirtual 143, 3) := by decide +kernel
theorem zd_C_heldBy_51 : decode zb_C_heldBy 51 = .ok (.ior, 1) := by decide +kernel
theorem zd_C_heldBy_52 : decode zb_C_heldBy 52 = .ok (.istore_n 2, 1) := by decide +kernel
theorem zd_C_heldBy_53 : decode zb_C_heldBy 53 = .ok (.iinc 5 1, 3) := by decide +kernel
theorem zd_C_heldBy_56 : decode zb_C_heldBy 56 = .ok (.goto (-31), 3) := by decide +kernel
theorem zd_C_heldBy_59 : decode zb_C_heldBy 59 = .ok (.iload_n 2, 1) := by decide +kernel
theorem zd_C_heldBy_60 : decode zb_C_heldBy 60 = .ok (.iload 4, 2) := by decide +kernel
theorem zd_C_heldBy_62 : decode zb_C_heldBy 62 = .ok (.if_icmp .ne 6, 3) := by decide +kernel
theorem zd_C_heldBy_65 : decode zb_C_heldBy 65 = .ok (.goto 9, 3) := by decide +kernel
theorem zd_C_heldBy_68 : decode zb_C_heldBy 68 = .ok (.iinc 3 1, 3) := by decide +kernel
theorem zd_C_heldBy_71 : decode zb_C_heldBy 71 = .ok (.goto (-58), 3) := by decide +kernel
theorem zd_C_heldBy_74 : decode zb_C_heldBy 74 = .ok (.iload_n 2, 1) := by decide +kernel
theorem zd_C_heldBy_75 : decode zb_C_heldBy 75 = .ok (.ireturn, 1) := by decide +kernel
def zf_C_heldBy_b74 (o B : Nat) (y2 : Int32) (m0 : nk_M) : Option (Int32 × nk_M) := some (y2, m0)
set_option maxHeartbeats 4000000 in
set_option maxRecDepth 100000 in
theorem zs_C_heldBy_b74 {G : nk_V} {X : nk_X} (o B : Nat) (hc : nk_isC o B) (C : nk_C "NeedOnce$Cells" zb_C_heldBy 6 nk_wC G X) (hR : X.2.2.2.1 = nk_rm 4) (hr : X.2.2.2.2.2.2.2.2.1.sig.returnType = (some .int))  : ∀ (y2 : Int32) (m0 : nk_M), nk_Sim nk_wC G X 6 nk_oi 74 [nk_r G o, .null, .int y2, .null, .null, .null] [] m0 (zf_C_heldBy_b74 o B y2 m0) := by
  intro y2 m0
  unfold zf_C_heldBy_b74
  refine nk_iload_n C zd_C_heldBy_74 rfl rfl ?_
  exact nk_iret C hr zd_C_heldBy_75
def zf_C_heldBy_b53 (o B : Nat) (rc13 : Int32 → Int32 → nk_M → Option (Int32 × nk_M)) (rc25 : Int32 → Int32 → Int32 → Int32 → nk_M → Option (Int32 × nk_M)) (y2 : Int32) (y3 : Int32) (y4 : Int32) (y5 : Int32) (m0 : nk_M) : Option (Int32 × nk_M) := (rc25 y2 y3 y4 (y5 + 1) m0)
set_option maxHeartbeats 4000000 in
set_option maxRecDepth 100000 in
theorem zs_C_heldBy_b53 {G : nk_V} {X : nk_X} (o B : Nat) (hc : nk_isC o B) (C : nk_C "NeedOnce$Cells" zb_C_heldBy 6 nk_wC G X) (hR : X.2.2.2.1 = nk_rm 4) (hr : X.2.2.2.2.2.2.2.2.1.sig.returnType = (some .int)) (rc13 : Int32 → Int32 → nk_M → Option (Int32 × nk_M)) (rc25 : Int32 → Int32 → Int32 → Int32 → nk_M → Option (Int32 × nk_M)) (hr13 : ∀ (y2 : Int32) (y3 : Int32) (m0 : nk_M), nk_Sim nk_wC G X 6 nk_oi 13 [nk_r G o, .null, .int y2, .int y3, .null, .null] [] m0 (rc13 y2 y3 m0)) (hr25 : ∀ (y2 : Int32) (y3 : Int32) (y4 : Int32) (y5 : Int32) (m0 : nk_M), nk_Sim nk_wC G X 6 nk_oi 25 [nk_r G o, .null, .int y2, .int y3, .int y4, .int y5] [] m0 (rc25 y2 y3 y4 y5 m0)) : ∀ (y2 : Int32) (y3 : Int32) (y4 : Int32) (y5 : Int32) (m0 : nk_M), nk_Sim nk_wC G X 6 nk_oi 53 [nk_r G o, .null, .int y2, .int y3, .int y4, .int y5] [] m0 (zf_C_heldBy_b53 o B rc13 rc25 y2 y3 y4 y5 m0) := by
  intro y2 y3 y4 y5 m0
  unfold zf_C_heldBy_b53
  refine nk_iinc (v0 := y5 + 1) C zd_C_heldBy_53 rfl (nk_inc _ (by decide)) (Nat.le_of_ble_eq_true rfl) rfl ?_
  refine nk_goto (tgt := 25) C zd_C_heldBy_56 (by decide) ?_
  exact hr25 y2 y3 y4 (y5 + 1) m0
def zf_C_heldBy_b25 (o B : Nat) (rc13 : Int32 → Int32 → nk_M → Option (Int32 × nk_M)) : Nat → Int32 → Int32 → Int32 → Int32 → nk_M → Option (Int32 × nk_M)
  | 0, _, _, _, _, _ => none
  | n0 + 1, y2, y3, y4, y5, m0 => (if (m0 o 0) ≤ y5 then (if y2 = y4 then (zf_C_heldBy_b74 o B y2 m0) else (rc13 y2 (y3 + 1) m0)) else (if ((y2 >>> (y5 &&& 31)) &&& (1 : Int32)) = (1 : Int32) then nk_bd (zf_C_heldDirectly o B y5 m0) (fun r1 m1 => nk_nm (y2 ||| r1) (fun x2 => (zf_C_heldBy_b53 o B rc13 (zf_C_heldBy_b25 o B rc13 n0) x2 y3 y4 y5 m1))) else (zf_C_heldBy_b53 o B rc13 (zf_C_heldBy_b25 o B rc13 n0) y2 y3 y4 y5 m0)))
set_option maxHeartbeats 4000000 in
set_option maxRecDepth 100000 in
theorem zs_C_heldBy_b25 {G : nk_V} {X : nk_X} (o B : Nat) (hc : nk_isC o B) (C : nk_C "NeedOnce$Cells" zb_C_heldBy 6 nk_wC G X) (hR : X.2.2.2.1 = nk_rm 4) (hr : X.2.2.2.2.2.2.2.2.1.sig.returnType = (some .int)) (rc13 : Int32 → Int32 → nk_M → Option (Int32 × nk_M)) (hr13 : ∀ (y2 : Int32) (y3 : Int32) (m0 : nk_M), nk_Sim nk_wC G X 6 nk_oi 13 [nk_r G o, .null, .int y2, .int y3, .null, .null] [] m0 (rc13 y2 y3 m0)) : ∀ (n0 : Nat) (y2 : Int32) (y3 : Int32) (y4 : Int32) (y5 : Int32) (m0 : nk_M), nk_Sim nk_wC G X 6 nk_oi 25 [nk_r G o, .null, .int y2, .int y3, .int y4, .int y5] [] m0 (zf_C_heldBy_b25 o B rc13 n0 y2 y3 y4 y5 m0) := by
  intro n0
  induction n0 with
  | zero => intros; exact nk_none
  | succ n0 ih =>
    intro y2 y3 y4 y5 m0
    rw [zf_C_heldBy_b25]
    refine nk_iload C zd_C_heldBy_25 rfl ?_
    refine nk_aload_n C zd_C_heldBy_27 rfl rfl ?_
    refine nk_getI C za_C_47 (nkc_ok hc) (nkc_os hc) rfl zd_C_heldBy_28 ?_
    refine nk_icmp_ge (tgt := 59) C zd_C_heldBy_31 (by decide) ?_ ?_
    · refine nk_iload_n C zd_C_heldBy_59 rfl rfl ?_
      refine nk_iload C zd_C_heldBy_60 rfl ?_
      refine nk_icmp_ne (tgt := 68) C zd_C_heldBy_62 (by decide) ?_ ?_
      · refine nk_iinc (v0 := y3 + 1) C zd_C_heldBy_68 rfl (nk_inc _ (by decide)) (Nat.le_of_ble_eq_true rfl) rfl ?_
        refine nk_goto (tgt := 13) C zd_C_heldBy_71 (by decide) ?_
        refine nk_wk [true, false, true, true, false, false] ?_
        exact hr13 y2 (y3 + 1) m0
      · refine nk_goto (tgt := 74) C zd_C_heldBy_65 (by decide) ?_
        refine nk_wk [true, false, true, false, false, false] ?_
        exact zs_C_heldBy_b74 o B hc C hR hr y2 m0
    · refine nk_iload_n C zd_C_heldBy_34 rfl rfl ?_
      refine nk_iload C zd_C_heldBy_35 rfl ?_
      refine nk_ishr C zd_C_heldBy_37 ?_
      refine nk_iconst (v := 1) C zd_C_heldBy_38 (by decide) ?_
      refine nk_iand C zd_C_heldBy_39 ?_
      refine nk_iconst (v := 1) C zd_C_heldBy_40 (by decide) ?_
      refine nk_icmp_ne (tgt := 53) C zd_C_heldBy_41 (by decide) ?_ ?_
      · exact zs_C_heldBy_b53 o B hc C hR hr rc13 (zf_C_heldBy_b25 o B rc13 n0) hr13 ih y2 y3 y4 y5 m0
      · refine nk_iload_n C zd_C_heldBy_44 rfl rfl ?_
        refine nk_aload_n C zd_C_heldBy_45 rfl rfl ?_
        refine nk_iload C zd_C_heldBy_46 rfl ?_
        refine nk_callVi C [.int y5] zv_C_143 hR (zc_C_heldDirectly o B hc y5 m0) (by omega) (nkc_ok hc) (nkc_os hc) rfl rfl rfl (Nat.le_of_ble_eq_true rfl) zd_C_heldBy_48 (fun r1 m1 => ?_)
        refine nk_ior C zd_C_heldBy_51 ?_
        refine nk_named (fun x2 => ?_)
        refine nk_istore_n C zd_C_heldBy_52 rfl (Nat.le_of_ble_eq_true rfl) rfl ?_
        exact zs_C_heldBy_b53 o B hc C hR hr rc13 (zf_C_heldBy_b25 o B rc13 n0) hr13 ih x2 y3 y4 y5 m1
def zf_C_heldBy_b13 (o B : Nat) : Nat → Int32 → Int32 → nk_M → Option (Int32 × nk_M)
  | 0, _, _, _ => none
  | n0 + 1, y2, y3, m0 => (if (8 : Int32) < y3 then (zf_C_heldBy_b74 o B y2 m0) else (zf_C_heldBy_b25 o B (zf_C_heldBy_b13 o B n0) nk_fu y2 y3 y2 (0 : Int32) m0))
set_option maxHeartbeats 4000000 in
set_option maxRecDepth 100000 in
theorem zs_C_heldBy_b13 {G : nk_V} {X : nk_X} (o B : Nat) (hc : nk_isC o B) (C : nk_C "NeedOnce$Cells" zb_C_heldBy 6 nk_wC G X) (hR : X.2.2.2.1 = nk_rm 4) (hr : X.2.2.2.2.2.2.2.2.1.sig.returnType = (some .int))  : ∀ (n0 : Nat) (y2 : Int32) (y3 : Int32) (m0 : nk_M), nk_Sim nk_wC G X 6 nk_oi 13 [nk_r G o, .null, .int y2, .int y3, .null, .null] [] m0 (zf_C_heldBy_b13 o B n0 y2 y3 m0) := by
  intro n0
  induction n0 with
  | zero => intros; exact nk_none
  | succ n0 ih =>
    intro y2 y3 m0
    rw [zf_C_heldBy_b13]
    refine nk_iload_n C zd_C_heldBy_13 rfl rfl ?_
    refine nk_bipush (v := 8) C zd_C_heldBy_14 (by decide) ?_
    refine nk_icmp_gt (tgt := 74) C zd_C_heldBy_16 (by decide) ?_ ?_
    · refine nk_wk [true, false, true, false, false, false] ?_
      exact zs_C_heldBy_b74 o B hc C hR hr y2 m0
    · refine nk_iload_n C zd_C_heldBy_19 rfl rfl ?_
      refine nk_istore C zd_C_heldBy_20 (Nat.le_of_ble_eq_true rfl) rfl ?_
      refine nk_iconst (v := 0) C zd_C_heldBy_22 (by decide) ?_
      refine nk_istore C zd_C_heldBy_23 (Nat.le_of_ble_eq_true rfl) rfl ?_
      exact zs_C_heldBy_b25 o B hc C hR hr (zf_C_heldBy_b13 o B n0) ih nk_fu y2 y3 y2 (0 : Int32) m0
def zf_C_heldBy (o B : Nat) (a1 : Int32) (m0 : nk_M) : Option (Int32 × nk_M) := nk_nm (a1 &&& (((1 : Int32) <<< ((m0 o 0) &&& 31)) - (1 : Int32))) (fun x1 => (zf_C_heldBy_b13 o B nk_fu x1 (0 : Int32) m0))
set_option maxHeartbeats 4000000 in
set_option maxRecDepth 100000 in
theorem zc_C_heldBy {l : Launch} {G : nk_V} (o B : Nat) (hc : nk_isC o B) (a1 : Int32) (m0 : nk_M) : nk_Ct l nk_wC G 4 zy_C_heldBy zb_C_heldBy 6 (some .int) nk_oi [nk_r G o, .int a1] m0 (zf_C_heldBy o B a1 m0) := by
  refine nk_ent (own := "NeedOnce$Cells") (lv := [nk_r G o, .int a1, .null, .null, .null, .null]) 4 rfl (by decide) (Nat.le_of_ble_eq_true rfl) rfl (fun X hl hR C hr => ?_)
  subst hl
  unfold zf_C_heldBy
  refine nk_iload_n C zd_C_heldBy_0 rfl rfl ?_
  refine nk_iconst (v := 1) C zd_C_heldBy_1 (by decide) ?_
  refine nk_aload_n C zd_C_heldBy_2 rfl rfl ?_
  refine nk_getI C za_C_47 (nkc_ok hc) (nkc_os hc) rfl zd_C_heldBy_3 ?_
  refine nk_ishl C zd_C_heldBy_6 ?_
  refine nk_iconst (v := 1) C zd_C_heldBy_7 (by decide) ?_
  refine nk_isub C zd_C_heldBy_8 ?_
  refine nk_iand C zd_C_heldBy_9 ?_
  refine nk_named (fun x1 => ?_)
  refine nk_istore_n C zd_C_heldBy_10 rfl (Nat.le_of_ble_eq_true rfl) rfl ?_
  refine nk_iconst (v := 0) C zd_C_heldBy_11 (by decide) ?_
  refine nk_istore_n C zd_C_heldBy_12 rfl (Nat.le_of_ble_eq_true rfl) rfl ?_
  refine nk_wk [true, false, true, true, false, false] ?_
  exact zs_C_heldBy_b13 o B hc C hR hr nk_fu x1 (0 : Int32) m0
theorem zd_N_held_0 : decode zb_N_held 0 = .ok (.iload_n 1, 1) := by decide +kernel
theorem zd_N_held_1 : decode zb_N_held 1 = .ok (.ifCond .lt 10, 3) := by decide +kernel
theorem zd_N_held_4 : decode zb_N_held 4 = .ok (.iload_n 1, 1) := by decide +kernel
theorem zd_N_held_5 : decode zb_N_held 5 = .ok (.sipush 255, 3) := by decide +kernel
theorem zd_N_held_8 : decode zb_N_held 8 = .ok (.if_icmp .le 8, 3) := by decide +kernel
theorem zd_N_held_11 : decode zb_N_held 11 = .ok (.bipush (-2), 2) := by decide +kernel
theorem zd_N_held_13 : decode zb_N_held 13 = .ok (.goto 11, 3) := by decide +kernel
theorem zd_N_held_16 : decode zb_N_held 16 = .ok (.aload_n 0, 1) := by decide +kernel
theorem zd_N_held_17 : decode zb_N_held 17 = .ok (.getfield 12, 3) := by decide +kernel
theorem zd_N_held_20 : decode zb_N_held 20 = .ok (.iload_n 1, 1) := by decide +kernel
theorem zd_N_held_21 : decode zb_N_held 21 = .ok (.invokevirtual 137, 3) := by decide +kernel
theorem zd_N_held_24 : decode zb_N_held 24 = .ok (.ireturn, 1) := by decide +kernel
def zf_N_held_b24  (u0 : Int32) (m0 : nk_M) : Option (Int32 × nk_M) := some (u0, m0)
set_option maxHeartbeats 4000000 in
set_option maxRecDepth 100000 in
theorem zs_N_held_b24 {G : nk_V} {X : nk_X}   (C : nk_C "NeedOnce" zb_N_held 2 nk_wC G X) (hR : X.2.2.2.1 = nk_rm 5) (hr : X.2.2.2.2.2.2.2.2.1.sig.returnType = (some .int))  : ∀ (u0 : Int32) (m0 : nk_M), nk_Sim nk_wC G X 2 nk_oi 24 [nk_r G 0, .null] [.int u0] m0 (zf_N_held_b24 u0 m0) := by
  intro u0 m0
  unfold zf_N_held_b24
  exact nk_iret C hr zd_N_held_24
def zf_N_held_b11   (m0 : nk_M) : Option (Int32 × nk_M) := (zf_N_held_b24 (-2 : Int32) m0)
set_option maxHeartbeats 4000000 in
set_option maxRecDepth 100000 in
theorem zs_N_held_b11 {G : nk_V} {X : nk_X}   (C : nk_C "NeedOnce" zb_N_held 2 nk_wC G X) (hR : X.2.2.2.1 = nk_rm 5) (hr : X.2.2.2.2.2.2.2.2.1.sig.returnType = (some .int))  : ∀  (m0 : nk_M), nk_Sim nk_wC G X 2 nk_oi 11 [nk_r G 0, .null] [] m0 (zf_N_held_b11  m0) := by
  intro m0
  unfold zf_N_held_b11
  refine nk_bipush (v := -2) C zd_N_held_11 (by decide) ?_
  refine nk_goto (tgt := 24) C zd_N_held_13 (by decide) ?_
  exact zs_N_held_b24 C hR hr (-2 : Int32) m0
def zf_N_held  (a1 : Int32) (m0 : nk_M) : Option (Int32 × nk_M) := (if a1 < 0 then (zf_N_held_b11 m0) else (if a1 ≤ (255 : Int32) then nk_bd (zf_C_heldBy 1 6 a1 m0) (fun r1 m1 => (zf_N_held_b24 r1 m1)) else (zf_N_held_b11 m0)))
set_option maxHeartbeats 4000000 in
set_option maxRecDepth 100000 in
theorem zc_N_held {l : Launch} {G : nk_V}   (a1 : Int32) (m0 : nk_M) : nk_Ct l nk_wC G 5 zy_N_held zb_N_held 2 (some .int) nk_oi [nk_r G 0, .int a1] m0 (zf_N_held  a1 m0) := by
  refine nk_ent (own := "NeedOnce") (lv := [nk_r G 0, .int a1]) 0 rfl (by decide) (Nat.le_of_ble_eq_true rfl) rfl (fun X hl hR C hr => ?_)
  subst hl
  unfold zf_N_held
  refine nk_iload_n C zd_N_held_0 rfl rfl ?_
  refine nk_if_lt (tgt := 11) C zd_N_held_1 (by decide) ?_ ?_
  · refine nk_wk [true, false] ?_
    exact zs_N_held_b11 C hR hr m0
  · refine nk_iload_n C zd_N_held_4 rfl rfl ?_
    refine nk_sipush (v := 255) C zd_N_held_5 (by decide) ?_
    refine nk_icmp_le (tgt := 16) C zd_N_held_8 (by decide) ?_ ?_
    · refine nk_aload_n C zd_N_held_16 rfl rfl ?_
      refine nk_getR C (r := 1) za_N_12 (Nat.le_of_ble_eq_true rfl) rfl rfl zd_N_held_17 ?_
      refine nk_iload_n C zd_N_held_20 rfl rfl ?_
      refine nk_callVi C [.int a1] zv_N_137 hR (zc_C_heldBy 1 6 (Or.inl ⟨rfl, rfl⟩) a1 m0) (by omega) (Nat.le_of_ble_eq_true rfl) rfl rfl rfl rfl (Nat.le_of_ble_eq_true rfl) zd_N_held_21 (fun r1 m1 => ?_)
      refine nk_wk [true, false] ?_
      exact zs_N_held_b24 C hR hr r1 m1
    · refine nk_wk [true, false] ?_
      exact zs_N_held_b11 C hR hr m0
theorem zd_C_timesPlainly_0 : decode zb_C_timesPlainly 0 = .ok (.aload_n 0, 1) := by decide +kernel
theorem zd_C_timesPlainly_1 : decode zb_C_timesPlainly 1 = .ok (.invokevirtual 44, 3) := by decide +kernel
theorem zd_C_timesPlainly_4 : decode zb_C_timesPlainly 4 = .ok (.aload_n 0, 1) := by decide +kernel
theorem zd_C_timesPlainly_5 : decode zb_C_timesPlainly 5 = .ok (.iconst 0, 1) := by decide +kernel
theorem zd_C_timesPlainly_6 : decode zb_C_timesPlainly 6 = .ok (.putfield 37, 3) := by decide +kernel
theorem zd_C_timesPlainly_9 : decode zb_C_timesPlainly 9 = .ok (.aload_n 0, 1) := by decide +kernel
theorem zd_C_timesPlainly_10 : decode zb_C_timesPlainly 10 = .ok (.iload_n 1, 1) := by decide +kernel
theorem zd_C_timesPlainly_11 : decode zb_C_timesPlainly 11 = .ok (.invokevirtual 146, 3) := by decide +kernel
theorem zd_C_timesPlainly_14 : decode zb_C_timesPlainly 14 = .ok (.istore_n 2, 1) := by decide +kernel
theorem zd_C_timesPlainly_15 : decode zb_C_timesPlainly 15 = .ok (.aload_n 0, 1) := by decide +kernel
theorem zd_C_timesPlainly_16 : decode zb_C_timesPlainly 16 = .ok (.iconst 1, 1) := by decide +kernel
theorem zd_C_timesPlainly_17 : decode zb_C_timesPlainly 17 = .ok (.putfield 37, 3) := by decide +kernel
theorem zd_C_timesPlainly_20 : decode zb_C_timesPlainly 20 = .ok (.iload_n 2, 1) := by decide +kernel
theorem zd_C_timesPlainly_21 : decode zb_C_timesPlainly 21 = .ok (.bipush 101, 2) := by decide +kernel
theorem zd_C_timesPlainly_23 : decode zb_C_timesPlainly 23 = .ok (.if_icmp .eq 13, 3) := by decide +kernel
theorem zd_C_timesPlainly_26 : decode zb_C_timesPlainly 26 = .ok (.aload_n 0, 1) := by decide +kernel
theorem zd_C_timesPlainly_27 : decode zb_C_timesPlainly 27 = .ok (.getfield 81, 3) := by decide +kernel
theorem zd_C_timesPlainly_30 : decode zb_C_timesPlainly 30 = .ok (.sipush 999, 3) := by decide +kernel
theorem zd_C_timesPlainly_33 : decode zb_C_timesPlainly 33 = .ok (.if_icmp .le 8, 3) := by decide +kernel
theorem zd_C_timesPlainly_36 : decode zb_C_timesPlainly 36 = .ok (.bipush (-9), 2) := by decide +kernel
theorem zd_C_timesPlainly_38 : decode zb_C_timesPlainly 38 = .ok (.goto 7, 3) := by decide +kernel
theorem zd_C_timesPlainly_41 : decode zb_C_timesPlainly 41 = .ok (.aload_n 0, 1) := by decide +kernel
theorem zd_C_timesPlainly_42 : decode zb_C_timesPlainly 42 = .ok (.getfield 81, 3) := by decide +kernel
theorem zd_C_timesPlainly_45 : decode zb_C_timesPlainly 45 = .ok (.ireturn, 1) := by decide +kernel
def zf_C_timesPlainly_b45 (o B : Nat) (u0 : Int32) (m0 : nk_M) : Option (Int32 × nk_M) := some (u0, m0)
set_option maxHeartbeats 4000000 in
set_option maxRecDepth 100000 in
theorem zs_C_timesPlainly_b45 {G : nk_V} {X : nk_X} (o B : Nat) (hc : nk_isC o B) (C : nk_C "NeedOnce$Cells" zb_C_timesPlainly 3 nk_wC G X) (hR : X.2.2.2.1 = nk_rm 46) (hr : X.2.2.2.2.2.2.2.2.1.sig.returnType = (some .int))  : ∀ (u0 : Int32) (m0 : nk_M), nk_Sim nk_wC G X 3 nk_oi 45 [nk_r G o, .null, .null] [.int u0] m0 (zf_C_timesPlainly_b45 o B u0 m0) := by
  intro u0 m0
  unfold zf_C_timesPlainly_b45
  exact nk_iret C hr zd_C_timesPlainly_45
def zf_C_timesPlainly_b36 (o B : Nat)  (m0 : nk_M) : Option (Int32 × nk_M) := (zf_C_timesPlainly_b45 o B (-9 : Int32) m0)
set_option maxHeartbeats 4000000 in
set_option maxRecDepth 100000 in
theorem zs_C_timesPlainly_b36 {G : nk_V} {X : nk_X} (o B : Nat) (hc : nk_isC o B) (C : nk_C "NeedOnce$Cells" zb_C_timesPlainly 3 nk_wC G X) (hR : X.2.2.2.1 = nk_rm 46) (hr : X.2.2.2.2.2.2.2.2.1.sig.returnType = (some .int))  : ∀  (m0 : nk_M), nk_Sim nk_wC G X 3 nk_oi 36 [nk_r G o, .null, .null] [] m0 (zf_C_timesPlainly_b36 o B  m0) := by
  intro m0
  unfold zf_C_timesPlainly_b36
  refine nk_bipush (v := -9) C zd_C_timesPlainly_36 (by decide) ?_
  refine nk_goto (tgt := 45) C zd_C_timesPlainly_38 (by decide) ?_
  exact zs_C_timesPlainly_b45 o B hc C hR hr (-9 : Int32) m0
def zf_C_timesPlainly (o B : Nat) (a1 : Int32) (m0 : nk_M) : Option (Int32 × nk_M) := nk_bd (zf_C_putToSleep o B m0) (fun _ m1 => nk_pf m1 o 9 (0 : Int32) (fun m2 => nk_bd (zf_C_needAnew o B a1 m2) (fun r2 m3 => nk_pf m3 o 9 (1 : Int32) (fun m4 => (if r2 = (101 : Int32) then (zf_C_timesPlainly_b36 o B m4) else (if (m4 o 11) ≤ (999 : Int32) then (zf_C_timesPlainly_b45 o B (m4 o 11) m4) else (zf_C_timesPlainly_b36 o B m4)))))))
set_option maxHeartbeats 4000000 in
set_option maxRecDepth 100000 in
theorem zc_C_timesPlainly {l : Launch} {G : nk_V} (o B : Nat) (hc : nk_isC o B) (a1 : Int32) (m0 : nk_M) : nk_Ct l nk_wC G 46 zy_C_timesPlainly zb_C_timesPlainly 3 (some .int) nk_oi [nk_r G o, .int a1] m0 (zf_C_timesPlainly o B a1 m0) := by
  refine nk_ent (own := "NeedOnce$Cells") (lv := [nk_r G o, .int a1, .null]) 1 rfl (by decide) (Nat.le_of_ble_eq_true rfl) rfl (fun X hl hR C hr => ?_)
  subst hl
  unfold zf_C_timesPlainly
  refine nk_aload_n C zd_C_timesPlainly_0 rfl rfl ?_
  refine nk_callVv C [] zv_C_44 hR (zc_C_putToSleep o B hc m0) (by omega) (nkc_ok hc) (nkc_os hc) rfl rfl rfl (Nat.le_of_ble_eq_true rfl) zd_C_timesPlainly_1 (fun m1 => ?_)
  refine nk_aload_n C zd_C_timesPlainly_4 rfl rfl ?_
  refine nk_iconst (v := 0) C zd_C_timesPlainly_5 (by decide) ?_
  refine nk_put C zp_C_37 (nkc_ok hc) (nkc_os hc) rfl (by decide) (by decide) zd_C_timesPlainly_6 (fun m2 => ?_)
  refine nk_aload_n C zd_C_timesPlainly_9 rfl rfl ?_
  refine nk_iload_n C zd_C_timesPlainly_10 rfl rfl ?_
  refine nk_callVi C [.int a1] zv_C_146 hR (zc_C_needAnew o B hc a1 m2) (by omega) (nkc_ok hc) (nkc_os hc) rfl rfl rfl (Nat.le_of_ble_eq_true rfl) zd_C_timesPlainly_11 (fun r2 m3 => ?_)
  refine nk_istore_n C zd_C_timesPlainly_14 rfl (Nat.le_of_ble_eq_true rfl) rfl ?_
  refine nk_aload_n C zd_C_timesPlainly_15 rfl rfl ?_
  refine nk_iconst (v := 1) C zd_C_timesPlainly_16 (by decide) ?_
  refine nk_put C zp_C_37 (nkc_ok hc) (nkc_os hc) rfl (by decide) (by decide) zd_C_timesPlainly_17 (fun m4 => ?_)
  refine nk_iload_n C zd_C_timesPlainly_20 rfl rfl ?_
  refine nk_bipush (v := 101) C zd_C_timesPlainly_21 (by decide) ?_
  refine nk_icmp_eq (tgt := 36) C zd_C_timesPlainly_23 (by decide) ?_ ?_
  · refine nk_wk [true, false, false] ?_
    exact zs_C_timesPlainly_b36 o B hc C hR hr m4
  · refine nk_aload_n C zd_C_timesPlainly_26 rfl rfl ?_
    refine nk_getI C za_C_81 (nkc_ok hc) (nkc_os hc) rfl zd_C_timesPlainly_27 ?_
    refine nk_sipush (v := 999) C zd_C_timesPlainly_30 (by decide) ?_
    refine nk_icmp_le (tgt := 41) C zd_C_timesPlainly_33 (by decide) ?_ ?_
    · refine nk_aload_n C zd_C_timesPlainly_41 rfl rfl ?_
      refine nk_getI C za_C_81 (nkc_ok hc) (nkc_os hc) rfl zd_C_timesPlainly_42 ?_
      refine nk_wk [true, false, false] ?_
      exact zs_C_timesPlainly_b45 o B hc C hR hr (m4 o 11) m4
    · refine nk_wk [true, false, false] ?_
      exact zs_C_timesPlainly_b36 o B hc C hR hr m4
theorem zd_N_plainly_0 : decode zb_N_plainly 0 = .ok (.aload_n 0, 1) := by decide +kernel
theorem zd_N_plainly_1 : decode zb_N_plainly 1 = .ok (.getfield 12, 3) := by decide +kernel
theorem zd_N_plainly_4 : decode zb_N_plainly 4 = .ok (.iload_n 1, 1) := by decide +kernel
theorem zd_N_plainly_5 : decode zb_N_plainly 5 = .ok (.invokevirtual 80, 3) := by decide +kernel
theorem zd_N_plainly_8 : decode zb_N_plainly 8 = .ok (.ifCond .ne 5, 3) := by decide +kernel
theorem zd_N_plainly_11 : decode zb_N_plainly 11 = .ok (.iconst (-1), 1) := by decide +kernel
theorem zd_N_plainly_12 : decode zb_N_plainly 12 = .ok (.ireturn, 1) := by decide +kernel
theorem zd_N_plainly_13 : decode zb_N_plainly 13 = .ok (.aload_n 0, 1) := by decide +kernel
theorem zd_N_plainly_14 : decode zb_N_plainly 14 = .ok (.getfield 18, 3) := by decide +kernel
theorem zd_N_plainly_17 : decode zb_N_plainly 17 = .ok (.aload_n 0, 1) := by decide +kernel
theorem zd_N_plainly_18 : decode zb_N_plainly 18 = .ok (.getfield 12, 3) := by decide +kernel
theorem zd_N_plainly_21 : decode zb_N_plainly 21 = .ok (.invokevirtual 69, 3) := by decide +kernel
theorem zd_N_plainly_24 : decode zb_N_plainly 24 = .ok (.aload_n 0, 1) := by decide +kernel
theorem zd_N_plainly_25 : decode zb_N_plainly 25 = .ok (.getfield 18, 3) := by decide +kernel
theorem zd_N_plainly_28 : decode zb_N_plainly 28 = .ok (.iload_n 1, 1) := by decide +kernel
theorem zd_N_plainly_29 : decode zb_N_plainly 29 = .ok (.invokevirtual 140, 3) := by decide +kernel
theorem zd_N_plainly_32 : decode zb_N_plainly 32 = .ok (.ireturn, 1) := by decide +kernel
def zf_N_plainly  (a1 : Int32) (m0 : nk_M) : Option (Int32 × nk_M) := nk_bd (zf_C_has 1 6 a1 m0) (fun r1 m1 => (if r1 = 0 then some ((-1 : Int32), m1) else nk_bd (zf_C_becomeLike 2 15 1 6 m1) (fun _ m2 => nk_bd (zf_C_timesPlainly 2 15 a1 m2) (fun r3 m3 => some (r3, m3)))))
set_option maxHeartbeats 4000000 in
set_option maxRecDepth 100000 in
theorem zc_N_plainly {l : Launch} {G : nk_V}   (a1 : Int32) (m0 : nk_M) : nk_Ct l nk_wC G 47 zy_N_plainly zb_N_plainly 2 (some .int) nk_oi [nk_r G 0, .int a1] m0 (zf_N_plainly  a1 m0) := by
  refine nk_ent (own := "NeedOnce") (lv := [nk_r G 0, .int a1]) 0 rfl (by decide) (Nat.le_of_ble_eq_true rfl) rfl (fun X hl hR C hr => ?_)
  subst hl
  unfold zf_N_plainly
  refine nk_aload_n C zd_N_plainly_0 rfl rfl ?_
  refine nk_getR C (r := 1) za_N_12 (Nat.le_of_ble_eq_true rfl) rfl rfl zd_N_plainly_1 ?_
  refine nk_iload_n C zd_N_plainly_4 rfl rfl ?_
  refine nk_callVi C [.int a1] zv_N_80 hR (zc_C_has 1 6 (Or.inl ⟨rfl, rfl⟩) a1 m0) (by omega) (Nat.le_of_ble_eq_true rfl) rfl rfl rfl rfl (Nat.le_of_ble_eq_true rfl) zd_N_plainly_5 (fun r1 m1 => ?_)
  refine nk_if_ne (tgt := 13) C zd_N_plainly_8 (by decide) ?_ ?_
  · refine nk_aload_n C zd_N_plainly_13 rfl rfl ?_
    refine nk_getR C (r := 2) za_N_18 (Nat.le_of_ble_eq_true rfl) rfl rfl zd_N_plainly_14 ?_
    refine nk_aload_n C zd_N_plainly_17 rfl rfl ?_
    refine nk_getR C (r := 1) za_N_12 (Nat.le_of_ble_eq_true rfl) rfl rfl zd_N_plainly_18 ?_
    refine nk_callVv C [nk_r G 1] zv_N_69 hR (zc_C_becomeLike 2 15 1 6 (Or.inr ⟨rfl, rfl⟩) (Or.inl ⟨rfl, rfl⟩) m1) (by omega) (Nat.le_of_ble_eq_true rfl) rfl rfl rfl rfl (Nat.le_of_ble_eq_true rfl) zd_N_plainly_21 (fun m2 => ?_)
    refine nk_aload_n C zd_N_plainly_24 rfl rfl ?_
    refine nk_getR C (r := 2) za_N_18 (Nat.le_of_ble_eq_true rfl) rfl rfl zd_N_plainly_25 ?_
    refine nk_iload_n C zd_N_plainly_28 rfl rfl ?_
    refine nk_callVi C [.int a1] zv_N_140 hR (zc_C_timesPlainly 2 15 (Or.inr ⟨rfl, rfl⟩) a1 m2) (by omega) (Nat.le_of_ble_eq_true rfl) rfl rfl rfl rfl (Nat.le_of_ble_eq_true rfl) zd_N_plainly_29 (fun r3 m3 => ?_)
    exact nk_iret C hr zd_N_plainly_32
  · refine nk_iconst (v := -1) C zd_N_plainly_11 (by decide) ?_
    exact nk_iret C hr zd_N_plainly_12
theorem zd_N_isOfDay_0 : decode zb_N_isOfDay 0 = .ok (.iload_n 0, 1) := by decide +kernel
theorem zd_N_isOfDay_1 : decode zb_N_isOfDay 1 = .ok (.ifCond .lt 8, 3) := by decide +kernel
theorem zd_N_isOfDay_4 : decode zb_N_isOfDay 4 = .ok (.iload_n 0, 1) := by decide +kernel
theorem zd_N_isOfDay_5 : decode zb_N_isOfDay 5 = .ok (.iconst 4, 1) := by decide +kernel
theorem zd_N_isOfDay_6 : decode zb_N_isOfDay 6 = .ok (.if_icmp .le 15, 3) := by decide +kernel
theorem zd_N_isOfDay_9 : decode zb_N_isOfDay 9 = .ok (.iload_n 0, 1) := by decide +kernel
theorem zd_N_isOfDay_10 : decode zb_N_isOfDay 10 = .ok (.bipush 10, 2) := by decide +kernel
theorem zd_N_isOfDay_12 : decode zb_N_isOfDay 12 = .ok (.if_icmp .lt 13, 3) := by decide +kernel
theorem zd_N_isOfDay_15 : decode zb_N_isOfDay 15 = .ok (.iload_n 0, 1) := by decide +kernel
theorem zd_N_isOfDay_16 : decode zb_N_isOfDay 16 = .ok (.bipush 18, 2) := by decide +kernel
theorem zd_N_isOfDay_18 : decode zb_N_isOfDay 18 = .ok (.if_icmp .ge 7, 3) := by decide +kernel
theorem zd_N_isOfDay_21 : decode zb_N_isOfDay 21 = .ok (.iconst 1, 1) := by decide +kernel
theorem zd_N_isOfDay_22 : decode zb_N_isOfDay 22 = .ok (.goto 4, 3) := by decide +kernel
theorem zd_N_isOfDay_25 : decode zb_N_isOfDay 25 = .ok (.iconst 0, 1) := by decide +kernel
theorem zd_N_isOfDay_26 : decode zb_N_isOfDay 26 = .ok (.ireturn, 1) := by decide +kernel
def zf_N_isOfDay_b26  (u0 : Int32) (m0 : nk_M) : Option (Int32 × nk_M) := nk_zr u0 m0
set_option maxHeartbeats 4000000 in
set_option maxRecDepth 100000 in
theorem zs_N_isOfDay_b26 {G : nk_V} {X : nk_X}   (C : nk_C "NeedOnce" zb_N_isOfDay 1 nk_wC G X) (hR : X.2.2.2.1 = nk_rm 1) (hr : X.2.2.2.2.2.2.2.2.1.sig.returnType = (some .boolean))  : ∀ (u0 : Int32) (m0 : nk_M), nk_Sim nk_wC G X 1 nk_oi 26 [.null] [.int u0] m0 (zf_N_isOfDay_b26 u0 m0) := by
  intro u0 m0
  unfold zf_N_isOfDay_b26
  exact nk_zret C hr zd_N_isOfDay_26
def zf_N_isOfDay_b25   (m0 : nk_M) : Option (Int32 × nk_M) := (zf_N_isOfDay_b26 (0 : Int32) m0)
set_option maxHeartbeats 4000000 in
set_option maxRecDepth 100000 in
theorem zs_N_isOfDay_b25 {G : nk_V} {X : nk_X}   (C : nk_C "NeedOnce" zb_N_isOfDay 1 nk_wC G X) (hR : X.2.2.2.1 = nk_rm 1) (hr : X.2.2.2.2.2.2.2.2.1.sig.returnType = (some .boolean))  : ∀  (m0 : nk_M), nk_Sim nk_wC G X 1 nk_oi 25 [.null] [] m0 (zf_N_isOfDay_b25  m0) := by
  intro m0
  unfold zf_N_isOfDay_b25
  refine nk_iconst (v := 0) C zd_N_isOfDay_25 (by decide) ?_
  exact zs_N_isOfDay_b26 C hR hr (0 : Int32) m0
def zf_N_isOfDay_b21   (m0 : nk_M) : Option (Int32 × nk_M) := (zf_N_isOfDay_b26 (1 : Int32) m0)
set_option maxHeartbeats 4000000 in
set_option maxRecDepth 100000 in
theorem zs_N_isOfDay_b21 {G : nk_V} {X : nk_X}   (C : nk_C "NeedOnce" zb_N_isOfDay 1 nk_wC G X) (hR : X.2.2.2.1 = nk_rm 1) (hr : X.2.2.2.2.2.2.2.2.1.sig.returnType = (some .boolean))  : ∀  (m0 : nk_M), nk_Sim nk_wC G X 1 nk_oi 21 [.null] [] m0 (zf_N_isOfDay_b21  m0) := by
  intro m0
  unfold zf_N_isOfDay_b21
  refine nk_iconst (v := 1) C zd_N_isOfDay_21 (by decide) ?_
  refine nk_goto (tgt := 26) C zd_N_isOfDay_22 (by decide) ?_
  exact zs_N_isOfDay_b26 C hR hr (1 : Int32) m0
def zf_N_isOfDay_b9  (y0 : Int32) (m0 : nk_M) : Option (Int32 × nk_M) := (if y0 < (10 : Int32) then (zf_N_isOfDay_b25 m0) else (if (18 : Int32) ≤ y0 then (zf_N_isOfDay_b25 m0) else (zf_N_isOfDay_b21 m0)))
set_option maxHeartbeats 4000000 in
set_option maxRecDepth 100000 in
theorem zs_N_isOfDay_b9 {G : nk_V} {X : nk_X}   (C : nk_C "NeedOnce" zb_N_isOfDay 1 nk_wC G X) (hR : X.2.2.2.1 = nk_rm 1) (hr : X.2.2.2.2.2.2.2.2.1.sig.returnType = (some .boolean))  : ∀ (y0 : Int32) (m0 : nk_M), nk_Sim nk_wC G X 1 nk_oi 9 [.int y0] [] m0 (zf_N_isOfDay_b9 y0 m0) := by
  intro y0 m0
  unfold zf_N_isOfDay_b9
  refine nk_iload_n C zd_N_isOfDay_9 rfl rfl ?_
  refine nk_bipush (v := 10) C zd_N_isOfDay_10 (by decide) ?_
  refine nk_icmp_lt (tgt := 25) C zd_N_isOfDay_12 (by decide) ?_ ?_
  · refine nk_wk [false] ?_
    exact zs_N_isOfDay_b25 C hR hr m0
  · refine nk_iload_n C zd_N_isOfDay_15 rfl rfl ?_
    refine nk_bipush (v := 18) C zd_N_isOfDay_16 (by decide) ?_
    refine nk_icmp_ge (tgt := 25) C zd_N_isOfDay_18 (by decide) ?_ ?_
    · refine nk_wk [false] ?_
      exact zs_N_isOfDay_b25 C hR hr m0
    · refine nk_wk [false] ?_
      exact zs_N_isOfDay_b21 C hR hr m0
def zf_N_isOfDay  (a1 : Int32) (m0 : nk_M) : Option (Int32 × nk_M) := (if a1 < 0 then (zf_N_isOfDay_b9 a1 m0) else (if a1 ≤ (4 : Int32) then (zf_N_isOfDay_b21 m0) else (zf_N_isOfDay_b9 a1 m0)))
set_option maxHeartbeats 4000000 in
set_option maxRecDepth 100000 in
theorem zc_N_isOfDay {l : Launch} {G : nk_V}   (a1 : Int32) (m0 : nk_M) : nk_Ct l nk_wC G 1 zy_N_isOfDay zb_N_isOfDay 1 (some .boolean) nk_oi [.int a1] m0 (zf_N_isOfDay  a1 m0) := by
  refine nk_ent (own := "NeedOnce") (lv := [.int a1]) 0 rfl (by decide) (Nat.le_of_ble_eq_true rfl) rfl (fun X hl hR C hr => ?_)
  subst hl
  unfold zf_N_isOfDay
  refine nk_iload_n C zd_N_isOfDay_0 rfl rfl ?_
  refine nk_if_lt (tgt := 9) C zd_N_isOfDay_1 (by decide) ?_ ?_
  · exact zs_N_isOfDay_b9 C hR hr a1 m0
  · refine nk_iload_n C zd_N_isOfDay_4 rfl rfl ?_
    refine nk_iconst (v := 4) C zd_N_isOfDay_5 (by decide) ?_
    refine nk_icmp_le (tgt := 21) C zd_N_isOfDay_6 (by decide) ?_ ?_
    · refine nk_wk [false] ?_
      exact zs_N_isOfDay_b21 C hR hr m0
    · exact zs_N_isOfDay_b9 C hR hr a1 m0
theorem zd_N_isAct_0 : decode zb_N_isAct 0 = .ok (.iload_n 1, 1) := by decide +kernel
theorem zd_N_isAct_1 : decode zb_N_isAct 1 = .ok (.bipush 10, 2) := by decide +kernel
theorem zd_N_isAct_3 : decode zb_N_isAct 3 = .ok (.if_icmp .lt 26, 3) := by decide +kernel
theorem zd_N_isAct_6 : decode zb_N_isAct 6 = .ok (.iload_n 1, 1) := by decide +kernel
theorem zd_N_isAct_7 : decode zb_N_isAct 7 = .ok (.bipush 18, 2) := by decide +kernel
theorem zd_N_isAct_9 : decode zb_N_isAct 9 = .ok (.if_icmp .ge 20, 3) := by decide +kernel
theorem zd_N_isAct_12 : decode zb_N_isAct 12 = .ok (.iload_n 0, 1) := by decide +kernel
theorem zd_N_isAct_13 : decode zb_N_isAct 13 = .ok (.iconst 1, 1) := by decide +kernel
theorem zd_N_isAct_14 : decode zb_N_isAct 14 = .ok (.if_icmp .lt 13, 3) := by decide +kernel
theorem zd_N_isAct_17 : decode zb_N_isAct 17 = .ok (.iload_n 0, 1) := by decide +kernel
theorem zd_N_isAct_18 : decode zb_N_isAct 18 = .ok (.bipush 9, 2) := by decide +kernel
theorem zd_N_isAct_20 : decode zb_N_isAct 20 = .ok (.if_icmp .gt 7, 3) := by decide +kernel
theorem zd_N_isAct_23 : decode zb_N_isAct 23 = .ok (.iconst 1, 1) := by decide +kernel
theorem zd_N_isAct_24 : decode zb_N_isAct 24 = .ok (.goto 4, 3) := by decide +kernel
theorem zd_N_isAct_27 : decode zb_N_isAct 27 = .ok (.iconst 0, 1) := by decide +kernel
theorem zd_N_isAct_28 : decode zb_N_isAct 28 = .ok (.ireturn, 1) := by decide +kernel
theorem zd_N_isAct_29 : decode zb_N_isAct 29 = .ok (.iload_n 1, 1) := by decide +kernel
theorem zd_N_isAct_30 : decode zb_N_isAct 30 = .ok (.ifCond .lt 13, 3) := by decide +kernel
theorem zd_N_isAct_33 : decode zb_N_isAct 33 = .ok (.iload_n 1, 1) := by decide +kernel
theorem zd_N_isAct_34 : decode zb_N_isAct 34 = .ok (.bipush 8, 2) := by decide +kernel
theorem zd_N_isAct_36 : decode zb_N_isAct 36 = .ok (.if_icmp .ge 7, 3) := by decide +kernel
theorem zd_N_isAct_39 : decode zb_N_isAct 39 = .ok (.iconst 1, 1) := by decide +kernel
theorem zd_N_isAct_40 : decode zb_N_isAct 40 = .ok (.goto 4, 3) := by decide +kernel
theorem zd_N_isAct_43 : decode zb_N_isAct 43 = .ok (.iconst 0, 1) := by decide +kernel
theorem zd_N_isAct_44 : decode zb_N_isAct 44 = .ok (.istore_n 2, 1) := by decide +kernel
theorem zd_N_isAct_45 : decode zb_N_isAct 45 = .ok (.iload_n 0, 1) := by decide +kernel
theorem zd_N_isAct_46 : decode zb_N_isAct 46 = .ok (.ifCond .ne 23, 3) := by decide +kernel
theorem zd_N_isAct_49 : decode zb_N_isAct 49 = .ok (.iload_n 2, 1) := by decide +kernel
theorem zd_N_isAct_50 : decode zb_N_isAct 50 = .ok (.ifCond .ne 15, 3) := by decide +kernel
theorem zd_N_isAct_53 : decode zb_N_isAct 53 = .ok (.iload_n 1, 1) := by decide +kernel
theorem zd_N_isAct_54 : decode zb_N_isAct 54 = .ok (.bipush 20, 2) := by decide +kernel
theorem zd_N_isAct_56 : decode zb_N_isAct 56 = .ok (.if_icmp .eq 9, 3) := by decide +kernel
theorem zd_N_isAct_59 : decode zb_N_isAct 59 = .ok (.iload_n 1, 1) := by decide +kernel
theorem zd_N_isAct_60 : decode zb_N_isAct 60 = .ok (.bipush 21, 2) := by decide +kernel
theorem zd_N_isAct_62 : decode zb_N_isAct 62 = .ok (.if_icmp .ne 7, 3) := by decide +kernel
theorem zd_N_isAct_65 : decode zb_N_isAct 65 = .ok (.iconst 1, 1) := by decide +kernel
theorem zd_N_isAct_66 : decode zb_N_isAct 66 = .ok (.goto 4, 3) := by decide +kernel
theorem zd_N_isAct_69 : decode zb_N_isAct 69 = .ok (.iconst 0, 1) := by decide +kernel
theorem zd_N_isAct_70 : decode zb_N_isAct 70 = .ok (.ireturn, 1) := by decide +kernel
def zf_N_isAct_b70  (u0 : Int32) (m0 : nk_M) : Option (Int32 × nk_M) := nk_zr u0 m0
set_option maxHeartbeats 4000000 in
set_option maxRecDepth 100000 in
theorem zs_N_isAct_b70 {G : nk_V} {X : nk_X}   (C : nk_C "NeedOnce" zb_N_isAct 3 nk_wC G X) (hR : X.2.2.2.1 = nk_rm 1) (hr : X.2.2.2.2.2.2.2.2.1.sig.returnType = (some .boolean))  : ∀ (u0 : Int32) (m0 : nk_M), nk_Sim nk_wC G X 3 nk_oi 70 [.null, .null, .null] [.int u0] m0 (zf_N_isAct_b70 u0 m0) := by
  intro u0 m0
  unfold zf_N_isAct_b70
  exact nk_zret C hr zd_N_isAct_70
def zf_N_isAct_b69   (m0 : nk_M) : Option (Int32 × nk_M) := (zf_N_isAct_b70 (0 : Int32) m0)
set_option maxHeartbeats 4000000 in
set_option maxRecDepth 100000 in
theorem zs_N_isAct_b69 {G : nk_V} {X : nk_X}   (C : nk_C "NeedOnce" zb_N_isAct 3 nk_wC G X) (hR : X.2.2.2.1 = nk_rm 1) (hr : X.2.2.2.2.2.2.2.2.1.sig.returnType = (some .boolean))  : ∀  (m0 : nk_M), nk_Sim nk_wC G X 3 nk_oi 69 [.null, .null, .null] [] m0 (zf_N_isAct_b69  m0) := by
  intro m0
  unfold zf_N_isAct_b69
  refine nk_iconst (v := 0) C zd_N_isAct_69 (by decide) ?_
  exact zs_N_isAct_b70 C hR hr (0 : Int32) m0
def zf_N_isAct_b65   (m0 : nk_M) : Option (Int32 × nk_M) := (zf_N_isAct_b70 (1 : Int32) m0)
set_option maxHeartbeats 4000000 in
set_option maxRecDepth 100000 in
theorem zs_N_isAct_b65 {G : nk_V} {X : nk_X}   (C : nk_C "NeedOnce" zb_N_isAct 3 nk_wC G X) (hR : X.2.2.2.1 = nk_rm 1) (hr : X.2.2.2.2.2.2.2.2.1.sig.returnType = (some .boolean))  : ∀  (m0 : nk_M), nk_Sim nk_wC G X 3 nk_oi 65 [.null, .null, .null] [] m0 (zf_N_isAct_b65  m0) := by
  intro m0
  unfold zf_N_isAct_b65
  refine nk_iconst (v := 1) C zd_N_isAct_65 (by decide) ?_
  refine nk_goto (tgt := 70) C zd_N_isAct_66 (by decide) ?_
  exact zs_N_isAct_b70 C hR hr (1 : Int32) m0
def zf_N_isAct_b44  (y0 : Int32) (y1 : Int32) (u0 : Int32) (m0 : nk_M) : Option (Int32 × nk_M) := (if y0 = 0 then (if u0 = 0 then (if y1 = (20 : Int32) then (zf_N_isAct_b65 m0) else (if y1 = (21 : Int32) then (zf_N_isAct_b65 m0) else (zf_N_isAct_b69 m0))) else (zf_N_isAct_b65 m0)) else (zf_N_isAct_b69 m0))
set_option maxHeartbeats 4000000 in
set_option maxRecDepth 100000 in
theorem zs_N_isAct_b44 {G : nk_V} {X : nk_X}   (C : nk_C "NeedOnce" zb_N_isAct 3 nk_wC G X) (hR : X.2.2.2.1 = nk_rm 1) (hr : X.2.2.2.2.2.2.2.2.1.sig.returnType = (some .boolean))  : ∀ (y0 : Int32) (y1 : Int32) (u0 : Int32) (m0 : nk_M), nk_Sim nk_wC G X 3 nk_oi 44 [.int y0, .int y1, .null] [.int u0] m0 (zf_N_isAct_b44 y0 y1 u0 m0) := by
  intro y0 y1 u0 m0
  unfold zf_N_isAct_b44
  refine nk_istore_n C zd_N_isAct_44 rfl (Nat.le_of_ble_eq_true rfl) rfl ?_
  refine nk_iload_n C zd_N_isAct_45 rfl rfl ?_
  refine nk_if_ne (tgt := 69) C zd_N_isAct_46 (by decide) ?_ ?_
  · refine nk_wk [false, false, false] ?_
    exact zs_N_isAct_b69 C hR hr m0
  · refine nk_iload_n C zd_N_isAct_49 rfl rfl ?_
    refine nk_if_ne (tgt := 65) C zd_N_isAct_50 (by decide) ?_ ?_
    · refine nk_wk [false, false, false] ?_
      exact zs_N_isAct_b65 C hR hr m0
    · refine nk_iload_n C zd_N_isAct_53 rfl rfl ?_
      refine nk_bipush (v := 20) C zd_N_isAct_54 (by decide) ?_
      refine nk_icmp_eq (tgt := 65) C zd_N_isAct_56 (by decide) ?_ ?_
      · refine nk_wk [false, false, false] ?_
        exact zs_N_isAct_b65 C hR hr m0
      · refine nk_iload_n C zd_N_isAct_59 rfl rfl ?_
        refine nk_bipush (v := 21) C zd_N_isAct_60 (by decide) ?_
        refine nk_icmp_ne (tgt := 69) C zd_N_isAct_62 (by decide) ?_ ?_
        · refine nk_wk [false, false, false] ?_
          exact zs_N_isAct_b69 C hR hr m0
        · refine nk_wk [false, false, false] ?_
          exact zs_N_isAct_b65 C hR hr m0
def zf_N_isAct_b43  (y0 : Int32) (y1 : Int32) (m0 : nk_M) : Option (Int32 × nk_M) := (zf_N_isAct_b44 y0 y1 (0 : Int32) m0)
set_option maxHeartbeats 4000000 in
set_option maxRecDepth 100000 in
theorem zs_N_isAct_b43 {G : nk_V} {X : nk_X}   (C : nk_C "NeedOnce" zb_N_isAct 3 nk_wC G X) (hR : X.2.2.2.1 = nk_rm 1) (hr : X.2.2.2.2.2.2.2.2.1.sig.returnType = (some .boolean))  : ∀ (y0 : Int32) (y1 : Int32) (m0 : nk_M), nk_Sim nk_wC G X 3 nk_oi 43 [.int y0, .int y1, .null] [] m0 (zf_N_isAct_b43 y0 y1 m0) := by
  intro y0 y1 m0
  unfold zf_N_isAct_b43
  refine nk_iconst (v := 0) C zd_N_isAct_43 (by decide) ?_
  exact zs_N_isAct_b44 C hR hr y0 y1 (0 : Int32) m0
def zf_N_isAct_b29  (y0 : Int32) (y1 : Int32) (m0 : nk_M) : Option (Int32 × nk_M) := (if y1 < 0 then (zf_N_isAct_b43 y0 y1 m0) else (if (8 : Int32) ≤ y1 then (zf_N_isAct_b43 y0 y1 m0) else (zf_N_isAct_b44 y0 y1 (1 : Int32) m0)))
set_option maxHeartbeats 4000000 in
set_option maxRecDepth 100000 in
theorem zs_N_isAct_b29 {G : nk_V} {X : nk_X}   (C : nk_C "NeedOnce" zb_N_isAct 3 nk_wC G X) (hR : X.2.2.2.1 = nk_rm 1) (hr : X.2.2.2.2.2.2.2.2.1.sig.returnType = (some .boolean))  : ∀ (y0 : Int32) (y1 : Int32) (m0 : nk_M), nk_Sim nk_wC G X 3 nk_oi 29 [.int y0, .int y1, .null] [] m0 (zf_N_isAct_b29 y0 y1 m0) := by
  intro y0 y1 m0
  unfold zf_N_isAct_b29
  refine nk_iload_n C zd_N_isAct_29 rfl rfl ?_
  refine nk_if_lt (tgt := 43) C zd_N_isAct_30 (by decide) ?_ ?_
  · exact zs_N_isAct_b43 C hR hr y0 y1 m0
  · refine nk_iload_n C zd_N_isAct_33 rfl rfl ?_
    refine nk_bipush (v := 8) C zd_N_isAct_34 (by decide) ?_
    refine nk_icmp_ge (tgt := 43) C zd_N_isAct_36 (by decide) ?_ ?_
    · exact zs_N_isAct_b43 C hR hr y0 y1 m0
    · refine nk_iconst (v := 1) C zd_N_isAct_39 (by decide) ?_
      refine nk_goto (tgt := 44) C zd_N_isAct_40 (by decide) ?_
      exact zs_N_isAct_b44 C hR hr y0 y1 (1 : Int32) m0
def zf_N_isAct_b28  (u0 : Int32) (m0 : nk_M) : Option (Int32 × nk_M) := nk_zr u0 m0
set_option maxHeartbeats 4000000 in
set_option maxRecDepth 100000 in
theorem zs_N_isAct_b28 {G : nk_V} {X : nk_X}   (C : nk_C "NeedOnce" zb_N_isAct 3 nk_wC G X) (hR : X.2.2.2.1 = nk_rm 1) (hr : X.2.2.2.2.2.2.2.2.1.sig.returnType = (some .boolean))  : ∀ (u0 : Int32) (m0 : nk_M), nk_Sim nk_wC G X 3 nk_oi 28 [.null, .null, .null] [.int u0] m0 (zf_N_isAct_b28 u0 m0) := by
  intro u0 m0
  unfold zf_N_isAct_b28
  exact nk_zret C hr zd_N_isAct_28
def zf_N_isAct_b27   (m0 : nk_M) : Option (Int32 × nk_M) := (zf_N_isAct_b28 (0 : Int32) m0)
set_option maxHeartbeats 4000000 in
set_option maxRecDepth 100000 in
theorem zs_N_isAct_b27 {G : nk_V} {X : nk_X}   (C : nk_C "NeedOnce" zb_N_isAct 3 nk_wC G X) (hR : X.2.2.2.1 = nk_rm 1) (hr : X.2.2.2.2.2.2.2.2.1.sig.returnType = (some .boolean))  : ∀  (m0 : nk_M), nk_Sim nk_wC G X 3 nk_oi 27 [.null, .null, .null] [] m0 (zf_N_isAct_b27  m0) := by
  intro m0
  unfold zf_N_isAct_b27
  refine nk_iconst (v := 0) C zd_N_isAct_27 (by decide) ?_
  exact zs_N_isAct_b28 C hR hr (0 : Int32) m0
def zf_N_isAct  (a1 : Int32) (a2 : Int32) (m0 : nk_M) : Option (Int32 × nk_M) := (if a2 < (10 : Int32) then (zf_N_isAct_b29 a1 a2 m0) else (if (18 : Int32) ≤ a2 then (zf_N_isAct_b29 a1 a2 m0) else (if a1 < (1 : Int32) then (zf_N_isAct_b27 m0) else (if (9 : Int32) < a1 then (zf_N_isAct_b27 m0) else (zf_N_isAct_b28 (1 : Int32) m0)))))
set_option maxHeartbeats 4000000 in
set_option maxRecDepth 100000 in
theorem zc_N_isAct {l : Launch} {G : nk_V}   (a1 : Int32) (a2 : Int32) (m0 : nk_M) : nk_Ct l nk_wC G 1 zy_N_isAct zb_N_isAct 3 (some .boolean) nk_oi [.int a1, .int a2] m0 (zf_N_isAct  a1 a2 m0) := by
  refine nk_ent (own := "NeedOnce") (lv := [.int a1, .int a2, .null]) 1 rfl (by decide) (Nat.le_of_ble_eq_true rfl) rfl (fun X hl hR C hr => ?_)
  subst hl
  unfold zf_N_isAct
  refine nk_iload_n C zd_N_isAct_0 rfl rfl ?_
  refine nk_bipush (v := 10) C zd_N_isAct_1 (by decide) ?_
  refine nk_icmp_lt (tgt := 29) C zd_N_isAct_3 (by decide) ?_ ?_
  · exact zs_N_isAct_b29 C hR hr a1 a2 m0
  · refine nk_iload_n C zd_N_isAct_6 rfl rfl ?_
    refine nk_bipush (v := 18) C zd_N_isAct_7 (by decide) ?_
    refine nk_icmp_ge (tgt := 29) C zd_N_isAct_9 (by decide) ?_ ?_
    · exact zs_N_isAct_b29 C hR hr a1 a2 m0
    · refine nk_iload_n C zd_N_isAct_12 rfl rfl ?_
      refine nk_iconst (v := 1) C zd_N_isAct_13 (by decide) ?_
      refine nk_icmp_lt (tgt := 27) C zd_N_isAct_14 (by decide) ?_ ?_
      · refine nk_wk [false, false, false] ?_
        exact zs_N_isAct_b27 C hR hr m0
      · refine nk_iload_n C zd_N_isAct_17 rfl rfl ?_
        refine nk_bipush (v := 9) C zd_N_isAct_18 (by decide) ?_
        refine nk_icmp_gt (tgt := 27) C zd_N_isAct_20 (by decide) ?_ ?_
        · refine nk_wk [false, false, false] ?_
          exact zs_N_isAct_b27 C hR hr m0
        · refine nk_iconst (v := 1) C zd_N_isAct_23 (by decide) ?_
          refine nk_goto (tgt := 28) C zd_N_isAct_24 (by decide) ?_
          refine nk_wk [false, false, false] ?_
          exact zs_N_isAct_b28 C hR hr (1 : Int32) m0
theorem zd_N_areActs_0 : decode zb_N_areActs 0 = .ok (.iconst 0, 1) := by decide +kernel
theorem zd_N_areActs_1 : decode zb_N_areActs 1 = .ok (.istore 4, 2) := by decide +kernel
theorem zd_N_areActs_3 : decode zb_N_areActs 3 = .ok (.iload 4, 2) := by decide +kernel
theorem zd_N_areActs_5 : decode zb_N_areActs 5 = .ok (.iload_n 3, 1) := by decide +kernel
theorem zd_N_areActs_6 : decode zb_N_areActs 6 = .ok (.if_icmp .ge 47, 3) := by decide +kernel
theorem zd_N_areActs_9 : decode zb_N_areActs 9 = .ok (.iload_n 2, 1) := by decide +kernel
theorem zd_N_areActs_10 : decode zb_N_areActs 10 = .ok (.iconst 2, 1) := by decide +kernel
theorem zd_N_areActs_11 : decode zb_N_areActs 11 = .ok (.iload 4, 2) := by decide +kernel
theorem zd_N_areActs_13 : decode zb_N_areActs 13 = .ok (.imul, 1) := by decide +kernel
theorem zd_N_areActs_14 : decode zb_N_areActs 14 = .ok (.iadd, 1) := by decide +kernel
theorem zd_N_areActs_15 : decode zb_N_areActs 15 = .ok (.istore 5, 2) := by decide +kernel
theorem zd_N_areActs_17 : decode zb_N_areActs 17 = .ok (.aload_n 0, 1) := by decide +kernel
theorem zd_N_areActs_18 : decode zb_N_areActs 18 = .ok (.getfield 38, 3) := by decide +kernel
theorem zd_N_areActs_21 : decode zb_N_areActs 21 = .ok (.iload_n 1, 1) := by decide +kernel
theorem zd_N_areActs_22 : decode zb_N_areActs 22 = .ok (.iload 5, 2) := by decide +kernel
theorem zd_N_areActs_24 : decode zb_N_areActs 24 = .ok (.invokevirtual 157, 3) := by decide +kernel
theorem zd_N_areActs_27 : decode zb_N_areActs 27 = .ok (.aload_n 0, 1) := by decide +kernel
theorem zd_N_areActs_28 : decode zb_N_areActs 28 = .ok (.getfield 38, 3) := by decide +kernel
theorem zd_N_areActs_31 : decode zb_N_areActs 31 = .ok (.iload_n 1, 1) := by decide +kernel
theorem zd_N_areActs_32 : decode zb_N_areActs 32 = .ok (.iload 5, 2) := by decide +kernel
theorem zd_N_areActs_34 : decode zb_N_areActs 34 = .ok (.iconst 1, 1) := by decide +kernel
theorem zd_N_areActs_35 : decode zb_N_areActs 35 = .ok (.iadd, 1) := by decide +kernel
theorem zd_N_areActs_36 : decode zb_N_areActs 36 = .ok (.invokevirtual 157, 3) := by decide +kernel
theorem zd_N_areActs_39 : decode zb_N_areActs 39 = .ok (.invokestatic 160, 3) := by decide +kernel
theorem zd_N_areActs_42 : decode zb_N_areActs 42 = .ok (.ifCond .ne 5, 3) := by decide +kernel
theorem zd_N_areActs_45 : decode zb_N_areActs 45 = .ok (.iconst 0, 1) := by decide +kernel
theorem zd_N_areActs_46 : decode zb_N_areActs 46 = .ok (.ireturn, 1) := by decide +kernel
theorem zd_N_areActs_47 : decode zb_N_areActs 47 = .ok (.iinc 4 1, 3) := by decide +kernel
theorem zd_N_areActs_50 : decode zb_N_areActs 50 = .ok (.goto (-47), 3) := by decide +kernel
theorem zd_N_areActs_53 : decode zb_N_areActs 53 = .ok (.iconst 1, 1) := by decide +kernel
theorem zd_N_areActs_54 : decode zb_N_areActs 54 = .ok (.ireturn, 1) := by decide +kernel
def zf_N_areActs_b3  : Nat → Int32 → Int32 → Int32 → Int32 → nk_M → Option (Int32 × nk_M)
  | 0, _, _, _, _, _ => none
  | n0 + 1, y1, y2, y3, y4, m0 => (if y3 ≤ y4 then nk_zr (1 : Int32) m0 else nk_nm (y2 + ((2 : Int32) * y4)) (fun x1 => nk_bd (zf_S_at y1 x1 m0) (fun r2 m1 => nk_bd (zf_S_at y1 (x1 + (1 : Int32)) m1) (fun r3 m2 => nk_bd (zf_N_isAct r2 r3 m2) (fun r4 m3 => (if r4 = 0 then nk_zr (0 : Int32) m3 else (zf_N_areActs_b3 n0 y1 y2 y3 (y4 + 1) m3)))))))
set_option maxHeartbeats 4000000 in
set_option maxRecDepth 100000 in
theorem zs_N_areActs_b3 {G : nk_V} {X : nk_X}   (C : nk_C "NeedOnce" zb_N_areActs 6 nk_wC G X) (hR : X.2.2.2.1 = nk_rm 2) (hr : X.2.2.2.2.2.2.2.2.1.sig.returnType = (some .boolean))  : ∀ (n0 : Nat) (y1 : Int32) (y2 : Int32) (y3 : Int32) (y4 : Int32) (m0 : nk_M), nk_Sim nk_wC G X 6 nk_oi 3 [nk_r G 0, .int y1, .int y2, .int y3, .int y4, .null] [] m0 (zf_N_areActs_b3 n0 y1 y2 y3 y4 m0) := by
  intro n0
  induction n0 with
  | zero => intros; exact nk_none
  | succ n0 ih =>
    intro y1 y2 y3 y4 m0
    rw [zf_N_areActs_b3]
    refine nk_iload C zd_N_areActs_3 rfl ?_
    refine nk_iload_n C zd_N_areActs_5 rfl rfl ?_
    refine nk_icmp_ge (tgt := 53) C zd_N_areActs_6 (by decide) ?_ ?_
    · refine nk_iconst (v := 1) C zd_N_areActs_53 (by decide) ?_
      exact nk_zret C hr zd_N_areActs_54
    · refine nk_iload_n C zd_N_areActs_9 rfl rfl ?_
      refine nk_iconst (v := 2) C zd_N_areActs_10 (by decide) ?_
      refine nk_iload C zd_N_areActs_11 rfl ?_
      refine nk_imul C zd_N_areActs_13 ?_
      refine nk_iadd C zd_N_areActs_14 ?_
      refine nk_named (fun x1 => ?_)
      refine nk_istore C zd_N_areActs_15 (Nat.le_of_ble_eq_true rfl) rfl ?_
      refine nk_aload_n C zd_N_areActs_17 rfl rfl ?_
      refine nk_getR C (r := 5) za_N_38 (Nat.le_of_ble_eq_true rfl) rfl rfl zd_N_areActs_18 ?_
      refine nk_iload_n C zd_N_areActs_21 rfl rfl ?_
      refine nk_iload C zd_N_areActs_22 rfl ?_
      refine nk_callVi C [.int y1, .int x1] zv_N_157 hR (zc_S_at y1 x1 m0) (by omega) (Nat.le_of_ble_eq_true rfl) rfl rfl rfl rfl (Nat.le_of_ble_eq_true rfl) zd_N_areActs_24 (fun r2 m1 => ?_)
      refine nk_aload_n C zd_N_areActs_27 rfl rfl ?_
      refine nk_getR C (r := 5) za_N_38 (Nat.le_of_ble_eq_true rfl) rfl rfl zd_N_areActs_28 ?_
      refine nk_iload_n C zd_N_areActs_31 rfl rfl ?_
      refine nk_iload C zd_N_areActs_32 rfl ?_
      refine nk_iconst (v := 1) C zd_N_areActs_34 (by decide) ?_
      refine nk_iadd C zd_N_areActs_35 ?_
      refine nk_callVi C [.int y1, .int (x1 + (1 : Int32))] zv_N_157 hR (zc_S_at y1 (x1 + (1 : Int32)) m1) (by omega) (Nat.le_of_ble_eq_true rfl) rfl rfl rfl rfl (Nat.le_of_ble_eq_true rfl) zd_N_areActs_36 (fun r3 m2 => ?_)
      refine nk_callSi C [.int r2, .int r3] zv_N_160 hR (zc_N_isAct r2 r3 m2) (by omega) rfl rfl (Nat.le_of_ble_eq_true rfl) zd_N_areActs_39 (fun r4 m3 => ?_)
      refine nk_if_ne (tgt := 47) C zd_N_areActs_42 (by decide) ?_ ?_
      · refine nk_iinc (v0 := y4 + 1) C zd_N_areActs_47 rfl (nk_inc _ (by decide)) (Nat.le_of_ble_eq_true rfl) rfl ?_
        refine nk_goto (tgt := 3) C zd_N_areActs_50 (by decide) ?_
        refine nk_wk [true, true, true, true, true, false] ?_
        exact ih y1 y2 y3 (y4 + 1) m3
      · refine nk_iconst (v := 0) C zd_N_areActs_45 (by decide) ?_
        exact nk_zret C hr zd_N_areActs_46
def zf_N_areActs  (a1 : Int32) (a2 : Int32) (a3 : Int32) (m0 : nk_M) : Option (Int32 × nk_M) := (zf_N_areActs_b3 nk_fu a1 a2 a3 (0 : Int32) m0)
set_option maxHeartbeats 4000000 in
set_option maxRecDepth 100000 in
theorem zc_N_areActs {l : Launch} {G : nk_V}   (a1 : Int32) (a2 : Int32) (a3 : Int32) (m0 : nk_M) : nk_Ct l nk_wC G 2 zy_N_areActs zb_N_areActs 6 (some .boolean) nk_oi [nk_r G 0, .int a1, .int a2, .int a3] m0 (zf_N_areActs  a1 a2 a3 m0) := by
  refine nk_ent (own := "NeedOnce") (lv := [nk_r G 0, .int a1, .int a2, .int a3, .null, .null]) 2 rfl (by decide) (Nat.le_of_ble_eq_true rfl) rfl (fun X hl hR C hr => ?_)
  subst hl
  unfold zf_N_areActs
  refine nk_iconst (v := 0) C zd_N_areActs_0 (by decide) ?_
  refine nk_istore C zd_N_areActs_1 (Nat.le_of_ble_eq_true rfl) rfl ?_
  exact zs_N_areActs_b3 C hR hr nk_fu a1 a2 a3 (0 : Int32) m0

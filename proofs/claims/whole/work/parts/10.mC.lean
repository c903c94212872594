/-! ===== 10: decode rows, meanings (zf_) and contracts (zc_) of methods (written by program) ===== -/
theorem zd_N_commonWithTen_0 : decode zb_N_commonWithTen 0 = .ok (.iconst 1, 1) := by decide +kernel
theorem zd_N_commonWithTen_1 : decode zb_N_commonWithTen 1 = .ok (.istore_n 1, 1) := by decide +kernel
theorem zd_N_commonWithTen_2 : decode zb_N_commonWithTen 2 = .ok (.iconst 2, 1) := by decide +kernel
theorem zd_N_commonWithTen_3 : decode zb_N_commonWithTen 3 = .ok (.istore_n 2, 1) := by decide +kernel
theorem zd_N_commonWithTen_4 : decode zb_N_commonWithTen 4 = .ok (.iload_n 2, 1) := by decide +kernel
theorem zd_N_commonWithTen_5 : decode zb_N_commonWithTen 5 = .ok (.bipush 10, 2) := by decide +kernel
theorem zd_N_commonWithTen_7 : decode zb_N_commonWithTen 7 = .ok (.if_icmp .gt 24, 3) := by decide +kernel
theorem zd_N_commonWithTen_10 : decode zb_N_commonWithTen 10 = .ok (.bipush 10, 2) := by decide +kernel
theorem zd_N_commonWithTen_12 : decode zb_N_commonWithTen 12 = .ok (.iload_n 2, 1) := by decide +kernel
theorem zd_N_commonWithTen_13 : decode zb_N_commonWithTen 13 = .ok (.irem, 1) := by decide +kernel
theorem zd_N_commonWithTen_14 : decode zb_N_commonWithTen 14 = .ok (.ifCond .ne 11, 3) := by decide +kernel
theorem zd_N_commonWithTen_17 : decode zb_N_commonWithTen 17 = .ok (.iload_n 0, 1) := by decide +kernel
theorem zd_N_commonWithTen_18 : decode zb_N_commonWithTen 18 = .ok (.iload_n 2, 1) := by decide +kernel
theorem zd_N_commonWithTen_19 : decode zb_N_commonWithTen 19 = .ok (.irem, 1) := by decide +kernel
theorem zd_N_commonWithTen_20 : decode zb_N_commonWithTen 20 = .ok (.ifCond .ne 5, 3) := by decide +kernel
theorem zd_N_commonWithTen_23 : decode zb_N_commonWithTen 23 = .ok (.iload_n 2, 1) := by decide +kernel
theorem zd_N_commonWithTen_24 : decode zb_N_commonWithTen 24 = .ok (.istore_n 1, 1) := by decide +kernel
theorem zd_N_commonWithTen_25 : decode zb_N_commonWithTen 25 = .ok (.iinc 2 1, 3) := by decide +kernel
theorem zd_N_commonWithTen_28 : decode zb_N_commonWithTen 28 = .ok (.goto (-24), 3) := by decide +kernel
theorem zd_N_commonWithTen_31 : decode zb_N_commonWithTen 31 = .ok (.iload_n 1, 1) := by decide +kernel
theorem zd_N_commonWithTen_32 : decode zb_N_commonWithTen 32 = .ok (.ireturn, 1) := by decide +kernel
def zf_N_commonWithTen_b25 (rc4 : Int32 → Int32 → Int32 → nk_M → Option (Int32 × nk_M)) (y0 : Int32) (y1 : Int32) (y2 : Int32) (m0 : nk_M) : Option (Int32 × nk_M) := (rc4 y0 y1 (y2 + 1) m0)
set_option maxHeartbeats 4000000 in
set_option maxRecDepth 100000 in
theorem zs_N_commonWithTen_b25 {G : nk_V} {X : nk_X}   (C : nk_C "NeedOnce" zb_N_commonWithTen 3 nk_wC G X) (hR : X.2.2.2.1 = nk_rm 1) (hr : X.2.2.2.2.2.2.2.2.1.sig.returnType = (some .int)) (rc4 : Int32 → Int32 → Int32 → nk_M → Option (Int32 × nk_M)) (hr4 : ∀ (y0 : Int32) (y1 : Int32) (y2 : Int32) (m0 : nk_M), nk_Sim nk_wC G X 3 nk_oi 4 [.int y0, .int y1, .int y2] [] m0 (rc4 y0 y1 y2 m0)) : ∀ (y0 : Int32) (y1 : Int32) (y2 : Int32) (m0 : nk_M), nk_Sim nk_wC G X 3 nk_oi 25 [.int y0, .int y1, .int y2] [] m0 (zf_N_commonWithTen_b25 rc4 y0 y1 y2 m0) := by
  intro y0 y1 y2 m0
  unfold zf_N_commonWithTen_b25
  refine nk_iinc (v0 := y2 + 1) C zd_N_commonWithTen_25 rfl (nk_inc _ (by decide)) (Nat.le_of_ble_eq_true rfl) rfl ?_
  refine nk_goto (tgt := 4) C zd_N_commonWithTen_28 (by decide) ?_
  exact hr4 y0 y1 (y2 + 1) m0
def zf_N_commonWithTen_b4  : Nat → Int32 → Int32 → Int32 → nk_M → Option (Int32 × nk_M)
  | 0, _, _, _, _ => none
  | n0 + 1, y0, y1, y2, m0 => (if (10 : Int32) < y2 then some (y1, m0) else nk_Direm (10 : Int32) y2 (fun x1 => (if x1 = 0 then nk_Direm y0 y2 (fun x2 => (if x2 = 0 then (zf_N_commonWithTen_b25 (zf_N_commonWithTen_b4 n0) y0 y2 y2 m0) else (zf_N_commonWithTen_b25 (zf_N_commonWithTen_b4 n0) y0 y1 y2 m0))) else (zf_N_commonWithTen_b25 (zf_N_commonWithTen_b4 n0) y0 y1 y2 m0))))
set_option maxHeartbeats 4000000 in
set_option maxRecDepth 100000 in
theorem zs_N_commonWithTen_b4 {G : nk_V} {X : nk_X}   (C : nk_C "NeedOnce" zb_N_commonWithTen 3 nk_wC G X) (hR : X.2.2.2.1 = nk_rm 1) (hr : X.2.2.2.2.2.2.2.2.1.sig.returnType = (some .int))  : ∀ (n0 : Nat) (y0 : Int32) (y1 : Int32) (y2 : Int32) (m0 : nk_M), nk_Sim nk_wC G X 3 nk_oi 4 [.int y0, .int y1, .int y2] [] m0 (zf_N_commonWithTen_b4 n0 y0 y1 y2 m0) := by
  intro n0
  induction n0 with
  | zero => intros; exact nk_none
  | succ n0 ih =>
    intro y0 y1 y2 m0
    rw [zf_N_commonWithTen_b4]
    refine nk_iload_n C zd_N_commonWithTen_4 rfl rfl ?_
    refine nk_bipush (v := 10) C zd_N_commonWithTen_5 (by decide) ?_
    refine nk_icmp_gt (tgt := 31) C zd_N_commonWithTen_7 (by decide) ?_ ?_
    · refine nk_iload_n C zd_N_commonWithTen_31 rfl rfl ?_
      exact nk_iret C hr zd_N_commonWithTen_32
    · refine nk_bipush (v := 10) C zd_N_commonWithTen_10 (by decide) ?_
      refine nk_iload_n C zd_N_commonWithTen_12 rfl rfl ?_
      refine nk_irem C zd_N_commonWithTen_13 (fun x1 => ?_)
      refine nk_if_ne (tgt := 25) C zd_N_commonWithTen_14 (by decide) ?_ ?_
      · exact zs_N_commonWithTen_b25 C hR hr (zf_N_commonWithTen_b4 n0) ih y0 y1 y2 m0
      · refine nk_iload_n C zd_N_commonWithTen_17 rfl rfl ?_
        refine nk_iload_n C zd_N_commonWithTen_18 rfl rfl ?_
        refine nk_irem C zd_N_commonWithTen_19 (fun x2 => ?_)
        refine nk_if_ne (tgt := 25) C zd_N_commonWithTen_20 (by decide) ?_ ?_
        · exact zs_N_commonWithTen_b25 C hR hr (zf_N_commonWithTen_b4 n0) ih y0 y1 y2 m0
        · refine nk_iload_n C zd_N_commonWithTen_23 rfl rfl ?_
          refine nk_istore_n C zd_N_commonWithTen_24 rfl (Nat.le_of_ble_eq_true rfl) rfl ?_
          exact zs_N_commonWithTen_b25 C hR hr (zf_N_commonWithTen_b4 n0) ih y0 y2 y2 m0
def zf_N_commonWithTen  (a1 : Int32) (m0 : nk_M) : Option (Int32 × nk_M) := (zf_N_commonWithTen_b4 nk_fu a1 (1 : Int32) (2 : Int32) m0)
set_option maxHeartbeats 4000000 in
set_option maxRecDepth 100000 in
theorem zc_N_commonWithTen {l : Launch} {G : nk_V}   (a1 : Int32) (m0 : nk_M) : nk_Ct l nk_wC G 1 zy_N_commonWithTen zb_N_commonWithTen 3 (some .int) nk_oi [.int a1] m0 (zf_N_commonWithTen  a1 m0) := by
  refine nk_ent (own := "NeedOnce") (lv := [.int a1, .null, .null]) 2 rfl (by decide) (Nat.le_of_ble_eq_true rfl) rfl (fun X hl hR C hr => ?_)
  subst hl
  unfold zf_N_commonWithTen
  refine nk_iconst (v := 1) C zd_N_commonWithTen_0 (by decide) ?_
  refine nk_istore_n C zd_N_commonWithTen_1 rfl (Nat.le_of_ble_eq_true rfl) rfl ?_
  refine nk_iconst (v := 2) C zd_N_commonWithTen_2 (by decide) ?_
  refine nk_istore_n C zd_N_commonWithTen_3 rfl (Nat.le_of_ble_eq_true rfl) rfl ?_
  exact zs_N_commonWithTen_b4 C hR hr nk_fu a1 (1 : Int32) (2 : Int32) m0
theorem zd_N_odds_0 : decode zb_N_odds 0 = .ok (.aload_n 0, 1) := by decide +kernel
theorem zd_N_odds_1 : decode zb_N_odds 1 = .ok (.getfield 12, 3) := by decide +kernel
theorem zd_N_odds_4 : decode zb_N_odds 4 = .ok (.iload_n 1, 1) := by decide +kernel
theorem zd_N_odds_5 : decode zb_N_odds 5 = .ok (.invokevirtual 80, 3) := by decide +kernel
theorem zd_N_odds_8 : decode zb_N_odds 8 = .ok (.ifCond .eq 14, 3) := by decide +kernel
theorem zd_N_odds_11 : decode zb_N_odds 11 = .ok (.aload_n 0, 1) := by decide +kernel
theorem zd_N_odds_12 : decode zb_N_odds 12 = .ok (.getfield 12, 3) := by decide +kernel
theorem zd_N_odds_15 : decode zb_N_odds 15 = .ok (.iload_n 2, 1) := by decide +kernel
theorem zd_N_odds_16 : decode zb_N_odds 16 = .ok (.invokevirtual 80, 3) := by decide +kernel
theorem zd_N_odds_19 : decode zb_N_odds 19 = .ok (.ifCond .ne 7, 3) := by decide +kernel
theorem zd_N_odds_22 : decode zb_N_odds 22 = .ok (.ldc2_w 177, 3) := by decide +kernel
theorem zd_N_odds_25 : decode zb_N_odds 25 = .ok (.lreturn, 1) := by decide +kernel
theorem zd_N_odds_26 : decode zb_N_odds 26 = .ok (.aload_n 0, 1) := by decide +kernel
theorem zd_N_odds_27 : decode zb_N_odds 27 = .ok (.getfield 12, 3) := by decide +kernel
theorem zd_N_odds_30 : decode zb_N_odds 30 = .ok (.getfield 179, 3) := by decide +kernel
theorem zd_N_odds_33 : decode zb_N_odds 33 = .ok (.iload_n 2, 1) := by decide +kernel
theorem zd_N_odds_34 : decode zb_N_odds 34 = .ok (.iaload, 1) := by decide +kernel
theorem zd_N_odds_35 : decode zb_N_odds 35 = .ok (.ifCond .eq 7, 3) := by decide +kernel
theorem zd_N_odds_38 : decode zb_N_odds 38 = .ok (.ldc2_w 177, 3) := by decide +kernel
theorem zd_N_odds_41 : decode zb_N_odds 41 = .ok (.lreturn, 1) := by decide +kernel
theorem zd_N_odds_42 : decode zb_N_odds 42 = .ok (.iload_n 3, 1) := by decide +kernel
theorem zd_N_odds_43 : decode zb_N_odds 43 = .ok (.ifCond .lt 20, 3) := by decide +kernel
theorem zd_N_odds_46 : decode zb_N_odds 46 = .ok (.iload_n 3, 1) := by decide +kernel
theorem zd_N_odds_47 : decode zb_N_odds 47 = .ok (.bipush 102, 2) := by decide +kernel
theorem zd_N_odds_49 : decode zb_N_odds 49 = .ok (.if_icmp .gt 14, 3) := by decide +kernel
theorem zd_N_odds_52 : decode zb_N_odds 52 = .ok (.iload 4, 2) := by decide +kernel
theorem zd_N_odds_54 : decode zb_N_odds 54 = .ok (.ifCond .lt 9, 3) := by decide +kernel
theorem zd_N_odds_57 : decode zb_N_odds 57 = .ok (.iload 4, 2) := by decide +kernel
theorem zd_N_odds_59 : decode zb_N_odds 59 = .ok (.iconst 1, 1) := by decide +kernel
theorem zd_N_odds_60 : decode zb_N_odds 60 = .ok (.if_icmp .le 7, 3) := by decide +kernel
theorem zd_N_odds_63 : decode zb_N_odds 63 = .ok (.ldc2_w 177, 3) := by decide +kernel
theorem zd_N_odds_66 : decode zb_N_odds 66 = .ok (.lreturn, 1) := by decide +kernel
theorem zd_N_odds_67 : decode zb_N_odds 67 = .ok (.aload_n 0, 1) := by decide +kernel
theorem zd_N_odds_68 : decode zb_N_odds 68 = .ok (.iload_n 1, 1) := by decide +kernel
theorem zd_N_odds_69 : decode zb_N_odds 69 = .ok (.iload_n 2, 1) := by decide +kernel
theorem zd_N_odds_70 : decode zb_N_odds 70 = .ok (.iload_n 3, 1) := by decide +kernel
theorem zd_N_odds_71 : decode zb_N_odds 71 = .ok (.invokevirtual 182, 3) := by decide +kernel
theorem zd_N_odds_74 : decode zb_N_odds 74 = .ok (.istore 5, 2) := by decide +kernel
theorem zd_N_odds_76 : decode zb_N_odds 76 = .ok (.iload 5, 2) := by decide +kernel
theorem zd_N_odds_78 : decode zb_N_odds 78 = .ok (.invokestatic 185, 3) := by decide +kernel
theorem zd_N_odds_81 : decode zb_N_odds 81 = .ok (.istore 6, 2) := by decide +kernel
theorem zd_N_odds_83 : decode zb_N_odds 83 = .ok (.iload 4, 2) := by decide +kernel
theorem zd_N_odds_85 : decode zb_N_odds 85 = .ok (.ifCond .ne 12, 3) := by decide +kernel
theorem zd_N_odds_88 : decode zb_N_odds 88 = .ok (.iload 5, 2) := by decide +kernel
theorem zd_N_odds_90 : decode zb_N_odds 90 = .ok (.iload 6, 2) := by decide +kernel
theorem zd_N_odds_92 : decode zb_N_odds 92 = .ok (.idiv, 1) := by decide +kernel
theorem zd_N_odds_93 : decode zb_N_odds 93 = .ok (.i2l, 1) := by decide +kernel
theorem zd_N_odds_94 : decode zb_N_odds 94 = .ok (.goto 9, 3) := by decide +kernel
theorem zd_N_odds_97 : decode zb_N_odds 97 = .ok (.bipush 10, 2) := by decide +kernel
theorem zd_N_odds_99 : decode zb_N_odds 99 = .ok (.iload 6, 2) := by decide +kernel
theorem zd_N_odds_101 : decode zb_N_odds 101 = .ok (.idiv, 1) := by decide +kernel
theorem zd_N_odds_102 : decode zb_N_odds 102 = .ok (.i2l, 1) := by decide +kernel
theorem zd_N_odds_103 : decode zb_N_odds 103 = .ok (.lreturn, 1) := by decide +kernel
def zf_N_odds_b22   (m0 : nk_M) : Option (Int64 × nk_M) := some ((-9223372036854775808 : Int64), m0)
set_option maxHeartbeats 4000000 in
set_option maxRecDepth 100000 in
theorem zs_N_odds_b22 {G : nk_V} {X : nk_X}   (C : nk_C "NeedOnce" zb_N_odds 7 nk_wC G X) (hR : X.2.2.2.1 = nk_rm 47) (hr : X.2.2.2.2.2.2.2.2.1.sig.returnType = (some .long))  : ∀  (m0 : nk_M), nk_Sim nk_wC G X 7 nk_ol 22 [nk_r G 0, .null, .null, .null, .null, .null, .null] [] m0 (zf_N_odds_b22  m0) := by
  intro m0
  unfold zf_N_odds_b22
  refine nk_ldc2 (v := -9223372036854775808) C zw_454 zd_N_odds_22 ?_
  exact nk_lret C hr zd_N_odds_25
def zf_N_odds_b63   (m0 : nk_M) : Option (Int64 × nk_M) := some ((-9223372036854775808 : Int64), m0)
set_option maxHeartbeats 4000000 in
set_option maxRecDepth 100000 in
theorem zs_N_odds_b63 {G : nk_V} {X : nk_X}   (C : nk_C "NeedOnce" zb_N_odds 7 nk_wC G X) (hR : X.2.2.2.1 = nk_rm 47) (hr : X.2.2.2.2.2.2.2.2.1.sig.returnType = (some .long))  : ∀  (m0 : nk_M), nk_Sim nk_wC G X 7 nk_ol 63 [nk_r G 0, .null, .null, .null, .null, .null, .null] [] m0 (zf_N_odds_b63  m0) := by
  intro m0
  unfold zf_N_odds_b63
  refine nk_ldc2 (v := -9223372036854775808) C zw_454 zd_N_odds_63 ?_
  exact nk_lret C hr zd_N_odds_66
def zf_N_odds_b103  (u0 : Int64) (m0 : nk_M) : Option (Int64 × nk_M) := some (u0, m0)
set_option maxHeartbeats 4000000 in
set_option maxRecDepth 100000 in
theorem zs_N_odds_b103 {G : nk_V} {X : nk_X}   (C : nk_C "NeedOnce" zb_N_odds 7 nk_wC G X) (hR : X.2.2.2.1 = nk_rm 47) (hr : X.2.2.2.2.2.2.2.2.1.sig.returnType = (some .long))  : ∀ (u0 : Int64) (m0 : nk_M), nk_Sim nk_wC G X 7 nk_ol 103 [nk_r G 0, .null, .null, .null, .null, .null, .null] [.long u0] m0 (zf_N_odds_b103 u0 m0) := by
  intro u0 m0
  unfold zf_N_odds_b103
  exact nk_lret C hr zd_N_odds_103
def zf_N_odds  (a1 : Int32) (a2 : Int32) (a3 : Int32) (a4 : Int32) (m0 : nk_M) : Option (Int64 × nk_M) := nk_bd (zf_C_has 1 6 a1 m0) (fun r1 m1 => (if r1 = 0 then (zf_N_odds_b22 m1) else nk_bd (zf_C_has 1 6 a2 m1) (fun r2 m2 => (if r2 = 0 then (zf_N_odds_b22 m2) else nk_ald m2 8 8 a2 (fun x3 => (if x3 = 0 then (if a3 < 0 then (zf_N_odds_b63 m2) else (if (102 : Int32) < a3 then (zf_N_odds_b63 m2) else (if a4 < 0 then (zf_N_odds_b63 m2) else (if a4 ≤ (1 : Int32) then nk_bd (zf_N_timesItComesTo a1 a2 a3 m2) (fun r4 m3 => nk_bd (zf_N_commonWithTen r4 m3) (fun r5 m4 => (if a4 = 0 then nk_Didiv r4 r5 (fun x7 => (zf_N_odds_b103 (x7.toInt64) m4)) else nk_Didiv (10 : Int32) r5 (fun x6 => (zf_N_odds_b103 (x6.toInt64) m4))))) else (zf_N_odds_b63 m2))))) else some ((-9223372036854775808 : Int64), m2)))))))
set_option maxHeartbeats 4000000 in
set_option maxRecDepth 100000 in
theorem zc_N_odds {l : Launch} {G : nk_V}   (a1 : Int32) (a2 : Int32) (a3 : Int32) (a4 : Int32) (m0 : nk_M) : nk_Ct l nk_wC G 47 zy_N_odds zb_N_odds 7 (some .long) nk_ol [nk_r G 0, .int a1, .int a2, .int a3, .int a4] m0 (zf_N_odds  a1 a2 a3 a4 m0) := by
  refine nk_ent (own := "NeedOnce") (lv := [nk_r G 0, .int a1, .int a2, .int a3, .int a4, .null, .null]) 2 rfl (by decide) (Nat.le_of_ble_eq_true rfl) rfl (fun X hl hR C hr => ?_)
  subst hl
  unfold zf_N_odds
  refine nk_aload_n C zd_N_odds_0 rfl rfl ?_
  refine nk_getR C (r := 1) za_N_12 (Nat.le_of_ble_eq_true rfl) rfl rfl zd_N_odds_1 ?_
  refine nk_iload_n C zd_N_odds_4 rfl rfl ?_
  refine nk_callVi C [.int a1] zv_N_80 hR (zc_C_has 1 6 (Or.inl ⟨rfl, rfl⟩) a1 m0) (by omega) (Nat.le_of_ble_eq_true rfl) rfl rfl rfl rfl (Nat.le_of_ble_eq_true rfl) zd_N_odds_5 (fun r1 m1 => ?_)
  refine nk_if_eq (tgt := 22) C zd_N_odds_8 (by decide) ?_ ?_
  · refine nk_wk [true, false, false, false, false, false, false] ?_
    exact zs_N_odds_b22 C hR hr m1
  · refine nk_aload_n C zd_N_odds_11 rfl rfl ?_
    refine nk_getR C (r := 1) za_N_12 (Nat.le_of_ble_eq_true rfl) rfl rfl zd_N_odds_12 ?_
    refine nk_iload_n C zd_N_odds_15 rfl rfl ?_
    refine nk_callVi C [.int a2] zv_N_80 hR (zc_C_has 1 6 (Or.inl ⟨rfl, rfl⟩) a2 m1) (by omega) (Nat.le_of_ble_eq_true rfl) rfl rfl rfl rfl (Nat.le_of_ble_eq_true rfl) zd_N_odds_16 (fun r2 m2 => ?_)
    refine nk_if_ne (tgt := 26) C zd_N_odds_19 (by decide) ?_ ?_
    · refine nk_aload_n C zd_N_odds_26 rfl rfl ?_
      refine nk_getR C (r := 1) za_N_12 (Nat.le_of_ble_eq_true rfl) rfl rfl zd_N_odds_27 ?_
      refine nk_getR C (r := 8) za_N_179 (Nat.le_of_ble_eq_true rfl) rfl rfl zd_N_odds_30 ?_
      refine nk_iload_n C zd_N_odds_33 rfl rfl ?_
      refine nk_iald C (Nat.le_of_ble_eq_true rfl) rfl zd_N_odds_34 (fun x3 => ?_)
      refine nk_if_eq (tgt := 42) C zd_N_odds_35 (by decide) ?_ ?_
      · refine nk_iload_n C zd_N_odds_42 rfl rfl ?_
        refine nk_if_lt (tgt := 63) C zd_N_odds_43 (by decide) ?_ ?_
        · refine nk_wk [true, false, false, false, false, false, false] ?_
          exact zs_N_odds_b63 C hR hr m2
        · refine nk_iload_n C zd_N_odds_46 rfl rfl ?_
          refine nk_bipush (v := 102) C zd_N_odds_47 (by decide) ?_
          refine nk_icmp_gt (tgt := 63) C zd_N_odds_49 (by decide) ?_ ?_
          · refine nk_wk [true, false, false, false, false, false, false] ?_
            exact zs_N_odds_b63 C hR hr m2
          · refine nk_iload C zd_N_odds_52 rfl ?_
            refine nk_if_lt (tgt := 63) C zd_N_odds_54 (by decide) ?_ ?_
            · refine nk_wk [true, false, false, false, false, false, false] ?_
              exact zs_N_odds_b63 C hR hr m2
            · refine nk_iload C zd_N_odds_57 rfl ?_
              refine nk_iconst (v := 1) C zd_N_odds_59 (by decide) ?_
              refine nk_icmp_le (tgt := 67) C zd_N_odds_60 (by decide) ?_ ?_
              · refine nk_aload_n C zd_N_odds_67 rfl rfl ?_
                refine nk_iload_n C zd_N_odds_68 rfl rfl ?_
                refine nk_iload_n C zd_N_odds_69 rfl rfl ?_
                refine nk_iload_n C zd_N_odds_70 rfl rfl ?_
                refine nk_callVi C [.int a1, .int a2, .int a3] zv_N_182 hR (zc_N_timesItComesTo a1 a2 a3 m2) (by omega) (Nat.le_of_ble_eq_true rfl) rfl rfl rfl rfl (Nat.le_of_ble_eq_true rfl) zd_N_odds_71 (fun r4 m3 => ?_)
                refine nk_istore C zd_N_odds_74 (Nat.le_of_ble_eq_true rfl) rfl ?_
                refine nk_iload C zd_N_odds_76 rfl ?_
                refine nk_callSi C [.int r4] zv_N_185 hR (zc_N_commonWithTen r4 m3) (by omega) rfl rfl (Nat.le_of_ble_eq_true rfl) zd_N_odds_78 (fun r5 m4 => ?_)
                refine nk_istore C zd_N_odds_81 (Nat.le_of_ble_eq_true rfl) rfl ?_
                refine nk_iload C zd_N_odds_83 rfl ?_
                refine nk_if_ne (tgt := 97) C zd_N_odds_85 (by decide) ?_ ?_
                · refine nk_bipush (v := 10) C zd_N_odds_97 (by decide) ?_
                  refine nk_iload C zd_N_odds_99 rfl ?_
                  refine nk_idiv C zd_N_odds_101 (fun x6 => ?_)
                  refine nk_i2l C zd_N_odds_102 ?_
                  refine nk_wk [true, false, false, false, false, false, false] ?_
                  exact zs_N_odds_b103 C hR hr (x6.toInt64) m4
                · refine nk_iload C zd_N_odds_88 rfl ?_
                  refine nk_iload C zd_N_odds_90 rfl ?_
                  refine nk_idiv C zd_N_odds_92 (fun x7 => ?_)
                  refine nk_i2l C zd_N_odds_93 ?_
                  refine nk_goto (tgt := 103) C zd_N_odds_94 (by decide) ?_
                  refine nk_wk [true, false, false, false, false, false, false] ?_
                  exact zs_N_odds_b103 C hR hr (x7.toInt64) m4
              · refine nk_wk [true, false, false, false, false, false, false] ?_
                exact zs_N_odds_b63 C hR hr m2
      · refine nk_ldc2 (v := -9223372036854775808) C zw_454 zd_N_odds_38 ?_
        exact nk_lret C hr zd_N_odds_41
    · refine nk_wk [true, false, false, false, false, false, false] ?_
      exact zs_N_odds_b22 C hR hr m2
theorem zd_S_makeRow_0 : decode zb_S_makeRow 0 = .ok (.aload_n 0, 1) := by decide +kernel
theorem zd_S_makeRow_1 : decode zb_S_makeRow 1 = .ok (.getfield 16, 3) := by decide +kernel
theorem zd_S_makeRow_4 : decode zb_S_makeRow 4 = .ok (.iload_n 1, 1) := by decide +kernel
theorem zd_S_makeRow_5 : decode zb_S_makeRow 5 = .ok (.iload_n 2, 1) := by decide +kernel
theorem zd_S_makeRow_6 : decode zb_S_makeRow 6 = .ok (.iastore, 1) := by decide +kernel
theorem zd_S_makeRow_7 : decode zb_S_makeRow 7 = .ok (.aload_n 0, 1) := by decide +kernel
theorem zd_S_makeRow_8 : decode zb_S_makeRow 8 = .ok (.getfield 20, 3) := by decide +kernel
theorem zd_S_makeRow_11 : decode zb_S_makeRow 11 = .ok (.iload_n 1, 1) := by decide +kernel
theorem zd_S_makeRow_12 : decode zb_S_makeRow 12 = .ok (.iload_n 3, 1) := by decide +kernel
theorem zd_S_makeRow_13 : decode zb_S_makeRow 13 = .ok (.iastore, 1) := by decide +kernel
theorem zd_S_makeRow_14 : decode zb_S_makeRow 14 = .ok (.aload_n 0, 1) := by decide +kernel
theorem zd_S_makeRow_15 : decode zb_S_makeRow 15 = .ok (.getfield 11, 3) := by decide +kernel
theorem zd_S_makeRow_18 : decode zb_S_makeRow 18 = .ok (.iload_n 1, 1) := by decide +kernel
theorem zd_S_makeRow_19 : decode zb_S_makeRow 19 = .ok (.aaload, 1) := by decide +kernel
theorem zd_S_makeRow_20 : decode zb_S_makeRow 20 = .ok (.iconst 0, 1) := by decide +kernel
theorem zd_S_makeRow_21 : decode zb_S_makeRow 21 = .ok (.invokestatic 23, 3) := by decide +kernel
theorem zd_S_makeRow_24 : decode zb_S_makeRow 24 = .ok (.return_, 1) := by decide +kernel
def zf_S_makeRow  (a1 : Int32) (a2 : Int32) (a3 : Int32) (m0 : nk_M) : Option (Unit × nk_M) := nk_ast m0 31 4 a1 a2 (fun m1 => nk_ast m1 32 4 a1 a3 (fun m2 => nk_ard 4 a1 (nk_bd (zf_J_fill (27 + Int32.toNatClampNeg a1) 60 (0 : Int32) m2) (fun _ m3 => some ((), m3)))))
set_option maxHeartbeats 4000000 in
set_option maxRecDepth 100000 in
theorem zc_S_makeRow {l : Launch} {G : nk_V}   (a1 : Int32) (a2 : Int32) (a3 : Int32) (m0 : nk_M) : nk_Ct l nk_wC G 2 zy_S_makeRow zb_S_makeRow 4 none nk_ov [nk_r G 5, .int a1, .int a2, .int a3] m0 (zf_S_makeRow  a1 a2 a3 m0) := by
  refine nk_ent (own := "NeedOnce$Sheets") (lv := [nk_r G 5, .int a1, .int a2, .int a3]) 0 rfl (by decide) (Nat.le_of_ble_eq_true rfl) rfl (fun X hl hR C hr => ?_)
  subst hl
  unfold zf_S_makeRow
  refine nk_aload_n C zd_S_makeRow_0 rfl rfl ?_
  refine nk_getR C (r := 31) za_S_16 (Nat.le_of_ble_eq_true rfl) rfl rfl zd_S_makeRow_1 ?_
  refine nk_iload_n C zd_S_makeRow_4 rfl rfl ?_
  refine nk_iload_n C zd_S_makeRow_5 rfl rfl ?_
  refine nk_iast C (Nat.le_of_ble_eq_true rfl) rfl zd_S_makeRow_6 (fun m1 => ?_)
  refine nk_aload_n C zd_S_makeRow_7 rfl rfl ?_
  refine nk_getR C (r := 32) za_S_20 (Nat.le_of_ble_eq_true rfl) rfl rfl zd_S_makeRow_8 ?_
  refine nk_iload_n C zd_S_makeRow_11 rfl rfl ?_
  refine nk_iload_n C zd_S_makeRow_12 rfl rfl ?_
  refine nk_iast C (Nat.le_of_ble_eq_true rfl) rfl zd_S_makeRow_13 (fun m2 => ?_)
  refine nk_aload_n C zd_S_makeRow_14 rfl rfl ?_
  refine nk_getR C (r := 26) za_S_11 (Nat.le_of_ble_eq_true rfl) rfl rfl zd_S_makeRow_15 ?_
  refine nk_iload_n C zd_S_makeRow_18 rfl rfl ?_
  refine nk_aald C (Nat.le_of_ble_eq_true rfl) rfl zd_S_makeRow_19 (fun hi1 => ?_)
  refine nk_iconst (v := 0) C zd_S_makeRow_20 (by decide) ?_
  refine nk_callSv C [nk_r G (27 + Int32.toNatClampNeg a1), .int (0 : Int32)] zv_S_23 hR (zc_J_fill (27 + Int32.toNatClampNeg a1) 60 (nkc_rk hi1) (nkc_rs hi1) (0 : Int32) m2) (by omega) rfl rfl (Nat.le_of_ble_eq_true rfl) zd_S_makeRow_21 (fun m3 => ?_)
  exact nk_vret C hr zd_S_makeRow_24
theorem zd_N_sheet_0 : decode zb_N_sheet 0 = .ok (.aload_n 0, 1) := by decide +kernel
theorem zd_N_sheet_1 : decode zb_N_sheet 1 = .ok (.iconst 0, 1) := by decide +kernel
theorem zd_N_sheet_2 : decode zb_N_sheet 2 = .ok (.putfield 42, 3) := by decide +kernel
theorem zd_N_sheet_5 : decode zb_N_sheet 5 = .ok (.aload_n 0, 1) := by decide +kernel
theorem zd_N_sheet_6 : decode zb_N_sheet 6 = .ok (.getfield 38, 3) := by decide +kernel
theorem zd_N_sheet_9 : decode zb_N_sheet 9 = .ok (.iload_n 1, 1) := by decide +kernel
theorem zd_N_sheet_10 : decode zb_N_sheet 10 = .ok (.invokevirtual 46, 3) := by decide +kernel
theorem zd_N_sheet_13 : decode zb_N_sheet 13 = .ok (.ifCond .ne 5, 3) := by decide +kernel
theorem zd_N_sheet_16 : decode zb_N_sheet 16 = .ok (.iconst (-1), 1) := by decide +kernel
theorem zd_N_sheet_17 : decode zb_N_sheet 17 = .ok (.ireturn, 1) := by decide +kernel
theorem zd_N_sheet_18 : decode zb_N_sheet 18 = .ok (.iload_n 2, 1) := by decide +kernel
theorem zd_N_sheet_19 : decode zb_N_sheet 19 = .ok (.invokestatic 50, 3) := by decide +kernel
theorem zd_N_sheet_22 : decode zb_N_sheet 22 = .ok (.ifCond .eq 9, 3) := by decide +kernel
theorem zd_N_sheet_25 : decode zb_N_sheet 25 = .ok (.iload_n 3, 1) := by decide +kernel
theorem zd_N_sheet_26 : decode zb_N_sheet 26 = .ok (.bipush 60, 2) := by decide +kernel
theorem zd_N_sheet_28 : decode zb_N_sheet 28 = .ok (.if_icmp .le 6, 3) := by decide +kernel
theorem zd_N_sheet_31 : decode zb_N_sheet 31 = .ok (.bipush (-2), 2) := by decide +kernel
theorem zd_N_sheet_33 : decode zb_N_sheet 33 = .ok (.ireturn, 1) := by decide +kernel
theorem zd_N_sheet_34 : decode zb_N_sheet 34 = .ok (.iload_n 3, 1) := by decide +kernel
theorem zd_N_sheet_35 : decode zb_N_sheet 35 = .ok (.ifCond .ge 9, 3) := by decide +kernel
theorem zd_N_sheet_38 : decode zb_N_sheet 38 = .ok (.aload_n 0, 1) := by decide +kernel
theorem zd_N_sheet_39 : decode zb_N_sheet 39 = .ok (.iconst 4, 1) := by decide +kernel
theorem zd_N_sheet_40 : decode zb_N_sheet 40 = .ok (.invokevirtual 57, 3) := by decide +kernel
theorem zd_N_sheet_43 : decode zb_N_sheet 43 = .ok (.ireturn, 1) := by decide +kernel
theorem zd_N_sheet_44 : decode zb_N_sheet 44 = .ok (.aload_n 0, 1) := by decide +kernel
theorem zd_N_sheet_45 : decode zb_N_sheet 45 = .ok (.getfield 38, 3) := by decide +kernel
theorem zd_N_sheet_48 : decode zb_N_sheet 48 = .ok (.iload_n 1, 1) := by decide +kernel
theorem zd_N_sheet_49 : decode zb_N_sheet 49 = .ok (.iload_n 2, 1) := by decide +kernel
theorem zd_N_sheet_50 : decode zb_N_sheet 50 = .ok (.iload_n 3, 1) := by decide +kernel
theorem zd_N_sheet_51 : decode zb_N_sheet 51 = .ok (.invokevirtual 192, 3) := by decide +kernel
theorem zd_N_sheet_54 : decode zb_N_sheet 54 = .ok (.iconst 1, 1) := by decide +kernel
theorem zd_N_sheet_55 : decode zb_N_sheet 55 = .ok (.ireturn, 1) := by decide +kernel
def zf_N_sheet_b31   (m0 : nk_M) : Option (Int32 × nk_M) := some ((-2 : Int32), m0)
set_option maxHeartbeats 4000000 in
set_option maxRecDepth 100000 in
theorem zs_N_sheet_b31 {G : nk_V} {X : nk_X}   (C : nk_C "NeedOnce" zb_N_sheet 4 nk_wC G X) (hR : X.2.2.2.1 = nk_rm 3) (hr : X.2.2.2.2.2.2.2.2.1.sig.returnType = (some .int))  : ∀  (m0 : nk_M), nk_Sim nk_wC G X 4 nk_oi 31 [nk_r G 0, .null, .null, .null] [] m0 (zf_N_sheet_b31  m0) := by
  intro m0
  unfold zf_N_sheet_b31
  refine nk_bipush (v := -2) C zd_N_sheet_31 (by decide) ?_
  exact nk_iret C hr zd_N_sheet_33
def zf_N_sheet  (a1 : Int32) (a2 : Int32) (a3 : Int32) (m0 : nk_M) : Option (Int32 × nk_M) := nk_pf m0 0 6 (0 : Int32) (fun m1 => nk_bd (zf_S_has a1 m1) (fun r1 m2 => (if r1 = 0 then some ((-1 : Int32), m2) else nk_bd (zf_N_isLane a2 m2) (fun r2 m3 => (if r2 = 0 then (zf_N_sheet_b31 m3) else (if a3 ≤ (60 : Int32) then (if 0 ≤ a3 then nk_bd (zf_S_makeRow a1 a2 a3 m3) (fun _ m4 => some ((1 : Int32), m4)) else nk_bd (zf_N_faulted (4 : Int32) m3) (fun r4 m5 => some (r4, m5))) else (zf_N_sheet_b31 m3)))))))
set_option maxHeartbeats 4000000 in
set_option maxRecDepth 100000 in
theorem zc_N_sheet {l : Launch} {G : nk_V}   (a1 : Int32) (a2 : Int32) (a3 : Int32) (m0 : nk_M) : nk_Ct l nk_wC G 3 zy_N_sheet zb_N_sheet 4 (some .int) nk_oi [nk_r G 0, .int a1, .int a2, .int a3] m0 (zf_N_sheet  a1 a2 a3 m0) := by
  refine nk_ent (own := "NeedOnce") (lv := [nk_r G 0, .int a1, .int a2, .int a3]) 0 rfl (by decide) (Nat.le_of_ble_eq_true rfl) rfl (fun X hl hR C hr => ?_)
  subst hl
  unfold zf_N_sheet
  refine nk_aload_n C zd_N_sheet_0 rfl rfl ?_
  refine nk_iconst (v := 0) C zd_N_sheet_1 (by decide) ?_
  refine nk_putI C zp_N_42 (Nat.le_of_ble_eq_true rfl) rfl rfl zd_N_sheet_2 (fun m1 => ?_)
  refine nk_aload_n C zd_N_sheet_5 rfl rfl ?_
  refine nk_getR C (r := 5) za_N_38 (Nat.le_of_ble_eq_true rfl) rfl rfl zd_N_sheet_6 ?_
  refine nk_iload_n C zd_N_sheet_9 rfl rfl ?_
  refine nk_callVi C [.int a1] zv_N_46 hR (zc_S_has a1 m1) (by omega) (Nat.le_of_ble_eq_true rfl) rfl rfl rfl rfl (Nat.le_of_ble_eq_true rfl) zd_N_sheet_10 (fun r1 m2 => ?_)
  refine nk_if_ne (tgt := 18) C zd_N_sheet_13 (by decide) ?_ ?_
  · refine nk_iload_n C zd_N_sheet_18 rfl rfl ?_
    refine nk_callSi C [.int a2] zv_N_50 hR (zc_N_isLane a2 m2) (by omega) rfl rfl (Nat.le_of_ble_eq_true rfl) zd_N_sheet_19 (fun r2 m3 => ?_)
    refine nk_if_eq (tgt := 31) C zd_N_sheet_22 (by decide) ?_ ?_
    · refine nk_wk [true, false, false, false] ?_
      exact zs_N_sheet_b31 C hR hr m3
    · refine nk_iload_n C zd_N_sheet_25 rfl rfl ?_
      refine nk_bipush (v := 60) C zd_N_sheet_26 (by decide) ?_
      refine nk_icmp_le (tgt := 34) C zd_N_sheet_28 (by decide) ?_ ?_
      · refine nk_iload_n C zd_N_sheet_34 rfl rfl ?_
        refine nk_if_ge (tgt := 44) C zd_N_sheet_35 (by decide) ?_ ?_
        · refine nk_aload_n C zd_N_sheet_44 rfl rfl ?_
          refine nk_getR C (r := 5) za_N_38 (Nat.le_of_ble_eq_true rfl) rfl rfl zd_N_sheet_45 ?_
          refine nk_iload_n C zd_N_sheet_48 rfl rfl ?_
          refine nk_iload_n C zd_N_sheet_49 rfl rfl ?_
          refine nk_iload_n C zd_N_sheet_50 rfl rfl ?_
          refine nk_callVv C [.int a1, .int a2, .int a3] zv_N_192 hR (zc_S_makeRow a1 a2 a3 m3) (by omega) (Nat.le_of_ble_eq_true rfl) rfl rfl rfl rfl (Nat.le_of_ble_eq_true rfl) zd_N_sheet_51 (fun m4 => ?_)
          refine nk_iconst (v := 1) C zd_N_sheet_54 (by decide) ?_
          exact nk_iret C hr zd_N_sheet_55
        · refine nk_aload_n C zd_N_sheet_38 rfl rfl ?_
          refine nk_iconst (v := 4) C zd_N_sheet_39 (by decide) ?_
          refine nk_callVi C [.int (4 : Int32)] zv_N_57 hR (zc_N_faulted (4 : Int32) m3) (by omega) (Nat.le_of_ble_eq_true rfl) rfl rfl rfl rfl (Nat.le_of_ble_eq_true rfl) zd_N_sheet_40 (fun r4 m5 => ?_)
          exact nk_iret C hr zd_N_sheet_43
      · refine nk_wk [true, false, false, false] ?_
        exact zs_N_sheet_b31 C hR hr m3
  · refine nk_iconst (v := -1) C zd_N_sheet_16 (by decide) ?_
    exact nk_iret C hr zd_N_sheet_17
theorem zd_N_lose_0 : decode zb_N_lose 0 = .ok (.aload_n 0, 1) := by decide +kernel
theorem zd_N_lose_1 : decode zb_N_lose 1 = .ok (.getfield 38, 3) := by decide +kernel
theorem zd_N_lose_4 : decode zb_N_lose 4 = .ok (.iload_n 1, 1) := by decide +kernel
theorem zd_N_lose_5 : decode zb_N_lose 5 = .ok (.invokevirtual 46, 3) := by decide +kernel
theorem zd_N_lose_8 : decode zb_N_lose 8 = .ok (.ifCond .ne 5, 3) := by decide +kernel
theorem zd_N_lose_11 : decode zb_N_lose 11 = .ok (.iconst (-1), 1) := by decide +kernel
theorem zd_N_lose_12 : decode zb_N_lose 12 = .ok (.ireturn, 1) := by decide +kernel
theorem zd_N_lose_13 : decode zb_N_lose 13 = .ok (.aload_n 0, 1) := by decide +kernel
theorem zd_N_lose_14 : decode zb_N_lose 14 = .ok (.getfield 38, 3) := by decide +kernel
theorem zd_N_lose_17 : decode zb_N_lose 17 = .ok (.getfield 195, 3) := by decide +kernel
theorem zd_N_lose_20 : decode zb_N_lose 20 = .ok (.iload_n 1, 1) := by decide +kernel
theorem zd_N_lose_21 : decode zb_N_lose 21 = .ok (.iaload, 1) := by decide +kernel
theorem zd_N_lose_22 : decode zb_N_lose 22 = .ok (.iconst (-1), 1) := by decide +kernel
theorem zd_N_lose_23 : decode zb_N_lose 23 = .ok (.if_icmp .ne 7, 3) := by decide +kernel
theorem zd_N_lose_26 : decode zb_N_lose 26 = .ok (.iconst 0, 1) := by decide +kernel
theorem zd_N_lose_27 : decode zb_N_lose 27 = .ok (.goto 4, 3) := by decide +kernel
theorem zd_N_lose_30 : decode zb_N_lose 30 = .ok (.iconst 1, 1) := by decide +kernel
theorem zd_N_lose_31 : decode zb_N_lose 31 = .ok (.istore_n 2, 1) := by decide +kernel
theorem zd_N_lose_32 : decode zb_N_lose 32 = .ok (.aload_n 0, 1) := by decide +kernel
theorem zd_N_lose_33 : decode zb_N_lose 33 = .ok (.getfield 38, 3) := by decide +kernel
theorem zd_N_lose_36 : decode zb_N_lose 36 = .ok (.getfield 195, 3) := by decide +kernel
theorem zd_N_lose_39 : decode zb_N_lose 39 = .ok (.iload_n 1, 1) := by decide +kernel
theorem zd_N_lose_40 : decode zb_N_lose 40 = .ok (.iconst (-1), 1) := by decide +kernel
theorem zd_N_lose_41 : decode zb_N_lose 41 = .ok (.iastore, 1) := by decide +kernel
theorem zd_N_lose_42 : decode zb_N_lose 42 = .ok (.iload_n 2, 1) := by decide +kernel
theorem zd_N_lose_43 : decode zb_N_lose 43 = .ok (.ireturn, 1) := by decide +kernel
def zf_N_lose_b31  (y1 : Int32) (u0 : Int32) (m0 : nk_M) : Option (Int32 × nk_M) := nk_ast m0 31 4 y1 (-1 : Int32) (fun m1 => some (u0, m1))
set_option maxHeartbeats 4000000 in
set_option maxRecDepth 100000 in
theorem zs_N_lose_b31 {G : nk_V} {X : nk_X}   (C : nk_C "NeedOnce" zb_N_lose 3 nk_wC G X) (hR : X.2.2.2.1 = nk_rm 2) (hr : X.2.2.2.2.2.2.2.2.1.sig.returnType = (some .int))  : ∀ (y1 : Int32) (u0 : Int32) (m0 : nk_M), nk_Sim nk_wC G X 3 nk_oi 31 [nk_r G 0, .int y1, .null] [.int u0] m0 (zf_N_lose_b31 y1 u0 m0) := by
  intro y1 u0 m0
  unfold zf_N_lose_b31
  refine nk_istore_n C zd_N_lose_31 rfl (Nat.le_of_ble_eq_true rfl) rfl ?_
  refine nk_aload_n C zd_N_lose_32 rfl rfl ?_
  refine nk_getR C (r := 5) za_N_38 (Nat.le_of_ble_eq_true rfl) rfl rfl zd_N_lose_33 ?_
  refine nk_getR C (r := 31) za_N_195 (Nat.le_of_ble_eq_true rfl) rfl rfl zd_N_lose_36 ?_
  refine nk_iload_n C zd_N_lose_39 rfl rfl ?_
  refine nk_iconst (v := -1) C zd_N_lose_40 (by decide) ?_
  refine nk_iast C (Nat.le_of_ble_eq_true rfl) rfl zd_N_lose_41 (fun m1 => ?_)
  refine nk_iload_n C zd_N_lose_42 rfl rfl ?_
  exact nk_iret C hr zd_N_lose_43
def zf_N_lose  (a1 : Int32) (m0 : nk_M) : Option (Int32 × nk_M) := nk_bd (zf_S_has a1 m0) (fun r1 m1 => (if r1 = 0 then some ((-1 : Int32), m1) else nk_ald m1 31 4 a1 (fun x2 => (if x2 = (-1 : Int32) then (zf_N_lose_b31 a1 (0 : Int32) m1) else (zf_N_lose_b31 a1 (1 : Int32) m1)))))
set_option maxHeartbeats 4000000 in
set_option maxRecDepth 100000 in
theorem zc_N_lose {l : Launch} {G : nk_V}   (a1 : Int32) (m0 : nk_M) : nk_Ct l nk_wC G 2 zy_N_lose zb_N_lose 3 (some .int) nk_oi [nk_r G 0, .int a1] m0 (zf_N_lose  a1 m0) := by
  refine nk_ent (own := "NeedOnce") (lv := [nk_r G 0, .int a1, .null]) 1 rfl (by decide) (Nat.le_of_ble_eq_true rfl) rfl (fun X hl hR C hr => ?_)
  subst hl
  unfold zf_N_lose
  refine nk_aload_n C zd_N_lose_0 rfl rfl ?_
  refine nk_getR C (r := 5) za_N_38 (Nat.le_of_ble_eq_true rfl) rfl rfl zd_N_lose_1 ?_
  refine nk_iload_n C zd_N_lose_4 rfl rfl ?_
  refine nk_callVi C [.int a1] zv_N_46 hR (zc_S_has a1 m0) (by omega) (Nat.le_of_ble_eq_true rfl) rfl rfl rfl rfl (Nat.le_of_ble_eq_true rfl) zd_N_lose_5 (fun r1 m1 => ?_)
  refine nk_if_ne (tgt := 13) C zd_N_lose_8 (by decide) ?_ ?_
  · refine nk_aload_n C zd_N_lose_13 rfl rfl ?_
    refine nk_getR C (r := 5) za_N_38 (Nat.le_of_ble_eq_true rfl) rfl rfl zd_N_lose_14 ?_
    refine nk_getR C (r := 31) za_N_195 (Nat.le_of_ble_eq_true rfl) rfl rfl zd_N_lose_17 ?_
    refine nk_iload_n C zd_N_lose_20 rfl rfl ?_
    refine nk_iald C (Nat.le_of_ble_eq_true rfl) rfl zd_N_lose_21 (fun x2 => ?_)
    refine nk_iconst (v := -1) C zd_N_lose_22 (by decide) ?_
    refine nk_icmp_ne (tgt := 30) C zd_N_lose_23 (by decide) ?_ ?_
    · refine nk_iconst (v := 1) C zd_N_lose_30 (by decide) ?_
      exact zs_N_lose_b31 C hR hr a1 (1 : Int32) m1
    · refine nk_iconst (v := 0) C zd_N_lose_26 (by decide) ?_
      refine nk_goto (tgt := 31) C zd_N_lose_27 (by decide) ?_
      exact zs_N_lose_b31 C hR hr a1 (0 : Int32) m1
  · refine nk_iconst (v := -1) C zd_N_lose_11 (by decide) ?_
    exact nk_iret C hr zd_N_lose_12
theorem zd_S_setCut_0 : decode zb_S_setCut 0 = .ok (.aload_n 0, 1) := by decide +kernel
theorem zd_S_setCut_1 : decode zb_S_setCut 1 = .ok (.getfield 16, 3) := by decide +kernel
theorem zd_S_setCut_4 : decode zb_S_setCut 4 = .ok (.iload_n 1, 1) := by decide +kernel
theorem zd_S_setCut_5 : decode zb_S_setCut 5 = .ok (.iaload, 1) := by decide +kernel
theorem zd_S_setCut_6 : decode zb_S_setCut 6 = .ok (.lookupswitch 52 #[(0, 26), (1, 39)], 26) := by decide +kernel
theorem zd_S_setCut_32 : decode zb_S_setCut 32 = .ok (.aload_n 0, 1) := by decide +kernel
theorem zd_S_setCut_33 : decode zb_S_setCut 33 = .ok (.getfield 11, 3) := by decide +kernel
theorem zd_S_setCut_36 : decode zb_S_setCut 36 = .ok (.iload_n 1, 1) := by decide +kernel
theorem zd_S_setCut_37 : decode zb_S_setCut 37 = .ok (.aaload, 1) := by decide +kernel
theorem zd_S_setCut_38 : decode zb_S_setCut 38 = .ok (.iload_n 2, 1) := by decide +kernel
theorem zd_S_setCut_39 : decode zb_S_setCut 39 = .ok (.iload_n 3, 1) := by decide +kernel
theorem zd_S_setCut_40 : decode zb_S_setCut 40 = .ok (.i2b, 1) := by decide +kernel
theorem zd_S_setCut_41 : decode zb_S_setCut 41 = .ok (.iastore, 1) := by decide +kernel
theorem zd_S_setCut_42 : decode zb_S_setCut 42 = .ok (.goto 25, 3) := by decide +kernel
theorem zd_S_setCut_45 : decode zb_S_setCut 45 = .ok (.aload_n 0, 1) := by decide +kernel
theorem zd_S_setCut_46 : decode zb_S_setCut 46 = .ok (.getfield 11, 3) := by decide +kernel
theorem zd_S_setCut_49 : decode zb_S_setCut 49 = .ok (.iload_n 1, 1) := by decide +kernel
theorem zd_S_setCut_50 : decode zb_S_setCut 50 = .ok (.aaload, 1) := by decide +kernel
theorem zd_S_setCut_51 : decode zb_S_setCut 51 = .ok (.iload_n 2, 1) := by decide +kernel
theorem zd_S_setCut_52 : decode zb_S_setCut 52 = .ok (.iload_n 3, 1) := by decide +kernel
theorem zd_S_setCut_53 : decode zb_S_setCut 53 = .ok (.i2s, 1) := by decide +kernel
theorem zd_S_setCut_54 : decode zb_S_setCut 54 = .ok (.iastore, 1) := by decide +kernel
theorem zd_S_setCut_55 : decode zb_S_setCut 55 = .ok (.goto 12, 3) := by decide +kernel
theorem zd_S_setCut_58 : decode zb_S_setCut 58 = .ok (.aload_n 0, 1) := by decide +kernel
theorem zd_S_setCut_59 : decode zb_S_setCut 59 = .ok (.getfield 11, 3) := by decide +kernel
theorem zd_S_setCut_62 : decode zb_S_setCut 62 = .ok (.iload_n 1, 1) := by decide +kernel
theorem zd_S_setCut_63 : decode zb_S_setCut 63 = .ok (.aaload, 1) := by decide +kernel
theorem zd_S_setCut_64 : decode zb_S_setCut 64 = .ok (.iload_n 2, 1) := by decide +kernel
theorem zd_S_setCut_65 : decode zb_S_setCut 65 = .ok (.iload_n 3, 1) := by decide +kernel
theorem zd_S_setCut_66 : decode zb_S_setCut 66 = .ok (.iastore, 1) := by decide +kernel
theorem zd_S_setCut_67 : decode zb_S_setCut 67 = .ok (.return_, 1) := by decide +kernel
def zf_S_setCut_b67   (m0 : nk_M) : Option (Unit × nk_M) := some ((), m0)
set_option maxHeartbeats 4000000 in
set_option maxRecDepth 100000 in
theorem zs_S_setCut_b67 {G : nk_V} {X : nk_X}   (C : nk_C "NeedOnce$Sheets" zb_S_setCut 4 nk_wC G X) (hR : X.2.2.2.1 = nk_rm 1) (hr : X.2.2.2.2.2.2.2.2.1.sig.returnType = none)  : ∀  (m0 : nk_M), nk_Sim nk_wC G X 4 nk_ov 67 [nk_r G 5, .null, .null, .null] [] m0 (zf_S_setCut_b67  m0) := by
  intro m0
  unfold zf_S_setCut_b67
  exact nk_vret C hr zd_S_setCut_67
def zf_S_setCut  (a1 : Int32) (a2 : Int32) (a3 : Int32) (m0 : nk_M) : Option (Unit × nk_M) := nk_ald m0 31 4 a1 (fun x1 => (if x1 = (0 : Int32) then nk_ard 4 a1 (nk_ast m0 (27 + Int32.toNatClampNeg a1) 60 a2 (a3.toInt8.toInt32) (fun m1 => (zf_S_setCut_b67 m1))) else if x1 = (1 : Int32) then nk_ard 4 a1 (nk_ast m0 (27 + Int32.toNatClampNeg a1) 60 a2 (a3.toInt16.toInt32) (fun m2 => (zf_S_setCut_b67 m2))) else nk_ard 4 a1 (nk_ast m0 (27 + Int32.toNatClampNeg a1) 60 a2 a3 (fun m3 => (zf_S_setCut_b67 m3)))))
set_option maxHeartbeats 4000000 in
set_option maxRecDepth 100000 in
theorem zc_S_setCut {l : Launch} {G : nk_V}   (a1 : Int32) (a2 : Int32) (a3 : Int32) (m0 : nk_M) : nk_Ct l nk_wC G 1 zy_S_setCut zb_S_setCut 4 none nk_ov [nk_r G 5, .int a1, .int a2, .int a3] m0 (zf_S_setCut  a1 a2 a3 m0) := by
  refine nk_ent (own := "NeedOnce$Sheets") (lv := [nk_r G 5, .int a1, .int a2, .int a3]) 0 rfl (by decide) (Nat.le_of_ble_eq_true rfl) rfl (fun X hl hR C hr => ?_)
  subst hl
  unfold zf_S_setCut
  refine nk_aload_n C zd_S_setCut_0 rfl rfl ?_
  refine nk_getR C (r := 31) za_S_16 (Nat.le_of_ble_eq_true rfl) rfl rfl zd_S_setCut_1 ?_
  refine nk_iload_n C zd_S_setCut_4 rfl rfl ?_
  refine nk_iald C (Nat.le_of_ble_eq_true rfl) rfl zd_S_setCut_5 (fun x1 => ?_)
  refine nk_lku C (0 : Int32) (off := 26) (tgt := 32) zd_S_setCut_6 ⟨by decide, by decide, by decide⟩ ?_ (fun h0 => ?_)
  · refine nk_aload_n C zd_S_setCut_32 rfl rfl ?_
    refine nk_getR C (r := 26) za_S_11 (Nat.le_of_ble_eq_true rfl) rfl rfl zd_S_setCut_33 ?_
    refine nk_iload_n C zd_S_setCut_36 rfl rfl ?_
    refine nk_aald C (Nat.le_of_ble_eq_true rfl) rfl zd_S_setCut_37 (fun hi2 => ?_)
    refine nk_iload_n C zd_S_setCut_38 rfl rfl ?_
    refine nk_iload_n C zd_S_setCut_39 rfl rfl ?_
    refine nk_i2b C zd_S_setCut_40 ?_
    refine nk_iast C (nkc_rk hi2) (nkc_rs hi2) zd_S_setCut_41 (fun m1 => ?_)
    refine nk_goto (tgt := 67) C zd_S_setCut_42 (by decide) ?_
    refine nk_wk [true, false, false, false] ?_
    exact zs_S_setCut_b67 C hR hr m1
  refine nk_lku C (1 : Int32) (off := 39) (tgt := 45) zd_S_setCut_6 ⟨by decide, by decide, by decide⟩ ?_ (fun h1 => ?_)
  · refine nk_aload_n C zd_S_setCut_45 rfl rfl ?_
    refine nk_getR C (r := 26) za_S_11 (Nat.le_of_ble_eq_true rfl) rfl rfl zd_S_setCut_46 ?_
    refine nk_iload_n C zd_S_setCut_49 rfl rfl ?_
    refine nk_aald C (Nat.le_of_ble_eq_true rfl) rfl zd_S_setCut_50 (fun hi3 => ?_)
    refine nk_iload_n C zd_S_setCut_51 rfl rfl ?_
    refine nk_iload_n C zd_S_setCut_52 rfl rfl ?_
    refine nk_i2s C zd_S_setCut_53 ?_
    refine nk_iast C (nkc_rk hi3) (nkc_rs hi3) zd_S_setCut_54 (fun m2 => ?_)
    refine nk_goto (tgt := 67) C zd_S_setCut_55 (by decide) ?_
    refine nk_wk [true, false, false, false] ?_
    exact zs_S_setCut_b67 C hR hr m2
  refine nk_lkuD C (tgt := 58) zd_S_setCut_6 (by decide) (by
      show Op.lookupswitch.offset [(0, 26), (1, 39)] (52) (Int32.toInt x1) = 52
      simp only [Op.lookupswitch.offset_cons, Op.lookupswitch.offset_nil, if_neg (Ne.symm (nk_neK (i := 0) (by decide) h0)), if_neg (Ne.symm (nk_neK (i := 1) (by decide) h1))]) (by decide) ?_
  refine nk_aload_n C zd_S_setCut_58 rfl rfl ?_
  refine nk_getR C (r := 26) za_S_11 (Nat.le_of_ble_eq_true rfl) rfl rfl zd_S_setCut_59 ?_
  refine nk_iload_n C zd_S_setCut_62 rfl rfl ?_
  refine nk_aald C (Nat.le_of_ble_eq_true rfl) rfl zd_S_setCut_63 (fun hi4 => ?_)
  refine nk_iload_n C zd_S_setCut_64 rfl rfl ?_
  refine nk_iload_n C zd_S_setCut_65 rfl rfl ?_
  refine nk_iast C (nkc_rk hi4) (nkc_rs hi4) zd_S_setCut_66 (fun m3 => ?_)
  refine nk_wk [true, false, false, false] ?_
  exact zs_S_setCut_b67 C hR hr m3
theorem zd_N_put_0 : decode zb_N_put 0 = .ok (.aload_n 0, 1) := by decide +kernel
theorem zd_N_put_1 : decode zb_N_put 1 = .ok (.iconst 0, 1) := by decide +kernel
theorem zd_N_put_2 : decode zb_N_put 2 = .ok (.putfield 42, 3) := by decide +kernel
theorem zd_N_put_5 : decode zb_N_put 5 = .ok (.aload_n 0, 1) := by decide +kernel
theorem zd_N_put_6 : decode zb_N_put 6 = .ok (.getfield 38, 3) := by decide +kernel
theorem zd_N_put_9 : decode zb_N_put 9 = .ok (.iload_n 1, 1) := by decide +kernel
theorem zd_N_put_10 : decode zb_N_put 10 = .ok (.invokevirtual 46, 3) := by decide +kernel
theorem zd_N_put_13 : decode zb_N_put 13 = .ok (.ifCond .ne 5, 3) := by decide +kernel
theorem zd_N_put_16 : decode zb_N_put 16 = .ok (.iconst (-1), 1) := by decide +kernel
theorem zd_N_put_17 : decode zb_N_put 17 = .ok (.ireturn, 1) := by decide +kernel
theorem zd_N_put_18 : decode zb_N_put 18 = .ok (.aload_n 0, 1) := by decide +kernel
theorem zd_N_put_19 : decode zb_N_put 19 = .ok (.getfield 38, 3) := by decide +kernel
theorem zd_N_put_22 : decode zb_N_put 22 = .ok (.iload_n 1, 1) := by decide +kernel
theorem zd_N_put_23 : decode zb_N_put 23 = .ok (.aload_n 0, 1) := by decide +kernel
theorem zd_N_put_24 : decode zb_N_put 24 = .ok (.getfield 38, 3) := by decide +kernel
theorem zd_N_put_27 : decode zb_N_put 27 = .ok (.getfield 195, 3) := by decide +kernel
theorem zd_N_put_30 : decode zb_N_put 30 = .ok (.iload_n 1, 1) := by decide +kernel
theorem zd_N_put_31 : decode zb_N_put 31 = .ok (.iaload, 1) := by decide +kernel
theorem zd_N_put_32 : decode zb_N_put 32 = .ok (.iload_n 2, 1) := by decide +kernel
theorem zd_N_put_33 : decode zb_N_put 33 = .ok (.iconst 1, 1) := by decide +kernel
theorem zd_N_put_34 : decode zb_N_put 34 = .ok (.invokevirtual 53, 3) := by decide +kernel
theorem zd_N_put_37 : decode zb_N_put 37 = .ok (.istore 4, 2) := by decide +kernel
theorem zd_N_put_39 : decode zb_N_put 39 = .ok (.iload 4, 2) := by decide +kernel
theorem zd_N_put_41 : decode zb_N_put 41 = .ok (.ifCond .eq 10, 3) := by decide +kernel
theorem zd_N_put_44 : decode zb_N_put 44 = .ok (.aload_n 0, 1) := by decide +kernel
theorem zd_N_put_45 : decode zb_N_put 45 = .ok (.iload 4, 2) := by decide +kernel
theorem zd_N_put_47 : decode zb_N_put 47 = .ok (.invokevirtual 57, 3) := by decide +kernel
theorem zd_N_put_50 : decode zb_N_put 50 = .ok (.ireturn, 1) := by decide +kernel
theorem zd_N_put_51 : decode zb_N_put 51 = .ok (.aload_n 0, 1) := by decide +kernel
theorem zd_N_put_52 : decode zb_N_put 52 = .ok (.getfield 38, 3) := by decide +kernel
theorem zd_N_put_55 : decode zb_N_put 55 = .ok (.iload_n 1, 1) := by decide +kernel
theorem zd_N_put_56 : decode zb_N_put 56 = .ok (.iload_n 2, 1) := by decide +kernel
theorem zd_N_put_57 : decode zb_N_put 57 = .ok (.iload_n 3, 1) := by decide +kernel
theorem zd_N_put_58 : decode zb_N_put 58 = .ok (.invokevirtual 198, 3) := by decide +kernel
theorem zd_N_put_61 : decode zb_N_put 61 = .ok (.iconst 1, 1) := by decide +kernel
theorem zd_N_put_62 : decode zb_N_put 62 = .ok (.ireturn, 1) := by decide +kernel
def zf_N_put  (a1 : Int32) (a2 : Int32) (a3 : Int32) (m0 : nk_M) : Option (Int32 × nk_M) := nk_pf m0 0 6 (0 : Int32) (fun m1 => nk_bd (zf_S_has a1 m1) (fun r1 m2 => (if r1 = 0 then some ((-1 : Int32), m2) else nk_ald m2 31 4 a1 (fun x2 => nk_bd (zf_S_rangeFault a1 x2 a2 (1 : Int32) m2) (fun r3 m3 => (if r3 = 0 then nk_bd (zf_S_setCut a1 a2 a3 m3) (fun _ m4 => some ((1 : Int32), m4)) else nk_bd (zf_N_faulted r3 m3) (fun r5 m5 => some (r5, m5))))))))
set_option maxHeartbeats 4000000 in
set_option maxRecDepth 100000 in
theorem zc_N_put {l : Launch} {G : nk_V}   (a1 : Int32) (a2 : Int32) (a3 : Int32) (m0 : nk_M) : nk_Ct l nk_wC G 3 zy_N_put zb_N_put 5 (some .int) nk_oi [nk_r G 0, .int a1, .int a2, .int a3] m0 (zf_N_put  a1 a2 a3 m0) := by
  refine nk_ent (own := "NeedOnce") (lv := [nk_r G 0, .int a1, .int a2, .int a3, .null]) 1 rfl (by decide) (Nat.le_of_ble_eq_true rfl) rfl (fun X hl hR C hr => ?_)
  subst hl
  unfold zf_N_put
  refine nk_aload_n C zd_N_put_0 rfl rfl ?_
  refine nk_iconst (v := 0) C zd_N_put_1 (by decide) ?_
  refine nk_putI C zp_N_42 (Nat.le_of_ble_eq_true rfl) rfl rfl zd_N_put_2 (fun m1 => ?_)
  refine nk_aload_n C zd_N_put_5 rfl rfl ?_
  refine nk_getR C (r := 5) za_N_38 (Nat.le_of_ble_eq_true rfl) rfl rfl zd_N_put_6 ?_
  refine nk_iload_n C zd_N_put_9 rfl rfl ?_
  refine nk_callVi C [.int a1] zv_N_46 hR (zc_S_has a1 m1) (by omega) (Nat.le_of_ble_eq_true rfl) rfl rfl rfl rfl (Nat.le_of_ble_eq_true rfl) zd_N_put_10 (fun r1 m2 => ?_)
  refine nk_if_ne (tgt := 18) C zd_N_put_13 (by decide) ?_ ?_
  · refine nk_aload_n C zd_N_put_18 rfl rfl ?_
    refine nk_getR C (r := 5) za_N_38 (Nat.le_of_ble_eq_true rfl) rfl rfl zd_N_put_19 ?_
    refine nk_iload_n C zd_N_put_22 rfl rfl ?_
    refine nk_aload_n C zd_N_put_23 rfl rfl ?_
    refine nk_getR C (r := 5) za_N_38 (Nat.le_of_ble_eq_true rfl) rfl rfl zd_N_put_24 ?_
    refine nk_getR C (r := 31) za_N_195 (Nat.le_of_ble_eq_true rfl) rfl rfl zd_N_put_27 ?_
    refine nk_iload_n C zd_N_put_30 rfl rfl ?_
    refine nk_iald C (Nat.le_of_ble_eq_true rfl) rfl zd_N_put_31 (fun x2 => ?_)
    refine nk_iload_n C zd_N_put_32 rfl rfl ?_
    refine nk_iconst (v := 1) C zd_N_put_33 (by decide) ?_
    refine nk_callVi C [.int a1, .int x2, .int a2, .int (1 : Int32)] zv_N_53 hR (zc_S_rangeFault a1 x2 a2 (1 : Int32) m2) (by omega) (Nat.le_of_ble_eq_true rfl) rfl rfl rfl rfl (Nat.le_of_ble_eq_true rfl) zd_N_put_34 (fun r3 m3 => ?_)
    refine nk_istore C zd_N_put_37 (Nat.le_of_ble_eq_true rfl) rfl ?_
    refine nk_iload C zd_N_put_39 rfl ?_
    refine nk_if_eq (tgt := 51) C zd_N_put_41 (by decide) ?_ ?_
    · refine nk_aload_n C zd_N_put_51 rfl rfl ?_
      refine nk_getR C (r := 5) za_N_38 (Nat.le_of_ble_eq_true rfl) rfl rfl zd_N_put_52 ?_
      refine nk_iload_n C zd_N_put_55 rfl rfl ?_
      refine nk_iload_n C zd_N_put_56 rfl rfl ?_
      refine nk_iload_n C zd_N_put_57 rfl rfl ?_
      refine nk_callVv C [.int a1, .int a2, .int a3] zv_N_198 hR (zc_S_setCut a1 a2 a3 m3) (by omega) (Nat.le_of_ble_eq_true rfl) rfl rfl rfl rfl (Nat.le_of_ble_eq_true rfl) zd_N_put_58 (fun m4 => ?_)
      refine nk_iconst (v := 1) C zd_N_put_61 (by decide) ?_
      exact nk_iret C hr zd_N_put_62
    · refine nk_aload_n C zd_N_put_44 rfl rfl ?_
      refine nk_iload C zd_N_put_45 rfl ?_
      refine nk_callVi C [.int r3] zv_N_57 hR (zc_N_faulted r3 m3) (by omega) (Nat.le_of_ble_eq_true rfl) rfl rfl rfl rfl (Nat.le_of_ble_eq_true rfl) zd_N_put_47 (fun r5 m5 => ?_)
      exact nk_iret C hr zd_N_put_50
  · refine nk_iconst (v := -1) C zd_N_put_16 (by decide) ?_
    exact nk_iret C hr zd_N_put_17
theorem zd_N_cell_0 : decode zb_N_cell 0 = .ok (.aload_n 0, 1) := by decide +kernel
theorem zd_N_cell_1 : decode zb_N_cell 1 = .ok (.iconst 0, 1) := by decide +kernel
theorem zd_N_cell_2 : decode zb_N_cell 2 = .ok (.putfield 42, 3) := by decide +kernel
theorem zd_N_cell_5 : decode zb_N_cell 5 = .ok (.aload_n 0, 1) := by decide +kernel
theorem zd_N_cell_6 : decode zb_N_cell 6 = .ok (.getfield 38, 3) := by decide +kernel
theorem zd_N_cell_9 : decode zb_N_cell 9 = .ok (.iload_n 1, 1) := by decide +kernel
theorem zd_N_cell_10 : decode zb_N_cell 10 = .ok (.invokevirtual 46, 3) := by decide +kernel
theorem zd_N_cell_13 : decode zb_N_cell 13 = .ok (.ifCond .eq 10, 3) := by decide +kernel
theorem zd_N_cell_16 : decode zb_N_cell 16 = .ok (.iload_n 3, 1) := by decide +kernel
theorem zd_N_cell_17 : decode zb_N_cell 17 = .ok (.invokestatic 50, 3) := by decide +kernel
theorem zd_N_cell_20 : decode zb_N_cell 20 = .ok (.ifCond .ne 7, 3) := by decide +kernel
theorem zd_N_cell_23 : decode zb_N_cell 23 = .ok (.ldc2_w 177, 3) := by decide +kernel
theorem zd_N_cell_26 : decode zb_N_cell 26 = .ok (.lreturn, 1) := by decide +kernel
theorem zd_N_cell_27 : decode zb_N_cell 27 = .ok (.aload_n 0, 1) := by decide +kernel
theorem zd_N_cell_28 : decode zb_N_cell 28 = .ok (.aload_n 0, 1) := by decide +kernel
theorem zd_N_cell_29 : decode zb_N_cell 29 = .ok (.getfield 38, 3) := by decide +kernel
theorem zd_N_cell_32 : decode zb_N_cell 32 = .ok (.iload_n 1, 1) := by decide +kernel
theorem zd_N_cell_33 : decode zb_N_cell 33 = .ok (.iload_n 3, 1) := by decide +kernel
theorem zd_N_cell_34 : decode zb_N_cell 34 = .ok (.iload_n 2, 1) := by decide +kernel
theorem zd_N_cell_35 : decode zb_N_cell 35 = .ok (.iconst 1, 1) := by decide +kernel
theorem zd_N_cell_36 : decode zb_N_cell 36 = .ok (.invokevirtual 53, 3) := by decide +kernel
theorem zd_N_cell_39 : decode zb_N_cell 39 = .ok (.putfield 42, 3) := by decide +kernel
theorem zd_N_cell_42 : decode zb_N_cell 42 = .ok (.aload_n 0, 1) := by decide +kernel
theorem zd_N_cell_43 : decode zb_N_cell 43 = .ok (.getfield 42, 3) := by decide +kernel
theorem zd_N_cell_46 : decode zb_N_cell 46 = .ok (.ifCond .ne 16, 3) := by decide +kernel
theorem zd_N_cell_49 : decode zb_N_cell 49 = .ok (.aload_n 0, 1) := by decide +kernel
theorem zd_N_cell_50 : decode zb_N_cell 50 = .ok (.getfield 38, 3) := by decide +kernel
theorem zd_N_cell_53 : decode zb_N_cell 53 = .ok (.iload_n 1, 1) := by decide +kernel
theorem zd_N_cell_54 : decode zb_N_cell 54 = .ok (.iload_n 2, 1) := by decide +kernel
theorem zd_N_cell_55 : decode zb_N_cell 55 = .ok (.invokevirtual 157, 3) := by decide +kernel
theorem zd_N_cell_58 : decode zb_N_cell 58 = .ok (.i2l, 1) := by decide +kernel
theorem zd_N_cell_59 : decode zb_N_cell 59 = .ok (.goto 6, 3) := by decide +kernel
theorem zd_N_cell_62 : decode zb_N_cell 62 = .ok (.ldc2_w 177, 3) := by decide +kernel
theorem zd_N_cell_65 : decode zb_N_cell 65 = .ok (.lreturn, 1) := by decide +kernel
def zf_N_cell_b23   (m0 : nk_M) : Option (Int64 × nk_M) := some ((-9223372036854775808 : Int64), m0)
set_option maxHeartbeats 4000000 in
set_option maxRecDepth 100000 in
theorem zs_N_cell_b23 {G : nk_V} {X : nk_X}   (C : nk_C "NeedOnce" zb_N_cell 4 nk_wC G X) (hR : X.2.2.2.1 = nk_rm 3) (hr : X.2.2.2.2.2.2.2.2.1.sig.returnType = (some .long))  : ∀  (m0 : nk_M), nk_Sim nk_wC G X 4 nk_ol 23 [nk_r G 0, .null, .null, .null] [] m0 (zf_N_cell_b23  m0) := by
  intro m0
  unfold zf_N_cell_b23
  refine nk_ldc2 (v := -9223372036854775808) C zw_454 zd_N_cell_23 ?_
  exact nk_lret C hr zd_N_cell_26
def zf_N_cell_b65  (u0 : Int64) (m0 : nk_M) : Option (Int64 × nk_M) := some (u0, m0)
set_option maxHeartbeats 4000000 in
set_option maxRecDepth 100000 in
theorem zs_N_cell_b65 {G : nk_V} {X : nk_X}   (C : nk_C "NeedOnce" zb_N_cell 4 nk_wC G X) (hR : X.2.2.2.1 = nk_rm 3) (hr : X.2.2.2.2.2.2.2.2.1.sig.returnType = (some .long))  : ∀ (u0 : Int64) (m0 : nk_M), nk_Sim nk_wC G X 4 nk_ol 65 [nk_r G 0, .null, .null, .null] [.long u0] m0 (zf_N_cell_b65 u0 m0) := by
  intro u0 m0
  unfold zf_N_cell_b65
  exact nk_lret C hr zd_N_cell_65
def zf_N_cell  (a1 : Int32) (a2 : Int32) (a3 : Int32) (m0 : nk_M) : Option (Int64 × nk_M) := nk_pf m0 0 6 (0 : Int32) (fun m1 => nk_bd (zf_S_has a1 m1) (fun r1 m2 => (if r1 = 0 then (zf_N_cell_b23 m2) else nk_bd (zf_N_isLane a3 m2) (fun r2 m3 => (if r2 = 0 then (zf_N_cell_b23 m3) else nk_bd (zf_S_rangeFault a1 a3 a2 (1 : Int32) m3) (fun r3 m4 => nk_pf m4 0 6 r3 (fun m5 => (if (m5 0 6) = 0 then nk_bd (zf_S_at a1 a2 m5) (fun r4 m6 => (zf_N_cell_b65 (r4.toInt64) m6)) else (zf_N_cell_b65 (-9223372036854775808 : Int64) m5)))))))))
set_option maxHeartbeats 4000000 in
set_option maxRecDepth 100000 in
theorem zc_N_cell {l : Launch} {G : nk_V}   (a1 : Int32) (a2 : Int32) (a3 : Int32) (m0 : nk_M) : nk_Ct l nk_wC G 3 zy_N_cell zb_N_cell 4 (some .long) nk_ol [nk_r G 0, .int a1, .int a2, .int a3] m0 (zf_N_cell  a1 a2 a3 m0) := by
  refine nk_ent (own := "NeedOnce") (lv := [nk_r G 0, .int a1, .int a2, .int a3]) 0 rfl (by decide) (Nat.le_of_ble_eq_true rfl) rfl (fun X hl hR C hr => ?_)
  subst hl
  unfold zf_N_cell
  refine nk_aload_n C zd_N_cell_0 rfl rfl ?_
  refine nk_iconst (v := 0) C zd_N_cell_1 (by decide) ?_
  refine nk_putI C zp_N_42 (Nat.le_of_ble_eq_true rfl) rfl rfl zd_N_cell_2 (fun m1 => ?_)
  refine nk_aload_n C zd_N_cell_5 rfl rfl ?_
  refine nk_getR C (r := 5) za_N_38 (Nat.le_of_ble_eq_true rfl) rfl rfl zd_N_cell_6 ?_
  refine nk_iload_n C zd_N_cell_9 rfl rfl ?_
  refine nk_callVi C [.int a1] zv_N_46 hR (zc_S_has a1 m1) (by omega) (Nat.le_of_ble_eq_true rfl) rfl rfl rfl rfl (Nat.le_of_ble_eq_true rfl) zd_N_cell_10 (fun r1 m2 => ?_)
  refine nk_if_eq (tgt := 23) C zd_N_cell_13 (by decide) ?_ ?_
  · refine nk_wk [true, false, false, false] ?_
    exact zs_N_cell_b23 C hR hr m2
  · refine nk_iload_n C zd_N_cell_16 rfl rfl ?_
    refine nk_callSi C [.int a3] zv_N_50 hR (zc_N_isLane a3 m2) (by omega) rfl rfl (Nat.le_of_ble_eq_true rfl) zd_N_cell_17 (fun r2 m3 => ?_)
    refine nk_if_ne (tgt := 27) C zd_N_cell_20 (by decide) ?_ ?_
    · refine nk_aload_n C zd_N_cell_27 rfl rfl ?_
      refine nk_aload_n C zd_N_cell_28 rfl rfl ?_
      refine nk_getR C (r := 5) za_N_38 (Nat.le_of_ble_eq_true rfl) rfl rfl zd_N_cell_29 ?_
      refine nk_iload_n C zd_N_cell_32 rfl rfl ?_
      refine nk_iload_n C zd_N_cell_33 rfl rfl ?_
      refine nk_iload_n C zd_N_cell_34 rfl rfl ?_
      refine nk_iconst (v := 1) C zd_N_cell_35 (by decide) ?_
      refine nk_callVi C [.int a1, .int a3, .int a2, .int (1 : Int32)] zv_N_53 hR (zc_S_rangeFault a1 a3 a2 (1 : Int32) m3) (by omega) (Nat.le_of_ble_eq_true rfl) rfl rfl rfl rfl (Nat.le_of_ble_eq_true rfl) zd_N_cell_36 (fun r3 m4 => ?_)
      refine nk_putI C zp_N_42 (Nat.le_of_ble_eq_true rfl) rfl rfl zd_N_cell_39 (fun m5 => ?_)
      refine nk_aload_n C zd_N_cell_42 rfl rfl ?_
      refine nk_getI C za_N_42 (Nat.le_of_ble_eq_true rfl) rfl rfl zd_N_cell_43 ?_
      refine nk_if_ne (tgt := 62) C zd_N_cell_46 (by decide) ?_ ?_
      · refine nk_ldc2 (v := -9223372036854775808) C zw_454 zd_N_cell_62 ?_
        refine nk_wk [true, false, false, false] ?_
        exact zs_N_cell_b65 C hR hr (-9223372036854775808 : Int64) m5
      · refine nk_aload_n C zd_N_cell_49 rfl rfl ?_
        refine nk_getR C (r := 5) za_N_38 (Nat.le_of_ble_eq_true rfl) rfl rfl zd_N_cell_50 ?_
        refine nk_iload_n C zd_N_cell_53 rfl rfl ?_
        refine nk_iload_n C zd_N_cell_54 rfl rfl ?_
        refine nk_callVi C [.int a1, .int a2] zv_N_157 hR (zc_S_at a1 a2 m5) (by omega) (Nat.le_of_ble_eq_true rfl) rfl rfl rfl rfl (Nat.le_of_ble_eq_true rfl) zd_N_cell_55 (fun r4 m6 => ?_)
        refine nk_i2l C zd_N_cell_58 ?_
        refine nk_goto (tgt := 65) C zd_N_cell_59 (by decide) ?_
        refine nk_wk [true, false, false, false] ?_
        exact zs_N_cell_b65 C hR hr (r4.toInt64) m6
    · refine nk_wk [true, false, false, false] ?_
      exact zs_N_cell_b23 C hR hr m3
theorem zd_S_moveFault_0 : decode zb_S_moveFault 0 = .ok (.aload_n 0, 1) := by decide +kernel
theorem zd_S_moveFault_1 : decode zb_S_moveFault 1 = .ok (.getfield 16, 3) := by decide +kernel
theorem zd_S_moveFault_4 : decode zb_S_moveFault 4 = .ok (.iload_n 1, 1) := by decide +kernel
theorem zd_S_moveFault_5 : decode zb_S_moveFault 5 = .ok (.iaload, 1) := by decide +kernel
theorem zd_S_moveFault_6 : decode zb_S_moveFault 6 = .ok (.iconst (-1), 1) := by decide +kernel
theorem zd_S_moveFault_7 : decode zb_S_moveFault 7 = .ok (.if_icmp .eq 13, 3) := by decide +kernel
theorem zd_S_moveFault_10 : decode zb_S_moveFault 10 = .ok (.aload_n 0, 1) := by decide +kernel
theorem zd_S_moveFault_11 : decode zb_S_moveFault 11 = .ok (.getfield 16, 3) := by decide +kernel
theorem zd_S_moveFault_14 : decode zb_S_moveFault 14 = .ok (.iload_n 3, 1) := by decide +kernel
theorem zd_S_moveFault_15 : decode zb_S_moveFault 15 = .ok (.iaload, 1) := by decide +kernel
theorem zd_S_moveFault_16 : decode zb_S_moveFault 16 = .ok (.iconst (-1), 1) := by decide +kernel
theorem zd_S_moveFault_17 : decode zb_S_moveFault 17 = .ok (.if_icmp .ne 5, 3) := by decide +kernel
theorem zd_S_moveFault_20 : decode zb_S_moveFault 20 = .ok (.iconst 1, 1) := by decide +kernel
theorem zd_S_moveFault_21 : decode zb_S_moveFault 21 = .ok (.ireturn, 1) := by decide +kernel
theorem zd_S_moveFault_22 : decode zb_S_moveFault 22 = .ok (.aload_n 0, 1) := by decide +kernel
theorem zd_S_moveFault_23 : decode zb_S_moveFault 23 = .ok (.getfield 16, 3) := by decide +kernel
theorem zd_S_moveFault_26 : decode zb_S_moveFault 26 = .ok (.iload_n 1, 1) := by decide +kernel
theorem zd_S_moveFault_27 : decode zb_S_moveFault 27 = .ok (.iaload, 1) := by decide +kernel
theorem zd_S_moveFault_28 : decode zb_S_moveFault 28 = .ok (.aload_n 0, 1) := by decide +kernel
theorem zd_S_moveFault_29 : decode zb_S_moveFault 29 = .ok (.getfield 16, 3) := by decide +kernel
theorem zd_S_moveFault_32 : decode zb_S_moveFault 32 = .ok (.iload_n 3, 1) := by decide +kernel
theorem zd_S_moveFault_33 : decode zb_S_moveFault 33 = .ok (.iaload, 1) := by decide +kernel
theorem zd_S_moveFault_34 : decode zb_S_moveFault 34 = .ok (.if_icmp .eq 5, 3) := by decide +kernel
theorem zd_S_moveFault_37 : decode zb_S_moveFault 37 = .ok (.iconst 2, 1) := by decide +kernel
theorem zd_S_moveFault_38 : decode zb_S_moveFault 38 = .ok (.ireturn, 1) := by decide +kernel
theorem zd_S_moveFault_39 : decode zb_S_moveFault 39 = .ok (.aload_n 0, 1) := by decide +kernel
theorem zd_S_moveFault_40 : decode zb_S_moveFault 40 = .ok (.iload_n 1, 1) := by decide +kernel
theorem zd_S_moveFault_41 : decode zb_S_moveFault 41 = .ok (.iload_n 2, 1) := by decide +kernel
theorem zd_S_moveFault_42 : decode zb_S_moveFault 42 = .ok (.iload 5, 2) := by decide +kernel
theorem zd_S_moveFault_44 : decode zb_S_moveFault 44 = .ok (.invokevirtual 29, 3) := by decide +kernel
theorem zd_S_moveFault_47 : decode zb_S_moveFault 47 = .ok (.ifCond .eq 19, 3) := by decide +kernel
theorem zd_S_moveFault_50 : decode zb_S_moveFault 50 = .ok (.aload_n 0, 1) := by decide +kernel
theorem zd_S_moveFault_51 : decode zb_S_moveFault 51 = .ok (.iload_n 3, 1) := by decide +kernel
theorem zd_S_moveFault_52 : decode zb_S_moveFault 52 = .ok (.iload 4, 2) := by decide +kernel
theorem zd_S_moveFault_54 : decode zb_S_moveFault 54 = .ok (.iload 5, 2) := by decide +kernel
theorem zd_S_moveFault_56 : decode zb_S_moveFault 56 = .ok (.invokevirtual 29, 3) := by decide +kernel
theorem zd_S_moveFault_59 : decode zb_S_moveFault 59 = .ok (.ifCond .eq 7, 3) := by decide +kernel
theorem zd_S_moveFault_62 : decode zb_S_moveFault 62 = .ok (.iconst 0, 1) := by decide +kernel
theorem zd_S_moveFault_63 : decode zb_S_moveFault 63 = .ok (.goto 4, 3) := by decide +kernel
theorem zd_S_moveFault_66 : decode zb_S_moveFault 66 = .ok (.iconst 3, 1) := by decide +kernel
theorem zd_S_moveFault_67 : decode zb_S_moveFault 67 = .ok (.ireturn, 1) := by decide +kernel
def zf_S_moveFault_b20   (m0 : nk_M) : Option (Int32 × nk_M) := some ((1 : Int32), m0)
set_option maxHeartbeats 4000000 in
set_option maxRecDepth 100000 in
theorem zs_S_moveFault_b20 {G : nk_V} {X : nk_X}   (C : nk_C "NeedOnce$Sheets" zb_S_moveFault 6 nk_wC G X) (hR : X.2.2.2.1 = nk_rm 2) (hr : X.2.2.2.2.2.2.2.2.1.sig.returnType = (some .int))  : ∀  (m0 : nk_M), nk_Sim nk_wC G X 6 nk_oi 20 [nk_r G 5, .null, .null, .null, .null, .null] [] m0 (zf_S_moveFault_b20  m0) := by
  intro m0
  unfold zf_S_moveFault_b20
  refine nk_iconst (v := 1) C zd_S_moveFault_20 (by decide) ?_
  exact nk_iret C hr zd_S_moveFault_21
def zf_S_moveFault_b67  (u0 : Int32) (m0 : nk_M) : Option (Int32 × nk_M) := some (u0, m0)
set_option maxHeartbeats 4000000 in
set_option maxRecDepth 100000 in
theorem zs_S_moveFault_b67 {G : nk_V} {X : nk_X}   (C : nk_C "NeedOnce$Sheets" zb_S_moveFault 6 nk_wC G X) (hR : X.2.2.2.1 = nk_rm 2) (hr : X.2.2.2.2.2.2.2.2.1.sig.returnType = (some .int))  : ∀ (u0 : Int32) (m0 : nk_M), nk_Sim nk_wC G X 6 nk_oi 67 [nk_r G 5, .null, .null, .null, .null, .null] [.int u0] m0 (zf_S_moveFault_b67 u0 m0) := by
  intro u0 m0
  unfold zf_S_moveFault_b67
  exact nk_iret C hr zd_S_moveFault_67
def zf_S_moveFault_b66   (m0 : nk_M) : Option (Int32 × nk_M) := (zf_S_moveFault_b67 (3 : Int32) m0)
set_option maxHeartbeats 4000000 in
set_option maxRecDepth 100000 in
theorem zs_S_moveFault_b66 {G : nk_V} {X : nk_X}   (C : nk_C "NeedOnce$Sheets" zb_S_moveFault 6 nk_wC G X) (hR : X.2.2.2.1 = nk_rm 2) (hr : X.2.2.2.2.2.2.2.2.1.sig.returnType = (some .int))  : ∀  (m0 : nk_M), nk_Sim nk_wC G X 6 nk_oi 66 [nk_r G 5, .null, .null, .null, .null, .null] [] m0 (zf_S_moveFault_b66  m0) := by
  intro m0
  unfold zf_S_moveFault_b66
  refine nk_iconst (v := 3) C zd_S_moveFault_66 (by decide) ?_
  exact zs_S_moveFault_b67 C hR hr (3 : Int32) m0
def zf_S_moveFault  (a1 : Int32) (a2 : Int32) (a3 : Int32) (a4 : Int32) (a5 : Int32) (m0 : nk_M) : Option (Int32 × nk_M) := nk_ald m0 31 4 a1 (fun x1 => (if x1 = (-1 : Int32) then (zf_S_moveFault_b20 m0) else nk_ald m0 31 4 a3 (fun x2 => (if x2 = (-1 : Int32) then (zf_S_moveFault_b20 m0) else nk_ald m0 31 4 a1 (fun x3 => nk_ald m0 31 4 a3 (fun x4 => (if x3 = x4 then nk_bd (zf_S_isRange a1 a2 a5 m0) (fun r5 m1 => (if r5 = 0 then (zf_S_moveFault_b66 m1) else nk_bd (zf_S_isRange a3 a4 a5 m1) (fun r6 m2 => (if r6 = 0 then (zf_S_moveFault_b66 m2) else (zf_S_moveFault_b67 (0 : Int32) m2))))) else some ((2 : Int32), m0))))))))
set_option maxHeartbeats 4000000 in
set_option maxRecDepth 100000 in
theorem zc_S_moveFault {l : Launch} {G : nk_V}   (a1 : Int32) (a2 : Int32) (a3 : Int32) (a4 : Int32) (a5 : Int32) (m0 : nk_M) : nk_Ct l nk_wC G 2 zy_S_moveFault zb_S_moveFault 6 (some .int) nk_oi [nk_r G 5, .int a1, .int a2, .int a3, .int a4, .int a5] m0 (zf_S_moveFault  a1 a2 a3 a4 a5 m0) := by
  refine nk_ent (own := "NeedOnce$Sheets") (lv := [nk_r G 5, .int a1, .int a2, .int a3, .int a4, .int a5]) 0 rfl (by decide) (Nat.le_of_ble_eq_true rfl) rfl (fun X hl hR C hr => ?_)
  subst hl
  unfold zf_S_moveFault
  refine nk_aload_n C zd_S_moveFault_0 rfl rfl ?_
  refine nk_getR C (r := 31) za_S_16 (Nat.le_of_ble_eq_true rfl) rfl rfl zd_S_moveFault_1 ?_
  refine nk_iload_n C zd_S_moveFault_4 rfl rfl ?_
  refine nk_iald C (Nat.le_of_ble_eq_true rfl) rfl zd_S_moveFault_5 (fun x1 => ?_)
  refine nk_iconst (v := -1) C zd_S_moveFault_6 (by decide) ?_
  refine nk_icmp_eq (tgt := 20) C zd_S_moveFault_7 (by decide) ?_ ?_
  · refine nk_wk [true, false, false, false, false, false] ?_
    exact zs_S_moveFault_b20 C hR hr m0
  · refine nk_aload_n C zd_S_moveFault_10 rfl rfl ?_
    refine nk_getR C (r := 31) za_S_16 (Nat.le_of_ble_eq_true rfl) rfl rfl zd_S_moveFault_11 ?_
    refine nk_iload_n C zd_S_moveFault_14 rfl rfl ?_
    refine nk_iald C (Nat.le_of_ble_eq_true rfl) rfl zd_S_moveFault_15 (fun x2 => ?_)
    refine nk_iconst (v := -1) C zd_S_moveFault_16 (by decide) ?_
    refine nk_icmp_ne (tgt := 22) C zd_S_moveFault_17 (by decide) ?_ ?_
    · refine nk_aload_n C zd_S_moveFault_22 rfl rfl ?_
      refine nk_getR C (r := 31) za_S_16 (Nat.le_of_ble_eq_true rfl) rfl rfl zd_S_moveFault_23 ?_
      refine nk_iload_n C zd_S_moveFault_26 rfl rfl ?_
      refine nk_iald C (Nat.le_of_ble_eq_true rfl) rfl zd_S_moveFault_27 (fun x3 => ?_)
      refine nk_aload_n C zd_S_moveFault_28 rfl rfl ?_
      refine nk_getR C (r := 31) za_S_16 (Nat.le_of_ble_eq_true rfl) rfl rfl zd_S_moveFault_29 ?_
      refine nk_iload_n C zd_S_moveFault_32 rfl rfl ?_
      refine nk_iald C (Nat.le_of_ble_eq_true rfl) rfl zd_S_moveFault_33 (fun x4 => ?_)
      refine nk_icmp_eq (tgt := 39) C zd_S_moveFault_34 (by decide) ?_ ?_
      · refine nk_aload_n C zd_S_moveFault_39 rfl rfl ?_
        refine nk_iload_n C zd_S_moveFault_40 rfl rfl ?_
        refine nk_iload_n C zd_S_moveFault_41 rfl rfl ?_
        refine nk_iload C zd_S_moveFault_42 rfl ?_
        refine nk_callVi C [.int a1, .int a2, .int a5] zv_S_29 hR (zc_S_isRange a1 a2 a5 m0) (by omega) (Nat.le_of_ble_eq_true rfl) rfl rfl rfl rfl (Nat.le_of_ble_eq_true rfl) zd_S_moveFault_44 (fun r5 m1 => ?_)
        refine nk_if_eq (tgt := 66) C zd_S_moveFault_47 (by decide) ?_ ?_
        · refine nk_wk [true, false, false, false, false, false] ?_
          exact zs_S_moveFault_b66 C hR hr m1
        · refine nk_aload_n C zd_S_moveFault_50 rfl rfl ?_
          refine nk_iload_n C zd_S_moveFault_51 rfl rfl ?_
          refine nk_iload C zd_S_moveFault_52 rfl ?_
          refine nk_iload C zd_S_moveFault_54 rfl ?_
          refine nk_callVi C [.int a3, .int a4, .int a5] zv_S_29 hR (zc_S_isRange a3 a4 a5 m1) (by omega) (Nat.le_of_ble_eq_true rfl) rfl rfl rfl rfl (Nat.le_of_ble_eq_true rfl) zd_S_moveFault_56 (fun r6 m2 => ?_)
          refine nk_if_eq (tgt := 66) C zd_S_moveFault_59 (by decide) ?_ ?_
          · refine nk_wk [true, false, false, false, false, false] ?_
            exact zs_S_moveFault_b66 C hR hr m2
          · refine nk_iconst (v := 0) C zd_S_moveFault_62 (by decide) ?_
            refine nk_goto (tgt := 67) C zd_S_moveFault_63 (by decide) ?_
            refine nk_wk [true, false, false, false, false, false] ?_
            exact zs_S_moveFault_b67 C hR hr (0 : Int32) m2
      · refine nk_iconst (v := 2) C zd_S_moveFault_37 (by decide) ?_
        exact nk_iret C hr zd_S_moveFault_38
    · refine nk_wk [true, false, false, false, false, false] ?_
      exact zs_S_moveFault_b20 C hR hr m0
theorem zd_S_move_0 : decode zb_S_move 0 = .ok (.aload_n 0, 1) := by decide +kernel
theorem zd_S_move_1 : decode zb_S_move 1 = .ok (.getfield 11, 3) := by decide +kernel
theorem zd_S_move_4 : decode zb_S_move 4 = .ok (.iload_n 1, 1) := by decide +kernel
theorem zd_S_move_5 : decode zb_S_move 5 = .ok (.aaload, 1) := by decide +kernel
theorem zd_S_move_6 : decode zb_S_move 6 = .ok (.iload_n 2, 1) := by decide +kernel
theorem zd_S_move_7 : decode zb_S_move 7 = .ok (.aload_n 0, 1) := by decide +kernel
theorem zd_S_move_8 : decode zb_S_move 8 = .ok (.getfield 11, 3) := by decide +kernel
theorem zd_S_move_11 : decode zb_S_move 11 = .ok (.iload_n 3, 1) := by decide +kernel
theorem zd_S_move_12 : decode zb_S_move 12 = .ok (.aaload, 1) := by decide +kernel
theorem zd_S_move_13 : decode zb_S_move 13 = .ok (.iload 4, 2) := by decide +kernel
theorem zd_S_move_15 : decode zb_S_move 15 = .ok (.iload 5, 2) := by decide +kernel
theorem zd_S_move_17 : decode zb_S_move 17 = .ok (.invokestatic 33, 3) := by decide +kernel
theorem zd_S_move_20 : decode zb_S_move 20 = .ok (.return_, 1) := by decide +kernel
def zf_S_move  (a1 : Int32) (a2 : Int32) (a3 : Int32) (a4 : Int32) (a5 : Int32) (m0 : nk_M) : Option (Unit × nk_M) := nk_ard 4 a1 (nk_ard 4 a3 (nk_cpy m0 (27 + Int32.toNatClampNeg a1) 60 a2 (27 + Int32.toNatClampNeg a3) 60 a4 a5 (fun m1 => some ((), m1))))
set_option maxHeartbeats 4000000 in
set_option maxRecDepth 100000 in
theorem zc_S_move {l : Launch} {G : nk_V}   (a1 : Int32) (a2 : Int32) (a3 : Int32) (a4 : Int32) (a5 : Int32) (m0 : nk_M) : nk_Ct l nk_wC G 1 zy_S_move zb_S_move 6 none nk_ov [nk_r G 5, .int a1, .int a2, .int a3, .int a4, .int a5] m0 (zf_S_move  a1 a2 a3 a4 a5 m0) := by
  refine nk_ent (own := "NeedOnce$Sheets") (lv := [nk_r G 5, .int a1, .int a2, .int a3, .int a4, .int a5]) 0 rfl (by decide) (Nat.le_of_ble_eq_true rfl) rfl (fun X hl hR C hr => ?_)
  subst hl
  unfold zf_S_move
  refine nk_aload_n C zd_S_move_0 rfl rfl ?_
  refine nk_getR C (r := 26) za_S_11 (Nat.le_of_ble_eq_true rfl) rfl rfl zd_S_move_1 ?_
  refine nk_iload_n C zd_S_move_4 rfl rfl ?_
  refine nk_aald C (Nat.le_of_ble_eq_true rfl) rfl zd_S_move_5 (fun hi1 => ?_)
  refine nk_iload_n C zd_S_move_6 rfl rfl ?_
  refine nk_aload_n C zd_S_move_7 rfl rfl ?_
  refine nk_getR C (r := 26) za_S_11 (Nat.le_of_ble_eq_true rfl) rfl rfl zd_S_move_8 ?_
  refine nk_iload_n C zd_S_move_11 rfl rfl ?_
  refine nk_aald C (Nat.le_of_ble_eq_true rfl) rfl zd_S_move_12 (fun hi2 => ?_)
  refine nk_iload C zd_S_move_13 rfl ?_
  refine nk_iload C zd_S_move_15 rfl ?_
  refine nk_acopy C hR zw_500 zw_256 zw_255 zw_8 (nkc_rk hi1) (nkc_rs hi1) (nkc_rk hi2) (nkc_rs hi2) (Nat.le_of_ble_eq_true rfl) zd_S_move_17 (fun m1 => ?_)
  exact nk_vret C hr zd_S_move_20
theorem zd_N_copy_0 : decode zb_N_copy 0 = .ok (.aload_n 0, 1) := by decide +kernel
theorem zd_N_copy_1 : decode zb_N_copy 1 = .ok (.iconst 0, 1) := by decide +kernel
theorem zd_N_copy_2 : decode zb_N_copy 2 = .ok (.putfield 42, 3) := by decide +kernel
theorem zd_N_copy_5 : decode zb_N_copy 5 = .ok (.aload_n 0, 1) := by decide +kernel
theorem zd_N_copy_6 : decode zb_N_copy 6 = .ok (.getfield 38, 3) := by decide +kernel
theorem zd_N_copy_9 : decode zb_N_copy 9 = .ok (.iload_n 1, 1) := by decide +kernel
theorem zd_N_copy_10 : decode zb_N_copy 10 = .ok (.invokevirtual 46, 3) := by decide +kernel
theorem zd_N_copy_13 : decode zb_N_copy 13 = .ok (.ifCond .eq 14, 3) := by decide +kernel
theorem zd_N_copy_16 : decode zb_N_copy 16 = .ok (.aload_n 0, 1) := by decide +kernel
theorem zd_N_copy_17 : decode zb_N_copy 17 = .ok (.getfield 38, 3) := by decide +kernel
theorem zd_N_copy_20 : decode zb_N_copy 20 = .ok (.iload_n 3, 1) := by decide +kernel
theorem zd_N_copy_21 : decode zb_N_copy 21 = .ok (.invokevirtual 46, 3) := by decide +kernel
theorem zd_N_copy_24 : decode zb_N_copy 24 = .ok (.ifCond .ne 5, 3) := by decide +kernel
theorem zd_N_copy_27 : decode zb_N_copy 27 = .ok (.iconst (-1), 1) := by decide +kernel
theorem zd_N_copy_28 : decode zb_N_copy 28 = .ok (.ireturn, 1) := by decide +kernel
theorem zd_N_copy_29 : decode zb_N_copy 29 = .ok (.aload_n 0, 1) := by decide +kernel
theorem zd_N_copy_30 : decode zb_N_copy 30 = .ok (.getfield 38, 3) := by decide +kernel
theorem zd_N_copy_33 : decode zb_N_copy 33 = .ok (.iload_n 1, 1) := by decide +kernel
theorem zd_N_copy_34 : decode zb_N_copy 34 = .ok (.iload_n 2, 1) := by decide +kernel
theorem zd_N_copy_35 : decode zb_N_copy 35 = .ok (.iload_n 3, 1) := by decide +kernel
theorem zd_N_copy_36 : decode zb_N_copy 36 = .ok (.iload 4, 2) := by decide +kernel
theorem zd_N_copy_38 : decode zb_N_copy 38 = .ok (.iload 5, 2) := by decide +kernel
theorem zd_N_copy_40 : decode zb_N_copy 40 = .ok (.invokevirtual 201, 3) := by decide +kernel
theorem zd_N_copy_43 : decode zb_N_copy 43 = .ok (.istore 6, 2) := by decide +kernel
theorem zd_N_copy_45 : decode zb_N_copy 45 = .ok (.iload 6, 2) := by decide +kernel
theorem zd_N_copy_47 : decode zb_N_copy 47 = .ok (.ifCond .eq 10, 3) := by decide +kernel
theorem zd_N_copy_50 : decode zb_N_copy 50 = .ok (.aload_n 0, 1) := by decide +kernel
theorem zd_N_copy_51 : decode zb_N_copy 51 = .ok (.iload 6, 2) := by decide +kernel
theorem zd_N_copy_53 : decode zb_N_copy 53 = .ok (.invokevirtual 57, 3) := by decide +kernel
theorem zd_N_copy_56 : decode zb_N_copy 56 = .ok (.ireturn, 1) := by decide +kernel
theorem zd_N_copy_57 : decode zb_N_copy 57 = .ok (.aload_n 0, 1) := by decide +kernel
theorem zd_N_copy_58 : decode zb_N_copy 58 = .ok (.getfield 38, 3) := by decide +kernel
theorem zd_N_copy_61 : decode zb_N_copy 61 = .ok (.iload_n 1, 1) := by decide +kernel
theorem zd_N_copy_62 : decode zb_N_copy 62 = .ok (.iload_n 2, 1) := by decide +kernel
theorem zd_N_copy_63 : decode zb_N_copy 63 = .ok (.iload_n 3, 1) := by decide +kernel
theorem zd_N_copy_64 : decode zb_N_copy 64 = .ok (.iload 4, 2) := by decide +kernel
theorem zd_N_copy_66 : decode zb_N_copy 66 = .ok (.iload 5, 2) := by decide +kernel
theorem zd_N_copy_68 : decode zb_N_copy 68 = .ok (.invokevirtual 205, 3) := by decide +kernel
theorem zd_N_copy_71 : decode zb_N_copy 71 = .ok (.iload 5, 2) := by decide +kernel
theorem zd_N_copy_73 : decode zb_N_copy 73 = .ok (.ireturn, 1) := by decide +kernel
def zf_N_copy_b27   (m0 : nk_M) : Option (Int32 × nk_M) := some ((-1 : Int32), m0)
set_option maxHeartbeats 4000000 in
set_option maxRecDepth 100000 in
theorem zs_N_copy_b27 {G : nk_V} {X : nk_X}   (C : nk_C "NeedOnce" zb_N_copy 7 nk_wC G X) (hR : X.2.2.2.1 = nk_rm 3) (hr : X.2.2.2.2.2.2.2.2.1.sig.returnType = (some .int))  : ∀  (m0 : nk_M), nk_Sim nk_wC G X 7 nk_oi 27 [nk_r G 0, .null, .null, .null, .null, .null, .null] [] m0 (zf_N_copy_b27  m0) := by
  intro m0
  unfold zf_N_copy_b27
  refine nk_iconst (v := -1) C zd_N_copy_27 (by decide) ?_
  exact nk_iret C hr zd_N_copy_28
def zf_N_copy  (a1 : Int32) (a2 : Int32) (a3 : Int32) (a4 : Int32) (a5 : Int32) (m0 : nk_M) : Option (Int32 × nk_M) := nk_pf m0 0 6 (0 : Int32) (fun m1 => nk_bd (zf_S_has a1 m1) (fun r1 m2 => (if r1 = 0 then (zf_N_copy_b27 m2) else nk_bd (zf_S_has a3 m2) (fun r2 m3 => (if r2 = 0 then (zf_N_copy_b27 m3) else nk_bd (zf_S_moveFault a1 a2 a3 a4 a5 m3) (fun r3 m4 => (if r3 = 0 then nk_bd (zf_S_move a1 a2 a3 a4 a5 m4) (fun _ m5 => some (a5, m5)) else nk_bd (zf_N_faulted r3 m4) (fun r5 m6 => some (r5, m6)))))))))
set_option maxHeartbeats 4000000 in
set_option maxRecDepth 100000 in
theorem zc_N_copy {l : Launch} {G : nk_V}   (a1 : Int32) (a2 : Int32) (a3 : Int32) (a4 : Int32) (a5 : Int32) (m0 : nk_M) : nk_Ct l nk_wC G 3 zy_N_copy zb_N_copy 7 (some .int) nk_oi [nk_r G 0, .int a1, .int a2, .int a3, .int a4, .int a5] m0 (zf_N_copy  a1 a2 a3 a4 a5 m0) := by
  refine nk_ent (own := "NeedOnce") (lv := [nk_r G 0, .int a1, .int a2, .int a3, .int a4, .int a5, .null]) 1 rfl (by decide) (Nat.le_of_ble_eq_true rfl) rfl (fun X hl hR C hr => ?_)
  subst hl
  unfold zf_N_copy
  refine nk_aload_n C zd_N_copy_0 rfl rfl ?_
  refine nk_iconst (v := 0) C zd_N_copy_1 (by decide) ?_
  refine nk_putI C zp_N_42 (Nat.le_of_ble_eq_true rfl) rfl rfl zd_N_copy_2 (fun m1 => ?_)
  refine nk_aload_n C zd_N_copy_5 rfl rfl ?_
  refine nk_getR C (r := 5) za_N_38 (Nat.le_of_ble_eq_true rfl) rfl rfl zd_N_copy_6 ?_
  refine nk_iload_n C zd_N_copy_9 rfl rfl ?_
  refine nk_callVi C [.int a1] zv_N_46 hR (zc_S_has a1 m1) (by omega) (Nat.le_of_ble_eq_true rfl) rfl rfl rfl rfl (Nat.le_of_ble_eq_true rfl) zd_N_copy_10 (fun r1 m2 => ?_)
  refine nk_if_eq (tgt := 27) C zd_N_copy_13 (by decide) ?_ ?_
  · refine nk_wk [true, false, false, false, false, false, false] ?_
    exact zs_N_copy_b27 C hR hr m2
  · refine nk_aload_n C zd_N_copy_16 rfl rfl ?_
    refine nk_getR C (r := 5) za_N_38 (Nat.le_of_ble_eq_true rfl) rfl rfl zd_N_copy_17 ?_
    refine nk_iload_n C zd_N_copy_20 rfl rfl ?_
    refine nk_callVi C [.int a3] zv_N_46 hR (zc_S_has a3 m2) (by omega) (Nat.le_of_ble_eq_true rfl) rfl rfl rfl rfl (Nat.le_of_ble_eq_true rfl) zd_N_copy_21 (fun r2 m3 => ?_)
    refine nk_if_ne (tgt := 29) C zd_N_copy_24 (by decide) ?_ ?_
    · refine nk_aload_n C zd_N_copy_29 rfl rfl ?_
      refine nk_getR C (r := 5) za_N_38 (Nat.le_of_ble_eq_true rfl) rfl rfl zd_N_copy_30 ?_
      refine nk_iload_n C zd_N_copy_33 rfl rfl ?_
      refine nk_iload_n C zd_N_copy_34 rfl rfl ?_
      refine nk_iload_n C zd_N_copy_35 rfl rfl ?_
      refine nk_iload C zd_N_copy_36 rfl ?_
      refine nk_iload C zd_N_copy_38 rfl ?_
      refine nk_callVi C [.int a1, .int a2, .int a3, .int a4, .int a5] zv_N_201 hR (zc_S_moveFault a1 a2 a3 a4 a5 m3) (by omega) (Nat.le_of_ble_eq_true rfl) rfl rfl rfl rfl (Nat.le_of_ble_eq_true rfl) zd_N_copy_40 (fun r3 m4 => ?_)
      refine nk_istore C zd_N_copy_43 (Nat.le_of_ble_eq_true rfl) rfl ?_
      refine nk_iload C zd_N_copy_45 rfl ?_
      refine nk_if_eq (tgt := 57) C zd_N_copy_47 (by decide) ?_ ?_
      · refine nk_aload_n C zd_N_copy_57 rfl rfl ?_
        refine nk_getR C (r := 5) za_N_38 (Nat.le_of_ble_eq_true rfl) rfl rfl zd_N_copy_58 ?_
        refine nk_iload_n C zd_N_copy_61 rfl rfl ?_
        refine nk_iload_n C zd_N_copy_62 rfl rfl ?_
        refine nk_iload_n C zd_N_copy_63 rfl rfl ?_
        refine nk_iload C zd_N_copy_64 rfl ?_
        refine nk_iload C zd_N_copy_66 rfl ?_
        refine nk_callVv C [.int a1, .int a2, .int a3, .int a4, .int a5] zv_N_205 hR (zc_S_move a1 a2 a3 a4 a5 m4) (by omega) (Nat.le_of_ble_eq_true rfl) rfl rfl rfl rfl (Nat.le_of_ble_eq_true rfl) zd_N_copy_68 (fun m5 => ?_)
        refine nk_iload C zd_N_copy_71 rfl ?_
        exact nk_iret C hr zd_N_copy_73
      · refine nk_aload_n C zd_N_copy_50 rfl rfl ?_
        refine nk_iload C zd_N_copy_51 rfl ?_
        refine nk_callVi C [.int r3] zv_N_57 hR (zc_N_faulted r3 m4) (by omega) (Nat.le_of_ble_eq_true rfl) rfl rfl rfl rfl (Nat.le_of_ble_eq_true rfl) zd_N_copy_53 (fun r5 m6 => ?_)
        exact nk_iret C hr zd_N_copy_56
    · refine nk_wk [true, false, false, false, false, false, false] ?_
      exact zs_N_copy_b27 C hR hr m3
theorem zd_N_leaveTrace_0 : decode zb_N_leaveTrace 0 = .ok (.aload_n 0, 1) := by decide +kernel
theorem zd_N_leaveTrace_1 : decode zb_N_leaveTrace 1 = .ok (.bipush 31, 2) := by decide +kernel
theorem zd_N_leaveTrace_3 : decode zb_N_leaveTrace 3 = .ok (.aload_n 0, 1) := by decide +kernel
theorem zd_N_leaveTrace_4 : decode zb_N_leaveTrace 4 = .ok (.getfield 222, 3) := by decide +kernel
theorem zd_N_leaveTrace_7 : decode zb_N_leaveTrace 7 = .ok (.imul, 1) := by decide +kernel
theorem zd_N_leaveTrace_8 : decode zb_N_leaveTrace 8 = .ok (.iload_n 1, 1) := by decide +kernel
theorem zd_N_leaveTrace_9 : decode zb_N_leaveTrace 9 = .ok (.iadd, 1) := by decide +kernel
theorem zd_N_leaveTrace_10 : decode zb_N_leaveTrace 10 = .ok (.putfield 222, 3) := by decide +kernel
theorem zd_N_leaveTrace_13 : decode zb_N_leaveTrace 13 = .ok (.return_, 1) := by decide +kernel
def zf_N_leaveTrace  (a1 : Int32) (m0 : nk_M) : Option (Unit × nk_M) := nk_pf m0 0 5 (((31 : Int32) * (m0 0 5)) + a1) (fun m1 => some ((), m1))
set_option maxHeartbeats 4000000 in
set_option maxRecDepth 100000 in
theorem zc_N_leaveTrace {l : Launch} {G : nk_V}   (a1 : Int32) (m0 : nk_M) : nk_Ct l nk_wC G 1 zy_N_leaveTrace zb_N_leaveTrace 2 none nk_ov [nk_r G 0, .int a1] m0 (zf_N_leaveTrace  a1 m0) := by
  refine nk_ent (own := "NeedOnce") (lv := [nk_r G 0, .int a1]) 0 rfl (by decide) (Nat.le_of_ble_eq_true rfl) rfl (fun X hl hR C hr => ?_)
  subst hl
  unfold zf_N_leaveTrace
  refine nk_aload_n C zd_N_leaveTrace_0 rfl rfl ?_
  refine nk_bipush (v := 31) C zd_N_leaveTrace_1 (by decide) ?_
  refine nk_aload_n C zd_N_leaveTrace_3 rfl rfl ?_
  refine nk_getI C za_N_222 (Nat.le_of_ble_eq_true rfl) rfl rfl zd_N_leaveTrace_4 ?_
  refine nk_imul C zd_N_leaveTrace_7 ?_
  refine nk_iload_n C zd_N_leaveTrace_8 rfl rfl ?_
  refine nk_iadd C zd_N_leaveTrace_9 ?_
  refine nk_putI C zp_N_222 (Nat.le_of_ble_eq_true rfl) rfl rfl zd_N_leaveTrace_10 (fun m1 => ?_)
  exact nk_vret C hr zd_N_leaveTrace_13
theorem zd_N_tellPlain_0 : decode zb_N_tellPlain 0 = .ok (.aload_n 0, 1) := by decide +kernel
theorem zd_N_tellPlain_1 : decode zb_N_tellPlain 1 = .ok (.iconst 1, 1) := by decide +kernel
theorem zd_N_tellPlain_2 : decode zb_N_tellPlain 2 = .ok (.invokevirtual 218, 3) := by decide +kernel
theorem zd_N_tellPlain_5 : decode zb_N_tellPlain 5 = .ok (.aload_n 0, 1) := by decide +kernel
theorem zd_N_tellPlain_6 : decode zb_N_tellPlain 6 = .ok (.getfield 12, 3) := by decide +kernel
theorem zd_N_tellPlain_9 : decode zb_N_tellPlain 9 = .ok (.getfield 85, 3) := by decide +kernel
theorem zd_N_tellPlain_12 : decode zb_N_tellPlain 12 = .ok (.iload_n 1, 1) := by decide +kernel
theorem zd_N_tellPlain_13 : decode zb_N_tellPlain 13 = .ok (.iaload, 1) := by decide +kernel
theorem zd_N_tellPlain_14 : decode zb_N_tellPlain 14 = .ok (.ireturn, 1) := by decide +kernel
def zf_N_tellPlain  (a1 : Int32) (m0 : nk_M) : Option (Int32 × nk_M) := nk_bd (zf_N_leaveTrace (1 : Int32) m0) (fun _ m1 => nk_ald m1 7 8 a1 (fun x2 => some (x2, m1)))
set_option maxHeartbeats 4000000 in
set_option maxRecDepth 100000 in
theorem zc_N_tellPlain {l : Launch} {G : nk_V}   (a1 : Int32) (m0 : nk_M) : nk_Ct l nk_wC G 2 zy_N_tellPlain zb_N_tellPlain 2 (some .int) nk_oi [nk_r G 0, .int a1] m0 (zf_N_tellPlain  a1 m0) := by
  refine nk_ent (own := "NeedOnce") (lv := [nk_r G 0, .int a1]) 0 rfl (by decide) (Nat.le_of_ble_eq_true rfl) rfl (fun X hl hR C hr => ?_)
  subst hl
  unfold zf_N_tellPlain
  refine nk_aload_n C zd_N_tellPlain_0 rfl rfl ?_
  refine nk_iconst (v := 1) C zd_N_tellPlain_1 (by decide) ?_
  refine nk_callVv C [.int (1 : Int32)] zv_N_218 hR (zc_N_leaveTrace (1 : Int32) m0) (by omega) (Nat.le_of_ble_eq_true rfl) rfl rfl rfl rfl (Nat.le_of_ble_eq_true rfl) zd_N_tellPlain_2 (fun m1 => ?_)
  refine nk_aload_n C zd_N_tellPlain_5 rfl rfl ?_
  refine nk_getR C (r := 1) za_N_12 (Nat.le_of_ble_eq_true rfl) rfl rfl zd_N_tellPlain_6 ?_
  refine nk_getR C (r := 7) za_N_85 (Nat.le_of_ble_eq_true rfl) rfl rfl zd_N_tellPlain_9 ?_
  refine nk_iload_n C zd_N_tellPlain_12 rfl rfl ?_
  refine nk_iald C (Nat.le_of_ble_eq_true rfl) rfl zd_N_tellPlain_13 (fun x2 => ?_)
  exact nk_iret C hr zd_N_tellPlain_14
theorem zd_N_tellDear_0 : decode zb_N_tellDear 0 = .ok (.aload_n 0, 1) := by decide +kernel
theorem zd_N_tellDear_1 : decode zb_N_tellDear 1 = .ok (.iconst 2, 1) := by decide +kernel
theorem zd_N_tellDear_2 : decode zb_N_tellDear 2 = .ok (.invokevirtual 218, 3) := by decide +kernel
theorem zd_N_tellDear_5 : decode zb_N_tellDear 5 = .ok (.aload_n 0, 1) := by decide +kernel
theorem zd_N_tellDear_6 : decode zb_N_tellDear 6 = .ok (.iload_n 1, 1) := by decide +kernel
theorem zd_N_tellDear_7 : decode zb_N_tellDear 7 = .ok (.invokevirtual 215, 3) := by decide +kernel
theorem zd_N_tellDear_10 : decode zb_N_tellDear 10 = .ok (.bipush 100, 2) := by decide +kernel
theorem zd_N_tellDear_12 : decode zb_N_tellDear 12 = .ok (.iadd, 1) := by decide +kernel
theorem zd_N_tellDear_13 : decode zb_N_tellDear 13 = .ok (.ireturn, 1) := by decide +kernel
def zf_N_tellDear  (a1 : Int32) (m0 : nk_M) : Option (Int32 × nk_M) := nk_bd (zf_N_leaveTrace (2 : Int32) m0) (fun _ m1 => nk_bd (zf_N_tellPlain a1 m1) (fun r2 m2 => some (r2 + (100 : Int32), m2)))
set_option maxHeartbeats 4000000 in
set_option maxRecDepth 100000 in
theorem zc_N_tellDear {l : Launch} {G : nk_V}   (a1 : Int32) (m0 : nk_M) : nk_Ct l nk_wC G 3 zy_N_tellDear zb_N_tellDear 2 (some .int) nk_oi [nk_r G 0, .int a1] m0 (zf_N_tellDear  a1 m0) := by
  refine nk_ent (own := "NeedOnce") (lv := [nk_r G 0, .int a1]) 0 rfl (by decide) (Nat.le_of_ble_eq_true rfl) rfl (fun X hl hR C hr => ?_)
  subst hl
  unfold zf_N_tellDear
  refine nk_aload_n C zd_N_tellDear_0 rfl rfl ?_
  refine nk_iconst (v := 2) C zd_N_tellDear_1 (by decide) ?_
  refine nk_callVv C [.int (2 : Int32)] zv_N_218 hR (zc_N_leaveTrace (2 : Int32) m0) (by omega) (Nat.le_of_ble_eq_true rfl) rfl rfl rfl rfl (Nat.le_of_ble_eq_true rfl) zd_N_tellDear_2 (fun m1 => ?_)
  refine nk_aload_n C zd_N_tellDear_5 rfl rfl ?_
  refine nk_iload_n C zd_N_tellDear_6 rfl rfl ?_
  refine nk_callVi C [.int a1] zv_N_215 hR (zc_N_tellPlain a1 m1) (by omega) (Nat.le_of_ble_eq_true rfl) rfl rfl rfl rfl (Nat.le_of_ble_eq_true rfl) zd_N_tellDear_7 (fun r2 m2 => ?_)
  refine nk_bipush (v := 100) C zd_N_tellDear_10 (by decide) ?_
  refine nk_iadd C zd_N_tellDear_12 ?_
  exact nk_iret C hr zd_N_tellDear_13
theorem zd_N_tellDouble_0 : decode zb_N_tellDouble 0 = .ok (.aload_n 0, 1) := by decide +kernel
theorem zd_N_tellDouble_1 : decode zb_N_tellDouble 1 = .ok (.iconst 3, 1) := by decide +kernel
theorem zd_N_tellDouble_2 : decode zb_N_tellDouble 2 = .ok (.invokevirtual 218, 3) := by decide +kernel
theorem zd_N_tellDouble_5 : decode zb_N_tellDouble 5 = .ok (.aload_n 0, 1) := by decide +kernel
theorem zd_N_tellDouble_6 : decode zb_N_tellDouble 6 = .ok (.iload_n 1, 1) := by decide +kernel
theorem zd_N_tellDouble_7 : decode zb_N_tellDouble 7 = .ok (.invokevirtual 212, 3) := by decide +kernel
theorem zd_N_tellDouble_10 : decode zb_N_tellDouble 10 = .ok (.istore_n 2, 1) := by decide +kernel
theorem zd_N_tellDouble_11 : decode zb_N_tellDouble 11 = .ok (.iload_n 2, 1) := by decide +kernel
theorem zd_N_tellDouble_12 : decode zb_N_tellDouble 12 = .ok (.aload_n 0, 1) := by decide +kernel
theorem zd_N_tellDouble_13 : decode zb_N_tellDouble 13 = .ok (.iload_n 1, 1) := by decide +kernel
theorem zd_N_tellDouble_14 : decode zb_N_tellDouble 14 = .ok (.invokevirtual 215, 3) := by decide +kernel
theorem zd_N_tellDouble_17 : decode zb_N_tellDouble 17 = .ok (.iadd, 1) := by decide +kernel
theorem zd_N_tellDouble_18 : decode zb_N_tellDouble 18 = .ok (.ireturn, 1) := by decide +kernel
def zf_N_tellDouble  (a1 : Int32) (m0 : nk_M) : Option (Int32 × nk_M) := nk_bd (zf_N_leaveTrace (3 : Int32) m0) (fun _ m1 => nk_bd (zf_N_tellDear a1 m1) (fun r2 m2 => nk_bd (zf_N_tellPlain a1 m2) (fun r3 m3 => some (r2 + r3, m3))))
set_option maxHeartbeats 4000000 in
set_option maxRecDepth 100000 in
theorem zc_N_tellDouble {l : Launch} {G : nk_V}   (a1 : Int32) (m0 : nk_M) : nk_Ct l nk_wC G 4 zy_N_tellDouble zb_N_tellDouble 3 (some .int) nk_oi [nk_r G 0, .int a1] m0 (zf_N_tellDouble  a1 m0) := by
  refine nk_ent (own := "NeedOnce") (lv := [nk_r G 0, .int a1, .null]) 1 rfl (by decide) (Nat.le_of_ble_eq_true rfl) rfl (fun X hl hR C hr => ?_)
  subst hl
  unfold zf_N_tellDouble
  refine nk_aload_n C zd_N_tellDouble_0 rfl rfl ?_
  refine nk_iconst (v := 3) C zd_N_tellDouble_1 (by decide) ?_
  refine nk_callVv C [.int (3 : Int32)] zv_N_218 hR (zc_N_leaveTrace (3 : Int32) m0) (by omega) (Nat.le_of_ble_eq_true rfl) rfl rfl rfl rfl (Nat.le_of_ble_eq_true rfl) zd_N_tellDouble_2 (fun m1 => ?_)
  refine nk_aload_n C zd_N_tellDouble_5 rfl rfl ?_
  refine nk_iload_n C zd_N_tellDouble_6 rfl rfl ?_
  refine nk_callVi C [.int a1] zv_N_212 hR (zc_N_tellDear a1 m1) (by omega) (Nat.le_of_ble_eq_true rfl) rfl rfl rfl rfl (Nat.le_of_ble_eq_true rfl) zd_N_tellDouble_7 (fun r2 m2 => ?_)
  refine nk_istore_n C zd_N_tellDouble_10 rfl (Nat.le_of_ble_eq_true rfl) rfl ?_
  refine nk_iload_n C zd_N_tellDouble_11 rfl rfl ?_
  refine nk_aload_n C zd_N_tellDouble_12 rfl rfl ?_
  refine nk_iload_n C zd_N_tellDouble_13 rfl rfl ?_
  refine nk_callVi C [.int a1] zv_N_215 hR (zc_N_tellPlain a1 m2) (by omega) (Nat.le_of_ble_eq_true rfl) rfl rfl rfl rfl (Nat.le_of_ble_eq_true rfl) zd_N_tellDouble_14 (fun r3 m3 => ?_)
  refine nk_iadd C zd_N_tellDouble_17 ?_
  exact nk_iret C hr zd_N_tellDouble_18
theorem zd_N_tell_0 : decode zb_N_tell 0 = .ok (.aload_n 0, 1) := by decide +kernel
theorem zd_N_tell_1 : decode zb_N_tell 1 = .ok (.getfield 12, 3) := by decide +kernel
theorem zd_N_tell_4 : decode zb_N_tell 4 = .ok (.iload_n 1, 1) := by decide +kernel
theorem zd_N_tell_5 : decode zb_N_tell 5 = .ok (.invokevirtual 80, 3) := by decide +kernel
theorem zd_N_tell_8 : decode zb_N_tell 8 = .ok (.ifCond .ne 5, 3) := by decide +kernel
theorem zd_N_tell_11 : decode zb_N_tell 11 = .ok (.iconst (-1), 1) := by decide +kernel
theorem zd_N_tell_12 : decode zb_N_tell 12 = .ok (.ireturn, 1) := by decide +kernel
theorem zd_N_tell_13 : decode zb_N_tell 13 = .ok (.aload_n 0, 1) := by decide +kernel
theorem zd_N_tell_14 : decode zb_N_tell 14 = .ok (.getfield 12, 3) := by decide +kernel
theorem zd_N_tell_17 : decode zb_N_tell 17 = .ok (.getfield 81, 3) := by decide +kernel
theorem zd_N_tell_20 : decode zb_N_tell 20 = .ok (.iload_n 1, 1) := by decide +kernel
theorem zd_N_tell_21 : decode zb_N_tell 21 = .ok (.iaload, 1) := by decide +kernel
theorem zd_N_tell_22 : decode zb_N_tell 22 = .ok (.lookupswitch 38 #[(1, 32), (2, 26)], 26) := by decide +kernel
theorem zd_N_tell_48 : decode zb_N_tell 48 = .ok (.aload_n 0, 1) := by decide +kernel
theorem zd_N_tell_49 : decode zb_N_tell 49 = .ok (.iload_n 1, 1) := by decide +kernel
theorem zd_N_tell_50 : decode zb_N_tell 50 = .ok (.invokevirtual 209, 3) := by decide +kernel
theorem zd_N_tell_53 : decode zb_N_tell 53 = .ok (.ireturn, 1) := by decide +kernel
theorem zd_N_tell_54 : decode zb_N_tell 54 = .ok (.aload_n 0, 1) := by decide +kernel
theorem zd_N_tell_55 : decode zb_N_tell 55 = .ok (.iload_n 1, 1) := by decide +kernel
theorem zd_N_tell_56 : decode zb_N_tell 56 = .ok (.invokevirtual 212, 3) := by decide +kernel
theorem zd_N_tell_59 : decode zb_N_tell 59 = .ok (.ireturn, 1) := by decide +kernel
theorem zd_N_tell_60 : decode zb_N_tell 60 = .ok (.aload_n 0, 1) := by decide +kernel
theorem zd_N_tell_61 : decode zb_N_tell 61 = .ok (.iload_n 1, 1) := by decide +kernel
theorem zd_N_tell_62 : decode zb_N_tell 62 = .ok (.invokevirtual 215, 3) := by decide +kernel
theorem zd_N_tell_65 : decode zb_N_tell 65 = .ok (.ireturn, 1) := by decide +kernel
def zf_N_tell  (a1 : Int32) (m0 : nk_M) : Option (Int32 × nk_M) := nk_bd (zf_C_has 1 6 a1 m0) (fun r1 m1 => (if r1 = 0 then some ((-1 : Int32), m1) else nk_ald m1 6 8 a1 (fun x2 => (if x2 = (1 : Int32) then nk_bd (zf_N_tellDear a1 m1) (fun r3 m2 => some (r3, m2)) else if x2 = (2 : Int32) then nk_bd (zf_N_tellDouble a1 m1) (fun r4 m3 => some (r4, m3)) else nk_bd (zf_N_tellPlain a1 m1) (fun r5 m4 => some (r5, m4))))))
set_option maxHeartbeats 4000000 in
set_option maxRecDepth 100000 in
theorem zc_N_tell {l : Launch} {G : nk_V}   (a1 : Int32) (m0 : nk_M) : nk_Ct l nk_wC G 5 zy_N_tell zb_N_tell 2 (some .int) nk_oi [nk_r G 0, .int a1] m0 (zf_N_tell  a1 m0) := by
  refine nk_ent (own := "NeedOnce") (lv := [nk_r G 0, .int a1]) 0 rfl (by decide) (Nat.le_of_ble_eq_true rfl) rfl (fun X hl hR C hr => ?_)
  subst hl
  unfold zf_N_tell
  refine nk_aload_n C zd_N_tell_0 rfl rfl ?_
  refine nk_getR C (r := 1) za_N_12 (Nat.le_of_ble_eq_true rfl) rfl rfl zd_N_tell_1 ?_
  refine nk_iload_n C zd_N_tell_4 rfl rfl ?_
  refine nk_callVi C [.int a1] zv_N_80 hR (zc_C_has 1 6 (Or.inl ⟨rfl, rfl⟩) a1 m0) (by omega) (Nat.le_of_ble_eq_true rfl) rfl rfl rfl rfl (Nat.le_of_ble_eq_true rfl) zd_N_tell_5 (fun r1 m1 => ?_)
  refine nk_if_ne (tgt := 13) C zd_N_tell_8 (by decide) ?_ ?_
  · refine nk_aload_n C zd_N_tell_13 rfl rfl ?_
    refine nk_getR C (r := 1) za_N_12 (Nat.le_of_ble_eq_true rfl) rfl rfl zd_N_tell_14 ?_
    refine nk_getR C (r := 6) za_N_81 (Nat.le_of_ble_eq_true rfl) rfl rfl zd_N_tell_17 ?_
    refine nk_iload_n C zd_N_tell_20 rfl rfl ?_
    refine nk_iald C (Nat.le_of_ble_eq_true rfl) rfl zd_N_tell_21 (fun x2 => ?_)
    refine nk_lku C (1 : Int32) (off := 32) (tgt := 54) zd_N_tell_22 ⟨by decide, by decide, by decide⟩ ?_ (fun h1 => ?_)
    · refine nk_aload_n C zd_N_tell_54 rfl rfl ?_
      refine nk_iload_n C zd_N_tell_55 rfl rfl ?_
      refine nk_callVi C [.int a1] zv_N_212 hR (zc_N_tellDear a1 m1) (by omega) (Nat.le_of_ble_eq_true rfl) rfl rfl rfl rfl (Nat.le_of_ble_eq_true rfl) zd_N_tell_56 (fun r3 m2 => ?_)
      exact nk_iret C hr zd_N_tell_59
    refine nk_lku C (2 : Int32) (off := 26) (tgt := 48) zd_N_tell_22 ⟨by decide, by decide, by decide⟩ ?_ (fun h2 => ?_)
    · refine nk_aload_n C zd_N_tell_48 rfl rfl ?_
      refine nk_iload_n C zd_N_tell_49 rfl rfl ?_
      refine nk_callVi C [.int a1] zv_N_209 hR (zc_N_tellDouble a1 m1) (by omega) (Nat.le_of_ble_eq_true rfl) rfl rfl rfl rfl (Nat.le_of_ble_eq_true rfl) zd_N_tell_50 (fun r4 m3 => ?_)
      exact nk_iret C hr zd_N_tell_53
    refine nk_lkuD C (tgt := 60) zd_N_tell_22 (by decide) (by
        show Op.lookupswitch.offset [(1, 32), (2, 26)] (38) (Int32.toInt x2) = 38
        simp only [Op.lookupswitch.offset_cons, Op.lookupswitch.offset_nil, if_neg (Ne.symm (nk_neK (i := 1) (by decide) h1)), if_neg (Ne.symm (nk_neK (i := 2) (by decide) h2))]) (by decide) ?_
    refine nk_aload_n C zd_N_tell_60 rfl rfl ?_
    refine nk_iload_n C zd_N_tell_61 rfl rfl ?_
    refine nk_callVi C [.int a1] zv_N_215 hR (zc_N_tellPlain a1 m1) (by omega) (Nat.le_of_ble_eq_true rfl) rfl rfl rfl rfl (Nat.le_of_ble_eq_true rfl) zd_N_tell_62 (fun r5 m4 => ?_)
    exact nk_iret C hr zd_N_tell_65
  · refine nk_iconst (v := -1) C zd_N_tell_11 (by decide) ?_
    exact nk_iret C hr zd_N_tell_12
theorem zd_N_point_0 : decode zb_N_point 0 = .ok (.aload_n 0, 1) := by decide +kernel
theorem zd_N_point_1 : decode zb_N_point 1 = .ok (.getfield 12, 3) := by decide +kernel
theorem zd_N_point_4 : decode zb_N_point 4 = .ok (.iload_n 1, 1) := by decide +kernel
theorem zd_N_point_5 : decode zb_N_point 5 = .ok (.invokevirtual 80, 3) := by decide +kernel
theorem zd_N_point_8 : decode zb_N_point 8 = .ok (.ifCond .ne 5, 3) := by decide +kernel
theorem zd_N_point_11 : decode zb_N_point 11 = .ok (.iconst (-1), 1) := by decide +kernel
theorem zd_N_point_12 : decode zb_N_point 12 = .ok (.ireturn, 1) := by decide +kernel
theorem zd_N_point_13 : decode zb_N_point 13 = .ok (.aload_n 0, 1) := by decide +kernel
theorem zd_N_point_14 : decode zb_N_point 14 = .ok (.getfield 12, 3) := by decide +kernel
theorem zd_N_point_17 : decode zb_N_point 17 = .ok (.getfield 81, 3) := by decide +kernel
theorem zd_N_point_20 : decode zb_N_point 20 = .ok (.iload_n 1, 1) := by decide +kernel
theorem zd_N_point_21 : decode zb_N_point 21 = .ok (.iaload, 1) := by decide +kernel
theorem zd_N_point_22 : decode zb_N_point 22 = .ok (.iconst 2, 1) := by decide +kernel
theorem zd_N_point_23 : decode zb_N_point 23 = .ok (.if_icmp .ne 7, 3) := by decide +kernel
theorem zd_N_point_26 : decode zb_N_point 26 = .ok (.iconst 1, 1) := by decide +kernel
theorem zd_N_point_27 : decode zb_N_point 27 = .ok (.goto 4, 3) := by decide +kernel
theorem zd_N_point_30 : decode zb_N_point 30 = .ok (.iconst 0, 1) := by decide +kernel
theorem zd_N_point_31 : decode zb_N_point 31 = .ok (.istore_n 2, 1) := by decide +kernel
theorem zd_N_point_32 : decode zb_N_point 32 = .ok (.aload_n 0, 1) := by decide +kernel
theorem zd_N_point_33 : decode zb_N_point 33 = .ok (.iload_n 2, 1) := by decide +kernel
theorem zd_N_point_34 : decode zb_N_point 34 = .ok (.ifCond .eq 7, 3) := by decide +kernel
theorem zd_N_point_37 : decode zb_N_point 37 = .ok (.iconst 5, 1) := by decide +kernel
theorem zd_N_point_38 : decode zb_N_point 38 = .ok (.goto 4, 3) := by decide +kernel
theorem zd_N_point_41 : decode zb_N_point 41 = .ok (.iconst 4, 1) := by decide +kernel
theorem zd_N_point_42 : decode zb_N_point 42 = .ok (.invokevirtual 218, 3) := by decide +kernel
theorem zd_N_point_45 : decode zb_N_point 45 = .ok (.iload_n 2, 1) := by decide +kernel
theorem zd_N_point_46 : decode zb_N_point 46 = .ok (.ifCond .eq 8, 3) := by decide +kernel
theorem zd_N_point_49 : decode zb_N_point 49 = .ok (.bipush 40, 2) := by decide +kernel
theorem zd_N_point_51 : decode zb_N_point 51 = .ok (.goto 4, 3) := by decide +kernel
theorem zd_N_point_54 : decode zb_N_point 54 = .ok (.iload_n 1, 1) := by decide +kernel
theorem zd_N_point_55 : decode zb_N_point 55 = .ok (.ireturn, 1) := by decide +kernel
def zf_N_point_b55  (u0 : Int32) (m0 : nk_M) : Option (Int32 × nk_M) := some (u0, m0)
set_option maxHeartbeats 4000000 in
set_option maxRecDepth 100000 in
theorem zs_N_point_b55 {G : nk_V} {X : nk_X}   (C : nk_C "NeedOnce" zb_N_point 3 nk_wC G X) (hR : X.2.2.2.1 = nk_rm 2) (hr : X.2.2.2.2.2.2.2.2.1.sig.returnType = (some .int))  : ∀ (u0 : Int32) (m0 : nk_M), nk_Sim nk_wC G X 3 nk_oi 55 [nk_r G 0, .null, .null] [.int u0] m0 (zf_N_point_b55 u0 m0) := by
  intro u0 m0
  unfold zf_N_point_b55
  exact nk_iret C hr zd_N_point_55
def zf_N_point_b42  (y1 : Int32) (y2 : Int32) (u1 : Int32) (m0 : nk_M) : Option (Int32 × nk_M) := nk_bd (zf_N_leaveTrace u1 m0) (fun _ m1 => (if y2 = 0 then (zf_N_point_b55 y1 m1) else (zf_N_point_b55 (40 : Int32) m1)))
set_option maxHeartbeats 4000000 in
set_option maxRecDepth 100000 in
theorem zs_N_point_b42 {G : nk_V} {X : nk_X}   (C : nk_C "NeedOnce" zb_N_point 3 nk_wC G X) (hR : X.2.2.2.1 = nk_rm 2) (hr : X.2.2.2.2.2.2.2.2.1.sig.returnType = (some .int))  : ∀ (y1 : Int32) (y2 : Int32) (u1 : Int32) (m0 : nk_M), nk_Sim nk_wC G X 3 nk_oi 42 [nk_r G 0, .int y1, .int y2] [.int u1, nk_r G 0] m0 (zf_N_point_b42 y1 y2 u1 m0) := by
  intro y1 y2 u1 m0
  unfold zf_N_point_b42
  refine nk_callVv C [.int u1] zv_N_218 hR (zc_N_leaveTrace u1 m0) (by omega) (Nat.le_of_ble_eq_true rfl) rfl rfl rfl rfl (Nat.le_of_ble_eq_true rfl) zd_N_point_42 (fun m1 => ?_)
  refine nk_iload_n C zd_N_point_45 rfl rfl ?_
  refine nk_if_eq (tgt := 54) C zd_N_point_46 (by decide) ?_ ?_
  · refine nk_iload_n C zd_N_point_54 rfl rfl ?_
    refine nk_wk [true, false, false] ?_
    exact zs_N_point_b55 C hR hr y1 m1
  · refine nk_bipush (v := 40) C zd_N_point_49 (by decide) ?_
    refine nk_goto (tgt := 55) C zd_N_point_51 (by decide) ?_
    refine nk_wk [true, false, false] ?_
    exact zs_N_point_b55 C hR hr (40 : Int32) m1
def zf_N_point_b31  (y1 : Int32) (u0 : Int32) (m0 : nk_M) : Option (Int32 × nk_M) := (if u0 = 0 then (zf_N_point_b42 y1 u0 (4 : Int32) m0) else (zf_N_point_b42 y1 u0 (5 : Int32) m0))
set_option maxHeartbeats 4000000 in
set_option maxRecDepth 100000 in
theorem zs_N_point_b31 {G : nk_V} {X : nk_X}   (C : nk_C "NeedOnce" zb_N_point 3 nk_wC G X) (hR : X.2.2.2.1 = nk_rm 2) (hr : X.2.2.2.2.2.2.2.2.1.sig.returnType = (some .int))  : ∀ (y1 : Int32) (u0 : Int32) (m0 : nk_M), nk_Sim nk_wC G X 3 nk_oi 31 [nk_r G 0, .int y1, .null] [.int u0] m0 (zf_N_point_b31 y1 u0 m0) := by
  intro y1 u0 m0
  unfold zf_N_point_b31
  refine nk_istore_n C zd_N_point_31 rfl (Nat.le_of_ble_eq_true rfl) rfl ?_
  refine nk_aload_n C zd_N_point_32 rfl rfl ?_
  refine nk_iload_n C zd_N_point_33 rfl rfl ?_
  refine nk_if_eq (tgt := 41) C zd_N_point_34 (by decide) ?_ ?_
  · refine nk_iconst (v := 4) C zd_N_point_41 (by decide) ?_
    exact zs_N_point_b42 C hR hr y1 u0 (4 : Int32) m0
  · refine nk_iconst (v := 5) C zd_N_point_37 (by decide) ?_
    refine nk_goto (tgt := 42) C zd_N_point_38 (by decide) ?_
    exact zs_N_point_b42 C hR hr y1 u0 (5 : Int32) m0
def zf_N_point  (a1 : Int32) (m0 : nk_M) : Option (Int32 × nk_M) := nk_bd (zf_C_has 1 6 a1 m0) (fun r1 m1 => (if r1 = 0 then some ((-1 : Int32), m1) else nk_ald m1 6 8 a1 (fun x2 => (if x2 = (2 : Int32) then (zf_N_point_b31 a1 (1 : Int32) m1) else (zf_N_point_b31 a1 (0 : Int32) m1)))))
set_option maxHeartbeats 4000000 in
set_option maxRecDepth 100000 in
theorem zc_N_point {l : Launch} {G : nk_V}   (a1 : Int32) (m0 : nk_M) : nk_Ct l nk_wC G 2 zy_N_point zb_N_point 3 (some .int) nk_oi [nk_r G 0, .int a1] m0 (zf_N_point  a1 m0) := by
  refine nk_ent (own := "NeedOnce") (lv := [nk_r G 0, .int a1, .null]) 1 rfl (by decide) (Nat.le_of_ble_eq_true rfl) rfl (fun X hl hR C hr => ?_)
  subst hl
  unfold zf_N_point
  refine nk_aload_n C zd_N_point_0 rfl rfl ?_
  refine nk_getR C (r := 1) za_N_12 (Nat.le_of_ble_eq_true rfl) rfl rfl zd_N_point_1 ?_
  refine nk_iload_n C zd_N_point_4 rfl rfl ?_
  refine nk_callVi C [.int a1] zv_N_80 hR (zc_C_has 1 6 (Or.inl ⟨rfl, rfl⟩) a1 m0) (by omega) (Nat.le_of_ble_eq_true rfl) rfl rfl rfl rfl (Nat.le_of_ble_eq_true rfl) zd_N_point_5 (fun r1 m1 => ?_)
  refine nk_if_ne (tgt := 13) C zd_N_point_8 (by decide) ?_ ?_
  · refine nk_aload_n C zd_N_point_13 rfl rfl ?_
    refine nk_getR C (r := 1) za_N_12 (Nat.le_of_ble_eq_true rfl) rfl rfl zd_N_point_14 ?_
    refine nk_getR C (r := 6) za_N_81 (Nat.le_of_ble_eq_true rfl) rfl rfl zd_N_point_17 ?_
    refine nk_iload_n C zd_N_point_20 rfl rfl ?_
    refine nk_iald C (Nat.le_of_ble_eq_true rfl) rfl zd_N_point_21 (fun x2 => ?_)
    refine nk_iconst (v := 2) C zd_N_point_22 (by decide) ?_
    refine nk_icmp_ne (tgt := 30) C zd_N_point_23 (by decide) ?_ ?_
    · refine nk_iconst (v := 0) C zd_N_point_30 (by decide) ?_
      exact zs_N_point_b31 C hR hr a1 (0 : Int32) m1
    · refine nk_iconst (v := 1) C zd_N_point_26 (by decide) ?_
      refine nk_goto (tgt := 31) C zd_N_point_27 (by decide) ?_
      exact zs_N_point_b31 C hR hr a1 (1 : Int32) m1
  · refine nk_iconst (v := -1) C zd_N_point_11 (by decide) ?_
    exact nk_iret C hr zd_N_point_12

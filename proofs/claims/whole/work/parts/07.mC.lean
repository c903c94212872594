/-! ===== 07: decode rows, meanings (zf_) and contracts (zc_) of methods (written by program) ===== -/
theorem zd_C_startLatest_0 : decode zb_C_startLatest 0 = .ok (.aload_n 0, 1) := by decide +kernel
theorem zd_C_startLatest_1 : decode zb_C_startLatest 1 = .ok (.iconst 0, 1) := by decide +kernel
theorem zd_C_startLatest_2 : decode zb_C_startLatest 2 = .ok (.putfield 81, 3) := by decide +kernel
theorem zd_C_startLatest_5 : decode zb_C_startLatest 5 = .ok (.aload_n 0, 1) := by decide +kernel
theorem zd_C_startLatest_6 : decode zb_C_startLatest 6 = .ok (.iconst 0, 1) := by decide +kernel
theorem zd_C_startLatest_7 : decode zb_C_startLatest 7 = .ok (.putfield 84, 3) := by decide +kernel
theorem zd_C_startLatest_10 : decode zb_C_startLatest 10 = .ok (.aload_n 0, 1) := by decide +kernel
theorem zd_C_startLatest_11 : decode zb_C_startLatest 11 = .ok (.iconst 0, 1) := by decide +kernel
theorem zd_C_startLatest_12 : decode zb_C_startLatest 12 = .ok (.putfield 87, 3) := by decide +kernel
theorem zd_C_startLatest_15 : decode zb_C_startLatest 15 = .ok (.aload_n 0, 1) := by decide +kernel
theorem zd_C_startLatest_16 : decode zb_C_startLatest 16 = .ok (.iconst 0, 1) := by decide +kernel
theorem zd_C_startLatest_17 : decode zb_C_startLatest 17 = .ok (.putfield 90, 3) := by decide +kernel
theorem zd_C_startLatest_20 : decode zb_C_startLatest 20 = .ok (.return_, 1) := by decide +kernel
def zf_C_startLatest (o B : Nat)  (m0 : nk_M) : Option (Unit × nk_M) := nk_pf m0 o 11 (0 : Int32) (fun m1 => nk_pf m1 o 12 (0 : Int32) (fun m2 => nk_pf m2 o 13 (0 : Int32) (fun m3 => nk_pf m3 o 14 (0 : Int32) (fun m4 => some ((), m4)))))
set_option maxHeartbeats 4000000 in
set_option maxRecDepth 100000 in
theorem zc_C_startLatest {l : Launch} {G : nk_V} (o B : Nat) (hc : nk_isC o B)  (m0 : nk_M) : nk_Ct l nk_wC G 1 zy_C_startLatest zb_C_startLatest 1 none nk_ov [nk_r G o] m0 (zf_C_startLatest o B  m0) := by
  refine nk_ent (own := "NeedOnce$Cells") (lv := [nk_r G o]) 0 rfl (by decide) (Nat.le_of_ble_eq_true rfl) rfl (fun X hl hR C hr => ?_)
  subst hl
  unfold zf_C_startLatest
  refine nk_aload_n C zd_C_startLatest_0 rfl rfl ?_
  refine nk_iconst (v := 0) C zd_C_startLatest_1 (by decide) ?_
  refine nk_putI C zp_C_81 (nkc_ok hc) (nkc_os hc) rfl zd_C_startLatest_2 (fun m1 => ?_)
  refine nk_aload_n C zd_C_startLatest_5 rfl rfl ?_
  refine nk_iconst (v := 0) C zd_C_startLatest_6 (by decide) ?_
  refine nk_putI C zp_C_84 (nkc_ok hc) (nkc_os hc) rfl zd_C_startLatest_7 (fun m2 => ?_)
  refine nk_aload_n C zd_C_startLatest_10 rfl rfl ?_
  refine nk_iconst (v := 0) C zd_C_startLatest_11 (by decide) ?_
  refine nk_putI C zp_C_87 (nkc_ok hc) (nkc_os hc) rfl zd_C_startLatest_12 (fun m3 => ?_)
  refine nk_aload_n C zd_C_startLatest_15 rfl rfl ?_
  refine nk_iconst (v := 0) C zd_C_startLatest_16 (by decide) ?_
  refine nk_putI C zp_C_90 (nkc_ok hc) (nkc_os hc) rfl zd_C_startLatest_17 (fun m4 => ?_)
  exact nk_vret C hr zd_C_startLatest_20
theorem zd_N_heap_0 : decode zb_N_heap 0 = .ok (.aload_n 0, 1) := by decide +kernel
theorem zd_N_heap_1 : decode zb_N_heap 1 = .ok (.iconst 0, 1) := by decide +kernel
theorem zd_N_heap_2 : decode zb_N_heap 2 = .ok (.putfield 42, 3) := by decide +kernel
theorem zd_N_heap_5 : decode zb_N_heap 5 = .ok (.aload_n 0, 1) := by decide +kernel
theorem zd_N_heap_6 : decode zb_N_heap 6 = .ok (.getfield 38, 3) := by decide +kernel
theorem zd_N_heap_9 : decode zb_N_heap 9 = .ok (.iload_n 1, 1) := by decide +kernel
theorem zd_N_heap_10 : decode zb_N_heap 10 = .ok (.invokevirtual 46, 3) := by decide +kernel
theorem zd_N_heap_13 : decode zb_N_heap 13 = .ok (.ifCond .ne 5, 3) := by decide +kernel
theorem zd_N_heap_16 : decode zb_N_heap 16 = .ok (.iconst (-1), 1) := by decide +kernel
theorem zd_N_heap_17 : decode zb_N_heap 17 = .ok (.ireturn, 1) := by decide +kernel
theorem zd_N_heap_18 : decode zb_N_heap 18 = .ok (.iload_n 2, 1) := by decide +kernel
theorem zd_N_heap_19 : decode zb_N_heap 19 = .ok (.invokestatic 50, 3) := by decide +kernel
theorem zd_N_heap_22 : decode zb_N_heap 22 = .ok (.ifCond .ne 6, 3) := by decide +kernel
theorem zd_N_heap_25 : decode zb_N_heap 25 = .ok (.bipush (-2), 2) := by decide +kernel
theorem zd_N_heap_27 : decode zb_N_heap 27 = .ok (.ireturn, 1) := by decide +kernel
theorem zd_N_heap_28 : decode zb_N_heap 28 = .ok (.aload_n 0, 1) := by decide +kernel
theorem zd_N_heap_29 : decode zb_N_heap 29 = .ok (.getfield 38, 3) := by decide +kernel
theorem zd_N_heap_32 : decode zb_N_heap 32 = .ok (.iload_n 1, 1) := by decide +kernel
theorem zd_N_heap_33 : decode zb_N_heap 33 = .ok (.iload_n 2, 1) := by decide +kernel
theorem zd_N_heap_34 : decode zb_N_heap 34 = .ok (.iload_n 3, 1) := by decide +kernel
theorem zd_N_heap_35 : decode zb_N_heap 35 = .ok (.iload 4, 2) := by decide +kernel
theorem zd_N_heap_37 : decode zb_N_heap 37 = .ok (.invokevirtual 53, 3) := by decide +kernel
theorem zd_N_heap_40 : decode zb_N_heap 40 = .ok (.istore 5, 2) := by decide +kernel
theorem zd_N_heap_42 : decode zb_N_heap 42 = .ok (.iload 5, 2) := by decide +kernel
theorem zd_N_heap_44 : decode zb_N_heap 44 = .ok (.ifCond .eq 10, 3) := by decide +kernel
theorem zd_N_heap_47 : decode zb_N_heap 47 = .ok (.aload_n 0, 1) := by decide +kernel
theorem zd_N_heap_48 : decode zb_N_heap 48 = .ok (.iload 5, 2) := by decide +kernel
theorem zd_N_heap_50 : decode zb_N_heap 50 = .ok (.invokevirtual 57, 3) := by decide +kernel
theorem zd_N_heap_53 : decode zb_N_heap 53 = .ok (.ireturn, 1) := by decide +kernel
theorem zd_N_heap_54 : decode zb_N_heap 54 = .ok (.aload_n 0, 1) := by decide +kernel
theorem zd_N_heap_55 : decode zb_N_heap 55 = .ok (.getfield 24, 3) := by decide +kernel
theorem zd_N_heap_58 : decode zb_N_heap 58 = .ok (.aload_n 0, 1) := by decide +kernel
theorem zd_N_heap_59 : decode zb_N_heap 59 = .ok (.getfield 18, 3) := by decide +kernel
theorem zd_N_heap_62 : decode zb_N_heap 62 = .ok (.aload_n 0, 1) := by decide +kernel
theorem zd_N_heap_63 : decode zb_N_heap 63 = .ok (.getfield 38, 3) := by decide +kernel
theorem zd_N_heap_66 : decode zb_N_heap 66 = .ok (.iload_n 1, 1) := by decide +kernel
theorem zd_N_heap_67 : decode zb_N_heap 67 = .ok (.iload_n 3, 1) := by decide +kernel
theorem zd_N_heap_68 : decode zb_N_heap 68 = .ok (.iload 4, 2) := by decide +kernel
theorem zd_N_heap_70 : decode zb_N_heap 70 = .ok (.invokevirtual 61, 3) := by decide +kernel
theorem zd_N_heap_73 : decode zb_N_heap 73 = .ok (.istore 6, 2) := by decide +kernel
theorem zd_N_heap_75 : decode zb_N_heap 75 = .ok (.iload 6, 2) := by decide +kernel
theorem zd_N_heap_77 : decode zb_N_heap 77 = .ok (.bipush (-9), 2) := by decide +kernel
theorem zd_N_heap_79 : decode zb_N_heap 79 = .ok (.if_icmp .eq 9, 3) := by decide +kernel
theorem zd_N_heap_82 : decode zb_N_heap 82 = .ok (.bipush (-100), 2) := by decide +kernel
theorem zd_N_heap_84 : decode zb_N_heap 84 = .ok (.iload 6, 2) := by decide +kernel
theorem zd_N_heap_86 : decode zb_N_heap 86 = .ok (.isub, 1) := by decide +kernel
theorem zd_N_heap_87 : decode zb_N_heap 87 = .ok (.ireturn, 1) := by decide +kernel
theorem zd_N_heap_88 : decode zb_N_heap 88 = .ok (.aload_n 0, 1) := by decide +kernel
theorem zd_N_heap_89 : decode zb_N_heap 89 = .ok (.getfield 18, 3) := by decide +kernel
theorem zd_N_heap_92 : decode zb_N_heap 92 = .ok (.invokevirtual 65, 3) := by decide +kernel
theorem zd_N_heap_95 : decode zb_N_heap 95 = .ok (.istore 7, 2) := by decide +kernel
theorem zd_N_heap_97 : decode zb_N_heap 97 = .ok (.iload 7, 2) := by decide +kernel
theorem zd_N_heap_99 : decode zb_N_heap 99 = .ok (.bipush (-9), 2) := by decide +kernel
theorem zd_N_heap_101 : decode zb_N_heap 101 = .ok (.if_icmp .eq 10, 3) := by decide +kernel
theorem zd_N_heap_104 : decode zb_N_heap 104 = .ok (.sipush (-200), 3) := by decide +kernel
theorem zd_N_heap_107 : decode zb_N_heap 107 = .ok (.iload 7, 2) := by decide +kernel
theorem zd_N_heap_109 : decode zb_N_heap 109 = .ok (.isub, 1) := by decide +kernel
theorem zd_N_heap_110 : decode zb_N_heap 110 = .ok (.ireturn, 1) := by decide +kernel
theorem zd_N_heap_111 : decode zb_N_heap 111 = .ok (.aload_n 0, 1) := by decide +kernel
theorem zd_N_heap_112 : decode zb_N_heap 112 = .ok (.getfield 12, 3) := by decide +kernel
theorem zd_N_heap_115 : decode zb_N_heap 115 = .ok (.aload_n 0, 1) := by decide +kernel
theorem zd_N_heap_116 : decode zb_N_heap 116 = .ok (.getfield 18, 3) := by decide +kernel
theorem zd_N_heap_119 : decode zb_N_heap 119 = .ok (.invokevirtual 69, 3) := by decide +kernel
theorem zd_N_heap_122 : decode zb_N_heap 122 = .ok (.aload_n 0, 1) := by decide +kernel
theorem zd_N_heap_123 : decode zb_N_heap 123 = .ok (.getfield 12, 3) := by decide +kernel
theorem zd_N_heap_126 : decode zb_N_heap 126 = .ok (.invokevirtual 73, 3) := by decide +kernel
theorem zd_N_heap_129 : decode zb_N_heap 129 = .ok (.aload_n 0, 1) := by decide +kernel
theorem zd_N_heap_130 : decode zb_N_heap 130 = .ok (.getfield 31, 3) := by decide +kernel
theorem zd_N_heap_133 : decode zb_N_heap 133 = .ok (.iconst 0, 1) := by decide +kernel
theorem zd_N_heap_134 : decode zb_N_heap 134 = .ok (.putfield 76, 3) := by decide +kernel
theorem zd_N_heap_137 : decode zb_N_heap 137 = .ok (.aload_n 0, 1) := by decide +kernel
theorem zd_N_heap_138 : decode zb_N_heap 138 = .ok (.getfield 12, 3) := by decide +kernel
theorem zd_N_heap_141 : decode zb_N_heap 141 = .ok (.getfield 79, 3) := by decide +kernel
theorem zd_N_heap_144 : decode zb_N_heap 144 = .ok (.ireturn, 1) := by decide +kernel
def zf_N_heap  (a1 : Int32) (a2 : Int32) (a3 : Int32) (a4 : Int32) (m0 : nk_M) : Option (Int32 × nk_M) := nk_pf m0 0 6 (0 : Int32) (fun m1 => nk_bd (zf_S_has a1 m1) (fun r1 m2 => (if r1 = 0 then some ((-1 : Int32), m2) else nk_bd (zf_N_isLane a2 m2) (fun r2 m3 => (if r2 = 0 then some ((-2 : Int32), m3) else nk_bd (zf_S_rangeFault a1 a2 a3 a4 m3) (fun r3 m4 => (if r3 = 0 then nk_bd (zf_T_readInto 2 15 a1 a3 a4 m4) (fun r4 m5 => (if r4 = (-9 : Int32) then nk_bd (zf_C_firstLoose 2 15 m5) (fun r5 m6 => (if r5 = (-9 : Int32) then nk_bd (zf_C_becomeLike 1 6 2 15 m6) (fun _ m7 => nk_bd (zf_C_startLatest 1 6 m7) (fun _ m8 => nk_pf m8 4 0 (0 : Int32) (fun m9 => some ((m9 1 0), m9)))) else some ((-200 : Int32) - r5, m6))) else some ((-100 : Int32) - r4, m5))) else nk_bd (zf_N_faulted r3 m4) (fun r8 m10 => some (r8, m10)))))))))
set_option maxHeartbeats 4000000 in
set_option maxRecDepth 100000 in
theorem zc_N_heap {l : Launch} {G : nk_V}   (a1 : Int32) (a2 : Int32) (a3 : Int32) (a4 : Int32) (m0 : nk_M) : nk_Ct l nk_wC G 5 zy_N_heap zb_N_heap 8 (some .int) nk_oi [nk_r G 0, .int a1, .int a2, .int a3, .int a4] m0 (zf_N_heap  a1 a2 a3 a4 m0) := by
  refine nk_ent (own := "NeedOnce") (lv := [nk_r G 0, .int a1, .int a2, .int a3, .int a4, .null, .null, .null]) 3 rfl (by decide) (Nat.le_of_ble_eq_true rfl) rfl (fun X hl hR C hr => ?_)
  subst hl
  unfold zf_N_heap
  refine nk_aload_n C zd_N_heap_0 rfl rfl ?_
  refine nk_iconst (v := 0) C zd_N_heap_1 (by decide) ?_
  refine nk_putI C zp_N_42 (Nat.le_of_ble_eq_true rfl) rfl rfl zd_N_heap_2 (fun m1 => ?_)
  refine nk_aload_n C zd_N_heap_5 rfl rfl ?_
  refine nk_getR C (r := 5) za_N_38 (Nat.le_of_ble_eq_true rfl) rfl rfl zd_N_heap_6 ?_
  refine nk_iload_n C zd_N_heap_9 rfl rfl ?_
  refine nk_callVi C [.int a1] zv_N_46 hR (zc_S_has a1 m1) (by omega) (Nat.le_of_ble_eq_true rfl) rfl rfl rfl rfl (Nat.le_of_ble_eq_true rfl) zd_N_heap_10 (fun r1 m2 => ?_)
  refine nk_if_ne (tgt := 18) C zd_N_heap_13 (by decide) ?_ ?_
  · refine nk_iload_n C zd_N_heap_18 rfl rfl ?_
    refine nk_callSi C [.int a2] zv_N_50 hR (zc_N_isLane a2 m2) (by omega) rfl rfl (Nat.le_of_ble_eq_true rfl) zd_N_heap_19 (fun r2 m3 => ?_)
    refine nk_if_ne (tgt := 28) C zd_N_heap_22 (by decide) ?_ ?_
    · refine nk_aload_n C zd_N_heap_28 rfl rfl ?_
      refine nk_getR C (r := 5) za_N_38 (Nat.le_of_ble_eq_true rfl) rfl rfl zd_N_heap_29 ?_
      refine nk_iload_n C zd_N_heap_32 rfl rfl ?_
      refine nk_iload_n C zd_N_heap_33 rfl rfl ?_
      refine nk_iload_n C zd_N_heap_34 rfl rfl ?_
      refine nk_iload C zd_N_heap_35 rfl ?_
      refine nk_callVi C [.int a1, .int a2, .int a3, .int a4] zv_N_53 hR (zc_S_rangeFault a1 a2 a3 a4 m3) (by omega) (Nat.le_of_ble_eq_true rfl) rfl rfl rfl rfl (Nat.le_of_ble_eq_true rfl) zd_N_heap_37 (fun r3 m4 => ?_)
      refine nk_istore C zd_N_heap_40 (Nat.le_of_ble_eq_true rfl) rfl ?_
      refine nk_iload C zd_N_heap_42 rfl ?_
      refine nk_if_eq (tgt := 54) C zd_N_heap_44 (by decide) ?_ ?_
      · refine nk_aload_n C zd_N_heap_54 rfl rfl ?_
        refine nk_getR C (r := 3) za_N_24 (Nat.le_of_ble_eq_true rfl) rfl rfl zd_N_heap_55 ?_
        refine nk_aload_n C zd_N_heap_58 rfl rfl ?_
        refine nk_getR C (r := 2) za_N_18 (Nat.le_of_ble_eq_true rfl) rfl rfl zd_N_heap_59 ?_
        refine nk_aload_n C zd_N_heap_62 rfl rfl ?_
        refine nk_getR C (r := 5) za_N_38 (Nat.le_of_ble_eq_true rfl) rfl rfl zd_N_heap_63 ?_
        refine nk_iload_n C zd_N_heap_66 rfl rfl ?_
        refine nk_iload_n C zd_N_heap_67 rfl rfl ?_
        refine nk_iload C zd_N_heap_68 rfl ?_
        refine nk_callVi C [nk_r G 2, nk_r G 5, .int a1, .int a3, .int a4] zv_N_61 hR (zc_T_readInto 2 15 (Or.inr ⟨rfl, rfl⟩) a1 a3 a4 m4) (by omega) (Nat.le_of_ble_eq_true rfl) rfl rfl rfl rfl (Nat.le_of_ble_eq_true rfl) zd_N_heap_70 (fun r4 m5 => ?_)
        refine nk_istore C zd_N_heap_73 (Nat.le_of_ble_eq_true rfl) rfl ?_
        refine nk_iload C zd_N_heap_75 rfl ?_
        refine nk_bipush (v := -9) C zd_N_heap_77 (by decide) ?_
        refine nk_icmp_eq (tgt := 88) C zd_N_heap_79 (by decide) ?_ ?_
        · refine nk_aload_n C zd_N_heap_88 rfl rfl ?_
          refine nk_getR C (r := 2) za_N_18 (Nat.le_of_ble_eq_true rfl) rfl rfl zd_N_heap_89 ?_
          refine nk_callVi C [] zv_N_65 hR (zc_C_firstLoose 2 15 (Or.inr ⟨rfl, rfl⟩) m5) (by omega) (Nat.le_of_ble_eq_true rfl) rfl rfl rfl rfl (Nat.le_of_ble_eq_true rfl) zd_N_heap_92 (fun r5 m6 => ?_)
          refine nk_istore C zd_N_heap_95 (Nat.le_of_ble_eq_true rfl) rfl ?_
          refine nk_iload C zd_N_heap_97 rfl ?_
          refine nk_bipush (v := -9) C zd_N_heap_99 (by decide) ?_
          refine nk_icmp_eq (tgt := 111) C zd_N_heap_101 (by decide) ?_ ?_
          · refine nk_aload_n C zd_N_heap_111 rfl rfl ?_
            refine nk_getR C (r := 1) za_N_12 (Nat.le_of_ble_eq_true rfl) rfl rfl zd_N_heap_112 ?_
            refine nk_aload_n C zd_N_heap_115 rfl rfl ?_
            refine nk_getR C (r := 2) za_N_18 (Nat.le_of_ble_eq_true rfl) rfl rfl zd_N_heap_116 ?_
            refine nk_callVv C [nk_r G 2] zv_N_69 hR (zc_C_becomeLike 1 6 2 15 (Or.inl ⟨rfl, rfl⟩) (Or.inr ⟨rfl, rfl⟩) m6) (by omega) (Nat.le_of_ble_eq_true rfl) rfl rfl rfl rfl (Nat.le_of_ble_eq_true rfl) zd_N_heap_119 (fun m7 => ?_)
            refine nk_aload_n C zd_N_heap_122 rfl rfl ?_
            refine nk_getR C (r := 1) za_N_12 (Nat.le_of_ble_eq_true rfl) rfl rfl zd_N_heap_123 ?_
            refine nk_callVv C [] zv_N_73 hR (zc_C_startLatest 1 6 (Or.inl ⟨rfl, rfl⟩) m7) (by omega) (Nat.le_of_ble_eq_true rfl) rfl rfl rfl rfl (Nat.le_of_ble_eq_true rfl) zd_N_heap_126 (fun m8 => ?_)
            refine nk_aload_n C zd_N_heap_129 rfl rfl ?_
            refine nk_getR C (r := 4) za_N_31 (Nat.le_of_ble_eq_true rfl) rfl rfl zd_N_heap_130 ?_
            refine nk_iconst (v := 0) C zd_N_heap_133 (by decide) ?_
            refine nk_putI C zp_N_76 (Nat.le_of_ble_eq_true rfl) rfl rfl zd_N_heap_134 (fun m9 => ?_)
            refine nk_aload_n C zd_N_heap_137 rfl rfl ?_
            refine nk_getR C (r := 1) za_N_12 (Nat.le_of_ble_eq_true rfl) rfl rfl zd_N_heap_138 ?_
            refine nk_getI C za_N_79 (Nat.le_of_ble_eq_true rfl) rfl rfl zd_N_heap_141 ?_
            exact nk_iret C hr zd_N_heap_144
          · refine nk_sipush (v := -200) C zd_N_heap_104 (by decide) ?_
            refine nk_iload C zd_N_heap_107 rfl ?_
            refine nk_isub C zd_N_heap_109 ?_
            exact nk_iret C hr zd_N_heap_110
        · refine nk_bipush (v := -100) C zd_N_heap_82 (by decide) ?_
          refine nk_iload C zd_N_heap_84 rfl ?_
          refine nk_isub C zd_N_heap_86 ?_
          exact nk_iret C hr zd_N_heap_87
      · refine nk_aload_n C zd_N_heap_47 rfl rfl ?_
        refine nk_iload C zd_N_heap_48 rfl ?_
        refine nk_callVi C [.int r3] zv_N_57 hR (zc_N_faulted r3 m4) (by omega) (Nat.le_of_ble_eq_true rfl) rfl rfl rfl rfl (Nat.le_of_ble_eq_true rfl) zd_N_heap_50 (fun r8 m10 => ?_)
        exact nk_iret C hr zd_N_heap_53
    · refine nk_bipush (v := -2) C zd_N_heap_25 (by decide) ?_
      exact nk_iret C hr zd_N_heap_27
  · refine nk_iconst (v := -1) C zd_N_heap_16 (by decide) ?_
    exact nk_iret C hr zd_N_heap_17
theorem zd_C_has_0 : decode zb_C_has 0 = .ok (.iload_n 1, 1) := by decide +kernel
theorem zd_C_has_1 : decode zb_C_has 1 = .ok (.ifCond .lt 15, 3) := by decide +kernel
theorem zd_C_has_4 : decode zb_C_has 4 = .ok (.iload_n 1, 1) := by decide +kernel
theorem zd_C_has_5 : decode zb_C_has 5 = .ok (.aload_n 0, 1) := by decide +kernel
theorem zd_C_has_6 : decode zb_C_has 6 = .ok (.getfield 47, 3) := by decide +kernel
theorem zd_C_has_9 : decode zb_C_has 9 = .ok (.if_icmp .ge 7, 3) := by decide +kernel
theorem zd_C_has_12 : decode zb_C_has 12 = .ok (.iconst 1, 1) := by decide +kernel
theorem zd_C_has_13 : decode zb_C_has 13 = .ok (.goto 4, 3) := by decide +kernel
theorem zd_C_has_16 : decode zb_C_has 16 = .ok (.iconst 0, 1) := by decide +kernel
theorem zd_C_has_17 : decode zb_C_has 17 = .ok (.ireturn, 1) := by decide +kernel
def zf_C_has_b17 (o B : Nat) (u0 : Int32) (m0 : nk_M) : Option (Int32 × nk_M) := nk_zr u0 m0
set_option maxHeartbeats 4000000 in
set_option maxRecDepth 100000 in
theorem zs_C_has_b17 {G : nk_V} {X : nk_X} (o B : Nat) (hc : nk_isC o B) (C : nk_C "NeedOnce$Cells" zb_C_has 2 nk_wC G X) (hR : X.2.2.2.1 = nk_rm 1) (hr : X.2.2.2.2.2.2.2.2.1.sig.returnType = (some .boolean))  : ∀ (u0 : Int32) (m0 : nk_M), nk_Sim nk_wC G X 2 nk_oi 17 [nk_r G o, .null] [.int u0] m0 (zf_C_has_b17 o B u0 m0) := by
  intro u0 m0
  unfold zf_C_has_b17
  exact nk_zret C hr zd_C_has_17
def zf_C_has_b16 (o B : Nat)  (m0 : nk_M) : Option (Int32 × nk_M) := (zf_C_has_b17 o B (0 : Int32) m0)
set_option maxHeartbeats 4000000 in
set_option maxRecDepth 100000 in
theorem zs_C_has_b16 {G : nk_V} {X : nk_X} (o B : Nat) (hc : nk_isC o B) (C : nk_C "NeedOnce$Cells" zb_C_has 2 nk_wC G X) (hR : X.2.2.2.1 = nk_rm 1) (hr : X.2.2.2.2.2.2.2.2.1.sig.returnType = (some .boolean))  : ∀  (m0 : nk_M), nk_Sim nk_wC G X 2 nk_oi 16 [nk_r G o, .null] [] m0 (zf_C_has_b16 o B  m0) := by
  intro m0
  unfold zf_C_has_b16
  refine nk_iconst (v := 0) C zd_C_has_16 (by decide) ?_
  exact zs_C_has_b17 o B hc C hR hr (0 : Int32) m0
def zf_C_has (o B : Nat) (a1 : Int32) (m0 : nk_M) : Option (Int32 × nk_M) := (if a1 < 0 then (zf_C_has_b16 o B m0) else (if (m0 o 0) ≤ a1 then (zf_C_has_b16 o B m0) else (zf_C_has_b17 o B (1 : Int32) m0)))
set_option maxHeartbeats 4000000 in
set_option maxRecDepth 100000 in
theorem zc_C_has {l : Launch} {G : nk_V} (o B : Nat) (hc : nk_isC o B) (a1 : Int32) (m0 : nk_M) : nk_Ct l nk_wC G 1 zy_C_has zb_C_has 2 (some .boolean) nk_oi [nk_r G o, .int a1] m0 (zf_C_has o B a1 m0) := by
  refine nk_ent (own := "NeedOnce$Cells") (lv := [nk_r G o, .int a1]) 0 rfl (by decide) (Nat.le_of_ble_eq_true rfl) rfl (fun X hl hR C hr => ?_)
  subst hl
  unfold zf_C_has
  refine nk_iload_n C zd_C_has_0 rfl rfl ?_
  refine nk_if_lt (tgt := 16) C zd_C_has_1 (by decide) ?_ ?_
  · refine nk_wk [true, false] ?_
    exact zs_C_has_b16 o B hc C hR hr m0
  · refine nk_iload_n C zd_C_has_4 rfl rfl ?_
    refine nk_aload_n C zd_C_has_5 rfl rfl ?_
    refine nk_getI C za_C_47 (nkc_ok hc) (nkc_os hc) rfl zd_C_has_6 ?_
    refine nk_icmp_ge (tgt := 16) C zd_C_has_9 (by decide) ?_ ?_
    · refine nk_wk [true, false] ?_
      exact zs_C_has_b16 o B hc C hR hr m0
    · refine nk_iconst (v := 1) C zd_C_has_12 (by decide) ?_
      refine nk_goto (tgt := 17) C zd_C_has_13 (by decide) ?_
      refine nk_wk [true, false] ?_
      exact zs_C_has_b17 o B hc C hR hr (1 : Int32) m0
theorem zd_C_costOf_0 : decode zb_C_costOf 0 = .ok (.aload_n 0, 1) := by decide +kernel
theorem zd_C_costOf_1 : decode zb_C_costOf 1 = .ok (.getfield 9, 3) := by decide +kernel
theorem zd_C_costOf_4 : decode zb_C_costOf 4 = .ok (.iload_n 1, 1) := by decide +kernel
theorem zd_C_costOf_5 : decode zb_C_costOf 5 = .ok (.iaload, 1) := by decide +kernel
theorem zd_C_costOf_6 : decode zb_C_costOf 6 = .ok (.lookupswitch 44 #[(1, 35), (2, 26)], 26) := by decide +kernel
theorem zd_C_costOf_32 : decode zb_C_costOf 32 = .ok (.iconst 2, 1) := by decide +kernel
theorem zd_C_costOf_33 : decode zb_C_costOf 33 = .ok (.aload_n 0, 1) := by decide +kernel
theorem zd_C_costOf_34 : decode zb_C_costOf 34 = .ok (.getfield 15, 3) := by decide +kernel
theorem zd_C_costOf_37 : decode zb_C_costOf 37 = .ok (.iload_n 1, 1) := by decide +kernel
theorem zd_C_costOf_38 : decode zb_C_costOf 38 = .ok (.iaload, 1) := by decide +kernel
theorem zd_C_costOf_39 : decode zb_C_costOf 39 = .ok (.imul, 1) := by decide +kernel
theorem zd_C_costOf_40 : decode zb_C_costOf 40 = .ok (.ireturn, 1) := by decide +kernel
theorem zd_C_costOf_41 : decode zb_C_costOf 41 = .ok (.aload_n 0, 1) := by decide +kernel
theorem zd_C_costOf_42 : decode zb_C_costOf 42 = .ok (.getfield 15, 3) := by decide +kernel
theorem zd_C_costOf_45 : decode zb_C_costOf 45 = .ok (.iload_n 1, 1) := by decide +kernel
theorem zd_C_costOf_46 : decode zb_C_costOf 46 = .ok (.iaload, 1) := by decide +kernel
theorem zd_C_costOf_47 : decode zb_C_costOf 47 = .ok (.iconst 1, 1) := by decide +kernel
theorem zd_C_costOf_48 : decode zb_C_costOf 48 = .ok (.iadd, 1) := by decide +kernel
theorem zd_C_costOf_49 : decode zb_C_costOf 49 = .ok (.ireturn, 1) := by decide +kernel
theorem zd_C_costOf_50 : decode zb_C_costOf 50 = .ok (.aload_n 0, 1) := by decide +kernel
theorem zd_C_costOf_51 : decode zb_C_costOf 51 = .ok (.getfield 15, 3) := by decide +kernel
theorem zd_C_costOf_54 : decode zb_C_costOf 54 = .ok (.iload_n 1, 1) := by decide +kernel
theorem zd_C_costOf_55 : decode zb_C_costOf 55 = .ok (.iaload, 1) := by decide +kernel
theorem zd_C_costOf_56 : decode zb_C_costOf 56 = .ok (.ireturn, 1) := by decide +kernel
def zf_C_costOf (o B : Nat) (a1 : Int32) (m0 : nk_M) : Option (Int32 × nk_M) := nk_ald m0 B 8 a1 (fun x1 => (if x1 = (1 : Int32) then nk_ald m0 (B + 1) 8 a1 (fun x2 => some (x2 + (1 : Int32), m0)) else if x1 = (2 : Int32) then nk_ald m0 (B + 1) 8 a1 (fun x3 => some ((2 : Int32) * x3, m0)) else nk_ald m0 (B + 1) 8 a1 (fun x4 => some (x4, m0))))
set_option maxHeartbeats 4000000 in
set_option maxRecDepth 100000 in
theorem zc_C_costOf {l : Launch} {G : nk_V} (o B : Nat) (hc : nk_isC o B) (a1 : Int32) (m0 : nk_M) : nk_Ct l nk_wC G 1 zy_C_costOf zb_C_costOf 2 (some .int) nk_oi [nk_r G o, .int a1] m0 (zf_C_costOf o B a1 m0) := by
  refine nk_ent (own := "NeedOnce$Cells") (lv := [nk_r G o, .int a1]) 0 rfl (by decide) (Nat.le_of_ble_eq_true rfl) rfl (fun X hl hR C hr => ?_)
  subst hl
  unfold zf_C_costOf
  refine nk_aload_n C zd_C_costOf_0 rfl rfl ?_
  refine nk_getR C (r := B) za_C_9 (nkc_ok hc) (nkc_os hc) rfl zd_C_costOf_1 ?_
  refine nk_iload_n C zd_C_costOf_4 rfl rfl ?_
  refine nk_iald C (nkc_bk0 hc) (nkc_bs0 hc) zd_C_costOf_5 (fun x1 => ?_)
  refine nk_lku C (1 : Int32) (off := 35) (tgt := 41) zd_C_costOf_6 ⟨by decide, by decide, by decide⟩ ?_ (fun h1 => ?_)
  · refine nk_aload_n C zd_C_costOf_41 rfl rfl ?_
    refine nk_getR C (r := (B + 1)) za_C_15 (nkc_ok hc) (nkc_os hc) rfl zd_C_costOf_42 ?_
    refine nk_iload_n C zd_C_costOf_45 rfl rfl ?_
    refine nk_iald C (nkc_bk1 hc) (nkc_bs1 hc) zd_C_costOf_46 (fun x2 => ?_)
    refine nk_iconst (v := 1) C zd_C_costOf_47 (by decide) ?_
    refine nk_iadd C zd_C_costOf_48 ?_
    exact nk_iret C hr zd_C_costOf_49
  refine nk_lku C (2 : Int32) (off := 26) (tgt := 32) zd_C_costOf_6 ⟨by decide, by decide, by decide⟩ ?_ (fun h2 => ?_)
  · refine nk_iconst (v := 2) C zd_C_costOf_32 (by decide) ?_
    refine nk_aload_n C zd_C_costOf_33 rfl rfl ?_
    refine nk_getR C (r := (B + 1)) za_C_15 (nkc_ok hc) (nkc_os hc) rfl zd_C_costOf_34 ?_
    refine nk_iload_n C zd_C_costOf_37 rfl rfl ?_
    refine nk_iald C (nkc_bk1 hc) (nkc_bs1 hc) zd_C_costOf_38 (fun x3 => ?_)
    refine nk_imul C zd_C_costOf_39 ?_
    exact nk_iret C hr zd_C_costOf_40
  refine nk_lkuD C (tgt := 50) zd_C_costOf_6 (by decide) (by
      show Op.lookupswitch.offset [(1, 35), (2, 26)] (44) (Int32.toInt x1) = 44
      simp only [Op.lookupswitch.offset_cons, Op.lookupswitch.offset_nil, if_neg (Ne.symm (nk_neK (i := 1) (by decide) h1)), if_neg (Ne.symm (nk_neK (i := 2) (by decide) h2))]) (by decide) ?_
  refine nk_aload_n C zd_C_costOf_50 rfl rfl ?_
  refine nk_getR C (r := (B + 1)) za_C_15 (nkc_ok hc) (nkc_os hc) rfl zd_C_costOf_51 ?_
  refine nk_iload_n C zd_C_costOf_54 rfl rfl ?_
  refine nk_iald C (nkc_bk1 hc) (nkc_bs1 hc) zd_C_costOf_55 (fun x4 => ?_)
  exact nk_iret C hr zd_C_costOf_56
theorem zd_C_formNow_0 : decode zb_C_formNow 0 = .ok (.aload_n 0, 1) := by decide +kernel
theorem zd_C_formNow_1 : decode zb_C_formNow 1 = .ok (.getfield 30, 3) := by decide +kernel
theorem zd_C_formNow_4 : decode zb_C_formNow 4 = .ok (.iload_n 1, 1) := by decide +kernel
theorem zd_C_formNow_5 : decode zb_C_formNow 5 = .ok (.iaload, 1) := by decide +kernel
theorem zd_C_formNow_6 : decode zb_C_formNow 6 = .ok (.bipush (-9), 2) := by decide +kernel
theorem zd_C_formNow_8 : decode zb_C_formNow 8 = .ok (.if_icmp .ne 12, 3) := by decide +kernel
theorem zd_C_formNow_11 : decode zb_C_formNow 11 = .ok (.aload_n 0, 1) := by decide +kernel
theorem zd_C_formNow_12 : decode zb_C_formNow 12 = .ok (.getfield 18, 3) := by decide +kernel
theorem zd_C_formNow_15 : decode zb_C_formNow 15 = .ok (.iload_n 1, 1) := by decide +kernel
theorem zd_C_formNow_16 : decode zb_C_formNow 16 = .ok (.iaload, 1) := by decide +kernel
theorem zd_C_formNow_17 : decode zb_C_formNow 17 = .ok (.goto 5, 3) := by decide +kernel
theorem zd_C_formNow_20 : decode zb_C_formNow 20 = .ok (.bipush 7, 2) := by decide +kernel
theorem zd_C_formNow_22 : decode zb_C_formNow 22 = .ok (.ireturn, 1) := by decide +kernel
def zf_C_formNow_b22 (o B : Nat) (u0 : Int32) (m0 : nk_M) : Option (Int32 × nk_M) := some (u0, m0)
set_option maxHeartbeats 4000000 in
set_option maxRecDepth 100000 in
theorem zs_C_formNow_b22 {G : nk_V} {X : nk_X} (o B : Nat) (hc : nk_isC o B) (C : nk_C "NeedOnce$Cells" zb_C_formNow 2 nk_wC G X) (hR : X.2.2.2.1 = nk_rm 1) (hr : X.2.2.2.2.2.2.2.2.1.sig.returnType = (some .int))  : ∀ (u0 : Int32) (m0 : nk_M), nk_Sim nk_wC G X 2 nk_oi 22 [nk_r G o, .null] [.int u0] m0 (zf_C_formNow_b22 o B u0 m0) := by
  intro u0 m0
  unfold zf_C_formNow_b22
  exact nk_iret C hr zd_C_formNow_22
def zf_C_formNow (o B : Nat) (a1 : Int32) (m0 : nk_M) : Option (Int32 × nk_M) := nk_ald m0 (B + 6) 8 a1 (fun x1 => (if x1 = (-9 : Int32) then nk_ald m0 (B + 2) 8 a1 (fun x2 => (zf_C_formNow_b22 o B x2 m0)) else (zf_C_formNow_b22 o B (7 : Int32) m0)))
set_option maxHeartbeats 4000000 in
set_option maxRecDepth 100000 in
theorem zc_C_formNow {l : Launch} {G : nk_V} (o B : Nat) (hc : nk_isC o B) (a1 : Int32) (m0 : nk_M) : nk_Ct l nk_wC G 1 zy_C_formNow zb_C_formNow 2 (some .int) nk_oi [nk_r G o, .int a1] m0 (zf_C_formNow o B a1 m0) := by
  refine nk_ent (own := "NeedOnce$Cells") (lv := [nk_r G o, .int a1]) 0 rfl (by decide) (Nat.le_of_ble_eq_true rfl) rfl (fun X hl hR C hr => ?_)
  subst hl
  unfold zf_C_formNow
  refine nk_aload_n C zd_C_formNow_0 rfl rfl ?_
  refine nk_getR C (r := (B + 6)) za_C_30 (nkc_ok hc) (nkc_os hc) rfl zd_C_formNow_1 ?_
  refine nk_iload_n C zd_C_formNow_4 rfl rfl ?_
  refine nk_iald C (nkc_bk6 hc) (nkc_bs6 hc) zd_C_formNow_5 (fun x1 => ?_)
  refine nk_bipush (v := -9) C zd_C_formNow_6 (by decide) ?_
  refine nk_icmp_ne (tgt := 20) C zd_C_formNow_8 (by decide) ?_ ?_
  · refine nk_bipush (v := 7) C zd_C_formNow_20 (by decide) ?_
    refine nk_wk [true, false] ?_
    exact zs_C_formNow_b22 o B hc C hR hr (7 : Int32) m0
  · refine nk_aload_n C zd_C_formNow_11 rfl rfl ?_
    refine nk_getR C (r := (B + 2)) za_C_18 (nkc_ok hc) (nkc_os hc) rfl zd_C_formNow_12 ?_
    refine nk_iload_n C zd_C_formNow_15 rfl rfl ?_
    refine nk_iald C (nkc_bk2 hc) (nkc_bs2 hc) zd_C_formNow_16 (fun x2 => ?_)
    refine nk_goto (tgt := 22) C zd_C_formNow_17 (by decide) ?_
    refine nk_wk [true, false] ?_
    exact zs_C_formNow_b22 o B hc C hR hr x2 m0
theorem zd_C_isAwake_0 : decode zb_C_isAwake 0 = .ok (.aload_n 0, 1) := by decide +kernel
theorem zd_C_isAwake_1 : decode zb_C_isAwake 1 = .ok (.getfield 24, 3) := by decide +kernel
theorem zd_C_isAwake_4 : decode zb_C_isAwake 4 = .ok (.iload_n 1, 1) := by decide +kernel
theorem zd_C_isAwake_5 : decode zb_C_isAwake 5 = .ok (.iaload, 1) := by decide +kernel
theorem zd_C_isAwake_6 : decode zb_C_isAwake 6 = .ok (.bipush (-9), 2) := by decide +kernel
theorem zd_C_isAwake_8 : decode zb_C_isAwake 8 = .ok (.if_icmp .eq 7, 3) := by decide +kernel
theorem zd_C_isAwake_11 : decode zb_C_isAwake 11 = .ok (.iconst 1, 1) := by decide +kernel
theorem zd_C_isAwake_12 : decode zb_C_isAwake 12 = .ok (.goto 4, 3) := by decide +kernel
theorem zd_C_isAwake_15 : decode zb_C_isAwake 15 = .ok (.iconst 0, 1) := by decide +kernel
theorem zd_C_isAwake_16 : decode zb_C_isAwake 16 = .ok (.ireturn, 1) := by decide +kernel
def zf_C_isAwake_b16 (o B : Nat) (u0 : Int32) (m0 : nk_M) : Option (Int32 × nk_M) := nk_zr u0 m0
set_option maxHeartbeats 4000000 in
set_option maxRecDepth 100000 in
theorem zs_C_isAwake_b16 {G : nk_V} {X : nk_X} (o B : Nat) (hc : nk_isC o B) (C : nk_C "NeedOnce$Cells" zb_C_isAwake 2 nk_wC G X) (hR : X.2.2.2.1 = nk_rm 1) (hr : X.2.2.2.2.2.2.2.2.1.sig.returnType = (some .boolean))  : ∀ (u0 : Int32) (m0 : nk_M), nk_Sim nk_wC G X 2 nk_oi 16 [nk_r G o, .null] [.int u0] m0 (zf_C_isAwake_b16 o B u0 m0) := by
  intro u0 m0
  unfold zf_C_isAwake_b16
  exact nk_zret C hr zd_C_isAwake_16
def zf_C_isAwake (o B : Nat) (a1 : Int32) (m0 : nk_M) : Option (Int32 × nk_M) := nk_ald m0 (B + 4) 8 a1 (fun x1 => (if x1 = (-9 : Int32) then (zf_C_isAwake_b16 o B (0 : Int32) m0) else (zf_C_isAwake_b16 o B (1 : Int32) m0)))
set_option maxHeartbeats 4000000 in
set_option maxRecDepth 100000 in
theorem zc_C_isAwake {l : Launch} {G : nk_V} (o B : Nat) (hc : nk_isC o B) (a1 : Int32) (m0 : nk_M) : nk_Ct l nk_wC G 1 zy_C_isAwake zb_C_isAwake 2 (some .boolean) nk_oi [nk_r G o, .int a1] m0 (zf_C_isAwake o B a1 m0) := by
  refine nk_ent (own := "NeedOnce$Cells") (lv := [nk_r G o, .int a1]) 0 rfl (by decide) (Nat.le_of_ble_eq_true rfl) rfl (fun X hl hR C hr => ?_)
  subst hl
  unfold zf_C_isAwake
  refine nk_aload_n C zd_C_isAwake_0 rfl rfl ?_
  refine nk_getR C (r := (B + 4)) za_C_24 (nkc_ok hc) (nkc_os hc) rfl zd_C_isAwake_1 ?_
  refine nk_iload_n C zd_C_isAwake_4 rfl rfl ?_
  refine nk_iald C (nkc_bk4 hc) (nkc_bs4 hc) zd_C_isAwake_5 (fun x1 => ?_)
  refine nk_bipush (v := -9) C zd_C_isAwake_6 (by decide) ?_
  refine nk_icmp_eq (tgt := 15) C zd_C_isAwake_8 (by decide) ?_ ?_
  · refine nk_iconst (v := 0) C zd_C_isAwake_15 (by decide) ?_
    refine nk_wk [true, false] ?_
    exact zs_C_isAwake_b16 o B hc C hR hr (0 : Int32) m0
  · refine nk_iconst (v := 1) C zd_C_isAwake_11 (by decide) ?_
    refine nk_goto (tgt := 16) C zd_C_isAwake_12 (by decide) ?_
    refine nk_wk [true, false] ?_
    exact zs_C_isAwake_b16 o B hc C hR hr (1 : Int32) m0
theorem zd_N_ofCell_0 : decode zb_N_ofCell 0 = .ok (.aload_n 0, 1) := by decide +kernel
theorem zd_N_ofCell_1 : decode zb_N_ofCell 1 = .ok (.getfield 12, 3) := by decide +kernel
theorem zd_N_ofCell_4 : decode zb_N_ofCell 4 = .ok (.iload_n 1, 1) := by decide +kernel
theorem zd_N_ofCell_5 : decode zb_N_ofCell 5 = .ok (.invokevirtual 80, 3) := by decide +kernel
theorem zd_N_ofCell_8 : decode zb_N_ofCell 8 = .ok (.ifCond .ne 5, 3) := by decide +kernel
theorem zd_N_ofCell_11 : decode zb_N_ofCell 11 = .ok (.iconst (-1), 1) := by decide +kernel
theorem zd_N_ofCell_12 : decode zb_N_ofCell 12 = .ok (.ireturn, 1) := by decide +kernel
theorem zd_N_ofCell_13 : decode zb_N_ofCell 13 = .ok (.iload_n 2, 1) := by decide +kernel
theorem zd_N_ofCell_14 : decode zb_N_ofCell 14 = .ok (.tableswitch 154 0 12 #[66, 76, 86, 95, 104, 121, 131, 154, 154, 154, 141, 141, 141], 66) := by decide +kernel
theorem zd_N_ofCell_80 : decode zb_N_ofCell 80 = .ok (.aload_n 0, 1) := by decide +kernel
theorem zd_N_ofCell_81 : decode zb_N_ofCell 81 = .ok (.getfield 12, 3) := by decide +kernel
theorem zd_N_ofCell_84 : decode zb_N_ofCell 84 = .ok (.getfield 81, 3) := by decide +kernel
theorem zd_N_ofCell_87 : decode zb_N_ofCell 87 = .ok (.iload_n 1, 1) := by decide +kernel
theorem zd_N_ofCell_88 : decode zb_N_ofCell 88 = .ok (.iaload, 1) := by decide +kernel
theorem zd_N_ofCell_89 : decode zb_N_ofCell 89 = .ok (.ireturn, 1) := by decide +kernel
theorem zd_N_ofCell_90 : decode zb_N_ofCell 90 = .ok (.aload_n 0, 1) := by decide +kernel
theorem zd_N_ofCell_91 : decode zb_N_ofCell 91 = .ok (.getfield 12, 3) := by decide +kernel
theorem zd_N_ofCell_94 : decode zb_N_ofCell 94 = .ok (.getfield 85, 3) := by decide +kernel
theorem zd_N_ofCell_97 : decode zb_N_ofCell 97 = .ok (.iload_n 1, 1) := by decide +kernel
theorem zd_N_ofCell_98 : decode zb_N_ofCell 98 = .ok (.iaload, 1) := by decide +kernel
theorem zd_N_ofCell_99 : decode zb_N_ofCell 99 = .ok (.ireturn, 1) := by decide +kernel
theorem zd_N_ofCell_100 : decode zb_N_ofCell 100 = .ok (.aload_n 0, 1) := by decide +kernel
theorem zd_N_ofCell_101 : decode zb_N_ofCell 101 = .ok (.getfield 12, 3) := by decide +kernel
theorem zd_N_ofCell_104 : decode zb_N_ofCell 104 = .ok (.iload_n 1, 1) := by decide +kernel
theorem zd_N_ofCell_105 : decode zb_N_ofCell 105 = .ok (.invokevirtual 88, 3) := by decide +kernel
theorem zd_N_ofCell_108 : decode zb_N_ofCell 108 = .ok (.ireturn, 1) := by decide +kernel
theorem zd_N_ofCell_109 : decode zb_N_ofCell 109 = .ok (.aload_n 0, 1) := by decide +kernel
theorem zd_N_ofCell_110 : decode zb_N_ofCell 110 = .ok (.getfield 12, 3) := by decide +kernel
theorem zd_N_ofCell_113 : decode zb_N_ofCell 113 = .ok (.iload_n 1, 1) := by decide +kernel
theorem zd_N_ofCell_114 : decode zb_N_ofCell 114 = .ok (.invokevirtual 91, 3) := by decide +kernel
theorem zd_N_ofCell_117 : decode zb_N_ofCell 117 = .ok (.ireturn, 1) := by decide +kernel
theorem zd_N_ofCell_118 : decode zb_N_ofCell 118 = .ok (.aload_n 0, 1) := by decide +kernel
theorem zd_N_ofCell_119 : decode zb_N_ofCell 119 = .ok (.getfield 12, 3) := by decide +kernel
theorem zd_N_ofCell_122 : decode zb_N_ofCell 122 = .ok (.iload_n 1, 1) := by decide +kernel
theorem zd_N_ofCell_123 : decode zb_N_ofCell 123 = .ok (.invokevirtual 94, 3) := by decide +kernel
theorem zd_N_ofCell_126 : decode zb_N_ofCell 126 = .ok (.ifCond .eq 7, 3) := by decide +kernel
theorem zd_N_ofCell_129 : decode zb_N_ofCell 129 = .ok (.iconst 1, 1) := by decide +kernel
theorem zd_N_ofCell_130 : decode zb_N_ofCell 130 = .ok (.goto 4, 3) := by decide +kernel
theorem zd_N_ofCell_133 : decode zb_N_ofCell 133 = .ok (.iconst 0, 1) := by decide +kernel
theorem zd_N_ofCell_134 : decode zb_N_ofCell 134 = .ok (.ireturn, 1) := by decide +kernel
theorem zd_N_ofCell_135 : decode zb_N_ofCell 135 = .ok (.aload_n 0, 1) := by decide +kernel
theorem zd_N_ofCell_136 : decode zb_N_ofCell 136 = .ok (.getfield 12, 3) := by decide +kernel
theorem zd_N_ofCell_139 : decode zb_N_ofCell 139 = .ok (.getfield 97, 3) := by decide +kernel
theorem zd_N_ofCell_142 : decode zb_N_ofCell 142 = .ok (.iload_n 1, 1) := by decide +kernel
theorem zd_N_ofCell_143 : decode zb_N_ofCell 143 = .ok (.iaload, 1) := by decide +kernel
theorem zd_N_ofCell_144 : decode zb_N_ofCell 144 = .ok (.ireturn, 1) := by decide +kernel
theorem zd_N_ofCell_145 : decode zb_N_ofCell 145 = .ok (.aload_n 0, 1) := by decide +kernel
theorem zd_N_ofCell_146 : decode zb_N_ofCell 146 = .ok (.getfield 12, 3) := by decide +kernel
theorem zd_N_ofCell_149 : decode zb_N_ofCell 149 = .ok (.getfield 100, 3) := by decide +kernel
theorem zd_N_ofCell_152 : decode zb_N_ofCell 152 = .ok (.iload_n 1, 1) := by decide +kernel
theorem zd_N_ofCell_153 : decode zb_N_ofCell 153 = .ok (.iaload, 1) := by decide +kernel
theorem zd_N_ofCell_154 : decode zb_N_ofCell 154 = .ok (.ireturn, 1) := by decide +kernel
theorem zd_N_ofCell_155 : decode zb_N_ofCell 155 = .ok (.aload_n 0, 1) := by decide +kernel
theorem zd_N_ofCell_156 : decode zb_N_ofCell 156 = .ok (.getfield 12, 3) := by decide +kernel
theorem zd_N_ofCell_159 : decode zb_N_ofCell 159 = .ok (.iload_n 1, 1) := by decide +kernel
theorem zd_N_ofCell_160 : decode zb_N_ofCell 160 = .ok (.iload_n 2, 1) := by decide +kernel
theorem zd_N_ofCell_161 : decode zb_N_ofCell 161 = .ok (.bipush 10, 2) := by decide +kernel
theorem zd_N_ofCell_163 : decode zb_N_ofCell 163 = .ok (.isub, 1) := by decide +kernel
theorem zd_N_ofCell_164 : decode zb_N_ofCell 164 = .ok (.invokevirtual 103, 3) := by decide +kernel
theorem zd_N_ofCell_167 : decode zb_N_ofCell 167 = .ok (.ireturn, 1) := by decide +kernel
theorem zd_N_ofCell_168 : decode zb_N_ofCell 168 = .ok (.bipush (-2), 2) := by decide +kernel
theorem zd_N_ofCell_170 : decode zb_N_ofCell 170 = .ok (.ireturn, 1) := by decide +kernel
def zf_N_ofCell_b134  (u0 : Int32) (m0 : nk_M) : Option (Int32 × nk_M) := some (u0, m0)
set_option maxHeartbeats 4000000 in
set_option maxRecDepth 100000 in
theorem zs_N_ofCell_b134 {G : nk_V} {X : nk_X}   (C : nk_C "NeedOnce" zb_N_ofCell 3 nk_wC G X) (hR : X.2.2.2.1 = nk_rm 2) (hr : X.2.2.2.2.2.2.2.2.1.sig.returnType = (some .int))  : ∀ (u0 : Int32) (m0 : nk_M), nk_Sim nk_wC G X 3 nk_oi 134 [nk_r G 0, .null, .null] [.int u0] m0 (zf_N_ofCell_b134 u0 m0) := by
  intro u0 m0
  unfold zf_N_ofCell_b134
  exact nk_iret C hr zd_N_ofCell_134
def zf_N_ofCell_b155  (y1 : Int32) (y2 : Int32) (m0 : nk_M) : Option (Int32 × nk_M) := nk_bd (zf_C_partAsTold 1 6 y1 (y2 - (10 : Int32)) m0) (fun r1 m1 => some (r1, m1))
set_option maxHeartbeats 4000000 in
set_option maxRecDepth 100000 in
theorem zs_N_ofCell_b155 {G : nk_V} {X : nk_X}   (C : nk_C "NeedOnce" zb_N_ofCell 3 nk_wC G X) (hR : X.2.2.2.1 = nk_rm 2) (hr : X.2.2.2.2.2.2.2.2.1.sig.returnType = (some .int))  : ∀ (y1 : Int32) (y2 : Int32) (m0 : nk_M), nk_Sim nk_wC G X 3 nk_oi 155 [nk_r G 0, .int y1, .int y2] [] m0 (zf_N_ofCell_b155 y1 y2 m0) := by
  intro y1 y2 m0
  unfold zf_N_ofCell_b155
  refine nk_aload_n C zd_N_ofCell_155 rfl rfl ?_
  refine nk_getR C (r := 1) za_N_12 (Nat.le_of_ble_eq_true rfl) rfl rfl zd_N_ofCell_156 ?_
  refine nk_iload_n C zd_N_ofCell_159 rfl rfl ?_
  refine nk_iload_n C zd_N_ofCell_160 rfl rfl ?_
  refine nk_bipush (v := 10) C zd_N_ofCell_161 (by decide) ?_
  refine nk_isub C zd_N_ofCell_163 ?_
  refine nk_callVi C [.int y1, .int (y2 - (10 : Int32))] zv_N_103 hR (zc_C_partAsTold 1 6 (Or.inl ⟨rfl, rfl⟩) y1 (y2 - (10 : Int32)) m0) (by omega) (Nat.le_of_ble_eq_true rfl) rfl rfl rfl rfl (Nat.le_of_ble_eq_true rfl) zd_N_ofCell_164 (fun r1 m1 => ?_)
  exact nk_iret C hr zd_N_ofCell_167
def zf_N_ofCell  (a1 : Int32) (a2 : Int32) (m0 : nk_M) : Option (Int32 × nk_M) := nk_bd (zf_C_has 1 6 a1 m0) (fun r1 m1 => (if r1 = 0 then some ((-1 : Int32), m1) else (if a2 = (0 : Int32) then nk_ald m1 6 8 a1 (fun x2 => some (x2, m1)) else if a2 = (1 : Int32) then nk_ald m1 7 8 a1 (fun x3 => some (x3, m1)) else if a2 = (2 : Int32) then nk_bd (zf_C_costOf 1 6 a1 m1) (fun r4 m2 => some (r4, m2)) else if a2 = (3 : Int32) then nk_bd (zf_C_formNow 1 6 a1 m1) (fun r5 m3 => some (r5, m3)) else if a2 = (4 : Int32) then nk_bd (zf_C_isAwake 1 6 a1 m1) (fun r6 m4 => (if r6 = 0 then (zf_N_ofCell_b134 (0 : Int32) m4) else (zf_N_ofCell_b134 (1 : Int32) m4))) else if a2 = (5 : Int32) then nk_ald m1 10 8 a1 (fun x7 => some (x7, m1)) else if a2 = (6 : Int32) then nk_ald m1 12 8 a1 (fun x8 => some (x8, m1)) else if a2 = (10 : Int32) then (zf_N_ofCell_b155 a1 a2 m1) else if a2 = (11 : Int32) then (zf_N_ofCell_b155 a1 a2 m1) else if a2 = (12 : Int32) then (zf_N_ofCell_b155 a1 a2 m1) else some ((-2 : Int32), m1))))
set_option maxHeartbeats 4000000 in
set_option maxRecDepth 100000 in
theorem zc_N_ofCell {l : Launch} {G : nk_V}   (a1 : Int32) (a2 : Int32) (m0 : nk_M) : nk_Ct l nk_wC G 2 zy_N_ofCell zb_N_ofCell 3 (some .int) nk_oi [nk_r G 0, .int a1, .int a2] m0 (zf_N_ofCell  a1 a2 m0) := by
  refine nk_ent (own := "NeedOnce") (lv := [nk_r G 0, .int a1, .int a2]) 0 rfl (by decide) (Nat.le_of_ble_eq_true rfl) rfl (fun X hl hR C hr => ?_)
  subst hl
  unfold zf_N_ofCell
  refine nk_aload_n C zd_N_ofCell_0 rfl rfl ?_
  refine nk_getR C (r := 1) za_N_12 (Nat.le_of_ble_eq_true rfl) rfl rfl zd_N_ofCell_1 ?_
  refine nk_iload_n C zd_N_ofCell_4 rfl rfl ?_
  refine nk_callVi C [.int a1] zv_N_80 hR (zc_C_has 1 6 (Or.inl ⟨rfl, rfl⟩) a1 m0) (by omega) (Nat.le_of_ble_eq_true rfl) rfl rfl rfl rfl (Nat.le_of_ble_eq_true rfl) zd_N_ofCell_5 (fun r1 m1 => ?_)
  refine nk_if_ne (tgt := 13) C zd_N_ofCell_8 (by decide) ?_ ?_
  · refine nk_iload_n C zd_N_ofCell_13 rfl rfl ?_
    refine nk_tbl C (0 : Int32) (off := 66) (tgt := 80) zd_N_ofCell_14 ⟨by decide, by decide, by decide, by decide⟩ ?_ (fun h0 => ?_)
    · refine nk_aload_n C zd_N_ofCell_80 rfl rfl ?_
      refine nk_getR C (r := 1) za_N_12 (Nat.le_of_ble_eq_true rfl) rfl rfl zd_N_ofCell_81 ?_
      refine nk_getR C (r := 6) za_N_81 (Nat.le_of_ble_eq_true rfl) rfl rfl zd_N_ofCell_84 ?_
      refine nk_iload_n C zd_N_ofCell_87 rfl rfl ?_
      refine nk_iald C (Nat.le_of_ble_eq_true rfl) rfl zd_N_ofCell_88 (fun x2 => ?_)
      exact nk_iret C hr zd_N_ofCell_89
    refine nk_tbl C (1 : Int32) (off := 76) (tgt := 90) zd_N_ofCell_14 ⟨by decide, by decide, by decide, by decide⟩ ?_ (fun h1 => ?_)
    · refine nk_aload_n C zd_N_ofCell_90 rfl rfl ?_
      refine nk_getR C (r := 1) za_N_12 (Nat.le_of_ble_eq_true rfl) rfl rfl zd_N_ofCell_91 ?_
      refine nk_getR C (r := 7) za_N_85 (Nat.le_of_ble_eq_true rfl) rfl rfl zd_N_ofCell_94 ?_
      refine nk_iload_n C zd_N_ofCell_97 rfl rfl ?_
      refine nk_iald C (Nat.le_of_ble_eq_true rfl) rfl zd_N_ofCell_98 (fun x3 => ?_)
      exact nk_iret C hr zd_N_ofCell_99
    refine nk_tbl C (2 : Int32) (off := 86) (tgt := 100) zd_N_ofCell_14 ⟨by decide, by decide, by decide, by decide⟩ ?_ (fun h2 => ?_)
    · refine nk_aload_n C zd_N_ofCell_100 rfl rfl ?_
      refine nk_getR C (r := 1) za_N_12 (Nat.le_of_ble_eq_true rfl) rfl rfl zd_N_ofCell_101 ?_
      refine nk_iload_n C zd_N_ofCell_104 rfl rfl ?_
      refine nk_callVi C [.int a1] zv_N_88 hR (zc_C_costOf 1 6 (Or.inl ⟨rfl, rfl⟩) a1 m1) (by omega) (Nat.le_of_ble_eq_true rfl) rfl rfl rfl rfl (Nat.le_of_ble_eq_true rfl) zd_N_ofCell_105 (fun r4 m2 => ?_)
      exact nk_iret C hr zd_N_ofCell_108
    refine nk_tbl C (3 : Int32) (off := 95) (tgt := 109) zd_N_ofCell_14 ⟨by decide, by decide, by decide, by decide⟩ ?_ (fun h3 => ?_)
    · refine nk_aload_n C zd_N_ofCell_109 rfl rfl ?_
      refine nk_getR C (r := 1) za_N_12 (Nat.le_of_ble_eq_true rfl) rfl rfl zd_N_ofCell_110 ?_
      refine nk_iload_n C zd_N_ofCell_113 rfl rfl ?_
      refine nk_callVi C [.int a1] zv_N_91 hR (zc_C_formNow 1 6 (Or.inl ⟨rfl, rfl⟩) a1 m1) (by omega) (Nat.le_of_ble_eq_true rfl) rfl rfl rfl rfl (Nat.le_of_ble_eq_true rfl) zd_N_ofCell_114 (fun r5 m3 => ?_)
      exact nk_iret C hr zd_N_ofCell_117
    refine nk_tbl C (4 : Int32) (off := 104) (tgt := 118) zd_N_ofCell_14 ⟨by decide, by decide, by decide, by decide⟩ ?_ (fun h4 => ?_)
    · refine nk_aload_n C zd_N_ofCell_118 rfl rfl ?_
      refine nk_getR C (r := 1) za_N_12 (Nat.le_of_ble_eq_true rfl) rfl rfl zd_N_ofCell_119 ?_
      refine nk_iload_n C zd_N_ofCell_122 rfl rfl ?_
      refine nk_callVi C [.int a1] zv_N_94 hR (zc_C_isAwake 1 6 (Or.inl ⟨rfl, rfl⟩) a1 m1) (by omega) (Nat.le_of_ble_eq_true rfl) rfl rfl rfl rfl (Nat.le_of_ble_eq_true rfl) zd_N_ofCell_123 (fun r6 m4 => ?_)
      refine nk_if_eq (tgt := 133) C zd_N_ofCell_126 (by decide) ?_ ?_
      · refine nk_iconst (v := 0) C zd_N_ofCell_133 (by decide) ?_
        refine nk_wk [true, false, false] ?_
        exact zs_N_ofCell_b134 C hR hr (0 : Int32) m4
      · refine nk_iconst (v := 1) C zd_N_ofCell_129 (by decide) ?_
        refine nk_goto (tgt := 134) C zd_N_ofCell_130 (by decide) ?_
        refine nk_wk [true, false, false] ?_
        exact zs_N_ofCell_b134 C hR hr (1 : Int32) m4
    refine nk_tbl C (5 : Int32) (off := 121) (tgt := 135) zd_N_ofCell_14 ⟨by decide, by decide, by decide, by decide⟩ ?_ (fun h5 => ?_)
    · refine nk_aload_n C zd_N_ofCell_135 rfl rfl ?_
      refine nk_getR C (r := 1) za_N_12 (Nat.le_of_ble_eq_true rfl) rfl rfl zd_N_ofCell_136 ?_
      refine nk_getR C (r := 10) za_N_97 (Nat.le_of_ble_eq_true rfl) rfl rfl zd_N_ofCell_139 ?_
      refine nk_iload_n C zd_N_ofCell_142 rfl rfl ?_
      refine nk_iald C (Nat.le_of_ble_eq_true rfl) rfl zd_N_ofCell_143 (fun x7 => ?_)
      exact nk_iret C hr zd_N_ofCell_144
    refine nk_tbl C (6 : Int32) (off := 131) (tgt := 145) zd_N_ofCell_14 ⟨by decide, by decide, by decide, by decide⟩ ?_ (fun h6 => ?_)
    · refine nk_aload_n C zd_N_ofCell_145 rfl rfl ?_
      refine nk_getR C (r := 1) za_N_12 (Nat.le_of_ble_eq_true rfl) rfl rfl zd_N_ofCell_146 ?_
      refine nk_getR C (r := 12) za_N_100 (Nat.le_of_ble_eq_true rfl) rfl rfl zd_N_ofCell_149 ?_
      refine nk_iload_n C zd_N_ofCell_152 rfl rfl ?_
      refine nk_iald C (Nat.le_of_ble_eq_true rfl) rfl zd_N_ofCell_153 (fun x8 => ?_)
      exact nk_iret C hr zd_N_ofCell_154
    refine nk_tbl C (10 : Int32) (off := 141) (tgt := 155) zd_N_ofCell_14 ⟨by decide, by decide, by decide, by decide⟩ ?_ (fun h10 => ?_)
    · exact zs_N_ofCell_b155 C hR hr a1 a2 m1
    refine nk_tbl C (11 : Int32) (off := 141) (tgt := 155) zd_N_ofCell_14 ⟨by decide, by decide, by decide, by decide⟩ ?_ (fun h11 => ?_)
    · exact zs_N_ofCell_b155 C hR hr a1 a2 m1
    refine nk_tbl C (12 : Int32) (off := 141) (tgt := 155) zd_N_ofCell_14 ⟨by decide, by decide, by decide, by decide⟩ ?_ (fun h12 => ?_)
    · exact zs_N_ofCell_b155 C hR hr a1 a2 m1
    refine nk_tblD C (tgt := 168) zd_N_ofCell_14 (by
        have g0 := nk_neK (i := 0) (by decide) h0; have g1 := nk_neK (i := 1) (by decide) h1; have g2 := nk_neK (i := 2) (by decide) h2; have g3 := nk_neK (i := 3) (by decide) h3; have g4 := nk_neK (i := 4) (by decide) h4; have g5 := nk_neK (i := 5) (by decide) h5; have g6 := nk_neK (i := 6) (by decide) h6; have g10 := nk_neK (i := 10) (by decide) h10; have g11 := nk_neK (i := 11) (by decide) h11; have g12 := nk_neK (i := 12) (by decide) h12
        by_cases a0 : Int32.toInt a2 < 0
        · exact Or.inl a0
        by_cases b0 : 12 < Int32.toInt a2
        · exact Or.inr (Or.inl b0)
        have q : Int32.toInt a2 = 7 ∨ Int32.toInt a2 = 8 ∨ Int32.toInt a2 = 9 := by omega
        refine Or.inr (Or.inr ?_)
        rcases q with q | q | q <;> rw [q] <;> rfl) (by decide) ?_
    refine nk_bipush (v := -2) C zd_N_ofCell_168 (by decide) ?_
    exact nk_iret C hr zd_N_ofCell_170
  · refine nk_iconst (v := -1) C zd_N_ofCell_11 (by decide) ?_
    exact nk_iret C hr zd_N_ofCell_12
theorem zd_N_price_0 : decode zb_N_price 0 = .ok (.aload_n 0, 1) := by decide +kernel
theorem zd_N_price_1 : decode zb_N_price 1 = .ok (.getfield 12, 3) := by decide +kernel
theorem zd_N_price_4 : decode zb_N_price 4 = .ok (.iload_n 1, 1) := by decide +kernel
theorem zd_N_price_5 : decode zb_N_price 5 = .ok (.invokevirtual 80, 3) := by decide +kernel
theorem zd_N_price_8 : decode zb_N_price 8 = .ok (.ifCond .ne 5, 3) := by decide +kernel
theorem zd_N_price_11 : decode zb_N_price 11 = .ok (.iconst (-1), 1) := by decide +kernel
theorem zd_N_price_12 : decode zb_N_price 12 = .ok (.ireturn, 1) := by decide +kernel
theorem zd_N_price_13 : decode zb_N_price 13 = .ok (.iload_n 2, 1) := by decide +kernel
theorem zd_N_price_14 : decode zb_N_price 14 = .ok (.iconst 1, 1) := by decide +kernel
theorem zd_N_price_15 : decode zb_N_price 15 = .ok (.if_icmp .lt 9, 3) := by decide +kernel
theorem zd_N_price_18 : decode zb_N_price 18 = .ok (.iload_n 2, 1) := by decide +kernel
theorem zd_N_price_19 : decode zb_N_price 19 = .ok (.bipush 9, 2) := by decide +kernel
theorem zd_N_price_21 : decode zb_N_price 21 = .ok (.if_icmp .le 6, 3) := by decide +kernel
theorem zd_N_price_24 : decode zb_N_price 24 = .ok (.bipush (-2), 2) := by decide +kernel
theorem zd_N_price_26 : decode zb_N_price 26 = .ok (.ireturn, 1) := by decide +kernel
theorem zd_N_price_27 : decode zb_N_price 27 = .ok (.aload_n 0, 1) := by decide +kernel
theorem zd_N_price_28 : decode zb_N_price 28 = .ok (.getfield 12, 3) := by decide +kernel
theorem zd_N_price_31 : decode zb_N_price 31 = .ok (.getfield 85, 3) := by decide +kernel
theorem zd_N_price_34 : decode zb_N_price 34 = .ok (.iload_n 1, 1) := by decide +kernel
theorem zd_N_price_35 : decode zb_N_price 35 = .ok (.iaload, 1) := by decide +kernel
theorem zd_N_price_36 : decode zb_N_price 36 = .ok (.istore_n 3, 1) := by decide +kernel
theorem zd_N_price_37 : decode zb_N_price 37 = .ok (.aload_n 0, 1) := by decide +kernel
theorem zd_N_price_38 : decode zb_N_price 38 = .ok (.getfield 12, 3) := by decide +kernel
theorem zd_N_price_41 : decode zb_N_price 41 = .ok (.getfield 85, 3) := by decide +kernel
theorem zd_N_price_44 : decode zb_N_price 44 = .ok (.iload_n 1, 1) := by decide +kernel
theorem zd_N_price_45 : decode zb_N_price 45 = .ok (.iload_n 2, 1) := by decide +kernel
theorem zd_N_price_46 : decode zb_N_price 46 = .ok (.iastore, 1) := by decide +kernel
theorem zd_N_price_47 : decode zb_N_price 47 = .ok (.iload_n 3, 1) := by decide +kernel
theorem zd_N_price_48 : decode zb_N_price 48 = .ok (.ireturn, 1) := by decide +kernel
def zf_N_price_b24   (m0 : nk_M) : Option (Int32 × nk_M) := some ((-2 : Int32), m0)
set_option maxHeartbeats 4000000 in
set_option maxRecDepth 100000 in
theorem zs_N_price_b24 {G : nk_V} {X : nk_X}   (C : nk_C "NeedOnce" zb_N_price 4 nk_wC G X) (hR : X.2.2.2.1 = nk_rm 2) (hr : X.2.2.2.2.2.2.2.2.1.sig.returnType = (some .int))  : ∀  (m0 : nk_M), nk_Sim nk_wC G X 4 nk_oi 24 [nk_r G 0, .null, .null, .null] [] m0 (zf_N_price_b24  m0) := by
  intro m0
  unfold zf_N_price_b24
  refine nk_bipush (v := -2) C zd_N_price_24 (by decide) ?_
  exact nk_iret C hr zd_N_price_26
def zf_N_price  (a1 : Int32) (a2 : Int32) (m0 : nk_M) : Option (Int32 × nk_M) := nk_bd (zf_C_has 1 6 a1 m0) (fun r1 m1 => (if r1 = 0 then some ((-1 : Int32), m1) else (if a2 < (1 : Int32) then (zf_N_price_b24 m1) else (if a2 ≤ (9 : Int32) then nk_ald m1 7 8 a1 (fun x2 => nk_ast m1 7 8 a1 a2 (fun m2 => some (x2, m2))) else (zf_N_price_b24 m1)))))
set_option maxHeartbeats 4000000 in
set_option maxRecDepth 100000 in
theorem zc_N_price {l : Launch} {G : nk_V}   (a1 : Int32) (a2 : Int32) (m0 : nk_M) : nk_Ct l nk_wC G 2 zy_N_price zb_N_price 4 (some .int) nk_oi [nk_r G 0, .int a1, .int a2] m0 (zf_N_price  a1 a2 m0) := by
  refine nk_ent (own := "NeedOnce") (lv := [nk_r G 0, .int a1, .int a2, .null]) 1 rfl (by decide) (Nat.le_of_ble_eq_true rfl) rfl (fun X hl hR C hr => ?_)
  subst hl
  unfold zf_N_price
  refine nk_aload_n C zd_N_price_0 rfl rfl ?_
  refine nk_getR C (r := 1) za_N_12 (Nat.le_of_ble_eq_true rfl) rfl rfl zd_N_price_1 ?_
  refine nk_iload_n C zd_N_price_4 rfl rfl ?_
  refine nk_callVi C [.int a1] zv_N_80 hR (zc_C_has 1 6 (Or.inl ⟨rfl, rfl⟩) a1 m0) (by omega) (Nat.le_of_ble_eq_true rfl) rfl rfl rfl rfl (Nat.le_of_ble_eq_true rfl) zd_N_price_5 (fun r1 m1 => ?_)
  refine nk_if_ne (tgt := 13) C zd_N_price_8 (by decide) ?_ ?_
  · refine nk_iload_n C zd_N_price_13 rfl rfl ?_
    refine nk_iconst (v := 1) C zd_N_price_14 (by decide) ?_
    refine nk_icmp_lt (tgt := 24) C zd_N_price_15 (by decide) ?_ ?_
    · refine nk_wk [true, false, false, false] ?_
      exact zs_N_price_b24 C hR hr m1
    · refine nk_iload_n C zd_N_price_18 rfl rfl ?_
      refine nk_bipush (v := 9) C zd_N_price_19 (by decide) ?_
      refine nk_icmp_le (tgt := 27) C zd_N_price_21 (by decide) ?_ ?_
      · refine nk_aload_n C zd_N_price_27 rfl rfl ?_
        refine nk_getR C (r := 1) za_N_12 (Nat.le_of_ble_eq_true rfl) rfl rfl zd_N_price_28 ?_
        refine nk_getR C (r := 7) za_N_85 (Nat.le_of_ble_eq_true rfl) rfl rfl zd_N_price_31 ?_
        refine nk_iload_n C zd_N_price_34 rfl rfl ?_
        refine nk_iald C (Nat.le_of_ble_eq_true rfl) rfl zd_N_price_35 (fun x2 => ?_)
        refine nk_istore_n C zd_N_price_36 rfl (Nat.le_of_ble_eq_true rfl) rfl ?_
        refine nk_aload_n C zd_N_price_37 rfl rfl ?_
        refine nk_getR C (r := 1) za_N_12 (Nat.le_of_ble_eq_true rfl) rfl rfl zd_N_price_38 ?_
        refine nk_getR C (r := 7) za_N_85 (Nat.le_of_ble_eq_true rfl) rfl rfl zd_N_price_41 ?_
        refine nk_iload_n C zd_N_price_44 rfl rfl ?_
        refine nk_iload_n C zd_N_price_45 rfl rfl ?_
        refine nk_iast C (Nat.le_of_ble_eq_true rfl) rfl zd_N_price_46 (fun m2 => ?_)
        refine nk_iload_n C zd_N_price_47 rfl rfl ?_
        exact nk_iret C hr zd_N_price_48
      · refine nk_wk [true, false, false, false] ?_
        exact zs_N_price_b24 C hR hr m1
  · refine nk_iconst (v := -1) C zd_N_price_11 (by decide) ?_
    exact nk_iret C hr zd_N_price_12
theorem zd_C_payFor_0 : decode zb_C_payFor 0 = .ok (.aload_n 0, 1) := by decide +kernel
theorem zd_C_payFor_1 : decode zb_C_payFor 1 = .ok (.getfield 30, 3) := by decide +kernel
theorem zd_C_payFor_4 : decode zb_C_payFor 4 = .ok (.iload_n 1, 1) := by decide +kernel
theorem zd_C_payFor_5 : decode zb_C_payFor 5 = .ok (.iaload, 1) := by decide +kernel
theorem zd_C_payFor_6 : decode zb_C_payFor 6 = .ok (.bipush (-9), 2) := by decide +kernel
theorem zd_C_payFor_8 : decode zb_C_payFor 8 = .ok (.if_icmp .eq 4, 3) := by decide +kernel
theorem zd_C_payFor_11 : decode zb_C_payFor 11 = .ok (.return_, 1) := by decide +kernel
theorem zd_C_payFor_12 : decode zb_C_payFor 12 = .ok (.aload_n 0, 1) := by decide +kernel
theorem zd_C_payFor_13 : decode zb_C_payFor 13 = .ok (.dup, 1) := by decide +kernel
theorem zd_C_payFor_14 : decode zb_C_payFor 14 = .ok (.getfield 87, 3) := by decide +kernel
theorem zd_C_payFor_17 : decode zb_C_payFor 17 = .ok (.aload_n 0, 1) := by decide +kernel
theorem zd_C_payFor_18 : decode zb_C_payFor 18 = .ok (.iload_n 1, 1) := by decide +kernel
theorem zd_C_payFor_19 : decode zb_C_payFor 19 = .ok (.invokevirtual 115, 3) := by decide +kernel
theorem zd_C_payFor_22 : decode zb_C_payFor 22 = .ok (.iadd, 1) := by decide +kernel
theorem zd_C_payFor_23 : decode zb_C_payFor 23 = .ok (.putfield 87, 3) := by decide +kernel
theorem zd_C_payFor_26 : decode zb_C_payFor 26 = .ok (.aload_n 0, 1) := by decide +kernel
theorem zd_C_payFor_27 : decode zb_C_payFor 27 = .ok (.dup, 1) := by decide +kernel
theorem zd_C_payFor_28 : decode zb_C_payFor 28 = .ok (.getfield 60, 3) := by decide +kernel
theorem zd_C_payFor_31 : decode zb_C_payFor 31 = .ok (.aload_n 0, 1) := by decide +kernel
theorem zd_C_payFor_32 : decode zb_C_payFor 32 = .ok (.iload_n 1, 1) := by decide +kernel
theorem zd_C_payFor_33 : decode zb_C_payFor 33 = .ok (.invokevirtual 115, 3) := by decide +kernel
theorem zd_C_payFor_36 : decode zb_C_payFor 36 = .ok (.iadd, 1) := by decide +kernel
theorem zd_C_payFor_37 : decode zb_C_payFor 37 = .ok (.putfield 60, 3) := by decide +kernel
theorem zd_C_payFor_40 : decode zb_C_payFor 40 = .ok (.return_, 1) := by decide +kernel
def zf_C_payFor (o B : Nat) (a1 : Int32) (m0 : nk_M) : Option (Unit × nk_M) := nk_ald m0 (B + 6) 8 a1 (fun x1 => (if x1 = (-9 : Int32) then nk_bd (zf_C_costOf o B a1 m0) (fun r2 m1 => nk_pf m1 o 13 ((m0 o 13) + r2) (fun m2 => nk_bd (zf_C_costOf o B a1 m2) (fun r3 m3 => nk_pf m3 o 10 ((m2 o 10) + r3) (fun m4 => some ((), m4))))) else some ((), m0)))
set_option maxHeartbeats 4000000 in
set_option maxRecDepth 100000 in
theorem zc_C_payFor {l : Launch} {G : nk_V} (o B : Nat) (hc : nk_isC o B) (a1 : Int32) (m0 : nk_M) : nk_Ct l nk_wC G 2 zy_C_payFor zb_C_payFor 2 none nk_ov [nk_r G o, .int a1] m0 (zf_C_payFor o B a1 m0) := by
  refine nk_ent (own := "NeedOnce$Cells") (lv := [nk_r G o, .int a1]) 0 rfl (by decide) (Nat.le_of_ble_eq_true rfl) rfl (fun X hl hR C hr => ?_)
  subst hl
  unfold zf_C_payFor
  refine nk_aload_n C zd_C_payFor_0 rfl rfl ?_
  refine nk_getR C (r := (B + 6)) za_C_30 (nkc_ok hc) (nkc_os hc) rfl zd_C_payFor_1 ?_
  refine nk_iload_n C zd_C_payFor_4 rfl rfl ?_
  refine nk_iald C (nkc_bk6 hc) (nkc_bs6 hc) zd_C_payFor_5 (fun x1 => ?_)
  refine nk_bipush (v := -9) C zd_C_payFor_6 (by decide) ?_
  refine nk_icmp_eq (tgt := 12) C zd_C_payFor_8 (by decide) ?_ ?_
  · refine nk_aload_n C zd_C_payFor_12 rfl rfl ?_
    refine nk_dup C zd_C_payFor_13 rfl ?_
    refine nk_getI C za_C_87 (nkc_ok hc) (nkc_os hc) rfl zd_C_payFor_14 ?_
    refine nk_aload_n C zd_C_payFor_17 rfl rfl ?_
    refine nk_iload_n C zd_C_payFor_18 rfl rfl ?_
    refine nk_callVi C [.int a1] zv_C_115 hR (zc_C_costOf o B hc a1 m0) (by omega) (nkc_ok hc) (nkc_os hc) rfl rfl rfl (Nat.le_of_ble_eq_true rfl) zd_C_payFor_19 (fun r2 m1 => ?_)
    refine nk_iadd C zd_C_payFor_22 ?_
    refine nk_putI C zp_C_87 (nkc_ok hc) (nkc_os hc) rfl zd_C_payFor_23 (fun m2 => ?_)
    refine nk_aload_n C zd_C_payFor_26 rfl rfl ?_
    refine nk_dup C zd_C_payFor_27 rfl ?_
    refine nk_getI C za_C_60 (nkc_ok hc) (nkc_os hc) rfl zd_C_payFor_28 ?_
    refine nk_aload_n C zd_C_payFor_31 rfl rfl ?_
    refine nk_iload_n C zd_C_payFor_32 rfl rfl ?_
    refine nk_callVi C [.int a1] zv_C_115 hR (zc_C_costOf o B hc a1 m2) (by omega) (nkc_ok hc) (nkc_os hc) rfl rfl rfl (Nat.le_of_ble_eq_true rfl) zd_C_payFor_33 (fun r3 m3 => ?_)
    refine nk_iadd C zd_C_payFor_36 ?_
    refine nk_putI C zp_C_60 (nkc_ok hc) (nkc_os hc) rfl zd_C_payFor_37 (fun m4 => ?_)
    exact nk_vret C hr zd_C_payFor_40
  · exact nk_vret C hr zd_C_payFor_11
theorem zd_C_comeToNumber_0 : decode zb_C_comeToNumber 0 = .ok (.aload_n 0, 1) := by decide +kernel
theorem zd_C_comeToNumber_1 : decode zb_C_comeToNumber 1 = .ok (.iload_n 1, 1) := by decide +kernel
theorem zd_C_comeToNumber_2 : decode zb_C_comeToNumber 2 = .ok (.iload_n 2, 1) := by decide +kernel
theorem zd_C_comeToNumber_3 : decode zb_C_comeToNumber 3 = .ok (.invokevirtual 96, 3) := by decide +kernel
theorem zd_C_comeToNumber_6 : decode zb_C_comeToNumber 6 = .ok (.istore_n 3, 1) := by decide +kernel
theorem zd_C_comeToNumber_7 : decode zb_C_comeToNumber 7 = .ok (.iload_n 3, 1) := by decide +kernel
theorem zd_C_comeToNumber_8 : decode zb_C_comeToNumber 8 = .ok (.bipush 100, 2) := by decide +kernel
theorem zd_C_comeToNumber_10 : decode zb_C_comeToNumber 10 = .ok (.if_icmp .ne 8, 3) := by decide +kernel
theorem zd_C_comeToNumber_13 : decode zb_C_comeToNumber 13 = .ok (.bipush 102, 2) := by decide +kernel
theorem zd_C_comeToNumber_15 : decode zb_C_comeToNumber 15 = .ok (.goto 4, 3) := by decide +kernel
theorem zd_C_comeToNumber_18 : decode zb_C_comeToNumber 18 = .ok (.iload_n 3, 1) := by decide +kernel
theorem zd_C_comeToNumber_19 : decode zb_C_comeToNumber 19 = .ok (.ireturn, 1) := by decide +kernel
def zf_C_comeToNumber_b19 (o B : Nat) (rc : Int32 → Int32 → nk_M → Option (Int32 × nk_M)) (u0 : Int32) (m0 : nk_M) : Option (Int32 × nk_M) := some (u0, m0)
set_option maxHeartbeats 4000000 in
set_option maxRecDepth 100000 in
theorem zs_C_comeToNumber_b19 {G : nk_V} {X : nk_X} (o B : Nat) (rc : Int32 → Int32 → nk_M → Option (Int32 × nk_M)) (hc : nk_isC o B) {hh : Nat} (hrc : ∀ (c d : Int32) (μ : nk_M), nk_Ct X.2.1 nk_wC G hh zy_C_comeTo zb_C_comeTo 4 (some .int) nk_oi [nk_r G o, .int c, .int d] μ (rc c d μ)) (C : nk_C "NeedOnce$Cells" zb_C_comeToNumber 4 nk_wC G X) (hR : X.2.2.2.1 = nk_rm (hh + 1)) (hr : X.2.2.2.2.2.2.2.2.1.sig.returnType = (some .int))  : ∀ (u0 : Int32) (m0 : nk_M), nk_Sim nk_wC G X 4 nk_oi 19 [nk_r G o, .null, .null, .null] [.int u0] m0 (zf_C_comeToNumber_b19 o B rc u0 m0) := by
  intro u0 m0
  unfold zf_C_comeToNumber_b19
  exact nk_iret C hr zd_C_comeToNumber_19
def zf_C_comeToNumber (o B : Nat) (rc : Int32 → Int32 → nk_M → Option (Int32 × nk_M)) (a1 : Int32) (a2 : Int32) (m0 : nk_M) : Option (Int32 × nk_M) := nk_bd (rc a1 a2 m0) (fun r1 m1 => (if r1 = (100 : Int32) then (zf_C_comeToNumber_b19 o B rc (102 : Int32) m1) else (zf_C_comeToNumber_b19 o B rc r1 m1)))
set_option maxHeartbeats 4000000 in
set_option maxRecDepth 100000 in
theorem zc_C_comeToNumber {l : Launch} {G : nk_V} (o B : Nat) (rc : Int32 → Int32 → nk_M → Option (Int32 × nk_M)) (hc : nk_isC o B) {hh : Nat} (hrc : ∀ (c d : Int32) (μ : nk_M), nk_Ct l nk_wC G hh zy_C_comeTo zb_C_comeTo 4 (some .int) nk_oi [nk_r G o, .int c, .int d] μ (rc c d μ)) (a1 : Int32) (a2 : Int32) (m0 : nk_M) : nk_Ct l nk_wC G (hh + 1) zy_C_comeToNumber zb_C_comeToNumber 4 (some .int) nk_oi [nk_r G o, .int a1, .int a2] m0 (zf_C_comeToNumber o B rc a1 a2 m0) := by
  refine nk_ent (own := "NeedOnce$Cells") (lv := [nk_r G o, .int a1, .int a2, .null]) 1 rfl (by decide) (Nat.le_of_ble_eq_true rfl) rfl (fun X hl hR C hr => ?_)
  subst hl
  unfold zf_C_comeToNumber
  refine nk_aload_n C zd_C_comeToNumber_0 rfl rfl ?_
  refine nk_iload_n C zd_C_comeToNumber_1 rfl rfl ?_
  refine nk_iload_n C zd_C_comeToNumber_2 rfl rfl ?_
  refine nk_callVi C [.int a1, .int a2] zv_C_96 hR (hrc a1 a2 m0) (by omega) (nkc_ok hc) (nkc_os hc) rfl rfl rfl (Nat.le_of_ble_eq_true rfl) zd_C_comeToNumber_3 (fun r1 m1 => ?_)
  refine nk_istore_n C zd_C_comeToNumber_6 rfl (Nat.le_of_ble_eq_true rfl) rfl ?_
  refine nk_iload_n C zd_C_comeToNumber_7 rfl rfl ?_
  refine nk_bipush (v := 100) C zd_C_comeToNumber_8 (by decide) ?_
  refine nk_icmp_ne (tgt := 18) C zd_C_comeToNumber_10 (by decide) ?_ ?_
  · refine nk_iload_n C zd_C_comeToNumber_18 rfl rfl ?_
    refine nk_wk [true, false, false, false] ?_
    exact zs_C_comeToNumber_b19 o B rc hc hrc C hR hr r1 m1
  · refine nk_bipush (v := 102) C zd_C_comeToNumber_13 (by decide) ?_
    refine nk_goto (tgt := 19) C zd_C_comeToNumber_15 (by decide) ?_
    refine nk_wk [true, false, false, false] ?_
    exact zs_C_comeToNumber_b19 o B rc hc hrc C hR hr (102 : Int32) m1
theorem zd_C_workOutBoth_0 : decode zb_C_workOutBoth 0 = .ok (.aload_n 0, 1) := by decide +kernel
theorem zd_C_workOutBoth_1 : decode zb_C_workOutBoth 1 = .ok (.aload_n 0, 1) := by decide +kernel
theorem zd_C_workOutBoth_2 : decode zb_C_workOutBoth 2 = .ok (.iload_n 1, 1) := by decide +kernel
theorem zd_C_workOutBoth_3 : decode zb_C_workOutBoth 3 = .ok (.iconst 0, 1) := by decide +kernel
theorem zd_C_workOutBoth_4 : decode zb_C_workOutBoth 4 = .ok (.invokevirtual 67, 3) := by decide +kernel
theorem zd_C_workOutBoth_7 : decode zb_C_workOutBoth 7 = .ok (.iload_n 2, 1) := by decide +kernel
theorem zd_C_workOutBoth_8 : decode zb_C_workOutBoth 8 = .ok (.iconst 1, 1) := by decide +kernel
theorem zd_C_workOutBoth_9 : decode zb_C_workOutBoth 9 = .ok (.iadd, 1) := by decide +kernel
theorem zd_C_workOutBoth_10 : decode zb_C_workOutBoth 10 = .ok (.invokevirtual 134, 3) := by decide +kernel
theorem zd_C_workOutBoth_13 : decode zb_C_workOutBoth 13 = .ok (.istore_n 3, 1) := by decide +kernel
theorem zd_C_workOutBoth_14 : decode zb_C_workOutBoth 14 = .ok (.iload_n 3, 1) := by decide +kernel
theorem zd_C_workOutBoth_15 : decode zb_C_workOutBoth 15 = .ok (.bipush 100, 2) := by decide +kernel
theorem zd_C_workOutBoth_17 : decode zb_C_workOutBoth 17 = .ok (.if_icmp .lt 5, 3) := by decide +kernel
theorem zd_C_workOutBoth_20 : decode zb_C_workOutBoth 20 = .ok (.iload_n 3, 1) := by decide +kernel
theorem zd_C_workOutBoth_21 : decode zb_C_workOutBoth 21 = .ok (.ireturn, 1) := by decide +kernel
theorem zd_C_workOutBoth_22 : decode zb_C_workOutBoth 22 = .ok (.aload_n 0, 1) := by decide +kernel
theorem zd_C_workOutBoth_23 : decode zb_C_workOutBoth 23 = .ok (.aload_n 0, 1) := by decide +kernel
theorem zd_C_workOutBoth_24 : decode zb_C_workOutBoth 24 = .ok (.iload_n 1, 1) := by decide +kernel
theorem zd_C_workOutBoth_25 : decode zb_C_workOutBoth 25 = .ok (.iconst 1, 1) := by decide +kernel
theorem zd_C_workOutBoth_26 : decode zb_C_workOutBoth 26 = .ok (.invokevirtual 67, 3) := by decide +kernel
theorem zd_C_workOutBoth_29 : decode zb_C_workOutBoth 29 = .ok (.iload_n 2, 1) := by decide +kernel
theorem zd_C_workOutBoth_30 : decode zb_C_workOutBoth 30 = .ok (.iconst 1, 1) := by decide +kernel
theorem zd_C_workOutBoth_31 : decode zb_C_workOutBoth 31 = .ok (.iadd, 1) := by decide +kernel
theorem zd_C_workOutBoth_32 : decode zb_C_workOutBoth 32 = .ok (.invokevirtual 134, 3) := by decide +kernel
theorem zd_C_workOutBoth_35 : decode zb_C_workOutBoth 35 = .ok (.istore 4, 2) := by decide +kernel
theorem zd_C_workOutBoth_37 : decode zb_C_workOutBoth 37 = .ok (.iload 4, 2) := by decide +kernel
theorem zd_C_workOutBoth_39 : decode zb_C_workOutBoth 39 = .ok (.bipush 100, 2) := by decide +kernel
theorem zd_C_workOutBoth_41 : decode zb_C_workOutBoth 41 = .ok (.if_icmp .lt 6, 3) := by decide +kernel
theorem zd_C_workOutBoth_44 : decode zb_C_workOutBoth 44 = .ok (.iload 4, 2) := by decide +kernel
theorem zd_C_workOutBoth_46 : decode zb_C_workOutBoth 46 = .ok (.ireturn, 1) := by decide +kernel
theorem zd_C_workOutBoth_47 : decode zb_C_workOutBoth 47 = .ok (.aload_n 0, 1) := by decide +kernel
theorem zd_C_workOutBoth_48 : decode zb_C_workOutBoth 48 = .ok (.getfield 18, 3) := by decide +kernel
theorem zd_C_workOutBoth_51 : decode zb_C_workOutBoth 51 = .ok (.iload_n 1, 1) := by decide +kernel
theorem zd_C_workOutBoth_52 : decode zb_C_workOutBoth 52 = .ok (.iaload, 1) := by decide +kernel
theorem zd_C_workOutBoth_53 : decode zb_C_workOutBoth 53 = .ok (.iconst 1, 1) := by decide +kernel
theorem zd_C_workOutBoth_54 : decode zb_C_workOutBoth 54 = .ok (.if_icmp .ne 10, 3) := by decide +kernel
theorem zd_C_workOutBoth_57 : decode zb_C_workOutBoth 57 = .ok (.iload_n 3, 1) := by decide +kernel
theorem zd_C_workOutBoth_58 : decode zb_C_workOutBoth 58 = .ok (.iload 4, 2) := by decide +kernel
theorem zd_C_workOutBoth_60 : decode zb_C_workOutBoth 60 = .ok (.iadd, 1) := by decide +kernel
theorem zd_C_workOutBoth_61 : decode zb_C_workOutBoth 61 = .ok (.goto 7, 3) := by decide +kernel
theorem zd_C_workOutBoth_64 : decode zb_C_workOutBoth 64 = .ok (.iload_n 3, 1) := by decide +kernel
theorem zd_C_workOutBoth_65 : decode zb_C_workOutBoth 65 = .ok (.iload 4, 2) := by decide +kernel
theorem zd_C_workOutBoth_67 : decode zb_C_workOutBoth 67 = .ok (.imul, 1) := by decide +kernel
theorem zd_C_workOutBoth_68 : decode zb_C_workOutBoth 68 = .ok (.bipush 100, 2) := by decide +kernel
theorem zd_C_workOutBoth_70 : decode zb_C_workOutBoth 70 = .ok (.irem, 1) := by decide +kernel
theorem zd_C_workOutBoth_71 : decode zb_C_workOutBoth 71 = .ok (.ireturn, 1) := by decide +kernel
def zf_C_workOutBoth_b68 (o B : Nat) (rc : Int32 → Int32 → nk_M → Option (Int32 × nk_M)) (u0 : Int32) (m0 : nk_M) : Option (Int32 × nk_M) := nk_Direm u0 (100 : Int32) (fun x1 => some (x1, m0))
set_option maxHeartbeats 4000000 in
set_option maxRecDepth 100000 in
theorem zs_C_workOutBoth_b68 {G : nk_V} {X : nk_X} (o B : Nat) (rc : Int32 → Int32 → nk_M → Option (Int32 × nk_M)) (hc : nk_isC o B) {hh : Nat} (hrc : ∀ (c d : Int32) (μ : nk_M), nk_Ct X.2.1 nk_wC G hh zy_C_comeTo zb_C_comeTo 4 (some .int) nk_oi [nk_r G o, .int c, .int d] μ (rc c d μ)) (C : nk_C "NeedOnce$Cells" zb_C_workOutBoth 5 nk_wC G X) (hR : X.2.2.2.1 = nk_rm (hh + 2)) (hr : X.2.2.2.2.2.2.2.2.1.sig.returnType = (some .int))  : ∀ (u0 : Int32) (m0 : nk_M), nk_Sim nk_wC G X 5 nk_oi 68 [nk_r G o, .null, .null, .null, .null] [.int u0] m0 (zf_C_workOutBoth_b68 o B rc u0 m0) := by
  intro u0 m0
  unfold zf_C_workOutBoth_b68
  refine nk_bipush (v := 100) C zd_C_workOutBoth_68 (by decide) ?_
  refine nk_irem C zd_C_workOutBoth_70 (fun x1 => ?_)
  exact nk_iret C hr zd_C_workOutBoth_71
def zf_C_workOutBoth (o B : Nat) (rc : Int32 → Int32 → nk_M → Option (Int32 × nk_M)) (a1 : Int32) (a2 : Int32) (m0 : nk_M) : Option (Int32 × nk_M) := nk_bd (zf_C_partAsTold o B a1 (0 : Int32) m0) (fun r1 m1 => nk_bd (zf_C_comeToNumber o B rc r1 (a2 + (1 : Int32)) m1) (fun r2 m2 => (if r2 < (100 : Int32) then nk_bd (zf_C_partAsTold o B a1 (1 : Int32) m2) (fun r3 m3 => nk_bd (zf_C_comeToNumber o B rc r3 (a2 + (1 : Int32)) m3) (fun r4 m4 => (if r4 < (100 : Int32) then nk_ald m4 (B + 2) 8 a1 (fun x5 => (if x5 = (1 : Int32) then (zf_C_workOutBoth_b68 o B rc (r2 + r4) m4) else (zf_C_workOutBoth_b68 o B rc (r2 * r4) m4))) else some (r4, m4)))) else some (r2, m2))))
set_option maxHeartbeats 4000000 in
set_option maxRecDepth 100000 in
theorem zc_C_workOutBoth {l : Launch} {G : nk_V} (o B : Nat) (rc : Int32 → Int32 → nk_M → Option (Int32 × nk_M)) (hc : nk_isC o B) {hh : Nat} (hrc : ∀ (c d : Int32) (μ : nk_M), nk_Ct l nk_wC G hh zy_C_comeTo zb_C_comeTo 4 (some .int) nk_oi [nk_r G o, .int c, .int d] μ (rc c d μ)) (a1 : Int32) (a2 : Int32) (m0 : nk_M) : nk_Ct l nk_wC G (hh + 2) zy_C_workOutBoth zb_C_workOutBoth 5 (some .int) nk_oi [nk_r G o, .int a1, .int a2] m0 (zf_C_workOutBoth o B rc a1 a2 m0) := by
  refine nk_ent (own := "NeedOnce$Cells") (lv := [nk_r G o, .int a1, .int a2, .null, .null]) 2 rfl (by decide) (Nat.le_of_ble_eq_true rfl) rfl (fun X hl hR C hr => ?_)
  subst hl
  unfold zf_C_workOutBoth
  refine nk_aload_n C zd_C_workOutBoth_0 rfl rfl ?_
  refine nk_aload_n C zd_C_workOutBoth_1 rfl rfl ?_
  refine nk_iload_n C zd_C_workOutBoth_2 rfl rfl ?_
  refine nk_iconst (v := 0) C zd_C_workOutBoth_3 (by decide) ?_
  refine nk_callVi C [.int a1, .int (0 : Int32)] zv_C_67 hR (zc_C_partAsTold o B hc a1 (0 : Int32) m0) (by omega) (nkc_ok hc) (nkc_os hc) rfl rfl rfl (Nat.le_of_ble_eq_true rfl) zd_C_workOutBoth_4 (fun r1 m1 => ?_)
  refine nk_iload_n C zd_C_workOutBoth_7 rfl rfl ?_
  refine nk_iconst (v := 1) C zd_C_workOutBoth_8 (by decide) ?_
  refine nk_iadd C zd_C_workOutBoth_9 ?_
  refine nk_callVi C [.int r1, .int (a2 + (1 : Int32))] zv_C_134 hR (zc_C_comeToNumber o B rc hc hrc r1 (a2 + (1 : Int32)) m1) (by omega) (nkc_ok hc) (nkc_os hc) rfl rfl rfl (Nat.le_of_ble_eq_true rfl) zd_C_workOutBoth_10 (fun r2 m2 => ?_)
  refine nk_istore_n C zd_C_workOutBoth_13 rfl (Nat.le_of_ble_eq_true rfl) rfl ?_
  refine nk_iload_n C zd_C_workOutBoth_14 rfl rfl ?_
  refine nk_bipush (v := 100) C zd_C_workOutBoth_15 (by decide) ?_
  refine nk_icmp_lt (tgt := 22) C zd_C_workOutBoth_17 (by decide) ?_ ?_
  · refine nk_aload_n C zd_C_workOutBoth_22 rfl rfl ?_
    refine nk_aload_n C zd_C_workOutBoth_23 rfl rfl ?_
    refine nk_iload_n C zd_C_workOutBoth_24 rfl rfl ?_
    refine nk_iconst (v := 1) C zd_C_workOutBoth_25 (by decide) ?_
    refine nk_callVi C [.int a1, .int (1 : Int32)] zv_C_67 hR (zc_C_partAsTold o B hc a1 (1 : Int32) m2) (by omega) (nkc_ok hc) (nkc_os hc) rfl rfl rfl (Nat.le_of_ble_eq_true rfl) zd_C_workOutBoth_26 (fun r3 m3 => ?_)
    refine nk_iload_n C zd_C_workOutBoth_29 rfl rfl ?_
    refine nk_iconst (v := 1) C zd_C_workOutBoth_30 (by decide) ?_
    refine nk_iadd C zd_C_workOutBoth_31 ?_
    refine nk_callVi C [.int r3, .int (a2 + (1 : Int32))] zv_C_134 hR (zc_C_comeToNumber o B rc hc hrc r3 (a2 + (1 : Int32)) m3) (by omega) (nkc_ok hc) (nkc_os hc) rfl rfl rfl (Nat.le_of_ble_eq_true rfl) zd_C_workOutBoth_32 (fun r4 m4 => ?_)
    refine nk_istore C zd_C_workOutBoth_35 (Nat.le_of_ble_eq_true rfl) rfl ?_
    refine nk_iload C zd_C_workOutBoth_37 rfl ?_
    refine nk_bipush (v := 100) C zd_C_workOutBoth_39 (by decide) ?_
    refine nk_icmp_lt (tgt := 47) C zd_C_workOutBoth_41 (by decide) ?_ ?_
    · refine nk_aload_n C zd_C_workOutBoth_47 rfl rfl ?_
      refine nk_getR C (r := (B + 2)) za_C_18 (nkc_ok hc) (nkc_os hc) rfl zd_C_workOutBoth_48 ?_
      refine nk_iload_n C zd_C_workOutBoth_51 rfl rfl ?_
      refine nk_iald C (nkc_bk2 hc) (nkc_bs2 hc) zd_C_workOutBoth_52 (fun x5 => ?_)
      refine nk_iconst (v := 1) C zd_C_workOutBoth_53 (by decide) ?_
      refine nk_icmp_ne (tgt := 64) C zd_C_workOutBoth_54 (by decide) ?_ ?_
      · refine nk_iload_n C zd_C_workOutBoth_64 rfl rfl ?_
        refine nk_iload C zd_C_workOutBoth_65 rfl ?_
        refine nk_imul C zd_C_workOutBoth_67 ?_
        refine nk_wk [true, false, false, false, false] ?_
        exact zs_C_workOutBoth_b68 o B rc hc hrc C hR hr (r2 * r4) m4
      · refine nk_iload_n C zd_C_workOutBoth_57 rfl rfl ?_
        refine nk_iload C zd_C_workOutBoth_58 rfl ?_
        refine nk_iadd C zd_C_workOutBoth_60 ?_
        refine nk_goto (tgt := 68) C zd_C_workOutBoth_61 (by decide) ?_
        refine nk_wk [true, false, false, false, false] ?_
        exact zs_C_workOutBoth_b68 o B rc hc hrc C hR hr (r2 + r4) m4
    · refine nk_iload C zd_C_workOutBoth_44 rfl ?_
      exact nk_iret C hr zd_C_workOutBoth_46
  · refine nk_iload_n C zd_C_workOutBoth_20 rfl rfl ?_
    exact nk_iret C hr zd_C_workOutBoth_21
theorem zd_C_passOn_0 : decode zb_C_passOn 0 = .ok (.aload_n 0, 1) := by decide +kernel
theorem zd_C_passOn_1 : decode zb_C_passOn 1 = .ok (.iload_n 2, 1) := by decide +kernel
theorem zd_C_passOn_2 : decode zb_C_passOn 2 = .ok (.iload_n 3, 1) := by decide +kernel
theorem zd_C_passOn_3 : decode zb_C_passOn 3 = .ok (.iconst 1, 1) := by decide +kernel
theorem zd_C_passOn_4 : decode zb_C_passOn 4 = .ok (.iadd, 1) := by decide +kernel
theorem zd_C_passOn_5 : decode zb_C_passOn 5 = .ok (.invokevirtual 96, 3) := by decide +kernel
theorem zd_C_passOn_8 : decode zb_C_passOn 8 = .ok (.istore 4, 2) := by decide +kernel
theorem zd_C_passOn_10 : decode zb_C_passOn 10 = .ok (.iload 4, 2) := by decide +kernel
theorem zd_C_passOn_12 : decode zb_C_passOn 12 = .ok (.bipush 100, 2) := by decide +kernel
theorem zd_C_passOn_14 : decode zb_C_passOn 14 = .ok (.if_icmp .ne 15, 3) := by decide +kernel
theorem zd_C_passOn_17 : decode zb_C_passOn 17 = .ok (.aload_n 0, 1) := by decide +kernel
theorem zd_C_passOn_18 : decode zb_C_passOn 18 = .ok (.getfield 27, 3) := by decide +kernel
theorem zd_C_passOn_21 : decode zb_C_passOn 21 = .ok (.iload_n 1, 1) := by decide +kernel
theorem zd_C_passOn_22 : decode zb_C_passOn 22 = .ok (.aload_n 0, 1) := by decide +kernel
theorem zd_C_passOn_23 : decode zb_C_passOn 23 = .ok (.getfield 27, 3) := by decide +kernel
theorem zd_C_passOn_26 : decode zb_C_passOn 26 = .ok (.iload_n 2, 1) := by decide +kernel
theorem zd_C_passOn_27 : decode zb_C_passOn 27 = .ok (.iaload, 1) := by decide +kernel
theorem zd_C_passOn_28 : decode zb_C_passOn 28 = .ok (.iastore, 1) := by decide +kernel
theorem zd_C_passOn_29 : decode zb_C_passOn 29 = .ok (.iload 4, 2) := by decide +kernel
theorem zd_C_passOn_31 : decode zb_C_passOn 31 = .ok (.ireturn, 1) := by decide +kernel
def zf_C_passOn_b29 (o B : Nat) (rc : Int32 → Int32 → nk_M → Option (Int32 × nk_M)) (y4 : Int32) (m0 : nk_M) : Option (Int32 × nk_M) := some (y4, m0)
set_option maxHeartbeats 4000000 in
set_option maxRecDepth 100000 in
theorem zs_C_passOn_b29 {G : nk_V} {X : nk_X} (o B : Nat) (rc : Int32 → Int32 → nk_M → Option (Int32 × nk_M)) (hc : nk_isC o B) {hh : Nat} (hrc : ∀ (c d : Int32) (μ : nk_M), nk_Ct X.2.1 nk_wC G hh zy_C_comeTo zb_C_comeTo 4 (some .int) nk_oi [nk_r G o, .int c, .int d] μ (rc c d μ)) (C : nk_C "NeedOnce$Cells" zb_C_passOn 5 nk_wC G X) (hR : X.2.2.2.1 = nk_rm (hh + 1)) (hr : X.2.2.2.2.2.2.2.2.1.sig.returnType = (some .int))  : ∀ (y4 : Int32) (m0 : nk_M), nk_Sim nk_wC G X 5 nk_oi 29 [nk_r G o, .null, .null, .null, .int y4] [] m0 (zf_C_passOn_b29 o B rc y4 m0) := by
  intro y4 m0
  unfold zf_C_passOn_b29
  refine nk_iload C zd_C_passOn_29 rfl ?_
  exact nk_iret C hr zd_C_passOn_31
def zf_C_passOn (o B : Nat) (rc : Int32 → Int32 → nk_M → Option (Int32 × nk_M)) (a1 : Int32) (a2 : Int32) (a3 : Int32) (m0 : nk_M) : Option (Int32 × nk_M) := nk_bd (rc a2 (a3 + (1 : Int32)) m0) (fun r1 m1 => (if r1 = (100 : Int32) then nk_ald m1 (B + 5) 8 a2 (fun x2 => nk_ast m1 (B + 5) 8 a1 x2 (fun m2 => (zf_C_passOn_b29 o B rc r1 m2))) else (zf_C_passOn_b29 o B rc r1 m1)))
set_option maxHeartbeats 4000000 in
set_option maxRecDepth 100000 in
theorem zc_C_passOn {l : Launch} {G : nk_V} (o B : Nat) (rc : Int32 → Int32 → nk_M → Option (Int32 × nk_M)) (hc : nk_isC o B) {hh : Nat} (hrc : ∀ (c d : Int32) (μ : nk_M), nk_Ct l nk_wC G hh zy_C_comeTo zb_C_comeTo 4 (some .int) nk_oi [nk_r G o, .int c, .int d] μ (rc c d μ)) (a1 : Int32) (a2 : Int32) (a3 : Int32) (m0 : nk_M) : nk_Ct l nk_wC G (hh + 1) zy_C_passOn zb_C_passOn 5 (some .int) nk_oi [nk_r G o, .int a1, .int a2, .int a3] m0 (zf_C_passOn o B rc a1 a2 a3 m0) := by
  refine nk_ent (own := "NeedOnce$Cells") (lv := [nk_r G o, .int a1, .int a2, .int a3, .null]) 1 rfl (by decide) (Nat.le_of_ble_eq_true rfl) rfl (fun X hl hR C hr => ?_)
  subst hl
  unfold zf_C_passOn
  refine nk_aload_n C zd_C_passOn_0 rfl rfl ?_
  refine nk_iload_n C zd_C_passOn_1 rfl rfl ?_
  refine nk_iload_n C zd_C_passOn_2 rfl rfl ?_
  refine nk_iconst (v := 1) C zd_C_passOn_3 (by decide) ?_
  refine nk_iadd C zd_C_passOn_4 ?_
  refine nk_callVi C [.int a2, .int (a3 + (1 : Int32))] zv_C_96 hR (hrc a2 (a3 + (1 : Int32)) m0) (by omega) (nkc_ok hc) (nkc_os hc) rfl rfl rfl (Nat.le_of_ble_eq_true rfl) zd_C_passOn_5 (fun r1 m1 => ?_)
  refine nk_istore C zd_C_passOn_8 (Nat.le_of_ble_eq_true rfl) rfl ?_
  refine nk_iload C zd_C_passOn_10 rfl ?_
  refine nk_bipush (v := 100) C zd_C_passOn_12 (by decide) ?_
  refine nk_icmp_ne (tgt := 29) C zd_C_passOn_14 (by decide) ?_ ?_
  · refine nk_wk [true, false, false, false, true] ?_
    exact zs_C_passOn_b29 o B rc hc hrc C hR hr r1 m1
  · refine nk_aload_n C zd_C_passOn_17 rfl rfl ?_
    refine nk_getR C (r := (B + 5)) za_C_27 (nkc_ok hc) (nkc_os hc) rfl zd_C_passOn_18 ?_
    refine nk_iload_n C zd_C_passOn_21 rfl rfl ?_
    refine nk_aload_n C zd_C_passOn_22 rfl rfl ?_
    refine nk_getR C (r := (B + 5)) za_C_27 (nkc_ok hc) (nkc_os hc) rfl zd_C_passOn_23 ?_
    refine nk_iload_n C zd_C_passOn_26 rfl rfl ?_
    refine nk_iald C (nkc_bk5 hc) (nkc_bs5 hc) zd_C_passOn_27 (fun x2 => ?_)
    refine nk_iast C (nkc_bk5 hc) (nkc_bs5 hc) zd_C_passOn_28 (fun m2 => ?_)
    refine nk_wk [true, false, false, false, true] ?_
    exact zs_C_passOn_b29 o B rc hc hrc C hR hr r1 m2
theorem zd_C_workOutChoice_0 : decode zb_C_workOutChoice 0 = .ok (.aload_n 0, 1) := by decide +kernel
theorem zd_C_workOutChoice_1 : decode zb_C_workOutChoice 1 = .ok (.aload_n 0, 1) := by decide +kernel
theorem zd_C_workOutChoice_2 : decode zb_C_workOutChoice 2 = .ok (.iload_n 1, 1) := by decide +kernel
theorem zd_C_workOutChoice_3 : decode zb_C_workOutChoice 3 = .ok (.iconst 0, 1) := by decide +kernel
theorem zd_C_workOutChoice_4 : decode zb_C_workOutChoice 4 = .ok (.invokevirtual 67, 3) := by decide +kernel
theorem zd_C_workOutChoice_7 : decode zb_C_workOutChoice 7 = .ok (.iload_n 2, 1) := by decide +kernel
theorem zd_C_workOutChoice_8 : decode zb_C_workOutChoice 8 = .ok (.iconst 1, 1) := by decide +kernel
theorem zd_C_workOutChoice_9 : decode zb_C_workOutChoice 9 = .ok (.iadd, 1) := by decide +kernel
theorem zd_C_workOutChoice_10 : decode zb_C_workOutChoice 10 = .ok (.invokevirtual 134, 3) := by decide +kernel
theorem zd_C_workOutChoice_13 : decode zb_C_workOutChoice 13 = .ok (.istore_n 3, 1) := by decide +kernel
theorem zd_C_workOutChoice_14 : decode zb_C_workOutChoice 14 = .ok (.iload_n 3, 1) := by decide +kernel
theorem zd_C_workOutChoice_15 : decode zb_C_workOutChoice 15 = .ok (.bipush 100, 2) := by decide +kernel
theorem zd_C_workOutChoice_17 : decode zb_C_workOutChoice 17 = .ok (.if_icmp .lt 5, 3) := by decide +kernel
theorem zd_C_workOutChoice_20 : decode zb_C_workOutChoice 20 = .ok (.iload_n 3, 1) := by decide +kernel
theorem zd_C_workOutChoice_21 : decode zb_C_workOutChoice 21 = .ok (.ireturn, 1) := by decide +kernel
theorem zd_C_workOutChoice_22 : decode zb_C_workOutChoice 22 = .ok (.aload_n 0, 1) := by decide +kernel
theorem zd_C_workOutChoice_23 : decode zb_C_workOutChoice 23 = .ok (.iload_n 1, 1) := by decide +kernel
theorem zd_C_workOutChoice_24 : decode zb_C_workOutChoice 24 = .ok (.aload_n 0, 1) := by decide +kernel
theorem zd_C_workOutChoice_25 : decode zb_C_workOutChoice 25 = .ok (.iload_n 1, 1) := by decide +kernel
theorem zd_C_workOutChoice_26 : decode zb_C_workOutChoice 26 = .ok (.iload_n 3, 1) := by decide +kernel
theorem zd_C_workOutChoice_27 : decode zb_C_workOutChoice 27 = .ok (.ifCond .eq 7, 3) := by decide +kernel
theorem zd_C_workOutChoice_30 : decode zb_C_workOutChoice 30 = .ok (.iconst 1, 1) := by decide +kernel
theorem zd_C_workOutChoice_31 : decode zb_C_workOutChoice 31 = .ok (.goto 4, 3) := by decide +kernel
theorem zd_C_workOutChoice_34 : decode zb_C_workOutChoice 34 = .ok (.iconst 2, 1) := by decide +kernel
theorem zd_C_workOutChoice_35 : decode zb_C_workOutChoice 35 = .ok (.invokevirtual 67, 3) := by decide +kernel
theorem zd_C_workOutChoice_38 : decode zb_C_workOutChoice 38 = .ok (.iload_n 2, 1) := by decide +kernel
theorem zd_C_workOutChoice_39 : decode zb_C_workOutChoice 39 = .ok (.invokevirtual 130, 3) := by decide +kernel
theorem zd_C_workOutChoice_42 : decode zb_C_workOutChoice 42 = .ok (.ireturn, 1) := by decide +kernel
def zf_C_workOutChoice_b35 (o B : Nat) (rc : Int32 → Int32 → nk_M → Option (Int32 × nk_M)) (y2 : Int32) (u1 : Int32) (u3 : Int32) (u4 : Int32) (m0 : nk_M) : Option (Int32 × nk_M) := nk_bd (zf_C_partAsTold o B u3 u4 m0) (fun r1 m1 => nk_bd (zf_C_passOn o B rc u1 r1 y2 m1) (fun r2 m2 => some (r2, m2)))
set_option maxHeartbeats 4000000 in
set_option maxRecDepth 100000 in
theorem zs_C_workOutChoice_b35 {G : nk_V} {X : nk_X} (o B : Nat) (rc : Int32 → Int32 → nk_M → Option (Int32 × nk_M)) (hc : nk_isC o B) {hh : Nat} (hrc : ∀ (c d : Int32) (μ : nk_M), nk_Ct X.2.1 nk_wC G hh zy_C_comeTo zb_C_comeTo 4 (some .int) nk_oi [nk_r G o, .int c, .int d] μ (rc c d μ)) (C : nk_C "NeedOnce$Cells" zb_C_workOutChoice 4 nk_wC G X) (hR : X.2.2.2.1 = nk_rm (hh + 2)) (hr : X.2.2.2.2.2.2.2.2.1.sig.returnType = (some .int))  : ∀ (y2 : Int32) (u1 : Int32) (u3 : Int32) (u4 : Int32) (m0 : nk_M), nk_Sim nk_wC G X 4 nk_oi 35 [nk_r G o, .null, .int y2, .null] [.int u4, .int u3, nk_r G o, .int u1, nk_r G o] m0 (zf_C_workOutChoice_b35 o B rc y2 u1 u3 u4 m0) := by
  intro y2 u1 u3 u4 m0
  unfold zf_C_workOutChoice_b35
  refine nk_callVi C [.int u3, .int u4] zv_C_67 hR (zc_C_partAsTold o B hc u3 u4 m0) (by omega) (nkc_ok hc) (nkc_os hc) rfl rfl rfl (Nat.le_of_ble_eq_true rfl) zd_C_workOutChoice_35 (fun r1 m1 => ?_)
  refine nk_iload_n C zd_C_workOutChoice_38 rfl rfl ?_
  refine nk_callVi C [.int u1, .int r1, .int y2] zv_C_130 hR (zc_C_passOn o B rc hc hrc u1 r1 y2 m1) (by omega) (nkc_ok hc) (nkc_os hc) rfl rfl rfl (Nat.le_of_ble_eq_true rfl) zd_C_workOutChoice_39 (fun r2 m2 => ?_)
  exact nk_iret C hr zd_C_workOutChoice_42
def zf_C_workOutChoice (o B : Nat) (rc : Int32 → Int32 → nk_M → Option (Int32 × nk_M)) (a1 : Int32) (a2 : Int32) (m0 : nk_M) : Option (Int32 × nk_M) := nk_bd (zf_C_partAsTold o B a1 (0 : Int32) m0) (fun r1 m1 => nk_bd (zf_C_comeToNumber o B rc r1 (a2 + (1 : Int32)) m1) (fun r2 m2 => (if r2 < (100 : Int32) then (if r2 = 0 then (zf_C_workOutChoice_b35 o B rc a2 a1 a1 (2 : Int32) m2) else (zf_C_workOutChoice_b35 o B rc a2 a1 a1 (1 : Int32) m2)) else some (r2, m2))))
set_option maxHeartbeats 4000000 in
set_option maxRecDepth 100000 in
theorem zc_C_workOutChoice {l : Launch} {G : nk_V} (o B : Nat) (rc : Int32 → Int32 → nk_M → Option (Int32 × nk_M)) (hc : nk_isC o B) {hh : Nat} (hrc : ∀ (c d : Int32) (μ : nk_M), nk_Ct l nk_wC G hh zy_C_comeTo zb_C_comeTo 4 (some .int) nk_oi [nk_r G o, .int c, .int d] μ (rc c d μ)) (a1 : Int32) (a2 : Int32) (m0 : nk_M) : nk_Ct l nk_wC G (hh + 2) zy_C_workOutChoice zb_C_workOutChoice 4 (some .int) nk_oi [nk_r G o, .int a1, .int a2] m0 (zf_C_workOutChoice o B rc a1 a2 m0) := by
  refine nk_ent (own := "NeedOnce$Cells") (lv := [nk_r G o, .int a1, .int a2, .null]) 1 rfl (by decide) (Nat.le_of_ble_eq_true rfl) rfl (fun X hl hR C hr => ?_)
  subst hl
  unfold zf_C_workOutChoice
  refine nk_aload_n C zd_C_workOutChoice_0 rfl rfl ?_
  refine nk_aload_n C zd_C_workOutChoice_1 rfl rfl ?_
  refine nk_iload_n C zd_C_workOutChoice_2 rfl rfl ?_
  refine nk_iconst (v := 0) C zd_C_workOutChoice_3 (by decide) ?_
  refine nk_callVi C [.int a1, .int (0 : Int32)] zv_C_67 hR (zc_C_partAsTold o B hc a1 (0 : Int32) m0) (by omega) (nkc_ok hc) (nkc_os hc) rfl rfl rfl (Nat.le_of_ble_eq_true rfl) zd_C_workOutChoice_4 (fun r1 m1 => ?_)
  refine nk_iload_n C zd_C_workOutChoice_7 rfl rfl ?_
  refine nk_iconst (v := 1) C zd_C_workOutChoice_8 (by decide) ?_
  refine nk_iadd C zd_C_workOutChoice_9 ?_
  refine nk_callVi C [.int r1, .int (a2 + (1 : Int32))] zv_C_134 hR (zc_C_comeToNumber o B rc hc hrc r1 (a2 + (1 : Int32)) m1) (by omega) (nkc_ok hc) (nkc_os hc) rfl rfl rfl (Nat.le_of_ble_eq_true rfl) zd_C_workOutChoice_10 (fun r2 m2 => ?_)
  refine nk_istore_n C zd_C_workOutChoice_13 rfl (Nat.le_of_ble_eq_true rfl) rfl ?_
  refine nk_iload_n C zd_C_workOutChoice_14 rfl rfl ?_
  refine nk_bipush (v := 100) C zd_C_workOutChoice_15 (by decide) ?_
  refine nk_icmp_lt (tgt := 22) C zd_C_workOutChoice_17 (by decide) ?_ ?_
  · refine nk_aload_n C zd_C_workOutChoice_22 rfl rfl ?_
    refine nk_iload_n C zd_C_workOutChoice_23 rfl rfl ?_
    refine nk_aload_n C zd_C_workOutChoice_24 rfl rfl ?_
    refine nk_iload_n C zd_C_workOutChoice_25 rfl rfl ?_
    refine nk_iload_n C zd_C_workOutChoice_26 rfl rfl ?_
    refine nk_if_eq (tgt := 34) C zd_C_workOutChoice_27 (by decide) ?_ ?_
    · refine nk_iconst (v := 2) C zd_C_workOutChoice_34 (by decide) ?_
      refine nk_wk [true, false, true, false] ?_
      exact zs_C_workOutChoice_b35 o B rc hc hrc C hR hr a2 a1 a1 (2 : Int32) m2
    · refine nk_iconst (v := 1) C zd_C_workOutChoice_30 (by decide) ?_
      refine nk_goto (tgt := 35) C zd_C_workOutChoice_31 (by decide) ?_
      refine nk_wk [true, false, true, false] ?_
      exact zs_C_workOutChoice_b35 o B rc hc hrc C hR hr a2 a1 a1 (1 : Int32) m2
  · refine nk_iload_n C zd_C_workOutChoice_20 rfl rfl ?_
    exact nk_iret C hr zd_C_workOutChoice_21
theorem zd_C_partOfPair_0 : decode zb_C_partOfPair 0 = .ok (.aload_n 0, 1) := by decide +kernel
theorem zd_C_partOfPair_1 : decode zb_C_partOfPair 1 = .ok (.getfield 21, 3) := by decide +kernel
theorem zd_C_partOfPair_4 : decode zb_C_partOfPair 4 = .ok (.aload_n 0, 1) := by decide +kernel
theorem zd_C_partOfPair_5 : decode zb_C_partOfPair 5 = .ok (.getfield 27, 3) := by decide +kernel
theorem zd_C_partOfPair_8 : decode zb_C_partOfPair 8 = .ok (.iload_n 2, 1) := by decide +kernel
theorem zd_C_partOfPair_9 : decode zb_C_partOfPair 9 = .ok (.iaload, 1) := by decide +kernel
theorem zd_C_partOfPair_10 : decode zb_C_partOfPair 10 = .ok (.iconst 3, 1) := by decide +kernel
theorem zd_C_partOfPair_11 : decode zb_C_partOfPair 11 = .ok (.imul, 1) := by decide +kernel
theorem zd_C_partOfPair_12 : decode zb_C_partOfPair 12 = .ok (.aload_n 0, 1) := by decide +kernel
theorem zd_C_partOfPair_13 : decode zb_C_partOfPair 13 = .ok (.getfield 18, 3) := by decide +kernel
theorem zd_C_partOfPair_16 : decode zb_C_partOfPair 16 = .ok (.iload_n 1, 1) := by decide +kernel
theorem zd_C_partOfPair_17 : decode zb_C_partOfPair 17 = .ok (.iaload, 1) := by decide +kernel
theorem zd_C_partOfPair_18 : decode zb_C_partOfPair 18 = .ok (.iconst 5, 1) := by decide +kernel
theorem zd_C_partOfPair_19 : decode zb_C_partOfPair 19 = .ok (.if_icmp .ne 7, 3) := by decide +kernel
theorem zd_C_partOfPair_22 : decode zb_C_partOfPair 22 = .ok (.iconst 0, 1) := by decide +kernel
theorem zd_C_partOfPair_23 : decode zb_C_partOfPair 23 = .ok (.goto 4, 3) := by decide +kernel
theorem zd_C_partOfPair_26 : decode zb_C_partOfPair 26 = .ok (.iconst 1, 1) := by decide +kernel
theorem zd_C_partOfPair_27 : decode zb_C_partOfPair 27 = .ok (.iadd, 1) := by decide +kernel
theorem zd_C_partOfPair_28 : decode zb_C_partOfPair 28 = .ok (.iaload, 1) := by decide +kernel
theorem zd_C_partOfPair_29 : decode zb_C_partOfPair 29 = .ok (.ireturn, 1) := by decide +kernel
def zf_C_partOfPair_b27 (o B : Nat) (u1 : Int32) (u2 : Int32) (m0 : nk_M) : Option (Int32 × nk_M) := nk_ald m0 (B + 3) 24 (u1 + u2) (fun x1 => some (x1, m0))
set_option maxHeartbeats 4000000 in
set_option maxRecDepth 100000 in
theorem zs_C_partOfPair_b27 {G : nk_V} {X : nk_X} (o B : Nat) (hc : nk_isC o B) (C : nk_C "NeedOnce$Cells" zb_C_partOfPair 3 nk_wC G X) (hR : X.2.2.2.1 = nk_rm 1) (hr : X.2.2.2.2.2.2.2.2.1.sig.returnType = (some .int))  : ∀ (u1 : Int32) (u2 : Int32) (m0 : nk_M), nk_Sim nk_wC G X 3 nk_oi 27 [nk_r G o, .null, .null] [.int u2, .int u1, nk_r G (B + 3)] m0 (zf_C_partOfPair_b27 o B u1 u2 m0) := by
  intro u1 u2 m0
  unfold zf_C_partOfPair_b27
  refine nk_iadd C zd_C_partOfPair_27 ?_
  refine nk_iald C (nkc_bk3 hc) (nkc_bs3 hc) zd_C_partOfPair_28 (fun x1 => ?_)
  exact nk_iret C hr zd_C_partOfPair_29
def zf_C_partOfPair (o B : Nat) (a1 : Int32) (a2 : Int32) (m0 : nk_M) : Option (Int32 × nk_M) := nk_ald m0 (B + 5) 8 a2 (fun x1 => nk_ald m0 (B + 2) 8 a1 (fun x2 => (if x2 = (5 : Int32) then (zf_C_partOfPair_b27 o B (x1 * (3 : Int32)) (0 : Int32) m0) else (zf_C_partOfPair_b27 o B (x1 * (3 : Int32)) (1 : Int32) m0))))
set_option maxHeartbeats 4000000 in
set_option maxRecDepth 100000 in
theorem zc_C_partOfPair {l : Launch} {G : nk_V} (o B : Nat) (hc : nk_isC o B) (a1 : Int32) (a2 : Int32) (m0 : nk_M) : nk_Ct l nk_wC G 1 zy_C_partOfPair zb_C_partOfPair 3 (some .int) nk_oi [nk_r G o, .int a1, .int a2] m0 (zf_C_partOfPair o B a1 a2 m0) := by
  refine nk_ent (own := "NeedOnce$Cells") (lv := [nk_r G o, .int a1, .int a2]) 0 rfl (by decide) (Nat.le_of_ble_eq_true rfl) rfl (fun X hl hR C hr => ?_)
  subst hl
  unfold zf_C_partOfPair
  refine nk_aload_n C zd_C_partOfPair_0 rfl rfl ?_
  refine nk_getR C (r := (B + 3)) za_C_21 (nkc_ok hc) (nkc_os hc) rfl zd_C_partOfPair_1 ?_
  refine nk_aload_n C zd_C_partOfPair_4 rfl rfl ?_
  refine nk_getR C (r := (B + 5)) za_C_27 (nkc_ok hc) (nkc_os hc) rfl zd_C_partOfPair_5 ?_
  refine nk_iload_n C zd_C_partOfPair_8 rfl rfl ?_
  refine nk_iald C (nkc_bk5 hc) (nkc_bs5 hc) zd_C_partOfPair_9 (fun x1 => ?_)
  refine nk_iconst (v := 3) C zd_C_partOfPair_10 (by decide) ?_
  refine nk_imul C zd_C_partOfPair_11 ?_
  refine nk_aload_n C zd_C_partOfPair_12 rfl rfl ?_
  refine nk_getR C (r := (B + 2)) za_C_18 (nkc_ok hc) (nkc_os hc) rfl zd_C_partOfPair_13 ?_
  refine nk_iload_n C zd_C_partOfPair_16 rfl rfl ?_
  refine nk_iald C (nkc_bk2 hc) (nkc_bs2 hc) zd_C_partOfPair_17 (fun x2 => ?_)
  refine nk_iconst (v := 5) C zd_C_partOfPair_18 (by decide) ?_
  refine nk_icmp_ne (tgt := 26) C zd_C_partOfPair_19 (by decide) ?_ ?_
  · refine nk_iconst (v := 1) C zd_C_partOfPair_26 (by decide) ?_
    refine nk_wk [true, false, false] ?_
    exact zs_C_partOfPair_b27 o B hc C hR hr (x1 * (3 : Int32)) (1 : Int32) m0
  · refine nk_iconst (v := 0) C zd_C_partOfPair_22 (by decide) ?_
    refine nk_goto (tgt := 27) C zd_C_partOfPair_23 (by decide) ?_
    refine nk_wk [true, false, false] ?_
    exact zs_C_partOfPair_b27 o B hc C hR hr (x1 * (3 : Int32)) (0 : Int32) m0
theorem zd_C_workOutOfPair_0 : decode zb_C_workOutOfPair 0 = .ok (.aload_n 0, 1) := by decide +kernel
theorem zd_C_workOutOfPair_1 : decode zb_C_workOutOfPair 1 = .ok (.iload_n 1, 1) := by decide +kernel
theorem zd_C_workOutOfPair_2 : decode zb_C_workOutOfPair 2 = .ok (.iconst 0, 1) := by decide +kernel
theorem zd_C_workOutOfPair_3 : decode zb_C_workOutOfPair 3 = .ok (.invokevirtual 67, 3) := by decide +kernel
theorem zd_C_workOutOfPair_6 : decode zb_C_workOutOfPair 6 = .ok (.istore_n 3, 1) := by decide +kernel
theorem zd_C_workOutOfPair_7 : decode zb_C_workOutOfPair 7 = .ok (.aload_n 0, 1) := by decide +kernel
theorem zd_C_workOutOfPair_8 : decode zb_C_workOutOfPair 8 = .ok (.iload_n 3, 1) := by decide +kernel
theorem zd_C_workOutOfPair_9 : decode zb_C_workOutOfPair 9 = .ok (.iload_n 2, 1) := by decide +kernel
theorem zd_C_workOutOfPair_10 : decode zb_C_workOutOfPair 10 = .ok (.iconst 1, 1) := by decide +kernel
theorem zd_C_workOutOfPair_11 : decode zb_C_workOutOfPair 11 = .ok (.iadd, 1) := by decide +kernel
theorem zd_C_workOutOfPair_12 : decode zb_C_workOutOfPair 12 = .ok (.invokevirtual 96, 3) := by decide +kernel
theorem zd_C_workOutOfPair_15 : decode zb_C_workOutOfPair 15 = .ok (.istore 4, 2) := by decide +kernel
theorem zd_C_workOutOfPair_17 : decode zb_C_workOutOfPair 17 = .ok (.iload 4, 2) := by decide +kernel
theorem zd_C_workOutOfPair_19 : decode zb_C_workOutOfPair 19 = .ok (.bipush 100, 2) := by decide +kernel
theorem zd_C_workOutOfPair_21 : decode zb_C_workOutOfPair 21 = .ok (.if_icmp .le 6, 3) := by decide +kernel
theorem zd_C_workOutOfPair_24 : decode zb_C_workOutOfPair 24 = .ok (.iload 4, 2) := by decide +kernel
theorem zd_C_workOutOfPair_26 : decode zb_C_workOutOfPair 26 = .ok (.ireturn, 1) := by decide +kernel
theorem zd_C_workOutOfPair_27 : decode zb_C_workOutOfPair 27 = .ok (.iload 4, 2) := by decide +kernel
theorem zd_C_workOutOfPair_29 : decode zb_C_workOutOfPair 29 = .ok (.bipush 100, 2) := by decide +kernel
theorem zd_C_workOutOfPair_31 : decode zb_C_workOutOfPair 31 = .ok (.if_icmp .ge 6, 3) := by decide +kernel
theorem zd_C_workOutOfPair_34 : decode zb_C_workOutOfPair 34 = .ok (.bipush 102, 2) := by decide +kernel
theorem zd_C_workOutOfPair_36 : decode zb_C_workOutOfPair 36 = .ok (.ireturn, 1) := by decide +kernel
theorem zd_C_workOutOfPair_37 : decode zb_C_workOutOfPair 37 = .ok (.aload_n 0, 1) := by decide +kernel
theorem zd_C_workOutOfPair_38 : decode zb_C_workOutOfPair 38 = .ok (.iload_n 1, 1) := by decide +kernel
theorem zd_C_workOutOfPair_39 : decode zb_C_workOutOfPair 39 = .ok (.aload_n 0, 1) := by decide +kernel
theorem zd_C_workOutOfPair_40 : decode zb_C_workOutOfPair 40 = .ok (.iload_n 1, 1) := by decide +kernel
theorem zd_C_workOutOfPair_41 : decode zb_C_workOutOfPair 41 = .ok (.iload_n 3, 1) := by decide +kernel
theorem zd_C_workOutOfPair_42 : decode zb_C_workOutOfPair 42 = .ok (.invokevirtual 137, 3) := by decide +kernel
theorem zd_C_workOutOfPair_45 : decode zb_C_workOutOfPair 45 = .ok (.iload_n 2, 1) := by decide +kernel
theorem zd_C_workOutOfPair_46 : decode zb_C_workOutOfPair 46 = .ok (.invokevirtual 130, 3) := by decide +kernel
theorem zd_C_workOutOfPair_49 : decode zb_C_workOutOfPair 49 = .ok (.ireturn, 1) := by decide +kernel
def zf_C_workOutOfPair (o B : Nat) (rc : Int32 → Int32 → nk_M → Option (Int32 × nk_M)) (a1 : Int32) (a2 : Int32) (m0 : nk_M) : Option (Int32 × nk_M) := nk_bd (zf_C_partAsTold o B a1 (0 : Int32) m0) (fun r1 m1 => nk_bd (rc r1 (a2 + (1 : Int32)) m1) (fun r2 m2 => (if r2 ≤ (100 : Int32) then (if (100 : Int32) ≤ r2 then nk_bd (zf_C_partOfPair o B a1 r1 m2) (fun r3 m3 => nk_bd (zf_C_passOn o B rc a1 r3 a2 m3) (fun r4 m4 => some (r4, m4))) else some ((102 : Int32), m2)) else some (r2, m2))))
set_option maxHeartbeats 4000000 in
set_option maxRecDepth 100000 in
theorem zc_C_workOutOfPair {l : Launch} {G : nk_V} (o B : Nat) (rc : Int32 → Int32 → nk_M → Option (Int32 × nk_M)) (hc : nk_isC o B) {hh : Nat} (hrc : ∀ (c d : Int32) (μ : nk_M), nk_Ct l nk_wC G hh zy_C_comeTo zb_C_comeTo 4 (some .int) nk_oi [nk_r G o, .int c, .int d] μ (rc c d μ)) (a1 : Int32) (a2 : Int32) (m0 : nk_M) : nk_Ct l nk_wC G (hh + 2) zy_C_workOutOfPair zb_C_workOutOfPair 5 (some .int) nk_oi [nk_r G o, .int a1, .int a2] m0 (zf_C_workOutOfPair o B rc a1 a2 m0) := by
  refine nk_ent (own := "NeedOnce$Cells") (lv := [nk_r G o, .int a1, .int a2, .null, .null]) 2 rfl (by decide) (Nat.le_of_ble_eq_true rfl) rfl (fun X hl hR C hr => ?_)
  subst hl
  unfold zf_C_workOutOfPair
  refine nk_aload_n C zd_C_workOutOfPair_0 rfl rfl ?_
  refine nk_iload_n C zd_C_workOutOfPair_1 rfl rfl ?_
  refine nk_iconst (v := 0) C zd_C_workOutOfPair_2 (by decide) ?_
  refine nk_callVi C [.int a1, .int (0 : Int32)] zv_C_67 hR (zc_C_partAsTold o B hc a1 (0 : Int32) m0) (by omega) (nkc_ok hc) (nkc_os hc) rfl rfl rfl (Nat.le_of_ble_eq_true rfl) zd_C_workOutOfPair_3 (fun r1 m1 => ?_)
  refine nk_istore_n C zd_C_workOutOfPair_6 rfl (Nat.le_of_ble_eq_true rfl) rfl ?_
  refine nk_aload_n C zd_C_workOutOfPair_7 rfl rfl ?_
  refine nk_iload_n C zd_C_workOutOfPair_8 rfl rfl ?_
  refine nk_iload_n C zd_C_workOutOfPair_9 rfl rfl ?_
  refine nk_iconst (v := 1) C zd_C_workOutOfPair_10 (by decide) ?_
  refine nk_iadd C zd_C_workOutOfPair_11 ?_
  refine nk_callVi C [.int r1, .int (a2 + (1 : Int32))] zv_C_96 hR (hrc r1 (a2 + (1 : Int32)) m1) (by omega) (nkc_ok hc) (nkc_os hc) rfl rfl rfl (Nat.le_of_ble_eq_true rfl) zd_C_workOutOfPair_12 (fun r2 m2 => ?_)
  refine nk_istore C zd_C_workOutOfPair_15 (Nat.le_of_ble_eq_true rfl) rfl ?_
  refine nk_iload C zd_C_workOutOfPair_17 rfl ?_
  refine nk_bipush (v := 100) C zd_C_workOutOfPair_19 (by decide) ?_
  refine nk_icmp_le (tgt := 27) C zd_C_workOutOfPair_21 (by decide) ?_ ?_
  · refine nk_iload C zd_C_workOutOfPair_27 rfl ?_
    refine nk_bipush (v := 100) C zd_C_workOutOfPair_29 (by decide) ?_
    refine nk_icmp_ge (tgt := 37) C zd_C_workOutOfPair_31 (by decide) ?_ ?_
    · refine nk_aload_n C zd_C_workOutOfPair_37 rfl rfl ?_
      refine nk_iload_n C zd_C_workOutOfPair_38 rfl rfl ?_
      refine nk_aload_n C zd_C_workOutOfPair_39 rfl rfl ?_
      refine nk_iload_n C zd_C_workOutOfPair_40 rfl rfl ?_
      refine nk_iload_n C zd_C_workOutOfPair_41 rfl rfl ?_
      refine nk_callVi C [.int a1, .int r1] zv_C_137 hR (zc_C_partOfPair o B hc a1 r1 m2) (by omega) (nkc_ok hc) (nkc_os hc) rfl rfl rfl (Nat.le_of_ble_eq_true rfl) zd_C_workOutOfPair_42 (fun r3 m3 => ?_)
      refine nk_iload_n C zd_C_workOutOfPair_45 rfl rfl ?_
      refine nk_callVi C [.int a1, .int r3, .int a2] zv_C_130 hR (zc_C_passOn o B rc hc hrc a1 r3 a2 m3) (by omega) (nkc_ok hc) (nkc_os hc) rfl rfl rfl (Nat.le_of_ble_eq_true rfl) zd_C_workOutOfPair_46 (fun r4 m4 => ?_)
      exact nk_iret C hr zd_C_workOutOfPair_49
    · refine nk_bipush (v := 102) C zd_C_workOutOfPair_34 (by decide) ?_
      exact nk_iret C hr zd_C_workOutOfPair_36
  · refine nk_iload C zd_C_workOutOfPair_24 rfl ?_
    exact nk_iret C hr zd_C_workOutOfPair_26
theorem zd_C_workOut_0 : decode zb_C_workOut 0 = .ok (.aload_n 0, 1) := by decide +kernel
theorem zd_C_workOut_1 : decode zb_C_workOut 1 = .ok (.iload_n 1, 1) := by decide +kernel
theorem zd_C_workOut_2 : decode zb_C_workOut 2 = .ok (.invokevirtual 118, 3) := by decide +kernel
theorem zd_C_workOut_5 : decode zb_C_workOut 5 = .ok (.tableswitch 81 0 6 #[43, 50, 50, 57, 64, 74, 74], 43) := by decide +kernel
theorem zd_C_workOut_48 : decode zb_C_workOut 48 = .ok (.aload_n 0, 1) := by decide +kernel
theorem zd_C_workOut_49 : decode zb_C_workOut 49 = .ok (.iload_n 1, 1) := by decide +kernel
theorem zd_C_workOut_50 : decode zb_C_workOut 50 = .ok (.iconst 0, 1) := by decide +kernel
theorem zd_C_workOut_51 : decode zb_C_workOut 51 = .ok (.invokevirtual 67, 3) := by decide +kernel
theorem zd_C_workOut_54 : decode zb_C_workOut 54 = .ok (.ireturn, 1) := by decide +kernel
theorem zd_C_workOut_55 : decode zb_C_workOut 55 = .ok (.aload_n 0, 1) := by decide +kernel
theorem zd_C_workOut_56 : decode zb_C_workOut 56 = .ok (.iload_n 1, 1) := by decide +kernel
theorem zd_C_workOut_57 : decode zb_C_workOut 57 = .ok (.iload_n 2, 1) := by decide +kernel
theorem zd_C_workOut_58 : decode zb_C_workOut 58 = .ok (.invokevirtual 121, 3) := by decide +kernel
theorem zd_C_workOut_61 : decode zb_C_workOut 61 = .ok (.ireturn, 1) := by decide +kernel
theorem zd_C_workOut_62 : decode zb_C_workOut 62 = .ok (.aload_n 0, 1) := by decide +kernel
theorem zd_C_workOut_63 : decode zb_C_workOut 63 = .ok (.iload_n 1, 1) := by decide +kernel
theorem zd_C_workOut_64 : decode zb_C_workOut 64 = .ok (.iload_n 2, 1) := by decide +kernel
theorem zd_C_workOut_65 : decode zb_C_workOut 65 = .ok (.invokevirtual 124, 3) := by decide +kernel
theorem zd_C_workOut_68 : decode zb_C_workOut 68 = .ok (.ireturn, 1) := by decide +kernel
theorem zd_C_workOut_69 : decode zb_C_workOut 69 = .ok (.aload_n 0, 1) := by decide +kernel
theorem zd_C_workOut_70 : decode zb_C_workOut 70 = .ok (.getfield 27, 3) := by decide +kernel
theorem zd_C_workOut_73 : decode zb_C_workOut 73 = .ok (.iload_n 1, 1) := by decide +kernel
theorem zd_C_workOut_74 : decode zb_C_workOut 74 = .ok (.iload_n 1, 1) := by decide +kernel
theorem zd_C_workOut_75 : decode zb_C_workOut 75 = .ok (.iastore, 1) := by decide +kernel
theorem zd_C_workOut_76 : decode zb_C_workOut 76 = .ok (.bipush 100, 2) := by decide +kernel
theorem zd_C_workOut_78 : decode zb_C_workOut 78 = .ok (.ireturn, 1) := by decide +kernel
theorem zd_C_workOut_79 : decode zb_C_workOut 79 = .ok (.aload_n 0, 1) := by decide +kernel
theorem zd_C_workOut_80 : decode zb_C_workOut 80 = .ok (.iload_n 1, 1) := by decide +kernel
theorem zd_C_workOut_81 : decode zb_C_workOut 81 = .ok (.iload_n 2, 1) := by decide +kernel
theorem zd_C_workOut_82 : decode zb_C_workOut 82 = .ok (.invokevirtual 127, 3) := by decide +kernel
theorem zd_C_workOut_85 : decode zb_C_workOut 85 = .ok (.ireturn, 1) := by decide +kernel
theorem zd_C_workOut_86 : decode zb_C_workOut 86 = .ok (.aload_n 0, 1) := by decide +kernel
theorem zd_C_workOut_87 : decode zb_C_workOut 87 = .ok (.iload_n 1, 1) := by decide +kernel
theorem zd_C_workOut_88 : decode zb_C_workOut 88 = .ok (.aload_n 0, 1) := by decide +kernel
theorem zd_C_workOut_89 : decode zb_C_workOut 89 = .ok (.getfield 30, 3) := by decide +kernel
theorem zd_C_workOut_92 : decode zb_C_workOut 92 = .ok (.iload_n 1, 1) := by decide +kernel
theorem zd_C_workOut_93 : decode zb_C_workOut 93 = .ok (.iaload, 1) := by decide +kernel
theorem zd_C_workOut_94 : decode zb_C_workOut 94 = .ok (.iload_n 2, 1) := by decide +kernel
theorem zd_C_workOut_95 : decode zb_C_workOut 95 = .ok (.invokevirtual 130, 3) := by decide +kernel
theorem zd_C_workOut_98 : decode zb_C_workOut 98 = .ok (.ireturn, 1) := by decide +kernel
def zf_C_workOut_b55 (o B : Nat) (rc : Int32 → Int32 → nk_M → Option (Int32 × nk_M)) (y1 : Int32) (y2 : Int32) (m0 : nk_M) : Option (Int32 × nk_M) := nk_bd (zf_C_workOutBoth o B rc y1 y2 m0) (fun r1 m1 => some (r1, m1))
set_option maxHeartbeats 4000000 in
set_option maxRecDepth 100000 in
theorem zs_C_workOut_b55 {G : nk_V} {X : nk_X} (o B : Nat) (rc : Int32 → Int32 → nk_M → Option (Int32 × nk_M)) (hc : nk_isC o B) {hh : Nat} (hrc : ∀ (c d : Int32) (μ : nk_M), nk_Ct X.2.1 nk_wC G hh zy_C_comeTo zb_C_comeTo 4 (some .int) nk_oi [nk_r G o, .int c, .int d] μ (rc c d μ)) (C : nk_C "NeedOnce$Cells" zb_C_workOut 3 nk_wC G X) (hR : X.2.2.2.1 = nk_rm (hh + 3)) (hr : X.2.2.2.2.2.2.2.2.1.sig.returnType = (some .int))  : ∀ (y1 : Int32) (y2 : Int32) (m0 : nk_M), nk_Sim nk_wC G X 3 nk_oi 55 [nk_r G o, .int y1, .int y2] [] m0 (zf_C_workOut_b55 o B rc y1 y2 m0) := by
  intro y1 y2 m0
  unfold zf_C_workOut_b55
  refine nk_aload_n C zd_C_workOut_55 rfl rfl ?_
  refine nk_iload_n C zd_C_workOut_56 rfl rfl ?_
  refine nk_iload_n C zd_C_workOut_57 rfl rfl ?_
  refine nk_callVi C [.int y1, .int y2] zv_C_121 hR (zc_C_workOutBoth o B rc hc hrc y1 y2 m0) (by omega) (nkc_ok hc) (nkc_os hc) rfl rfl rfl (Nat.le_of_ble_eq_true rfl) zd_C_workOut_58 (fun r1 m1 => ?_)
  exact nk_iret C hr zd_C_workOut_61
def zf_C_workOut_b79 (o B : Nat) (rc : Int32 → Int32 → nk_M → Option (Int32 × nk_M)) (y1 : Int32) (y2 : Int32) (m0 : nk_M) : Option (Int32 × nk_M) := nk_bd (zf_C_workOutOfPair o B rc y1 y2 m0) (fun r1 m1 => some (r1, m1))
set_option maxHeartbeats 4000000 in
set_option maxRecDepth 100000 in
theorem zs_C_workOut_b79 {G : nk_V} {X : nk_X} (o B : Nat) (rc : Int32 → Int32 → nk_M → Option (Int32 × nk_M)) (hc : nk_isC o B) {hh : Nat} (hrc : ∀ (c d : Int32) (μ : nk_M), nk_Ct X.2.1 nk_wC G hh zy_C_comeTo zb_C_comeTo 4 (some .int) nk_oi [nk_r G o, .int c, .int d] μ (rc c d μ)) (C : nk_C "NeedOnce$Cells" zb_C_workOut 3 nk_wC G X) (hR : X.2.2.2.1 = nk_rm (hh + 3)) (hr : X.2.2.2.2.2.2.2.2.1.sig.returnType = (some .int))  : ∀ (y1 : Int32) (y2 : Int32) (m0 : nk_M), nk_Sim nk_wC G X 3 nk_oi 79 [nk_r G o, .int y1, .int y2] [] m0 (zf_C_workOut_b79 o B rc y1 y2 m0) := by
  intro y1 y2 m0
  unfold zf_C_workOut_b79
  refine nk_aload_n C zd_C_workOut_79 rfl rfl ?_
  refine nk_iload_n C zd_C_workOut_80 rfl rfl ?_
  refine nk_iload_n C zd_C_workOut_81 rfl rfl ?_
  refine nk_callVi C [.int y1, .int y2] zv_C_127 hR (zc_C_workOutOfPair o B rc hc hrc y1 y2 m0) (by omega) (nkc_ok hc) (nkc_os hc) rfl rfl rfl (Nat.le_of_ble_eq_true rfl) zd_C_workOut_82 (fun r1 m1 => ?_)
  exact nk_iret C hr zd_C_workOut_85
def zf_C_workOut (o B : Nat) (rc : Int32 → Int32 → nk_M → Option (Int32 × nk_M)) (a1 : Int32) (a2 : Int32) (m0 : nk_M) : Option (Int32 × nk_M) := nk_bd (zf_C_formNow o B a1 m0) (fun r1 m1 => (if r1 = (0 : Int32) then nk_bd (zf_C_partAsTold o B a1 (0 : Int32) m1) (fun r2 m2 => some (r2, m2)) else if r1 = (1 : Int32) then (zf_C_workOut_b55 o B rc a1 a2 m1) else if r1 = (2 : Int32) then (zf_C_workOut_b55 o B rc a1 a2 m1) else if r1 = (3 : Int32) then nk_bd (zf_C_workOutChoice o B rc a1 a2 m1) (fun r3 m3 => some (r3, m3)) else if r1 = (4 : Int32) then nk_ast m1 (B + 5) 8 a1 a1 (fun m4 => some ((100 : Int32), m4)) else if r1 = (5 : Int32) then (zf_C_workOut_b79 o B rc a1 a2 m1) else if r1 = (6 : Int32) then (zf_C_workOut_b79 o B rc a1 a2 m1) else nk_ald m1 (B + 6) 8 a1 (fun x4 => nk_bd (zf_C_passOn o B rc a1 x4 a2 m1) (fun r5 m5 => some (r5, m5)))))
set_option maxHeartbeats 4000000 in
set_option maxRecDepth 100000 in
theorem zc_C_workOut {l : Launch} {G : nk_V} (o B : Nat) (rc : Int32 → Int32 → nk_M → Option (Int32 × nk_M)) (hc : nk_isC o B) {hh : Nat} (hrc : ∀ (c d : Int32) (μ : nk_M), nk_Ct l nk_wC G hh zy_C_comeTo zb_C_comeTo 4 (some .int) nk_oi [nk_r G o, .int c, .int d] μ (rc c d μ)) (a1 : Int32) (a2 : Int32) (m0 : nk_M) : nk_Ct l nk_wC G (hh + 3) zy_C_workOut zb_C_workOut 3 (some .int) nk_oi [nk_r G o, .int a1, .int a2] m0 (zf_C_workOut o B rc a1 a2 m0) := by
  refine nk_ent (own := "NeedOnce$Cells") (lv := [nk_r G o, .int a1, .int a2]) 0 rfl (by decide) (Nat.le_of_ble_eq_true rfl) rfl (fun X hl hR C hr => ?_)
  subst hl
  unfold zf_C_workOut
  refine nk_aload_n C zd_C_workOut_0 rfl rfl ?_
  refine nk_iload_n C zd_C_workOut_1 rfl rfl ?_
  refine nk_callVi C [.int a1] zv_C_118 hR (zc_C_formNow o B hc a1 m0) (by omega) (nkc_ok hc) (nkc_os hc) rfl rfl rfl (Nat.le_of_ble_eq_true rfl) zd_C_workOut_2 (fun r1 m1 => ?_)
  refine nk_tbl C (0 : Int32) (off := 43) (tgt := 48) zd_C_workOut_5 ⟨by decide, by decide, by decide, by decide⟩ ?_ (fun h0 => ?_)
  · refine nk_aload_n C zd_C_workOut_48 rfl rfl ?_
    refine nk_iload_n C zd_C_workOut_49 rfl rfl ?_
    refine nk_iconst (v := 0) C zd_C_workOut_50 (by decide) ?_
    refine nk_callVi C [.int a1, .int (0 : Int32)] zv_C_67 hR (zc_C_partAsTold o B hc a1 (0 : Int32) m1) (by omega) (nkc_ok hc) (nkc_os hc) rfl rfl rfl (Nat.le_of_ble_eq_true rfl) zd_C_workOut_51 (fun r2 m2 => ?_)
    exact nk_iret C hr zd_C_workOut_54
  refine nk_tbl C (1 : Int32) (off := 50) (tgt := 55) zd_C_workOut_5 ⟨by decide, by decide, by decide, by decide⟩ ?_ (fun h1 => ?_)
  · exact zs_C_workOut_b55 o B rc hc hrc C hR hr a1 a2 m1
  refine nk_tbl C (2 : Int32) (off := 50) (tgt := 55) zd_C_workOut_5 ⟨by decide, by decide, by decide, by decide⟩ ?_ (fun h2 => ?_)
  · exact zs_C_workOut_b55 o B rc hc hrc C hR hr a1 a2 m1
  refine nk_tbl C (3 : Int32) (off := 57) (tgt := 62) zd_C_workOut_5 ⟨by decide, by decide, by decide, by decide⟩ ?_ (fun h3 => ?_)
  · refine nk_aload_n C zd_C_workOut_62 rfl rfl ?_
    refine nk_iload_n C zd_C_workOut_63 rfl rfl ?_
    refine nk_iload_n C zd_C_workOut_64 rfl rfl ?_
    refine nk_callVi C [.int a1, .int a2] zv_C_124 hR (zc_C_workOutChoice o B rc hc hrc a1 a2 m1) (by omega) (nkc_ok hc) (nkc_os hc) rfl rfl rfl (Nat.le_of_ble_eq_true rfl) zd_C_workOut_65 (fun r3 m3 => ?_)
    exact nk_iret C hr zd_C_workOut_68
  refine nk_tbl C (4 : Int32) (off := 64) (tgt := 69) zd_C_workOut_5 ⟨by decide, by decide, by decide, by decide⟩ ?_ (fun h4 => ?_)
  · refine nk_aload_n C zd_C_workOut_69 rfl rfl ?_
    refine nk_getR C (r := (B + 5)) za_C_27 (nkc_ok hc) (nkc_os hc) rfl zd_C_workOut_70 ?_
    refine nk_iload_n C zd_C_workOut_73 rfl rfl ?_
    refine nk_iload_n C zd_C_workOut_74 rfl rfl ?_
    refine nk_iast C (nkc_bk5 hc) (nkc_bs5 hc) zd_C_workOut_75 (fun m4 => ?_)
    refine nk_bipush (v := 100) C zd_C_workOut_76 (by decide) ?_
    exact nk_iret C hr zd_C_workOut_78
  refine nk_tbl C (5 : Int32) (off := 74) (tgt := 79) zd_C_workOut_5 ⟨by decide, by decide, by decide, by decide⟩ ?_ (fun h5 => ?_)
  · exact zs_C_workOut_b79 o B rc hc hrc C hR hr a1 a2 m1
  refine nk_tbl C (6 : Int32) (off := 74) (tgt := 79) zd_C_workOut_5 ⟨by decide, by decide, by decide, by decide⟩ ?_ (fun h6 => ?_)
  · exact zs_C_workOut_b79 o B rc hc hrc C hR hr a1 a2 m1
  refine nk_tblD C (tgt := 86) zd_C_workOut_5 (by
      have g0 := nk_neK (i := 0) (by decide) h0; have g1 := nk_neK (i := 1) (by decide) h1; have g2 := nk_neK (i := 2) (by decide) h2; have g3 := nk_neK (i := 3) (by decide) h3; have g4 := nk_neK (i := 4) (by decide) h4; have g5 := nk_neK (i := 5) (by decide) h5; have g6 := nk_neK (i := 6) (by decide) h6
      by_cases a0 : Int32.toInt r1 < 0
      · exact Or.inl a0
      by_cases b0 : 6 < Int32.toInt r1
      · exact Or.inr (Or.inl b0)
      exfalso; omega) (by decide) ?_
  refine nk_aload_n C zd_C_workOut_86 rfl rfl ?_
  refine nk_iload_n C zd_C_workOut_87 rfl rfl ?_
  refine nk_aload_n C zd_C_workOut_88 rfl rfl ?_
  refine nk_getR C (r := (B + 6)) za_C_30 (nkc_ok hc) (nkc_os hc) rfl zd_C_workOut_89 ?_
  refine nk_iload_n C zd_C_workOut_92 rfl rfl ?_
  refine nk_iald C (nkc_bk6 hc) (nkc_bs6 hc) zd_C_workOut_93 (fun x4 => ?_)
  refine nk_iload_n C zd_C_workOut_94 rfl rfl ?_
  refine nk_callVi C [.int a1, .int x4, .int a2] zv_C_130 hR (zc_C_passOn o B rc hc hrc a1 x4 a2 m1) (by omega) (nkc_ok hc) (nkc_os hc) rfl rfl rfl (Nat.le_of_ble_eq_true rfl) zd_C_workOut_95 (fun r5 m5 => ?_)
  exact nk_iret C hr zd_C_workOut_98

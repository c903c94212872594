/-! ===== 11: decode rows, meanings (zf_) and contracts (zc_) of methods (written by program) ===== -/
theorem zd_N_as_0 : decode zb_N_as 0 = .ok (.aload_n 0, 1) := by decide +kernel
theorem zd_N_as_1 : decode zb_N_as 1 = .ok (.iconst 0, 1) := by decide +kernel
theorem zd_N_as_2 : decode zb_N_as 2 = .ok (.putfield 42, 3) := by decide +kernel
theorem zd_N_as_5 : decode zb_N_as 5 = .ok (.aload_n 0, 1) := by decide +kernel
theorem zd_N_as_6 : decode zb_N_as 6 = .ok (.getfield 12, 3) := by decide +kernel
theorem zd_N_as_9 : decode zb_N_as 9 = .ok (.iload_n 1, 1) := by decide +kernel
theorem zd_N_as_10 : decode zb_N_as 10 = .ok (.invokevirtual 80, 3) := by decide +kernel
theorem zd_N_as_13 : decode zb_N_as 13 = .ok (.ifCond .ne 5, 3) := by decide +kernel
theorem zd_N_as_16 : decode zb_N_as 16 = .ok (.iconst (-1), 1) := by decide +kernel
theorem zd_N_as_17 : decode zb_N_as 17 = .ok (.ireturn, 1) := by decide +kernel
theorem zd_N_as_18 : decode zb_N_as 18 = .ok (.iload_n 2, 1) := by decide +kernel
theorem zd_N_as_19 : decode zb_N_as 19 = .ok (.ifCond .lt 8, 3) := by decide +kernel
theorem zd_N_as_22 : decode zb_N_as 22 = .ok (.iload_n 2, 1) := by decide +kernel
theorem zd_N_as_23 : decode zb_N_as 23 = .ok (.iconst 3, 1) := by decide +kernel
theorem zd_N_as_24 : decode zb_N_as 24 = .ok (.if_icmp .lt 6, 3) := by decide +kernel
theorem zd_N_as_27 : decode zb_N_as 27 = .ok (.bipush (-2), 2) := by decide +kernel
theorem zd_N_as_29 : decode zb_N_as 29 = .ok (.ireturn, 1) := by decide +kernel
theorem zd_N_as_30 : decode zb_N_as 30 = .ok (.aload_n 0, 1) := by decide +kernel
theorem zd_N_as_31 : decode zb_N_as 31 = .ok (.getfield 12, 3) := by decide +kernel
theorem zd_N_as_34 : decode zb_N_as 34 = .ok (.getfield 81, 3) := by decide +kernel
theorem zd_N_as_37 : decode zb_N_as 37 = .ok (.iload_n 1, 1) := by decide +kernel
theorem zd_N_as_38 : decode zb_N_as 38 = .ok (.iaload, 1) := by decide +kernel
theorem zd_N_as_39 : decode zb_N_as 39 = .ok (.iload_n 2, 1) := by decide +kernel
theorem zd_N_as_40 : decode zb_N_as 40 = .ok (.if_icmp .lt 7, 3) := by decide +kernel
theorem zd_N_as_43 : decode zb_N_as 43 = .ok (.iconst 1, 1) := by decide +kernel
theorem zd_N_as_44 : decode zb_N_as 44 = .ok (.goto 8, 3) := by decide +kernel
theorem zd_N_as_47 : decode zb_N_as 47 = .ok (.aload_n 0, 1) := by decide +kernel
theorem zd_N_as_48 : decode zb_N_as 48 = .ok (.iconst 2, 1) := by decide +kernel
theorem zd_N_as_49 : decode zb_N_as 49 = .ok (.invokevirtual 57, 3) := by decide +kernel
theorem zd_N_as_52 : decode zb_N_as 52 = .ok (.ireturn, 1) := by decide +kernel
def zf_N_as_b27   (m0 : nk_M) : Option (Int32 × nk_M) := some ((-2 : Int32), m0)
set_option maxHeartbeats 4000000 in
set_option maxRecDepth 100000 in
theorem zs_N_as_b27 {G : nk_V} {X : nk_X}   (C : nk_C "NeedOnce" zb_N_as 3 nk_wC G X) (hR : X.2.2.2.1 = nk_rm 2) (hr : X.2.2.2.2.2.2.2.2.1.sig.returnType = (some .int))  : ∀  (m0 : nk_M), nk_Sim nk_wC G X 3 nk_oi 27 [nk_r G 0, .null, .null] [] m0 (zf_N_as_b27  m0) := by
  intro m0
  unfold zf_N_as_b27
  refine nk_bipush (v := -2) C zd_N_as_27 (by decide) ?_
  exact nk_iret C hr zd_N_as_29
def zf_N_as_b52  (u0 : Int32) (m0 : nk_M) : Option (Int32 × nk_M) := some (u0, m0)
set_option maxHeartbeats 4000000 in
set_option maxRecDepth 100000 in
theorem zs_N_as_b52 {G : nk_V} {X : nk_X}   (C : nk_C "NeedOnce" zb_N_as 3 nk_wC G X) (hR : X.2.2.2.1 = nk_rm 2) (hr : X.2.2.2.2.2.2.2.2.1.sig.returnType = (some .int))  : ∀ (u0 : Int32) (m0 : nk_M), nk_Sim nk_wC G X 3 nk_oi 52 [nk_r G 0, .null, .null] [.int u0] m0 (zf_N_as_b52 u0 m0) := by
  intro u0 m0
  unfold zf_N_as_b52
  exact nk_iret C hr zd_N_as_52
def zf_N_as  (a1 : Int32) (a2 : Int32) (m0 : nk_M) : Option (Int32 × nk_M) := nk_pf m0 0 6 (0 : Int32) (fun m1 => nk_bd (zf_C_has 1 6 a1 m1) (fun r1 m2 => (if r1 = 0 then some ((-1 : Int32), m2) else (if a2 < 0 then (zf_N_as_b27 m2) else (if a2 < (3 : Int32) then nk_ald m2 6 8 a1 (fun x2 => (if x2 < a2 then nk_bd (zf_N_faulted (2 : Int32) m2) (fun r3 m3 => (zf_N_as_b52 r3 m3)) else (zf_N_as_b52 (1 : Int32) m2))) else (zf_N_as_b27 m2))))))
set_option maxHeartbeats 4000000 in
set_option maxRecDepth 100000 in
theorem zc_N_as {l : Launch} {G : nk_V}   (a1 : Int32) (a2 : Int32) (m0 : nk_M) : nk_Ct l nk_wC G 2 zy_N_as zb_N_as 3 (some .int) nk_oi [nk_r G 0, .int a1, .int a2] m0 (zf_N_as  a1 a2 m0) := by
  refine nk_ent (own := "NeedOnce") (lv := [nk_r G 0, .int a1, .int a2]) 0 rfl (by decide) (Nat.le_of_ble_eq_true rfl) rfl (fun X hl hR C hr => ?_)
  subst hl
  unfold zf_N_as
  refine nk_aload_n C zd_N_as_0 rfl rfl ?_
  refine nk_iconst (v := 0) C zd_N_as_1 (by decide) ?_
  refine nk_putI C zp_N_42 (Nat.le_of_ble_eq_true rfl) rfl rfl zd_N_as_2 (fun m1 => ?_)
  refine nk_aload_n C zd_N_as_5 rfl rfl ?_
  refine nk_getR C (r := 1) za_N_12 (Nat.le_of_ble_eq_true rfl) rfl rfl zd_N_as_6 ?_
  refine nk_iload_n C zd_N_as_9 rfl rfl ?_
  refine nk_callVi C [.int a1] zv_N_80 hR (zc_C_has 1 6 (Or.inl ⟨rfl, rfl⟩) a1 m1) (by omega) (Nat.le_of_ble_eq_true rfl) rfl rfl rfl rfl (Nat.le_of_ble_eq_true rfl) zd_N_as_10 (fun r1 m2 => ?_)
  refine nk_if_ne (tgt := 18) C zd_N_as_13 (by decide) ?_ ?_
  · refine nk_iload_n C zd_N_as_18 rfl rfl ?_
    refine nk_if_lt (tgt := 27) C zd_N_as_19 (by decide) ?_ ?_
    · refine nk_wk [true, false, false] ?_
      exact zs_N_as_b27 C hR hr m2
    · refine nk_iload_n C zd_N_as_22 rfl rfl ?_
      refine nk_iconst (v := 3) C zd_N_as_23 (by decide) ?_
      refine nk_icmp_lt (tgt := 30) C zd_N_as_24 (by decide) ?_ ?_
      · refine nk_aload_n C zd_N_as_30 rfl rfl ?_
        refine nk_getR C (r := 1) za_N_12 (Nat.le_of_ble_eq_true rfl) rfl rfl zd_N_as_31 ?_
        refine nk_getR C (r := 6) za_N_81 (Nat.le_of_ble_eq_true rfl) rfl rfl zd_N_as_34 ?_
        refine nk_iload_n C zd_N_as_37 rfl rfl ?_
        refine nk_iald C (Nat.le_of_ble_eq_true rfl) rfl zd_N_as_38 (fun x2 => ?_)
        refine nk_iload_n C zd_N_as_39 rfl rfl ?_
        refine nk_icmp_lt (tgt := 47) C zd_N_as_40 (by decide) ?_ ?_
        · refine nk_aload_n C zd_N_as_47 rfl rfl ?_
          refine nk_iconst (v := 2) C zd_N_as_48 (by decide) ?_
          refine nk_callVi C [.int (2 : Int32)] zv_N_57 hR (zc_N_faulted (2 : Int32) m2) (by omega) (Nat.le_of_ble_eq_true rfl) rfl rfl rfl rfl (Nat.le_of_ble_eq_true rfl) zd_N_as_49 (fun r3 m3 => ?_)
          refine nk_wk [true, false, false] ?_
          exact zs_N_as_b52 C hR hr r3 m3
        · refine nk_iconst (v := 1) C zd_N_as_43 (by decide) ?_
          refine nk_goto (tgt := 52) C zd_N_as_44 (by decide) ?_
          refine nk_wk [true, false, false] ?_
          exact zs_N_as_b52 C hR hr (1 : Int32) m2
      · refine nk_wk [true, false, false] ?_
        exact zs_N_as_b27 C hR hr m2
  · refine nk_iconst (v := -1) C zd_N_as_16 (by decide) ?_
    exact nk_iret C hr zd_N_as_17
theorem zd_N_trace_0 : decode zb_N_trace 0 = .ok (.aload_n 0, 1) := by decide +kernel
theorem zd_N_trace_1 : decode zb_N_trace 1 = .ok (.getfield 222, 3) := by decide +kernel
theorem zd_N_trace_4 : decode zb_N_trace 4 = .ok (.ireturn, 1) := by decide +kernel
def zf_N_trace   (m0 : nk_M) : Option (Int32 × nk_M) := some ((m0 0 5), m0)
set_option maxHeartbeats 4000000 in
set_option maxRecDepth 100000 in
theorem zc_N_trace {l : Launch} {G : nk_V}    (m0 : nk_M) : nk_Ct l nk_wC G 1 zy_N_trace zb_N_trace 1 (some .int) nk_oi [nk_r G 0] m0 (zf_N_trace   m0) := by
  refine nk_ent (own := "NeedOnce") (lv := [nk_r G 0]) 0 rfl (by decide) (Nat.le_of_ble_eq_true rfl) rfl (fun X hl hR C hr => ?_)
  subst hl
  unfold zf_N_trace
  refine nk_aload_n C zd_N_trace_0 rfl rfl ?_
  refine nk_getI C za_N_222 (Nat.le_of_ble_eq_true rfl) rfl rfl zd_N_trace_1 ?_
  exact nk_iret C hr zd_N_trace_4
theorem zd_N_fault_0 : decode zb_N_fault 0 = .ok (.aload_n 0, 1) := by decide +kernel
theorem zd_N_fault_1 : decode zb_N_fault 1 = .ok (.getfield 42, 3) := by decide +kernel
theorem zd_N_fault_4 : decode zb_N_fault 4 = .ok (.ireturn, 1) := by decide +kernel
def zf_N_fault   (m0 : nk_M) : Option (Int32 × nk_M) := some ((m0 0 6), m0)
set_option maxHeartbeats 4000000 in
set_option maxRecDepth 100000 in
theorem zc_N_fault {l : Launch} {G : nk_V}    (m0 : nk_M) : nk_Ct l nk_wC G 1 zy_N_fault zb_N_fault 1 (some .int) nk_oi [nk_r G 0] m0 (zf_N_fault   m0) := by
  refine nk_ent (own := "NeedOnce") (lv := [nk_r G 0]) 0 rfl (by decide) (Nat.le_of_ble_eq_true rfl) rfl (fun X hl hR C hr => ?_)
  subst hl
  unfold zf_N_fault
  refine nk_aload_n C zd_N_fault_0 rfl rfl ?_
  refine nk_getI C za_N_42 (Nat.le_of_ble_eq_true rfl) rfl rfl zd_N_fault_1 ?_
  exact nk_iret C hr zd_N_fault_4
theorem zd_N_many_0 : decode zb_N_many 0 = .ok (.iload_n 1, 1) := by decide +kernel
theorem zd_N_many_1 : decode zb_N_many 1 = .ok (.tableswitch 63 0 3 #[31, 39, 47, 55], 31) := by decide +kernel
theorem zd_N_many_32 : decode zb_N_many 32 = .ok (.aload_n 0, 1) := by decide +kernel
theorem zd_N_many_33 : decode zb_N_many 33 = .ok (.getfield 12, 3) := by decide +kernel
theorem zd_N_many_36 : decode zb_N_many 36 = .ok (.getfield 79, 3) := by decide +kernel
theorem zd_N_many_39 : decode zb_N_many 39 = .ok (.ireturn, 1) := by decide +kernel
theorem zd_N_many_40 : decode zb_N_many 40 = .ok (.aload_n 0, 1) := by decide +kernel
theorem zd_N_many_41 : decode zb_N_many 41 = .ok (.getfield 12, 3) := by decide +kernel
theorem zd_N_many_44 : decode zb_N_many 44 = .ok (.invokevirtual 128, 3) := by decide +kernel
theorem zd_N_many_47 : decode zb_N_many 47 = .ok (.ireturn, 1) := by decide +kernel
theorem zd_N_many_48 : decode zb_N_many 48 = .ok (.aload_n 0, 1) := by decide +kernel
theorem zd_N_many_49 : decode zb_N_many 49 = .ok (.getfield 12, 3) := by decide +kernel
theorem zd_N_many_52 : decode zb_N_many 52 = .ok (.invokevirtual 167, 3) := by decide +kernel
theorem zd_N_many_55 : decode zb_N_many 55 = .ok (.ireturn, 1) := by decide +kernel
theorem zd_N_many_56 : decode zb_N_many 56 = .ok (.aload_n 0, 1) := by decide +kernel
theorem zd_N_many_57 : decode zb_N_many 57 = .ok (.getfield 31, 3) := by decide +kernel
theorem zd_N_many_60 : decode zb_N_many 60 = .ok (.getfield 76, 3) := by decide +kernel
theorem zd_N_many_63 : decode zb_N_many 63 = .ok (.ireturn, 1) := by decide +kernel
theorem zd_N_many_64 : decode zb_N_many 64 = .ok (.bipush (-2), 2) := by decide +kernel
theorem zd_N_many_66 : decode zb_N_many 66 = .ok (.ireturn, 1) := by decide +kernel
def zf_N_many  (a1 : Int32) (m0 : nk_M) : Option (Int32 × nk_M) := (if a1 = (0 : Int32) then some ((m0 1 0), m0) else if a1 = (1 : Int32) then nk_bd (zf_C_howManyAwake 1 6 m0) (fun r1 m1 => some (r1, m1)) else if a1 = (2 : Int32) then nk_bd (zf_C_howManyLinks 1 6 m0) (fun r2 m2 => some (r2, m2)) else if a1 = (3 : Int32) then some ((m0 4 0), m0) else some ((-2 : Int32), m0))
set_option maxHeartbeats 4000000 in
set_option maxRecDepth 100000 in
theorem zc_N_many {l : Launch} {G : nk_V}   (a1 : Int32) (m0 : nk_M) : nk_Ct l nk_wC G 3 zy_N_many zb_N_many 2 (some .int) nk_oi [nk_r G 0, .int a1] m0 (zf_N_many  a1 m0) := by
  refine nk_ent (own := "NeedOnce") (lv := [nk_r G 0, .int a1]) 0 rfl (by decide) (Nat.le_of_ble_eq_true rfl) rfl (fun X hl hR C hr => ?_)
  subst hl
  unfold zf_N_many
  refine nk_iload_n C zd_N_many_0 rfl rfl ?_
  refine nk_tbl C (0 : Int32) (off := 31) (tgt := 32) zd_N_many_1 ⟨by decide, by decide, by decide, by decide⟩ ?_ (fun h0 => ?_)
  · refine nk_aload_n C zd_N_many_32 rfl rfl ?_
    refine nk_getR C (r := 1) za_N_12 (Nat.le_of_ble_eq_true rfl) rfl rfl zd_N_many_33 ?_
    refine nk_getI C za_N_79 (Nat.le_of_ble_eq_true rfl) rfl rfl zd_N_many_36 ?_
    exact nk_iret C hr zd_N_many_39
  refine nk_tbl C (1 : Int32) (off := 39) (tgt := 40) zd_N_many_1 ⟨by decide, by decide, by decide, by decide⟩ ?_ (fun h1 => ?_)
  · refine nk_aload_n C zd_N_many_40 rfl rfl ?_
    refine nk_getR C (r := 1) za_N_12 (Nat.le_of_ble_eq_true rfl) rfl rfl zd_N_many_41 ?_
    refine nk_callVi C [] zv_N_128 hR (zc_C_howManyAwake 1 6 (Or.inl ⟨rfl, rfl⟩) m0) (by omega) (Nat.le_of_ble_eq_true rfl) rfl rfl rfl rfl (Nat.le_of_ble_eq_true rfl) zd_N_many_44 (fun r1 m1 => ?_)
    exact nk_iret C hr zd_N_many_47
  refine nk_tbl C (2 : Int32) (off := 47) (tgt := 48) zd_N_many_1 ⟨by decide, by decide, by decide, by decide⟩ ?_ (fun h2 => ?_)
  · refine nk_aload_n C zd_N_many_48 rfl rfl ?_
    refine nk_getR C (r := 1) za_N_12 (Nat.le_of_ble_eq_true rfl) rfl rfl zd_N_many_49 ?_
    refine nk_callVi C [] zv_N_167 hR (zc_C_howManyLinks 1 6 (Or.inl ⟨rfl, rfl⟩) m0) (by omega) (Nat.le_of_ble_eq_true rfl) rfl rfl rfl rfl (Nat.le_of_ble_eq_true rfl) zd_N_many_52 (fun r2 m2 => ?_)
    exact nk_iret C hr zd_N_many_55
  refine nk_tbl C (3 : Int32) (off := 55) (tgt := 56) zd_N_many_1 ⟨by decide, by decide, by decide, by decide⟩ ?_ (fun h3 => ?_)
  · refine nk_aload_n C zd_N_many_56 rfl rfl ?_
    refine nk_getR C (r := 4) za_N_31 (Nat.le_of_ble_eq_true rfl) rfl rfl zd_N_many_57 ?_
    refine nk_getI C za_N_76 (Nat.le_of_ble_eq_true rfl) rfl rfl zd_N_many_60 ?_
    exact nk_iret C hr zd_N_many_63
  refine nk_tblD C (tgt := 64) zd_N_many_1 (by
      have g0 := nk_neK (i := 0) (by decide) h0; have g1 := nk_neK (i := 1) (by decide) h1; have g2 := nk_neK (i := 2) (by decide) h2; have g3 := nk_neK (i := 3) (by decide) h3
      by_cases a0 : Int32.toInt a1 < 0
      · exact Or.inl a0
      by_cases b0 : 3 < Int32.toInt a1
      · exact Or.inr (Or.inl b0)
      exfalso; omega) (by decide) ?_
  refine nk_bipush (v := -2) C zd_N_many_64 (by decide) ?_
  exact nk_iret C hr zd_N_many_66

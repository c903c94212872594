/-! ===== 18: decode rows, meanings (zf_) and contracts (zc_) of methods (written by program) ===== -/
theorem zd_M_trace_0 : decode zb_M_trace 0 = .ok (.aload_n 0, 1) := by decide +kernel
theorem zd_M_trace_1 : decode zb_M_trace 1 = .ok (.getfield 330, 3) := by decide +kernel
theorem zd_M_trace_4 : decode zb_M_trace 4 = .ok (.ireturn, 1) := by decide +kernel
def zf_M_trace   (m0 : nk_M) : Option (Int32 × nk_M) := some ((m0 0 48), m0)
set_option maxHeartbeats 4000000 in
set_option maxRecDepth 100000 in
theorem zc_M_trace {l : Launch} {G : nk_V}    (m0 : nk_M) : nk_Ct l nk_wR G 1 zy_M_trace zb_M_trace 1 (some .int) nk_oi [nk_r G 0] m0 (zf_M_trace   m0) := by
  refine nk_ent (own := "NeedOnceModel") (lv := [nk_r G 0]) 0 rfl (by decide) (Nat.le_of_ble_eq_true rfl) rfl (fun X hl hR C hr => ?_)
  subst hl
  unfold zf_M_trace
  refine nk_aload_n C zd_M_trace_0 rfl rfl ?_
  refine nk_getI C za_M_330 (Nat.le_of_ble_eq_true rfl) rfl rfl zd_M_trace_1 ?_
  exact nk_iret C hr zd_M_trace_4
theorem zd_M_fault_0 : decode zb_M_fault 0 = .ok (.aload_n 0, 1) := by decide +kernel
theorem zd_M_fault_1 : decode zb_M_fault 1 = .ok (.getfield 96, 3) := by decide +kernel
theorem zd_M_fault_4 : decode zb_M_fault 4 = .ok (.ireturn, 1) := by decide +kernel
def zf_M_fault   (m0 : nk_M) : Option (Int32 × nk_M) := some ((m0 0 0), m0)
set_option maxHeartbeats 4000000 in
set_option maxRecDepth 100000 in
theorem zc_M_fault {l : Launch} {G : nk_V}    (m0 : nk_M) : nk_Ct l nk_wR G 1 zy_M_fault zb_M_fault 1 (some .int) nk_oi [nk_r G 0] m0 (zf_M_fault   m0) := by
  refine nk_ent (own := "NeedOnceModel") (lv := [nk_r G 0]) 0 rfl (by decide) (Nat.le_of_ble_eq_true rfl) rfl (fun X hl hR C hr => ?_)
  subst hl
  unfold zf_M_fault
  refine nk_aload_n C zd_M_fault_0 rfl rfl ?_
  refine nk_getI C za_M_96 (Nat.le_of_ble_eq_true rfl) rfl rfl zd_M_fault_1 ?_
  exact nk_iret C hr zd_M_fault_4
theorem zd_M_many_0 : decode zb_M_many 0 = .ok (.iload_n 1, 1) := by decide +kernel
theorem zd_M_many_1 : decode zb_M_many 1 = .ok (.tableswitch 51 0 3 #[31, 36, 41, 46], 31) := by decide +kernel
theorem zd_M_many_32 : decode zb_M_many 32 = .ok (.aload_n 0, 1) := by decide +kernel
theorem zd_M_many_33 : decode zb_M_many 33 = .ok (.getfield 104, 3) := by decide +kernel
theorem zd_M_many_36 : decode zb_M_many 36 = .ok (.ireturn, 1) := by decide +kernel
theorem zd_M_many_37 : decode zb_M_many 37 = .ok (.aload_n 0, 1) := by decide +kernel
theorem zd_M_many_38 : decode zb_M_many 38 = .ok (.invokevirtual 255, 3) := by decide +kernel
theorem zd_M_many_41 : decode zb_M_many 41 = .ok (.ireturn, 1) := by decide +kernel
theorem zd_M_many_42 : decode zb_M_many 42 = .ok (.aload_n 0, 1) := by decide +kernel
theorem zd_M_many_43 : decode zb_M_many 43 = .ok (.invokevirtual 291, 3) := by decide +kernel
theorem zd_M_many_46 : decode zb_M_many 46 = .ok (.ireturn, 1) := by decide +kernel
theorem zd_M_many_47 : decode zb_M_many 47 = .ok (.aload_n 0, 1) := by decide +kernel
theorem zd_M_many_48 : decode zb_M_many 48 = .ok (.getfield 166, 3) := by decide +kernel
theorem zd_M_many_51 : decode zb_M_many 51 = .ok (.ireturn, 1) := by decide +kernel
theorem zd_M_many_52 : decode zb_M_many 52 = .ok (.bipush (-2), 2) := by decide +kernel
theorem zd_M_many_54 : decode zb_M_many 54 = .ok (.ireturn, 1) := by decide +kernel
def zf_M_many  (a1 : Int32) (m0 : nk_M) : Option (Int32 × nk_M) := (if a1 = (0 : Int32) then some ((m0 0 1), m0) else if a1 = (1 : Int32) then nk_bd (zf_M_awakeOnes m0) (fun r1 m1 => some (r1, m1)) else if a1 = (2 : Int32) then nk_bd (zf_M_links m0) (fun r2 m2 => some (r2, m2)) else if a1 = (3 : Int32) then some ((m0 0 41), m0) else some ((-2 : Int32), m0))
set_option maxHeartbeats 4000000 in
set_option maxRecDepth 100000 in
theorem zc_M_many {l : Launch} {G : nk_V}   (a1 : Int32) (m0 : nk_M) : nk_Ct l nk_wR G 2 zy_M_many zb_M_many 2 (some .int) nk_oi [nk_r G 0, .int a1] m0 (zf_M_many  a1 m0) := by
  refine nk_ent (own := "NeedOnceModel") (lv := [nk_r G 0, .int a1]) 0 rfl (by decide) (Nat.le_of_ble_eq_true rfl) rfl (fun X hl hR C hr => ?_)
  subst hl
  unfold zf_M_many
  refine nk_iload_n C zd_M_many_0 rfl rfl ?_
  refine nk_tbl C (0 : Int32) (off := 31) (tgt := 32) zd_M_many_1 ⟨by decide, by decide, by decide, by decide⟩ ?_ (fun h0 => ?_)
  · refine nk_aload_n C zd_M_many_32 rfl rfl ?_
    refine nk_getI C za_M_104 (Nat.le_of_ble_eq_true rfl) rfl rfl zd_M_many_33 ?_
    exact nk_iret C hr zd_M_many_36
  refine nk_tbl C (1 : Int32) (off := 36) (tgt := 37) zd_M_many_1 ⟨by decide, by decide, by decide, by decide⟩ ?_ (fun h1 => ?_)
  · refine nk_aload_n C zd_M_many_37 rfl rfl ?_
    refine nk_callVi C [] zv_M_255 hR (zc_M_awakeOnes m0) (by omega) (Nat.le_of_ble_eq_true rfl) rfl rfl rfl rfl (Nat.le_of_ble_eq_true rfl) zd_M_many_38 (fun r1 m1 => ?_)
    exact nk_iret C hr zd_M_many_41
  refine nk_tbl C (2 : Int32) (off := 41) (tgt := 42) zd_M_many_1 ⟨by decide, by decide, by decide, by decide⟩ ?_ (fun h2 => ?_)
  · refine nk_aload_n C zd_M_many_42 rfl rfl ?_
    refine nk_callVi C [] zv_M_291 hR (zc_M_links m0) (by omega) (Nat.le_of_ble_eq_true rfl) rfl rfl rfl rfl (Nat.le_of_ble_eq_true rfl) zd_M_many_43 (fun r2 m2 => ?_)
    exact nk_iret C hr zd_M_many_46
  refine nk_tbl C (3 : Int32) (off := 46) (tgt := 47) zd_M_many_1 ⟨by decide, by decide, by decide, by decide⟩ ?_ (fun h3 => ?_)
  · refine nk_aload_n C zd_M_many_47 rfl rfl ?_
    refine nk_getI C za_M_166 (Nat.le_of_ble_eq_true rfl) rfl rfl zd_M_many_48 ?_
    exact nk_iret C hr zd_M_many_51
  refine nk_tblD C (tgt := 52) zd_M_many_1 (by
      have g0 := nk_neK (i := 0) (by decide) h0; have g1 := nk_neK (i := 1) (by decide) h1; have g2 := nk_neK (i := 2) (by decide) h2; have g3 := nk_neK (i := 3) (by decide) h3
      by_cases a0 : Int32.toInt a1 < 0
      · exact Or.inl a0
      by_cases b0 : 3 < Int32.toInt a1
      · exact Or.inr (Or.inl b0)
      exfalso; omega) (by decide) ?_
  refine nk_bipush (v := -2) C zd_M_many_52 (by decide) ?_
  exact nk_iret C hr zd_M_many_54

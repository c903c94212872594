/-! ===== 15: decode rows, meanings (zf_) and contracts (zc_) of methods (written by program) ===== -/
theorem zd_M_sleep_0 : decode zb_M_sleep 0 = .ok (.aload_n 0, 1) := by decide +kernel
theorem zd_M_sleep_1 : decode zb_M_sleep 1 = .ok (.invokevirtual 255, 3) := by decide +kernel
theorem zd_M_sleep_4 : decode zb_M_sleep 4 = .ok (.istore_n 1, 1) := by decide +kernel
theorem zd_M_sleep_5 : decode zb_M_sleep 5 = .ok (.aload_n 0, 1) := by decide +kernel
theorem zd_M_sleep_6 : decode zb_M_sleep 6 = .ok (.invokevirtual 181, 3) := by decide +kernel
theorem zd_M_sleep_9 : decode zb_M_sleep 9 = .ok (.iload_n 1, 1) := by decide +kernel
theorem zd_M_sleep_10 : decode zb_M_sleep 10 = .ok (.ireturn, 1) := by decide +kernel
def zf_M_sleep   (m0 : nk_M) : Option (Int32 × nk_M) := nk_bd (zf_M_awakeOnes m0) (fun r1 m1 => nk_bd (zf_M_allAsleep m1) (fun _ m2 => some (r1, m2)))
set_option maxHeartbeats 4000000 in
set_option maxRecDepth 100000 in
theorem zc_M_sleep {l : Launch} {G : nk_V}    (m0 : nk_M) : nk_Ct l nk_wR G 2 zy_M_sleep zb_M_sleep 2 (some .int) nk_oi [nk_r G 0] m0 (zf_M_sleep   m0) := by
  refine nk_ent (own := "NeedOnceModel") (lv := [nk_r G 0, .null]) 1 rfl (by decide) (Nat.le_of_ble_eq_true rfl) rfl (fun X hl hR C hr => ?_)
  subst hl
  unfold zf_M_sleep
  refine nk_aload_n C zd_M_sleep_0 rfl rfl ?_
  refine nk_callVi C [] zv_M_255 hR (zc_M_awakeOnes m0) (by omega) (Nat.le_of_ble_eq_true rfl) rfl rfl rfl rfl (Nat.le_of_ble_eq_true rfl) zd_M_sleep_1 (fun r1 m1 => ?_)
  refine nk_istore_n C zd_M_sleep_4 rfl (Nat.le_of_ble_eq_true rfl) rfl ?_
  refine nk_aload_n C zd_M_sleep_5 rfl rfl ?_
  refine nk_callVv C [] zv_M_181 hR (zc_M_allAsleep m1) (by omega) (Nat.le_of_ble_eq_true rfl) rfl rfl rfl rfl (Nat.le_of_ble_eq_true rfl) zd_M_sleep_6 (fun m2 => ?_)
  refine nk_iload_n C zd_M_sleep_9 rfl rfl ?_
  exact nk_iret C hr zd_M_sleep_10
theorem zd_M_nextToShorten_0 : decode zb_M_nextToShorten 0 = .ok (.bipush (-9), 2) := by decide +kernel
theorem zd_M_nextToShorten_2 : decode zb_M_nextToShorten 2 = .ok (.istore_n 1, 1) := by decide +kernel
theorem zd_M_nextToShorten_3 : decode zb_M_nextToShorten 3 = .ok (.aload_n 0, 1) := by decide +kernel
theorem zd_M_nextToShorten_4 : decode zb_M_nextToShorten 4 = .ok (.getfield 104, 3) := by decide +kernel
theorem zd_M_nextToShorten_7 : decode zb_M_nextToShorten 7 = .ok (.iconst 1, 1) := by decide +kernel
theorem zd_M_nextToShorten_8 : decode zb_M_nextToShorten 8 = .ok (.isub, 1) := by decide +kernel
theorem zd_M_nextToShorten_9 : decode zb_M_nextToShorten 9 = .ok (.istore_n 2, 1) := by decide +kernel
theorem zd_M_nextToShorten_10 : decode zb_M_nextToShorten 10 = .ok (.iload_n 2, 1) := by decide +kernel
theorem zd_M_nextToShorten_11 : decode zb_M_nextToShorten 11 = .ok (.ifCond .lt 71, 3) := by decide +kernel
theorem zd_M_nextToShorten_14 : decode zb_M_nextToShorten 14 = .ok (.aload_n 0, 1) := by decide +kernel
theorem zd_M_nextToShorten_15 : decode zb_M_nextToShorten 15 = .ok (.getfield 16, 3) := by decide +kernel
theorem zd_M_nextToShorten_18 : decode zb_M_nextToShorten 18 = .ok (.iload_n 2, 1) := by decide +kernel
theorem zd_M_nextToShorten_19 : decode zb_M_nextToShorten 19 = .ok (.iaload, 1) := by decide +kernel
theorem zd_M_nextToShorten_20 : decode zb_M_nextToShorten 20 = .ok (.iconst 4, 1) := by decide +kernel
theorem zd_M_nextToShorten_21 : decode zb_M_nextToShorten 21 = .ok (.if_icmp .le 43, 3) := by decide +kernel
theorem zd_M_nextToShorten_24 : decode zb_M_nextToShorten 24 = .ok (.aload_n 0, 1) := by decide +kernel
theorem zd_M_nextToShorten_25 : decode zb_M_nextToShorten 25 = .ok (.getfield 34, 3) := by decide +kernel
theorem zd_M_nextToShorten_28 : decode zb_M_nextToShorten 28 = .ok (.iload_n 2, 1) := by decide +kernel
theorem zd_M_nextToShorten_29 : decode zb_M_nextToShorten 29 = .ok (.iaload, 1) := by decide +kernel
theorem zd_M_nextToShorten_30 : decode zb_M_nextToShorten 30 = .ok (.ifCond .ge 34, 3) := by decide +kernel
theorem zd_M_nextToShorten_33 : decode zb_M_nextToShorten 33 = .ok (.aload_n 0, 1) := by decide +kernel
theorem zd_M_nextToShorten_34 : decode zb_M_nextToShorten 34 = .ok (.getfield 43, 3) := by decide +kernel
theorem zd_M_nextToShorten_37 : decode zb_M_nextToShorten 37 = .ok (.iload_n 2, 1) := by decide +kernel
theorem zd_M_nextToShorten_38 : decode zb_M_nextToShorten 38 = .ok (.iaload, 1) := by decide +kernel
theorem zd_M_nextToShorten_39 : decode zb_M_nextToShorten 39 = .ok (.ifCond .ge 25, 3) := by decide +kernel
theorem zd_M_nextToShorten_42 : decode zb_M_nextToShorten 42 = .ok (.aload_n 0, 1) := by decide +kernel
theorem zd_M_nextToShorten_43 : decode zb_M_nextToShorten 43 = .ok (.getfield 34, 3) := by decide +kernel
theorem zd_M_nextToShorten_46 : decode zb_M_nextToShorten 46 = .ok (.aload_n 0, 1) := by decide +kernel
theorem zd_M_nextToShorten_47 : decode zb_M_nextToShorten 47 = .ok (.getfield 19, 3) := by decide +kernel
theorem zd_M_nextToShorten_50 : decode zb_M_nextToShorten 50 = .ok (.iconst 3, 1) := by decide +kernel
theorem zd_M_nextToShorten_51 : decode zb_M_nextToShorten 51 = .ok (.iload_n 2, 1) := by decide +kernel
theorem zd_M_nextToShorten_52 : decode zb_M_nextToShorten 52 = .ok (.imul, 1) := by decide +kernel
theorem zd_M_nextToShorten_53 : decode zb_M_nextToShorten 53 = .ok (.iaload, 1) := by decide +kernel
theorem zd_M_nextToShorten_54 : decode zb_M_nextToShorten 54 = .ok (.iaload, 1) := by decide +kernel
theorem zd_M_nextToShorten_55 : decode zb_M_nextToShorten 55 = .ok (.bipush 100, 2) := by decide +kernel
theorem zd_M_nextToShorten_57 : decode zb_M_nextToShorten 57 = .ok (.if_icmp .ne 7, 3) := by decide +kernel
theorem zd_M_nextToShorten_60 : decode zb_M_nextToShorten 60 = .ok (.iconst 1, 1) := by decide +kernel
theorem zd_M_nextToShorten_61 : decode zb_M_nextToShorten 61 = .ok (.goto 4, 3) := by decide +kernel
theorem zd_M_nextToShorten_64 : decode zb_M_nextToShorten 64 = .ok (.iconst 0, 1) := by decide +kernel
theorem zd_M_nextToShorten_65 : decode zb_M_nextToShorten 65 = .ok (.istore_n 3, 1) := by decide +kernel
theorem zd_M_nextToShorten_66 : decode zb_M_nextToShorten 66 = .ok (.iload_n 3, 1) := by decide +kernel
theorem zd_M_nextToShorten_67 : decode zb_M_nextToShorten 67 = .ok (.ifCond .eq 7, 3) := by decide +kernel
theorem zd_M_nextToShorten_70 : decode zb_M_nextToShorten 70 = .ok (.iload_n 2, 1) := by decide +kernel
theorem zd_M_nextToShorten_71 : decode zb_M_nextToShorten 71 = .ok (.goto 4, 3) := by decide +kernel
theorem zd_M_nextToShorten_74 : decode zb_M_nextToShorten 74 = .ok (.iload_n 1, 1) := by decide +kernel
theorem zd_M_nextToShorten_75 : decode zb_M_nextToShorten 75 = .ok (.istore_n 1, 1) := by decide +kernel
theorem zd_M_nextToShorten_76 : decode zb_M_nextToShorten 76 = .ok (.iinc 2 (-1), 3) := by decide +kernel
theorem zd_M_nextToShorten_79 : decode zb_M_nextToShorten 79 = .ok (.goto (-69), 3) := by decide +kernel
theorem zd_M_nextToShorten_82 : decode zb_M_nextToShorten 82 = .ok (.iload_n 1, 1) := by decide +kernel
theorem zd_M_nextToShorten_83 : decode zb_M_nextToShorten 83 = .ok (.ireturn, 1) := by decide +kernel
def zf_M_nextToShorten_b75 (rc10 : Int32 → Int32 → nk_M → Option (Int32 × nk_M)) (y2 : Int32) (u0 : Int32) (m0 : nk_M) : Option (Int32 × nk_M) := (rc10 u0 (y2 + (-1)) m0)
set_option maxHeartbeats 4000000 in
set_option maxRecDepth 100000 in
theorem zs_M_nextToShorten_b75 {G : nk_V} {X : nk_X}   (C : nk_C "NeedOnceModel" zb_M_nextToShorten 4 nk_wR G X) (hR : X.2.2.2.1 = nk_rm 1) (hr : X.2.2.2.2.2.2.2.2.1.sig.returnType = (some .int)) (rc10 : Int32 → Int32 → nk_M → Option (Int32 × nk_M)) (hr10 : ∀ (y1 : Int32) (y2 : Int32) (m0 : nk_M), nk_Sim nk_wR G X 4 nk_oi 10 [nk_r G 0, .int y1, .int y2, .null] [] m0 (rc10 y1 y2 m0)) : ∀ (y2 : Int32) (u0 : Int32) (m0 : nk_M), nk_Sim nk_wR G X 4 nk_oi 75 [nk_r G 0, .null, .int y2, .null] [.int u0] m0 (zf_M_nextToShorten_b75 rc10 y2 u0 m0) := by
  intro y2 u0 m0
  unfold zf_M_nextToShorten_b75
  refine nk_istore_n C zd_M_nextToShorten_75 rfl (Nat.le_of_ble_eq_true rfl) rfl ?_
  refine nk_iinc (v0 := y2 + (-1)) C zd_M_nextToShorten_76 rfl (nk_inc _ (by decide)) (Nat.le_of_ble_eq_true rfl) rfl ?_
  refine nk_goto (tgt := 10) C zd_M_nextToShorten_79 (by decide) ?_
  exact hr10 u0 (y2 + (-1)) m0
def zf_M_nextToShorten_b65 (rc10 : Int32 → Int32 → nk_M → Option (Int32 × nk_M)) (y1 : Int32) (y2 : Int32) (u0 : Int32) (m0 : nk_M) : Option (Int32 × nk_M) := (if u0 = 0 then (zf_M_nextToShorten_b75 rc10 y2 y1 m0) else (zf_M_nextToShorten_b75 rc10 y2 y2 m0))
set_option maxHeartbeats 4000000 in
set_option maxRecDepth 100000 in
theorem zs_M_nextToShorten_b65 {G : nk_V} {X : nk_X}   (C : nk_C "NeedOnceModel" zb_M_nextToShorten 4 nk_wR G X) (hR : X.2.2.2.1 = nk_rm 1) (hr : X.2.2.2.2.2.2.2.2.1.sig.returnType = (some .int)) (rc10 : Int32 → Int32 → nk_M → Option (Int32 × nk_M)) (hr10 : ∀ (y1 : Int32) (y2 : Int32) (m0 : nk_M), nk_Sim nk_wR G X 4 nk_oi 10 [nk_r G 0, .int y1, .int y2, .null] [] m0 (rc10 y1 y2 m0)) : ∀ (y1 : Int32) (y2 : Int32) (u0 : Int32) (m0 : nk_M), nk_Sim nk_wR G X 4 nk_oi 65 [nk_r G 0, .int y1, .int y2, .null] [.int u0] m0 (zf_M_nextToShorten_b65 rc10 y1 y2 u0 m0) := by
  intro y1 y2 u0 m0
  unfold zf_M_nextToShorten_b65
  refine nk_istore_n C zd_M_nextToShorten_65 rfl (Nat.le_of_ble_eq_true rfl) rfl ?_
  refine nk_iload_n C zd_M_nextToShorten_66 rfl rfl ?_
  refine nk_if_eq (tgt := 74) C zd_M_nextToShorten_67 (by decide) ?_ ?_
  · refine nk_iload_n C zd_M_nextToShorten_74 rfl rfl ?_
    refine nk_wk [true, false, true, false] ?_
    exact zs_M_nextToShorten_b75 C hR hr rc10 hr10 y2 y1 m0
  · refine nk_iload_n C zd_M_nextToShorten_70 rfl rfl ?_
    refine nk_goto (tgt := 75) C zd_M_nextToShorten_71 (by decide) ?_
    refine nk_wk [true, false, true, false] ?_
    exact zs_M_nextToShorten_b75 C hR hr rc10 hr10 y2 y2 m0
def zf_M_nextToShorten_b64 (rc10 : Int32 → Int32 → nk_M → Option (Int32 × nk_M)) (y1 : Int32) (y2 : Int32) (m0 : nk_M) : Option (Int32 × nk_M) := (zf_M_nextToShorten_b65 rc10 y1 y2 (0 : Int32) m0)
set_option maxHeartbeats 4000000 in
set_option maxRecDepth 100000 in
theorem zs_M_nextToShorten_b64 {G : nk_V} {X : nk_X}   (C : nk_C "NeedOnceModel" zb_M_nextToShorten 4 nk_wR G X) (hR : X.2.2.2.1 = nk_rm 1) (hr : X.2.2.2.2.2.2.2.2.1.sig.returnType = (some .int)) (rc10 : Int32 → Int32 → nk_M → Option (Int32 × nk_M)) (hr10 : ∀ (y1 : Int32) (y2 : Int32) (m0 : nk_M), nk_Sim nk_wR G X 4 nk_oi 10 [nk_r G 0, .int y1, .int y2, .null] [] m0 (rc10 y1 y2 m0)) : ∀ (y1 : Int32) (y2 : Int32) (m0 : nk_M), nk_Sim nk_wR G X 4 nk_oi 64 [nk_r G 0, .int y1, .int y2, .null] [] m0 (zf_M_nextToShorten_b64 rc10 y1 y2 m0) := by
  intro y1 y2 m0
  unfold zf_M_nextToShorten_b64
  refine nk_iconst (v := 0) C zd_M_nextToShorten_64 (by decide) ?_
  exact zs_M_nextToShorten_b65 C hR hr rc10 hr10 y1 y2 (0 : Int32) m0
def zf_M_nextToShorten_b10  : Nat → Int32 → Int32 → nk_M → Option (Int32 × nk_M)
  | 0, _, _, _ => none
  | n0 + 1, y1, y2, m0 => (if y2 < 0 then some (y1, m0) else nk_ald m0 3 8 y2 (fun x1 => (if x1 ≤ (4 : Int32) then (zf_M_nextToShorten_b64 (zf_M_nextToShorten_b10 n0) y1 y2 m0) else nk_ald m0 9 8 y2 (fun x2 => (if 0 ≤ x2 then (zf_M_nextToShorten_b64 (zf_M_nextToShorten_b10 n0) y1 y2 m0) else nk_ald m0 12 8 y2 (fun x3 => (if 0 ≤ x3 then (zf_M_nextToShorten_b64 (zf_M_nextToShorten_b10 n0) y1 y2 m0) else nk_ald m0 4 24 ((3 : Int32) * y2) (fun x4 => nk_ald m0 9 8 x4 (fun x5 => (if x5 = (100 : Int32) then (zf_M_nextToShorten_b65 (zf_M_nextToShorten_b10 n0) y1 y2 (1 : Int32) m0) else (zf_M_nextToShorten_b64 (zf_M_nextToShorten_b10 n0) y1 y2 m0)))))))))))
set_option maxHeartbeats 4000000 in
set_option maxRecDepth 100000 in
theorem zs_M_nextToShorten_b10 {G : nk_V} {X : nk_X}   (C : nk_C "NeedOnceModel" zb_M_nextToShorten 4 nk_wR G X) (hR : X.2.2.2.1 = nk_rm 1) (hr : X.2.2.2.2.2.2.2.2.1.sig.returnType = (some .int))  : ∀ (n0 : Nat) (y1 : Int32) (y2 : Int32) (m0 : nk_M), nk_Sim nk_wR G X 4 nk_oi 10 [nk_r G 0, .int y1, .int y2, .null] [] m0 (zf_M_nextToShorten_b10 n0 y1 y2 m0) := by
  intro n0
  induction n0 with
  | zero => intros; exact nk_none
  | succ n0 ih =>
    intro y1 y2 m0
    rw [zf_M_nextToShorten_b10]
    refine nk_iload_n C zd_M_nextToShorten_10 rfl rfl ?_
    refine nk_if_lt (tgt := 82) C zd_M_nextToShorten_11 (by decide) ?_ ?_
    · refine nk_iload_n C zd_M_nextToShorten_82 rfl rfl ?_
      exact nk_iret C hr zd_M_nextToShorten_83
    · refine nk_aload_n C zd_M_nextToShorten_14 rfl rfl ?_
      refine nk_getR C (r := 3) za_M_16 (Nat.le_of_ble_eq_true rfl) rfl rfl zd_M_nextToShorten_15 ?_
      refine nk_iload_n C zd_M_nextToShorten_18 rfl rfl ?_
      refine nk_iald C (Nat.le_of_ble_eq_true rfl) rfl zd_M_nextToShorten_19 (fun x1 => ?_)
      refine nk_iconst (v := 4) C zd_M_nextToShorten_20 (by decide) ?_
      refine nk_icmp_le (tgt := 64) C zd_M_nextToShorten_21 (by decide) ?_ ?_
      · exact zs_M_nextToShorten_b64 C hR hr (zf_M_nextToShorten_b10 n0) ih y1 y2 m0
      · refine nk_aload_n C zd_M_nextToShorten_24 rfl rfl ?_
        refine nk_getR C (r := 9) za_M_34 (Nat.le_of_ble_eq_true rfl) rfl rfl zd_M_nextToShorten_25 ?_
        refine nk_iload_n C zd_M_nextToShorten_28 rfl rfl ?_
        refine nk_iald C (Nat.le_of_ble_eq_true rfl) rfl zd_M_nextToShorten_29 (fun x2 => ?_)
        refine nk_if_ge (tgt := 64) C zd_M_nextToShorten_30 (by decide) ?_ ?_
        · exact zs_M_nextToShorten_b64 C hR hr (zf_M_nextToShorten_b10 n0) ih y1 y2 m0
        · refine nk_aload_n C zd_M_nextToShorten_33 rfl rfl ?_
          refine nk_getR C (r := 12) za_M_43 (Nat.le_of_ble_eq_true rfl) rfl rfl zd_M_nextToShorten_34 ?_
          refine nk_iload_n C zd_M_nextToShorten_37 rfl rfl ?_
          refine nk_iald C (Nat.le_of_ble_eq_true rfl) rfl zd_M_nextToShorten_38 (fun x3 => ?_)
          refine nk_if_ge (tgt := 64) C zd_M_nextToShorten_39 (by decide) ?_ ?_
          · exact zs_M_nextToShorten_b64 C hR hr (zf_M_nextToShorten_b10 n0) ih y1 y2 m0
          · refine nk_aload_n C zd_M_nextToShorten_42 rfl rfl ?_
            refine nk_getR C (r := 9) za_M_34 (Nat.le_of_ble_eq_true rfl) rfl rfl zd_M_nextToShorten_43 ?_
            refine nk_aload_n C zd_M_nextToShorten_46 rfl rfl ?_
            refine nk_getR C (r := 4) za_M_19 (Nat.le_of_ble_eq_true rfl) rfl rfl zd_M_nextToShorten_47 ?_
            refine nk_iconst (v := 3) C zd_M_nextToShorten_50 (by decide) ?_
            refine nk_iload_n C zd_M_nextToShorten_51 rfl rfl ?_
            refine nk_imul C zd_M_nextToShorten_52 ?_
            refine nk_iald C (Nat.le_of_ble_eq_true rfl) rfl zd_M_nextToShorten_53 (fun x4 => ?_)
            refine nk_iald C (Nat.le_of_ble_eq_true rfl) rfl zd_M_nextToShorten_54 (fun x5 => ?_)
            refine nk_bipush (v := 100) C zd_M_nextToShorten_55 (by decide) ?_
            refine nk_icmp_ne (tgt := 64) C zd_M_nextToShorten_57 (by decide) ?_ ?_
            · exact zs_M_nextToShorten_b64 C hR hr (zf_M_nextToShorten_b10 n0) ih y1 y2 m0
            · refine nk_iconst (v := 1) C zd_M_nextToShorten_60 (by decide) ?_
              refine nk_goto (tgt := 65) C zd_M_nextToShorten_61 (by decide) ?_
              exact zs_M_nextToShorten_b65 C hR hr (zf_M_nextToShorten_b10 n0) ih y1 y2 (1 : Int32) m0
def zf_M_nextToShorten   (m0 : nk_M) : Option (Int32 × nk_M) := nk_nm ((m0 0 1) - (1 : Int32)) (fun x1 => (zf_M_nextToShorten_b10 nk_fu (-9 : Int32) x1 m0))
set_option maxHeartbeats 4000000 in
set_option maxRecDepth 100000 in
theorem zc_M_nextToShorten {l : Launch} {G : nk_V}    (m0 : nk_M) : nk_Ct l nk_wR G 1 zy_M_nextToShorten zb_M_nextToShorten 4 (some .int) nk_oi [nk_r G 0] m0 (zf_M_nextToShorten   m0) := by
  refine nk_ent (own := "NeedOnceModel") (lv := [nk_r G 0, .null, .null, .null]) 3 rfl (by decide) (Nat.le_of_ble_eq_true rfl) rfl (fun X hl hR C hr => ?_)
  subst hl
  unfold zf_M_nextToShorten
  refine nk_bipush (v := -9) C zd_M_nextToShorten_0 (by decide) ?_
  refine nk_istore_n C zd_M_nextToShorten_2 rfl (Nat.le_of_ble_eq_true rfl) rfl ?_
  refine nk_aload_n C zd_M_nextToShorten_3 rfl rfl ?_
  refine nk_getI C za_M_104 (Nat.le_of_ble_eq_true rfl) rfl rfl zd_M_nextToShorten_4 ?_
  refine nk_iconst (v := 1) C zd_M_nextToShorten_7 (by decide) ?_
  refine nk_isub C zd_M_nextToShorten_8 ?_
  refine nk_named (fun x1 => ?_)
  refine nk_istore_n C zd_M_nextToShorten_9 rfl (Nat.le_of_ble_eq_true rfl) rfl ?_
  exact zs_M_nextToShorten_b10 C hR hr nk_fu (-9 : Int32) x1 m0
theorem zd_M_shorten_0 : decode zb_M_shorten 0 = .ok (.iconst 0, 1) := by decide +kernel
theorem zd_M_shorten_1 : decode zb_M_shorten 1 = .ok (.istore_n 1, 1) := by decide +kernel
theorem zd_M_shorten_2 : decode zb_M_shorten 2 = .ok (.aload_n 0, 1) := by decide +kernel
theorem zd_M_shorten_3 : decode zb_M_shorten 3 = .ok (.invokevirtual 258, 3) := by decide +kernel
theorem zd_M_shorten_6 : decode zb_M_shorten 6 = .ok (.istore_n 2, 1) := by decide +kernel
theorem zd_M_shorten_7 : decode zb_M_shorten 7 = .ok (.iload_n 2, 1) := by decide +kernel
theorem zd_M_shorten_8 : decode zb_M_shorten 8 = .ok (.ifCond .lt 54, 3) := by decide +kernel
theorem zd_M_shorten_11 : decode zb_M_shorten 11 = .ok (.aload_n 0, 1) := by decide +kernel
theorem zd_M_shorten_12 : decode zb_M_shorten 12 = .ok (.getfield 19, 3) := by decide +kernel
theorem zd_M_shorten_15 : decode zb_M_shorten 15 = .ok (.iconst 3, 1) := by decide +kernel
theorem zd_M_shorten_16 : decode zb_M_shorten 16 = .ok (.iload_n 2, 1) := by decide +kernel
theorem zd_M_shorten_17 : decode zb_M_shorten 17 = .ok (.imul, 1) := by decide +kernel
theorem zd_M_shorten_18 : decode zb_M_shorten 18 = .ok (.iaload, 1) := by decide +kernel
theorem zd_M_shorten_19 : decode zb_M_shorten 19 = .ok (.istore_n 3, 1) := by decide +kernel
theorem zd_M_shorten_20 : decode zb_M_shorten 20 = .ok (.aload_n 0, 1) := by decide +kernel
theorem zd_M_shorten_21 : decode zb_M_shorten 21 = .ok (.getfield 43, 3) := by decide +kernel
theorem zd_M_shorten_24 : decode zb_M_shorten 24 = .ok (.iload_n 2, 1) := by decide +kernel
theorem zd_M_shorten_25 : decode zb_M_shorten 25 = .ok (.aload_n 0, 1) := by decide +kernel
theorem zd_M_shorten_26 : decode zb_M_shorten 26 = .ok (.getfield 16, 3) := by decide +kernel
theorem zd_M_shorten_29 : decode zb_M_shorten 29 = .ok (.iload_n 2, 1) := by decide +kernel
theorem zd_M_shorten_30 : decode zb_M_shorten 30 = .ok (.iaload, 1) := by decide +kernel
theorem zd_M_shorten_31 : decode zb_M_shorten 31 = .ok (.iconst 5, 1) := by decide +kernel
theorem zd_M_shorten_32 : decode zb_M_shorten 32 = .ok (.if_icmp .ne 12, 3) := by decide +kernel
theorem zd_M_shorten_35 : decode zb_M_shorten 35 = .ok (.aload_n 0, 1) := by decide +kernel
theorem zd_M_shorten_36 : decode zb_M_shorten 36 = .ok (.getfield 37, 3) := by decide +kernel
theorem zd_M_shorten_39 : decode zb_M_shorten 39 = .ok (.iload_n 3, 1) := by decide +kernel
theorem zd_M_shorten_40 : decode zb_M_shorten 40 = .ok (.iaload, 1) := by decide +kernel
theorem zd_M_shorten_41 : decode zb_M_shorten 41 = .ok (.goto 9, 3) := by decide +kernel
theorem zd_M_shorten_44 : decode zb_M_shorten 44 = .ok (.aload_n 0, 1) := by decide +kernel
theorem zd_M_shorten_45 : decode zb_M_shorten 45 = .ok (.getfield 40, 3) := by decide +kernel
theorem zd_M_shorten_48 : decode zb_M_shorten 48 = .ok (.iload_n 3, 1) := by decide +kernel
theorem zd_M_shorten_49 : decode zb_M_shorten 49 = .ok (.iaload, 1) := by decide +kernel
theorem zd_M_shorten_50 : decode zb_M_shorten 50 = .ok (.iastore, 1) := by decide +kernel
theorem zd_M_shorten_51 : decode zb_M_shorten 51 = .ok (.iinc 1 1, 3) := by decide +kernel
theorem zd_M_shorten_54 : decode zb_M_shorten 54 = .ok (.aload_n 0, 1) := by decide +kernel
theorem zd_M_shorten_55 : decode zb_M_shorten 55 = .ok (.invokevirtual 258, 3) := by decide +kernel
theorem zd_M_shorten_58 : decode zb_M_shorten 58 = .ok (.istore_n 2, 1) := by decide +kernel
theorem zd_M_shorten_59 : decode zb_M_shorten 59 = .ok (.goto (-52), 3) := by decide +kernel
theorem zd_M_shorten_62 : decode zb_M_shorten 62 = .ok (.iload_n 1, 1) := by decide +kernel
theorem zd_M_shorten_63 : decode zb_M_shorten 63 = .ok (.ireturn, 1) := by decide +kernel
def zf_M_shorten_b50 (rc7 : Int32 → Int32 → nk_M → Option (Int32 × nk_M)) (y1 : Int32) (u1 : Int32) (u2 : Int32) (m0 : nk_M) : Option (Int32 × nk_M) := nk_ast m0 12 8 u1 u2 (fun m1 => nk_bd (zf_M_nextToShorten m1) (fun r1 m2 => (rc7 (y1 + 1) r1 m2)))
set_option maxHeartbeats 4000000 in
set_option maxRecDepth 100000 in
theorem zs_M_shorten_b50 {G : nk_V} {X : nk_X}   (C : nk_C "NeedOnceModel" zb_M_shorten 4 nk_wR G X) (hR : X.2.2.2.1 = nk_rm 2) (hr : X.2.2.2.2.2.2.2.2.1.sig.returnType = (some .int)) (rc7 : Int32 → Int32 → nk_M → Option (Int32 × nk_M)) (hr7 : ∀ (y1 : Int32) (y2 : Int32) (m0 : nk_M), nk_Sim nk_wR G X 4 nk_oi 7 [nk_r G 0, .int y1, .int y2, .null] [] m0 (rc7 y1 y2 m0)) : ∀ (y1 : Int32) (u1 : Int32) (u2 : Int32) (m0 : nk_M), nk_Sim nk_wR G X 4 nk_oi 50 [nk_r G 0, .int y1, .null, .null] [.int u2, .int u1, nk_r G 12] m0 (zf_M_shorten_b50 rc7 y1 u1 u2 m0) := by
  intro y1 u1 u2 m0
  unfold zf_M_shorten_b50
  refine nk_iast C (Nat.le_of_ble_eq_true rfl) rfl zd_M_shorten_50 (fun m1 => ?_)
  refine nk_iinc (v0 := y1 + 1) C zd_M_shorten_51 rfl (nk_inc _ (by decide)) (Nat.le_of_ble_eq_true rfl) rfl ?_
  refine nk_aload_n C zd_M_shorten_54 rfl rfl ?_
  refine nk_callVi C [] zv_M_258 hR (zc_M_nextToShorten m1) (by omega) (Nat.le_of_ble_eq_true rfl) rfl rfl rfl rfl (Nat.le_of_ble_eq_true rfl) zd_M_shorten_55 (fun r1 m2 => ?_)
  refine nk_istore_n C zd_M_shorten_58 rfl (Nat.le_of_ble_eq_true rfl) rfl ?_
  refine nk_goto (tgt := 7) C zd_M_shorten_59 (by decide) ?_
  exact hr7 (y1 + 1) r1 m2
def zf_M_shorten_b7  : Nat → Int32 → Int32 → nk_M → Option (Int32 × nk_M)
  | 0, _, _, _ => none
  | n0 + 1, y1, y2, m0 => (if y2 < 0 then some (y1, m0) else nk_ald m0 4 24 ((3 : Int32) * y2) (fun x1 => nk_ald m0 3 8 y2 (fun x2 => (if x2 = (5 : Int32) then nk_ald m0 10 8 x1 (fun x4 => (zf_M_shorten_b50 (zf_M_shorten_b7 n0) y1 y2 x4 m0)) else nk_ald m0 11 8 x1 (fun x3 => (zf_M_shorten_b50 (zf_M_shorten_b7 n0) y1 y2 x3 m0))))))
set_option maxHeartbeats 4000000 in
set_option maxRecDepth 100000 in
theorem zs_M_shorten_b7 {G : nk_V} {X : nk_X}   (C : nk_C "NeedOnceModel" zb_M_shorten 4 nk_wR G X) (hR : X.2.2.2.1 = nk_rm 2) (hr : X.2.2.2.2.2.2.2.2.1.sig.returnType = (some .int))  : ∀ (n0 : Nat) (y1 : Int32) (y2 : Int32) (m0 : nk_M), nk_Sim nk_wR G X 4 nk_oi 7 [nk_r G 0, .int y1, .int y2, .null] [] m0 (zf_M_shorten_b7 n0 y1 y2 m0) := by
  intro n0
  induction n0 with
  | zero => intros; exact nk_none
  | succ n0 ih =>
    intro y1 y2 m0
    rw [zf_M_shorten_b7]
    refine nk_iload_n C zd_M_shorten_7 rfl rfl ?_
    refine nk_if_lt (tgt := 62) C zd_M_shorten_8 (by decide) ?_ ?_
    · refine nk_iload_n C zd_M_shorten_62 rfl rfl ?_
      exact nk_iret C hr zd_M_shorten_63
    · refine nk_aload_n C zd_M_shorten_11 rfl rfl ?_
      refine nk_getR C (r := 4) za_M_19 (Nat.le_of_ble_eq_true rfl) rfl rfl zd_M_shorten_12 ?_
      refine nk_iconst (v := 3) C zd_M_shorten_15 (by decide) ?_
      refine nk_iload_n C zd_M_shorten_16 rfl rfl ?_
      refine nk_imul C zd_M_shorten_17 ?_
      refine nk_iald C (Nat.le_of_ble_eq_true rfl) rfl zd_M_shorten_18 (fun x1 => ?_)
      refine nk_istore_n C zd_M_shorten_19 rfl (Nat.le_of_ble_eq_true rfl) rfl ?_
      refine nk_aload_n C zd_M_shorten_20 rfl rfl ?_
      refine nk_getR C (r := 12) za_M_43 (Nat.le_of_ble_eq_true rfl) rfl rfl zd_M_shorten_21 ?_
      refine nk_iload_n C zd_M_shorten_24 rfl rfl ?_
      refine nk_aload_n C zd_M_shorten_25 rfl rfl ?_
      refine nk_getR C (r := 3) za_M_16 (Nat.le_of_ble_eq_true rfl) rfl rfl zd_M_shorten_26 ?_
      refine nk_iload_n C zd_M_shorten_29 rfl rfl ?_
      refine nk_iald C (Nat.le_of_ble_eq_true rfl) rfl zd_M_shorten_30 (fun x2 => ?_)
      refine nk_iconst (v := 5) C zd_M_shorten_31 (by decide) ?_
      refine nk_icmp_ne (tgt := 44) C zd_M_shorten_32 (by decide) ?_ ?_
      · refine nk_aload_n C zd_M_shorten_44 rfl rfl ?_
        refine nk_getR C (r := 11) za_M_40 (Nat.le_of_ble_eq_true rfl) rfl rfl zd_M_shorten_45 ?_
        refine nk_iload_n C zd_M_shorten_48 rfl rfl ?_
        refine nk_iald C (Nat.le_of_ble_eq_true rfl) rfl zd_M_shorten_49 (fun x3 => ?_)
        refine nk_wk [true, true, false, false] ?_
        exact zs_M_shorten_b50 C hR hr (zf_M_shorten_b7 n0) ih y1 y2 x3 m0
      · refine nk_aload_n C zd_M_shorten_35 rfl rfl ?_
        refine nk_getR C (r := 10) za_M_37 (Nat.le_of_ble_eq_true rfl) rfl rfl zd_M_shorten_36 ?_
        refine nk_iload_n C zd_M_shorten_39 rfl rfl ?_
        refine nk_iald C (Nat.le_of_ble_eq_true rfl) rfl zd_M_shorten_40 (fun x4 => ?_)
        refine nk_goto (tgt := 50) C zd_M_shorten_41 (by decide) ?_
        refine nk_wk [true, true, false, false] ?_
        exact zs_M_shorten_b50 C hR hr (zf_M_shorten_b7 n0) ih y1 y2 x4 m0
def zf_M_shorten   (m0 : nk_M) : Option (Int32 × nk_M) := nk_bd (zf_M_nextToShorten m0) (fun r1 m1 => (zf_M_shorten_b7 nk_fu (0 : Int32) r1 m1))
set_option maxHeartbeats 4000000 in
set_option maxRecDepth 100000 in
theorem zc_M_shorten {l : Launch} {G : nk_V}    (m0 : nk_M) : nk_Ct l nk_wR G 2 zy_M_shorten zb_M_shorten 4 (some .int) nk_oi [nk_r G 0] m0 (zf_M_shorten   m0) := by
  refine nk_ent (own := "NeedOnceModel") (lv := [nk_r G 0, .null, .null, .null]) 3 rfl (by decide) (Nat.le_of_ble_eq_true rfl) rfl (fun X hl hR C hr => ?_)
  subst hl
  unfold zf_M_shorten
  refine nk_iconst (v := 0) C zd_M_shorten_0 (by decide) ?_
  refine nk_istore_n C zd_M_shorten_1 rfl (Nat.le_of_ble_eq_true rfl) rfl ?_
  refine nk_aload_n C zd_M_shorten_2 rfl rfl ?_
  refine nk_callVi C [] zv_M_258 hR (zc_M_nextToShorten m0) (by omega) (Nat.le_of_ble_eq_true rfl) rfl rfl rfl rfl (Nat.le_of_ble_eq_true rfl) zd_M_shorten_3 (fun r1 m1 => ?_)
  refine nk_istore_n C zd_M_shorten_6 rfl (Nat.le_of_ble_eq_true rfl) rfl ?_
  exact zs_M_shorten_b7 C hR hr nk_fu (0 : Int32) r1 m1
theorem zd_M_holds_0 : decode zb_M_holds 0 = .ok (.aload_n 0, 1) := by decide +kernel
theorem zd_M_holds_1 : decode zb_M_holds 1 = .ok (.getfield 34, 3) := by decide +kernel
theorem zd_M_holds_4 : decode zb_M_holds 4 = .ok (.iload_n 1, 1) := by decide +kernel
theorem zd_M_holds_5 : decode zb_M_holds 5 = .ok (.iaload, 1) := by decide +kernel
theorem zd_M_holds_6 : decode zb_M_holds 6 = .ok (.ifCond .lt 36, 3) := by decide +kernel
theorem zd_M_holds_9 : decode zb_M_holds 9 = .ok (.aload_n 0, 1) := by decide +kernel
theorem zd_M_holds_10 : decode zb_M_holds 10 = .ok (.getfield 34, 3) := by decide +kernel
theorem zd_M_holds_13 : decode zb_M_holds 13 = .ok (.iload_n 1, 1) := by decide +kernel
theorem zd_M_holds_14 : decode zb_M_holds 14 = .ok (.iaload, 1) := by decide +kernel
theorem zd_M_holds_15 : decode zb_M_holds 15 = .ok (.bipush 100, 2) := by decide +kernel
theorem zd_M_holds_17 : decode zb_M_holds 17 = .ok (.if_icmp .ne 23, 3) := by decide +kernel
theorem zd_M_holds_20 : decode zb_M_holds 20 = .ok (.iconst 1, 1) := by decide +kernel
theorem zd_M_holds_21 : decode zb_M_holds 21 = .ok (.aload_n 0, 1) := by decide +kernel
theorem zd_M_holds_22 : decode zb_M_holds 22 = .ok (.getfield 37, 3) := by decide +kernel
theorem zd_M_holds_25 : decode zb_M_holds 25 = .ok (.iload_n 1, 1) := by decide +kernel
theorem zd_M_holds_26 : decode zb_M_holds 26 = .ok (.iaload, 1) := by decide +kernel
theorem zd_M_holds_27 : decode zb_M_holds 27 = .ok (.ishl, 1) := by decide +kernel
theorem zd_M_holds_28 : decode zb_M_holds 28 = .ok (.iconst 1, 1) := by decide +kernel
theorem zd_M_holds_29 : decode zb_M_holds 29 = .ok (.aload_n 0, 1) := by decide +kernel
theorem zd_M_holds_30 : decode zb_M_holds 30 = .ok (.getfield 40, 3) := by decide +kernel
theorem zd_M_holds_33 : decode zb_M_holds 33 = .ok (.iload_n 1, 1) := by decide +kernel
theorem zd_M_holds_34 : decode zb_M_holds 34 = .ok (.iaload, 1) := by decide +kernel
theorem zd_M_holds_35 : decode zb_M_holds 35 = .ok (.ishl, 1) := by decide +kernel
theorem zd_M_holds_36 : decode zb_M_holds 36 = .ok (.ior, 1) := by decide +kernel
theorem zd_M_holds_37 : decode zb_M_holds 37 = .ok (.goto 4, 3) := by decide +kernel
theorem zd_M_holds_40 : decode zb_M_holds 40 = .ok (.iconst 0, 1) := by decide +kernel
theorem zd_M_holds_41 : decode zb_M_holds 41 = .ok (.ireturn, 1) := by decide +kernel
theorem zd_M_holds_42 : decode zb_M_holds 42 = .ok (.aload_n 0, 1) := by decide +kernel
theorem zd_M_holds_43 : decode zb_M_holds 43 = .ok (.getfield 43, 3) := by decide +kernel
theorem zd_M_holds_46 : decode zb_M_holds 46 = .ok (.iload_n 1, 1) := by decide +kernel
theorem zd_M_holds_47 : decode zb_M_holds 47 = .ok (.iaload, 1) := by decide +kernel
theorem zd_M_holds_48 : decode zb_M_holds 48 = .ok (.ifCond .lt 12, 3) := by decide +kernel
theorem zd_M_holds_51 : decode zb_M_holds 51 = .ok (.iconst 1, 1) := by decide +kernel
theorem zd_M_holds_52 : decode zb_M_holds 52 = .ok (.aload_n 0, 1) := by decide +kernel
theorem zd_M_holds_53 : decode zb_M_holds 53 = .ok (.getfield 43, 3) := by decide +kernel
theorem zd_M_holds_56 : decode zb_M_holds 56 = .ok (.iload_n 1, 1) := by decide +kernel
theorem zd_M_holds_57 : decode zb_M_holds 57 = .ok (.iaload, 1) := by decide +kernel
theorem zd_M_holds_58 : decode zb_M_holds 58 = .ok (.ishl, 1) := by decide +kernel
theorem zd_M_holds_59 : decode zb_M_holds 59 = .ok (.ireturn, 1) := by decide +kernel
theorem zd_M_holds_60 : decode zb_M_holds 60 = .ok (.iconst 0, 1) := by decide +kernel
theorem zd_M_holds_61 : decode zb_M_holds 61 = .ok (.istore_n 2, 1) := by decide +kernel
theorem zd_M_holds_62 : decode zb_M_holds 62 = .ok (.iconst 0, 1) := by decide +kernel
theorem zd_M_holds_63 : decode zb_M_holds 63 = .ok (.istore_n 3, 1) := by decide +kernel
theorem zd_M_holds_64 : decode zb_M_holds 64 = .ok (.iload_n 3, 1) := by decide +kernel
theorem zd_M_holds_65 : decode zb_M_holds 65 = .ok (.aload_n 0, 1) := by decide +kernel
theorem zd_M_holds_66 : decode zb_M_holds 66 = .ok (.getfield 16, 3) := by decide +kernel
theorem zd_M_holds_69 : decode zb_M_holds 69 = .ok (.iload_n 1, 1) := by decide +kernel
theorem zd_M_holds_70 : decode zb_M_holds 70 = .ok (.iaload, 1) := by decide +kernel
theorem zd_M_holds_71 : decode zb_M_holds 71 = .ok (.invokestatic 125, 3) := by decide +kernel
theorem zd_M_holds_74 : decode zb_M_holds 74 = .ok (.if_icmp .ge 33, 3) := by decide +kernel
theorem zd_M_holds_77 : decode zb_M_holds 77 = .ok (.aload_n 0, 1) := by decide +kernel
theorem zd_M_holds_78 : decode zb_M_holds 78 = .ok (.getfield 16, 3) := by decide +kernel
theorem zd_M_holds_81 : decode zb_M_holds 81 = .ok (.iload_n 1, 1) := by decide +kernel
theorem zd_M_holds_82 : decode zb_M_holds 82 = .ok (.iaload, 1) := by decide +kernel
theorem zd_M_holds_83 : decode zb_M_holds 83 = .ok (.ifCond .le 24, 3) := by decide +kernel
theorem zd_M_holds_86 : decode zb_M_holds 86 = .ok (.iload_n 2, 1) := by decide +kernel
theorem zd_M_holds_87 : decode zb_M_holds 87 = .ok (.iconst 1, 1) := by decide +kernel
theorem zd_M_holds_88 : decode zb_M_holds 88 = .ok (.aload_n 0, 1) := by decide +kernel
theorem zd_M_holds_89 : decode zb_M_holds 89 = .ok (.getfield 19, 3) := by decide +kernel
theorem zd_M_holds_92 : decode zb_M_holds 92 = .ok (.iconst 3, 1) := by decide +kernel
theorem zd_M_holds_93 : decode zb_M_holds 93 = .ok (.iload_n 1, 1) := by decide +kernel
theorem zd_M_holds_94 : decode zb_M_holds 94 = .ok (.imul, 1) := by decide +kernel
theorem zd_M_holds_95 : decode zb_M_holds 95 = .ok (.iload_n 3, 1) := by decide +kernel
theorem zd_M_holds_96 : decode zb_M_holds 96 = .ok (.iadd, 1) := by decide +kernel
theorem zd_M_holds_97 : decode zb_M_holds 97 = .ok (.iaload, 1) := by decide +kernel
theorem zd_M_holds_98 : decode zb_M_holds 98 = .ok (.ishl, 1) := by decide +kernel
theorem zd_M_holds_99 : decode zb_M_holds 99 = .ok (.ior, 1) := by decide +kernel
theorem zd_M_holds_100 : decode zb_M_holds 100 = .ok (.istore_n 2, 1) := by decide +kernel
theorem zd_M_holds_101 : decode zb_M_holds 101 = .ok (.iinc 3 1, 3) := by decide +kernel
theorem zd_M_holds_104 : decode zb_M_holds 104 = .ok (.goto (-40), 3) := by decide +kernel
theorem zd_M_holds_107 : decode zb_M_holds 107 = .ok (.iload_n 2, 1) := by decide +kernel
theorem zd_M_holds_108 : decode zb_M_holds 108 = .ok (.ireturn, 1) := by decide +kernel
def zf_M_holds_b107  (y2 : Int32) (m0 : nk_M) : Option (Int32 × nk_M) := some (y2, m0)
set_option maxHeartbeats 4000000 in
set_option maxRecDepth 100000 in
theorem zs_M_holds_b107 {G : nk_V} {X : nk_X}   (C : nk_C "NeedOnceModel" zb_M_holds 4 nk_wR G X) (hR : X.2.2.2.1 = nk_rm 2) (hr : X.2.2.2.2.2.2.2.2.1.sig.returnType = (some .int))  : ∀ (y2 : Int32) (m0 : nk_M), nk_Sim nk_wR G X 4 nk_oi 107 [nk_r G 0, .null, .int y2, .null] [] m0 (zf_M_holds_b107 y2 m0) := by
  intro y2 m0
  unfold zf_M_holds_b107
  refine nk_iload_n C zd_M_holds_107 rfl rfl ?_
  exact nk_iret C hr zd_M_holds_108
def zf_M_holds_b64  : Nat → Int32 → Int32 → Int32 → nk_M → Option (Int32 × nk_M)
  | 0, _, _, _, _ => none
  | n0 + 1, y1, y2, y3, m0 => nk_ald m0 3 8 y1 (fun x1 => nk_bd (zf_M_partsOf x1 m0) (fun r2 m1 => (if r2 ≤ y3 then (zf_M_holds_b107 y2 m1) else nk_ald m1 3 8 y1 (fun x3 => (if x3 ≤ 0 then (zf_M_holds_b107 y2 m1) else nk_ald m1 4 24 (((3 : Int32) * y1) + y3) (fun x4 => nk_nm (y2 ||| ((1 : Int32) <<< (x4 &&& 31))) (fun x5 => (zf_M_holds_b64 n0 y1 x5 (y3 + 1) m1))))))))
set_option maxHeartbeats 4000000 in
set_option maxRecDepth 100000 in
theorem zs_M_holds_b64 {G : nk_V} {X : nk_X}   (C : nk_C "NeedOnceModel" zb_M_holds 4 nk_wR G X) (hR : X.2.2.2.1 = nk_rm 2) (hr : X.2.2.2.2.2.2.2.2.1.sig.returnType = (some .int))  : ∀ (n0 : Nat) (y1 : Int32) (y2 : Int32) (y3 : Int32) (m0 : nk_M), nk_Sim nk_wR G X 4 nk_oi 64 [nk_r G 0, .int y1, .int y2, .int y3] [] m0 (zf_M_holds_b64 n0 y1 y2 y3 m0) := by
  intro n0
  induction n0 with
  | zero => intros; exact nk_none
  | succ n0 ih =>
    intro y1 y2 y3 m0
    rw [zf_M_holds_b64]
    refine nk_iload_n C zd_M_holds_64 rfl rfl ?_
    refine nk_aload_n C zd_M_holds_65 rfl rfl ?_
    refine nk_getR C (r := 3) za_M_16 (Nat.le_of_ble_eq_true rfl) rfl rfl zd_M_holds_66 ?_
    refine nk_iload_n C zd_M_holds_69 rfl rfl ?_
    refine nk_iald C (Nat.le_of_ble_eq_true rfl) rfl zd_M_holds_70 (fun x1 => ?_)
    refine nk_callSi C [.int x1] zv_M_125 hR (zc_M_partsOf x1 m0) (by omega) rfl rfl (Nat.le_of_ble_eq_true rfl) zd_M_holds_71 (fun r2 m1 => ?_)
    refine nk_icmp_ge (tgt := 107) C zd_M_holds_74 (by decide) ?_ ?_
    · refine nk_wk [true, false, true, false] ?_
      exact zs_M_holds_b107 C hR hr y2 m1
    · refine nk_aload_n C zd_M_holds_77 rfl rfl ?_
      refine nk_getR C (r := 3) za_M_16 (Nat.le_of_ble_eq_true rfl) rfl rfl zd_M_holds_78 ?_
      refine nk_iload_n C zd_M_holds_81 rfl rfl ?_
      refine nk_iald C (Nat.le_of_ble_eq_true rfl) rfl zd_M_holds_82 (fun x3 => ?_)
      refine nk_if_le (tgt := 107) C zd_M_holds_83 (by decide) ?_ ?_
      · refine nk_wk [true, false, true, false] ?_
        exact zs_M_holds_b107 C hR hr y2 m1
      · refine nk_iload_n C zd_M_holds_86 rfl rfl ?_
        refine nk_iconst (v := 1) C zd_M_holds_87 (by decide) ?_
        refine nk_aload_n C zd_M_holds_88 rfl rfl ?_
        refine nk_getR C (r := 4) za_M_19 (Nat.le_of_ble_eq_true rfl) rfl rfl zd_M_holds_89 ?_
        refine nk_iconst (v := 3) C zd_M_holds_92 (by decide) ?_
        refine nk_iload_n C zd_M_holds_93 rfl rfl ?_
        refine nk_imul C zd_M_holds_94 ?_
        refine nk_iload_n C zd_M_holds_95 rfl rfl ?_
        refine nk_iadd C zd_M_holds_96 ?_
        refine nk_iald C (Nat.le_of_ble_eq_true rfl) rfl zd_M_holds_97 (fun x4 => ?_)
        refine nk_ishl C zd_M_holds_98 ?_
        refine nk_ior C zd_M_holds_99 ?_
        refine nk_named (fun x5 => ?_)
        refine nk_istore_n C zd_M_holds_100 rfl (Nat.le_of_ble_eq_true rfl) rfl ?_
        refine nk_iinc (v0 := y3 + 1) C zd_M_holds_101 rfl (nk_inc _ (by decide)) (Nat.le_of_ble_eq_true rfl) rfl ?_
        refine nk_goto (tgt := 64) C zd_M_holds_104 (by decide) ?_
        exact ih y1 x5 (y3 + 1) m1
def zf_M_holds_b41  (u0 : Int32) (m0 : nk_M) : Option (Int32 × nk_M) := some (u0, m0)
set_option maxHeartbeats 4000000 in
set_option maxRecDepth 100000 in
theorem zs_M_holds_b41 {G : nk_V} {X : nk_X}   (C : nk_C "NeedOnceModel" zb_M_holds 4 nk_wR G X) (hR : X.2.2.2.1 = nk_rm 2) (hr : X.2.2.2.2.2.2.2.2.1.sig.returnType = (some .int))  : ∀ (u0 : Int32) (m0 : nk_M), nk_Sim nk_wR G X 4 nk_oi 41 [nk_r G 0, .null, .null, .null] [.int u0] m0 (zf_M_holds_b41 u0 m0) := by
  intro u0 m0
  unfold zf_M_holds_b41
  exact nk_iret C hr zd_M_holds_41
def zf_M_holds  (a1 : Int32) (m0 : nk_M) : Option (Int32 × nk_M) := nk_ald m0 9 8 a1 (fun x1 => (if x1 < 0 then nk_ald m0 12 8 a1 (fun x2 => (if x2 < 0 then (zf_M_holds_b64 nk_fu a1 (0 : Int32) (0 : Int32) m0) else nk_ald m0 12 8 a1 (fun x3 => some ((1 : Int32) <<< (x3 &&& 31), m0)))) else nk_ald m0 9 8 a1 (fun x4 => (if x4 = (100 : Int32) then nk_ald m0 10 8 a1 (fun x5 => nk_ald m0 11 8 a1 (fun x6 => (zf_M_holds_b41 (((1 : Int32) <<< (x5 &&& 31)) ||| ((1 : Int32) <<< (x6 &&& 31))) m0))) else (zf_M_holds_b41 (0 : Int32) m0)))))
set_option maxHeartbeats 4000000 in
set_option maxRecDepth 100000 in
theorem zc_M_holds {l : Launch} {G : nk_V}   (a1 : Int32) (m0 : nk_M) : nk_Ct l nk_wR G 2 zy_M_holds zb_M_holds 4 (some .int) nk_oi [nk_r G 0, .int a1] m0 (zf_M_holds  a1 m0) := by
  refine nk_ent (own := "NeedOnceModel") (lv := [nk_r G 0, .int a1, .null, .null]) 2 rfl (by decide) (Nat.le_of_ble_eq_true rfl) rfl (fun X hl hR C hr => ?_)
  subst hl
  unfold zf_M_holds
  refine nk_aload_n C zd_M_holds_0 rfl rfl ?_
  refine nk_getR C (r := 9) za_M_34 (Nat.le_of_ble_eq_true rfl) rfl rfl zd_M_holds_1 ?_
  refine nk_iload_n C zd_M_holds_4 rfl rfl ?_
  refine nk_iald C (Nat.le_of_ble_eq_true rfl) rfl zd_M_holds_5 (fun x1 => ?_)
  refine nk_if_lt (tgt := 42) C zd_M_holds_6 (by decide) ?_ ?_
  · refine nk_aload_n C zd_M_holds_42 rfl rfl ?_
    refine nk_getR C (r := 12) za_M_43 (Nat.le_of_ble_eq_true rfl) rfl rfl zd_M_holds_43 ?_
    refine nk_iload_n C zd_M_holds_46 rfl rfl ?_
    refine nk_iald C (Nat.le_of_ble_eq_true rfl) rfl zd_M_holds_47 (fun x2 => ?_)
    refine nk_if_lt (tgt := 60) C zd_M_holds_48 (by decide) ?_ ?_
    · refine nk_iconst (v := 0) C zd_M_holds_60 (by decide) ?_
      refine nk_istore_n C zd_M_holds_61 rfl (Nat.le_of_ble_eq_true rfl) rfl ?_
      refine nk_iconst (v := 0) C zd_M_holds_62 (by decide) ?_
      refine nk_istore_n C zd_M_holds_63 rfl (Nat.le_of_ble_eq_true rfl) rfl ?_
      exact zs_M_holds_b64 C hR hr nk_fu a1 (0 : Int32) (0 : Int32) m0
    · refine nk_iconst (v := 1) C zd_M_holds_51 (by decide) ?_
      refine nk_aload_n C zd_M_holds_52 rfl rfl ?_
      refine nk_getR C (r := 12) za_M_43 (Nat.le_of_ble_eq_true rfl) rfl rfl zd_M_holds_53 ?_
      refine nk_iload_n C zd_M_holds_56 rfl rfl ?_
      refine nk_iald C (Nat.le_of_ble_eq_true rfl) rfl zd_M_holds_57 (fun x3 => ?_)
      refine nk_ishl C zd_M_holds_58 ?_
      exact nk_iret C hr zd_M_holds_59
  · refine nk_aload_n C zd_M_holds_9 rfl rfl ?_
    refine nk_getR C (r := 9) za_M_34 (Nat.le_of_ble_eq_true rfl) rfl rfl zd_M_holds_10 ?_
    refine nk_iload_n C zd_M_holds_13 rfl rfl ?_
    refine nk_iald C (Nat.le_of_ble_eq_true rfl) rfl zd_M_holds_14 (fun x4 => ?_)
    refine nk_bipush (v := 100) C zd_M_holds_15 (by decide) ?_
    refine nk_icmp_ne (tgt := 40) C zd_M_holds_17 (by decide) ?_ ?_
    · refine nk_iconst (v := 0) C zd_M_holds_40 (by decide) ?_
      refine nk_wk [true, false, false, false] ?_
      exact zs_M_holds_b41 C hR hr (0 : Int32) m0
    · refine nk_iconst (v := 1) C zd_M_holds_20 (by decide) ?_
      refine nk_aload_n C zd_M_holds_21 rfl rfl ?_
      refine nk_getR C (r := 10) za_M_37 (Nat.le_of_ble_eq_true rfl) rfl rfl zd_M_holds_22 ?_
      refine nk_iload_n C zd_M_holds_25 rfl rfl ?_
      refine nk_iald C (Nat.le_of_ble_eq_true rfl) rfl zd_M_holds_26 (fun x5 => ?_)
      refine nk_ishl C zd_M_holds_27 ?_
      refine nk_iconst (v := 1) C zd_M_holds_28 (by decide) ?_
      refine nk_aload_n C zd_M_holds_29 rfl rfl ?_
      refine nk_getR C (r := 11) za_M_40 (Nat.le_of_ble_eq_true rfl) rfl rfl zd_M_holds_30 ?_
      refine nk_iload_n C zd_M_holds_33 rfl rfl ?_
      refine nk_iald C (Nat.le_of_ble_eq_true rfl) rfl zd_M_holds_34 (fun x6 => ?_)
      refine nk_ishl C zd_M_holds_35 ?_
      refine nk_ior C zd_M_holds_36 ?_
      refine nk_goto (tgt := 41) C zd_M_holds_37 (by decide) ?_
      refine nk_wk [true, false, false, false] ?_
      exact zs_M_holds_b41 C hR hr (((1 : Int32) <<< (x5 &&& 31)) ||| ((1 : Int32) <<< (x6 &&& 31))) m0
theorem zd_M_heldBy_0 : decode zb_M_heldBy 0 = .ok (.iload_n 1, 1) := by decide +kernel
theorem zd_M_heldBy_1 : decode zb_M_heldBy 1 = .ok (.iconst 1, 1) := by decide +kernel
theorem zd_M_heldBy_2 : decode zb_M_heldBy 2 = .ok (.aload_n 0, 1) := by decide +kernel
theorem zd_M_heldBy_3 : decode zb_M_heldBy 3 = .ok (.getfield 104, 3) := by decide +kernel
theorem zd_M_heldBy_6 : decode zb_M_heldBy 6 = .ok (.ishl, 1) := by decide +kernel
theorem zd_M_heldBy_7 : decode zb_M_heldBy 7 = .ok (.iconst 1, 1) := by decide +kernel
theorem zd_M_heldBy_8 : decode zb_M_heldBy 8 = .ok (.isub, 1) := by decide +kernel
theorem zd_M_heldBy_9 : decode zb_M_heldBy 9 = .ok (.iand, 1) := by decide +kernel
theorem zd_M_heldBy_10 : decode zb_M_heldBy 10 = .ok (.istore_n 2, 1) := by decide +kernel
theorem zd_M_heldBy_11 : decode zb_M_heldBy 11 = .ok (.iconst (-1), 1) := by decide +kernel
theorem zd_M_heldBy_12 : decode zb_M_heldBy 12 = .ok (.istore_n 3, 1) := by decide +kernel
theorem zd_M_heldBy_13 : decode zb_M_heldBy 13 = .ok (.iload_n 3, 1) := by decide +kernel
theorem zd_M_heldBy_14 : decode zb_M_heldBy 14 = .ok (.iload_n 2, 1) := by decide +kernel
theorem zd_M_heldBy_15 : decode zb_M_heldBy 15 = .ok (.if_icmp .eq 49, 3) := by decide +kernel
theorem zd_M_heldBy_18 : decode zb_M_heldBy 18 = .ok (.iload_n 2, 1) := by decide +kernel
theorem zd_M_heldBy_19 : decode zb_M_heldBy 19 = .ok (.istore_n 3, 1) := by decide +kernel
theorem zd_M_heldBy_20 : decode zb_M_heldBy 20 = .ok (.iconst 0, 1) := by decide +kernel
theorem zd_M_heldBy_21 : decode zb_M_heldBy 21 = .ok (.istore 4, 2) := by decide +kernel
theorem zd_M_heldBy_23 : decode zb_M_heldBy 23 = .ok (.iload 4, 2) := by decide +kernel
theorem zd_M_heldBy_25 : decode zb_M_heldBy 25 = .ok (.aload_n 0, 1) := by decide +kernel
theorem zd_M_heldBy_26 : decode zb_M_heldBy 26 = .ok (.getfield 104, 3) := by decide +kernel
theorem zd_M_heldBy_29 : decode zb_M_heldBy 29 = .ok (.if_icmp .ge 32, 3) := by decide +kernel
theorem zd_M_heldBy_32 : decode zb_M_heldBy 32 = .ok (.iload_n 2, 1) := by decide +kernel
theorem zd_M_heldBy_33 : decode zb_M_heldBy 33 = .ok (.iload_n 3, 1) := by decide +kernel
theorem zd_M_heldBy_34 : decode zb_M_heldBy 34 = .ok (.iload 4, 2) := by decide +kernel
theorem zd_M_heldBy_36 : decode zb_M_heldBy 36 = .ok (.ishr, 1) := by decide +kernel
theorem zd_M_heldBy_37 : decode zb_M_heldBy 37 = .ok (.iconst 1, 1) := by decide +kernel
theorem zd_M_heldBy_38 : decode zb_M_heldBy 38 = .ok (.iand, 1) := by decide +kernel
theorem zd_M_heldBy_39 : decode zb_M_heldBy 39 = .ok (.iconst 1, 1) := by decide +kernel
theorem zd_M_heldBy_40 : decode zb_M_heldBy 40 = .ok (.if_icmp .ne 12, 3) := by decide +kernel
theorem zd_M_heldBy_43 : decode zb_M_heldBy 43 = .ok (.aload_n 0, 1) := by decide +kernel
theorem zd_M_heldBy_44 : decode zb_M_heldBy 44 = .ok (.iload 4, 2) := by decide +kernel
theorem zd_M_heldBy_46 : decode zb_M_heldBy 46 = .ok (.invokevirtual 261, 3) := by decide +kernel
theorem zd_M_heldBy_49 : decode zb_M_heldBy 49 = .ok (.goto 4, 3) := by decide +kernel
theorem zd_M_heldBy_52 : decode zb_M_heldBy 52 = .ok (.iconst 0, 1) := by decide +kernel
theorem zd_M_heldBy_53 : decode zb_M_heldBy 53 = .ok (.ior, 1) := by decide +kernel
theorem zd_M_heldBy_54 : decode zb_M_heldBy 54 = .ok (.istore_n 2, 1) := by decide +kernel
theorem zd_M_heldBy_55 : decode zb_M_heldBy 55 = .ok (.iinc 4 1, 3) := by decide +kernel
theorem zd_M_heldBy_58 : decode zb_M_heldBy 58 = .ok (.goto (-35), 3) := by decide +kernel
theorem zd_M_heldBy_61 : decode zb_M_heldBy 61 = .ok (.goto (-48), 3) := by decide +kernel
theorem zd_M_heldBy_64 : decode zb_M_heldBy 64 = .ok (.iload_n 2, 1) := by decide +kernel
theorem zd_M_heldBy_65 : decode zb_M_heldBy 65 = .ok (.ireturn, 1) := by decide +kernel
def zf_M_heldBy_b53 (rc13 : Int32 → Int32 → nk_M → Option (Int32 × nk_M)) (rc23 : Int32 → Int32 → Int32 → nk_M → Option (Int32 × nk_M)) (y3 : Int32) (y4 : Int32) (u0 : Int32) (u1 : Int32) (m0 : nk_M) : Option (Int32 × nk_M) := nk_nm (u0 ||| u1) (fun x1 => (rc23 x1 y3 (y4 + 1) m0))
set_option maxHeartbeats 4000000 in
set_option maxRecDepth 100000 in
theorem zs_M_heldBy_b53 {G : nk_V} {X : nk_X}   (C : nk_C "NeedOnceModel" zb_M_heldBy 5 nk_wR G X) (hR : X.2.2.2.1 = nk_rm 3) (hr : X.2.2.2.2.2.2.2.2.1.sig.returnType = (some .int)) (rc13 : Int32 → Int32 → nk_M → Option (Int32 × nk_M)) (rc23 : Int32 → Int32 → Int32 → nk_M → Option (Int32 × nk_M)) (hr13 : ∀ (y2 : Int32) (y3 : Int32) (m0 : nk_M), nk_Sim nk_wR G X 5 nk_oi 13 [nk_r G 0, .null, .int y2, .int y3, .null] [] m0 (rc13 y2 y3 m0)) (hr23 : ∀ (y2 : Int32) (y3 : Int32) (y4 : Int32) (m0 : nk_M), nk_Sim nk_wR G X 5 nk_oi 23 [nk_r G 0, .null, .int y2, .int y3, .int y4] [] m0 (rc23 y2 y3 y4 m0)) : ∀ (y3 : Int32) (y4 : Int32) (u0 : Int32) (u1 : Int32) (m0 : nk_M), nk_Sim nk_wR G X 5 nk_oi 53 [nk_r G 0, .null, .null, .int y3, .int y4] [.int u1, .int u0] m0 (zf_M_heldBy_b53 rc13 rc23 y3 y4 u0 u1 m0) := by
  intro y3 y4 u0 u1 m0
  unfold zf_M_heldBy_b53
  refine nk_ior C zd_M_heldBy_53 ?_
  refine nk_named (fun x1 => ?_)
  refine nk_istore_n C zd_M_heldBy_54 rfl (Nat.le_of_ble_eq_true rfl) rfl ?_
  refine nk_iinc (v0 := y4 + 1) C zd_M_heldBy_55 rfl (nk_inc _ (by decide)) (Nat.le_of_ble_eq_true rfl) rfl ?_
  refine nk_goto (tgt := 23) C zd_M_heldBy_58 (by decide) ?_
  exact hr23 x1 y3 (y4 + 1) m0
def zf_M_heldBy_b23 (rc13 : Int32 → Int32 → nk_M → Option (Int32 × nk_M)) : Nat → Int32 → Int32 → Int32 → nk_M → Option (Int32 × nk_M)
  | 0, _, _, _, _ => none
  | n0 + 1, y2, y3, y4, m0 => (if (m0 0 1) ≤ y4 then (rc13 y2 y3 m0) else (if ((y3 >>> (y4 &&& 31)) &&& (1 : Int32)) = (1 : Int32) then nk_bd (zf_M_holds y4 m0) (fun r1 m1 => (zf_M_heldBy_b53 rc13 (zf_M_heldBy_b23 rc13 n0) y3 y4 y2 r1 m1)) else (zf_M_heldBy_b53 rc13 (zf_M_heldBy_b23 rc13 n0) y3 y4 y2 (0 : Int32) m0)))
set_option maxHeartbeats 4000000 in
set_option maxRecDepth 100000 in
theorem zs_M_heldBy_b23 {G : nk_V} {X : nk_X}   (C : nk_C "NeedOnceModel" zb_M_heldBy 5 nk_wR G X) (hR : X.2.2.2.1 = nk_rm 3) (hr : X.2.2.2.2.2.2.2.2.1.sig.returnType = (some .int)) (rc13 : Int32 → Int32 → nk_M → Option (Int32 × nk_M)) (hr13 : ∀ (y2 : Int32) (y3 : Int32) (m0 : nk_M), nk_Sim nk_wR G X 5 nk_oi 13 [nk_r G 0, .null, .int y2, .int y3, .null] [] m0 (rc13 y2 y3 m0)) : ∀ (n0 : Nat) (y2 : Int32) (y3 : Int32) (y4 : Int32) (m0 : nk_M), nk_Sim nk_wR G X 5 nk_oi 23 [nk_r G 0, .null, .int y2, .int y3, .int y4] [] m0 (zf_M_heldBy_b23 rc13 n0 y2 y3 y4 m0) := by
  intro n0
  induction n0 with
  | zero => intros; exact nk_none
  | succ n0 ih =>
    intro y2 y3 y4 m0
    rw [zf_M_heldBy_b23]
    refine nk_iload C zd_M_heldBy_23 rfl ?_
    refine nk_aload_n C zd_M_heldBy_25 rfl rfl ?_
    refine nk_getI C za_M_104 (Nat.le_of_ble_eq_true rfl) rfl rfl zd_M_heldBy_26 ?_
    refine nk_icmp_ge (tgt := 61) C zd_M_heldBy_29 (by decide) ?_ ?_
    · refine nk_goto (tgt := 13) C zd_M_heldBy_61 (by decide) ?_
      refine nk_wk [true, false, true, true, false] ?_
      exact hr13 y2 y3 m0
    · refine nk_iload_n C zd_M_heldBy_32 rfl rfl ?_
      refine nk_iload_n C zd_M_heldBy_33 rfl rfl ?_
      refine nk_iload C zd_M_heldBy_34 rfl ?_
      refine nk_ishr C zd_M_heldBy_36 ?_
      refine nk_iconst (v := 1) C zd_M_heldBy_37 (by decide) ?_
      refine nk_iand C zd_M_heldBy_38 ?_
      refine nk_iconst (v := 1) C zd_M_heldBy_39 (by decide) ?_
      refine nk_icmp_ne (tgt := 52) C zd_M_heldBy_40 (by decide) ?_ ?_
      · refine nk_iconst (v := 0) C zd_M_heldBy_52 (by decide) ?_
        refine nk_wk [true, false, false, true, true] ?_
        exact zs_M_heldBy_b53 C hR hr rc13 (zf_M_heldBy_b23 rc13 n0) hr13 ih y3 y4 y2 (0 : Int32) m0
      · refine nk_aload_n C zd_M_heldBy_43 rfl rfl ?_
        refine nk_iload C zd_M_heldBy_44 rfl ?_
        refine nk_callVi C [.int y4] zv_M_261 hR (zc_M_holds y4 m0) (by omega) (Nat.le_of_ble_eq_true rfl) rfl rfl rfl rfl (Nat.le_of_ble_eq_true rfl) zd_M_heldBy_46 (fun r1 m1 => ?_)
        refine nk_goto (tgt := 53) C zd_M_heldBy_49 (by decide) ?_
        refine nk_wk [true, false, false, true, true] ?_
        exact zs_M_heldBy_b53 C hR hr rc13 (zf_M_heldBy_b23 rc13 n0) hr13 ih y3 y4 y2 r1 m1
def zf_M_heldBy_b13  : Nat → Int32 → Int32 → nk_M → Option (Int32 × nk_M)
  | 0, _, _, _ => none
  | n0 + 1, y2, y3, m0 => (if y3 = y2 then some (y2, m0) else (zf_M_heldBy_b23 (zf_M_heldBy_b13 n0) nk_fu y2 y2 (0 : Int32) m0))
set_option maxHeartbeats 4000000 in
set_option maxRecDepth 100000 in
theorem zs_M_heldBy_b13 {G : nk_V} {X : nk_X}   (C : nk_C "NeedOnceModel" zb_M_heldBy 5 nk_wR G X) (hR : X.2.2.2.1 = nk_rm 3) (hr : X.2.2.2.2.2.2.2.2.1.sig.returnType = (some .int))  : ∀ (n0 : Nat) (y2 : Int32) (y3 : Int32) (m0 : nk_M), nk_Sim nk_wR G X 5 nk_oi 13 [nk_r G 0, .null, .int y2, .int y3, .null] [] m0 (zf_M_heldBy_b13 n0 y2 y3 m0) := by
  intro n0
  induction n0 with
  | zero => intros; exact nk_none
  | succ n0 ih =>
    intro y2 y3 m0
    rw [zf_M_heldBy_b13]
    refine nk_iload_n C zd_M_heldBy_13 rfl rfl ?_
    refine nk_iload_n C zd_M_heldBy_14 rfl rfl ?_
    refine nk_icmp_eq (tgt := 64) C zd_M_heldBy_15 (by decide) ?_ ?_
    · refine nk_iload_n C zd_M_heldBy_64 rfl rfl ?_
      exact nk_iret C hr zd_M_heldBy_65
    · refine nk_iload_n C zd_M_heldBy_18 rfl rfl ?_
      refine nk_istore_n C zd_M_heldBy_19 rfl (Nat.le_of_ble_eq_true rfl) rfl ?_
      refine nk_iconst (v := 0) C zd_M_heldBy_20 (by decide) ?_
      refine nk_istore C zd_M_heldBy_21 (Nat.le_of_ble_eq_true rfl) rfl ?_
      exact zs_M_heldBy_b23 C hR hr (zf_M_heldBy_b13 n0) ih nk_fu y2 y2 (0 : Int32) m0
def zf_M_heldBy  (a1 : Int32) (m0 : nk_M) : Option (Int32 × nk_M) := nk_nm (a1 &&& (((1 : Int32) <<< ((m0 0 1) &&& 31)) - (1 : Int32))) (fun x1 => (zf_M_heldBy_b13 nk_fu x1 (-1 : Int32) m0))
set_option maxHeartbeats 4000000 in
set_option maxRecDepth 100000 in
theorem zc_M_heldBy {l : Launch} {G : nk_V}   (a1 : Int32) (m0 : nk_M) : nk_Ct l nk_wR G 3 zy_M_heldBy zb_M_heldBy 5 (some .int) nk_oi [nk_r G 0, .int a1] m0 (zf_M_heldBy  a1 m0) := by
  refine nk_ent (own := "NeedOnceModel") (lv := [nk_r G 0, .int a1, .null, .null, .null]) 3 rfl (by decide) (Nat.le_of_ble_eq_true rfl) rfl (fun X hl hR C hr => ?_)
  subst hl
  unfold zf_M_heldBy
  refine nk_iload_n C zd_M_heldBy_0 rfl rfl ?_
  refine nk_iconst (v := 1) C zd_M_heldBy_1 (by decide) ?_
  refine nk_aload_n C zd_M_heldBy_2 rfl rfl ?_
  refine nk_getI C za_M_104 (Nat.le_of_ble_eq_true rfl) rfl rfl zd_M_heldBy_3 ?_
  refine nk_ishl C zd_M_heldBy_6 ?_
  refine nk_iconst (v := 1) C zd_M_heldBy_7 (by decide) ?_
  refine nk_isub C zd_M_heldBy_8 ?_
  refine nk_iand C zd_M_heldBy_9 ?_
  refine nk_named (fun x1 => ?_)
  refine nk_istore_n C zd_M_heldBy_10 rfl (Nat.le_of_ble_eq_true rfl) rfl ?_
  refine nk_iconst (v := -1) C zd_M_heldBy_11 (by decide) ?_
  refine nk_istore_n C zd_M_heldBy_12 rfl (Nat.le_of_ble_eq_true rfl) rfl ?_
  refine nk_wk [true, false, true, true, false] ?_
  exact zs_M_heldBy_b13 C hR hr nk_fu x1 (-1 : Int32) m0
theorem zd_M_held_0 : decode zb_M_held 0 = .ok (.iload_n 1, 1) := by decide +kernel
theorem zd_M_held_1 : decode zb_M_held 1 = .ok (.i2l, 1) := by decide +kernel
theorem zd_M_held_2 : decode zb_M_held 2 = .ok (.lconst 0, 1) := by decide +kernel
theorem zd_M_held_3 : decode zb_M_held 3 = .ok (.ldc2_w 264, 3) := by decide +kernel
theorem zd_M_held_6 : decode zb_M_held 6 = .ok (.invokestatic 107, 3) := by decide +kernel
theorem zd_M_held_9 : decode zb_M_held 9 = .ok (.ifCond .eq 11, 3) := by decide +kernel
theorem zd_M_held_12 : decode zb_M_held 12 = .ok (.aload_n 0, 1) := by decide +kernel
theorem zd_M_held_13 : decode zb_M_held 13 = .ok (.iload_n 1, 1) := by decide +kernel
theorem zd_M_held_14 : decode zb_M_held 14 = .ok (.invokevirtual 266, 3) := by decide +kernel
theorem zd_M_held_17 : decode zb_M_held 17 = .ok (.goto 5, 3) := by decide +kernel
theorem zd_M_held_20 : decode zb_M_held 20 = .ok (.bipush (-2), 2) := by decide +kernel
theorem zd_M_held_22 : decode zb_M_held 22 = .ok (.ireturn, 1) := by decide +kernel
def zf_M_held_b22  (u0 : Int32) (m0 : nk_M) : Option (Int32 × nk_M) := some (u0, m0)
set_option maxHeartbeats 4000000 in
set_option maxRecDepth 100000 in
theorem zs_M_held_b22 {G : nk_V} {X : nk_X}   (C : nk_C "NeedOnceModel" zb_M_held 2 nk_wR G X) (hR : X.2.2.2.1 = nk_rm 4) (hr : X.2.2.2.2.2.2.2.2.1.sig.returnType = (some .int))  : ∀ (u0 : Int32) (m0 : nk_M), nk_Sim nk_wR G X 2 nk_oi 22 [nk_r G 0, .null] [.int u0] m0 (zf_M_held_b22 u0 m0) := by
  intro u0 m0
  unfold zf_M_held_b22
  exact nk_iret C hr zd_M_held_22
def zf_M_held  (a1 : Int32) (m0 : nk_M) : Option (Int32 × nk_M) := nk_bd (zf_M_in (a1.toInt64) (0 : Int64) (255 : Int64) m0) (fun r1 m1 => (if r1 = 0 then (zf_M_held_b22 (-2 : Int32) m1) else nk_bd (zf_M_heldBy a1 m1) (fun r2 m2 => (zf_M_held_b22 r2 m2))))
set_option maxHeartbeats 4000000 in
set_option maxRecDepth 100000 in
theorem zc_M_held {l : Launch} {G : nk_V}   (a1 : Int32) (m0 : nk_M) : nk_Ct l nk_wR G 4 zy_M_held zb_M_held 2 (some .int) nk_oi [nk_r G 0, .int a1] m0 (zf_M_held  a1 m0) := by
  refine nk_ent (own := "NeedOnceModel") (lv := [nk_r G 0, .int a1]) 0 rfl (by decide) (Nat.le_of_ble_eq_true rfl) rfl (fun X hl hR C hr => ?_)
  subst hl
  unfold zf_M_held
  refine nk_iload_n C zd_M_held_0 rfl rfl ?_
  refine nk_i2l C zd_M_held_1 ?_
  refine nk_lconst (v := 0) C zd_M_held_2 (by decide) ?_
  refine nk_ldc2 (v := 255) C zw_840 zd_M_held_3 ?_
  refine nk_callSi C [.long (a1.toInt64), .long (0 : Int64), .long (255 : Int64)] zv_M_107 hR (zc_M_in (a1.toInt64) (0 : Int64) (255 : Int64) m0) (by omega) rfl rfl (Nat.le_of_ble_eq_true rfl) zd_M_held_6 (fun r1 m1 => ?_)
  refine nk_if_eq (tgt := 20) C zd_M_held_9 (by decide) ?_ ?_
  · refine nk_bipush (v := -2) C zd_M_held_20 (by decide) ?_
    refine nk_wk [true, false] ?_
    exact zs_M_held_b22 C hR hr (-2 : Int32) m1
  · refine nk_aload_n C zd_M_held_12 rfl rfl ?_
    refine nk_iload_n C zd_M_held_13 rfl rfl ?_
    refine nk_callVi C [.int a1] zv_M_266 hR (zc_M_heldBy a1 m1) (by omega) (Nat.le_of_ble_eq_true rfl) rfl rfl rfl rfl (Nat.le_of_ble_eq_true rfl) zd_M_held_14 (fun r2 m2 => ?_)
    refine nk_goto (tgt := 22) C zd_M_held_17 (by decide) ?_
    refine nk_wk [true, false] ?_
    exact zs_M_held_b22 C hR hr r2 m2
theorem zd_M_plainly_0 : decode zb_M_plainly 0 = .ok (.aload_n 0, 1) := by decide +kernel
theorem zd_M_plainly_1 : decode zb_M_plainly 1 = .ok (.iload_n 1, 1) := by decide +kernel
theorem zd_M_plainly_2 : decode zb_M_plainly 2 = .ok (.invokevirtual 240, 3) := by decide +kernel
theorem zd_M_plainly_5 : decode zb_M_plainly 5 = .ok (.ifCond .eq 5, 3) := by decide +kernel
theorem zd_M_plainly_8 : decode zb_M_plainly 8 = .ok (.iconst (-1), 1) := by decide +kernel
theorem zd_M_plainly_9 : decode zb_M_plainly 9 = .ok (.ireturn, 1) := by decide +kernel
theorem zd_M_plainly_10 : decode zb_M_plainly 10 = .ok (.aload_n 0, 1) := by decide +kernel
theorem zd_M_plainly_11 : decode zb_M_plainly 11 = .ok (.iconst 1, 1) := by decide +kernel
theorem zd_M_plainly_12 : decode zb_M_plainly 12 = .ok (.putfield 187, 3) := by decide +kernel
theorem zd_M_plainly_15 : decode zb_M_plainly 15 = .ok (.aload_n 0, 1) := by decide +kernel
theorem zd_M_plainly_16 : decode zb_M_plainly 16 = .ok (.iload_n 1, 1) := by decide +kernel
theorem zd_M_plainly_17 : decode zb_M_plainly 17 = .ok (.invokevirtual 250, 3) := by decide +kernel
theorem zd_M_plainly_20 : decode zb_M_plainly 20 = .ok (.istore_n 2, 1) := by decide +kernel
theorem zd_M_plainly_21 : decode zb_M_plainly 21 = .ok (.aload_n 0, 1) := by decide +kernel
theorem zd_M_plainly_22 : decode zb_M_plainly 22 = .ok (.iconst 0, 1) := by decide +kernel
theorem zd_M_plainly_23 : decode zb_M_plainly 23 = .ok (.putfield 187, 3) := by decide +kernel
theorem zd_M_plainly_26 : decode zb_M_plainly 26 = .ok (.aload_n 0, 1) := by decide +kernel
theorem zd_M_plainly_27 : decode zb_M_plainly 27 = .ok (.getfield 203, 3) := by decide +kernel
theorem zd_M_plainly_30 : decode zb_M_plainly 30 = .ok (.ifCond .ne 13, 3) := by decide +kernel
theorem zd_M_plainly_33 : decode zb_M_plainly 33 = .ok (.aload_n 0, 1) := by decide +kernel
theorem zd_M_plainly_34 : decode zb_M_plainly 34 = .ok (.getfield 206, 3) := by decide +kernel
theorem zd_M_plainly_37 : decode zb_M_plainly 37 = .ok (.sipush 999, 3) := by decide +kernel
theorem zd_M_plainly_40 : decode zb_M_plainly 40 = .ok (.if_icmp .le 8, 3) := by decide +kernel
theorem zd_M_plainly_43 : decode zb_M_plainly 43 = .ok (.bipush (-9), 2) := by decide +kernel
theorem zd_M_plainly_45 : decode zb_M_plainly 45 = .ok (.goto 7, 3) := by decide +kernel
theorem zd_M_plainly_48 : decode zb_M_plainly 48 = .ok (.aload_n 0, 1) := by decide +kernel
theorem zd_M_plainly_49 : decode zb_M_plainly 49 = .ok (.getfield 206, 3) := by decide +kernel
theorem zd_M_plainly_52 : decode zb_M_plainly 52 = .ok (.ireturn, 1) := by decide +kernel
def zf_M_plainly_b52  (u0 : Int32) (m0 : nk_M) : Option (Int32 × nk_M) := some (u0, m0)
set_option maxHeartbeats 4000000 in
set_option maxRecDepth 100000 in
theorem zs_M_plainly_b52 {G : nk_V} {X : nk_X}   (C : nk_C "NeedOnceModel" zb_M_plainly 3 nk_wR G X) (hR : X.2.2.2.1 = nk_rm 6) (hr : X.2.2.2.2.2.2.2.2.1.sig.returnType = (some .int))  : ∀ (u0 : Int32) (m0 : nk_M), nk_Sim nk_wR G X 3 nk_oi 52 [nk_r G 0, .null, .null] [.int u0] m0 (zf_M_plainly_b52 u0 m0) := by
  intro u0 m0
  unfold zf_M_plainly_b52
  exact nk_iret C hr zd_M_plainly_52
def zf_M_plainly_b43   (m0 : nk_M) : Option (Int32 × nk_M) := (zf_M_plainly_b52 (-9 : Int32) m0)
set_option maxHeartbeats 4000000 in
set_option maxRecDepth 100000 in
theorem zs_M_plainly_b43 {G : nk_V} {X : nk_X}   (C : nk_C "NeedOnceModel" zb_M_plainly 3 nk_wR G X) (hR : X.2.2.2.1 = nk_rm 6) (hr : X.2.2.2.2.2.2.2.2.1.sig.returnType = (some .int))  : ∀  (m0 : nk_M), nk_Sim nk_wR G X 3 nk_oi 43 [nk_r G 0, .null, .null] [] m0 (zf_M_plainly_b43  m0) := by
  intro m0
  unfold zf_M_plainly_b43
  refine nk_bipush (v := -9) C zd_M_plainly_43 (by decide) ?_
  refine nk_goto (tgt := 52) C zd_M_plainly_45 (by decide) ?_
  exact zs_M_plainly_b52 C hR hr (-9 : Int32) m0
def zf_M_plainly  (a1 : Int32) (m0 : nk_M) : Option (Int32 × nk_M) := nk_bd (zf_M_noOne a1 m0) (fun r1 m1 => (if r1 = 0 then nk_pf m1 0 29 (1 : Int32) (fun m2 => nk_bd (zf_M_needs a1 m2) (fun r2 m3 => nk_pf m3 0 29 (0 : Int32) (fun m4 => (if (m4 0 30) = 0 then (if (m4 0 24) ≤ (999 : Int32) then (zf_M_plainly_b52 (m4 0 24) m4) else (zf_M_plainly_b43 m4)) else (zf_M_plainly_b43 m4))))) else some ((-1 : Int32), m1)))
set_option maxHeartbeats 4000000 in
set_option maxRecDepth 100000 in
theorem zc_M_plainly {l : Launch} {G : nk_V}   (a1 : Int32) (m0 : nk_M) : nk_Ct l nk_wR G 6 zy_M_plainly zb_M_plainly 3 (some .int) nk_oi [nk_r G 0, .int a1] m0 (zf_M_plainly  a1 m0) := by
  refine nk_ent (own := "NeedOnceModel") (lv := [nk_r G 0, .int a1, .null]) 1 rfl (by decide) (Nat.le_of_ble_eq_true rfl) rfl (fun X hl hR C hr => ?_)
  subst hl
  unfold zf_M_plainly
  refine nk_aload_n C zd_M_plainly_0 rfl rfl ?_
  refine nk_iload_n C zd_M_plainly_1 rfl rfl ?_
  refine nk_callVi C [.int a1] zv_M_240 hR (zc_M_noOne a1 m0) (by omega) (Nat.le_of_ble_eq_true rfl) rfl rfl rfl rfl (Nat.le_of_ble_eq_true rfl) zd_M_plainly_2 (fun r1 m1 => ?_)
  refine nk_if_eq (tgt := 10) C zd_M_plainly_5 (by decide) ?_ ?_
  · refine nk_aload_n C zd_M_plainly_10 rfl rfl ?_
    refine nk_iconst (v := 1) C zd_M_plainly_11 (by decide) ?_
    refine nk_put C zp_M_187 (Nat.le_of_ble_eq_true rfl) rfl rfl (by decide) (by decide) zd_M_plainly_12 (fun m2 => ?_)
    refine nk_aload_n C zd_M_plainly_15 rfl rfl ?_
    refine nk_iload_n C zd_M_plainly_16 rfl rfl ?_
    refine nk_callVi C [.int a1] zv_M_250 hR (zc_M_needs a1 m2) (by omega) (Nat.le_of_ble_eq_true rfl) rfl rfl rfl rfl (Nat.le_of_ble_eq_true rfl) zd_M_plainly_17 (fun r2 m3 => ?_)
    refine nk_istore_n C zd_M_plainly_20 rfl (Nat.le_of_ble_eq_true rfl) rfl ?_
    refine nk_aload_n C zd_M_plainly_21 rfl rfl ?_
    refine nk_iconst (v := 0) C zd_M_plainly_22 (by decide) ?_
    refine nk_put C zp_M_187 (Nat.le_of_ble_eq_true rfl) rfl rfl (by decide) (by decide) zd_M_plainly_23 (fun m4 => ?_)
    refine nk_aload_n C zd_M_plainly_26 rfl rfl ?_
    refine nk_getI C za_M_203 (Nat.le_of_ble_eq_true rfl) rfl rfl zd_M_plainly_27 ?_
    refine nk_if_ne (tgt := 43) C zd_M_plainly_30 (by decide) ?_ ?_
    · refine nk_wk [true, false, false] ?_
      exact zs_M_plainly_b43 C hR hr m4
    · refine nk_aload_n C zd_M_plainly_33 rfl rfl ?_
      refine nk_getI C za_M_206 (Nat.le_of_ble_eq_true rfl) rfl rfl zd_M_plainly_34 ?_
      refine nk_sipush (v := 999) C zd_M_plainly_37 (by decide) ?_
      refine nk_icmp_le (tgt := 48) C zd_M_plainly_40 (by decide) ?_ ?_
      · refine nk_aload_n C zd_M_plainly_48 rfl rfl ?_
        refine nk_getI C za_M_206 (Nat.le_of_ble_eq_true rfl) rfl rfl zd_M_plainly_49 ?_
        refine nk_wk [true, false, false] ?_
        exact zs_M_plainly_b52 C hR hr (m4 0 24) m4
      · refine nk_wk [true, false, false] ?_
        exact zs_M_plainly_b43 C hR hr m4
  · refine nk_iconst (v := -1) C zd_M_plainly_8 (by decide) ?_
    exact nk_iret C hr zd_M_plainly_9
theorem zd_M_isAsTold_0 : decode zb_M_isAsTold 0 = .ok (.iload_n 1, 1) := by decide +kernel
theorem zd_M_isAsTold_1 : decode zb_M_isAsTold 1 = .ok (.i2l, 1) := by decide +kernel
theorem zd_M_isAsTold_2 : decode zb_M_isAsTold 2 = .ok (.ldc2_w 243, 3) := by decide +kernel
theorem zd_M_isAsTold_5 : decode zb_M_isAsTold 5 = .ok (.ldc2_w 253, 3) := by decide +kernel
theorem zd_M_isAsTold_8 : decode zb_M_isAsTold 8 = .ok (.invokestatic 107, 3) := by decide +kernel
theorem zd_M_isAsTold_11 : decode zb_M_isAsTold 11 = .ok (.ifCond .eq 8, 3) := by decide +kernel
theorem zd_M_isAsTold_14 : decode zb_M_isAsTold 14 = .ok (.iload_n 0, 1) := by decide +kernel
theorem zd_M_isAsTold_15 : decode zb_M_isAsTold 15 = .ok (.invokestatic 247, 3) := by decide +kernel
theorem zd_M_isAsTold_18 : decode zb_M_isAsTold 18 = .ok (.ireturn, 1) := by decide +kernel
theorem zd_M_isAsTold_19 : decode zb_M_isAsTold 19 = .ok (.iload_n 0, 1) := by decide +kernel
theorem zd_M_isAsTold_20 : decode zb_M_isAsTold 20 = .ok (.ifCond .ne 33, 3) := by decide +kernel
theorem zd_M_isAsTold_23 : decode zb_M_isAsTold 23 = .ok (.iload_n 1, 1) := by decide +kernel
theorem zd_M_isAsTold_24 : decode zb_M_isAsTold 24 = .ok (.i2l, 1) := by decide +kernel
theorem zd_M_isAsTold_25 : decode zb_M_isAsTold 25 = .ok (.lconst 0, 1) := by decide +kernel
theorem zd_M_isAsTold_26 : decode zb_M_isAsTold 26 = .ok (.ldc2_w 130, 3) := by decide +kernel
theorem zd_M_isAsTold_29 : decode zb_M_isAsTold 29 = .ok (.invokestatic 107, 3) := by decide +kernel
theorem zd_M_isAsTold_32 : decode zb_M_isAsTold 32 = .ok (.ifCond .ne 17, 3) := by decide +kernel
theorem zd_M_isAsTold_35 : decode zb_M_isAsTold 35 = .ok (.iload_n 1, 1) := by decide +kernel
theorem zd_M_isAsTold_36 : decode zb_M_isAsTold 36 = .ok (.i2l, 1) := by decide +kernel
theorem zd_M_isAsTold_37 : decode zb_M_isAsTold 37 = .ok (.ldc2_w 269, 3) := by decide +kernel
theorem zd_M_isAsTold_40 : decode zb_M_isAsTold 40 = .ok (.ldc2_w 271, 3) := by decide +kernel
theorem zd_M_isAsTold_43 : decode zb_M_isAsTold 43 = .ok (.invokestatic 107, 3) := by decide +kernel
theorem zd_M_isAsTold_46 : decode zb_M_isAsTold 46 = .ok (.ifCond .eq 7, 3) := by decide +kernel
theorem zd_M_isAsTold_49 : decode zb_M_isAsTold 49 = .ok (.iconst 1, 1) := by decide +kernel
theorem zd_M_isAsTold_50 : decode zb_M_isAsTold 50 = .ok (.goto 4, 3) := by decide +kernel
theorem zd_M_isAsTold_53 : decode zb_M_isAsTold 53 = .ok (.iconst 0, 1) := by decide +kernel
theorem zd_M_isAsTold_54 : decode zb_M_isAsTold 54 = .ok (.ireturn, 1) := by decide +kernel
def zf_M_isAsTold_b54  (u0 : Int32) (m0 : nk_M) : Option (Int32 × nk_M) := nk_zr u0 m0
set_option maxHeartbeats 4000000 in
set_option maxRecDepth 100000 in
theorem zs_M_isAsTold_b54 {G : nk_V} {X : nk_X}   (C : nk_C "NeedOnceModel" zb_M_isAsTold 2 nk_wR G X) (hR : X.2.2.2.1 = nk_rm 3) (hr : X.2.2.2.2.2.2.2.2.1.sig.returnType = (some .boolean))  : ∀ (u0 : Int32) (m0 : nk_M), nk_Sim nk_wR G X 2 nk_oi 54 [.null, .null] [.int u0] m0 (zf_M_isAsTold_b54 u0 m0) := by
  intro u0 m0
  unfold zf_M_isAsTold_b54
  exact nk_zret C hr zd_M_isAsTold_54
def zf_M_isAsTold_b53   (m0 : nk_M) : Option (Int32 × nk_M) := (zf_M_isAsTold_b54 (0 : Int32) m0)
set_option maxHeartbeats 4000000 in
set_option maxRecDepth 100000 in
theorem zs_M_isAsTold_b53 {G : nk_V} {X : nk_X}   (C : nk_C "NeedOnceModel" zb_M_isAsTold 2 nk_wR G X) (hR : X.2.2.2.1 = nk_rm 3) (hr : X.2.2.2.2.2.2.2.2.1.sig.returnType = (some .boolean))  : ∀  (m0 : nk_M), nk_Sim nk_wR G X 2 nk_oi 53 [.null, .null] [] m0 (zf_M_isAsTold_b53  m0) := by
  intro m0
  unfold zf_M_isAsTold_b53
  refine nk_iconst (v := 0) C zd_M_isAsTold_53 (by decide) ?_
  exact zs_M_isAsTold_b54 C hR hr (0 : Int32) m0
def zf_M_isAsTold_b49   (m0 : nk_M) : Option (Int32 × nk_M) := (zf_M_isAsTold_b54 (1 : Int32) m0)
set_option maxHeartbeats 4000000 in
set_option maxRecDepth 100000 in
theorem zs_M_isAsTold_b49 {G : nk_V} {X : nk_X}   (C : nk_C "NeedOnceModel" zb_M_isAsTold 2 nk_wR G X) (hR : X.2.2.2.1 = nk_rm 3) (hr : X.2.2.2.2.2.2.2.2.1.sig.returnType = (some .boolean))  : ∀  (m0 : nk_M), nk_Sim nk_wR G X 2 nk_oi 49 [.null, .null] [] m0 (zf_M_isAsTold_b49  m0) := by
  intro m0
  unfold zf_M_isAsTold_b49
  refine nk_iconst (v := 1) C zd_M_isAsTold_49 (by decide) ?_
  refine nk_goto (tgt := 54) C zd_M_isAsTold_50 (by decide) ?_
  exact zs_M_isAsTold_b54 C hR hr (1 : Int32) m0
def zf_M_isAsTold  (a1 : Int32) (a2 : Int32) (m0 : nk_M) : Option (Int32 × nk_M) := nk_bd (zf_M_in (a2.toInt64) (10 : Int64) (17 : Int64) m0) (fun r1 m1 => (if r1 = 0 then (if a1 = 0 then nk_bd (zf_M_in (a2.toInt64) (0 : Int64) (7 : Int64) m1) (fun r2 m2 => (if r2 = 0 then nk_bd (zf_M_in (a2.toInt64) (20 : Int64) (21 : Int64) m2) (fun r3 m3 => (if r3 = 0 then (zf_M_isAsTold_b53 m3) else (zf_M_isAsTold_b49 m3))) else (zf_M_isAsTold_b49 m2))) else (zf_M_isAsTold_b53 m1)) else nk_bd (zf_M_isPrice a1 m1) (fun r4 m4 => nk_zr r4 m4)))
set_option maxHeartbeats 4000000 in
set_option maxRecDepth 100000 in
theorem zc_M_isAsTold {l : Launch} {G : nk_V}   (a1 : Int32) (a2 : Int32) (m0 : nk_M) : nk_Ct l nk_wR G 3 zy_M_isAsTold zb_M_isAsTold 2 (some .boolean) nk_oi [.int a1, .int a2] m0 (zf_M_isAsTold  a1 a2 m0) := by
  refine nk_ent (own := "NeedOnceModel") (lv := [.int a1, .int a2]) 0 rfl (by decide) (Nat.le_of_ble_eq_true rfl) rfl (fun X hl hR C hr => ?_)
  subst hl
  unfold zf_M_isAsTold
  refine nk_iload_n C zd_M_isAsTold_0 rfl rfl ?_
  refine nk_i2l C zd_M_isAsTold_1 ?_
  refine nk_ldc2 (v := 10) C zw_762 zd_M_isAsTold_2 ?_
  refine nk_ldc2 (v := 17) C zw_815 zd_M_isAsTold_5 ?_
  refine nk_callSi C [.long (a2.toInt64), .long (10 : Int64), .long (17 : Int64)] zv_M_107 hR (zc_M_in (a2.toInt64) (10 : Int64) (17 : Int64) m0) (by omega) rfl rfl (Nat.le_of_ble_eq_true rfl) zd_M_isAsTold_8 (fun r1 m1 => ?_)
  refine nk_if_eq (tgt := 19) C zd_M_isAsTold_11 (by decide) ?_ ?_
  · refine nk_iload_n C zd_M_isAsTold_19 rfl rfl ?_
    refine nk_if_ne (tgt := 53) C zd_M_isAsTold_20 (by decide) ?_ ?_
    · refine nk_wk [false, false] ?_
      exact zs_M_isAsTold_b53 C hR hr m1
    · refine nk_iload_n C zd_M_isAsTold_23 rfl rfl ?_
      refine nk_i2l C zd_M_isAsTold_24 ?_
      refine nk_lconst (v := 0) C zd_M_isAsTold_25 (by decide) ?_
      refine nk_ldc2 (v := 7) C zw_745 zd_M_isAsTold_26 ?_
      refine nk_callSi C [.long (a2.toInt64), .long (0 : Int64), .long (7 : Int64)] zv_M_107 hR (zc_M_in (a2.toInt64) (0 : Int64) (7 : Int64) m1) (by omega) rfl rfl (Nat.le_of_ble_eq_true rfl) zd_M_isAsTold_29 (fun r2 m2 => ?_)
      refine nk_if_ne (tgt := 49) C zd_M_isAsTold_32 (by decide) ?_ ?_
      · refine nk_wk [false, false] ?_
        exact zs_M_isAsTold_b49 C hR hr m2
      · refine nk_iload_n C zd_M_isAsTold_35 rfl rfl ?_
        refine nk_i2l C zd_M_isAsTold_36 ?_
        refine nk_ldc2 (v := 20) C zw_857 zd_M_isAsTold_37 ?_
        refine nk_ldc2 (v := 21) C zw_862 zd_M_isAsTold_40 ?_
        refine nk_callSi C [.long (a2.toInt64), .long (20 : Int64), .long (21 : Int64)] zv_M_107 hR (zc_M_in (a2.toInt64) (20 : Int64) (21 : Int64) m2) (by omega) rfl rfl (Nat.le_of_ble_eq_true rfl) zd_M_isAsTold_43 (fun r3 m3 => ?_)
        refine nk_if_eq (tgt := 53) C zd_M_isAsTold_46 (by decide) ?_ ?_
        · refine nk_wk [false, false] ?_
          exact zs_M_isAsTold_b53 C hR hr m3
        · refine nk_wk [false, false] ?_
          exact zs_M_isAsTold_b49 C hR hr m3
  · refine nk_iload_n C zd_M_isAsTold_14 rfl rfl ?_
    refine nk_callSi C [.int a1] zv_M_247 hR (zc_M_isPrice a1 m1) (by omega) rfl rfl (Nat.le_of_ble_eq_true rfl) zd_M_isAsTold_15 (fun r4 m4 => ?_)
    exact nk_zret C hr zd_M_isAsTold_18
theorem zd_M_keeps_0 : decode zb_M_keeps 0 = .ok (.iconst 0, 1) := by decide +kernel
theorem zd_M_keeps_1 : decode zb_M_keeps 1 = .ok (.istore_n 1, 1) := by decide +kernel
theorem zd_M_keeps_2 : decode zb_M_keeps 2 = .ok (.iload_n 1, 1) := by decide +kernel
theorem zd_M_keeps_3 : decode zb_M_keeps 3 = .ok (.bipush 8, 2) := by decide +kernel
theorem zd_M_keeps_5 : decode zb_M_keeps 5 = .ok (.if_icmp .ge 69, 3) := by decide +kernel
theorem zd_M_keeps_8 : decode zb_M_keeps 8 = .ok (.aload_n 0, 1) := by decide +kernel
theorem zd_M_keeps_9 : decode zb_M_keeps 9 = .ok (.getfield 61, 3) := by decide +kernel
theorem zd_M_keeps_12 : decode zb_M_keeps 12 = .ok (.iload_n 1, 1) := by decide +kernel
theorem zd_M_keeps_13 : decode zb_M_keeps 13 = .ok (.aload_n 0, 1) := by decide +kernel
theorem zd_M_keeps_14 : decode zb_M_keeps 14 = .ok (.getfield 34, 3) := by decide +kernel
theorem zd_M_keeps_17 : decode zb_M_keeps 17 = .ok (.iload_n 1, 1) := by decide +kernel
theorem zd_M_keeps_18 : decode zb_M_keeps 18 = .ok (.iaload, 1) := by decide +kernel
theorem zd_M_keeps_19 : decode zb_M_keeps 19 = .ok (.iastore, 1) := by decide +kernel
theorem zd_M_keeps_20 : decode zb_M_keeps 20 = .ok (.aload_n 0, 1) := by decide +kernel
theorem zd_M_keeps_21 : decode zb_M_keeps 21 = .ok (.getfield 64, 3) := by decide +kernel
theorem zd_M_keeps_24 : decode zb_M_keeps 24 = .ok (.iload_n 1, 1) := by decide +kernel
theorem zd_M_keeps_25 : decode zb_M_keeps 25 = .ok (.aload_n 0, 1) := by decide +kernel
theorem zd_M_keeps_26 : decode zb_M_keeps 26 = .ok (.getfield 37, 3) := by decide +kernel
theorem zd_M_keeps_29 : decode zb_M_keeps 29 = .ok (.iload_n 1, 1) := by decide +kernel
theorem zd_M_keeps_30 : decode zb_M_keeps 30 = .ok (.iaload, 1) := by decide +kernel
theorem zd_M_keeps_31 : decode zb_M_keeps 31 = .ok (.iastore, 1) := by decide +kernel
theorem zd_M_keeps_32 : decode zb_M_keeps 32 = .ok (.aload_n 0, 1) := by decide +kernel
theorem zd_M_keeps_33 : decode zb_M_keeps 33 = .ok (.getfield 67, 3) := by decide +kernel
theorem zd_M_keeps_36 : decode zb_M_keeps 36 = .ok (.iload_n 1, 1) := by decide +kernel
theorem zd_M_keeps_37 : decode zb_M_keeps 37 = .ok (.aload_n 0, 1) := by decide +kernel
theorem zd_M_keeps_38 : decode zb_M_keeps 38 = .ok (.getfield 40, 3) := by decide +kernel
theorem zd_M_keeps_41 : decode zb_M_keeps 41 = .ok (.iload_n 1, 1) := by decide +kernel
theorem zd_M_keeps_42 : decode zb_M_keeps 42 = .ok (.iaload, 1) := by decide +kernel
theorem zd_M_keeps_43 : decode zb_M_keeps 43 = .ok (.iastore, 1) := by decide +kernel
theorem zd_M_keeps_44 : decode zb_M_keeps 44 = .ok (.aload_n 0, 1) := by decide +kernel
theorem zd_M_keeps_45 : decode zb_M_keeps 45 = .ok (.getfield 70, 3) := by decide +kernel
theorem zd_M_keeps_48 : decode zb_M_keeps 48 = .ok (.iload_n 1, 1) := by decide +kernel
theorem zd_M_keeps_49 : decode zb_M_keeps 49 = .ok (.aload_n 0, 1) := by decide +kernel
theorem zd_M_keeps_50 : decode zb_M_keeps 50 = .ok (.getfield 43, 3) := by decide +kernel
theorem zd_M_keeps_53 : decode zb_M_keeps 53 = .ok (.iload_n 1, 1) := by decide +kernel
theorem zd_M_keeps_54 : decode zb_M_keeps 54 = .ok (.iaload, 1) := by decide +kernel
theorem zd_M_keeps_55 : decode zb_M_keeps 55 = .ok (.iastore, 1) := by decide +kernel
theorem zd_M_keeps_56 : decode zb_M_keeps 56 = .ok (.aload_n 0, 1) := by decide +kernel
theorem zd_M_keeps_57 : decode zb_M_keeps 57 = .ok (.getfield 73, 3) := by decide +kernel
theorem zd_M_keeps_60 : decode zb_M_keeps 60 = .ok (.iload_n 1, 1) := by decide +kernel
theorem zd_M_keeps_61 : decode zb_M_keeps 61 = .ok (.aload_n 0, 1) := by decide +kernel
theorem zd_M_keeps_62 : decode zb_M_keeps 62 = .ok (.getfield 13, 3) := by decide +kernel
theorem zd_M_keeps_65 : decode zb_M_keeps 65 = .ok (.iload_n 1, 1) := by decide +kernel
theorem zd_M_keeps_66 : decode zb_M_keeps 66 = .ok (.iaload, 1) := by decide +kernel
theorem zd_M_keeps_67 : decode zb_M_keeps 67 = .ok (.iastore, 1) := by decide +kernel
theorem zd_M_keeps_68 : decode zb_M_keeps 68 = .ok (.iinc 1 1, 3) := by decide +kernel
theorem zd_M_keeps_71 : decode zb_M_keeps 71 = .ok (.goto (-69), 3) := by decide +kernel
theorem zd_M_keeps_74 : decode zb_M_keeps 74 = .ok (.return_, 1) := by decide +kernel
def zf_M_keeps_b2  : Nat → Int32 → nk_M → Option (Unit × nk_M)
  | 0, _, _ => none
  | n0 + 1, y1, m0 => (if (8 : Int32) ≤ y1 then some ((), m0) else nk_ald m0 9 8 y1 (fun x1 => nk_ast m0 18 8 y1 x1 (fun m1 => nk_ald m1 10 8 y1 (fun x2 => nk_ast m1 19 8 y1 x2 (fun m2 => nk_ald m2 11 8 y1 (fun x3 => nk_ast m2 20 8 y1 x3 (fun m3 => nk_ald m3 12 8 y1 (fun x4 => nk_ast m3 21 8 y1 x4 (fun m4 => nk_ald m4 2 8 y1 (fun x5 => nk_ast m4 22 8 y1 x5 (fun m5 => (zf_M_keeps_b2 n0 (y1 + 1) m5))))))))))))
set_option maxHeartbeats 4000000 in
set_option maxRecDepth 100000 in
theorem zs_M_keeps_b2 {G : nk_V} {X : nk_X}   (C : nk_C "NeedOnceModel" zb_M_keeps 2 nk_wR G X) (hR : X.2.2.2.1 = nk_rm 1) (hr : X.2.2.2.2.2.2.2.2.1.sig.returnType = none)  : ∀ (n0 : Nat) (y1 : Int32) (m0 : nk_M), nk_Sim nk_wR G X 2 nk_ov 2 [nk_r G 0, .int y1] [] m0 (zf_M_keeps_b2 n0 y1 m0) := by
  intro n0
  induction n0 with
  | zero => intros; exact nk_none
  | succ n0 ih =>
    intro y1 m0
    rw [zf_M_keeps_b2]
    refine nk_iload_n C zd_M_keeps_2 rfl rfl ?_
    refine nk_bipush (v := 8) C zd_M_keeps_3 (by decide) ?_
    refine nk_icmp_ge (tgt := 74) C zd_M_keeps_5 (by decide) ?_ ?_
    · exact nk_vret C hr zd_M_keeps_74
    · refine nk_aload_n C zd_M_keeps_8 rfl rfl ?_
      refine nk_getR C (r := 18) za_M_61 (Nat.le_of_ble_eq_true rfl) rfl rfl zd_M_keeps_9 ?_
      refine nk_iload_n C zd_M_keeps_12 rfl rfl ?_
      refine nk_aload_n C zd_M_keeps_13 rfl rfl ?_
      refine nk_getR C (r := 9) za_M_34 (Nat.le_of_ble_eq_true rfl) rfl rfl zd_M_keeps_14 ?_
      refine nk_iload_n C zd_M_keeps_17 rfl rfl ?_
      refine nk_iald C (Nat.le_of_ble_eq_true rfl) rfl zd_M_keeps_18 (fun x1 => ?_)
      refine nk_iast C (Nat.le_of_ble_eq_true rfl) rfl zd_M_keeps_19 (fun m1 => ?_)
      refine nk_aload_n C zd_M_keeps_20 rfl rfl ?_
      refine nk_getR C (r := 19) za_M_64 (Nat.le_of_ble_eq_true rfl) rfl rfl zd_M_keeps_21 ?_
      refine nk_iload_n C zd_M_keeps_24 rfl rfl ?_
      refine nk_aload_n C zd_M_keeps_25 rfl rfl ?_
      refine nk_getR C (r := 10) za_M_37 (Nat.le_of_ble_eq_true rfl) rfl rfl zd_M_keeps_26 ?_
      refine nk_iload_n C zd_M_keeps_29 rfl rfl ?_
      refine nk_iald C (Nat.le_of_ble_eq_true rfl) rfl zd_M_keeps_30 (fun x2 => ?_)
      refine nk_iast C (Nat.le_of_ble_eq_true rfl) rfl zd_M_keeps_31 (fun m2 => ?_)
      refine nk_aload_n C zd_M_keeps_32 rfl rfl ?_
      refine nk_getR C (r := 20) za_M_67 (Nat.le_of_ble_eq_true rfl) rfl rfl zd_M_keeps_33 ?_
      refine nk_iload_n C zd_M_keeps_36 rfl rfl ?_
      refine nk_aload_n C zd_M_keeps_37 rfl rfl ?_
      refine nk_getR C (r := 11) za_M_40 (Nat.le_of_ble_eq_true rfl) rfl rfl zd_M_keeps_38 ?_
      refine nk_iload_n C zd_M_keeps_41 rfl rfl ?_
      refine nk_iald C (Nat.le_of_ble_eq_true rfl) rfl zd_M_keeps_42 (fun x3 => ?_)
      refine nk_iast C (Nat.le_of_ble_eq_true rfl) rfl zd_M_keeps_43 (fun m3 => ?_)
      refine nk_aload_n C zd_M_keeps_44 rfl rfl ?_
      refine nk_getR C (r := 21) za_M_70 (Nat.le_of_ble_eq_true rfl) rfl rfl zd_M_keeps_45 ?_
      refine nk_iload_n C zd_M_keeps_48 rfl rfl ?_
      refine nk_aload_n C zd_M_keeps_49 rfl rfl ?_
      refine nk_getR C (r := 12) za_M_43 (Nat.le_of_ble_eq_true rfl) rfl rfl zd_M_keeps_50 ?_
      refine nk_iload_n C zd_M_keeps_53 rfl rfl ?_
      refine nk_iald C (Nat.le_of_ble_eq_true rfl) rfl zd_M_keeps_54 (fun x4 => ?_)
      refine nk_iast C (Nat.le_of_ble_eq_true rfl) rfl zd_M_keeps_55 (fun m4 => ?_)
      refine nk_aload_n C zd_M_keeps_56 rfl rfl ?_
      refine nk_getR C (r := 22) za_M_73 (Nat.le_of_ble_eq_true rfl) rfl rfl zd_M_keeps_57 ?_
      refine nk_iload_n C zd_M_keeps_60 rfl rfl ?_
      refine nk_aload_n C zd_M_keeps_61 rfl rfl ?_
      refine nk_getR C (r := 2) za_M_13 (Nat.le_of_ble_eq_true rfl) rfl rfl zd_M_keeps_62 ?_
      refine nk_iload_n C zd_M_keeps_65 rfl rfl ?_
      refine nk_iald C (Nat.le_of_ble_eq_true rfl) rfl zd_M_keeps_66 (fun x5 => ?_)
      refine nk_iast C (Nat.le_of_ble_eq_true rfl) rfl zd_M_keeps_67 (fun m5 => ?_)
      refine nk_iinc (v0 := y1 + 1) C zd_M_keeps_68 rfl (nk_inc _ (by decide)) (Nat.le_of_ble_eq_true rfl) rfl ?_
      refine nk_goto (tgt := 2) C zd_M_keeps_71 (by decide) ?_
      exact ih (y1 + 1) m5
def zf_M_keeps   (m0 : nk_M) : Option (Unit × nk_M) := (zf_M_keeps_b2 nk_fu (0 : Int32) m0)
set_option maxHeartbeats 4000000 in
set_option maxRecDepth 100000 in
theorem zc_M_keeps {l : Launch} {G : nk_V}    (m0 : nk_M) : nk_Ct l nk_wR G 1 zy_M_keeps zb_M_keeps 2 none nk_ov [nk_r G 0] m0 (zf_M_keeps   m0) := by
  refine nk_ent (own := "NeedOnceModel") (lv := [nk_r G 0, .null]) 1 rfl (by decide) (Nat.le_of_ble_eq_true rfl) rfl (fun X hl hR C hr => ?_)
  subst hl
  unfold zf_M_keeps
  refine nk_iconst (v := 0) C zd_M_keeps_0 (by decide) ?_
  refine nk_istore_n C zd_M_keeps_1 rfl (Nat.le_of_ble_eq_true rfl) rfl ?_
  exact zs_M_keeps_b2 C hR hr nk_fu (0 : Int32) m0
theorem zd_M_needsOnly_0 : decode zb_M_needsOnly 0 = .ok (.aload_n 0, 1) := by decide +kernel
theorem zd_M_needsOnly_1 : decode zb_M_needsOnly 1 = .ok (.iload_n 1, 1) := by decide +kernel
theorem zd_M_needsOnly_2 : decode zb_M_needsOnly 2 = .ok (.invokevirtual 240, 3) := by decide +kernel
theorem zd_M_needsOnly_5 : decode zb_M_needsOnly 5 = .ok (.ifCond .eq 5, 3) := by decide +kernel
theorem zd_M_needsOnly_8 : decode zb_M_needsOnly 8 = .ok (.iconst 0, 1) := by decide +kernel
theorem zd_M_needsOnly_9 : decode zb_M_needsOnly 9 = .ok (.ireturn, 1) := by decide +kernel
theorem zd_M_needsOnly_10 : decode zb_M_needsOnly 10 = .ok (.aload_n 0, 1) := by decide +kernel
theorem zd_M_needsOnly_11 : decode zb_M_needsOnly 11 = .ok (.iload_n 1, 1) := by decide +kernel
theorem zd_M_needsOnly_12 : decode zb_M_needsOnly 12 = .ok (.invokevirtual 250, 3) := by decide +kernel
theorem zd_M_needsOnly_15 : decode zb_M_needsOnly 15 = .ok (.istore_n 2, 1) := by decide +kernel
theorem zd_M_needsOnly_16 : decode zb_M_needsOnly 16 = .ok (.aload_n 0, 1) := by decide +kernel
theorem zd_M_needsOnly_17 : decode zb_M_needsOnly 17 = .ok (.dup, 1) := by decide +kernel
theorem zd_M_needsOnly_18 : decode zb_M_needsOnly 18 = .ok (.getfield 273, 3) := by decide +kernel
theorem zd_M_needsOnly_21 : decode zb_M_needsOnly 21 = .ok (.aload_n 0, 1) := by decide +kernel
theorem zd_M_needsOnly_22 : decode zb_M_needsOnly 22 = .ok (.getfield 212, 3) := by decide +kernel
theorem zd_M_needsOnly_25 : decode zb_M_needsOnly 25 = .ok (.iadd, 1) := by decide +kernel
theorem zd_M_needsOnly_26 : decode zb_M_needsOnly 26 = .ok (.putfield 273, 3) := by decide +kernel
theorem zd_M_needsOnly_29 : decode zb_M_needsOnly 29 = .ok (.iload_n 2, 1) := by decide +kernel
theorem zd_M_needsOnly_30 : decode zb_M_needsOnly 30 = .ok (.bipush 100, 2) := by decide +kernel
theorem zd_M_needsOnly_32 : decode zb_M_needsOnly 32 = .ok (.if_icmp .gt 7, 3) := by decide +kernel
theorem zd_M_needsOnly_35 : decode zb_M_needsOnly 35 = .ok (.iconst 1, 1) := by decide +kernel
theorem zd_M_needsOnly_36 : decode zb_M_needsOnly 36 = .ok (.goto 4, 3) := by decide +kernel
theorem zd_M_needsOnly_39 : decode zb_M_needsOnly 39 = .ok (.iconst 0, 1) := by decide +kernel
theorem zd_M_needsOnly_40 : decode zb_M_needsOnly 40 = .ok (.ireturn, 1) := by decide +kernel
def zf_M_needsOnly_b40  (u0 : Int32) (m0 : nk_M) : Option (Int32 × nk_M) := nk_zr u0 m0
set_option maxHeartbeats 4000000 in
set_option maxRecDepth 100000 in
theorem zs_M_needsOnly_b40 {G : nk_V} {X : nk_X}   (C : nk_C "NeedOnceModel" zb_M_needsOnly 3 nk_wR G X) (hR : X.2.2.2.1 = nk_rm 6) (hr : X.2.2.2.2.2.2.2.2.1.sig.returnType = (some .boolean))  : ∀ (u0 : Int32) (m0 : nk_M), nk_Sim nk_wR G X 3 nk_oi 40 [nk_r G 0, .null, .null] [.int u0] m0 (zf_M_needsOnly_b40 u0 m0) := by
  intro u0 m0
  unfold zf_M_needsOnly_b40
  exact nk_zret C hr zd_M_needsOnly_40
def zf_M_needsOnly  (a1 : Int32) (m0 : nk_M) : Option (Int32 × nk_M) := nk_bd (zf_M_noOne a1 m0) (fun r1 m1 => (if r1 = 0 then nk_bd (zf_M_needs a1 m1) (fun r2 m2 => nk_pf m2 0 40 ((m2 0 40) + (m2 0 26)) (fun m3 => (if (100 : Int32) < r2 then (zf_M_needsOnly_b40 (0 : Int32) m3) else (zf_M_needsOnly_b40 (1 : Int32) m3)))) else nk_zr (0 : Int32) m1))
set_option maxHeartbeats 4000000 in
set_option maxRecDepth 100000 in
theorem zc_M_needsOnly {l : Launch} {G : nk_V}   (a1 : Int32) (m0 : nk_M) : nk_Ct l nk_wR G 6 zy_M_needsOnly zb_M_needsOnly 3 (some .boolean) nk_oi [nk_r G 0, .int a1] m0 (zf_M_needsOnly  a1 m0) := by
  refine nk_ent (own := "NeedOnceModel") (lv := [nk_r G 0, .int a1, .null]) 1 rfl (by decide) (Nat.le_of_ble_eq_true rfl) rfl (fun X hl hR C hr => ?_)
  subst hl
  unfold zf_M_needsOnly
  refine nk_aload_n C zd_M_needsOnly_0 rfl rfl ?_
  refine nk_iload_n C zd_M_needsOnly_1 rfl rfl ?_
  refine nk_callVi C [.int a1] zv_M_240 hR (zc_M_noOne a1 m0) (by omega) (Nat.le_of_ble_eq_true rfl) rfl rfl rfl rfl (Nat.le_of_ble_eq_true rfl) zd_M_needsOnly_2 (fun r1 m1 => ?_)
  refine nk_if_eq (tgt := 10) C zd_M_needsOnly_5 (by decide) ?_ ?_
  · refine nk_aload_n C zd_M_needsOnly_10 rfl rfl ?_
    refine nk_iload_n C zd_M_needsOnly_11 rfl rfl ?_
    refine nk_callVi C [.int a1] zv_M_250 hR (zc_M_needs a1 m1) (by omega) (Nat.le_of_ble_eq_true rfl) rfl rfl rfl rfl (Nat.le_of_ble_eq_true rfl) zd_M_needsOnly_12 (fun r2 m2 => ?_)
    refine nk_istore_n C zd_M_needsOnly_15 rfl (Nat.le_of_ble_eq_true rfl) rfl ?_
    refine nk_aload_n C zd_M_needsOnly_16 rfl rfl ?_
    refine nk_dup C zd_M_needsOnly_17 rfl ?_
    refine nk_getI C za_M_273 (Nat.le_of_ble_eq_true rfl) rfl rfl zd_M_needsOnly_18 ?_
    refine nk_aload_n C zd_M_needsOnly_21 rfl rfl ?_
    refine nk_getI C za_M_212 (Nat.le_of_ble_eq_true rfl) rfl rfl zd_M_needsOnly_22 ?_
    refine nk_iadd C zd_M_needsOnly_25 ?_
    refine nk_putI C zp_M_273 (Nat.le_of_ble_eq_true rfl) rfl rfl zd_M_needsOnly_26 (fun m3 => ?_)
    refine nk_iload_n C zd_M_needsOnly_29 rfl rfl ?_
    refine nk_bipush (v := 100) C zd_M_needsOnly_30 (by decide) ?_
    refine nk_icmp_gt (tgt := 39) C zd_M_needsOnly_32 (by decide) ?_ ?_
    · refine nk_iconst (v := 0) C zd_M_needsOnly_39 (by decide) ?_
      refine nk_wk [true, false, false] ?_
      exact zs_M_needsOnly_b40 C hR hr (0 : Int32) m3
    · refine nk_iconst (v := 1) C zd_M_needsOnly_35 (by decide) ?_
      refine nk_goto (tgt := 40) C zd_M_needsOnly_36 (by decide) ?_
      refine nk_wk [true, false, false] ?_
      exact zs_M_needsOnly_b40 C hR hr (1 : Int32) m3
  · refine nk_iconst (v := 0) C zd_M_needsOnly_8 (by decide) ?_
    exact nk_zret C hr zd_M_needsOnly_9
theorem zd_M_doesPair_0 : decode zb_M_doesPair 0 = .ok (.iload_n 2, 1) := by decide +kernel
theorem zd_M_doesPair_1 : decode zb_M_doesPair 1 = .ok (.bipush 8, 2) := by decide +kernel
theorem zd_M_doesPair_3 : decode zb_M_doesPair 3 = .ok (.if_icmp .ge 11, 3) := by decide +kernel
theorem zd_M_doesPair_6 : decode zb_M_doesPair 6 = .ok (.aload_n 0, 1) := by decide +kernel
theorem zd_M_doesPair_7 : decode zb_M_doesPair 7 = .ok (.iload_n 2, 1) := by decide +kernel
theorem zd_M_doesPair_8 : decode zb_M_doesPair 8 = .ok (.invokevirtual 276, 3) := by decide +kernel
theorem zd_M_doesPair_11 : decode zb_M_doesPair 11 = .ok (.goto 62, 3) := by decide +kernel
theorem zd_M_doesPair_14 : decode zb_M_doesPair 14 = .ok (.iload_n 2, 1) := by decide +kernel
theorem zd_M_doesPair_15 : decode zb_M_doesPair 15 = .ok (.bipush 20, 2) := by decide +kernel
theorem zd_M_doesPair_17 : decode zb_M_doesPair 17 = .ok (.if_icmp .ge 23, 3) := by decide +kernel
theorem zd_M_doesPair_20 : decode zb_M_doesPair 20 = .ok (.aload_n 0, 1) := by decide +kernel
theorem zd_M_doesPair_21 : decode zb_M_doesPair 21 = .ok (.iload_n 2, 1) := by decide +kernel
theorem zd_M_doesPair_22 : decode zb_M_doesPair 22 = .ok (.bipush 10, 2) := by decide +kernel
theorem zd_M_doesPair_24 : decode zb_M_doesPair 24 = .ok (.isub, 1) := by decide +kernel
theorem zd_M_doesPair_25 : decode zb_M_doesPair 25 = .ok (.iload_n 1, 1) := by decide +kernel
theorem zd_M_doesPair_26 : decode zb_M_doesPair 26 = .ok (.invokevirtual 279, 3) := by decide +kernel
theorem zd_M_doesPair_29 : decode zb_M_doesPair 29 = .ok (.ifCond .lt 7, 3) := by decide +kernel
theorem zd_M_doesPair_32 : decode zb_M_doesPair 32 = .ok (.iconst 1, 1) := by decide +kernel
theorem zd_M_doesPair_33 : decode zb_M_doesPair 33 = .ok (.goto 40, 3) := by decide +kernel
theorem zd_M_doesPair_36 : decode zb_M_doesPair 36 = .ok (.iconst 0, 1) := by decide +kernel
theorem zd_M_doesPair_37 : decode zb_M_doesPair 37 = .ok (.goto 36, 3) := by decide +kernel
theorem zd_M_doesPair_40 : decode zb_M_doesPair 40 = .ok (.iload_n 2, 1) := by decide +kernel
theorem zd_M_doesPair_41 : decode zb_M_doesPair 41 = .ok (.bipush 20, 2) := by decide +kernel
theorem zd_M_doesPair_43 : decode zb_M_doesPair 43 = .ok (.if_icmp .ne 18, 3) := by decide +kernel
theorem zd_M_doesPair_46 : decode zb_M_doesPair 46 = .ok (.aload_n 0, 1) := by decide +kernel
theorem zd_M_doesPair_47 : decode zb_M_doesPair 47 = .ok (.invokevirtual 282, 3) := by decide +kernel
theorem zd_M_doesPair_50 : decode zb_M_doesPair 50 = .ok (.ifCond .lt 7, 3) := by decide +kernel
theorem zd_M_doesPair_53 : decode zb_M_doesPair 53 = .ok (.iconst 1, 1) := by decide +kernel
theorem zd_M_doesPair_54 : decode zb_M_doesPair 54 = .ok (.goto 19, 3) := by decide +kernel
theorem zd_M_doesPair_57 : decode zb_M_doesPair 57 = .ok (.iconst 0, 1) := by decide +kernel
theorem zd_M_doesPair_58 : decode zb_M_doesPair 58 = .ok (.goto 15, 3) := by decide +kernel
theorem zd_M_doesPair_61 : decode zb_M_doesPair 61 = .ok (.aload_n 0, 1) := by decide +kernel
theorem zd_M_doesPair_62 : decode zb_M_doesPair 62 = .ok (.invokevirtual 285, 3) := by decide +kernel
theorem zd_M_doesPair_65 : decode zb_M_doesPair 65 = .ok (.ifCond .lt 7, 3) := by decide +kernel
theorem zd_M_doesPair_68 : decode zb_M_doesPair 68 = .ok (.iconst 1, 1) := by decide +kernel
theorem zd_M_doesPair_69 : decode zb_M_doesPair 69 = .ok (.goto 4, 3) := by decide +kernel
theorem zd_M_doesPair_72 : decode zb_M_doesPair 72 = .ok (.iconst 0, 1) := by decide +kernel
theorem zd_M_doesPair_73 : decode zb_M_doesPair 73 = .ok (.ireturn, 1) := by decide +kernel
def zf_M_doesPair_b73  (u0 : Int32) (m0 : nk_M) : Option (Int32 × nk_M) := nk_zr u0 m0
set_option maxHeartbeats 4000000 in
set_option maxRecDepth 100000 in
theorem zs_M_doesPair_b73 {G : nk_V} {X : nk_X}   (C : nk_C "NeedOnceModel" zb_M_doesPair 3 nk_wR G X) (hR : X.2.2.2.1 = nk_rm 7) (hr : X.2.2.2.2.2.2.2.2.1.sig.returnType = (some .boolean))  : ∀ (u0 : Int32) (m0 : nk_M), nk_Sim nk_wR G X 3 nk_oi 73 [nk_r G 0, .null, .null] [.int u0] m0 (zf_M_doesPair_b73 u0 m0) := by
  intro u0 m0
  unfold zf_M_doesPair_b73
  exact nk_zret C hr zd_M_doesPair_73
def zf_M_doesPair  (a1 : Int32) (a2 : Int32) (m0 : nk_M) : Option (Int32 × nk_M) := (if (8 : Int32) ≤ a2 then (if (20 : Int32) ≤ a2 then (if a2 = (20 : Int32) then nk_bd (zf_M_shorten m0) (fun r2 m2 => (if r2 < 0 then (zf_M_doesPair_b73 (0 : Int32) m2) else (zf_M_doesPair_b73 (1 : Int32) m2))) else nk_bd (zf_M_sleep m0) (fun r1 m1 => (if r1 < 0 then (zf_M_doesPair_b73 (0 : Int32) m1) else (zf_M_doesPair_b73 (1 : Int32) m1)))) else nk_bd (zf_M_price (a2 - (10 : Int32)) a1 m0) (fun r3 m3 => (if r3 < 0 then (zf_M_doesPair_b73 (0 : Int32) m3) else (zf_M_doesPair_b73 (1 : Int32) m3)))) else nk_bd (zf_M_needsOnly a2 m0) (fun r4 m4 => (zf_M_doesPair_b73 r4 m4)))
set_option maxHeartbeats 4000000 in
set_option maxRecDepth 100000 in
theorem zc_M_doesPair {l : Launch} {G : nk_V}   (a1 : Int32) (a2 : Int32) (m0 : nk_M) : nk_Ct l nk_wR G 7 zy_M_doesPair zb_M_doesPair 3 (some .boolean) nk_oi [nk_r G 0, .int a1, .int a2] m0 (zf_M_doesPair  a1 a2 m0) := by
  refine nk_ent (own := "NeedOnceModel") (lv := [nk_r G 0, .int a1, .int a2]) 0 rfl (by decide) (Nat.le_of_ble_eq_true rfl) rfl (fun X hl hR C hr => ?_)
  subst hl
  unfold zf_M_doesPair
  refine nk_iload_n C zd_M_doesPair_0 rfl rfl ?_
  refine nk_bipush (v := 8) C zd_M_doesPair_1 (by decide) ?_
  refine nk_icmp_ge (tgt := 14) C zd_M_doesPair_3 (by decide) ?_ ?_
  · refine nk_iload_n C zd_M_doesPair_14 rfl rfl ?_
    refine nk_bipush (v := 20) C zd_M_doesPair_15 (by decide) ?_
    refine nk_icmp_ge (tgt := 40) C zd_M_doesPair_17 (by decide) ?_ ?_
    · refine nk_iload_n C zd_M_doesPair_40 rfl rfl ?_
      refine nk_bipush (v := 20) C zd_M_doesPair_41 (by decide) ?_
      refine nk_icmp_ne (tgt := 61) C zd_M_doesPair_43 (by decide) ?_ ?_
      · refine nk_aload_n C zd_M_doesPair_61 rfl rfl ?_
        refine nk_callVi C [] zv_M_285 hR (zc_M_sleep m0) (by omega) (Nat.le_of_ble_eq_true rfl) rfl rfl rfl rfl (Nat.le_of_ble_eq_true rfl) zd_M_doesPair_62 (fun r1 m1 => ?_)
        refine nk_if_lt (tgt := 72) C zd_M_doesPair_65 (by decide) ?_ ?_
        · refine nk_iconst (v := 0) C zd_M_doesPair_72 (by decide) ?_
          refine nk_wk [true, false, false] ?_
          exact zs_M_doesPair_b73 C hR hr (0 : Int32) m1
        · refine nk_iconst (v := 1) C zd_M_doesPair_68 (by decide) ?_
          refine nk_goto (tgt := 73) C zd_M_doesPair_69 (by decide) ?_
          refine nk_wk [true, false, false] ?_
          exact zs_M_doesPair_b73 C hR hr (1 : Int32) m1
      · refine nk_aload_n C zd_M_doesPair_46 rfl rfl ?_
        refine nk_callVi C [] zv_M_282 hR (zc_M_shorten m0) (by omega) (Nat.le_of_ble_eq_true rfl) rfl rfl rfl rfl (Nat.le_of_ble_eq_true rfl) zd_M_doesPair_47 (fun r2 m2 => ?_)
        refine nk_if_lt (tgt := 57) C zd_M_doesPair_50 (by decide) ?_ ?_
        · refine nk_iconst (v := 0) C zd_M_doesPair_57 (by decide) ?_
          refine nk_goto (tgt := 73) C zd_M_doesPair_58 (by decide) ?_
          refine nk_wk [true, false, false] ?_
          exact zs_M_doesPair_b73 C hR hr (0 : Int32) m2
        · refine nk_iconst (v := 1) C zd_M_doesPair_53 (by decide) ?_
          refine nk_goto (tgt := 73) C zd_M_doesPair_54 (by decide) ?_
          refine nk_wk [true, false, false] ?_
          exact zs_M_doesPair_b73 C hR hr (1 : Int32) m2
    · refine nk_aload_n C zd_M_doesPair_20 rfl rfl ?_
      refine nk_iload_n C zd_M_doesPair_21 rfl rfl ?_
      refine nk_bipush (v := 10) C zd_M_doesPair_22 (by decide) ?_
      refine nk_isub C zd_M_doesPair_24 ?_
      refine nk_iload_n C zd_M_doesPair_25 rfl rfl ?_
      refine nk_callVi C [.int (a2 - (10 : Int32)), .int a1] zv_M_279 hR (zc_M_price (a2 - (10 : Int32)) a1 m0) (by omega) (Nat.le_of_ble_eq_true rfl) rfl rfl rfl rfl (Nat.le_of_ble_eq_true rfl) zd_M_doesPair_26 (fun r3 m3 => ?_)
      refine nk_if_lt (tgt := 36) C zd_M_doesPair_29 (by decide) ?_ ?_
      · refine nk_iconst (v := 0) C zd_M_doesPair_36 (by decide) ?_
        refine nk_goto (tgt := 73) C zd_M_doesPair_37 (by decide) ?_
        refine nk_wk [true, false, false] ?_
        exact zs_M_doesPair_b73 C hR hr (0 : Int32) m3
      · refine nk_iconst (v := 1) C zd_M_doesPair_32 (by decide) ?_
        refine nk_goto (tgt := 73) C zd_M_doesPair_33 (by decide) ?_
        refine nk_wk [true, false, false] ?_
        exact zs_M_doesPair_b73 C hR hr (1 : Int32) m3
  · refine nk_aload_n C zd_M_doesPair_6 rfl rfl ?_
    refine nk_iload_n C zd_M_doesPair_7 rfl rfl ?_
    refine nk_callVi C [.int a2] zv_M_276 hR (zc_M_needsOnly a2 m0) (by omega) (Nat.le_of_ble_eq_true rfl) rfl rfl rfl rfl (Nat.le_of_ble_eq_true rfl) zd_M_doesPair_8 (fun r4 m4 => ?_)
    refine nk_goto (tgt := 73) C zd_M_doesPair_11 (by decide) ?_
    refine nk_wk [true, false, false] ?_
    exact zs_M_doesPair_b73 C hR hr r4 m4
theorem zd_M_links_0 : decode zb_M_links 0 = .ok (.iconst 0, 1) := by decide +kernel
theorem zd_M_links_1 : decode zb_M_links 1 = .ok (.istore_n 1, 1) := by decide +kernel
theorem zd_M_links_2 : decode zb_M_links 2 = .ok (.iconst 0, 1) := by decide +kernel
theorem zd_M_links_3 : decode zb_M_links 3 = .ok (.istore_n 2, 1) := by decide +kernel
theorem zd_M_links_4 : decode zb_M_links 4 = .ok (.iload_n 2, 1) := by decide +kernel
theorem zd_M_links_5 : decode zb_M_links 5 = .ok (.aload_n 0, 1) := by decide +kernel
theorem zd_M_links_6 : decode zb_M_links 6 = .ok (.getfield 104, 3) := by decide +kernel
theorem zd_M_links_9 : decode zb_M_links 9 = .ok (.if_icmp .ge 26, 3) := by decide +kernel
theorem zd_M_links_12 : decode zb_M_links 12 = .ok (.iload_n 1, 1) := by decide +kernel
theorem zd_M_links_13 : decode zb_M_links 13 = .ok (.aload_n 0, 1) := by decide +kernel
theorem zd_M_links_14 : decode zb_M_links 14 = .ok (.getfield 43, 3) := by decide +kernel
theorem zd_M_links_17 : decode zb_M_links 17 = .ok (.iload_n 2, 1) := by decide +kernel
theorem zd_M_links_18 : decode zb_M_links 18 = .ok (.iaload, 1) := by decide +kernel
theorem zd_M_links_19 : decode zb_M_links 19 = .ok (.ifCond .lt 7, 3) := by decide +kernel
theorem zd_M_links_22 : decode zb_M_links 22 = .ok (.iconst 1, 1) := by decide +kernel
theorem zd_M_links_23 : decode zb_M_links 23 = .ok (.goto 4, 3) := by decide +kernel
theorem zd_M_links_26 : decode zb_M_links 26 = .ok (.iconst 0, 1) := by decide +kernel
theorem zd_M_links_27 : decode zb_M_links 27 = .ok (.iadd, 1) := by decide +kernel
theorem zd_M_links_28 : decode zb_M_links 28 = .ok (.istore_n 1, 1) := by decide +kernel
theorem zd_M_links_29 : decode zb_M_links 29 = .ok (.iinc 2 1, 3) := by decide +kernel
theorem zd_M_links_32 : decode zb_M_links 32 = .ok (.goto (-28), 3) := by decide +kernel
theorem zd_M_links_35 : decode zb_M_links 35 = .ok (.iload_n 1, 1) := by decide +kernel
theorem zd_M_links_36 : decode zb_M_links 36 = .ok (.ireturn, 1) := by decide +kernel
def zf_M_links_b27 (rc4 : Int32 → Int32 → nk_M → Option (Int32 × nk_M)) (y2 : Int32) (u0 : Int32) (u1 : Int32) (m0 : nk_M) : Option (Int32 × nk_M) := nk_nm (u0 + u1) (fun x1 => (rc4 x1 (y2 + 1) m0))
set_option maxHeartbeats 4000000 in
set_option maxRecDepth 100000 in
theorem zs_M_links_b27 {G : nk_V} {X : nk_X}   (C : nk_C "NeedOnceModel" zb_M_links 3 nk_wR G X) (hR : X.2.2.2.1 = nk_rm 1) (hr : X.2.2.2.2.2.2.2.2.1.sig.returnType = (some .int)) (rc4 : Int32 → Int32 → nk_M → Option (Int32 × nk_M)) (hr4 : ∀ (y1 : Int32) (y2 : Int32) (m0 : nk_M), nk_Sim nk_wR G X 3 nk_oi 4 [nk_r G 0, .int y1, .int y2] [] m0 (rc4 y1 y2 m0)) : ∀ (y2 : Int32) (u0 : Int32) (u1 : Int32) (m0 : nk_M), nk_Sim nk_wR G X 3 nk_oi 27 [nk_r G 0, .null, .int y2] [.int u1, .int u0] m0 (zf_M_links_b27 rc4 y2 u0 u1 m0) := by
  intro y2 u0 u1 m0
  unfold zf_M_links_b27
  refine nk_iadd C zd_M_links_27 ?_
  refine nk_named (fun x1 => ?_)
  refine nk_istore_n C zd_M_links_28 rfl (Nat.le_of_ble_eq_true rfl) rfl ?_
  refine nk_iinc (v0 := y2 + 1) C zd_M_links_29 rfl (nk_inc _ (by decide)) (Nat.le_of_ble_eq_true rfl) rfl ?_
  refine nk_goto (tgt := 4) C zd_M_links_32 (by decide) ?_
  exact hr4 x1 (y2 + 1) m0
def zf_M_links_b4  : Nat → Int32 → Int32 → nk_M → Option (Int32 × nk_M)
  | 0, _, _, _ => none
  | n0 + 1, y1, y2, m0 => (if (m0 0 1) ≤ y2 then some (y1, m0) else nk_ald m0 12 8 y2 (fun x1 => (if x1 < 0 then (zf_M_links_b27 (zf_M_links_b4 n0) y2 y1 (0 : Int32) m0) else (zf_M_links_b27 (zf_M_links_b4 n0) y2 y1 (1 : Int32) m0))))
set_option maxHeartbeats 4000000 in
set_option maxRecDepth 100000 in
theorem zs_M_links_b4 {G : nk_V} {X : nk_X}   (C : nk_C "NeedOnceModel" zb_M_links 3 nk_wR G X) (hR : X.2.2.2.1 = nk_rm 1) (hr : X.2.2.2.2.2.2.2.2.1.sig.returnType = (some .int))  : ∀ (n0 : Nat) (y1 : Int32) (y2 : Int32) (m0 : nk_M), nk_Sim nk_wR G X 3 nk_oi 4 [nk_r G 0, .int y1, .int y2] [] m0 (zf_M_links_b4 n0 y1 y2 m0) := by
  intro n0
  induction n0 with
  | zero => intros; exact nk_none
  | succ n0 ih =>
    intro y1 y2 m0
    rw [zf_M_links_b4]
    refine nk_iload_n C zd_M_links_4 rfl rfl ?_
    refine nk_aload_n C zd_M_links_5 rfl rfl ?_
    refine nk_getI C za_M_104 (Nat.le_of_ble_eq_true rfl) rfl rfl zd_M_links_6 ?_
    refine nk_icmp_ge (tgt := 35) C zd_M_links_9 (by decide) ?_ ?_
    · refine nk_iload_n C zd_M_links_35 rfl rfl ?_
      exact nk_iret C hr zd_M_links_36
    · refine nk_iload_n C zd_M_links_12 rfl rfl ?_
      refine nk_aload_n C zd_M_links_13 rfl rfl ?_
      refine nk_getR C (r := 12) za_M_43 (Nat.le_of_ble_eq_true rfl) rfl rfl zd_M_links_14 ?_
      refine nk_iload_n C zd_M_links_17 rfl rfl ?_
      refine nk_iald C (Nat.le_of_ble_eq_true rfl) rfl zd_M_links_18 (fun x1 => ?_)
      refine nk_if_lt (tgt := 26) C zd_M_links_19 (by decide) ?_ ?_
      · refine nk_iconst (v := 0) C zd_M_links_26 (by decide) ?_
        refine nk_wk [true, false, true] ?_
        exact zs_M_links_b27 C hR hr (zf_M_links_b4 n0) ih y2 y1 (0 : Int32) m0
      · refine nk_iconst (v := 1) C zd_M_links_22 (by decide) ?_
        refine nk_goto (tgt := 27) C zd_M_links_23 (by decide) ?_
        refine nk_wk [true, false, true] ?_
        exact zs_M_links_b27 C hR hr (zf_M_links_b4 n0) ih y2 y1 (1 : Int32) m0
def zf_M_links   (m0 : nk_M) : Option (Int32 × nk_M) := (zf_M_links_b4 nk_fu (0 : Int32) (0 : Int32) m0)
set_option maxHeartbeats 4000000 in
set_option maxRecDepth 100000 in
theorem zc_M_links {l : Launch} {G : nk_V}    (m0 : nk_M) : nk_Ct l nk_wR G 1 zy_M_links zb_M_links 3 (some .int) nk_oi [nk_r G 0] m0 (zf_M_links   m0) := by
  refine nk_ent (own := "NeedOnceModel") (lv := [nk_r G 0, .null, .null]) 2 rfl (by decide) (Nat.le_of_ble_eq_true rfl) rfl (fun X hl hR C hr => ?_)
  subst hl
  unfold zf_M_links
  refine nk_iconst (v := 0) C zd_M_links_0 (by decide) ?_
  refine nk_istore_n C zd_M_links_1 rfl (Nat.le_of_ble_eq_true rfl) rfl ?_
  refine nk_iconst (v := 0) C zd_M_links_2 (by decide) ?_
  refine nk_istore_n C zd_M_links_3 rfl (Nat.le_of_ble_eq_true rfl) rfl ?_
  exact zs_M_links_b4 C hR hr nk_fu (0 : Int32) (0 : Int32) m0
theorem zd_M_dayOf_0 : decode zb_M_dayOf 0 = .ok (.bipush (-9), 2) := by decide +kernel
theorem zd_M_dayOf_2 : decode zb_M_dayOf 2 = .ok (.istore 4, 2) := by decide +kernel
theorem zd_M_dayOf_4 : decode zb_M_dayOf 4 = .ok (.aload_n 0, 1) := by decide +kernel
theorem zd_M_dayOf_5 : decode zb_M_dayOf 5 = .ok (.aload_n 0, 1) := by decide +kernel
theorem zd_M_dayOf_6 : decode zb_M_dayOf 6 = .ok (.getfield 169, 3) := by decide +kernel
theorem zd_M_dayOf_9 : decode zb_M_dayOf 9 = .ok (.putfield 273, 3) := by decide +kernel
theorem zd_M_dayOf_12 : decode zb_M_dayOf 12 = .ok (.iconst 0, 1) := by decide +kernel
theorem zd_M_dayOf_13 : decode zb_M_dayOf 13 = .ok (.istore 5, 2) := by decide +kernel
theorem zd_M_dayOf_15 : decode zb_M_dayOf 15 = .ok (.iload 5, 2) := by decide +kernel
theorem zd_M_dayOf_17 : decode zb_M_dayOf 17 = .ok (.iload_n 2, 1) := by decide +kernel
theorem zd_M_dayOf_18 : decode zb_M_dayOf 18 = .ok (.if_icmp .ge 54, 3) := by decide +kernel
theorem zd_M_dayOf_21 : decode zb_M_dayOf 21 = .ok (.iload 4, 2) := by decide +kernel
theorem zd_M_dayOf_23 : decode zb_M_dayOf 23 = .ok (.ifCond .ge 49, 3) := by decide +kernel
theorem zd_M_dayOf_26 : decode zb_M_dayOf 26 = .ok (.aload_n 0, 1) := by decide +kernel
theorem zd_M_dayOf_27 : decode zb_M_dayOf 27 = .ok (.aload_n 0, 1) := by decide +kernel
theorem zd_M_dayOf_28 : decode zb_M_dayOf 28 = .ok (.getfield 88, 3) := by decide +kernel
theorem zd_M_dayOf_31 : decode zb_M_dayOf 31 = .ok (.iload_n 1, 1) := by decide +kernel
theorem zd_M_dayOf_32 : decode zb_M_dayOf 32 = .ok (.iconst 2, 1) := by decide +kernel
theorem zd_M_dayOf_33 : decode zb_M_dayOf 33 = .ok (.iload 5, 2) := by decide +kernel
theorem zd_M_dayOf_35 : decode zb_M_dayOf 35 = .ok (.imul, 1) := by decide +kernel
theorem zd_M_dayOf_36 : decode zb_M_dayOf 36 = .ok (.iadd, 1) := by decide +kernel
theorem zd_M_dayOf_37 : decode zb_M_dayOf 37 = .ok (.iaload, 1) := by decide +kernel
theorem zd_M_dayOf_38 : decode zb_M_dayOf 38 = .ok (.aload_n 0, 1) := by decide +kernel
theorem zd_M_dayOf_39 : decode zb_M_dayOf 39 = .ok (.getfield 88, 3) := by decide +kernel
theorem zd_M_dayOf_42 : decode zb_M_dayOf 42 = .ok (.iload_n 1, 1) := by decide +kernel
theorem zd_M_dayOf_43 : decode zb_M_dayOf 43 = .ok (.iconst 2, 1) := by decide +kernel
theorem zd_M_dayOf_44 : decode zb_M_dayOf 44 = .ok (.iload 5, 2) := by decide +kernel
theorem zd_M_dayOf_46 : decode zb_M_dayOf 46 = .ok (.imul, 1) := by decide +kernel
theorem zd_M_dayOf_47 : decode zb_M_dayOf 47 = .ok (.iadd, 1) := by decide +kernel
theorem zd_M_dayOf_48 : decode zb_M_dayOf 48 = .ok (.iconst 1, 1) := by decide +kernel
theorem zd_M_dayOf_49 : decode zb_M_dayOf 49 = .ok (.iadd, 1) := by decide +kernel
theorem zd_M_dayOf_50 : decode zb_M_dayOf 50 = .ok (.iaload, 1) := by decide +kernel
theorem zd_M_dayOf_51 : decode zb_M_dayOf 51 = .ok (.invokevirtual 288, 3) := by decide +kernel
theorem zd_M_dayOf_54 : decode zb_M_dayOf 54 = .ok (.ifCond .eq 8, 3) := by decide +kernel
theorem zd_M_dayOf_57 : decode zb_M_dayOf 57 = .ok (.bipush (-9), 2) := by decide +kernel
theorem zd_M_dayOf_59 : decode zb_M_dayOf 59 = .ok (.goto 5, 3) := by decide +kernel
theorem zd_M_dayOf_62 : decode zb_M_dayOf 62 = .ok (.iload 5, 2) := by decide +kernel
theorem zd_M_dayOf_64 : decode zb_M_dayOf 64 = .ok (.istore 4, 2) := by decide +kernel
theorem zd_M_dayOf_66 : decode zb_M_dayOf 66 = .ok (.iinc 5 1, 3) := by decide +kernel
theorem zd_M_dayOf_69 : decode zb_M_dayOf 69 = .ok (.goto (-54), 3) := by decide +kernel
theorem zd_M_dayOf_72 : decode zb_M_dayOf 72 = .ok (.iload_n 3, 1) := by decide +kernel
theorem zd_M_dayOf_73 : decode zb_M_dayOf 73 = .ok (.iconst 1, 1) := by decide +kernel
theorem zd_M_dayOf_74 : decode zb_M_dayOf 74 = .ok (.if_icmp .ne 6, 3) := by decide +kernel
theorem zd_M_dayOf_77 : decode zb_M_dayOf 77 = .ok (.iload 4, 2) := by decide +kernel
theorem zd_M_dayOf_79 : decode zb_M_dayOf 79 = .ok (.ireturn, 1) := by decide +kernel
theorem zd_M_dayOf_80 : decode zb_M_dayOf 80 = .ok (.iload 4, 2) := by decide +kernel
theorem zd_M_dayOf_82 : decode zb_M_dayOf 82 = .ok (.ifCond .lt 9, 3) := by decide +kernel
theorem zd_M_dayOf_85 : decode zb_M_dayOf 85 = .ok (.bipush (-100), 2) := by decide +kernel
theorem zd_M_dayOf_87 : decode zb_M_dayOf 87 = .ok (.iload 4, 2) := by decide +kernel
theorem zd_M_dayOf_89 : decode zb_M_dayOf 89 = .ok (.isub, 1) := by decide +kernel
theorem zd_M_dayOf_90 : decode zb_M_dayOf 90 = .ok (.ireturn, 1) := by decide +kernel
theorem zd_M_dayOf_91 : decode zb_M_dayOf 91 = .ok (.iload_n 3, 1) := by decide +kernel
theorem zd_M_dayOf_92 : decode zb_M_dayOf 92 = .ok (.bipush 10, 2) := by decide +kernel
theorem zd_M_dayOf_94 : decode zb_M_dayOf 94 = .ok (.if_icmp .lt 29, 3) := by decide +kernel
theorem zd_M_dayOf_97 : decode zb_M_dayOf 97 = .ok (.aload_n 0, 1) := by decide +kernel
theorem zd_M_dayOf_98 : decode zb_M_dayOf 98 = .ok (.iload_n 3, 1) := by decide +kernel
theorem zd_M_dayOf_99 : decode zb_M_dayOf 99 = .ok (.bipush 10, 2) := by decide +kernel
theorem zd_M_dayOf_101 : decode zb_M_dayOf 101 = .ok (.isub, 1) := by decide +kernel
theorem zd_M_dayOf_102 : decode zb_M_dayOf 102 = .ok (.invokevirtual 240, 3) := by decide +kernel
theorem zd_M_dayOf_105 : decode zb_M_dayOf 105 = .ok (.ifCond .eq 8, 3) := by decide +kernel
theorem zd_M_dayOf_108 : decode zb_M_dayOf 108 = .ok (.bipush (-9), 2) := by decide +kernel
theorem zd_M_dayOf_110 : decode zb_M_dayOf 110 = .ok (.goto 12, 3) := by decide +kernel
theorem zd_M_dayOf_113 : decode zb_M_dayOf 113 = .ok (.aload_n 0, 1) := by decide +kernel
theorem zd_M_dayOf_114 : decode zb_M_dayOf 114 = .ok (.getfield 34, 3) := by decide +kernel
theorem zd_M_dayOf_117 : decode zb_M_dayOf 117 = .ok (.iload_n 3, 1) := by decide +kernel
theorem zd_M_dayOf_118 : decode zb_M_dayOf 118 = .ok (.bipush 10, 2) := by decide +kernel
theorem zd_M_dayOf_120 : decode zb_M_dayOf 120 = .ok (.isub, 1) := by decide +kernel
theorem zd_M_dayOf_121 : decode zb_M_dayOf 121 = .ok (.iaload, 1) := by decide +kernel
theorem zd_M_dayOf_122 : decode zb_M_dayOf 122 = .ok (.ireturn, 1) := by decide +kernel
theorem zd_M_dayOf_123 : decode zb_M_dayOf 123 = .ok (.iload_n 3, 1) := by decide +kernel
theorem zd_M_dayOf_124 : decode zb_M_dayOf 124 = .ok (.ifCond .ne 10, 3) := by decide +kernel
theorem zd_M_dayOf_127 : decode zb_M_dayOf 127 = .ok (.aload_n 0, 1) := by decide +kernel
theorem zd_M_dayOf_128 : decode zb_M_dayOf 128 = .ok (.getfield 273, 3) := by decide +kernel
theorem zd_M_dayOf_131 : decode zb_M_dayOf 131 = .ok (.goto 39, 3) := by decide +kernel
theorem zd_M_dayOf_134 : decode zb_M_dayOf 134 = .ok (.iload_n 3, 1) := by decide +kernel
theorem zd_M_dayOf_135 : decode zb_M_dayOf 135 = .ok (.iconst 2, 1) := by decide +kernel
theorem zd_M_dayOf_136 : decode zb_M_dayOf 136 = .ok (.if_icmp .ne 10, 3) := by decide +kernel
theorem zd_M_dayOf_139 : decode zb_M_dayOf 139 = .ok (.aload_n 0, 1) := by decide +kernel
theorem zd_M_dayOf_140 : decode zb_M_dayOf 140 = .ok (.invokevirtual 255, 3) := by decide +kernel
theorem zd_M_dayOf_143 : decode zb_M_dayOf 143 = .ok (.goto 27, 3) := by decide +kernel
theorem zd_M_dayOf_146 : decode zb_M_dayOf 146 = .ok (.iload_n 3, 1) := by decide +kernel
theorem zd_M_dayOf_147 : decode zb_M_dayOf 147 = .ok (.iconst 3, 1) := by decide +kernel
theorem zd_M_dayOf_148 : decode zb_M_dayOf 148 = .ok (.if_icmp .ne 10, 3) := by decide +kernel
theorem zd_M_dayOf_151 : decode zb_M_dayOf 151 = .ok (.aload_n 0, 1) := by decide +kernel
theorem zd_M_dayOf_152 : decode zb_M_dayOf 152 = .ok (.invokevirtual 291, 3) := by decide +kernel
theorem zd_M_dayOf_155 : decode zb_M_dayOf 155 = .ok (.goto 15, 3) := by decide +kernel
theorem zd_M_dayOf_158 : decode zb_M_dayOf 158 = .ok (.aload_n 0, 1) := by decide +kernel
theorem zd_M_dayOf_159 : decode zb_M_dayOf 159 = .ok (.iconst 1, 1) := by decide +kernel
theorem zd_M_dayOf_160 : decode zb_M_dayOf 160 = .ok (.aload_n 0, 1) := by decide +kernel
theorem zd_M_dayOf_161 : decode zb_M_dayOf 161 = .ok (.getfield 104, 3) := by decide +kernel
theorem zd_M_dayOf_164 : decode zb_M_dayOf 164 = .ok (.iconst 1, 1) := by decide +kernel
theorem zd_M_dayOf_165 : decode zb_M_dayOf 165 = .ok (.isub, 1) := by decide +kernel
theorem zd_M_dayOf_166 : decode zb_M_dayOf 166 = .ok (.ishl, 1) := by decide +kernel
theorem zd_M_dayOf_167 : decode zb_M_dayOf 167 = .ok (.invokevirtual 266, 3) := by decide +kernel
theorem zd_M_dayOf_170 : decode zb_M_dayOf 170 = .ok (.ireturn, 1) := by decide +kernel
def zf_M_dayOf_b170  (u0 : Int32) (m0 : nk_M) : Option (Int32 × nk_M) := some (u0, m0)
set_option maxHeartbeats 4000000 in
set_option maxRecDepth 100000 in
theorem zs_M_dayOf_b170 {G : nk_V} {X : nk_X}   (C : nk_C "NeedOnceModel" zb_M_dayOf 6 nk_wR G X) (hR : X.2.2.2.1 = nk_rm 8) (hr : X.2.2.2.2.2.2.2.2.1.sig.returnType = (some .int))  : ∀ (u0 : Int32) (m0 : nk_M), nk_Sim nk_wR G X 6 nk_oi 170 [nk_r G 0, .null, .null, .null, .null, .null] [.int u0] m0 (zf_M_dayOf_b170 u0 m0) := by
  intro u0 m0
  unfold zf_M_dayOf_b170
  exact nk_iret C hr zd_M_dayOf_170
def zf_M_dayOf_b122  (u0 : Int32) (m0 : nk_M) : Option (Int32 × nk_M) := some (u0, m0)
set_option maxHeartbeats 4000000 in
set_option maxRecDepth 100000 in
theorem zs_M_dayOf_b122 {G : nk_V} {X : nk_X}   (C : nk_C "NeedOnceModel" zb_M_dayOf 6 nk_wR G X) (hR : X.2.2.2.1 = nk_rm 8) (hr : X.2.2.2.2.2.2.2.2.1.sig.returnType = (some .int))  : ∀ (u0 : Int32) (m0 : nk_M), nk_Sim nk_wR G X 6 nk_oi 122 [nk_r G 0, .null, .null, .null, .null, .null] [.int u0] m0 (zf_M_dayOf_b122 u0 m0) := by
  intro u0 m0
  unfold zf_M_dayOf_b122
  exact nk_iret C hr zd_M_dayOf_122
def zf_M_dayOf_b72  (y3 : Int32) (y4 : Int32) (m0 : nk_M) : Option (Int32 × nk_M) := (if y3 = (1 : Int32) then some (y4, m0) else (if y4 < 0 then (if y3 < (10 : Int32) then (if y3 = 0 then (zf_M_dayOf_b170 (m0 0 40) m0) else (if y3 = (2 : Int32) then nk_bd (zf_M_awakeOnes m0) (fun r3 m3 => (zf_M_dayOf_b170 r3 m3)) else (if y3 = (3 : Int32) then nk_bd (zf_M_links m0) (fun r2 m2 => (zf_M_dayOf_b170 r2 m2)) else nk_bd (zf_M_heldBy ((1 : Int32) <<< (((m0 0 1) - (1 : Int32)) &&& 31)) m0) (fun r1 m1 => (zf_M_dayOf_b170 r1 m1))))) else nk_bd (zf_M_noOne (y3 - (10 : Int32)) m0) (fun r4 m4 => (if r4 = 0 then nk_ald m4 9 8 (y3 - (10 : Int32)) (fun x5 => (zf_M_dayOf_b122 x5 m4)) else (zf_M_dayOf_b122 (-9 : Int32) m4)))) else some ((-100 : Int32) - y4, m0)))
set_option maxHeartbeats 4000000 in
set_option maxRecDepth 100000 in
theorem zs_M_dayOf_b72 {G : nk_V} {X : nk_X}   (C : nk_C "NeedOnceModel" zb_M_dayOf 6 nk_wR G X) (hR : X.2.2.2.1 = nk_rm 8) (hr : X.2.2.2.2.2.2.2.2.1.sig.returnType = (some .int))  : ∀ (y3 : Int32) (y4 : Int32) (m0 : nk_M), nk_Sim nk_wR G X 6 nk_oi 72 [nk_r G 0, .null, .null, .int y3, .int y4, .null] [] m0 (zf_M_dayOf_b72 y3 y4 m0) := by
  intro y3 y4 m0
  unfold zf_M_dayOf_b72
  refine nk_iload_n C zd_M_dayOf_72 rfl rfl ?_
  refine nk_iconst (v := 1) C zd_M_dayOf_73 (by decide) ?_
  refine nk_icmp_ne (tgt := 80) C zd_M_dayOf_74 (by decide) ?_ ?_
  · refine nk_iload C zd_M_dayOf_80 rfl ?_
    refine nk_if_lt (tgt := 91) C zd_M_dayOf_82 (by decide) ?_ ?_
    · refine nk_iload_n C zd_M_dayOf_91 rfl rfl ?_
      refine nk_bipush (v := 10) C zd_M_dayOf_92 (by decide) ?_
      refine nk_icmp_lt (tgt := 123) C zd_M_dayOf_94 (by decide) ?_ ?_
      · refine nk_iload_n C zd_M_dayOf_123 rfl rfl ?_
        refine nk_if_ne (tgt := 134) C zd_M_dayOf_124 (by decide) ?_ ?_
        · refine nk_iload_n C zd_M_dayOf_134 rfl rfl ?_
          refine nk_iconst (v := 2) C zd_M_dayOf_135 (by decide) ?_
          refine nk_icmp_ne (tgt := 146) C zd_M_dayOf_136 (by decide) ?_ ?_
          · refine nk_iload_n C zd_M_dayOf_146 rfl rfl ?_
            refine nk_iconst (v := 3) C zd_M_dayOf_147 (by decide) ?_
            refine nk_icmp_ne (tgt := 158) C zd_M_dayOf_148 (by decide) ?_ ?_
            · refine nk_aload_n C zd_M_dayOf_158 rfl rfl ?_
              refine nk_iconst (v := 1) C zd_M_dayOf_159 (by decide) ?_
              refine nk_aload_n C zd_M_dayOf_160 rfl rfl ?_
              refine nk_getI C za_M_104 (Nat.le_of_ble_eq_true rfl) rfl rfl zd_M_dayOf_161 ?_
              refine nk_iconst (v := 1) C zd_M_dayOf_164 (by decide) ?_
              refine nk_isub C zd_M_dayOf_165 ?_
              refine nk_ishl C zd_M_dayOf_166 ?_
              refine nk_callVi C [.int ((1 : Int32) <<< (((m0 0 1) - (1 : Int32)) &&& 31))] zv_M_266 hR (zc_M_heldBy ((1 : Int32) <<< (((m0 0 1) - (1 : Int32)) &&& 31)) m0) (by omega) (Nat.le_of_ble_eq_true rfl) rfl rfl rfl rfl (Nat.le_of_ble_eq_true rfl) zd_M_dayOf_167 (fun r1 m1 => ?_)
              refine nk_wk [true, false, false, false, false, false] ?_
              exact zs_M_dayOf_b170 C hR hr r1 m1
            · refine nk_aload_n C zd_M_dayOf_151 rfl rfl ?_
              refine nk_callVi C [] zv_M_291 hR (zc_M_links m0) (by omega) (Nat.le_of_ble_eq_true rfl) rfl rfl rfl rfl (Nat.le_of_ble_eq_true rfl) zd_M_dayOf_152 (fun r2 m2 => ?_)
              refine nk_goto (tgt := 170) C zd_M_dayOf_155 (by decide) ?_
              refine nk_wk [true, false, false, false, false, false] ?_
              exact zs_M_dayOf_b170 C hR hr r2 m2
          · refine nk_aload_n C zd_M_dayOf_139 rfl rfl ?_
            refine nk_callVi C [] zv_M_255 hR (zc_M_awakeOnes m0) (by omega) (Nat.le_of_ble_eq_true rfl) rfl rfl rfl rfl (Nat.le_of_ble_eq_true rfl) zd_M_dayOf_140 (fun r3 m3 => ?_)
            refine nk_goto (tgt := 170) C zd_M_dayOf_143 (by decide) ?_
            refine nk_wk [true, false, false, false, false, false] ?_
            exact zs_M_dayOf_b170 C hR hr r3 m3
        · refine nk_aload_n C zd_M_dayOf_127 rfl rfl ?_
          refine nk_getI C za_M_273 (Nat.le_of_ble_eq_true rfl) rfl rfl zd_M_dayOf_128 ?_
          refine nk_goto (tgt := 170) C zd_M_dayOf_131 (by decide) ?_
          refine nk_wk [true, false, false, false, false, false] ?_
          exact zs_M_dayOf_b170 C hR hr (m0 0 40) m0
      · refine nk_aload_n C zd_M_dayOf_97 rfl rfl ?_
        refine nk_iload_n C zd_M_dayOf_98 rfl rfl ?_
        refine nk_bipush (v := 10) C zd_M_dayOf_99 (by decide) ?_
        refine nk_isub C zd_M_dayOf_101 ?_
        refine nk_callVi C [.int (y3 - (10 : Int32))] zv_M_240 hR (zc_M_noOne (y3 - (10 : Int32)) m0) (by omega) (Nat.le_of_ble_eq_true rfl) rfl rfl rfl rfl (Nat.le_of_ble_eq_true rfl) zd_M_dayOf_102 (fun r4 m4 => ?_)
        refine nk_if_eq (tgt := 113) C zd_M_dayOf_105 (by decide) ?_ ?_
        · refine nk_aload_n C zd_M_dayOf_113 rfl rfl ?_
          refine nk_getR C (r := 9) za_M_34 (Nat.le_of_ble_eq_true rfl) rfl rfl zd_M_dayOf_114 ?_
          refine nk_iload_n C zd_M_dayOf_117 rfl rfl ?_
          refine nk_bipush (v := 10) C zd_M_dayOf_118 (by decide) ?_
          refine nk_isub C zd_M_dayOf_120 ?_
          refine nk_iald C (Nat.le_of_ble_eq_true rfl) rfl zd_M_dayOf_121 (fun x5 => ?_)
          refine nk_wk [true, false, false, false, false, false] ?_
          exact zs_M_dayOf_b122 C hR hr x5 m4
        · refine nk_bipush (v := -9) C zd_M_dayOf_108 (by decide) ?_
          refine nk_goto (tgt := 122) C zd_M_dayOf_110 (by decide) ?_
          refine nk_wk [true, false, false, false, false, false] ?_
          exact zs_M_dayOf_b122 C hR hr (-9 : Int32) m4
    · refine nk_bipush (v := -100) C zd_M_dayOf_85 (by decide) ?_
      refine nk_iload C zd_M_dayOf_87 rfl ?_
      refine nk_isub C zd_M_dayOf_89 ?_
      exact nk_iret C hr zd_M_dayOf_90
  · refine nk_iload C zd_M_dayOf_77 rfl ?_
    exact nk_iret C hr zd_M_dayOf_79
def zf_M_dayOf_b64 (rc15 : Int32 → Int32 → Int32 → Int32 → Int32 → nk_M → Option (Int32 × nk_M)) (y1 : Int32) (y2 : Int32) (y3 : Int32) (y5 : Int32) (u0 : Int32) (m0 : nk_M) : Option (Int32 × nk_M) := (rc15 y1 y2 y3 u0 (y5 + 1) m0)
set_option maxHeartbeats 4000000 in
set_option maxRecDepth 100000 in
theorem zs_M_dayOf_b64 {G : nk_V} {X : nk_X}   (C : nk_C "NeedOnceModel" zb_M_dayOf 6 nk_wR G X) (hR : X.2.2.2.1 = nk_rm 8) (hr : X.2.2.2.2.2.2.2.2.1.sig.returnType = (some .int)) (rc15 : Int32 → Int32 → Int32 → Int32 → Int32 → nk_M → Option (Int32 × nk_M)) (hr15 : ∀ (y1 : Int32) (y2 : Int32) (y3 : Int32) (y4 : Int32) (y5 : Int32) (m0 : nk_M), nk_Sim nk_wR G X 6 nk_oi 15 [nk_r G 0, .int y1, .int y2, .int y3, .int y4, .int y5] [] m0 (rc15 y1 y2 y3 y4 y5 m0)) : ∀ (y1 : Int32) (y2 : Int32) (y3 : Int32) (y5 : Int32) (u0 : Int32) (m0 : nk_M), nk_Sim nk_wR G X 6 nk_oi 64 [nk_r G 0, .int y1, .int y2, .int y3, .null, .int y5] [.int u0] m0 (zf_M_dayOf_b64 rc15 y1 y2 y3 y5 u0 m0) := by
  intro y1 y2 y3 y5 u0 m0
  unfold zf_M_dayOf_b64
  refine nk_istore C zd_M_dayOf_64 (Nat.le_of_ble_eq_true rfl) rfl ?_
  refine nk_iinc (v0 := y5 + 1) C zd_M_dayOf_66 rfl (nk_inc _ (by decide)) (Nat.le_of_ble_eq_true rfl) rfl ?_
  refine nk_goto (tgt := 15) C zd_M_dayOf_69 (by decide) ?_
  exact hr15 y1 y2 y3 u0 (y5 + 1) m0
def zf_M_dayOf_b15  : Nat → Int32 → Int32 → Int32 → Int32 → Int32 → nk_M → Option (Int32 × nk_M)
  | 0, _, _, _, _, _, _ => none
  | n0 + 1, y1, y2, y3, y4, y5, m0 => (if y2 ≤ y5 then (zf_M_dayOf_b72 y3 y4 m0) else (if 0 ≤ y4 then (zf_M_dayOf_b72 y3 y4 m0) else nk_ald m0 27 240 (y1 + ((2 : Int32) * y5)) (fun x1 => nk_ald m0 27 240 ((y1 + ((2 : Int32) * y5)) + (1 : Int32)) (fun x2 => nk_bd (zf_M_doesPair x1 x2 m0) (fun r3 m1 => (if r3 = 0 then (zf_M_dayOf_b64 (zf_M_dayOf_b15 n0) y1 y2 y3 y5 y5 m1) else (zf_M_dayOf_b64 (zf_M_dayOf_b15 n0) y1 y2 y3 y5 (-9 : Int32) m1)))))))
set_option maxHeartbeats 4000000 in
set_option maxRecDepth 100000 in
theorem zs_M_dayOf_b15 {G : nk_V} {X : nk_X}   (C : nk_C "NeedOnceModel" zb_M_dayOf 6 nk_wR G X) (hR : X.2.2.2.1 = nk_rm 8) (hr : X.2.2.2.2.2.2.2.2.1.sig.returnType = (some .int))  : ∀ (n0 : Nat) (y1 : Int32) (y2 : Int32) (y3 : Int32) (y4 : Int32) (y5 : Int32) (m0 : nk_M), nk_Sim nk_wR G X 6 nk_oi 15 [nk_r G 0, .int y1, .int y2, .int y3, .int y4, .int y5] [] m0 (zf_M_dayOf_b15 n0 y1 y2 y3 y4 y5 m0) := by
  intro n0
  induction n0 with
  | zero => intros; exact nk_none
  | succ n0 ih =>
    intro y1 y2 y3 y4 y5 m0
    rw [zf_M_dayOf_b15]
    refine nk_iload C zd_M_dayOf_15 rfl ?_
    refine nk_iload_n C zd_M_dayOf_17 rfl rfl ?_
    refine nk_icmp_ge (tgt := 72) C zd_M_dayOf_18 (by decide) ?_ ?_
    · refine nk_wk [true, false, false, true, true, false] ?_
      exact zs_M_dayOf_b72 C hR hr y3 y4 m0
    · refine nk_iload C zd_M_dayOf_21 rfl ?_
      refine nk_if_ge (tgt := 72) C zd_M_dayOf_23 (by decide) ?_ ?_
      · refine nk_wk [true, false, false, true, true, false] ?_
        exact zs_M_dayOf_b72 C hR hr y3 y4 m0
      · refine nk_aload_n C zd_M_dayOf_26 rfl rfl ?_
        refine nk_aload_n C zd_M_dayOf_27 rfl rfl ?_
        refine nk_getR C (r := 27) za_M_88 (Nat.le_of_ble_eq_true rfl) rfl rfl zd_M_dayOf_28 ?_
        refine nk_iload_n C zd_M_dayOf_31 rfl rfl ?_
        refine nk_iconst (v := 2) C zd_M_dayOf_32 (by decide) ?_
        refine nk_iload C zd_M_dayOf_33 rfl ?_
        refine nk_imul C zd_M_dayOf_35 ?_
        refine nk_iadd C zd_M_dayOf_36 ?_
        refine nk_iald C (Nat.le_of_ble_eq_true rfl) rfl zd_M_dayOf_37 (fun x1 => ?_)
        refine nk_aload_n C zd_M_dayOf_38 rfl rfl ?_
        refine nk_getR C (r := 27) za_M_88 (Nat.le_of_ble_eq_true rfl) rfl rfl zd_M_dayOf_39 ?_
        refine nk_iload_n C zd_M_dayOf_42 rfl rfl ?_
        refine nk_iconst (v := 2) C zd_M_dayOf_43 (by decide) ?_
        refine nk_iload C zd_M_dayOf_44 rfl ?_
        refine nk_imul C zd_M_dayOf_46 ?_
        refine nk_iadd C zd_M_dayOf_47 ?_
        refine nk_iconst (v := 1) C zd_M_dayOf_48 (by decide) ?_
        refine nk_iadd C zd_M_dayOf_49 ?_
        refine nk_iald C (Nat.le_of_ble_eq_true rfl) rfl zd_M_dayOf_50 (fun x2 => ?_)
        refine nk_callVi C [.int x1, .int x2] zv_M_288 hR (zc_M_doesPair x1 x2 m0) (by omega) (Nat.le_of_ble_eq_true rfl) rfl rfl rfl rfl (Nat.le_of_ble_eq_true rfl) zd_M_dayOf_51 (fun r3 m1 => ?_)
        refine nk_if_eq (tgt := 62) C zd_M_dayOf_54 (by decide) ?_ ?_
        · refine nk_iload C zd_M_dayOf_62 rfl ?_
          refine nk_wk [true, true, true, true, false, true] ?_
          exact zs_M_dayOf_b64 C hR hr (zf_M_dayOf_b15 n0) ih y1 y2 y3 y5 y5 m1
        · refine nk_bipush (v := -9) C zd_M_dayOf_57 (by decide) ?_
          refine nk_goto (tgt := 64) C zd_M_dayOf_59 (by decide) ?_
          refine nk_wk [true, true, true, true, false, true] ?_
          exact zs_M_dayOf_b64 C hR hr (zf_M_dayOf_b15 n0) ih y1 y2 y3 y5 (-9 : Int32) m1
def zf_M_dayOf  (a1 : Int32) (a2 : Int32) (a3 : Int32) (m0 : nk_M) : Option (Int32 × nk_M) := nk_pf m0 0 40 (m0 0 16) (fun m1 => (zf_M_dayOf_b15 nk_fu a1 a2 a3 (-9 : Int32) (0 : Int32) m1))
set_option maxHeartbeats 4000000 in
set_option maxRecDepth 100000 in
theorem zc_M_dayOf {l : Launch} {G : nk_V}   (a1 : Int32) (a2 : Int32) (a3 : Int32) (m0 : nk_M) : nk_Ct l nk_wR G 8 zy_M_dayOf zb_M_dayOf 6 (some .int) nk_oi [nk_r G 0, .int a1, .int a2, .int a3] m0 (zf_M_dayOf  a1 a2 a3 m0) := by
  refine nk_ent (own := "NeedOnceModel") (lv := [nk_r G 0, .int a1, .int a2, .int a3, .null, .null]) 2 rfl (by decide) (Nat.le_of_ble_eq_true rfl) rfl (fun X hl hR C hr => ?_)
  subst hl
  unfold zf_M_dayOf
  refine nk_bipush (v := -9) C zd_M_dayOf_0 (by decide) ?_
  refine nk_istore C zd_M_dayOf_2 (Nat.le_of_ble_eq_true rfl) rfl ?_
  refine nk_aload_n C zd_M_dayOf_4 rfl rfl ?_
  refine nk_aload_n C zd_M_dayOf_5 rfl rfl ?_
  refine nk_getI C za_M_169 (Nat.le_of_ble_eq_true rfl) rfl rfl zd_M_dayOf_6 ?_
  refine nk_putI C zp_M_273 (Nat.le_of_ble_eq_true rfl) rfl rfl zd_M_dayOf_9 (fun m1 => ?_)
  refine nk_iconst (v := 0) C zd_M_dayOf_12 (by decide) ?_
  refine nk_istore C zd_M_dayOf_13 (Nat.le_of_ble_eq_true rfl) rfl ?_
  exact zs_M_dayOf_b15 C hR hr nk_fu a1 a2 a3 (-9 : Int32) (0 : Int32) m1
